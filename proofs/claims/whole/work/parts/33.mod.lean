section MOD2
variable {l : Launch} {n : Nat} {ad : Nat → Nat} {cA : Nat → ClassId} {D : va_G} {z : Zw}
def enc (x : Nat) : Nat := if x < 12 then x else if x = 12 then 100 else if x = 13 then 101 else 102
theorem bS_s (q : Nat → Bool) (k : Nat) : bS q (k + 1) = if q k = true then bS q k ||| 2 ^ k else bS q k := rfl
/-- a stack of bits -/
def stN : Nat → (Nat → Bool) → Nat
  | 0, _ => 0
  | d + 1, f => 2 * stN d f + (f d).toNat
theorem stN_lt : ∀ d f, stN d f < 2 ^ d
  | 0, f => by show 0 < 1; decide
  | d + 1, f => by
    have ih := stN_lt d f
    have h2 : (f d).toNat < 2 := by cases f d <;> decide
    unfold stN
    rw [Nat.pow_succ]
    omega
theorem stN_cong : ∀ d f g, (∀ j, j < d → f j = g j) → stN d f = stN d g
  | 0, f, g, _ => rfl
  | d + 1, f, g, h => by
    unfold stN
    rw [stN_cong d f g (fun j hj => h j (by omega)), h d (by omega)]
theorem stN_pop {d : Nat} {f : Nat → Bool} (h : 1 ≤ d) : decide (stN d f % 2 = 1) = f (d - 1) ∧ stN d f / 2 = stN (d - 1) f := by
  obtain ⟨k, rfl⟩ : ∃ k, d = k + 1 := ⟨d - 1, by omega⟩
  show decide ((2 * stN k f + (f k).toNat) % 2 = 1) = f k ∧ (2 * stN k f + (f k).toNat) / 2 = stN k f
  cases f k
  · rw [Bool.toNat_false]
    exact ⟨decide_eq_false (by omega), by omega⟩
  · rw [Bool.toNat_true]
    exact ⟨decide_eq_true (by omega), by omega⟩
theorem stN_lay {d : Nat} {f : Nat → Bool} {b : Bool} : 2 * stN d f + b.toNat = stN (d + 1) (fun j => if j = d then b else f j) := by
  show _ = 2 * stN d _ + (if d = d then b else f d).toNat
  rw [if_pos rfl]
  congr 2
  exact stN_cong d _ _ (fun j hj => (if_neg (by omega)).symm)
/-- only the stack of bits changes -/
def skF (I I' : MI) : Prop := (∀ k, k ≠ 117 → I' k = I k) ∧ ∀ i, i ≠ 39 → I' 117 i = I 117 i
theorem skF.rf (I : MI) : skF I I := ⟨fun _ _ => rfl, fun _ _ => rfl⟩
theorem skF.up {I I1 : MI} (h : skF I I1) (v : Int32) : skF I (up2 I1 117 39 v) := ⟨fun k hk => by rw [up2_ne hk]; exact h.1 k hk, fun i hi => by rw [up2_off hi]; exact h.2 i hi⟩
theorem skF.trans {I I1 I2 : MI} (h1 : skF I I1) (h2 : skF I1 I2) : skF I I2 := ⟨fun k hk => (h2.1 k hk).trans (h1.1 k hk), fun k hk => (h2.2 k hk).trans (h1.2 k hk)⟩
/-- the model's code of a claim -/
def MCd (I : MI) (c : Nat) (C : List Nat) : Prop := I 121 c = nI C.length ∧ (∀ k, k < C.length → I 120 (120 * c + k) = nI (enc (C.getD k 0))) ∧ cdOK C
theorem MCd.of {I I' : MI} {c : Nat} {C : List Nat} (h : MCd I c C) (h1 : I' 120 = I 120) (h2 : I' 121 = I 121) : MCd I' c C := by
  unfold MCd
  rw [h1, h2]
  exact h
/-- the model's papers of slot y -/
def MPap (I : MI) (y np : Nat) (dy : Nat → Nat) (lt : Nat → Bool) (ac : Nat → Nat → Nat) : Prop := np ≤ 10 ∧ I 122 y = nI np ∧ ∀ p, p < np → I 123 (10 * y + p) = nI (dy p) ∧ dy p < 1000 ∧ I 124 (10 * y + p) = b32 (lt p) ∧ ∀ f, f < 12 → I 125 (120 * y + (12 * p + f)) = nI (ac p f) ∧ ac p f ≤ 6
theorem z_add (a p : Nat) : a * 0 + p = p := by omega
/-- a set within another -/
def sub (s w : Nat) : Bool := decide (s &&& w = s)
theorem sub_anN {s w : Nat} : sub s w = decide (anN s w = 0) := by
  unfold sub
  exact decide_eq_decide.mpr anN_0.symm
/-- what is so, if some admitted ones were denied -/
def sdB (φ : FS) (sh dn : Bool) : Bool := if decide (φ 0 ≠ nI 0 ∧ (φ 0 ≠ nI 2 ∨ dn = true)) = true ∧ sh = false then decide (φ 0 ≠ nI 0 ∧ φ 1 = nI 0) else decide (φ 0 ≠ nI 0 ∧ φ 1 = nI 1)
def soD (Φ : Nat → FS) (sh dn : Nat) : Nat := bS (fun f => sdB (Φ f) (sh.testBit f) (dn.testBit f)) 12
set_option maxHeartbeats 1000000 in
set_option maxRecDepth 100000 in
theorem c_X10_hear (hn : 148 ≤ n) (I : MI) (J : MJ) (p_ : Nat) (hp : p_ < 10) (lb : Bool) (a_ : Nat → Nat) (ha : ∀ f, f < 12 → I 125 (12 * p_ + f) = nI (a_ f) ∧ a_ f ≤ 6) (Φ : Nat → FS) (hM : FcM I 134 Φ) (hok : fsA Φ) : Cv l n ad cA D z 2 yX10_hear cX10_hear 5 I J [.ref (ad 117), .int (nI p_), .int (b32 lb)] (fun I' J' => FcM I' 134 (fun f => admF p_ (hrF lb (a_ f) p_ (Φ f))) ∧ I' 140 p_ = nI (bS (fun f => adB p_ (hrF lb (a_ f) p_ (Φ f))) 12) ∧ (∀ q, q ≠ p_ → I' 140 q = I 140 q) ∧ mH I I' ∧ J' = J) := by
  refine Cv.of (by decide) (Nat.le_of_ble_eq_true rfl) ?_
  intro p e s m args below meth c A C hin Z Q hret
  refine r_aload_n C 0 (dk oX10_hear 0 rfl) rfl ?_
  refine r_getR C (dk oX10_hear 1 rfl) fl_X10_77 rfl (km hn rfl) ?_
  refine r_iload_n C 1 (dk oX10_hear 2 rfl) rfl ?_
  refine r_iconst C (dk oX10_hear 3 rfl) (v := nI 0) (by decide) ?_
  refine r_iast C _ (dk oX10_hear 4 rfl) rfl (km hn rfl) rfl (by omega) (by decide) ?_
  refine r_iconst C (dk oX10_hear 5 rfl) (v := nI 0) (by decide) ?_
  refine r_istore_n (lo' := [(3, _), (0, _), (1, _), (2, _)]) C (dk oX10_hear 6 rfl) rfl (by decide) rfl ?_
  have L9 : ∀ (d_ : Nat) (f : Nat) (I1 : MI), 12 - f < d_ → f ≤ 12 → (∀ g, g < 12 → ∀ i, i < 5 → I1 (134 + 1 + i) g = if g < f then (admF p_ (hrF lb (a_ g) p_ (Φ g))) i else Φ g i) → I1 140 p_ = nI (bS (fun f => adB p_ (hrF lb (a_ f) p_ (Φ f))) f) → (∀ q, q ≠ p_ → I1 140 q = I 140 q) → mH I I1 → V p l e (rmL 2) s m args below meth c Q D A 5 0 0 n ad (mE cA ad I1 J) 9 [(0, .ref (ad 117)), (1, .int (nI p_)), (2, .int (b32 lb)), (3, .int (nI f))] [] := by
    intro d_
    induction d_ with
    | zero => intros; exact absurd (by assumption) (Nat.not_lt_zero _)
    | succ d_ ih => 
      intro f I1 hd_ hf hF hS hS2 hO
      refine r_iload_n C 3 (dk oX10_hear 7 rfl) rfl ?_
      refine r_bipush C (dk oX10_hear 8 rfl) (v := nI 12) (by decide) ?_
      refine r_icmp_ge (tgt := 116) C (dk oX10_hear 9 rfl) (by decide) (fun hb12 => ?_) (fun hb12 => ?_)
      · simp (disch := omega) only [nI_leI, nI_ltI, nI_eq, nI_eq0] at hb12
        refine hret (dk oX10_hear 74 rfl) ?_
        exact ⟨fun g hg i hi => by rw [hF g hg i hi, if_pos (by omega)], by rw [hS, show f = 12 by omega], hS2, hO, rfl⟩
      · simp (disch := omega) only [nI_leI, nI_ltI, nI_eq, nI_eq0] at hb12
        refine r_iload_n C 2 (dk oX10_hear 10 rfl) rfl ?_
        refine r_if_eq (tgt := 23) C (dk oX10_hear 11 rfl) (by decide) (fun hb16 => ?_) (fun hb16 => ?_)
        · rw [b32_0] at hb16
          have hz : a_ f = 0 ∨ lb = false := Or.inr hb16
          refine r_aload_n C 0 (dk oX10_hear 14 rfl) rfl ?_
          refine r_getR C (dk oX10_hear 15 rfl) fl_X10_32 rfl (km hn rfl) ?_
          refine r_bipush C (dk oX10_hear 16 rfl) (v := nI 12) (by decide) ?_
          refine r_iload_n C 1 (dk oX10_hear 17 rfl) rfl ?_
          refine r_imul C (dk oX10_hear 18 rfl) ?_
          rw [pk_mul]
          refine r_iload_n C 3 (dk oX10_hear 19 rfl) rfl ?_
          refine r_iadd C (dk oX10_hear 20 rfl) ?_
          rw [nI_add]
          refine r_iald C _ (dk oX10_hear 21 rfl) rfl (km hn rfl) rfl (by omega) (by decide) ?_
          have haf := ha f (by omega)
          rw [show I1 125 = I 125 from hO 125 (by decide), haf.1]
          have ha6 := haf.2
          refine r_istore (lo' := [(4, _), (0, _), (1, _), (2, _), (3, _)]) C (dk oX10_hear 22 rfl) (by decide) rfl ?_
          refine r_iload C 0 (dk oX10_hear 23 rfl) rfl ?_
          refine r_if_le (tgt := 62) C (dk oX10_hear 24 rfl) (by decide) (fun hb38 => ?_) (fun hb38 => ?_)
          · have hnz : ¬ (lb = false ∧ a_ f ≠ 0 ∧ alw (a_ f) p_ (Φ f) = true) := by
              intro q
              first
                | (rw [hb16] at q; exact absurd q.1 (by decide))
                | (have hb38b := hb38
                   rw [show (0 : Int32) = nI 0 from rfl] at hb38b
                   simp (disch := omega) only [nI_leI, nI_ltI, nI_eq, nI_eq0] at hb38b
                   exact q.2.1 (by omega))
            obtain ⟨I2, hI2⟩ : ∃ X, X = I1 := ⟨I1, rfl⟩
            have hcr : ∀ i, i < 5 → I1 (134 + 1 + i) f = Φ f i := fun i hi => by rw [hF f (by omega) i hi, if_neg (by omega)]
            have hA : ∀ g, g < 12 → ∀ i, i < 5 → I2 (134 + 1 + i) g = if g = f then (hrF lb (a_ f) p_ (Φ f)) i else I1 (134 + 1 + i) g := fun g hg i hi => by
              rw [hI2]
              by_cases e : g = f
              · subst e
                rw [if_pos rfl, hcr i hi, show hrF lb (a_ g) p_ (Φ g) = Φ g from if_neg hnz]
              · rw [if_neg e]
            have hO2 : fcO I1 I2 134 := by rw [hI2]; exact fcO.rf _ _
            rw [← hI2]
            clear hI2
            refine r_aload_n C 1 (dk oX10_hear 38 rfl) rfl ?_
            refine r_getR C (dk oX10_hear 39 rfl) fl_X10_62 rfl (km hn rfl) ?_
            refine r_iload_n C 4 (dk oX10_hear 40 rfl) rfl ?_
            refine r_iald C _ (dk oX10_hear 41 rfl) rfl (km hn rfl) rfl (by omega) (by decide) ?_
            have hfo : fsOK (hrF lb (a_ f) p_ (Φ f)) := fsOK_hr (hok f (by omega)) (ha f (by omega)).2
            rw [show I2 135 f = (hrF lb (a_ f) p_ (Φ f)) 0 from by rw [show (135 : Nat) = 134 + 1 + 0 from rfl, hA f (by omega) 0 (by decide), if_pos rfl]]
            refine r_iconst C (dk oX10_hear 42 rfl) (v := nI 1) (by decide) ?_
            refine r_icmp_ne (tgt := 110) C (dk oX10_hear 43 rfl) (by decide) (fun hb69 => ?_) (fun hb69 => ?_)
            · have hs81 : ¬ adB p_ (hrF lb (a_ f) p_ (Φ f)) = true := by
                rw [adB_o hfo]
                intro q
                exact hb69 (of_decide_eq_true q).1
              refine r_iinc (lo' := [(3, _), (4, _), (0, _), (1, _), (2, _)]) C 4 (dk oX10_hear 72 rfl) rfl (by first | exact nI_inc _ | rfl) (by decide) rfl ?_
              refine r_goto (tgt := 9) C (dk oX10_hear 73 rfl) (by decide) ?_
              refine V.sub [2, 3, 4, 0] rfl ?_
              first
                | (have hih := ih (f + 1) I2 (by omega) (by omega) (fun g hg i hi => by
                     rw [hA g hg i hi]
                     by_cases e : g = f
                     · subst e
                       rw [if_pos rfl, if_pos (by omega), show admF p_ (hrF lb (a_ g) p_ (Φ g)) = _ from if_neg hs81]
                     · rw [if_neg e, hF g hg i hi]
                       by_cases e2 : g < f
                       · rw [if_pos e2, if_pos (by omega)]
                       · rw [if_neg e2, if_neg (by omega)]) (by rw [hO2 140 (by decide), hS, bS_s, if_neg hs81]) (fun q hq => by rw [hO2 140 (by decide)]; exact hS2 q hq) (fun k hk => by rw [hO2 k (by omega)]; exact hO k hk)
                   exact hih)
                | (have hih := ih (f + 1) (up2 (up2 (up2 I2 135 f (nI 2)) 139 f (nI p_)) 140 p_ (nI (bS (fun f => adB p_ (hrF lb (a_ f) p_ (Φ f))) f ||| 2 ^ f))) (by omega) (by omega) (fun g hg i hi => by
                     rw [up2_ne (by omega)]
                     by_cases e : g = f
                     · subst e
                       rw [if_pos (by omega), show admF p_ (hrF lb (a_ g) p_ (Φ g)) = _ from if_pos hs81]
                       rcases (by omega : i = 0 ∨ i = 4 ∨ (i ≠ 0 ∧ i ≠ 4)) with rfl | rfl | ⟨i0, i4⟩
                       · rw [up2_ne (by decide), up2_at]; rfl
                       · rw [up2_at]; rfl
                       · rw [up2_ne (by omega), up2_ne (by omega), hA g hg i hi, if_pos rfl]
                         unfold ans
                         rw [if_neg i0, if_neg i4]
                     · rw [up2_ap, up2_ap, if_neg e, if_neg e, ite_self, ite_self, hA g hg i hi, if_neg e, hF g hg i hi]
                       by_cases e2 : g < f
                       · rw [if_pos e2, if_pos (by omega)]
                       · rw [if_neg e2, if_neg (by omega)]) (by rw [up2_at, bS_s, if_pos hs81]) (fun q hq => by rw [up2_off hq, up2_ne (by decide), up2_ne (by decide), hO2 140 (by decide)]; exact hS2 q hq) (fun k hk => by rw [up2_ne (by omega), up2_ne (by omega), up2_ne (by omega), hO2 k (by omega)]; exact hO k hk)
                   exact hih)
            · refine r_aload_n C 1 (dk oX10_hear 44 rfl) rfl ?_
              refine r_getR C (dk oX10_hear 45 rfl) fl_X10_68 rfl (km hn rfl) ?_
              refine r_iload_n C 4 (dk oX10_hear 46 rfl) rfl ?_
              refine r_iald C _ (dk oX10_hear 47 rfl) rfl (km hn rfl) rfl (by omega) (by decide) ?_
              rw [show I2 137 f = (hrF lb (a_ f) p_ (Φ f)) 2 from by rw [show (137 : Nat) = 134 + 1 + 2 from rfl, hA f (by omega) 2 (by decide), if_pos rfl]]
              refine r_iload_n C 2 (dk oX10_hear 48 rfl) rfl ?_
              refine r_iconst C (dk oX10_hear 49 rfl) (v := nI 2) (by decide) ?_
              refine r_irem C (dk oX10_hear 50 rfl) (by decide) ?_
              rw [mod2 (by omega)]
              refine r_icmp_eq (tgt := 110) C (dk oX10_hear 51 rfl) (by decide) (fun hb81 => ?_) (fun hb81 => ?_)
              · have hs81 : ¬ adB p_ (hrF lb (a_ f) p_ (Φ f)) = true := by
                  rw [adB_o hfo]
                  intro q
                  exact (of_decide_eq_true q).2 hb81
                refine r_iinc (lo' := [(3, _), (4, _), (0, _), (1, _), (2, _)]) C 4 (dk oX10_hear 72 rfl) rfl (by first | exact nI_inc _ | rfl) (by decide) rfl ?_
                refine r_goto (tgt := 9) C (dk oX10_hear 73 rfl) (by decide) ?_
                refine V.sub [2, 3, 4, 0] rfl ?_
                first
                  | (have hih := ih (f + 1) I2 (by omega) (by omega) (fun g hg i hi => by
                       rw [hA g hg i hi]
                       by_cases e : g = f
                       · subst e
                         rw [if_pos rfl, if_pos (by omega), show admF p_ (hrF lb (a_ g) p_ (Φ g)) = _ from if_neg hs81]
                       · rw [if_neg e, hF g hg i hi]
                         by_cases e2 : g < f
                         · rw [if_pos e2, if_pos (by omega)]
                         · rw [if_neg e2, if_neg (by omega)]) (by rw [hO2 140 (by decide), hS, bS_s, if_neg hs81]) (fun q hq => by rw [hO2 140 (by decide)]; exact hS2 q hq) (fun k hk => by rw [hO2 k (by omega)]; exact hO k hk)
                     exact hih)
                  | (have hih := ih (f + 1) (up2 (up2 (up2 I2 135 f (nI 2)) 139 f (nI p_)) 140 p_ (nI (bS (fun f => adB p_ (hrF lb (a_ f) p_ (Φ f))) f ||| 2 ^ f))) (by omega) (by omega) (fun g hg i hi => by
                       rw [up2_ne (by omega)]
                       by_cases e : g = f
                       · subst e
                         rw [if_pos (by omega), show admF p_ (hrF lb (a_ g) p_ (Φ g)) = _ from if_pos hs81]
                         rcases (by omega : i = 0 ∨ i = 4 ∨ (i ≠ 0 ∧ i ≠ 4)) with rfl | rfl | ⟨i0, i4⟩
                         · rw [up2_ne (by decide), up2_at]; rfl
                         · rw [up2_at]; rfl
                         · rw [up2_ne (by omega), up2_ne (by omega), hA g hg i hi, if_pos rfl]
                           unfold ans
                           rw [if_neg i0, if_neg i4]
                       · rw [up2_ap, up2_ap, if_neg e, if_neg e, ite_self, ite_self, hA g hg i hi, if_neg e, hF g hg i hi]
                         by_cases e2 : g < f
                         · rw [if_pos e2, if_pos (by omega)]
                         · rw [if_neg e2, if_neg (by omega)]) (by rw [up2_at, bS_s, if_pos hs81]) (fun q hq => by rw [up2_off hq, up2_ne (by decide), up2_ne (by decide), hO2 140 (by decide)]; exact hS2 q hq) (fun k hk => by rw [up2_ne (by omega), up2_ne (by omega), up2_ne (by omega), hO2 k (by omega)]; exact hO k hk)
                     exact hih)
              · have hs81 : adB p_ (hrF lb (a_ f) p_ (Φ f)) = true := by
                  rw [adB_o hfo]
                  exact decide_eq_true ⟨hb69, hb81⟩
                refine r_aload_n C 1 (dk oX10_hear 52 rfl) rfl ?_
                refine r_getR C (dk oX10_hear 53 rfl) fl_X10_62 rfl (km hn rfl) ?_
                refine r_iload_n C 4 (dk oX10_hear 54 rfl) rfl ?_
                refine r_iconst C (dk oX10_hear 55 rfl) (v := nI 2) (by decide) ?_
                refine r_iast C _ (dk oX10_hear 56 rfl) rfl (km hn rfl) rfl (by omega) (by decide) ?_
                refine r_aload_n C 1 (dk oX10_hear 57 rfl) rfl ?_
                refine r_getR C (dk oX10_hear 58 rfl) fl_X10_74 rfl (km hn rfl) ?_
                refine r_iload_n C 4 (dk oX10_hear 59 rfl) rfl ?_
                refine r_iload_n C 2 (dk oX10_hear 60 rfl) rfl ?_
                refine r_iast C _ (dk oX10_hear 61 rfl) rfl (km hn rfl) rfl (by omega) (by decide) ?_
                refine r_aload_n C 1 (dk oX10_hear 62 rfl) rfl ?_
                refine r_getR C (dk oX10_hear 63 rfl) fl_X10_77 rfl (km hn rfl) ?_
                refine r_iload_n C 2 (dk oX10_hear 64 rfl) rfl ?_
                refine r_dup2 C (dk oX10_hear 65 rfl) rfl rfl ?_
                refine r_iald C _ (dk oX10_hear 66 rfl) rfl (km hn rfl) rfl (by omega) (by decide) ?_
                rw [up2_ne (by decide), up2_ne (by decide), hO2 140 (by decide), hS]
                refine r_iconst C (dk oX10_hear 67 rfl) (v := nI 1) (by decide) ?_
                refine r_iload_n C 4 (dk oX10_hear 68 rfl) rfl ?_
                refine r_ishl C (dk oX10_hear 69 rfl) ?_
                refine r_ior C (dk oX10_hear 70 rfl) ?_
                rw [or_bit (by omega)]
                refine r_iast C _ (dk oX10_hear 71 rfl) rfl (km hn rfl) rfl (by omega) (by decide) ?_
                refine r_iinc (lo' := [(3, _), (4, _), (0, _), (1, _), (2, _)]) C 4 (dk oX10_hear 72 rfl) rfl (by first | exact nI_inc _ | rfl) (by decide) rfl ?_
                refine r_goto (tgt := 9) C (dk oX10_hear 73 rfl) (by decide) ?_
                refine V.sub [2, 3, 4, 0] rfl ?_
                first
                  | (have hih := ih (f + 1) I2 (by omega) (by omega) (fun g hg i hi => by
                       rw [hA g hg i hi]
                       by_cases e : g = f
                       · subst e
                         rw [if_pos rfl, if_pos (by omega), show admF p_ (hrF lb (a_ g) p_ (Φ g)) = _ from if_neg hs81]
                       · rw [if_neg e, hF g hg i hi]
                         by_cases e2 : g < f
                         · rw [if_pos e2, if_pos (by omega)]
                         · rw [if_neg e2, if_neg (by omega)]) (by rw [hO2 140 (by decide), hS, bS_s, if_neg hs81]) (fun q hq => by rw [hO2 140 (by decide)]; exact hS2 q hq) (fun k hk => by rw [hO2 k (by omega)]; exact hO k hk)
                     exact hih)
                  | (have hih := ih (f + 1) (up2 (up2 (up2 I2 135 f (nI 2)) 139 f (nI p_)) 140 p_ (nI (bS (fun f => adB p_ (hrF lb (a_ f) p_ (Φ f))) f ||| 2 ^ f))) (by omega) (by omega) (fun g hg i hi => by
                       rw [up2_ne (by omega)]
                       by_cases e : g = f
                       · subst e
                         rw [if_pos (by omega), show admF p_ (hrF lb (a_ g) p_ (Φ g)) = _ from if_pos hs81]
                         rcases (by omega : i = 0 ∨ i = 4 ∨ (i ≠ 0 ∧ i ≠ 4)) with rfl | rfl | ⟨i0, i4⟩
                         · rw [up2_ne (by decide), up2_at]; rfl
                         · rw [up2_at]; rfl
                         · rw [up2_ne (by omega), up2_ne (by omega), hA g hg i hi, if_pos rfl]
                           unfold ans
                           rw [if_neg i0, if_neg i4]
                       · rw [up2_ap, up2_ap, if_neg e, if_neg e, ite_self, ite_self, hA g hg i hi, if_neg e, hF g hg i hi]
                         by_cases e2 : g < f
                         · rw [if_pos e2, if_pos (by omega)]
                         · rw [if_neg e2, if_neg (by omega)]) (by rw [up2_at, bS_s, if_pos hs81]) (fun q hq => by rw [up2_off hq, up2_ne (by decide), up2_ne (by decide), hO2 140 (by decide)]; exact hS2 q hq) (fun k hk => by rw [up2_ne (by omega), up2_ne (by omega), up2_ne (by omega), hO2 k (by omega)]; exact hO k hk)
                     exact hih)
          · first
              | (exfalso; revert hb38; decide)
              | rw [show (0 : Int32) = nI 0 from rfl] at hb38
                simp (disch := omega) only [nI_leI, nI_ltI, nI_eq, nI_eq0] at hb38
                have hok1 : fsOK (fun i => I1 (134 + 1 + i) f) := by
                  have e0 := hF f (by omega) 0 (by decide)
                  have e1 := hF f (by omega) 1 (by decide)
                  have e2 := hF f (by omega) 2 (by decide)
                  rw [if_neg (by omega)] at e0 e1 e2
                  have h := hok f (by omega)
                  unfold fsOK at h ⊢
                  rw [show (fun i => I1 (134 + 1 + i) f) 0 = Φ f 0 from e0, show (fun i => I1 (134 + 1 + i) f) 1 = Φ f 1 from e1, show (fun i => I1 (134 + 1 + i) f) 2 = Φ f 2 from e2]
                  exact h
                refine r_aload_n C 1 (dk oX10_hear 25 rfl) rfl ?_
                refine r_iload C 0 (dk oX10_hear 26 rfl) rfl ?_
                refine r_iload_n C 4 (dk oX10_hear 27 rfl) rfl ?_
                refine r_iload_n C 2 (dk oX10_hear 28 rfl) rfl ?_
                refine r_iconst C (dk oX10_hear 29 rfl) (v := nI 2) (by decide) ?_
                refine r_irem C (dk oX10_hear 30 rfl) (by decide) ?_
                rw [mod2 (by omega)]
                refine r_ivi C Z (dk oX10_hear 31 rfl) cl_X10_117 ci_X10_mayBe rfl (km hn rfl) (c_X10_mayBe hn I1 J f (a_ f) p_ (by omega) (by omega) hok1) rfl rfl (Nat.le_of_ble_eq_true rfl) ⟨Nat.le_of_ble_eq_true rfl, Nat.le_of_ble_eq_true rfl⟩ ⟨Nat.zero_le _, Nat.zero_le _⟩ (fun r48 I48 J48 h48 => ?_)
                obtain ⟨h48, e1_, e2_⟩ := h48
                have e1_ := e1_.symm
                have e2_ := e2_.symm
                subst e1_
                subst e2_
                subst h48
                rw [alw_cong (φ := fun i => I1 (134 + 1 + i) f) (ψ := Φ f) (by show I1 (134 + 1 + 0) f = _; rw [hF f (by omega) 0 (by decide), if_neg (by omega)]) (by show I1 (134 + 1 + 2) f = _; rw [hF f (by omega) 2 (by decide), if_neg (by omega)])]
                refine r_if_eq (tgt := 62) C (dk oX10_hear 32 rfl) (by decide) (fun hb51 => ?_) (fun hb51 => ?_)
                · rw [b32_0] at hb51
                  obtain ⟨I2, hI2⟩ : ∃ X, X = I1 := ⟨I1, rfl⟩
                  have hcr : ∀ i, i < 5 → I1 (134 + 1 + i) f = Φ f i := fun i hi => by rw [hF f (by omega) i hi, if_neg (by omega)]
                  have hA : ∀ g, g < 12 → ∀ i, i < 5 → I2 (134 + 1 + i) g = if g = f then (hrF lb (a_ f) p_ (Φ f)) i else I1 (134 + 1 + i) g := fun g hg i hi => by
                    rw [hI2]
                    by_cases e : g = f
                    · subst e
                      rw [if_pos rfl, hcr i hi, show hrF lb (a_ g) p_ (Φ g) = Φ g from if_neg (fun q => by have q2 := q.2.2; rw [hb51] at q2; exact absurd q2 (by decide))]
                    · rw [if_neg e]
                  have hO2 : fcO I1 I2 134 := by rw [hI2]; exact fcO.rf _ _
                  rw [← hI2]
                  clear hI2
                  refine r_aload_n C 1 (dk oX10_hear 38 rfl) rfl ?_
                  refine r_getR C (dk oX10_hear 39 rfl) fl_X10_62 rfl (km hn rfl) ?_
                  refine r_iload_n C 4 (dk oX10_hear 40 rfl) rfl ?_
                  refine r_iald C _ (dk oX10_hear 41 rfl) rfl (km hn rfl) rfl (by omega) (by decide) ?_
                  have hfo : fsOK (hrF lb (a_ f) p_ (Φ f)) := fsOK_hr (hok f (by omega)) (ha f (by omega)).2
                  rw [show I2 135 f = (hrF lb (a_ f) p_ (Φ f)) 0 from by rw [show (135 : Nat) = 134 + 1 + 0 from rfl, hA f (by omega) 0 (by decide), if_pos rfl]]
                  refine r_iconst C (dk oX10_hear 42 rfl) (v := nI 1) (by decide) ?_
                  refine r_icmp_ne (tgt := 110) C (dk oX10_hear 43 rfl) (by decide) (fun hb69 => ?_) (fun hb69 => ?_)
                  · have hs81 : ¬ adB p_ (hrF lb (a_ f) p_ (Φ f)) = true := by
                      rw [adB_o hfo]
                      intro q
                      exact hb69 (of_decide_eq_true q).1
                    refine r_iinc (lo' := [(3, _), (4, _), (0, _), (1, _), (2, _)]) C 4 (dk oX10_hear 72 rfl) rfl (by first | exact nI_inc _ | rfl) (by decide) rfl ?_
                    refine r_goto (tgt := 9) C (dk oX10_hear 73 rfl) (by decide) ?_
                    refine V.sub [2, 3, 4, 0] rfl ?_
                    first
                      | (have hih := ih (f + 1) I2 (by omega) (by omega) (fun g hg i hi => by
                           rw [hA g hg i hi]
                           by_cases e : g = f
                           · subst e
                             rw [if_pos rfl, if_pos (by omega), show admF p_ (hrF lb (a_ g) p_ (Φ g)) = _ from if_neg hs81]
                           · rw [if_neg e, hF g hg i hi]
                             by_cases e2 : g < f
                             · rw [if_pos e2, if_pos (by omega)]
                             · rw [if_neg e2, if_neg (by omega)]) (by rw [hO2 140 (by decide), hS, bS_s, if_neg hs81]) (fun q hq => by rw [hO2 140 (by decide)]; exact hS2 q hq) (fun k hk => by rw [hO2 k (by omega)]; exact hO k hk)
                         exact hih)
                      | (have hih := ih (f + 1) (up2 (up2 (up2 I2 135 f (nI 2)) 139 f (nI p_)) 140 p_ (nI (bS (fun f => adB p_ (hrF lb (a_ f) p_ (Φ f))) f ||| 2 ^ f))) (by omega) (by omega) (fun g hg i hi => by
                           rw [up2_ne (by omega)]
                           by_cases e : g = f
                           · subst e
                             rw [if_pos (by omega), show admF p_ (hrF lb (a_ g) p_ (Φ g)) = _ from if_pos hs81]
                             rcases (by omega : i = 0 ∨ i = 4 ∨ (i ≠ 0 ∧ i ≠ 4)) with rfl | rfl | ⟨i0, i4⟩
                             · rw [up2_ne (by decide), up2_at]; rfl
                             · rw [up2_at]; rfl
                             · rw [up2_ne (by omega), up2_ne (by omega), hA g hg i hi, if_pos rfl]
                               unfold ans
                               rw [if_neg i0, if_neg i4]
                           · rw [up2_ap, up2_ap, if_neg e, if_neg e, ite_self, ite_self, hA g hg i hi, if_neg e, hF g hg i hi]
                             by_cases e2 : g < f
                             · rw [if_pos e2, if_pos (by omega)]
                             · rw [if_neg e2, if_neg (by omega)]) (by rw [up2_at, bS_s, if_pos hs81]) (fun q hq => by rw [up2_off hq, up2_ne (by decide), up2_ne (by decide), hO2 140 (by decide)]; exact hS2 q hq) (fun k hk => by rw [up2_ne (by omega), up2_ne (by omega), up2_ne (by omega), hO2 k (by omega)]; exact hO k hk)
                         exact hih)
                  · refine r_aload_n C 1 (dk oX10_hear 44 rfl) rfl ?_
                    refine r_getR C (dk oX10_hear 45 rfl) fl_X10_68 rfl (km hn rfl) ?_
                    refine r_iload_n C 4 (dk oX10_hear 46 rfl) rfl ?_
                    refine r_iald C _ (dk oX10_hear 47 rfl) rfl (km hn rfl) rfl (by omega) (by decide) ?_
                    rw [show I2 137 f = (hrF lb (a_ f) p_ (Φ f)) 2 from by rw [show (137 : Nat) = 134 + 1 + 2 from rfl, hA f (by omega) 2 (by decide), if_pos rfl]]
                    refine r_iload_n C 2 (dk oX10_hear 48 rfl) rfl ?_
                    refine r_iconst C (dk oX10_hear 49 rfl) (v := nI 2) (by decide) ?_
                    refine r_irem C (dk oX10_hear 50 rfl) (by decide) ?_
                    rw [mod2 (by omega)]
                    refine r_icmp_eq (tgt := 110) C (dk oX10_hear 51 rfl) (by decide) (fun hb81 => ?_) (fun hb81 => ?_)
                    · have hs81 : ¬ adB p_ (hrF lb (a_ f) p_ (Φ f)) = true := by
                        rw [adB_o hfo]
                        intro q
                        exact (of_decide_eq_true q).2 hb81
                      refine r_iinc (lo' := [(3, _), (4, _), (0, _), (1, _), (2, _)]) C 4 (dk oX10_hear 72 rfl) rfl (by first | exact nI_inc _ | rfl) (by decide) rfl ?_
                      refine r_goto (tgt := 9) C (dk oX10_hear 73 rfl) (by decide) ?_
                      refine V.sub [2, 3, 4, 0] rfl ?_
                      first
                        | (have hih := ih (f + 1) I2 (by omega) (by omega) (fun g hg i hi => by
                             rw [hA g hg i hi]
                             by_cases e : g = f
                             · subst e
                               rw [if_pos rfl, if_pos (by omega), show admF p_ (hrF lb (a_ g) p_ (Φ g)) = _ from if_neg hs81]
                             · rw [if_neg e, hF g hg i hi]
                               by_cases e2 : g < f
                               · rw [if_pos e2, if_pos (by omega)]
                               · rw [if_neg e2, if_neg (by omega)]) (by rw [hO2 140 (by decide), hS, bS_s, if_neg hs81]) (fun q hq => by rw [hO2 140 (by decide)]; exact hS2 q hq) (fun k hk => by rw [hO2 k (by omega)]; exact hO k hk)
                           exact hih)
                        | (have hih := ih (f + 1) (up2 (up2 (up2 I2 135 f (nI 2)) 139 f (nI p_)) 140 p_ (nI (bS (fun f => adB p_ (hrF lb (a_ f) p_ (Φ f))) f ||| 2 ^ f))) (by omega) (by omega) (fun g hg i hi => by
                             rw [up2_ne (by omega)]
                             by_cases e : g = f
                             · subst e
                               rw [if_pos (by omega), show admF p_ (hrF lb (a_ g) p_ (Φ g)) = _ from if_pos hs81]
                               rcases (by omega : i = 0 ∨ i = 4 ∨ (i ≠ 0 ∧ i ≠ 4)) with rfl | rfl | ⟨i0, i4⟩
                               · rw [up2_ne (by decide), up2_at]; rfl
                               · rw [up2_at]; rfl
                               · rw [up2_ne (by omega), up2_ne (by omega), hA g hg i hi, if_pos rfl]
                                 unfold ans
                                 rw [if_neg i0, if_neg i4]
                             · rw [up2_ap, up2_ap, if_neg e, if_neg e, ite_self, ite_self, hA g hg i hi, if_neg e, hF g hg i hi]
                               by_cases e2 : g < f
                               · rw [if_pos e2, if_pos (by omega)]
                               · rw [if_neg e2, if_neg (by omega)]) (by rw [up2_at, bS_s, if_pos hs81]) (fun q hq => by rw [up2_off hq, up2_ne (by decide), up2_ne (by decide), hO2 140 (by decide)]; exact hS2 q hq) (fun k hk => by rw [up2_ne (by omega), up2_ne (by omega), up2_ne (by omega), hO2 k (by omega)]; exact hO k hk)
                           exact hih)
                    · have hs81 : adB p_ (hrF lb (a_ f) p_ (Φ f)) = true := by
                        rw [adB_o hfo]
                        exact decide_eq_true ⟨hb69, hb81⟩
                      refine r_aload_n C 1 (dk oX10_hear 52 rfl) rfl ?_
                      refine r_getR C (dk oX10_hear 53 rfl) fl_X10_62 rfl (km hn rfl) ?_
                      refine r_iload_n C 4 (dk oX10_hear 54 rfl) rfl ?_
                      refine r_iconst C (dk oX10_hear 55 rfl) (v := nI 2) (by decide) ?_
                      refine r_iast C _ (dk oX10_hear 56 rfl) rfl (km hn rfl) rfl (by omega) (by decide) ?_
                      refine r_aload_n C 1 (dk oX10_hear 57 rfl) rfl ?_
                      refine r_getR C (dk oX10_hear 58 rfl) fl_X10_74 rfl (km hn rfl) ?_
                      refine r_iload_n C 4 (dk oX10_hear 59 rfl) rfl ?_
                      refine r_iload_n C 2 (dk oX10_hear 60 rfl) rfl ?_
                      refine r_iast C _ (dk oX10_hear 61 rfl) rfl (km hn rfl) rfl (by omega) (by decide) ?_
                      refine r_aload_n C 1 (dk oX10_hear 62 rfl) rfl ?_
                      refine r_getR C (dk oX10_hear 63 rfl) fl_X10_77 rfl (km hn rfl) ?_
                      refine r_iload_n C 2 (dk oX10_hear 64 rfl) rfl ?_
                      refine r_dup2 C (dk oX10_hear 65 rfl) rfl rfl ?_
                      refine r_iald C _ (dk oX10_hear 66 rfl) rfl (km hn rfl) rfl (by omega) (by decide) ?_
                      rw [up2_ne (by decide), up2_ne (by decide), hO2 140 (by decide), hS]
                      refine r_iconst C (dk oX10_hear 67 rfl) (v := nI 1) (by decide) ?_
                      refine r_iload_n C 4 (dk oX10_hear 68 rfl) rfl ?_
                      refine r_ishl C (dk oX10_hear 69 rfl) ?_
                      refine r_ior C (dk oX10_hear 70 rfl) ?_
                      rw [or_bit (by omega)]
                      refine r_iast C _ (dk oX10_hear 71 rfl) rfl (km hn rfl) rfl (by omega) (by decide) ?_
                      refine r_iinc (lo' := [(3, _), (4, _), (0, _), (1, _), (2, _)]) C 4 (dk oX10_hear 72 rfl) rfl (by first | exact nI_inc _ | rfl) (by decide) rfl ?_
                      refine r_goto (tgt := 9) C (dk oX10_hear 73 rfl) (by decide) ?_
                      refine V.sub [2, 3, 4, 0] rfl ?_
                      first
                        | (have hih := ih (f + 1) I2 (by omega) (by omega) (fun g hg i hi => by
                             rw [hA g hg i hi]
                             by_cases e : g = f
                             · subst e
                               rw [if_pos rfl, if_pos (by omega), show admF p_ (hrF lb (a_ g) p_ (Φ g)) = _ from if_neg hs81]
                             · rw [if_neg e, hF g hg i hi]
                               by_cases e2 : g < f
                               · rw [if_pos e2, if_pos (by omega)]
                               · rw [if_neg e2, if_neg (by omega)]) (by rw [hO2 140 (by decide), hS, bS_s, if_neg hs81]) (fun q hq => by rw [hO2 140 (by decide)]; exact hS2 q hq) (fun k hk => by rw [hO2 k (by omega)]; exact hO k hk)
                           exact hih)
                        | (have hih := ih (f + 1) (up2 (up2 (up2 I2 135 f (nI 2)) 139 f (nI p_)) 140 p_ (nI (bS (fun f => adB p_ (hrF lb (a_ f) p_ (Φ f))) f ||| 2 ^ f))) (by omega) (by omega) (fun g hg i hi => by
                             rw [up2_ne (by omega)]
                             by_cases e : g = f
                             · subst e
                               rw [if_pos (by omega), show admF p_ (hrF lb (a_ g) p_ (Φ g)) = _ from if_pos hs81]
                               rcases (by omega : i = 0 ∨ i = 4 ∨ (i ≠ 0 ∧ i ≠ 4)) with rfl | rfl | ⟨i0, i4⟩
                               · rw [up2_ne (by decide), up2_at]; rfl
                               · rw [up2_at]; rfl
                               · rw [up2_ne (by omega), up2_ne (by omega), hA g hg i hi, if_pos rfl]
                                 unfold ans
                                 rw [if_neg i0, if_neg i4]
                             · rw [up2_ap, up2_ap, if_neg e, if_neg e, ite_self, ite_self, hA g hg i hi, if_neg e, hF g hg i hi]
                               by_cases e2 : g < f
                               · rw [if_pos e2, if_pos (by omega)]
                               · rw [if_neg e2, if_neg (by omega)]) (by rw [up2_at, bS_s, if_pos hs81]) (fun q hq => by rw [up2_off hq, up2_ne (by decide), up2_ne (by decide), hO2 140 (by decide)]; exact hS2 q hq) (fun k hk => by rw [up2_ne (by omega), up2_ne (by omega), up2_ne (by omega), hO2 k (by omega)]; exact hO k hk)
                           exact hih)
                · rw [b32_n] at hb51
                  refine r_aload_n C 1 (dk oX10_hear 33 rfl) rfl ?_
                  refine r_iload C 0 (dk oX10_hear 34 rfl) rfl ?_
                  refine r_iload_n C 4 (dk oX10_hear 35 rfl) rfl ?_
                  refine r_iload_n C 2 (dk oX10_hear 36 rfl) rfl ?_
                  refine r_ivv C Z (dk oX10_hear 37 rfl) cl_X10_121 ci_X10_act rfl (km hn rfl) (c_X10_act hn I1 J f (a_ f) p_ (by omega) hp (by omega)) rfl rfl (Nat.le_of_ble_eq_true rfl) ⟨Nat.le_of_ble_eq_true rfl, Nat.le_of_ble_eq_true rfl⟩ ⟨Nat.zero_le _, Nat.zero_le _⟩ (fun I59 J59 h59 => ?_)
                  obtain ⟨h59, e2_⟩ := h59
                  have e2_ := e2_.symm
                  subst e2_
                  generalize I59 = I2 at h59
                  have hcr : ∀ i, i < 5 → I1 (134 + 1 + i) f = Φ f i := fun i hi => by rw [hF f (by omega) i hi, if_neg (by omega)]
                  have hA : ∀ g, g < 12 → ∀ i, i < 5 → I2 (134 + 1 + i) g = if g = f then (hrF lb (a_ f) p_ (Φ f)) i else I1 (134 + 1 + i) g := fun g hg i hi => by
                    rw [h59.2 i hi g]
                    by_cases e : g = f
                    · subst e
                      rw [if_pos rfl, if_pos rfl, show hrF lb (a_ g) p_ (Φ g) = app (a_ g) p_ (Φ g) from if_pos ⟨hb16, by omega, hb51⟩]
                      exact app_cong (fun j hj => hcr j hj) i hi
                    · rw [if_neg e, if_neg e]
                  have hO2 : fcO I1 I2 134 := h59.1
                  refine r_aload_n C 1 (dk oX10_hear 38 rfl) rfl ?_
                  refine r_getR C (dk oX10_hear 39 rfl) fl_X10_62 rfl (km hn rfl) ?_
                  refine r_iload_n C 4 (dk oX10_hear 40 rfl) rfl ?_
                  refine r_iald C _ (dk oX10_hear 41 rfl) rfl (km hn rfl) rfl (by omega) (by decide) ?_
                  have hfo : fsOK (hrF lb (a_ f) p_ (Φ f)) := fsOK_hr (hok f (by omega)) (ha f (by omega)).2
                  rw [show I2 135 f = (hrF lb (a_ f) p_ (Φ f)) 0 from by rw [show (135 : Nat) = 134 + 1 + 0 from rfl, hA f (by omega) 0 (by decide), if_pos rfl]]
                  refine r_iconst C (dk oX10_hear 42 rfl) (v := nI 1) (by decide) ?_
                  refine r_icmp_ne (tgt := 110) C (dk oX10_hear 43 rfl) (by decide) (fun hb69 => ?_) (fun hb69 => ?_)
                  · have hs81 : ¬ adB p_ (hrF lb (a_ f) p_ (Φ f)) = true := by
                      rw [adB_o hfo]
                      intro q
                      exact hb69 (of_decide_eq_true q).1
                    refine r_iinc (lo' := [(3, _), (4, _), (0, _), (1, _), (2, _)]) C 4 (dk oX10_hear 72 rfl) rfl (by first | exact nI_inc _ | rfl) (by decide) rfl ?_
                    refine r_goto (tgt := 9) C (dk oX10_hear 73 rfl) (by decide) ?_
                    refine V.sub [2, 3, 4, 0] rfl ?_
                    first
                      | (have hih := ih (f + 1) I2 (by omega) (by omega) (fun g hg i hi => by
                           rw [hA g hg i hi]
                           by_cases e : g = f
                           · subst e
                             rw [if_pos rfl, if_pos (by omega), show admF p_ (hrF lb (a_ g) p_ (Φ g)) = _ from if_neg hs81]
                           · rw [if_neg e, hF g hg i hi]
                             by_cases e2 : g < f
                             · rw [if_pos e2, if_pos (by omega)]
                             · rw [if_neg e2, if_neg (by omega)]) (by rw [hO2 140 (by decide), hS, bS_s, if_neg hs81]) (fun q hq => by rw [hO2 140 (by decide)]; exact hS2 q hq) (fun k hk => by rw [hO2 k (by omega)]; exact hO k hk)
                         exact hih)
                      | (have hih := ih (f + 1) (up2 (up2 (up2 I2 135 f (nI 2)) 139 f (nI p_)) 140 p_ (nI (bS (fun f => adB p_ (hrF lb (a_ f) p_ (Φ f))) f ||| 2 ^ f))) (by omega) (by omega) (fun g hg i hi => by
                           rw [up2_ne (by omega)]
                           by_cases e : g = f
                           · subst e
                             rw [if_pos (by omega), show admF p_ (hrF lb (a_ g) p_ (Φ g)) = _ from if_pos hs81]
                             rcases (by omega : i = 0 ∨ i = 4 ∨ (i ≠ 0 ∧ i ≠ 4)) with rfl | rfl | ⟨i0, i4⟩
                             · rw [up2_ne (by decide), up2_at]; rfl
                             · rw [up2_at]; rfl
                             · rw [up2_ne (by omega), up2_ne (by omega), hA g hg i hi, if_pos rfl]
                               unfold ans
                               rw [if_neg i0, if_neg i4]
                           · rw [up2_ap, up2_ap, if_neg e, if_neg e, ite_self, ite_self, hA g hg i hi, if_neg e, hF g hg i hi]
                             by_cases e2 : g < f
                             · rw [if_pos e2, if_pos (by omega)]
                             · rw [if_neg e2, if_neg (by omega)]) (by rw [up2_at, bS_s, if_pos hs81]) (fun q hq => by rw [up2_off hq, up2_ne (by decide), up2_ne (by decide), hO2 140 (by decide)]; exact hS2 q hq) (fun k hk => by rw [up2_ne (by omega), up2_ne (by omega), up2_ne (by omega), hO2 k (by omega)]; exact hO k hk)
                         exact hih)
                  · refine r_aload_n C 1 (dk oX10_hear 44 rfl) rfl ?_
                    refine r_getR C (dk oX10_hear 45 rfl) fl_X10_68 rfl (km hn rfl) ?_
                    refine r_iload_n C 4 (dk oX10_hear 46 rfl) rfl ?_
                    refine r_iald C _ (dk oX10_hear 47 rfl) rfl (km hn rfl) rfl (by omega) (by decide) ?_
                    rw [show I2 137 f = (hrF lb (a_ f) p_ (Φ f)) 2 from by rw [show (137 : Nat) = 134 + 1 + 2 from rfl, hA f (by omega) 2 (by decide), if_pos rfl]]
                    refine r_iload_n C 2 (dk oX10_hear 48 rfl) rfl ?_
                    refine r_iconst C (dk oX10_hear 49 rfl) (v := nI 2) (by decide) ?_
                    refine r_irem C (dk oX10_hear 50 rfl) (by decide) ?_
                    rw [mod2 (by omega)]
                    refine r_icmp_eq (tgt := 110) C (dk oX10_hear 51 rfl) (by decide) (fun hb81 => ?_) (fun hb81 => ?_)
                    · have hs81 : ¬ adB p_ (hrF lb (a_ f) p_ (Φ f)) = true := by
                        rw [adB_o hfo]
                        intro q
                        exact (of_decide_eq_true q).2 hb81
                      refine r_iinc (lo' := [(3, _), (4, _), (0, _), (1, _), (2, _)]) C 4 (dk oX10_hear 72 rfl) rfl (by first | exact nI_inc _ | rfl) (by decide) rfl ?_
                      refine r_goto (tgt := 9) C (dk oX10_hear 73 rfl) (by decide) ?_
                      refine V.sub [2, 3, 4, 0] rfl ?_
                      first
                        | (have hih := ih (f + 1) I2 (by omega) (by omega) (fun g hg i hi => by
                             rw [hA g hg i hi]
                             by_cases e : g = f
                             · subst e
                               rw [if_pos rfl, if_pos (by omega), show admF p_ (hrF lb (a_ g) p_ (Φ g)) = _ from if_neg hs81]
                             · rw [if_neg e, hF g hg i hi]
                               by_cases e2 : g < f
                               · rw [if_pos e2, if_pos (by omega)]
                               · rw [if_neg e2, if_neg (by omega)]) (by rw [hO2 140 (by decide), hS, bS_s, if_neg hs81]) (fun q hq => by rw [hO2 140 (by decide)]; exact hS2 q hq) (fun k hk => by rw [hO2 k (by omega)]; exact hO k hk)
                           exact hih)
                        | (have hih := ih (f + 1) (up2 (up2 (up2 I2 135 f (nI 2)) 139 f (nI p_)) 140 p_ (nI (bS (fun f => adB p_ (hrF lb (a_ f) p_ (Φ f))) f ||| 2 ^ f))) (by omega) (by omega) (fun g hg i hi => by
                             rw [up2_ne (by omega)]
                             by_cases e : g = f
                             · subst e
                               rw [if_pos (by omega), show admF p_ (hrF lb (a_ g) p_ (Φ g)) = _ from if_pos hs81]
                               rcases (by omega : i = 0 ∨ i = 4 ∨ (i ≠ 0 ∧ i ≠ 4)) with rfl | rfl | ⟨i0, i4⟩
                               · rw [up2_ne (by decide), up2_at]; rfl
                               · rw [up2_at]; rfl
                               · rw [up2_ne (by omega), up2_ne (by omega), hA g hg i hi, if_pos rfl]
                                 unfold ans
                                 rw [if_neg i0, if_neg i4]
                             · rw [up2_ap, up2_ap, if_neg e, if_neg e, ite_self, ite_self, hA g hg i hi, if_neg e, hF g hg i hi]
                               by_cases e2 : g < f
                               · rw [if_pos e2, if_pos (by omega)]
                               · rw [if_neg e2, if_neg (by omega)]) (by rw [up2_at, bS_s, if_pos hs81]) (fun q hq => by rw [up2_off hq, up2_ne (by decide), up2_ne (by decide), hO2 140 (by decide)]; exact hS2 q hq) (fun k hk => by rw [up2_ne (by omega), up2_ne (by omega), up2_ne (by omega), hO2 k (by omega)]; exact hO k hk)
                           exact hih)
                    · have hs81 : adB p_ (hrF lb (a_ f) p_ (Φ f)) = true := by
                        rw [adB_o hfo]
                        exact decide_eq_true ⟨hb69, hb81⟩
                      refine r_aload_n C 1 (dk oX10_hear 52 rfl) rfl ?_
                      refine r_getR C (dk oX10_hear 53 rfl) fl_X10_62 rfl (km hn rfl) ?_
                      refine r_iload_n C 4 (dk oX10_hear 54 rfl) rfl ?_
                      refine r_iconst C (dk oX10_hear 55 rfl) (v := nI 2) (by decide) ?_
                      refine r_iast C _ (dk oX10_hear 56 rfl) rfl (km hn rfl) rfl (by omega) (by decide) ?_
                      refine r_aload_n C 1 (dk oX10_hear 57 rfl) rfl ?_
                      refine r_getR C (dk oX10_hear 58 rfl) fl_X10_74 rfl (km hn rfl) ?_
                      refine r_iload_n C 4 (dk oX10_hear 59 rfl) rfl ?_
                      refine r_iload_n C 2 (dk oX10_hear 60 rfl) rfl ?_
                      refine r_iast C _ (dk oX10_hear 61 rfl) rfl (km hn rfl) rfl (by omega) (by decide) ?_
                      refine r_aload_n C 1 (dk oX10_hear 62 rfl) rfl ?_
                      refine r_getR C (dk oX10_hear 63 rfl) fl_X10_77 rfl (km hn rfl) ?_
                      refine r_iload_n C 2 (dk oX10_hear 64 rfl) rfl ?_
                      refine r_dup2 C (dk oX10_hear 65 rfl) rfl rfl ?_
                      refine r_iald C _ (dk oX10_hear 66 rfl) rfl (km hn rfl) rfl (by omega) (by decide) ?_
                      rw [up2_ne (by decide), up2_ne (by decide), hO2 140 (by decide), hS]
                      refine r_iconst C (dk oX10_hear 67 rfl) (v := nI 1) (by decide) ?_
                      refine r_iload_n C 4 (dk oX10_hear 68 rfl) rfl ?_
                      refine r_ishl C (dk oX10_hear 69 rfl) ?_
                      refine r_ior C (dk oX10_hear 70 rfl) ?_
                      rw [or_bit (by omega)]
                      refine r_iast C _ (dk oX10_hear 71 rfl) rfl (km hn rfl) rfl (by omega) (by decide) ?_
                      refine r_iinc (lo' := [(3, _), (4, _), (0, _), (1, _), (2, _)]) C 4 (dk oX10_hear 72 rfl) rfl (by first | exact nI_inc _ | rfl) (by decide) rfl ?_
                      refine r_goto (tgt := 9) C (dk oX10_hear 73 rfl) (by decide) ?_
                      refine V.sub [2, 3, 4, 0] rfl ?_
                      first
                        | (have hih := ih (f + 1) I2 (by omega) (by omega) (fun g hg i hi => by
                             rw [hA g hg i hi]
                             by_cases e : g = f
                             · subst e
                               rw [if_pos rfl, if_pos (by omega), show admF p_ (hrF lb (a_ g) p_ (Φ g)) = _ from if_neg hs81]
                             · rw [if_neg e, hF g hg i hi]
                               by_cases e2 : g < f
                               · rw [if_pos e2, if_pos (by omega)]
                               · rw [if_neg e2, if_neg (by omega)]) (by rw [hO2 140 (by decide), hS, bS_s, if_neg hs81]) (fun q hq => by rw [hO2 140 (by decide)]; exact hS2 q hq) (fun k hk => by rw [hO2 k (by omega)]; exact hO k hk)
                           exact hih)
                        | (have hih := ih (f + 1) (up2 (up2 (up2 I2 135 f (nI 2)) 139 f (nI p_)) 140 p_ (nI (bS (fun f => adB p_ (hrF lb (a_ f) p_ (Φ f))) f ||| 2 ^ f))) (by omega) (by omega) (fun g hg i hi => by
                             rw [up2_ne (by omega)]
                             by_cases e : g = f
                             · subst e
                               rw [if_pos (by omega), show admF p_ (hrF lb (a_ g) p_ (Φ g)) = _ from if_pos hs81]
                               rcases (by omega : i = 0 ∨ i = 4 ∨ (i ≠ 0 ∧ i ≠ 4)) with rfl | rfl | ⟨i0, i4⟩
                               · rw [up2_ne (by decide), up2_at]; rfl
                               · rw [up2_at]; rfl
                               · rw [up2_ne (by omega), up2_ne (by omega), hA g hg i hi, if_pos rfl]
                                 unfold ans
                                 rw [if_neg i0, if_neg i4]
                             · rw [up2_ap, up2_ap, if_neg e, if_neg e, ite_self, ite_self, hA g hg i hi, if_neg e, hF g hg i hi]
                               by_cases e2 : g < f
                               · rw [if_pos e2, if_pos (by omega)]
                               · rw [if_neg e2, if_neg (by omega)]) (by rw [up2_at, bS_s, if_pos hs81]) (fun q hq => by rw [up2_off hq, up2_ne (by decide), up2_ne (by decide), hO2 140 (by decide)]; exact hS2 q hq) (fun k hk => by rw [up2_ne (by omega), up2_ne (by omega), up2_ne (by omega), hO2 k (by omega)]; exact hO k hk)
                           exact hih)
        · rw [b32_n] at hb16
          refine r_iconst C (dk oX10_hear 12 rfl) (v := nI 0) (by decide) ?_
          refine r_goto (tgt := 34) C (dk oX10_hear 13 rfl) (by decide) ?_
          refine r_istore (lo' := [(4, _), (0, _), (1, _), (2, _), (3, _)]) C (dk oX10_hear 22 rfl) (by decide) rfl ?_
          refine r_iload C 0 (dk oX10_hear 23 rfl) rfl ?_
          refine r_if_le (tgt := 62) C (dk oX10_hear 24 rfl) (by decide) (fun hb38 => ?_) (fun hb38 => ?_)
          · have hnz : ¬ (lb = false ∧ a_ f ≠ 0 ∧ alw (a_ f) p_ (Φ f) = true) := by
              intro q
              first
                | (rw [hb16] at q; exact absurd q.1 (by decide))
                | (have hb38b := hb38
                   rw [show (0 : Int32) = nI 0 from rfl] at hb38b
                   simp (disch := omega) only [nI_leI, nI_ltI, nI_eq, nI_eq0] at hb38b
                   exact q.2.1 (by omega))
            obtain ⟨I2, hI2⟩ : ∃ X, X = I1 := ⟨I1, rfl⟩
            have hcr : ∀ i, i < 5 → I1 (134 + 1 + i) f = Φ f i := fun i hi => by rw [hF f (by omega) i hi, if_neg (by omega)]
            have hA : ∀ g, g < 12 → ∀ i, i < 5 → I2 (134 + 1 + i) g = if g = f then (hrF lb (a_ f) p_ (Φ f)) i else I1 (134 + 1 + i) g := fun g hg i hi => by
              rw [hI2]
              by_cases e : g = f
              · subst e
                rw [if_pos rfl, hcr i hi, show hrF lb (a_ g) p_ (Φ g) = Φ g from if_neg hnz]
              · rw [if_neg e]
            have hO2 : fcO I1 I2 134 := by rw [hI2]; exact fcO.rf _ _
            rw [← hI2]
            clear hI2
            refine r_aload_n C 1 (dk oX10_hear 38 rfl) rfl ?_
            refine r_getR C (dk oX10_hear 39 rfl) fl_X10_62 rfl (km hn rfl) ?_
            refine r_iload_n C 4 (dk oX10_hear 40 rfl) rfl ?_
            refine r_iald C _ (dk oX10_hear 41 rfl) rfl (km hn rfl) rfl (by omega) (by decide) ?_
            have hfo : fsOK (hrF lb (a_ f) p_ (Φ f)) := fsOK_hr (hok f (by omega)) (ha f (by omega)).2
            rw [show I2 135 f = (hrF lb (a_ f) p_ (Φ f)) 0 from by rw [show (135 : Nat) = 134 + 1 + 0 from rfl, hA f (by omega) 0 (by decide), if_pos rfl]]
            refine r_iconst C (dk oX10_hear 42 rfl) (v := nI 1) (by decide) ?_
            refine r_icmp_ne (tgt := 110) C (dk oX10_hear 43 rfl) (by decide) (fun hb69 => ?_) (fun hb69 => ?_)
            · have hs81 : ¬ adB p_ (hrF lb (a_ f) p_ (Φ f)) = true := by
                rw [adB_o hfo]
                intro q
                exact hb69 (of_decide_eq_true q).1
              refine r_iinc (lo' := [(3, _), (4, _), (0, _), (1, _), (2, _)]) C 4 (dk oX10_hear 72 rfl) rfl (by first | exact nI_inc _ | rfl) (by decide) rfl ?_
              refine r_goto (tgt := 9) C (dk oX10_hear 73 rfl) (by decide) ?_
              refine V.sub [2, 3, 4, 0] rfl ?_
              first
                | (have hih := ih (f + 1) I2 (by omega) (by omega) (fun g hg i hi => by
                     rw [hA g hg i hi]
                     by_cases e : g = f
                     · subst e
                       rw [if_pos rfl, if_pos (by omega), show admF p_ (hrF lb (a_ g) p_ (Φ g)) = _ from if_neg hs81]
                     · rw [if_neg e, hF g hg i hi]
                       by_cases e2 : g < f
                       · rw [if_pos e2, if_pos (by omega)]
                       · rw [if_neg e2, if_neg (by omega)]) (by rw [hO2 140 (by decide), hS, bS_s, if_neg hs81]) (fun q hq => by rw [hO2 140 (by decide)]; exact hS2 q hq) (fun k hk => by rw [hO2 k (by omega)]; exact hO k hk)
                   exact hih)
                | (have hih := ih (f + 1) (up2 (up2 (up2 I2 135 f (nI 2)) 139 f (nI p_)) 140 p_ (nI (bS (fun f => adB p_ (hrF lb (a_ f) p_ (Φ f))) f ||| 2 ^ f))) (by omega) (by omega) (fun g hg i hi => by
                     rw [up2_ne (by omega)]
                     by_cases e : g = f
                     · subst e
                       rw [if_pos (by omega), show admF p_ (hrF lb (a_ g) p_ (Φ g)) = _ from if_pos hs81]
                       rcases (by omega : i = 0 ∨ i = 4 ∨ (i ≠ 0 ∧ i ≠ 4)) with rfl | rfl | ⟨i0, i4⟩
                       · rw [up2_ne (by decide), up2_at]; rfl
                       · rw [up2_at]; rfl
                       · rw [up2_ne (by omega), up2_ne (by omega), hA g hg i hi, if_pos rfl]
                         unfold ans
                         rw [if_neg i0, if_neg i4]
                     · rw [up2_ap, up2_ap, if_neg e, if_neg e, ite_self, ite_self, hA g hg i hi, if_neg e, hF g hg i hi]
                       by_cases e2 : g < f
                       · rw [if_pos e2, if_pos (by omega)]
                       · rw [if_neg e2, if_neg (by omega)]) (by rw [up2_at, bS_s, if_pos hs81]) (fun q hq => by rw [up2_off hq, up2_ne (by decide), up2_ne (by decide), hO2 140 (by decide)]; exact hS2 q hq) (fun k hk => by rw [up2_ne (by omega), up2_ne (by omega), up2_ne (by omega), hO2 k (by omega)]; exact hO k hk)
                   exact hih)
            · refine r_aload_n C 1 (dk oX10_hear 44 rfl) rfl ?_
              refine r_getR C (dk oX10_hear 45 rfl) fl_X10_68 rfl (km hn rfl) ?_
              refine r_iload_n C 4 (dk oX10_hear 46 rfl) rfl ?_
              refine r_iald C _ (dk oX10_hear 47 rfl) rfl (km hn rfl) rfl (by omega) (by decide) ?_
              rw [show I2 137 f = (hrF lb (a_ f) p_ (Φ f)) 2 from by rw [show (137 : Nat) = 134 + 1 + 2 from rfl, hA f (by omega) 2 (by decide), if_pos rfl]]
              refine r_iload_n C 2 (dk oX10_hear 48 rfl) rfl ?_
              refine r_iconst C (dk oX10_hear 49 rfl) (v := nI 2) (by decide) ?_
              refine r_irem C (dk oX10_hear 50 rfl) (by decide) ?_
              rw [mod2 (by omega)]
              refine r_icmp_eq (tgt := 110) C (dk oX10_hear 51 rfl) (by decide) (fun hb81 => ?_) (fun hb81 => ?_)
              · have hs81 : ¬ adB p_ (hrF lb (a_ f) p_ (Φ f)) = true := by
                  rw [adB_o hfo]
                  intro q
                  exact (of_decide_eq_true q).2 hb81
                refine r_iinc (lo' := [(3, _), (4, _), (0, _), (1, _), (2, _)]) C 4 (dk oX10_hear 72 rfl) rfl (by first | exact nI_inc _ | rfl) (by decide) rfl ?_
                refine r_goto (tgt := 9) C (dk oX10_hear 73 rfl) (by decide) ?_
                refine V.sub [2, 3, 4, 0] rfl ?_
                first
                  | (have hih := ih (f + 1) I2 (by omega) (by omega) (fun g hg i hi => by
                       rw [hA g hg i hi]
                       by_cases e : g = f
                       · subst e
                         rw [if_pos rfl, if_pos (by omega), show admF p_ (hrF lb (a_ g) p_ (Φ g)) = _ from if_neg hs81]
                       · rw [if_neg e, hF g hg i hi]
                         by_cases e2 : g < f
                         · rw [if_pos e2, if_pos (by omega)]
                         · rw [if_neg e2, if_neg (by omega)]) (by rw [hO2 140 (by decide), hS, bS_s, if_neg hs81]) (fun q hq => by rw [hO2 140 (by decide)]; exact hS2 q hq) (fun k hk => by rw [hO2 k (by omega)]; exact hO k hk)
                     exact hih)
                  | (have hih := ih (f + 1) (up2 (up2 (up2 I2 135 f (nI 2)) 139 f (nI p_)) 140 p_ (nI (bS (fun f => adB p_ (hrF lb (a_ f) p_ (Φ f))) f ||| 2 ^ f))) (by omega) (by omega) (fun g hg i hi => by
                       rw [up2_ne (by omega)]
                       by_cases e : g = f
                       · subst e
                         rw [if_pos (by omega), show admF p_ (hrF lb (a_ g) p_ (Φ g)) = _ from if_pos hs81]
                         rcases (by omega : i = 0 ∨ i = 4 ∨ (i ≠ 0 ∧ i ≠ 4)) with rfl | rfl | ⟨i0, i4⟩
                         · rw [up2_ne (by decide), up2_at]; rfl
                         · rw [up2_at]; rfl
                         · rw [up2_ne (by omega), up2_ne (by omega), hA g hg i hi, if_pos rfl]
                           unfold ans
                           rw [if_neg i0, if_neg i4]
                       · rw [up2_ap, up2_ap, if_neg e, if_neg e, ite_self, ite_self, hA g hg i hi, if_neg e, hF g hg i hi]
                         by_cases e2 : g < f
                         · rw [if_pos e2, if_pos (by omega)]
                         · rw [if_neg e2, if_neg (by omega)]) (by rw [up2_at, bS_s, if_pos hs81]) (fun q hq => by rw [up2_off hq, up2_ne (by decide), up2_ne (by decide), hO2 140 (by decide)]; exact hS2 q hq) (fun k hk => by rw [up2_ne (by omega), up2_ne (by omega), up2_ne (by omega), hO2 k (by omega)]; exact hO k hk)
                     exact hih)
              · have hs81 : adB p_ (hrF lb (a_ f) p_ (Φ f)) = true := by
                  rw [adB_o hfo]
                  exact decide_eq_true ⟨hb69, hb81⟩
                refine r_aload_n C 1 (dk oX10_hear 52 rfl) rfl ?_
                refine r_getR C (dk oX10_hear 53 rfl) fl_X10_62 rfl (km hn rfl) ?_
                refine r_iload_n C 4 (dk oX10_hear 54 rfl) rfl ?_
                refine r_iconst C (dk oX10_hear 55 rfl) (v := nI 2) (by decide) ?_
                refine r_iast C _ (dk oX10_hear 56 rfl) rfl (km hn rfl) rfl (by omega) (by decide) ?_
                refine r_aload_n C 1 (dk oX10_hear 57 rfl) rfl ?_
                refine r_getR C (dk oX10_hear 58 rfl) fl_X10_74 rfl (km hn rfl) ?_
                refine r_iload_n C 4 (dk oX10_hear 59 rfl) rfl ?_
                refine r_iload_n C 2 (dk oX10_hear 60 rfl) rfl ?_
                refine r_iast C _ (dk oX10_hear 61 rfl) rfl (km hn rfl) rfl (by omega) (by decide) ?_
                refine r_aload_n C 1 (dk oX10_hear 62 rfl) rfl ?_
                refine r_getR C (dk oX10_hear 63 rfl) fl_X10_77 rfl (km hn rfl) ?_
                refine r_iload_n C 2 (dk oX10_hear 64 rfl) rfl ?_
                refine r_dup2 C (dk oX10_hear 65 rfl) rfl rfl ?_
                refine r_iald C _ (dk oX10_hear 66 rfl) rfl (km hn rfl) rfl (by omega) (by decide) ?_
                rw [up2_ne (by decide), up2_ne (by decide), hO2 140 (by decide), hS]
                refine r_iconst C (dk oX10_hear 67 rfl) (v := nI 1) (by decide) ?_
                refine r_iload_n C 4 (dk oX10_hear 68 rfl) rfl ?_
                refine r_ishl C (dk oX10_hear 69 rfl) ?_
                refine r_ior C (dk oX10_hear 70 rfl) ?_
                rw [or_bit (by omega)]
                refine r_iast C _ (dk oX10_hear 71 rfl) rfl (km hn rfl) rfl (by omega) (by decide) ?_
                refine r_iinc (lo' := [(3, _), (4, _), (0, _), (1, _), (2, _)]) C 4 (dk oX10_hear 72 rfl) rfl (by first | exact nI_inc _ | rfl) (by decide) rfl ?_
                refine r_goto (tgt := 9) C (dk oX10_hear 73 rfl) (by decide) ?_
                refine V.sub [2, 3, 4, 0] rfl ?_
                first
                  | (have hih := ih (f + 1) I2 (by omega) (by omega) (fun g hg i hi => by
                       rw [hA g hg i hi]
                       by_cases e : g = f
                       · subst e
                         rw [if_pos rfl, if_pos (by omega), show admF p_ (hrF lb (a_ g) p_ (Φ g)) = _ from if_neg hs81]
                       · rw [if_neg e, hF g hg i hi]
                         by_cases e2 : g < f
                         · rw [if_pos e2, if_pos (by omega)]
                         · rw [if_neg e2, if_neg (by omega)]) (by rw [hO2 140 (by decide), hS, bS_s, if_neg hs81]) (fun q hq => by rw [hO2 140 (by decide)]; exact hS2 q hq) (fun k hk => by rw [hO2 k (by omega)]; exact hO k hk)
                     exact hih)
                  | (have hih := ih (f + 1) (up2 (up2 (up2 I2 135 f (nI 2)) 139 f (nI p_)) 140 p_ (nI (bS (fun f => adB p_ (hrF lb (a_ f) p_ (Φ f))) f ||| 2 ^ f))) (by omega) (by omega) (fun g hg i hi => by
                       rw [up2_ne (by omega)]
                       by_cases e : g = f
                       · subst e
                         rw [if_pos (by omega), show admF p_ (hrF lb (a_ g) p_ (Φ g)) = _ from if_pos hs81]
                         rcases (by omega : i = 0 ∨ i = 4 ∨ (i ≠ 0 ∧ i ≠ 4)) with rfl | rfl | ⟨i0, i4⟩
                         · rw [up2_ne (by decide), up2_at]; rfl
                         · rw [up2_at]; rfl
                         · rw [up2_ne (by omega), up2_ne (by omega), hA g hg i hi, if_pos rfl]
                           unfold ans
                           rw [if_neg i0, if_neg i4]
                       · rw [up2_ap, up2_ap, if_neg e, if_neg e, ite_self, ite_self, hA g hg i hi, if_neg e, hF g hg i hi]
                         by_cases e2 : g < f
                         · rw [if_pos e2, if_pos (by omega)]
                         · rw [if_neg e2, if_neg (by omega)]) (by rw [up2_at, bS_s, if_pos hs81]) (fun q hq => by rw [up2_off hq, up2_ne (by decide), up2_ne (by decide), hO2 140 (by decide)]; exact hS2 q hq) (fun k hk => by rw [up2_ne (by omega), up2_ne (by omega), up2_ne (by omega), hO2 k (by omega)]; exact hO k hk)
                     exact hih)
          · first
              | (exfalso; revert hb38; decide)
              | rw [show (0 : Int32) = nI 0 from rfl] at hb38
                simp (disch := omega) only [nI_leI, nI_ltI, nI_eq, nI_eq0] at hb38
                have hok1 : fsOK (fun i => I1 (134 + 1 + i) f) := by
                  have e0 := hF f (by omega) 0 (by decide)
                  have e1 := hF f (by omega) 1 (by decide)
                  have e2 := hF f (by omega) 2 (by decide)
                  rw [if_neg (by omega)] at e0 e1 e2
                  have h := hok f (by omega)
                  unfold fsOK at h ⊢
                  rw [show (fun i => I1 (134 + 1 + i) f) 0 = Φ f 0 from e0, show (fun i => I1 (134 + 1 + i) f) 1 = Φ f 1 from e1, show (fun i => I1 (134 + 1 + i) f) 2 = Φ f 2 from e2]
                  exact h
                refine r_aload_n C 1 (dk oX10_hear 25 rfl) rfl ?_
                refine r_iload C 0 (dk oX10_hear 26 rfl) rfl ?_
                refine r_iload_n C 4 (dk oX10_hear 27 rfl) rfl ?_
                refine r_iload_n C 2 (dk oX10_hear 28 rfl) rfl ?_
                refine r_iconst C (dk oX10_hear 29 rfl) (v := nI 2) (by decide) ?_
                refine r_irem C (dk oX10_hear 30 rfl) (by decide) ?_
                rw [mod2 (by omega)]
                refine r_ivi C Z (dk oX10_hear 31 rfl) cl_X10_117 ci_X10_mayBe rfl (km hn rfl) (c_X10_mayBe hn I1 J f (a_ f) p_ (by omega) (by omega) hok1) rfl rfl (Nat.le_of_ble_eq_true rfl) ⟨Nat.le_of_ble_eq_true rfl, Nat.le_of_ble_eq_true rfl⟩ ⟨Nat.zero_le _, Nat.zero_le _⟩ (fun r48 I48 J48 h48 => ?_)
                obtain ⟨h48, e1_, e2_⟩ := h48
                have e1_ := e1_.symm
                have e2_ := e2_.symm
                subst e1_
                subst e2_
                subst h48
                rw [alw_cong (φ := fun i => I1 (134 + 1 + i) f) (ψ := Φ f) (by show I1 (134 + 1 + 0) f = _; rw [hF f (by omega) 0 (by decide), if_neg (by omega)]) (by show I1 (134 + 1 + 2) f = _; rw [hF f (by omega) 2 (by decide), if_neg (by omega)])]
                refine r_if_eq (tgt := 62) C (dk oX10_hear 32 rfl) (by decide) (fun hb51 => ?_) (fun hb51 => ?_)
                · rw [b32_0] at hb51
                  obtain ⟨I2, hI2⟩ : ∃ X, X = I1 := ⟨I1, rfl⟩
                  have hcr : ∀ i, i < 5 → I1 (134 + 1 + i) f = Φ f i := fun i hi => by rw [hF f (by omega) i hi, if_neg (by omega)]
                  have hA : ∀ g, g < 12 → ∀ i, i < 5 → I2 (134 + 1 + i) g = if g = f then (hrF lb (a_ f) p_ (Φ f)) i else I1 (134 + 1 + i) g := fun g hg i hi => by
                    rw [hI2]
                    by_cases e : g = f
                    · subst e
                      rw [if_pos rfl, hcr i hi, show hrF lb (a_ g) p_ (Φ g) = Φ g from if_neg (fun q => by have q2 := q.2.2; rw [hb51] at q2; exact absurd q2 (by decide))]
                    · rw [if_neg e]
                  have hO2 : fcO I1 I2 134 := by rw [hI2]; exact fcO.rf _ _
                  rw [← hI2]
                  clear hI2
                  refine r_aload_n C 1 (dk oX10_hear 38 rfl) rfl ?_
                  refine r_getR C (dk oX10_hear 39 rfl) fl_X10_62 rfl (km hn rfl) ?_
                  refine r_iload_n C 4 (dk oX10_hear 40 rfl) rfl ?_
                  refine r_iald C _ (dk oX10_hear 41 rfl) rfl (km hn rfl) rfl (by omega) (by decide) ?_
                  have hfo : fsOK (hrF lb (a_ f) p_ (Φ f)) := fsOK_hr (hok f (by omega)) (ha f (by omega)).2
                  rw [show I2 135 f = (hrF lb (a_ f) p_ (Φ f)) 0 from by rw [show (135 : Nat) = 134 + 1 + 0 from rfl, hA f (by omega) 0 (by decide), if_pos rfl]]
                  refine r_iconst C (dk oX10_hear 42 rfl) (v := nI 1) (by decide) ?_
                  refine r_icmp_ne (tgt := 110) C (dk oX10_hear 43 rfl) (by decide) (fun hb69 => ?_) (fun hb69 => ?_)
                  · have hs81 : ¬ adB p_ (hrF lb (a_ f) p_ (Φ f)) = true := by
                      rw [adB_o hfo]
                      intro q
                      exact hb69 (of_decide_eq_true q).1
                    refine r_iinc (lo' := [(3, _), (4, _), (0, _), (1, _), (2, _)]) C 4 (dk oX10_hear 72 rfl) rfl (by first | exact nI_inc _ | rfl) (by decide) rfl ?_
                    refine r_goto (tgt := 9) C (dk oX10_hear 73 rfl) (by decide) ?_
                    refine V.sub [2, 3, 4, 0] rfl ?_
                    first
                      | (have hih := ih (f + 1) I2 (by omega) (by omega) (fun g hg i hi => by
                           rw [hA g hg i hi]
                           by_cases e : g = f
                           · subst e
                             rw [if_pos rfl, if_pos (by omega), show admF p_ (hrF lb (a_ g) p_ (Φ g)) = _ from if_neg hs81]
                           · rw [if_neg e, hF g hg i hi]
                             by_cases e2 : g < f
                             · rw [if_pos e2, if_pos (by omega)]
                             · rw [if_neg e2, if_neg (by omega)]) (by rw [hO2 140 (by decide), hS, bS_s, if_neg hs81]) (fun q hq => by rw [hO2 140 (by decide)]; exact hS2 q hq) (fun k hk => by rw [hO2 k (by omega)]; exact hO k hk)
                         exact hih)
                      | (have hih := ih (f + 1) (up2 (up2 (up2 I2 135 f (nI 2)) 139 f (nI p_)) 140 p_ (nI (bS (fun f => adB p_ (hrF lb (a_ f) p_ (Φ f))) f ||| 2 ^ f))) (by omega) (by omega) (fun g hg i hi => by
                           rw [up2_ne (by omega)]
                           by_cases e : g = f
                           · subst e
                             rw [if_pos (by omega), show admF p_ (hrF lb (a_ g) p_ (Φ g)) = _ from if_pos hs81]
                             rcases (by omega : i = 0 ∨ i = 4 ∨ (i ≠ 0 ∧ i ≠ 4)) with rfl | rfl | ⟨i0, i4⟩
                             · rw [up2_ne (by decide), up2_at]; rfl
                             · rw [up2_at]; rfl
                             · rw [up2_ne (by omega), up2_ne (by omega), hA g hg i hi, if_pos rfl]
                               unfold ans
                               rw [if_neg i0, if_neg i4]
                           · rw [up2_ap, up2_ap, if_neg e, if_neg e, ite_self, ite_self, hA g hg i hi, if_neg e, hF g hg i hi]
                             by_cases e2 : g < f
                             · rw [if_pos e2, if_pos (by omega)]
                             · rw [if_neg e2, if_neg (by omega)]) (by rw [up2_at, bS_s, if_pos hs81]) (fun q hq => by rw [up2_off hq, up2_ne (by decide), up2_ne (by decide), hO2 140 (by decide)]; exact hS2 q hq) (fun k hk => by rw [up2_ne (by omega), up2_ne (by omega), up2_ne (by omega), hO2 k (by omega)]; exact hO k hk)
                         exact hih)
                  · refine r_aload_n C 1 (dk oX10_hear 44 rfl) rfl ?_
                    refine r_getR C (dk oX10_hear 45 rfl) fl_X10_68 rfl (km hn rfl) ?_
                    refine r_iload_n C 4 (dk oX10_hear 46 rfl) rfl ?_
                    refine r_iald C _ (dk oX10_hear 47 rfl) rfl (km hn rfl) rfl (by omega) (by decide) ?_
                    rw [show I2 137 f = (hrF lb (a_ f) p_ (Φ f)) 2 from by rw [show (137 : Nat) = 134 + 1 + 2 from rfl, hA f (by omega) 2 (by decide), if_pos rfl]]
                    refine r_iload_n C 2 (dk oX10_hear 48 rfl) rfl ?_
                    refine r_iconst C (dk oX10_hear 49 rfl) (v := nI 2) (by decide) ?_
                    refine r_irem C (dk oX10_hear 50 rfl) (by decide) ?_
                    rw [mod2 (by omega)]
                    refine r_icmp_eq (tgt := 110) C (dk oX10_hear 51 rfl) (by decide) (fun hb81 => ?_) (fun hb81 => ?_)
                    · have hs81 : ¬ adB p_ (hrF lb (a_ f) p_ (Φ f)) = true := by
                        rw [adB_o hfo]
                        intro q
                        exact (of_decide_eq_true q).2 hb81
                      refine r_iinc (lo' := [(3, _), (4, _), (0, _), (1, _), (2, _)]) C 4 (dk oX10_hear 72 rfl) rfl (by first | exact nI_inc _ | rfl) (by decide) rfl ?_
                      refine r_goto (tgt := 9) C (dk oX10_hear 73 rfl) (by decide) ?_
                      refine V.sub [2, 3, 4, 0] rfl ?_
                      first
                        | (have hih := ih (f + 1) I2 (by omega) (by omega) (fun g hg i hi => by
                             rw [hA g hg i hi]
                             by_cases e : g = f
                             · subst e
                               rw [if_pos rfl, if_pos (by omega), show admF p_ (hrF lb (a_ g) p_ (Φ g)) = _ from if_neg hs81]
                             · rw [if_neg e, hF g hg i hi]
                               by_cases e2 : g < f
                               · rw [if_pos e2, if_pos (by omega)]
                               · rw [if_neg e2, if_neg (by omega)]) (by rw [hO2 140 (by decide), hS, bS_s, if_neg hs81]) (fun q hq => by rw [hO2 140 (by decide)]; exact hS2 q hq) (fun k hk => by rw [hO2 k (by omega)]; exact hO k hk)
                           exact hih)
                        | (have hih := ih (f + 1) (up2 (up2 (up2 I2 135 f (nI 2)) 139 f (nI p_)) 140 p_ (nI (bS (fun f => adB p_ (hrF lb (a_ f) p_ (Φ f))) f ||| 2 ^ f))) (by omega) (by omega) (fun g hg i hi => by
                             rw [up2_ne (by omega)]
                             by_cases e : g = f
                             · subst e
                               rw [if_pos (by omega), show admF p_ (hrF lb (a_ g) p_ (Φ g)) = _ from if_pos hs81]
                               rcases (by omega : i = 0 ∨ i = 4 ∨ (i ≠ 0 ∧ i ≠ 4)) with rfl | rfl | ⟨i0, i4⟩
                               · rw [up2_ne (by decide), up2_at]; rfl
                               · rw [up2_at]; rfl
                               · rw [up2_ne (by omega), up2_ne (by omega), hA g hg i hi, if_pos rfl]
                                 unfold ans
                                 rw [if_neg i0, if_neg i4]
                             · rw [up2_ap, up2_ap, if_neg e, if_neg e, ite_self, ite_self, hA g hg i hi, if_neg e, hF g hg i hi]
                               by_cases e2 : g < f
                               · rw [if_pos e2, if_pos (by omega)]
                               · rw [if_neg e2, if_neg (by omega)]) (by rw [up2_at, bS_s, if_pos hs81]) (fun q hq => by rw [up2_off hq, up2_ne (by decide), up2_ne (by decide), hO2 140 (by decide)]; exact hS2 q hq) (fun k hk => by rw [up2_ne (by omega), up2_ne (by omega), up2_ne (by omega), hO2 k (by omega)]; exact hO k hk)
                           exact hih)
                    · have hs81 : adB p_ (hrF lb (a_ f) p_ (Φ f)) = true := by
                        rw [adB_o hfo]
                        exact decide_eq_true ⟨hb69, hb81⟩
                      refine r_aload_n C 1 (dk oX10_hear 52 rfl) rfl ?_
                      refine r_getR C (dk oX10_hear 53 rfl) fl_X10_62 rfl (km hn rfl) ?_
                      refine r_iload_n C 4 (dk oX10_hear 54 rfl) rfl ?_
                      refine r_iconst C (dk oX10_hear 55 rfl) (v := nI 2) (by decide) ?_
                      refine r_iast C _ (dk oX10_hear 56 rfl) rfl (km hn rfl) rfl (by omega) (by decide) ?_
                      refine r_aload_n C 1 (dk oX10_hear 57 rfl) rfl ?_
                      refine r_getR C (dk oX10_hear 58 rfl) fl_X10_74 rfl (km hn rfl) ?_
                      refine r_iload_n C 4 (dk oX10_hear 59 rfl) rfl ?_
                      refine r_iload_n C 2 (dk oX10_hear 60 rfl) rfl ?_
                      refine r_iast C _ (dk oX10_hear 61 rfl) rfl (km hn rfl) rfl (by omega) (by decide) ?_
                      refine r_aload_n C 1 (dk oX10_hear 62 rfl) rfl ?_
                      refine r_getR C (dk oX10_hear 63 rfl) fl_X10_77 rfl (km hn rfl) ?_
                      refine r_iload_n C 2 (dk oX10_hear 64 rfl) rfl ?_
                      refine r_dup2 C (dk oX10_hear 65 rfl) rfl rfl ?_
                      refine r_iald C _ (dk oX10_hear 66 rfl) rfl (km hn rfl) rfl (by omega) (by decide) ?_
                      rw [up2_ne (by decide), up2_ne (by decide), hO2 140 (by decide), hS]
                      refine r_iconst C (dk oX10_hear 67 rfl) (v := nI 1) (by decide) ?_
                      refine r_iload_n C 4 (dk oX10_hear 68 rfl) rfl ?_
                      refine r_ishl C (dk oX10_hear 69 rfl) ?_
                      refine r_ior C (dk oX10_hear 70 rfl) ?_
                      rw [or_bit (by omega)]
                      refine r_iast C _ (dk oX10_hear 71 rfl) rfl (km hn rfl) rfl (by omega) (by decide) ?_
                      refine r_iinc (lo' := [(3, _), (4, _), (0, _), (1, _), (2, _)]) C 4 (dk oX10_hear 72 rfl) rfl (by first | exact nI_inc _ | rfl) (by decide) rfl ?_
                      refine r_goto (tgt := 9) C (dk oX10_hear 73 rfl) (by decide) ?_
                      refine V.sub [2, 3, 4, 0] rfl ?_
                      first
                        | (have hih := ih (f + 1) I2 (by omega) (by omega) (fun g hg i hi => by
                             rw [hA g hg i hi]
                             by_cases e : g = f
                             · subst e
                               rw [if_pos rfl, if_pos (by omega), show admF p_ (hrF lb (a_ g) p_ (Φ g)) = _ from if_neg hs81]
                             · rw [if_neg e, hF g hg i hi]
                               by_cases e2 : g < f
                               · rw [if_pos e2, if_pos (by omega)]
                               · rw [if_neg e2, if_neg (by omega)]) (by rw [hO2 140 (by decide), hS, bS_s, if_neg hs81]) (fun q hq => by rw [hO2 140 (by decide)]; exact hS2 q hq) (fun k hk => by rw [hO2 k (by omega)]; exact hO k hk)
                           exact hih)
                        | (have hih := ih (f + 1) (up2 (up2 (up2 I2 135 f (nI 2)) 139 f (nI p_)) 140 p_ (nI (bS (fun f => adB p_ (hrF lb (a_ f) p_ (Φ f))) f ||| 2 ^ f))) (by omega) (by omega) (fun g hg i hi => by
                             rw [up2_ne (by omega)]
                             by_cases e : g = f
                             · subst e
                               rw [if_pos (by omega), show admF p_ (hrF lb (a_ g) p_ (Φ g)) = _ from if_pos hs81]
                               rcases (by omega : i = 0 ∨ i = 4 ∨ (i ≠ 0 ∧ i ≠ 4)) with rfl | rfl | ⟨i0, i4⟩
                               · rw [up2_ne (by decide), up2_at]; rfl
                               · rw [up2_at]; rfl
                               · rw [up2_ne (by omega), up2_ne (by omega), hA g hg i hi, if_pos rfl]
                                 unfold ans
                                 rw [if_neg i0, if_neg i4]
                             · rw [up2_ap, up2_ap, if_neg e, if_neg e, ite_self, ite_self, hA g hg i hi, if_neg e, hF g hg i hi]
                               by_cases e2 : g < f
                               · rw [if_pos e2, if_pos (by omega)]
                               · rw [if_neg e2, if_neg (by omega)]) (by rw [up2_at, bS_s, if_pos hs81]) (fun q hq => by rw [up2_off hq, up2_ne (by decide), up2_ne (by decide), hO2 140 (by decide)]; exact hS2 q hq) (fun k hk => by rw [up2_ne (by omega), up2_ne (by omega), up2_ne (by omega), hO2 k (by omega)]; exact hO k hk)
                           exact hih)
                · rw [b32_n] at hb51
                  refine r_aload_n C 1 (dk oX10_hear 33 rfl) rfl ?_
                  refine r_iload C 0 (dk oX10_hear 34 rfl) rfl ?_
                  refine r_iload_n C 4 (dk oX10_hear 35 rfl) rfl ?_
                  refine r_iload_n C 2 (dk oX10_hear 36 rfl) rfl ?_
                  refine r_ivv C Z (dk oX10_hear 37 rfl) cl_X10_121 ci_X10_act rfl (km hn rfl) (c_X10_act hn I1 J f (a_ f) p_ (by omega) hp (by omega)) rfl rfl (Nat.le_of_ble_eq_true rfl) ⟨Nat.le_of_ble_eq_true rfl, Nat.le_of_ble_eq_true rfl⟩ ⟨Nat.zero_le _, Nat.zero_le _⟩ (fun I59 J59 h59 => ?_)
                  obtain ⟨h59, e2_⟩ := h59
                  have e2_ := e2_.symm
                  subst e2_
                  generalize I59 = I2 at h59
                  have hcr : ∀ i, i < 5 → I1 (134 + 1 + i) f = Φ f i := fun i hi => by rw [hF f (by omega) i hi, if_neg (by omega)]
                  have hA : ∀ g, g < 12 → ∀ i, i < 5 → I2 (134 + 1 + i) g = if g = f then (hrF lb (a_ f) p_ (Φ f)) i else I1 (134 + 1 + i) g := fun g hg i hi => by
                    rw [h59.2 i hi g]
                    by_cases e : g = f
                    · subst e
                      rw [if_pos rfl, if_pos rfl, show hrF lb (a_ g) p_ (Φ g) = app (a_ g) p_ (Φ g) from if_pos ⟨hb16, by omega, hb51⟩]
                      exact app_cong (fun j hj => hcr j hj) i hi
                    · rw [if_neg e, if_neg e]
                  have hO2 : fcO I1 I2 134 := h59.1
                  refine r_aload_n C 1 (dk oX10_hear 38 rfl) rfl ?_
                  refine r_getR C (dk oX10_hear 39 rfl) fl_X10_62 rfl (km hn rfl) ?_
                  refine r_iload_n C 4 (dk oX10_hear 40 rfl) rfl ?_
                  refine r_iald C _ (dk oX10_hear 41 rfl) rfl (km hn rfl) rfl (by omega) (by decide) ?_
                  have hfo : fsOK (hrF lb (a_ f) p_ (Φ f)) := fsOK_hr (hok f (by omega)) (ha f (by omega)).2
                  rw [show I2 135 f = (hrF lb (a_ f) p_ (Φ f)) 0 from by rw [show (135 : Nat) = 134 + 1 + 0 from rfl, hA f (by omega) 0 (by decide), if_pos rfl]]
                  refine r_iconst C (dk oX10_hear 42 rfl) (v := nI 1) (by decide) ?_
                  refine r_icmp_ne (tgt := 110) C (dk oX10_hear 43 rfl) (by decide) (fun hb69 => ?_) (fun hb69 => ?_)
                  · have hs81 : ¬ adB p_ (hrF lb (a_ f) p_ (Φ f)) = true := by
                      rw [adB_o hfo]
                      intro q
                      exact hb69 (of_decide_eq_true q).1
                    refine r_iinc (lo' := [(3, _), (4, _), (0, _), (1, _), (2, _)]) C 4 (dk oX10_hear 72 rfl) rfl (by first | exact nI_inc _ | rfl) (by decide) rfl ?_
                    refine r_goto (tgt := 9) C (dk oX10_hear 73 rfl) (by decide) ?_
                    refine V.sub [2, 3, 4, 0] rfl ?_
                    first
                      | (have hih := ih (f + 1) I2 (by omega) (by omega) (fun g hg i hi => by
                           rw [hA g hg i hi]
                           by_cases e : g = f
                           · subst e
                             rw [if_pos rfl, if_pos (by omega), show admF p_ (hrF lb (a_ g) p_ (Φ g)) = _ from if_neg hs81]
                           · rw [if_neg e, hF g hg i hi]
                             by_cases e2 : g < f
                             · rw [if_pos e2, if_pos (by omega)]
                             · rw [if_neg e2, if_neg (by omega)]) (by rw [hO2 140 (by decide), hS, bS_s, if_neg hs81]) (fun q hq => by rw [hO2 140 (by decide)]; exact hS2 q hq) (fun k hk => by rw [hO2 k (by omega)]; exact hO k hk)
                         exact hih)
                      | (have hih := ih (f + 1) (up2 (up2 (up2 I2 135 f (nI 2)) 139 f (nI p_)) 140 p_ (nI (bS (fun f => adB p_ (hrF lb (a_ f) p_ (Φ f))) f ||| 2 ^ f))) (by omega) (by omega) (fun g hg i hi => by
                           rw [up2_ne (by omega)]
                           by_cases e : g = f
                           · subst e
                             rw [if_pos (by omega), show admF p_ (hrF lb (a_ g) p_ (Φ g)) = _ from if_pos hs81]
                             rcases (by omega : i = 0 ∨ i = 4 ∨ (i ≠ 0 ∧ i ≠ 4)) with rfl | rfl | ⟨i0, i4⟩
                             · rw [up2_ne (by decide), up2_at]; rfl
                             · rw [up2_at]; rfl
                             · rw [up2_ne (by omega), up2_ne (by omega), hA g hg i hi, if_pos rfl]
                               unfold ans
                               rw [if_neg i0, if_neg i4]
                           · rw [up2_ap, up2_ap, if_neg e, if_neg e, ite_self, ite_self, hA g hg i hi, if_neg e, hF g hg i hi]
                             by_cases e2 : g < f
                             · rw [if_pos e2, if_pos (by omega)]
                             · rw [if_neg e2, if_neg (by omega)]) (by rw [up2_at, bS_s, if_pos hs81]) (fun q hq => by rw [up2_off hq, up2_ne (by decide), up2_ne (by decide), hO2 140 (by decide)]; exact hS2 q hq) (fun k hk => by rw [up2_ne (by omega), up2_ne (by omega), up2_ne (by omega), hO2 k (by omega)]; exact hO k hk)
                         exact hih)
                  · refine r_aload_n C 1 (dk oX10_hear 44 rfl) rfl ?_
                    refine r_getR C (dk oX10_hear 45 rfl) fl_X10_68 rfl (km hn rfl) ?_
                    refine r_iload_n C 4 (dk oX10_hear 46 rfl) rfl ?_
                    refine r_iald C _ (dk oX10_hear 47 rfl) rfl (km hn rfl) rfl (by omega) (by decide) ?_
                    rw [show I2 137 f = (hrF lb (a_ f) p_ (Φ f)) 2 from by rw [show (137 : Nat) = 134 + 1 + 2 from rfl, hA f (by omega) 2 (by decide), if_pos rfl]]
                    refine r_iload_n C 2 (dk oX10_hear 48 rfl) rfl ?_
                    refine r_iconst C (dk oX10_hear 49 rfl) (v := nI 2) (by decide) ?_
                    refine r_irem C (dk oX10_hear 50 rfl) (by decide) ?_
                    rw [mod2 (by omega)]
                    refine r_icmp_eq (tgt := 110) C (dk oX10_hear 51 rfl) (by decide) (fun hb81 => ?_) (fun hb81 => ?_)
                    · have hs81 : ¬ adB p_ (hrF lb (a_ f) p_ (Φ f)) = true := by
                        rw [adB_o hfo]
                        intro q
                        exact (of_decide_eq_true q).2 hb81
                      refine r_iinc (lo' := [(3, _), (4, _), (0, _), (1, _), (2, _)]) C 4 (dk oX10_hear 72 rfl) rfl (by first | exact nI_inc _ | rfl) (by decide) rfl ?_
                      refine r_goto (tgt := 9) C (dk oX10_hear 73 rfl) (by decide) ?_
                      refine V.sub [2, 3, 4, 0] rfl ?_
                      first
                        | (have hih := ih (f + 1) I2 (by omega) (by omega) (fun g hg i hi => by
                             rw [hA g hg i hi]
                             by_cases e : g = f
                             · subst e
                               rw [if_pos rfl, if_pos (by omega), show admF p_ (hrF lb (a_ g) p_ (Φ g)) = _ from if_neg hs81]
                             · rw [if_neg e, hF g hg i hi]
                               by_cases e2 : g < f
                               · rw [if_pos e2, if_pos (by omega)]
                               · rw [if_neg e2, if_neg (by omega)]) (by rw [hO2 140 (by decide), hS, bS_s, if_neg hs81]) (fun q hq => by rw [hO2 140 (by decide)]; exact hS2 q hq) (fun k hk => by rw [hO2 k (by omega)]; exact hO k hk)
                           exact hih)
                        | (have hih := ih (f + 1) (up2 (up2 (up2 I2 135 f (nI 2)) 139 f (nI p_)) 140 p_ (nI (bS (fun f => adB p_ (hrF lb (a_ f) p_ (Φ f))) f ||| 2 ^ f))) (by omega) (by omega) (fun g hg i hi => by
                             rw [up2_ne (by omega)]
                             by_cases e : g = f
                             · subst e
                               rw [if_pos (by omega), show admF p_ (hrF lb (a_ g) p_ (Φ g)) = _ from if_pos hs81]
                               rcases (by omega : i = 0 ∨ i = 4 ∨ (i ≠ 0 ∧ i ≠ 4)) with rfl | rfl | ⟨i0, i4⟩
                               · rw [up2_ne (by decide), up2_at]; rfl
                               · rw [up2_at]; rfl
                               · rw [up2_ne (by omega), up2_ne (by omega), hA g hg i hi, if_pos rfl]
                                 unfold ans
                                 rw [if_neg i0, if_neg i4]
                             · rw [up2_ap, up2_ap, if_neg e, if_neg e, ite_self, ite_self, hA g hg i hi, if_neg e, hF g hg i hi]
                               by_cases e2 : g < f
                               · rw [if_pos e2, if_pos (by omega)]
                               · rw [if_neg e2, if_neg (by omega)]) (by rw [up2_at, bS_s, if_pos hs81]) (fun q hq => by rw [up2_off hq, up2_ne (by decide), up2_ne (by decide), hO2 140 (by decide)]; exact hS2 q hq) (fun k hk => by rw [up2_ne (by omega), up2_ne (by omega), up2_ne (by omega), hO2 k (by omega)]; exact hO k hk)
                           exact hih)
                    · have hs81 : adB p_ (hrF lb (a_ f) p_ (Φ f)) = true := by
                        rw [adB_o hfo]
                        exact decide_eq_true ⟨hb69, hb81⟩
                      refine r_aload_n C 1 (dk oX10_hear 52 rfl) rfl ?_
                      refine r_getR C (dk oX10_hear 53 rfl) fl_X10_62 rfl (km hn rfl) ?_
                      refine r_iload_n C 4 (dk oX10_hear 54 rfl) rfl ?_
                      refine r_iconst C (dk oX10_hear 55 rfl) (v := nI 2) (by decide) ?_
                      refine r_iast C _ (dk oX10_hear 56 rfl) rfl (km hn rfl) rfl (by omega) (by decide) ?_
                      refine r_aload_n C 1 (dk oX10_hear 57 rfl) rfl ?_
                      refine r_getR C (dk oX10_hear 58 rfl) fl_X10_74 rfl (km hn rfl) ?_
                      refine r_iload_n C 4 (dk oX10_hear 59 rfl) rfl ?_
                      refine r_iload_n C 2 (dk oX10_hear 60 rfl) rfl ?_
                      refine r_iast C _ (dk oX10_hear 61 rfl) rfl (km hn rfl) rfl (by omega) (by decide) ?_
                      refine r_aload_n C 1 (dk oX10_hear 62 rfl) rfl ?_
                      refine r_getR C (dk oX10_hear 63 rfl) fl_X10_77 rfl (km hn rfl) ?_
                      refine r_iload_n C 2 (dk oX10_hear 64 rfl) rfl ?_
                      refine r_dup2 C (dk oX10_hear 65 rfl) rfl rfl ?_
                      refine r_iald C _ (dk oX10_hear 66 rfl) rfl (km hn rfl) rfl (by omega) (by decide) ?_
                      rw [up2_ne (by decide), up2_ne (by decide), hO2 140 (by decide), hS]
                      refine r_iconst C (dk oX10_hear 67 rfl) (v := nI 1) (by decide) ?_
                      refine r_iload_n C 4 (dk oX10_hear 68 rfl) rfl ?_
                      refine r_ishl C (dk oX10_hear 69 rfl) ?_
                      refine r_ior C (dk oX10_hear 70 rfl) ?_
                      rw [or_bit (by omega)]
                      refine r_iast C _ (dk oX10_hear 71 rfl) rfl (km hn rfl) rfl (by omega) (by decide) ?_
                      refine r_iinc (lo' := [(3, _), (4, _), (0, _), (1, _), (2, _)]) C 4 (dk oX10_hear 72 rfl) rfl (by first | exact nI_inc _ | rfl) (by decide) rfl ?_
                      refine r_goto (tgt := 9) C (dk oX10_hear 73 rfl) (by decide) ?_
                      refine V.sub [2, 3, 4, 0] rfl ?_
                      first
                        | (have hih := ih (f + 1) I2 (by omega) (by omega) (fun g hg i hi => by
                             rw [hA g hg i hi]
                             by_cases e : g = f
                             · subst e
                               rw [if_pos rfl, if_pos (by omega), show admF p_ (hrF lb (a_ g) p_ (Φ g)) = _ from if_neg hs81]
                             · rw [if_neg e, hF g hg i hi]
                               by_cases e2 : g < f
                               · rw [if_pos e2, if_pos (by omega)]
                               · rw [if_neg e2, if_neg (by omega)]) (by rw [hO2 140 (by decide), hS, bS_s, if_neg hs81]) (fun q hq => by rw [hO2 140 (by decide)]; exact hS2 q hq) (fun k hk => by rw [hO2 k (by omega)]; exact hO k hk)
                           exact hih)
                        | (have hih := ih (f + 1) (up2 (up2 (up2 I2 135 f (nI 2)) 139 f (nI p_)) 140 p_ (nI (bS (fun f => adB p_ (hrF lb (a_ f) p_ (Φ f))) f ||| 2 ^ f))) (by omega) (by omega) (fun g hg i hi => by
                             rw [up2_ne (by omega)]
                             by_cases e : g = f
                             · subst e
                               rw [if_pos (by omega), show admF p_ (hrF lb (a_ g) p_ (Φ g)) = _ from if_pos hs81]
                               rcases (by omega : i = 0 ∨ i = 4 ∨ (i ≠ 0 ∧ i ≠ 4)) with rfl | rfl | ⟨i0, i4⟩
                               · rw [up2_ne (by decide), up2_at]; rfl
                               · rw [up2_at]; rfl
                               · rw [up2_ne (by omega), up2_ne (by omega), hA g hg i hi, if_pos rfl]
                                 unfold ans
                                 rw [if_neg i0, if_neg i4]
                             · rw [up2_ap, up2_ap, if_neg e, if_neg e, ite_self, ite_self, hA g hg i hi, if_neg e, hF g hg i hi]
                               by_cases e2 : g < f
                               · rw [if_pos e2, if_pos (by omega)]
                               · rw [if_neg e2, if_neg (by omega)]) (by rw [up2_at, bS_s, if_pos hs81]) (fun q hq => by rw [up2_off hq, up2_ne (by decide), up2_ne (by decide), hO2 140 (by decide)]; exact hS2 q hq) (fun k hk => by rw [up2_ne (by omega), up2_ne (by omega), up2_ne (by omega), hO2 k (by omega)]; exact hO k hk)
                           exact hih)
  refine V.sub [1, 2, 3, 0] rfl ?_
  exact L9 13 0 _ (by omega) (Nat.zero_le _) (fun g hg i hi => by rw [up2_ne (by omega), if_neg (by omega)]; exact hM g hg i hi) (by rw [up2_at]; rfl) (fun q hq => up2_off hq) (fun k hk => up2_ne (by omega))

end MOD2
