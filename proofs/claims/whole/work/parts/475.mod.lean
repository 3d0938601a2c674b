section MOD165
variable {l : Launch} {n : Nat} {ad : Nat → Nat} {cA : Nat → ClassId} {D : va_G} {z : Zw}
theorem sub_lt {S w : Nat} (h : sub S w = true) (hw : w < 4096) : S < 4096 := Nat.lt_of_le_of_lt (by rw [← of_decide_eq_true h]; exact Nat.and_le_right) hw
theorem sub_rf (S : Nat) : sub S S = true := by
  unfold sub
  rw [Nat.and_self]
  exact decide_eq_true rfl
theorem en_hit {C : List Nat} {Φ : Nat → FS} (hok : fsA Φ) {s n : Nat} (hsub : sub s (opN Φ) = true) (hpc : pc s = n) (hP : enM C Φ s = true) (hmin : ∀ S, sub S (opN Φ) = true → enM C Φ S = true → n ≤ pc S) (hlow : ∀ S, S < s → pc S = n → sub S (opN Φ) = true → enM C Φ S = false) : fwN (fun S => enB C Φ S) (opN Φ) (2 ^ pc (opN Φ)) = some s := by
  refine fw_of opN_lt hsub (by rw [← en_eq hok hsub]; exact hP) (fun S h1 h2 => ?_)
  have h2' : enM C Φ S = true := by rw [en_eq hok h1]; exact h2
  have h3 := hmin S h1 h2'
  rw [hpc]
  by_cases e : pc S = n
  · refine Or.inr ⟨e.symm, ?_⟩
    by_cases e2 : S < s
    · rw [hlow S e2 e h1] at h2'; cases h2'
    · exact Nat.le_of_not_lt e2
  · exact Or.inl (Nat.lt_of_le_of_ne h3 (Ne.symm e))
theorem en_no {C : List Nat} {Φ : Nat → FS} (hok : fsA Φ) (hmin : ∀ S, sub S (opN Φ) = true → enM C Φ S = true → 9 ≤ pc S) (h8 : ¬ 8 < pc (opN Φ)) : fwN (fun S => enB C Φ S) (opN Φ) (2 ^ pc (opN Φ)) = none := by
  refine fw_ofn (fun S h1 => ?_)
  cases h2 : enB C Φ S
  · rfl
  · have h2' : enM C Φ S = true := by rw [en_eq hok h1]; exact h2
    have h3 := hmin S h1 h2'
    have h4 := pc_mono h1
    generalize pc S = a at *
    generalize pc (opN Φ) = b at *
    omega
theorem sil_hit {C : List Nat} {Φ : Nat → FS} (hok : fsA Φ) {t s n : Nat} (hsu : surF C Φ ≠ -1) (hsub : sub s (admN Φ t) = true) (hpc : pc s = n) (hP : suD C Φ s ≠ surF C Φ) (hmin : ∀ S, sub S (admN Φ t) = true → suD C Φ S ≠ surF C Φ → n ≤ pc S) (hlow : ∀ S, S < s → pc S = n → sub S (admN Φ t) = true → suD C Φ S = surF C Φ) : fwN (fun S => cgB C Φ S (decide (surF C Φ = nI 1))) (admN Φ t) (2 ^ pc (admN Φ t)) = some s := by
  have hal : admN Φ t < 4096 := bS_lt 12
  have hD := fun (S : Nat) (h1 : sub S (admN Φ t) = true) => silD (C := C) hok (S := S) (fun f _ hf2 => by
    have h2 := sub_t.mp h1 f hf2
    unfold admN at h2
    rw [bS_bit, Bool.and_eq_true] at h2
    exact (of_decide_eq_true h2.2).1) (sub_lt h1 hal) hsu
  have hPs : cgB C Φ s (decide (surF C Φ = nI 1)) = true := by
    obtain ⟨T, hT, hcg⟩ := (hD s hsub).mp hP
    have hT2 := sub_tr hT hsub
    have h1 := hmin T hT2 ((hD T hT2).mpr ⟨T, sub_rf T, hcg⟩)
    have hs4 := sub_lt hsub hal
    have hTe : T = s := pc_eqs (a := T) (b := s) (Nat.lt_of_lt_of_le hs4 (by decide)) hT (by rw [hpc]; exact h1)
    rw [← hTe]
    exact hcg
  refine fw_of hal hsub hPs (fun S h1 h2 => ?_)
  have h3 := (hD S h1).mpr ⟨S, sub_rf S, h2⟩
  have h4 := hmin S h1 h3
  rw [hpc]
  by_cases e : pc S = n
  · refine Or.inr ⟨e.symm, ?_⟩
    by_cases e2 : S < s
    · exact absurd (hlow S e2 e h1) h3
    · exact Nat.le_of_not_lt e2
  · exact Or.inl (Nat.lt_of_le_of_ne h4 (Ne.symm e))
theorem sil_no {C : List Nat} {Φ : Nat → FS} (hok : fsA Φ) {t : Nat} (hsu : surF C Φ ≠ -1) (hmin : ∀ S, sub S (admN Φ t) = true → suD C Φ S ≠ surF C Φ → 13 ≤ pc S) : fwN (fun S => cgB C Φ S (decide (surF C Φ = nI 1))) (admN Φ t) (2 ^ pc (admN Φ t)) = none := by
  have hal : admN Φ t < 4096 := bS_lt 12
  refine fw_ofn (fun S h1 => ?_)
  cases h2 : cgB C Φ S (decide (surF C Φ = nI 1))
  · rfl
  · have h3 := (silD (C := C) hok (S := S) (fun f _ hf2 => by
      have h2 := sub_t.mp h1 f hf2
      unfold admN at h2
      rw [bS_bit, Bool.and_eq_true] at h2
      exact (of_decide_eq_true h2.2).1) (sub_lt h1 hal) hsu).mpr ⟨S, sub_rf S, h2⟩
    have h4 := hmin S h1 h3
    have h5 := pc12 (sub_lt h1 hal)
    generalize pc S = a at *
    omega
theorem adm_eq {Φ : Nat → FS} (hok : fsA Φ) {s : Nat} (hs : s < 2) : bS (fun f => decide (Φ f 0 = nI 2 ∧ ¬ Φ f 2 = nI s)) 12 = admN Φ s := by
  unfold admN
  refine bS_cong 12 (fun f hf => decide_eq_decide.mpr ?_)
  rcases hok f hf with h | h
  · rw [h.1]; exact Iff.intro (fun q => absurd q.1 (by decide)) (fun q => absurd q.1 (by decide))
  · refine and_congr_right (fun _ => ?_)
    rcases (by omega : s = 0 ∨ s = 1) with e | e <;> rcases h.2.1 with h2 | h2 <;> rw [e, h2] <;> decide
theorem surF_lt {C : List Nat} {Φ : Nat → FS} : surF C Φ < 0 ↔ surF C Φ = -1 := by
  unfold surF
  split
  · decide
  · split <;> decide
theorem sil_1 {C : List Nat} {Φ : Nat → FS} (hok : fsA Φ) {t S : Nat} (h1 : sub S (admN Φ t) = true) (h2 : suD C Φ S ≠ surF C Φ) : 1 ≤ pc S := by
  have hal : admN Φ t < 4096 := bS_lt 12
  by_cases e : pc S = 0
  · have h0 := pc_0 (Nat.lt_of_lt_of_le (sub_lt h1 hal) (by decide)) e
    rw [h0] at h2
    exact absurd (suD_0 hok) h2
  · exact Nat.one_le_iff_ne_zero.mpr e
theorem low_s {P : Nat → Prop} {n s : Nat} {Q : Nat → Prop} (hlow : ∀ S, S < s → pc S = n → Q S → P S) (h : pc s = n → Q s → P s) : ∀ S, S < s + 1 → pc S = n → Q S → P S := by
  intro S h1 h2 h3
  by_cases e : S = s
  · rw [e] at h2 h3 ⊢
    exact h h2 h3
  · exact hlow S (Nat.lt_of_le_of_ne (Nat.le_of_lt_succ h1) e) h2 h3
theorem min_s {n w : Nat} {P : Nat → Prop} (hw : w < 4096) (hmin : ∀ S, sub S w = true → P S → n ≤ pc S) (hlow : ∀ S, S < 4096 → pc S = n → sub S w = true → ¬ P S) : ∀ S, sub S w = true → P S → n + 1 ≤ pc S := by
  intro S h1 h2
  have h3 := hmin S h1 h2
  by_cases e : pc S = n
  · exact absurd h2 (hlow S (sub_lt h1 hw) e h1)
  · exact Nat.lt_of_le_of_ne h3 (Ne.symm e)
end MOD165
