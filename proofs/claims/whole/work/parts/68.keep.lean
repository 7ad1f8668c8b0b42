-- ===== renumber and join: what they keep, and the next place =====
def zkp (k : Nat) (I : zIT) : zIT := fun c j => if (c = 32 ∨ c = 33 ∨ c = 34 ∨ c = 35) ∧ j < k then I (c - 10) j else I c j
def zgb (k : Nat) (I : zIT) : zIT := fun c j => if (c = 22 ∨ c = 23 ∨ c = 24 ∨ c = 25) ∧ j < k then I (c + 10) j else I c j
theorem zkp_s {I : zIT} {i : Nat} : zu (zu (zu (zu (zkp i I) 32 i (I 22 i)) 33 i (I 23 i)) 34 i (I 24 i)) 35 i (I 25 i) = zkp (i + 1) I := by
  funext c j
  unfold zu zkp
  by_cases h1 : c = 35 ∧ j = i
  · obtain ⟨rfl, rfl⟩ := h1
    rw [if_pos ⟨rfl, rfl⟩, if_pos ⟨by omega, by omega⟩]
  · rw [if_neg h1]
    by_cases h2 : c = 34 ∧ j = i
    · obtain ⟨rfl, rfl⟩ := h2
      rw [if_pos ⟨rfl, rfl⟩, if_pos ⟨by omega, by omega⟩]
    · rw [if_neg h2]
      by_cases h3 : c = 33 ∧ j = i
      · obtain ⟨rfl, rfl⟩ := h3
        rw [if_pos ⟨rfl, rfl⟩, if_pos ⟨by omega, by omega⟩]
      · rw [if_neg h3]
        by_cases h5 : c = 32 ∧ j = i
        · obtain ⟨rfl, rfl⟩ := h5
          rw [if_pos ⟨rfl, rfl⟩, if_pos ⟨by omega, by omega⟩]
        · rw [if_neg h5]
          by_cases h4 : (c = 32 ∨ c = 33 ∨ c = 34 ∨ c = 35) ∧ j < i
          · rw [if_pos h4, if_pos ⟨h4.1, by omega⟩]
          · rw [if_neg h4, if_neg (by omega)]
theorem zgb_s {I : zIT} {i : Nat} : zu (zu (zu (zu (zgb i I) 22 i (I 32 i)) 23 i (I 33 i)) 24 i (I 34 i)) 25 i (I 35 i) = zgb (i + 1) I := by
  funext c j
  unfold zu zgb
  by_cases h1 : c = 25 ∧ j = i
  · obtain ⟨rfl, rfl⟩ := h1
    rw [if_pos ⟨rfl, rfl⟩, if_pos ⟨by omega, by omega⟩]
  · rw [if_neg h1]
    by_cases h2 : c = 24 ∧ j = i
    · obtain ⟨rfl, rfl⟩ := h2
      rw [if_pos ⟨rfl, rfl⟩, if_pos ⟨by omega, by omega⟩]
    · rw [if_neg h2]
      by_cases h3 : c = 23 ∧ j = i
      · obtain ⟨rfl, rfl⟩ := h3
        rw [if_pos ⟨rfl, rfl⟩, if_pos ⟨by omega, by omega⟩]
      · rw [if_neg h3]
        by_cases h5 : c = 22 ∧ j = i
        · obtain ⟨rfl, rfl⟩ := h5
          rw [if_pos ⟨rfl, rfl⟩, if_pos ⟨by omega, by omega⟩]
        · rw [if_neg h5]
          by_cases h4 : (c = 22 ∨ c = 23 ∨ c = 24 ∨ c = 25) ∧ j < i
          · rw [if_pos h4, if_pos ⟨h4.1, by omega⟩]
          · rw [if_neg h4, if_neg (by omega)]
theorem zkp_0 {I : zIT} : zkp 0 I = I := by
  funext c j
  exact if_neg (by omega)
theorem zgb_0 {I : zIT} : zgb 0 I = I := by
  funext c j
  exact if_neg (by omega)
theorem m_keeps {A : zIT} {K : zLT} {I : zIT} {L : zLT} {F : zFT} {E : zET} {dyn : zH} (hw : ∀ p, p < 80 → 0 ≤ I 24 p ∧ I 24 p ≤ 65535) : X8_keeps (zM A K I L F E dyn) (some 14) = some (zM A K (zkp 80 I) L F E dyn) := by
  have h := zloop_0 (body := X8_keeps_b2 (some 14)) (fun i => ((i : Int), zM A K (zkp i I) L F E dyn)) (e := zM A K (zkp 80 I) L F E dyn) 80 (by
    intro i hi
    have r : ∀ c, c < 32 → zkp i I c = I c := fun c hc => by
      funext j
      exact if_neg (by omega)
    have r22 := r 22 (by omega)
    have r23 := r 23 (by omega)
    have r24 := r 24 (by omega)
    have r25 := r 25 (by omega)
    have hwi := hw i hi
    unfold X8_keeps_b2
    simp only
    rw [if_neg (by omega)]
    simp (disch := first | omega | assumption) only [r22, r23, r24, r25, zkp_s, ↓zb, ↓zckb, zu_j, zu_c, zu_eq, Int.toNat_natCast, ↓zo_14b, ↓zg_14_0b, ↓zg_14_1b, ↓zg_14_2b, ↓zg_14_3b, ↓zg_14_4b, ↓zg_14_5b, ↓zg_14_6b, ↓zg_14_7b, ↓zp_14_7b, ↓zg_14_8b, ↓zg_14_9b, ↓zg_14_10b, ↓zg_14_11b, ↓zg_14_12b, ↓zg_14_13b, ↓zg_14_14b, ↓zp_14_14b, ↓zg_14_15b, ↓zg_14_16b, ↓zg_14_17b, ↓zg_14_18b, ↓zg_14_19b, ↓zp_14_19b, ↓zg_14_20b, ↓zg_14_21b, ↓zg_14_22b, ↓zg_14_23b, ↓zg_14_24b, ↓zg_14_25b, ↓zp_14_25b, ↓zg_14_26b, ↓zp_14_26b, ↓zg_14_27b, ↓zp_14_27b, ↓zg_14_28b, ↓zp_14_28b, ↓zg_14_29b, ↓zp_14_29b, ↓za_15b, ↓zs_15b, ↓zl_15b, ↓za_16b, ↓zs_16b, ↓zl_16b, ↓za_17b, ↓zs_17b, ↓zl_17b, ↓za_18b, ↓zs_18b, ↓zl_18b, ↓za_19b, ↓zs_19b, ↓zl_19b, ↓za_20b, ↓zs_20b, ↓zl_20b, ↓za_21b, ↓zs_21b, ↓zl_21b, ↓za_22b, ↓zs_22b, ↓zl_22b, ↓za_23b, ↓zs_23b, ↓zl_23b, ↓za_24b, ↓zs_24b, ↓zl_24b, ↓za_25b, ↓zs_25b, ↓zl_25b, ↓za_26b, ↓zs_26b, ↓zl_26b, ↓za_27b, ↓zs_27b, ↓zl_27b, ↓za_28b, ↓zs_28b, ↓zl_28b, ↓za_29b, ↓zs_29b, ↓zl_29b, ↓za_30b, ↓zs_30b, ↓zl_30b, ↓za_31b, ↓zs_31b, ↓zl_31b, ↓za_32b, ↓zs_32b, ↓zl_32b, ↓za_33b, ↓zs_33b, ↓zl_33b, ↓za_34b, ↓zs_34b, ↓zl_34b, ↓za_35b, ↓zs_35b, ↓zl_35b, ↓za_36b, ↓zs_36b, ↓zl_36b, ↓za_37b, ↓zs_37b, ↓zl_37b, ↓za_38b, ↓zs_38b]
    rfl) (by
    unfold X8_keeps_b2
    rfl) (by omega)
  rw [zkp_0] at h
  unfold X8_keeps
  rw [show (0, (zM A K I L F E dyn)) = (((0 : Nat) : Int), (zM A K I L F E dyn)) from rfl, h]
  rfl
theorem m_givesBack {A : zIT} {K : zLT} {I : zIT} {L : zLT} {F : zFT} {E : zET} {dyn : zH} (hw : ∀ p, p < 80 → 0 ≤ I 34 p ∧ I 34 p ≤ 65535) : X8_givesBack (zM A K I L F E dyn) (some 14) = some (zM A K (zgb 80 I) L F E dyn) := by
  have h := zloop_0 (body := X8_givesBack_b2 (some 14)) (fun i => ((i : Int), zM A K (zgb i I) L F E dyn)) (e := zM A K (zgb 80 I) L F E dyn) 80 (by
    intro i hi
    have r : ∀ c, 32 ≤ c → zgb i I c = I c := fun c hc => by
      funext j
      exact if_neg (by omega)
    have r22 := r 32 (by omega)
    have r23 := r 33 (by omega)
    have r24 := r 34 (by omega)
    have r25 := r 35 (by omega)
    have hwi := hw i hi
    unfold X8_givesBack_b2
    simp only
    rw [if_neg (by omega)]
    simp (disch := first | omega | assumption) only [r22, r23, r24, r25, zgb_s, ↓zb, ↓zckb, zu_j, zu_c, zu_eq, Int.toNat_natCast, ↓zo_14b, ↓zg_14_0b, ↓zg_14_1b, ↓zg_14_2b, ↓zg_14_3b, ↓zg_14_4b, ↓zg_14_5b, ↓zg_14_6b, ↓zg_14_7b, ↓zp_14_7b, ↓zg_14_8b, ↓zg_14_9b, ↓zg_14_10b, ↓zg_14_11b, ↓zg_14_12b, ↓zg_14_13b, ↓zg_14_14b, ↓zp_14_14b, ↓zg_14_15b, ↓zg_14_16b, ↓zg_14_17b, ↓zg_14_18b, ↓zg_14_19b, ↓zp_14_19b, ↓zg_14_20b, ↓zg_14_21b, ↓zg_14_22b, ↓zg_14_23b, ↓zg_14_24b, ↓zg_14_25b, ↓zp_14_25b, ↓zg_14_26b, ↓zp_14_26b, ↓zg_14_27b, ↓zp_14_27b, ↓zg_14_28b, ↓zp_14_28b, ↓zg_14_29b, ↓zp_14_29b, ↓za_15b, ↓zs_15b, ↓zl_15b, ↓za_16b, ↓zs_16b, ↓zl_16b, ↓za_17b, ↓zs_17b, ↓zl_17b, ↓za_18b, ↓zs_18b, ↓zl_18b, ↓za_19b, ↓zs_19b, ↓zl_19b, ↓za_20b, ↓zs_20b, ↓zl_20b, ↓za_21b, ↓zs_21b, ↓zl_21b, ↓za_22b, ↓zs_22b, ↓zl_22b, ↓za_23b, ↓zs_23b, ↓zl_23b, ↓za_24b, ↓zs_24b, ↓zl_24b, ↓za_25b, ↓zs_25b, ↓zl_25b, ↓za_26b, ↓zs_26b, ↓zl_26b, ↓za_27b, ↓zs_27b, ↓zl_27b, ↓za_28b, ↓zs_28b, ↓zl_28b, ↓za_29b, ↓zs_29b, ↓zl_29b, ↓za_30b, ↓zs_30b, ↓zl_30b, ↓za_31b, ↓zs_31b, ↓zl_31b, ↓za_32b, ↓zs_32b, ↓zl_32b, ↓za_33b, ↓zs_33b, ↓zl_33b, ↓za_34b, ↓zs_34b, ↓zl_34b, ↓za_35b, ↓zs_35b, ↓zl_35b, ↓za_36b, ↓zs_36b, ↓zl_36b, ↓za_37b, ↓zs_37b, ↓zl_37b, ↓za_38b, ↓zs_38b]
    rfl) (by
    unfold X8_givesBack_b2
    rfl) (by omega)
  rw [zgb_0] at h
  unfold X8_givesBack
  rw [show (0, (zM A K I L F E dyn)) = (((0 : Nat) : Int), (zM A K I L F E dyn)) from rfl, h]
  rfl
def znu (I : zIT) (s : Nat) (p : Nat) : Prop := I 22 p = s ∧ I 25 p < 0
def znt (I : zIT) (s : Nat) (u : Nat → Prop) (byn : Int) (n : Nat) (r : Int) : Prop := (r = -1 ∧ ∀ p, p < n → ¬ u p) ∨ (∃ p : Nat, r = p ∧ p < n ∧ u p ∧ ∀ q, q < n → u q → (byn ≠ 0 → p ≤ q) ∧ (byn = 0 → zky I s p ≤ zky I s q))
theorem znt_skip {I : zIT} {s : Nat} {u : Nat → Prop} {b r : Int} {n : Nat} (h : znt I s u b n r) (hn : ¬ u n) : znt I s u b (n + 1) r := by
  rcases h with ⟨h1, h2⟩ | ⟨p, h1, h2, h3, h4⟩
  · refine Or.inl ⟨h1, fun p hp => ?_⟩
    by_cases c : p = n
    · rw [c]
      exact hn
    · exact h2 p (by omega)
  · refine Or.inr ⟨p, h1, by omega, h3, fun q hq hu => ?_⟩
    by_cases c : q = n
    · rw [c] at hu
      exact absurd hu hn
    · exact h4 q (by omega) hu
theorem znt_first {I : zIT} {s : Nat} {u : Nat → Prop} {b : Int} {n : Nat} (h : znt I s u b n (-1)) (hn : u n) : znt I s u b (n + 1) n := by
  rcases h with ⟨h1, h2⟩ | ⟨p, h1, h2, h3, h4⟩
  · refine Or.inr ⟨n, rfl, by omega, hn, fun q hq hu => ?_⟩
    by_cases c : q = n
    · rw [c]
      exact ⟨fun _ => Nat.le_refl n, fun _ => Int.le_refl _⟩
    · exact absurd hu (h2 q (by omega))
  · omega
theorem znt_keep {I : zIT} {s : Nat} {u : Nat → Prop} {b : Int} {n p : Nat} (h : znt I s u b n (p : Int)) (hk : b = 0 → zky I s p ≤ zky I s n) : znt I s u b (n + 1) (p : Int) := by
  rcases h with ⟨h1, h2⟩ | ⟨p', h1, h2, h3, h4⟩
  · omega
  · have e : p' = p := by omega
    subst e
    refine Or.inr ⟨p', rfl, by omega, h3, fun q hq hu => ?_⟩
    by_cases c : q = n
    · rw [c]
      exact ⟨fun _ => by omega, hk⟩
    · exact h4 q (by omega) hu
theorem znt_take {I : zIT} {s : Nat} {u : Nat → Prop} {n p : Nat} (h : znt I s u 0 n (p : Int)) (hn : u n) (hk : zky I s n < zky I s p) : znt I s u 0 (n + 1) (n : Int) := by
  rcases h with ⟨h1, h2⟩ | ⟨p', h1, h2, h3, h4⟩
  · omega
  · have e : p' = p := by omega
    subst e
    refine Or.inr ⟨n, rfl, by omega, hn, fun q hq hu => ?_⟩
    by_cases c : q = n
    · rw [c]
      exact ⟨fun _ => Nat.le_refl n, fun _ => Int.le_refl _⟩
    · have := (h4 q (by omega) hu).2 rfl
      exact ⟨fun x => absurd rfl x, fun _ => by omega⟩
