-- ===== the class's small public methods =====
theorem k_isGone {A : zIT} {K : zLT} {I : zIT} {L : zLT} {F : zFT} {E : zET} {dyn : zH} {rd : Nat → Nat} {fp : Nat → Option Nat} (hb : zB I) (hD : zRD I F dyn rd fp) (hG : ∀ d : Nat, (d : Int) < I 14 14 → I 26 d = 0 ∨ I 26 d = 1) (d : Int) : (X7_isGone (zM A K I L F E dyn) (some 0) d = some (.inl (I 26 d.toNat)) ∧ zdr I d) ∨ (X7_isGone (zM A K I L F E dyn) (some 0) d = some (.inr 3) ∧ ¬ zdr I d) := by
  unfold X7_isGone
  rw [zo_0b]
  rcases k_known (A := A) (K := K) (L := L) (E := E) hb hD d with ⟨e, h⟩ | ⟨e, h⟩
  · rw [e, zb]
    simp only
    have h' := h
    unfold zdr at h'
    have hc := (hD.1 d.toNat (by omega)).2
    rw [zgDor_3b hc, zckZb (hG _ (by omega))]
    exact Or.inl ⟨rfl, h⟩
  · rw [e, zb]
    exact Or.inr ⟨rfl, h⟩
theorem k_olds {A : zIT} {K : zLT} {I : zIT} {L : zLT} {F : zFT} {E : zET} {dyn : zH} (hR : zRO A K I L) : X7_olds (zM A K I L F E dyn) (some 0) = some (I 14 19) := by
  unfold X7_olds
  rw [zg_0_2b, zg_3_4b, hR.1]
theorem k_address {A : zIT} {K : zLT} {I : zIT} {L : zLT} {F : zFT} {E : zET} {dyn : zH} {rs rd : Nat → Nat} {fp : Nat → Option Nat} {d c : Int} {n : Nat} (hb : zB I) (hD : zRD I F dyn rd fp) (hP : zRP I dyn rs fp) (h : zdr I d) (hn : (n : Int) = 2 * d + (if c = 0 then 0 else 1)) : X7_address (zM A K I L F E dyn) (some 0) d c = if I 22 n = -1 then some (.inr 4) else some (.inl (I 25 n)) := by
  have hb' := hb
  unfold zB at hb'
  have h' := h
  unfold zdr at h'
  have hc := (hD.1 d.toNat (by omega)).2
  have hn1 : n < 80 := by
    split at hn <;> omega
  unfold X7_address
  rw [zo_0b]
  rcases k_known (A := A) (K := K) (L := L) (E := E) hb hD d with ⟨e, _⟩ | ⟨e, hx⟩
  · rw [e, zb]
    simp only
    by_cases c0 : c = 0
    · rw [if_pos c0] at hn
      have en : 2 * d.toNat = n := by omega
      rw [if_pos c0, zgDor_1b hc, en]
      rcases hP n hn1 with ⟨h1, h2⟩ | ⟨h1, h2, r, h3, h4⟩
      · rw [h2, if_pos rfl, if_pos h1]
      · rw [h3, if_neg (fun y => by cases y), zgPlc_4b h4, if_neg (by omega)]
    · rw [if_neg c0] at hn
      have en : 2 * d.toNat + 1 = n := by omega
      rw [if_neg c0, zgDor_2b hc, en]
      rcases hP n hn1 with ⟨h1, h2⟩ | ⟨h1, h2, r, h3, h4⟩
      · rw [h2, if_pos rfl, if_pos h1]
      · rw [h3, if_neg (fun y => by cases y), zgPlc_4b h4, if_neg (by omega)]
  · exact absurd h hx
theorem k_day_1 {A : zIT} {K : zLT} {I : zIT} {L : zLT} {F : zFT} {E : zET} {dyn : zH} {n : Int} (h : ¬ (1 ≤ n ∧ n ≤ 9999)) : X7_day (zM A K I L F E dyn) (some 0) n = some (.inr 0, (zM A K I L F E dyn)) := by
  unfold X7_day
  by_cases c : n < 1
  · rw [if_pos c]
  · rw [if_neg c, if_neg (by omega)]
theorem k_day_0 {A : zIT} {K : zLT} {I : zIT} {L : zLT} {F : zFT} {E : zET} {dyn : zH} {n : Int} (h : 1 ≤ n ∧ n ≤ 9999) (hd : 0 ≤ A 0 8 ∧ A 0 8 ≤ 100000000) : X7_day (zM A K I L F E dyn) (some 0) n = some (.inl (A 0 8 + n), zM (zu A 0 8 (A 0 8 + n)) K I L F E dyn) := by
  unfold X7_day
  rw [if_neg (by omega), if_pos h.2, zg_0_8b, zckb (by omega) (by omega), zp_0_8b, zg_0_8b, zu_eq]
