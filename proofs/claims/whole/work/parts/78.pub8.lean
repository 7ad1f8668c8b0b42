theorem k_streetOf21 {A : zIT} {K : zLT} {I : zIT} {L : zLT} {F : zFT} {E : zET} {dyn : zH} {rs : Nat → Nat} {fp : Nat → Option Nat} {n : Nat} (hS : zRS I L F dyn rs) (hP : zRP I dyn rs fp) (hn : n < 80) : X7_streetOf_j21 (zM A K I L F E dyn) (fp n) = if I 22 n = -1 then some (.inr 4) else some (.inl (I 22 n)) := by
  unfold X7_streetOf_j21
  rcases hP n hn with ⟨h1, h2⟩ | ⟨h1, h2, r, h3, h4⟩
  · rw [h2, if_pos rfl, if_pos h1]
  · rw [h3, if_neg (fun y => by cases y), zgPlc_1b h4, if_neg (fun y => by cases y), zgPlc_1b h4, zgStr_0b (hS.1 (I 22 n).toNat (by omega)).2, if_neg (by omega)]
    rw [show (((I 22 n).toNat : Nat) : Int) = I 22 n by omega]
theorem k_streetOf {A : zIT} {K : zLT} {I : zIT} {L : zLT} {F : zFT} {E : zET} {dyn : zH} {rs rd : Nat → Nat} {fp : Nat → Option Nat} {d c : Int} {n : Nat} (hb : zB I) (hS : zRS I L F dyn rs) (hD : zRD I F dyn rd fp) (hP : zRP I dyn rs fp) (h : zdr I d) (hn : (n : Int) = 2 * d + (if c = 0 then 0 else 1)) : X7_streetOf (zM A K I L F E dyn) (some 0) d c = if I 22 n = -1 then some (.inr 4) else some (.inl (I 22 n)) := by
  have hb' := hb
  unfold zB at hb'
  have h' := h
  unfold zdr at h'
  have hc := (hD.1 d.toNat (by omega)).2
  have hn1 : n < 80 := by
    split at hn <;> omega
  unfold X7_streetOf
  rw [zo_0b]
  rcases k_known (A := A) (K := K) (L := L) (E := E) hb hD d with ⟨e, _⟩ | ⟨e, hx⟩
  · rw [e, zb]
    simp only
    by_cases c0 : c = 0
    · rw [if_pos c0] at hn
      have en : 2 * d.toNat = n := by omega
      rw [if_pos c0, zgDor_1b hc, en, k_streetOf21 hS hP hn1]
    · rw [if_neg c0] at hn
      have en : 2 * d.toNat + 1 = n := by omega
      rw [if_neg c0, zgDor_2b hc, en, k_streetOf21 hS hP hn1]
  · exact absurd h hx
theorem k_doors {A : zIT} {K : zLT} {I : zIT} {L : zLT} {F : zFT} {E : zET} {dyn : zH} {rs rd : Nat → Nat} {fp : Nat → Option Nat} {s : Nat} (hb : zB I) (hS : zRS I L F dyn rs) (hD : zRD I F dyn rd fp) (hP : zRP I dyn rs fp) (hE : ∀ p : Nat, 2 * I 14 14 ≤ (p : Int) → I 22 p = -1) (hD2 : ∀ d, d < 40 → I 22 (2 * d) = s → I 22 (2 * d + 1) ≠ s) (h : zst I s) : X7_doors (zM A K I L F E dyn) (some 0) (s : Int) = some (.inl (zdo I s 80)) := by
  unfold X7_doors
  rw [zo_0b]
  rcases k_standing (A := A) (K := K) (E := E) hb hS s with ⟨e, _⟩ | ⟨e, hx⟩
  · rw [e, zb]
    simp only
    rw [zo_0b, Int.toNat_natCast, k_doorsOn hb hS hD hP hE hD2 h.2.1]
    rfl
  · exact absurd h hx
