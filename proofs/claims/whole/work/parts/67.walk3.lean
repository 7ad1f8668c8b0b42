-- ===== walk, steps =====
def zeq (I J : zIT) : Prop := (∀ c, c ≠ 14 → c < 32 → J c = I c) ∧ (∀ j, j ≠ 25 → j ≠ 29 → J 14 j = I 14 j)
theorem zeq_w {I : zIT} {r t : Int} {R : Nat → Int} : zeq I (zcol (zu (zu I 14 25 r) 14 29 t) 36 R) := by
  refine ⟨fun c h1 h2 => ?_, fun j h1 h2 => ?_⟩
  · rw [zcol_o (by omega), zu_c (by omega), zu_c (by omega)]
  · rw [zcol_o (by omega), zu_j, if_neg h2, zu_j, if_neg h1]
theorem m_walk_1 {A : zIT} {K : zLT} {I : zIT} {L : zLT} {F : zFT} {E : zET} {dyn : zH} {s k : Int} (hb : zB I) (h : ¬ zst I s) : X8_walk (zM A K I L F E dyn) (some 14) s k = some (0, zM A K (zu I 14 29 1) L F E dyn) := by
  unfold X8_walk
  simp (disch := first | omega | assumption) only [zbl_0 (m_isStreet (A := A) (K := K) (L := L) (F := F) (E := E) (dyn := dyn) hb s) h, ↓zb, ↓zckb, zu_j, zu_c, zu_eq, Int.toNat_natCast, ↓zo_14b, ↓zg_14_0b, ↓zg_14_1b, ↓zg_14_2b, ↓zg_14_3b, ↓zg_14_4b, ↓zg_14_5b, ↓zg_14_6b, ↓zg_14_7b, ↓zp_14_7b, ↓zg_14_8b, ↓zg_14_9b, ↓zg_14_10b, ↓zg_14_11b, ↓zg_14_12b, ↓zg_14_13b, ↓zg_14_14b, ↓zp_14_14b, ↓zg_14_15b, ↓zg_14_16b, ↓zg_14_17b, ↓zg_14_18b, ↓zg_14_19b, ↓zp_14_19b, ↓zg_14_20b, ↓zg_14_21b, ↓zg_14_22b, ↓zg_14_23b, ↓zg_14_24b, ↓zg_14_25b, ↓zp_14_25b, ↓zg_14_26b, ↓zp_14_26b, ↓zg_14_27b, ↓zp_14_27b, ↓zg_14_28b, ↓zp_14_28b, ↓zg_14_29b, ↓zp_14_29b, ↓za_15b, ↓zs_15b, ↓zl_15b, ↓za_16b, ↓zs_16b, ↓zl_16b, ↓za_17b, ↓zs_17b, ↓zl_17b, ↓za_18b, ↓zs_18b, ↓zl_18b, ↓za_19b, ↓zs_19b, ↓zl_19b, ↓za_20b, ↓zs_20b, ↓zl_20b, ↓za_21b, ↓zs_21b, ↓zl_21b, ↓za_22b, ↓zs_22b, ↓zl_22b, ↓za_23b, ↓zs_23b, ↓zl_23b, ↓za_24b, ↓zs_24b, ↓zl_24b, ↓za_25b, ↓zs_25b, ↓zl_25b, ↓za_26b, ↓zs_26b, ↓zl_26b, ↓za_27b, ↓zs_27b, ↓zl_27b, ↓za_28b, ↓zs_28b, ↓zl_28b, ↓za_29b, ↓zs_29b, ↓zl_29b, ↓za_30b, ↓zs_30b, ↓zl_30b, ↓za_31b, ↓zs_31b, ↓zl_31b, ↓za_32b, ↓zs_32b, ↓zl_32b, ↓za_33b, ↓zs_33b, ↓zl_33b, ↓za_34b, ↓zs_34b, ↓zl_34b, ↓za_35b, ↓zs_35b, ↓zl_35b, ↓za_36b, ↓zs_36b, ↓zl_36b, ↓za_37b, ↓zs_37b, ↓zl_37b, ↓za_38b, ↓zs_38b, ↓reduceIte, Nat.reduceEqDiff, zne10, eq_self, ↓m_nob1, ↓m_nob0, zu_zu]
theorem zu_sw {I : zIT} {r t : Int} : zu (zu I 14 29 t) 14 25 r = zu (zu I 14 25 r) 14 29 t := by
  funext c j
  unfold zu
  by_cases h1 : c = 14 ∧ j = 25
  · rw [if_pos h1, if_neg (by omega), if_pos h1]
  · by_cases h2 : c = 14 ∧ j = 29
    · rw [if_neg h1, if_pos h2, if_pos h2]
    · rw [if_neg h1, if_neg h2, if_neg h2, if_neg h1]
theorem m_walk_0 {A : zIT} {K : zLT} {I : zIT} {L : zLT} {F : zFT} {E : zET} {dyn : zH} {s : Nat} {k : Int} (hb : zB I) (h : zst I s) (hV : ∀ p, p < 80 → I 22 p = s → zsd (I 24 p) ∧ 0 ≤ I 23 p ∧ I 23 p ≤ 999) (hD : ∀ d, d < 40 → I 22 (2 * d) = s → I 22 (2 * d + 1) ≠ s) :
    ∃ (r : Nat) (R : Nat → Int) (t : Int), X8_walk (zM A K I L F E dyn) (some 14) (s : Int) k = some (if 0 ≤ k ∧ k < r then R k.toNat / 2 else 0, zM A K (zcol (zu (zu I 14 25 r) 14 29 t) 36 R) L F E dyn) ∧ t = (if 0 ≤ k ∧ k < r then 0 else 2) ∧ zso I s (2 * I 14 14).toNat r R := by
  obtain ⟨r, R, e, hz, hr⟩ := m_walks (A := A) (K := K) (L := L) (F := F) (E := E) (dyn := dyn) (I := zu I 14 29 0) (s := s) hb hV hD
  have hz' : zso I s (2 * I 14 14).toNat r R := hz
  have c25 : zcol (zu (zu I 14 29 0) 14 25 (r : Int)) 36 R 14 25 = r := rfl
  refine ⟨r, R, _, ?_, rfl, hz'⟩
  unfold X8_walk
  simp (disch := first | omega | assumption) only [zbl_1 (m_isStreet (A := A) (K := K) (L := L) (F := F) (E := E) (dyn := dyn) hb s) h, e, c25, ↓zb, ↓zckb, zu_j, zu_c, zu_eq, Int.toNat_natCast, ↓zo_14b, ↓zg_14_0b, ↓zg_14_1b, ↓zg_14_2b, ↓zg_14_3b, ↓zg_14_4b, ↓zg_14_5b, ↓zg_14_6b, ↓zg_14_7b, ↓zp_14_7b, ↓zg_14_8b, ↓zg_14_9b, ↓zg_14_10b, ↓zg_14_11b, ↓zg_14_12b, ↓zg_14_13b, ↓zg_14_14b, ↓zp_14_14b, ↓zg_14_15b, ↓zg_14_16b, ↓zg_14_17b, ↓zg_14_18b, ↓zg_14_19b, ↓zp_14_19b, ↓zg_14_20b, ↓zg_14_21b, ↓zg_14_22b, ↓zg_14_23b, ↓zg_14_24b, ↓zg_14_25b, ↓zp_14_25b, ↓zg_14_26b, ↓zp_14_26b, ↓zg_14_27b, ↓zp_14_27b, ↓zg_14_28b, ↓zp_14_28b, ↓zg_14_29b, ↓zp_14_29b, ↓za_15b, ↓zs_15b, ↓zl_15b, ↓za_16b, ↓zs_16b, ↓zl_16b, ↓za_17b, ↓zs_17b, ↓zl_17b, ↓za_18b, ↓zs_18b, ↓zl_18b, ↓za_19b, ↓zs_19b, ↓zl_19b, ↓za_20b, ↓zs_20b, ↓zl_20b, ↓za_21b, ↓zs_21b, ↓zl_21b, ↓za_22b, ↓zs_22b, ↓zl_22b, ↓za_23b, ↓zs_23b, ↓zl_23b, ↓za_24b, ↓zs_24b, ↓zl_24b, ↓za_25b, ↓zs_25b, ↓zl_25b, ↓za_26b, ↓zs_26b, ↓zl_26b, ↓za_27b, ↓zs_27b, ↓zl_27b, ↓za_28b, ↓zs_28b, ↓zl_28b, ↓za_29b, ↓zs_29b, ↓zl_29b, ↓za_30b, ↓zs_30b, ↓zl_30b, ↓za_31b, ↓zs_31b, ↓zl_31b, ↓za_32b, ↓zs_32b, ↓zl_32b, ↓za_33b, ↓zs_33b, ↓zl_33b, ↓za_34b, ↓zs_34b, ↓zl_34b, ↓za_35b, ↓zs_35b, ↓zl_35b, ↓za_36b, ↓zs_36b, ↓zl_36b, ↓za_37b, ↓zs_37b, ↓zl_37b, ↓za_38b, ↓zs_38b, ↓reduceIte, Nat.reduceEqDiff, zne10, eq_self, ↓m_nob1, ↓m_nob0, zu_zu]
  rcases m_between (hp := zM A K (zcol (zu (zu I 14 29 0) 14 25 (r : Int)) 36 R) L F E dyn) k 0 ((r : Int) - 1) with ⟨e1, h1⟩ | ⟨e1, h1⟩
  · have h2 : 0 ≤ k ∧ k < (r : Int) := by omega
    obtain ⟨q, q1, q2, q3⟩ := hz'.1 k.toNat (by omega)
    rw [if_pos h2, if_pos h2, e1]
    simp (disch := first | omega | assumption) only [zcol_zu, zcol_e, ↓zdvb, q1, zu_sw, ↓zb, ↓zckb, zu_j, zu_c, zu_eq, Int.toNat_natCast, ↓zo_14b, ↓zg_14_0b, ↓zg_14_1b, ↓zg_14_2b, ↓zg_14_3b, ↓zg_14_4b, ↓zg_14_5b, ↓zg_14_6b, ↓zg_14_7b, ↓zp_14_7b, ↓zg_14_8b, ↓zg_14_9b, ↓zg_14_10b, ↓zg_14_11b, ↓zg_14_12b, ↓zg_14_13b, ↓zg_14_14b, ↓zp_14_14b, ↓zg_14_15b, ↓zg_14_16b, ↓zg_14_17b, ↓zg_14_18b, ↓zg_14_19b, ↓zp_14_19b, ↓zg_14_20b, ↓zg_14_21b, ↓zg_14_22b, ↓zg_14_23b, ↓zg_14_24b, ↓zg_14_25b, ↓zp_14_25b, ↓zg_14_26b, ↓zp_14_26b, ↓zg_14_27b, ↓zp_14_27b, ↓zg_14_28b, ↓zp_14_28b, ↓zg_14_29b, ↓zp_14_29b, ↓za_15b, ↓zs_15b, ↓zl_15b, ↓za_16b, ↓zs_16b, ↓zl_16b, ↓za_17b, ↓zs_17b, ↓zl_17b, ↓za_18b, ↓zs_18b, ↓zl_18b, ↓za_19b, ↓zs_19b, ↓zl_19b, ↓za_20b, ↓zs_20b, ↓zl_20b, ↓za_21b, ↓zs_21b, ↓zl_21b, ↓za_22b, ↓zs_22b, ↓zl_22b, ↓za_23b, ↓zs_23b, ↓zl_23b, ↓za_24b, ↓zs_24b, ↓zl_24b, ↓za_25b, ↓zs_25b, ↓zl_25b, ↓za_26b, ↓zs_26b, ↓zl_26b, ↓za_27b, ↓zs_27b, ↓zl_27b, ↓za_28b, ↓zs_28b, ↓zl_28b, ↓za_29b, ↓zs_29b, ↓zl_29b, ↓za_30b, ↓zs_30b, ↓zl_30b, ↓za_31b, ↓zs_31b, ↓zl_31b, ↓za_32b, ↓zs_32b, ↓zl_32b, ↓za_33b, ↓zs_33b, ↓zl_33b, ↓za_34b, ↓zs_34b, ↓zl_34b, ↓za_35b, ↓zs_35b, ↓zl_35b, ↓za_36b, ↓zs_36b, ↓zl_36b, ↓za_37b, ↓zs_37b, ↓zl_37b, ↓za_38b, ↓zs_38b, ↓reduceIte, Nat.reduceEqDiff, zne10, eq_self, ↓m_nob1, ↓m_nob0, zu_zu]
  · have h2 : ¬ (0 ≤ k ∧ k < (r : Int)) := by omega
    rw [if_neg h2, if_neg h2, e1]
    simp (disch := first | omega | assumption) only [zcol_zu, zu_sw, ↓zb, ↓zckb, zu_j, zu_c, zu_eq, Int.toNat_natCast, ↓zo_14b, ↓zg_14_0b, ↓zg_14_1b, ↓zg_14_2b, ↓zg_14_3b, ↓zg_14_4b, ↓zg_14_5b, ↓zg_14_6b, ↓zg_14_7b, ↓zp_14_7b, ↓zg_14_8b, ↓zg_14_9b, ↓zg_14_10b, ↓zg_14_11b, ↓zg_14_12b, ↓zg_14_13b, ↓zg_14_14b, ↓zp_14_14b, ↓zg_14_15b, ↓zg_14_16b, ↓zg_14_17b, ↓zg_14_18b, ↓zg_14_19b, ↓zp_14_19b, ↓zg_14_20b, ↓zg_14_21b, ↓zg_14_22b, ↓zg_14_23b, ↓zg_14_24b, ↓zg_14_25b, ↓zp_14_25b, ↓zg_14_26b, ↓zp_14_26b, ↓zg_14_27b, ↓zp_14_27b, ↓zg_14_28b, ↓zp_14_28b, ↓zg_14_29b, ↓zp_14_29b, ↓za_15b, ↓zs_15b, ↓zl_15b, ↓za_16b, ↓zs_16b, ↓zl_16b, ↓za_17b, ↓zs_17b, ↓zl_17b, ↓za_18b, ↓zs_18b, ↓zl_18b, ↓za_19b, ↓zs_19b, ↓zl_19b, ↓za_20b, ↓zs_20b, ↓zl_20b, ↓za_21b, ↓zs_21b, ↓zl_21b, ↓za_22b, ↓zs_22b, ↓zl_22b, ↓za_23b, ↓zs_23b, ↓zl_23b, ↓za_24b, ↓zs_24b, ↓zl_24b, ↓za_25b, ↓zs_25b, ↓zl_25b, ↓za_26b, ↓zs_26b, ↓zl_26b, ↓za_27b, ↓zs_27b, ↓zl_27b, ↓za_28b, ↓zs_28b, ↓zl_28b, ↓za_29b, ↓zs_29b, ↓zl_29b, ↓za_30b, ↓zs_30b, ↓zl_30b, ↓za_31b, ↓zs_31b, ↓zl_31b, ↓za_32b, ↓zs_32b, ↓zl_32b, ↓za_33b, ↓zs_33b, ↓zl_33b, ↓za_34b, ↓zs_34b, ↓zl_34b, ↓za_35b, ↓zs_35b, ↓zl_35b, ↓za_36b, ↓zs_36b, ↓zl_36b, ↓za_37b, ↓zs_37b, ↓zl_37b, ↓za_38b, ↓zs_38b, ↓reduceIte, Nat.reduceEqDiff, zne10, eq_self, ↓m_nob1, ↓m_nob0, zu_zu]
theorem m_steps_1 {A : zIT} {K : zLT} {I : zIT} {L : zLT} {F : zFT} {E : zET} {dyn : zH} {s : Int} (hb : zB I) (h : ¬ zst I s) : X8_steps (zM A K I L F E dyn) (some 14) s = some (0, zM A K (zu I 14 29 1) L F E dyn) := by
  unfold X8_steps
  simp (disch := first | omega | assumption) only [zbl_0 (m_isStreet (A := A) (K := K) (L := L) (F := F) (E := E) (dyn := dyn) hb s) h, ↓zb, ↓zckb, zu_j, zu_c, zu_eq, Int.toNat_natCast, ↓zo_14b, ↓zg_14_0b, ↓zg_14_1b, ↓zg_14_2b, ↓zg_14_3b, ↓zg_14_4b, ↓zg_14_5b, ↓zg_14_6b, ↓zg_14_7b, ↓zp_14_7b, ↓zg_14_8b, ↓zg_14_9b, ↓zg_14_10b, ↓zg_14_11b, ↓zg_14_12b, ↓zg_14_13b, ↓zg_14_14b, ↓zp_14_14b, ↓zg_14_15b, ↓zg_14_16b, ↓zg_14_17b, ↓zg_14_18b, ↓zg_14_19b, ↓zp_14_19b, ↓zg_14_20b, ↓zg_14_21b, ↓zg_14_22b, ↓zg_14_23b, ↓zg_14_24b, ↓zg_14_25b, ↓zp_14_25b, ↓zg_14_26b, ↓zp_14_26b, ↓zg_14_27b, ↓zp_14_27b, ↓zg_14_28b, ↓zp_14_28b, ↓zg_14_29b, ↓zp_14_29b, ↓za_15b, ↓zs_15b, ↓zl_15b, ↓za_16b, ↓zs_16b, ↓zl_16b, ↓za_17b, ↓zs_17b, ↓zl_17b, ↓za_18b, ↓zs_18b, ↓zl_18b, ↓za_19b, ↓zs_19b, ↓zl_19b, ↓za_20b, ↓zs_20b, ↓zl_20b, ↓za_21b, ↓zs_21b, ↓zl_21b, ↓za_22b, ↓zs_22b, ↓zl_22b, ↓za_23b, ↓zs_23b, ↓zl_23b, ↓za_24b, ↓zs_24b, ↓zl_24b, ↓za_25b, ↓zs_25b, ↓zl_25b, ↓za_26b, ↓zs_26b, ↓zl_26b, ↓za_27b, ↓zs_27b, ↓zl_27b, ↓za_28b, ↓zs_28b, ↓zl_28b, ↓za_29b, ↓zs_29b, ↓zl_29b, ↓za_30b, ↓zs_30b, ↓zl_30b, ↓za_31b, ↓zs_31b, ↓zl_31b, ↓za_32b, ↓zs_32b, ↓zl_32b, ↓za_33b, ↓zs_33b, ↓zl_33b, ↓za_34b, ↓zs_34b, ↓zl_34b, ↓za_35b, ↓zs_35b, ↓zl_35b, ↓za_36b, ↓zs_36b, ↓zl_36b, ↓za_37b, ↓zs_37b, ↓zl_37b, ↓za_38b, ↓zs_38b, ↓reduceIte, Nat.reduceEqDiff, zne10, eq_self, ↓m_nob1, ↓m_nob0, zu_zu]
def zgap (I : zIT) (p q : Nat) : Int := (if 0 ≤ I 23 p - I 23 q then I 23 p - I 23 q else -(I 23 p - I 23 q)) + (if I 24 p = I 24 q then 0 else 5)
def zstp2 (I : zIT) (R : Nat → Int) (n : Nat) : Int := zsum (fun j => if 0 ≤ I 23 (R (j + 1)).toNat ∧ I 23 (R (j + 1)).toNat ≤ 999 ∧ 0 ≤ I 23 (R j).toNat ∧ I 23 (R j).toNat ≤ 999 then zgap I (R (j + 1)).toNat (R j).toNat else 0) n
theorem zstp2_in {I : zIT} {R : Nat → Int} (n : Nat) : 0 ≤ zstp2 I R n ∧ zstp2 I R n ≤ 1004 * (n : Int) := zsum_le (fun k => by
  unfold zgap
  repeat' split
  all_goals omega) n
theorem m_steps24 {A : zIT} {K : zLT} {I : zIT} {L : zLT} {F : zFT} {E : zET} {dyn : zH} {s r : Nat} {R : Nat → Int} (hr : r ≤ 40) (hR : ∀ a, a < r → ∃ q : Nat, R a = q ∧ q < 80 ∧ 0 ≤ I 23 q ∧ I 23 q ≤ 999) (h36 : I 36 = R) (h25 : I 14 25 = r) : zloop (X8_steps_b24 (some 14) (zM A K I L F E dyn)) zN (0, 1) = some (zstp2 I R (r - 1)) := by
  have h := zloop_0 (body := X8_steps_b24 (some 14) (zM A K I L F E dyn)) (fun i => (zstp2 I R i, ((i + 1 : Nat) : Int))) (e := zstp2 I R (r - 1)) (r - 1) (by
    intro i hi
    obtain ⟨q, q1, q2, q3, q4⟩ := hR (i + 1) (by omega)
    obtain ⟨p, p1, p2, p3, p4⟩ := hR i (by omega)
    have hx : zstp2 I R (i + 1) = zstp2 I R i + zgap I q p := by
      show zstp2 I R i + (if _ then _ else _) = _
      rw [q1, p1, Int.toNat_natCast, Int.toNat_natCast, if_pos ⟨q3, q4, p3, p4⟩]
    have hz := zstp2_in (I := I) (R := R) i
    have e1 : (((i + 1 : Nat) : Int) - 1) = (i : Int) := by omega
    unfold X8_steps_b24
    simp (disch := first | omega | assumption) only [h25, h36, e1, q1, p1, ↓zb, ↓zckb, zu_j, zu_c, zu_eq, Int.toNat_natCast, ↓zo_14b, ↓zg_14_0b, ↓zg_14_1b, ↓zg_14_2b, ↓zg_14_3b, ↓zg_14_4b, ↓zg_14_5b, ↓zg_14_6b, ↓zg_14_7b, ↓zp_14_7b, ↓zg_14_8b, ↓zg_14_9b, ↓zg_14_10b, ↓zg_14_11b, ↓zg_14_12b, ↓zg_14_13b, ↓zg_14_14b, ↓zp_14_14b, ↓zg_14_15b, ↓zg_14_16b, ↓zg_14_17b, ↓zg_14_18b, ↓zg_14_19b, ↓zp_14_19b, ↓zg_14_20b, ↓zg_14_21b, ↓zg_14_22b, ↓zg_14_23b, ↓zg_14_24b, ↓zg_14_25b, ↓zp_14_25b, ↓zg_14_26b, ↓zp_14_26b, ↓zg_14_27b, ↓zp_14_27b, ↓zg_14_28b, ↓zp_14_28b, ↓zg_14_29b, ↓zp_14_29b, ↓za_15b, ↓zs_15b, ↓zl_15b, ↓za_16b, ↓zs_16b, ↓zl_16b, ↓za_17b, ↓zs_17b, ↓zl_17b, ↓za_18b, ↓zs_18b, ↓zl_18b, ↓za_19b, ↓zs_19b, ↓zl_19b, ↓za_20b, ↓zs_20b, ↓zl_20b, ↓za_21b, ↓zs_21b, ↓zl_21b, ↓za_22b, ↓zs_22b, ↓zl_22b, ↓za_23b, ↓zs_23b, ↓zl_23b, ↓za_24b, ↓zs_24b, ↓zl_24b, ↓za_25b, ↓zs_25b, ↓zl_25b, ↓za_26b, ↓zs_26b, ↓zl_26b, ↓za_27b, ↓zs_27b, ↓zl_27b, ↓za_28b, ↓zs_28b, ↓zl_28b, ↓za_29b, ↓zs_29b, ↓zl_29b, ↓za_30b, ↓zs_30b, ↓zl_30b, ↓za_31b, ↓zs_31b, ↓zl_31b, ↓za_32b, ↓zs_32b, ↓zl_32b, ↓za_33b, ↓zs_33b, ↓zl_33b, ↓za_34b, ↓zs_34b, ↓zl_34b, ↓za_35b, ↓zs_35b, ↓zl_35b, ↓za_36b, ↓zs_36b, ↓zl_36b, ↓za_37b, ↓zs_37b, ↓zl_37b, ↓za_38b, ↓zs_38b]
    rw [if_neg (by omega)]
    have tail : ∀ v : Int, 0 ≤ v → v ≤ 999 → X8_steps_j73 (some 14) (zM A K I L F E dyn) (zstp2 I R i, ((i + 1 : Nat) : Int)) v = some (.inl (zstp2 I R i + (v + (if I 24 q = I 24 p then 0 else 5)), ((i + 1 + 1 : Nat) : Int))) := by
      intro v v0 v1
      unfold X8_steps_j73
      simp (disch := first | omega | assumption) only [h36, e1, q1, p1, ↓zb, ↓zckb, zu_j, zu_c, zu_eq, Int.toNat_natCast, ↓zo_14b, ↓zg_14_0b, ↓zg_14_1b, ↓zg_14_2b, ↓zg_14_3b, ↓zg_14_4b, ↓zg_14_5b, ↓zg_14_6b, ↓zg_14_7b, ↓zp_14_7b, ↓zg_14_8b, ↓zg_14_9b, ↓zg_14_10b, ↓zg_14_11b, ↓zg_14_12b, ↓zg_14_13b, ↓zg_14_14b, ↓zp_14_14b, ↓zg_14_15b, ↓zg_14_16b, ↓zg_14_17b, ↓zg_14_18b, ↓zg_14_19b, ↓zp_14_19b, ↓zg_14_20b, ↓zg_14_21b, ↓zg_14_22b, ↓zg_14_23b, ↓zg_14_24b, ↓zg_14_25b, ↓zp_14_25b, ↓zg_14_26b, ↓zp_14_26b, ↓zg_14_27b, ↓zp_14_27b, ↓zg_14_28b, ↓zp_14_28b, ↓zg_14_29b, ↓zp_14_29b, ↓za_15b, ↓zs_15b, ↓zl_15b, ↓za_16b, ↓zs_16b, ↓zl_16b, ↓za_17b, ↓zs_17b, ↓zl_17b, ↓za_18b, ↓zs_18b, ↓zl_18b, ↓za_19b, ↓zs_19b, ↓zl_19b, ↓za_20b, ↓zs_20b, ↓zl_20b, ↓za_21b, ↓zs_21b, ↓zl_21b, ↓za_22b, ↓zs_22b, ↓zl_22b, ↓za_23b, ↓zs_23b, ↓zl_23b, ↓za_24b, ↓zs_24b, ↓zl_24b, ↓za_25b, ↓zs_25b, ↓zl_25b, ↓za_26b, ↓zs_26b, ↓zl_26b, ↓za_27b, ↓zs_27b, ↓zl_27b, ↓za_28b, ↓zs_28b, ↓zl_28b, ↓za_29b, ↓zs_29b, ↓zl_29b, ↓za_30b, ↓zs_30b, ↓zl_30b, ↓za_31b, ↓zs_31b, ↓zl_31b, ↓za_32b, ↓zs_32b, ↓zl_32b, ↓za_33b, ↓zs_33b, ↓zl_33b, ↓za_34b, ↓zs_34b, ↓zl_34b, ↓za_35b, ↓zs_35b, ↓zl_35b, ↓za_36b, ↓zs_36b, ↓zl_36b, ↓za_37b, ↓zs_37b, ↓zl_37b, ↓za_38b, ↓zs_38b]
      by_cases c : I 24 q = I 24 p
      · rw [if_pos c, if_pos c, Int.add_zero, Int.add_zero]
        rfl
      · rw [if_neg c, if_neg c, Int.add_assoc]
        rfl
    rw [hx]
    unfold zgap
    by_cases c : 0 ≤ I 23 q - I 23 p
    · rw [if_pos c, if_pos c]
      exact tail _ (by omega) (by omega)
    · rw [if_neg c, if_neg c]
      exact tail _ (by omega) (by omega)) (by
    unfold X8_steps_b24
    simp (disch := first | omega | assumption) only [h25, ↓zb, ↓zckb, zu_j, zu_c, zu_eq, Int.toNat_natCast, ↓zo_14b, ↓zg_14_0b, ↓zg_14_1b, ↓zg_14_2b, ↓zg_14_3b, ↓zg_14_4b, ↓zg_14_5b, ↓zg_14_6b, ↓zg_14_7b, ↓zp_14_7b, ↓zg_14_8b, ↓zg_14_9b, ↓zg_14_10b, ↓zg_14_11b, ↓zg_14_12b, ↓zg_14_13b, ↓zg_14_14b, ↓zp_14_14b, ↓zg_14_15b, ↓zg_14_16b, ↓zg_14_17b, ↓zg_14_18b, ↓zg_14_19b, ↓zp_14_19b, ↓zg_14_20b, ↓zg_14_21b, ↓zg_14_22b, ↓zg_14_23b, ↓zg_14_24b, ↓zg_14_25b, ↓zp_14_25b, ↓zg_14_26b, ↓zp_14_26b, ↓zg_14_27b, ↓zp_14_27b, ↓zg_14_28b, ↓zp_14_28b, ↓zg_14_29b, ↓zp_14_29b, ↓za_15b, ↓zs_15b, ↓zl_15b, ↓za_16b, ↓zs_16b, ↓zl_16b, ↓za_17b, ↓zs_17b, ↓zl_17b, ↓za_18b, ↓zs_18b, ↓zl_18b, ↓za_19b, ↓zs_19b, ↓zl_19b, ↓za_20b, ↓zs_20b, ↓zl_20b, ↓za_21b, ↓zs_21b, ↓zl_21b, ↓za_22b, ↓zs_22b, ↓zl_22b, ↓za_23b, ↓zs_23b, ↓zl_23b, ↓za_24b, ↓zs_24b, ↓zl_24b, ↓za_25b, ↓zs_25b, ↓zl_25b, ↓za_26b, ↓zs_26b, ↓zl_26b, ↓za_27b, ↓zs_27b, ↓zl_27b, ↓za_28b, ↓zs_28b, ↓zl_28b, ↓za_29b, ↓zs_29b, ↓zl_29b, ↓za_30b, ↓zs_30b, ↓zl_30b, ↓za_31b, ↓zs_31b, ↓zl_31b, ↓za_32b, ↓zs_32b, ↓zl_32b, ↓za_33b, ↓zs_33b, ↓zl_33b, ↓za_34b, ↓zs_34b, ↓zl_34b, ↓za_35b, ↓zs_35b, ↓zl_35b, ↓za_36b, ↓zs_36b, ↓zl_36b, ↓za_37b, ↓zs_37b, ↓zl_37b, ↓za_38b, ↓zs_38b]
    rw [if_pos (by omega)]) (by omega)
  exact h
theorem m_steps_0 {A : zIT} {K : zLT} {I : zIT} {L : zLT} {F : zFT} {E : zET} {dyn : zH} {s : Nat} (hb : zB I) (h : zst I s) (hV : ∀ p, p < 80 → I 22 p = s → zsd (I 24 p) ∧ 0 ≤ I 23 p ∧ I 23 p ≤ 999) (hD : ∀ d, d < 40 → I 22 (2 * d) = s → I 22 (2 * d + 1) ≠ s) :
    ∃ (r : Nat) (R : Nat → Int), X8_steps (zM A K I L F E dyn) (some 14) (s : Int) = some (zstp2 I R (r - 1), zM A K (zcol (zu (zu I 14 25 r) 14 29 0) 36 R) L F E dyn) ∧ zso I s (2 * I 14 14).toNat r R := by
  obtain ⟨r, R, e, hz, hr⟩ := m_walks (A := A) (K := K) (L := L) (F := F) (E := E) (dyn := dyn) (I := zu I 14 29 0) (s := s) hb hV hD
  have hz' : zso I s (2 * I 14 14).toNat r R := hz
  have hb' := hb
  unfold zB at hb'
  have hs := m_steps24 (A := A) (K := K) (L := L) (F := F) (E := E) (dyn := dyn) (s := s) (I := zcol (zu (zu I 14 29 0) 14 25 (r : Int)) 36 R) hr (by
    intro a ha
    obtain ⟨q, q1, q2, q3⟩ := hz'.1 a ha
    have := hV q (by omega) q3
    exact ⟨q, q1, by omega, this.2.1, this.2.2⟩) zcol_e rfl
  have hs2 : zstp2 (zcol (zu (zu I 14 29 0) 14 25 (r : Int)) 36 R) R (r - 1) = zstp2 I R (r - 1) := rfl
  refine ⟨r, R, ?_, hz'⟩
  unfold X8_steps
  simp (disch := first | omega | assumption) only [zbl_1 (m_isStreet (A := A) (K := K) (L := L) (F := F) (E := E) (dyn := dyn) hb s) h, e, ↓zb, ↓zckb, zu_j, zu_c, zu_eq, Int.toNat_natCast, ↓zo_14b, ↓zg_14_0b, ↓zg_14_1b, ↓zg_14_2b, ↓zg_14_3b, ↓zg_14_4b, ↓zg_14_5b, ↓zg_14_6b, ↓zg_14_7b, ↓zp_14_7b, ↓zg_14_8b, ↓zg_14_9b, ↓zg_14_10b, ↓zg_14_11b, ↓zg_14_12b, ↓zg_14_13b, ↓zg_14_14b, ↓zp_14_14b, ↓zg_14_15b, ↓zg_14_16b, ↓zg_14_17b, ↓zg_14_18b, ↓zg_14_19b, ↓zp_14_19b, ↓zg_14_20b, ↓zg_14_21b, ↓zg_14_22b, ↓zg_14_23b, ↓zg_14_24b, ↓zg_14_25b, ↓zp_14_25b, ↓zg_14_26b, ↓zp_14_26b, ↓zg_14_27b, ↓zp_14_27b, ↓zg_14_28b, ↓zp_14_28b, ↓zg_14_29b, ↓zp_14_29b, ↓za_15b, ↓zs_15b, ↓zl_15b, ↓za_16b, ↓zs_16b, ↓zl_16b, ↓za_17b, ↓zs_17b, ↓zl_17b, ↓za_18b, ↓zs_18b, ↓zl_18b, ↓za_19b, ↓zs_19b, ↓zl_19b, ↓za_20b, ↓zs_20b, ↓zl_20b, ↓za_21b, ↓zs_21b, ↓zl_21b, ↓za_22b, ↓zs_22b, ↓zl_22b, ↓za_23b, ↓zs_23b, ↓zl_23b, ↓za_24b, ↓zs_24b, ↓zl_24b, ↓za_25b, ↓zs_25b, ↓zl_25b, ↓za_26b, ↓zs_26b, ↓zl_26b, ↓za_27b, ↓zs_27b, ↓zl_27b, ↓za_28b, ↓zs_28b, ↓zl_28b, ↓za_29b, ↓zs_29b, ↓zl_29b, ↓za_30b, ↓zs_30b, ↓zl_30b, ↓za_31b, ↓zs_31b, ↓zl_31b, ↓za_32b, ↓zs_32b, ↓zl_32b, ↓za_33b, ↓zs_33b, ↓zl_33b, ↓za_34b, ↓zs_34b, ↓zl_34b, ↓za_35b, ↓zs_35b, ↓zl_35b, ↓za_36b, ↓zs_36b, ↓zl_36b, ↓za_37b, ↓zs_37b, ↓zl_37b, ↓za_38b, ↓zs_38b, ↓reduceIte, Nat.reduceEqDiff, zne10, eq_self, ↓m_nob1, ↓m_nob0, zu_zu]
  rw [hs, hs2, zu_sw]
  rfl
