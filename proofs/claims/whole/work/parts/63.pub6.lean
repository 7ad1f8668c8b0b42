-- ===== goneShare, meanDoors, checksum =====
def zgc (I : zIT) (n : Nat) : Int := zsum (fun d => if I 26 d = 0 then 0 else 1) n
theorem zgc_in {I : zIT} (n : Nat) : 0 ≤ zgc I n ∧ zgc I n ≤ 1 * (n : Int) := zsum_le (fun k => by split <;> omega) n
theorem m_goneShare4 {A : zIT} {K : zLT} {I : zIT} {L : zLT} {F : zFT} {E : zET} {dyn : zH} (hb : zB I) : zloop (X8_goneShare_b4 (some 14) (zM A K I L F E dyn)) zN (0, 0) = some (zgc I (I 14 14).toNat) := by
  have hb' := hb
  unfold zB at hb'
  refine zloop_0 (body := X8_goneShare_b4 (some 14) (zM A K I L F E dyn)) (fun i => (zgc I i, (i : Int))) (I 14 14).toNat ?_ ?_ (by omega)
  · intro i hi
    have hx : zgc I (i + 1) = zgc I i + (if I 26 i = 0 then 0 else 1) := rfl
    have hz := zgc_in (I := I) i
    unfold X8_goneShare_b4
    simp (disch := first | omega | assumption) only [↓zb, ↓zckb, zu_j, zu_c, zu_eq, Int.toNat_natCast, ↓zo_14b, ↓zg_14_0b, ↓zg_14_1b, ↓zg_14_2b, ↓zg_14_3b, ↓zg_14_4b, ↓zg_14_5b, ↓zg_14_6b, ↓zg_14_7b, ↓zp_14_7b, ↓zg_14_8b, ↓zg_14_9b, ↓zg_14_10b, ↓zg_14_11b, ↓zg_14_12b, ↓zg_14_13b, ↓zg_14_14b, ↓zp_14_14b, ↓zg_14_15b, ↓zg_14_16b, ↓zg_14_17b, ↓zg_14_18b, ↓zg_14_19b, ↓zp_14_19b, ↓zg_14_20b, ↓zg_14_21b, ↓zg_14_22b, ↓zg_14_23b, ↓zg_14_24b, ↓zg_14_25b, ↓zp_14_25b, ↓zg_14_26b, ↓zp_14_26b, ↓zg_14_27b, ↓zp_14_27b, ↓zg_14_28b, ↓zp_14_28b, ↓zg_14_29b, ↓zp_14_29b, ↓za_15b, ↓zs_15b, ↓zl_15b, ↓za_16b, ↓zs_16b, ↓zl_16b, ↓za_17b, ↓zs_17b, ↓zl_17b, ↓za_18b, ↓zs_18b, ↓zl_18b, ↓za_19b, ↓zs_19b, ↓zl_19b, ↓za_20b, ↓zs_20b, ↓zl_20b, ↓za_21b, ↓zs_21b, ↓zl_21b, ↓za_22b, ↓zs_22b, ↓zl_22b, ↓za_23b, ↓zs_23b, ↓zl_23b, ↓za_24b, ↓zs_24b, ↓zl_24b, ↓za_25b, ↓zs_25b, ↓zl_25b, ↓za_26b, ↓zs_26b, ↓zl_26b, ↓za_27b, ↓zs_27b, ↓zl_27b, ↓za_28b, ↓zs_28b, ↓zl_28b, ↓za_29b, ↓zs_29b, ↓zl_29b, ↓za_30b, ↓zs_30b, ↓zl_30b, ↓za_31b, ↓zs_31b, ↓zl_31b, ↓za_32b, ↓zs_32b, ↓zl_32b, ↓za_33b, ↓zs_33b, ↓zl_33b, ↓za_34b, ↓zs_34b, ↓zl_34b, ↓za_35b, ↓zs_35b, ↓zl_35b, ↓za_36b, ↓zs_36b, ↓zl_36b, ↓za_37b, ↓zs_37b, ↓zl_37b, ↓za_38b, ↓zs_38b]
    rw [if_neg (by omega)]
    by_cases c : I 26 i = 0
    · rw [if_pos c, hx, if_pos c]
      rfl
    · rw [if_neg c, hx, if_neg c]
      rfl
  · unfold X8_goneShare_b4
    simp (disch := first | omega | assumption) only [↓zb, ↓zckb, zu_j, zu_c, zu_eq, Int.toNat_natCast, ↓zo_14b, ↓zg_14_0b, ↓zg_14_1b, ↓zg_14_2b, ↓zg_14_3b, ↓zg_14_4b, ↓zg_14_5b, ↓zg_14_6b, ↓zg_14_7b, ↓zp_14_7b, ↓zg_14_8b, ↓zg_14_9b, ↓zg_14_10b, ↓zg_14_11b, ↓zg_14_12b, ↓zg_14_13b, ↓zg_14_14b, ↓zp_14_14b, ↓zg_14_15b, ↓zg_14_16b, ↓zg_14_17b, ↓zg_14_18b, ↓zg_14_19b, ↓zp_14_19b, ↓zg_14_20b, ↓zg_14_21b, ↓zg_14_22b, ↓zg_14_23b, ↓zg_14_24b, ↓zg_14_25b, ↓zp_14_25b, ↓zg_14_26b, ↓zp_14_26b, ↓zg_14_27b, ↓zp_14_27b, ↓zg_14_28b, ↓zp_14_28b, ↓zg_14_29b, ↓zp_14_29b, ↓za_15b, ↓zs_15b, ↓zl_15b, ↓za_16b, ↓zs_16b, ↓zl_16b, ↓za_17b, ↓zs_17b, ↓zl_17b, ↓za_18b, ↓zs_18b, ↓zl_18b, ↓za_19b, ↓zs_19b, ↓zl_19b, ↓za_20b, ↓zs_20b, ↓zl_20b, ↓za_21b, ↓zs_21b, ↓zl_21b, ↓za_22b, ↓zs_22b, ↓zl_22b, ↓za_23b, ↓zs_23b, ↓zl_23b, ↓za_24b, ↓zs_24b, ↓zl_24b, ↓za_25b, ↓zs_25b, ↓zl_25b, ↓za_26b, ↓zs_26b, ↓zl_26b, ↓za_27b, ↓zs_27b, ↓zl_27b, ↓za_28b, ↓zs_28b, ↓zl_28b, ↓za_29b, ↓zs_29b, ↓zl_29b, ↓za_30b, ↓zs_30b, ↓zl_30b, ↓za_31b, ↓zs_31b, ↓zl_31b, ↓za_32b, ↓zs_32b, ↓zl_32b, ↓za_33b, ↓zs_33b, ↓zl_33b, ↓za_34b, ↓zs_34b, ↓zl_34b, ↓za_35b, ↓zs_35b, ↓zl_35b, ↓za_36b, ↓zs_36b, ↓zl_36b, ↓za_37b, ↓zs_37b, ↓zl_37b, ↓za_38b, ↓zs_38b]
    rw [if_pos (by omega)]
theorem m_goneShare_1 {A : zIT} {K : zLT} {I : zIT} {L : zLT} {F : zFT} {E : zET} {dyn : zH} (hb : zB I) (h : I 14 14 = 0) : X8_goneShare (zM A K I L F E dyn) (some 14) = some (FP.fconst0, zM A K (zu I 14 29 1) L F E dyn) := by
  unfold X8_goneShare X8_goneShare_j48
  rw [m_goneShare4 hb]
  simp (disch := first | omega | assumption) only [↓zb, ↓zckb, zu_j, zu_c, zu_eq, Int.toNat_natCast, ↓zo_14b, ↓zg_14_0b, ↓zg_14_1b, ↓zg_14_2b, ↓zg_14_3b, ↓zg_14_4b, ↓zg_14_5b, ↓zg_14_6b, ↓zg_14_7b, ↓zp_14_7b, ↓zg_14_8b, ↓zg_14_9b, ↓zg_14_10b, ↓zg_14_11b, ↓zg_14_12b, ↓zg_14_13b, ↓zg_14_14b, ↓zp_14_14b, ↓zg_14_15b, ↓zg_14_16b, ↓zg_14_17b, ↓zg_14_18b, ↓zg_14_19b, ↓zp_14_19b, ↓zg_14_20b, ↓zg_14_21b, ↓zg_14_22b, ↓zg_14_23b, ↓zg_14_24b, ↓zg_14_25b, ↓zp_14_25b, ↓zg_14_26b, ↓zp_14_26b, ↓zg_14_27b, ↓zp_14_27b, ↓zg_14_28b, ↓zp_14_28b, ↓zg_14_29b, ↓zp_14_29b, ↓za_15b, ↓zs_15b, ↓zl_15b, ↓za_16b, ↓zs_16b, ↓zl_16b, ↓za_17b, ↓zs_17b, ↓zl_17b, ↓za_18b, ↓zs_18b, ↓zl_18b, ↓za_19b, ↓zs_19b, ↓zl_19b, ↓za_20b, ↓zs_20b, ↓zl_20b, ↓za_21b, ↓zs_21b, ↓zl_21b, ↓za_22b, ↓zs_22b, ↓zl_22b, ↓za_23b, ↓zs_23b, ↓zl_23b, ↓za_24b, ↓zs_24b, ↓zl_24b, ↓za_25b, ↓zs_25b, ↓zl_25b, ↓za_26b, ↓zs_26b, ↓zl_26b, ↓za_27b, ↓zs_27b, ↓zl_27b, ↓za_28b, ↓zs_28b, ↓zl_28b, ↓za_29b, ↓zs_29b, ↓zl_29b, ↓za_30b, ↓zs_30b, ↓zl_30b, ↓za_31b, ↓zs_31b, ↓zl_31b, ↓za_32b, ↓zs_32b, ↓zl_32b, ↓za_33b, ↓zs_33b, ↓zl_33b, ↓za_34b, ↓zs_34b, ↓zl_34b, ↓za_35b, ↓zs_35b, ↓zl_35b, ↓za_36b, ↓zs_36b, ↓zl_36b, ↓za_37b, ↓zs_37b, ↓zl_37b, ↓za_38b, ↓zs_38b, ↓reduceIte, Nat.reduceEqDiff, zne10, eq_self, ↓m_nob1, ↓m_nob0, zu_zu]
  rw [if_pos (by omega)]
theorem m_goneShare_0 {A : zIT} {K : zLT} {I : zIT} {L : zLT} {F : zFT} {E : zET} {dyn : zH} (hb : zB I) (h : I 14 14 ≠ 0) : X8_goneShare (zM A K I L F E dyn) (some 14) = (zfdiv (zi2f (zgc I (I 14 14).toNat)) (zi2f (I 14 14))).bind fun v => some (v, zM A K (zu I 14 29 0) L F E dyn) := by
  have hb' := hb
  unfold zB at hb'
  unfold X8_goneShare X8_goneShare_j48
  rw [m_goneShare4 hb]
  simp (disch := first | omega | assumption) only [↓zb, ↓zckb, zu_j, zu_c, zu_eq, Int.toNat_natCast, ↓zo_14b, ↓zg_14_0b, ↓zg_14_1b, ↓zg_14_2b, ↓zg_14_3b, ↓zg_14_4b, ↓zg_14_5b, ↓zg_14_6b, ↓zg_14_7b, ↓zp_14_7b, ↓zg_14_8b, ↓zg_14_9b, ↓zg_14_10b, ↓zg_14_11b, ↓zg_14_12b, ↓zg_14_13b, ↓zg_14_14b, ↓zp_14_14b, ↓zg_14_15b, ↓zg_14_16b, ↓zg_14_17b, ↓zg_14_18b, ↓zg_14_19b, ↓zp_14_19b, ↓zg_14_20b, ↓zg_14_21b, ↓zg_14_22b, ↓zg_14_23b, ↓zg_14_24b, ↓zg_14_25b, ↓zp_14_25b, ↓zg_14_26b, ↓zp_14_26b, ↓zg_14_27b, ↓zp_14_27b, ↓zg_14_28b, ↓zp_14_28b, ↓zg_14_29b, ↓zp_14_29b, ↓za_15b, ↓zs_15b, ↓zl_15b, ↓za_16b, ↓zs_16b, ↓zl_16b, ↓za_17b, ↓zs_17b, ↓zl_17b, ↓za_18b, ↓zs_18b, ↓zl_18b, ↓za_19b, ↓zs_19b, ↓zl_19b, ↓za_20b, ↓zs_20b, ↓zl_20b, ↓za_21b, ↓zs_21b, ↓zl_21b, ↓za_22b, ↓zs_22b, ↓zl_22b, ↓za_23b, ↓zs_23b, ↓zl_23b, ↓za_24b, ↓zs_24b, ↓zl_24b, ↓za_25b, ↓zs_25b, ↓zl_25b, ↓za_26b, ↓zs_26b, ↓zl_26b, ↓za_27b, ↓zs_27b, ↓zl_27b, ↓za_28b, ↓zs_28b, ↓zl_28b, ↓za_29b, ↓zs_29b, ↓zl_29b, ↓za_30b, ↓zs_30b, ↓zl_30b, ↓za_31b, ↓zs_31b, ↓zl_31b, ↓za_32b, ↓zs_32b, ↓zl_32b, ↓za_33b, ↓zs_33b, ↓zl_33b, ↓za_34b, ↓zs_34b, ↓zl_34b, ↓za_35b, ↓zs_35b, ↓zl_35b, ↓za_36b, ↓zs_36b, ↓zl_36b, ↓za_37b, ↓zs_37b, ↓zl_37b, ↓za_38b, ↓zs_38b, ↓reduceIte, Nat.reduceEqDiff, zne10, eq_self, ↓m_nob1, ↓m_nob0, zu_zu]
  rw [if_neg (by omega)]
def zmd (I : zIT) (n : Nat) : Int := zsum (fun s => if I 20 s = 0 then zdo I s 80 else 0) n
theorem zmd_in {I : zIT} (n : Nat) : 0 ≤ zmd I n ∧ zmd I n ≤ 80 * (n : Int) := zsum_le (fun k => by
  have := zdo_in (I := I) (s := k) 80
  split <;> omega) n
theorem m_meanDoors4 {A : zIT} {K : zLT} {I : zIT} {L : zLT} {F : zFT} {E : zET} {dyn : zH} (hb : zB I) : zloop (X8_meanDoors_b4 (some 14) (zM A K I L F E dyn)) zN (0, 0) = some (zmd I (I 14 7).toNat) := by
  have hb' := hb
  unfold zB at hb'
  refine zloop_0 (body := X8_meanDoors_b4 (some 14) (zM A K I L F E dyn)) (fun i => (zmd I i, (i : Int))) (I 14 7).toNat ?_ ?_ (by omega)
  · intro i hi
    have hx : zmd I (i + 1) = zmd I i + (if I 20 i = 0 then zdo I i 80 else 0) := rfl
    have hz := zmd_in (I := I) i
    have hz2 := zdo_in (I := I) (s := i) 80
    unfold X8_meanDoors_b4
    simp (disch := first | omega | assumption) only [m_doorsOf, ↓zb, ↓zckb, zu_j, zu_c, zu_eq, Int.toNat_natCast, ↓zo_14b, ↓zg_14_0b, ↓zg_14_1b, ↓zg_14_2b, ↓zg_14_3b, ↓zg_14_4b, ↓zg_14_5b, ↓zg_14_6b, ↓zg_14_7b, ↓zp_14_7b, ↓zg_14_8b, ↓zg_14_9b, ↓zg_14_10b, ↓zg_14_11b, ↓zg_14_12b, ↓zg_14_13b, ↓zg_14_14b, ↓zp_14_14b, ↓zg_14_15b, ↓zg_14_16b, ↓zg_14_17b, ↓zg_14_18b, ↓zg_14_19b, ↓zp_14_19b, ↓zg_14_20b, ↓zg_14_21b, ↓zg_14_22b, ↓zg_14_23b, ↓zg_14_24b, ↓zg_14_25b, ↓zp_14_25b, ↓zg_14_26b, ↓zp_14_26b, ↓zg_14_27b, ↓zp_14_27b, ↓zg_14_28b, ↓zp_14_28b, ↓zg_14_29b, ↓zp_14_29b, ↓za_15b, ↓zs_15b, ↓zl_15b, ↓za_16b, ↓zs_16b, ↓zl_16b, ↓za_17b, ↓zs_17b, ↓zl_17b, ↓za_18b, ↓zs_18b, ↓zl_18b, ↓za_19b, ↓zs_19b, ↓zl_19b, ↓za_20b, ↓zs_20b, ↓zl_20b, ↓za_21b, ↓zs_21b, ↓zl_21b, ↓za_22b, ↓zs_22b, ↓zl_22b, ↓za_23b, ↓zs_23b, ↓zl_23b, ↓za_24b, ↓zs_24b, ↓zl_24b, ↓za_25b, ↓zs_25b, ↓zl_25b, ↓za_26b, ↓zs_26b, ↓zl_26b, ↓za_27b, ↓zs_27b, ↓zl_27b, ↓za_28b, ↓zs_28b, ↓zl_28b, ↓za_29b, ↓zs_29b, ↓zl_29b, ↓za_30b, ↓zs_30b, ↓zl_30b, ↓za_31b, ↓zs_31b, ↓zl_31b, ↓za_32b, ↓zs_32b, ↓zl_32b, ↓za_33b, ↓zs_33b, ↓zl_33b, ↓za_34b, ↓zs_34b, ↓zl_34b, ↓za_35b, ↓zs_35b, ↓zl_35b, ↓za_36b, ↓zs_36b, ↓zl_36b, ↓za_37b, ↓zs_37b, ↓zl_37b, ↓za_38b, ↓zs_38b]
    rw [if_neg (by omega)]
    by_cases c : I 20 i = 0
    · rw [if_pos c, hx, if_pos c]
      rfl
    · rw [if_neg c, hx, if_neg c]
      rfl
  · unfold X8_meanDoors_b4
    simp (disch := first | omega | assumption) only [↓zb, ↓zckb, zu_j, zu_c, zu_eq, Int.toNat_natCast, ↓zo_14b, ↓zg_14_0b, ↓zg_14_1b, ↓zg_14_2b, ↓zg_14_3b, ↓zg_14_4b, ↓zg_14_5b, ↓zg_14_6b, ↓zg_14_7b, ↓zp_14_7b, ↓zg_14_8b, ↓zg_14_9b, ↓zg_14_10b, ↓zg_14_11b, ↓zg_14_12b, ↓zg_14_13b, ↓zg_14_14b, ↓zp_14_14b, ↓zg_14_15b, ↓zg_14_16b, ↓zg_14_17b, ↓zg_14_18b, ↓zg_14_19b, ↓zp_14_19b, ↓zg_14_20b, ↓zg_14_21b, ↓zg_14_22b, ↓zg_14_23b, ↓zg_14_24b, ↓zg_14_25b, ↓zp_14_25b, ↓zg_14_26b, ↓zp_14_26b, ↓zg_14_27b, ↓zp_14_27b, ↓zg_14_28b, ↓zp_14_28b, ↓zg_14_29b, ↓zp_14_29b, ↓za_15b, ↓zs_15b, ↓zl_15b, ↓za_16b, ↓zs_16b, ↓zl_16b, ↓za_17b, ↓zs_17b, ↓zl_17b, ↓za_18b, ↓zs_18b, ↓zl_18b, ↓za_19b, ↓zs_19b, ↓zl_19b, ↓za_20b, ↓zs_20b, ↓zl_20b, ↓za_21b, ↓zs_21b, ↓zl_21b, ↓za_22b, ↓zs_22b, ↓zl_22b, ↓za_23b, ↓zs_23b, ↓zl_23b, ↓za_24b, ↓zs_24b, ↓zl_24b, ↓za_25b, ↓zs_25b, ↓zl_25b, ↓za_26b, ↓zs_26b, ↓zl_26b, ↓za_27b, ↓zs_27b, ↓zl_27b, ↓za_28b, ↓zs_28b, ↓zl_28b, ↓za_29b, ↓zs_29b, ↓zl_29b, ↓za_30b, ↓zs_30b, ↓zl_30b, ↓za_31b, ↓zs_31b, ↓zl_31b, ↓za_32b, ↓zs_32b, ↓zl_32b, ↓za_33b, ↓zs_33b, ↓zl_33b, ↓za_34b, ↓zs_34b, ↓zl_34b, ↓za_35b, ↓zs_35b, ↓zl_35b, ↓za_36b, ↓zs_36b, ↓zl_36b, ↓za_37b, ↓zs_37b, ↓zl_37b, ↓za_38b, ↓zs_38b]
    rw [if_pos (by omega)]
theorem m_meanDoors_1 {A : zIT} {K : zLT} {I : zIT} {L : zLT} {F : zFT} {E : zET} {dyn : zH} (hb : zB I) (h : zsc2 I (I 14 7).toNat = 0) : X8_meanDoors (zM A K I L F E dyn) (some 14) = some (FP.dconst0, zM A K (zu I 14 29 1) L F E dyn) := by
  unfold X8_meanDoors X8_meanDoors_j52
  rw [m_meanDoors4 hb]
  simp (disch := first | omega | assumption) only [m_streets hb, ↓zb, ↓zckb, zu_j, zu_c, zu_eq, Int.toNat_natCast, ↓zo_14b, ↓zg_14_0b, ↓zg_14_1b, ↓zg_14_2b, ↓zg_14_3b, ↓zg_14_4b, ↓zg_14_5b, ↓zg_14_6b, ↓zg_14_7b, ↓zp_14_7b, ↓zg_14_8b, ↓zg_14_9b, ↓zg_14_10b, ↓zg_14_11b, ↓zg_14_12b, ↓zg_14_13b, ↓zg_14_14b, ↓zp_14_14b, ↓zg_14_15b, ↓zg_14_16b, ↓zg_14_17b, ↓zg_14_18b, ↓zg_14_19b, ↓zp_14_19b, ↓zg_14_20b, ↓zg_14_21b, ↓zg_14_22b, ↓zg_14_23b, ↓zg_14_24b, ↓zg_14_25b, ↓zp_14_25b, ↓zg_14_26b, ↓zp_14_26b, ↓zg_14_27b, ↓zp_14_27b, ↓zg_14_28b, ↓zp_14_28b, ↓zg_14_29b, ↓zp_14_29b, ↓za_15b, ↓zs_15b, ↓zl_15b, ↓za_16b, ↓zs_16b, ↓zl_16b, ↓za_17b, ↓zs_17b, ↓zl_17b, ↓za_18b, ↓zs_18b, ↓zl_18b, ↓za_19b, ↓zs_19b, ↓zl_19b, ↓za_20b, ↓zs_20b, ↓zl_20b, ↓za_21b, ↓zs_21b, ↓zl_21b, ↓za_22b, ↓zs_22b, ↓zl_22b, ↓za_23b, ↓zs_23b, ↓zl_23b, ↓za_24b, ↓zs_24b, ↓zl_24b, ↓za_25b, ↓zs_25b, ↓zl_25b, ↓za_26b, ↓zs_26b, ↓zl_26b, ↓za_27b, ↓zs_27b, ↓zl_27b, ↓za_28b, ↓zs_28b, ↓zl_28b, ↓za_29b, ↓zs_29b, ↓zl_29b, ↓za_30b, ↓zs_30b, ↓zl_30b, ↓za_31b, ↓zs_31b, ↓zl_31b, ↓za_32b, ↓zs_32b, ↓zl_32b, ↓za_33b, ↓zs_33b, ↓zl_33b, ↓za_34b, ↓zs_34b, ↓zl_34b, ↓za_35b, ↓zs_35b, ↓zl_35b, ↓za_36b, ↓zs_36b, ↓zl_36b, ↓za_37b, ↓zs_37b, ↓zl_37b, ↓za_38b, ↓zs_38b, ↓reduceIte, Nat.reduceEqDiff, zne10, eq_self, ↓m_nob1, ↓m_nob0, zu_zu]
  rw [if_pos (by omega)]
theorem m_meanDoors_0 {A : zIT} {K : zLT} {I : zIT} {L : zLT} {F : zFT} {E : zET} {dyn : zH} (hb : zB I) (h : zsc2 I (I 14 7).toNat ≠ 0) : X8_meanDoors (zM A K I L F E dyn) (some 14) = (zddiv (zi2d (zmd I (I 14 7).toNat)) (zi2d (zsc2 I (I 14 7).toNat))).bind fun v => some (v, zM A K (zu I 14 29 0) L F E dyn) := by
  have hz := zsc2_in (I := I) (I 14 7).toNat
  have hs : X8_streets (zM A K (zu I 14 29 0) L F E dyn) (some 14) = some (zsc2 I (I 14 7).toNat) := m_streets (I := zu I 14 29 0) hb
  unfold X8_meanDoors X8_meanDoors_j52
  rw [m_meanDoors4 hb]
  simp (disch := first | omega | assumption) only [m_streets hb, ↓zb, ↓zckb, zu_j, zu_c, zu_eq, Int.toNat_natCast, ↓zo_14b, ↓zg_14_0b, ↓zg_14_1b, ↓zg_14_2b, ↓zg_14_3b, ↓zg_14_4b, ↓zg_14_5b, ↓zg_14_6b, ↓zg_14_7b, ↓zp_14_7b, ↓zg_14_8b, ↓zg_14_9b, ↓zg_14_10b, ↓zg_14_11b, ↓zg_14_12b, ↓zg_14_13b, ↓zg_14_14b, ↓zp_14_14b, ↓zg_14_15b, ↓zg_14_16b, ↓zg_14_17b, ↓zg_14_18b, ↓zg_14_19b, ↓zp_14_19b, ↓zg_14_20b, ↓zg_14_21b, ↓zg_14_22b, ↓zg_14_23b, ↓zg_14_24b, ↓zg_14_25b, ↓zp_14_25b, ↓zg_14_26b, ↓zp_14_26b, ↓zg_14_27b, ↓zp_14_27b, ↓zg_14_28b, ↓zp_14_28b, ↓zg_14_29b, ↓zp_14_29b, ↓za_15b, ↓zs_15b, ↓zl_15b, ↓za_16b, ↓zs_16b, ↓zl_16b, ↓za_17b, ↓zs_17b, ↓zl_17b, ↓za_18b, ↓zs_18b, ↓zl_18b, ↓za_19b, ↓zs_19b, ↓zl_19b, ↓za_20b, ↓zs_20b, ↓zl_20b, ↓za_21b, ↓zs_21b, ↓zl_21b, ↓za_22b, ↓zs_22b, ↓zl_22b, ↓za_23b, ↓zs_23b, ↓zl_23b, ↓za_24b, ↓zs_24b, ↓zl_24b, ↓za_25b, ↓zs_25b, ↓zl_25b, ↓za_26b, ↓zs_26b, ↓zl_26b, ↓za_27b, ↓zs_27b, ↓zl_27b, ↓za_28b, ↓zs_28b, ↓zl_28b, ↓za_29b, ↓zs_29b, ↓zl_29b, ↓za_30b, ↓zs_30b, ↓zl_30b, ↓za_31b, ↓zs_31b, ↓zl_31b, ↓za_32b, ↓zs_32b, ↓zl_32b, ↓za_33b, ↓zs_33b, ↓zl_33b, ↓za_34b, ↓zs_34b, ↓zl_34b, ↓za_35b, ↓zs_35b, ↓zl_35b, ↓za_36b, ↓zs_36b, ↓zl_36b, ↓za_37b, ↓zs_37b, ↓zl_37b, ↓za_38b, ↓zs_38b, ↓reduceIte, Nat.reduceEqDiff, zne10, eq_self, ↓m_nob1, ↓m_nob0, zu_zu]
  rw [if_neg (by omega)]
  simp (disch := first | omega | assumption) only [hs, ↓zb, ↓zckb, zu_j, zu_c, zu_eq, Int.toNat_natCast, ↓zo_14b, ↓zg_14_0b, ↓zg_14_1b, ↓zg_14_2b, ↓zg_14_3b, ↓zg_14_4b, ↓zg_14_5b, ↓zg_14_6b, ↓zg_14_7b, ↓zp_14_7b, ↓zg_14_8b, ↓zg_14_9b, ↓zg_14_10b, ↓zg_14_11b, ↓zg_14_12b, ↓zg_14_13b, ↓zg_14_14b, ↓zp_14_14b, ↓zg_14_15b, ↓zg_14_16b, ↓zg_14_17b, ↓zg_14_18b, ↓zg_14_19b, ↓zp_14_19b, ↓zg_14_20b, ↓zg_14_21b, ↓zg_14_22b, ↓zg_14_23b, ↓zg_14_24b, ↓zg_14_25b, ↓zp_14_25b, ↓zg_14_26b, ↓zp_14_26b, ↓zg_14_27b, ↓zp_14_27b, ↓zg_14_28b, ↓zp_14_28b, ↓zg_14_29b, ↓zp_14_29b, ↓za_15b, ↓zs_15b, ↓zl_15b, ↓za_16b, ↓zs_16b, ↓zl_16b, ↓za_17b, ↓zs_17b, ↓zl_17b, ↓za_18b, ↓zs_18b, ↓zl_18b, ↓za_19b, ↓zs_19b, ↓zl_19b, ↓za_20b, ↓zs_20b, ↓zl_20b, ↓za_21b, ↓zs_21b, ↓zl_21b, ↓za_22b, ↓zs_22b, ↓zl_22b, ↓za_23b, ↓zs_23b, ↓zl_23b, ↓za_24b, ↓zs_24b, ↓zl_24b, ↓za_25b, ↓zs_25b, ↓zl_25b, ↓za_26b, ↓zs_26b, ↓zl_26b, ↓za_27b, ↓zs_27b, ↓zl_27b, ↓za_28b, ↓zs_28b, ↓zl_28b, ↓za_29b, ↓zs_29b, ↓zl_29b, ↓za_30b, ↓zs_30b, ↓zl_30b, ↓za_31b, ↓zs_31b, ↓zl_31b, ↓za_32b, ↓zs_32b, ↓zl_32b, ↓za_33b, ↓zs_33b, ↓zl_33b, ↓za_34b, ↓zs_34b, ↓zl_34b, ↓za_35b, ↓zs_35b, ↓zl_35b, ↓za_36b, ↓zs_36b, ↓zl_36b, ↓za_37b, ↓zs_37b, ↓zl_37b, ↓za_38b, ↓zs_38b, ↓reduceIte, Nat.reduceEqDiff, zne10, eq_self, ↓m_nob1, ↓m_nob0, zu_zu]
def zk1 (I : zIT) : Nat → Int64
  | 0 => 7
  | n + 1 => if I 20 n = 0 then 31 * (31 * zk1 I n + Int64.ofInt (I 17 n)) + Int64.ofInt (zdo I n 80) else zk1 I n
def zk2 (I : zIT) (e : Int64) : Nat → Int64
  | 0 => e
  | n + 1 => if I 26 n = 0 then (if I 22 (2 * n + 1) = -1 then 31 * zk2 I e n + Int64.ofInt (I 25 (2 * n)) else 31 * (31 * zk2 I e n + Int64.ofInt (I 25 (2 * n))) + Int64.ofInt (I 25 (2 * n + 1))) else zk2 I e n
theorem m_checksum {A : zIT} {K : zLT} {I : zIT} {L : zLT} {F : zFT} {E : zET} {dyn : zH} (hb : zB I) : X8_checksum (zM A K I L F E dyn) (some 14) = some (31 * zk2 I (zk1 I (I 14 7).toNat) (I 14 14).toNat + Int64.ofInt (I 14 19)) := by
  have hb' := hb
  unfold zB at hb'
  have h1 : zloop (X8_checksum_b6 (some 14) (zM A K I L F E dyn)) zN (7, 0) = some (zk1 I (I 14 7).toNat) := by
    refine zloop_0 (body := X8_checksum_b6 (some 14) (zM A K I L F E dyn)) (fun i => (zk1 I i, (i : Int))) (I 14 7).toNat ?_ ?_ (by omega)
    · intro i hi
      have hx : zk1 I (i + 1) = if I 20 i = 0 then 31 * (31 * zk1 I i + Int64.ofInt (I 17 i)) + Int64.ofInt (zdo I i 80) else zk1 I i := rfl
      unfold X8_checksum_b6
      simp (disch := first | omega | assumption) only [m_doorsOf, ↓zb, ↓zckb, zu_j, zu_c, zu_eq, Int.toNat_natCast, ↓zo_14b, ↓zg_14_0b, ↓zg_14_1b, ↓zg_14_2b, ↓zg_14_3b, ↓zg_14_4b, ↓zg_14_5b, ↓zg_14_6b, ↓zg_14_7b, ↓zp_14_7b, ↓zg_14_8b, ↓zg_14_9b, ↓zg_14_10b, ↓zg_14_11b, ↓zg_14_12b, ↓zg_14_13b, ↓zg_14_14b, ↓zp_14_14b, ↓zg_14_15b, ↓zg_14_16b, ↓zg_14_17b, ↓zg_14_18b, ↓zg_14_19b, ↓zp_14_19b, ↓zg_14_20b, ↓zg_14_21b, ↓zg_14_22b, ↓zg_14_23b, ↓zg_14_24b, ↓zg_14_25b, ↓zp_14_25b, ↓zg_14_26b, ↓zp_14_26b, ↓zg_14_27b, ↓zp_14_27b, ↓zg_14_28b, ↓zp_14_28b, ↓zg_14_29b, ↓zp_14_29b, ↓za_15b, ↓zs_15b, ↓zl_15b, ↓za_16b, ↓zs_16b, ↓zl_16b, ↓za_17b, ↓zs_17b, ↓zl_17b, ↓za_18b, ↓zs_18b, ↓zl_18b, ↓za_19b, ↓zs_19b, ↓zl_19b, ↓za_20b, ↓zs_20b, ↓zl_20b, ↓za_21b, ↓zs_21b, ↓zl_21b, ↓za_22b, ↓zs_22b, ↓zl_22b, ↓za_23b, ↓zs_23b, ↓zl_23b, ↓za_24b, ↓zs_24b, ↓zl_24b, ↓za_25b, ↓zs_25b, ↓zl_25b, ↓za_26b, ↓zs_26b, ↓zl_26b, ↓za_27b, ↓zs_27b, ↓zl_27b, ↓za_28b, ↓zs_28b, ↓zl_28b, ↓za_29b, ↓zs_29b, ↓zl_29b, ↓za_30b, ↓zs_30b, ↓zl_30b, ↓za_31b, ↓zs_31b, ↓zl_31b, ↓za_32b, ↓zs_32b, ↓zl_32b, ↓za_33b, ↓zs_33b, ↓zl_33b, ↓za_34b, ↓zs_34b, ↓zl_34b, ↓za_35b, ↓zs_35b, ↓zl_35b, ↓za_36b, ↓zs_36b, ↓zl_36b, ↓za_37b, ↓zs_37b, ↓zl_37b, ↓za_38b, ↓zs_38b]
      rw [if_neg (by omega)]
      by_cases c : I 20 i = 0
      · rw [if_pos c, hx, if_pos c]
        rfl
      · rw [if_neg c, hx, if_neg c]
        rfl
    · unfold X8_checksum_b6
      simp (disch := first | omega | assumption) only [↓zb, ↓zckb, zu_j, zu_c, zu_eq, Int.toNat_natCast, ↓zo_14b, ↓zg_14_0b, ↓zg_14_1b, ↓zg_14_2b, ↓zg_14_3b, ↓zg_14_4b, ↓zg_14_5b, ↓zg_14_6b, ↓zg_14_7b, ↓zp_14_7b, ↓zg_14_8b, ↓zg_14_9b, ↓zg_14_10b, ↓zg_14_11b, ↓zg_14_12b, ↓zg_14_13b, ↓zg_14_14b, ↓zp_14_14b, ↓zg_14_15b, ↓zg_14_16b, ↓zg_14_17b, ↓zg_14_18b, ↓zg_14_19b, ↓zp_14_19b, ↓zg_14_20b, ↓zg_14_21b, ↓zg_14_22b, ↓zg_14_23b, ↓zg_14_24b, ↓zg_14_25b, ↓zp_14_25b, ↓zg_14_26b, ↓zp_14_26b, ↓zg_14_27b, ↓zp_14_27b, ↓zg_14_28b, ↓zp_14_28b, ↓zg_14_29b, ↓zp_14_29b, ↓za_15b, ↓zs_15b, ↓zl_15b, ↓za_16b, ↓zs_16b, ↓zl_16b, ↓za_17b, ↓zs_17b, ↓zl_17b, ↓za_18b, ↓zs_18b, ↓zl_18b, ↓za_19b, ↓zs_19b, ↓zl_19b, ↓za_20b, ↓zs_20b, ↓zl_20b, ↓za_21b, ↓zs_21b, ↓zl_21b, ↓za_22b, ↓zs_22b, ↓zl_22b, ↓za_23b, ↓zs_23b, ↓zl_23b, ↓za_24b, ↓zs_24b, ↓zl_24b, ↓za_25b, ↓zs_25b, ↓zl_25b, ↓za_26b, ↓zs_26b, ↓zl_26b, ↓za_27b, ↓zs_27b, ↓zl_27b, ↓za_28b, ↓zs_28b, ↓zl_28b, ↓za_29b, ↓zs_29b, ↓zl_29b, ↓za_30b, ↓zs_30b, ↓zl_30b, ↓za_31b, ↓zs_31b, ↓zl_31b, ↓za_32b, ↓zs_32b, ↓zl_32b, ↓za_33b, ↓zs_33b, ↓zl_33b, ↓za_34b, ↓zs_34b, ↓zl_34b, ↓za_35b, ↓zs_35b, ↓zl_35b, ↓za_36b, ↓zs_36b, ↓zl_36b, ↓za_37b, ↓zs_37b, ↓zl_37b, ↓za_38b, ↓zs_38b]
      rw [if_pos (by omega)]
  have h2 : ∀ e, zloop (X8_checksum_b61 (some 14) (zM A K I L F E dyn)) zN (e, 0) = some (zk2 I e (I 14 14).toNat) := by
    intro e
    refine zloop_0 (body := X8_checksum_b61 (some 14) (zM A K I L F E dyn)) (fun i => (zk2 I e i, (i : Int))) (I 14 14).toNat ?_ ?_ (by omega)
    · intro i hi
      have hx : zk2 I e (i + 1) = if I 26 i = 0 then (if I 22 (2 * i + 1) = -1 then 31 * zk2 I e i + Int64.ofInt (I 25 (2 * i)) else 31 * (31 * zk2 I e i + Int64.ofInt (I 25 (2 * i))) + Int64.ofInt (I 25 (2 * i + 1))) else zk2 I e i := rfl
      unfold X8_checksum_b61
      simp (disch := first | omega | assumption) only [zn1, zn2, ↓zb, ↓zckb, zu_j, zu_c, zu_eq, Int.toNat_natCast, ↓zo_14b, ↓zg_14_0b, ↓zg_14_1b, ↓zg_14_2b, ↓zg_14_3b, ↓zg_14_4b, ↓zg_14_5b, ↓zg_14_6b, ↓zg_14_7b, ↓zp_14_7b, ↓zg_14_8b, ↓zg_14_9b, ↓zg_14_10b, ↓zg_14_11b, ↓zg_14_12b, ↓zg_14_13b, ↓zg_14_14b, ↓zp_14_14b, ↓zg_14_15b, ↓zg_14_16b, ↓zg_14_17b, ↓zg_14_18b, ↓zg_14_19b, ↓zp_14_19b, ↓zg_14_20b, ↓zg_14_21b, ↓zg_14_22b, ↓zg_14_23b, ↓zg_14_24b, ↓zg_14_25b, ↓zp_14_25b, ↓zg_14_26b, ↓zp_14_26b, ↓zg_14_27b, ↓zp_14_27b, ↓zg_14_28b, ↓zp_14_28b, ↓zg_14_29b, ↓zp_14_29b, ↓za_15b, ↓zs_15b, ↓zl_15b, ↓za_16b, ↓zs_16b, ↓zl_16b, ↓za_17b, ↓zs_17b, ↓zl_17b, ↓za_18b, ↓zs_18b, ↓zl_18b, ↓za_19b, ↓zs_19b, ↓zl_19b, ↓za_20b, ↓zs_20b, ↓zl_20b, ↓za_21b, ↓zs_21b, ↓zl_21b, ↓za_22b, ↓zs_22b, ↓zl_22b, ↓za_23b, ↓zs_23b, ↓zl_23b, ↓za_24b, ↓zs_24b, ↓zl_24b, ↓za_25b, ↓zs_25b, ↓zl_25b, ↓za_26b, ↓zs_26b, ↓zl_26b, ↓za_27b, ↓zs_27b, ↓zl_27b, ↓za_28b, ↓zs_28b, ↓zl_28b, ↓za_29b, ↓zs_29b, ↓zl_29b, ↓za_30b, ↓zs_30b, ↓zl_30b, ↓za_31b, ↓zs_31b, ↓zl_31b, ↓za_32b, ↓zs_32b, ↓zl_32b, ↓za_33b, ↓zs_33b, ↓zl_33b, ↓za_34b, ↓zs_34b, ↓zl_34b, ↓za_35b, ↓zs_35b, ↓zl_35b, ↓za_36b, ↓zs_36b, ↓zl_36b, ↓za_37b, ↓zs_37b, ↓zl_37b, ↓za_38b, ↓zs_38b]
      rw [if_neg (by omega)]
      by_cases c : I 26 i = 0
      · rw [if_pos c, hx, if_pos c]
        by_cases c2 : I 22 (2 * i + 1) = -1
        · rw [if_pos c2, if_pos c2]
          rfl
        · rw [if_neg c2, if_neg c2]
          rfl
      · rw [if_neg c, hx, if_neg c]
        rfl
    · unfold X8_checksum_b61
      simp (disch := first | omega | assumption) only [↓zb, ↓zckb, zu_j, zu_c, zu_eq, Int.toNat_natCast, ↓zo_14b, ↓zg_14_0b, ↓zg_14_1b, ↓zg_14_2b, ↓zg_14_3b, ↓zg_14_4b, ↓zg_14_5b, ↓zg_14_6b, ↓zg_14_7b, ↓zp_14_7b, ↓zg_14_8b, ↓zg_14_9b, ↓zg_14_10b, ↓zg_14_11b, ↓zg_14_12b, ↓zg_14_13b, ↓zg_14_14b, ↓zp_14_14b, ↓zg_14_15b, ↓zg_14_16b, ↓zg_14_17b, ↓zg_14_18b, ↓zg_14_19b, ↓zp_14_19b, ↓zg_14_20b, ↓zg_14_21b, ↓zg_14_22b, ↓zg_14_23b, ↓zg_14_24b, ↓zg_14_25b, ↓zp_14_25b, ↓zg_14_26b, ↓zp_14_26b, ↓zg_14_27b, ↓zp_14_27b, ↓zg_14_28b, ↓zp_14_28b, ↓zg_14_29b, ↓zp_14_29b, ↓za_15b, ↓zs_15b, ↓zl_15b, ↓za_16b, ↓zs_16b, ↓zl_16b, ↓za_17b, ↓zs_17b, ↓zl_17b, ↓za_18b, ↓zs_18b, ↓zl_18b, ↓za_19b, ↓zs_19b, ↓zl_19b, ↓za_20b, ↓zs_20b, ↓zl_20b, ↓za_21b, ↓zs_21b, ↓zl_21b, ↓za_22b, ↓zs_22b, ↓zl_22b, ↓za_23b, ↓zs_23b, ↓zl_23b, ↓za_24b, ↓zs_24b, ↓zl_24b, ↓za_25b, ↓zs_25b, ↓zl_25b, ↓za_26b, ↓zs_26b, ↓zl_26b, ↓za_27b, ↓zs_27b, ↓zl_27b, ↓za_28b, ↓zs_28b, ↓zl_28b, ↓za_29b, ↓zs_29b, ↓zl_29b, ↓za_30b, ↓zs_30b, ↓zl_30b, ↓za_31b, ↓zs_31b, ↓zl_31b, ↓za_32b, ↓zs_32b, ↓zl_32b, ↓za_33b, ↓zs_33b, ↓zl_33b, ↓za_34b, ↓zs_34b, ↓zl_34b, ↓za_35b, ↓zs_35b, ↓zl_35b, ↓za_36b, ↓zs_36b, ↓zl_36b, ↓za_37b, ↓zs_37b, ↓zl_37b, ↓za_38b, ↓zs_38b]
      rw [if_pos (by omega)]
  unfold X8_checksum
  rw [h1, zb, h2, zb]
  simp (disch := first | omega | assumption) only [↓zb, ↓zckb, zu_j, zu_c, zu_eq, Int.toNat_natCast, ↓zo_14b, ↓zg_14_0b, ↓zg_14_1b, ↓zg_14_2b, ↓zg_14_3b, ↓zg_14_4b, ↓zg_14_5b, ↓zg_14_6b, ↓zg_14_7b, ↓zp_14_7b, ↓zg_14_8b, ↓zg_14_9b, ↓zg_14_10b, ↓zg_14_11b, ↓zg_14_12b, ↓zg_14_13b, ↓zg_14_14b, ↓zp_14_14b, ↓zg_14_15b, ↓zg_14_16b, ↓zg_14_17b, ↓zg_14_18b, ↓zg_14_19b, ↓zp_14_19b, ↓zg_14_20b, ↓zg_14_21b, ↓zg_14_22b, ↓zg_14_23b, ↓zg_14_24b, ↓zg_14_25b, ↓zp_14_25b, ↓zg_14_26b, ↓zp_14_26b, ↓zg_14_27b, ↓zp_14_27b, ↓zg_14_28b, ↓zp_14_28b, ↓zg_14_29b, ↓zp_14_29b, ↓za_15b, ↓zs_15b, ↓zl_15b, ↓za_16b, ↓zs_16b, ↓zl_16b, ↓za_17b, ↓zs_17b, ↓zl_17b, ↓za_18b, ↓zs_18b, ↓zl_18b, ↓za_19b, ↓zs_19b, ↓zl_19b, ↓za_20b, ↓zs_20b, ↓zl_20b, ↓za_21b, ↓zs_21b, ↓zl_21b, ↓za_22b, ↓zs_22b, ↓zl_22b, ↓za_23b, ↓zs_23b, ↓zl_23b, ↓za_24b, ↓zs_24b, ↓zl_24b, ↓za_25b, ↓zs_25b, ↓zl_25b, ↓za_26b, ↓zs_26b, ↓zl_26b, ↓za_27b, ↓zs_27b, ↓zl_27b, ↓za_28b, ↓zs_28b, ↓zl_28b, ↓za_29b, ↓zs_29b, ↓zl_29b, ↓za_30b, ↓zs_30b, ↓zl_30b, ↓za_31b, ↓zs_31b, ↓zl_31b, ↓za_32b, ↓zs_32b, ↓zl_32b, ↓za_33b, ↓zs_33b, ↓zl_33b, ↓za_34b, ↓zs_34b, ↓zl_34b, ↓za_35b, ↓zs_35b, ↓zl_35b, ↓za_36b, ↓zs_36b, ↓zl_36b, ↓za_37b, ↓zs_37b, ↓zl_37b, ↓za_38b, ↓zs_38b]
