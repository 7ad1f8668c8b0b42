-- ===== find, send, until =====
def znw (I : zIT) (L : zLT) (a : Int) : Nat → Int
  | 0 => -1
  | n + 1 => if I 22 n ≠ -1 ∧ L 14 26 ≠ 0 ∧ I 25 n = a ∧ (L 15 (I 22 n).toNat = L 14 26 ∨ L 16 (I 22 n).toNat = L 14 26) then ((n / 2 : Nat) : Int) else znw I L a n
theorem m_now {A : zIT} {K : zLT} {I : zIT} {L : zLT} {F : zFT} {E : zET} {dyn : zH} {a : Int} (hb : zB I) (hs : ∀ p, p < 80 → I 22 p ≠ -1 → 0 ≤ I 22 p ∧ I 22 p < 12) : X8_now (zM A K I L F E dyn) (some 14) a = some (znw I L a (2 * I 14 14).toNat) := by
  have hb' := hb
  unfold zB at hb'
  have h : zloop (X8_now_b4 (some 14) a (zM A K I L F E dyn)) zN (-1, 0) = some (znw I L a (2 * I 14 14).toNat) := by
    refine zloop_0 (body := X8_now_b4 (some 14) a (zM A K I L F E dyn)) (fun i => (znw I L a i, (i : Int))) (2 * I 14 14).toNat ?_ ?_ (by omega)
    · intro i hi
      have hx : znw I L a (i + 1) = if I 22 i ≠ -1 ∧ L 14 26 ≠ 0 ∧ I 25 i = a ∧ (L 15 (I 22 i).toNat = L 14 26 ∨ L 16 (I 22 i).toNat = L 14 26) then ((i / 2 : Nat) : Int) else znw I L a i := rfl
      have e2 : ((i : Int) / 2) = ((i / 2 : Nat) : Int) := rfl
      unfold X8_now_b4
      simp (disch := first | omega | assumption) only [zcmp_0, ↓zb, ↓zckb, zu_j, zu_c, zu_eq, Int.toNat_natCast, ↓zo_14b, ↓zg_14_0b, ↓zg_14_1b, ↓zg_14_2b, ↓zg_14_3b, ↓zg_14_4b, ↓zg_14_5b, ↓zg_14_6b, ↓zg_14_7b, ↓zp_14_7b, ↓zg_14_8b, ↓zg_14_9b, ↓zg_14_10b, ↓zg_14_11b, ↓zg_14_12b, ↓zg_14_13b, ↓zg_14_14b, ↓zp_14_14b, ↓zg_14_15b, ↓zg_14_16b, ↓zg_14_17b, ↓zg_14_18b, ↓zg_14_19b, ↓zp_14_19b, ↓zg_14_20b, ↓zg_14_21b, ↓zg_14_22b, ↓zg_14_23b, ↓zg_14_24b, ↓zg_14_25b, ↓zp_14_25b, ↓zg_14_26b, ↓zp_14_26b, ↓zg_14_27b, ↓zp_14_27b, ↓zg_14_28b, ↓zp_14_28b, ↓zg_14_29b, ↓zp_14_29b, ↓za_15b, ↓zs_15b, ↓zl_15b, ↓za_16b, ↓zs_16b, ↓zl_16b, ↓za_17b, ↓zs_17b, ↓zl_17b, ↓za_18b, ↓zs_18b, ↓zl_18b, ↓za_19b, ↓zs_19b, ↓zl_19b, ↓za_20b, ↓zs_20b, ↓zl_20b, ↓za_21b, ↓zs_21b, ↓zl_21b, ↓za_22b, ↓zs_22b, ↓zl_22b, ↓za_23b, ↓zs_23b, ↓zl_23b, ↓za_24b, ↓zs_24b, ↓zl_24b, ↓za_25b, ↓zs_25b, ↓zl_25b, ↓za_26b, ↓zs_26b, ↓zl_26b, ↓za_27b, ↓zs_27b, ↓zl_27b, ↓za_28b, ↓zs_28b, ↓zl_28b, ↓za_29b, ↓zs_29b, ↓zl_29b, ↓za_30b, ↓zs_30b, ↓zl_30b, ↓za_31b, ↓zs_31b, ↓zl_31b, ↓za_32b, ↓zs_32b, ↓zl_32b, ↓za_33b, ↓zs_33b, ↓zl_33b, ↓za_34b, ↓zs_34b, ↓zl_34b, ↓za_35b, ↓zs_35b, ↓zl_35b, ↓za_36b, ↓zs_36b, ↓zl_36b, ↓za_37b, ↓zs_37b, ↓zl_37b, ↓za_38b, ↓zs_38b]
      rw [if_neg (by omega)]
      by_cases c1 : I 22 i = -1
      · rw [if_pos c1, hx, if_neg (fun y => y.1 c1)]
        rfl
      · have hs' := hs i (by omega) c1
        rw [if_neg c1]
        by_cases c2 : L 14 26 = 0
        · rw [if_pos c2, hx, if_neg (fun y => y.2.1 c2)]
          rfl
        · rw [if_neg c2]
          by_cases c3 : I 25 i = a
          · simp (disch := first | omega | assumption) only [zcmp_0, ↓zdvb, ↓zb, ↓zckb, zu_j, zu_c, zu_eq, Int.toNat_natCast, ↓zo_14b, ↓zg_14_0b, ↓zg_14_1b, ↓zg_14_2b, ↓zg_14_3b, ↓zg_14_4b, ↓zg_14_5b, ↓zg_14_6b, ↓zg_14_7b, ↓zp_14_7b, ↓zg_14_8b, ↓zg_14_9b, ↓zg_14_10b, ↓zg_14_11b, ↓zg_14_12b, ↓zg_14_13b, ↓zg_14_14b, ↓zp_14_14b, ↓zg_14_15b, ↓zg_14_16b, ↓zg_14_17b, ↓zg_14_18b, ↓zg_14_19b, ↓zp_14_19b, ↓zg_14_20b, ↓zg_14_21b, ↓zg_14_22b, ↓zg_14_23b, ↓zg_14_24b, ↓zg_14_25b, ↓zp_14_25b, ↓zg_14_26b, ↓zp_14_26b, ↓zg_14_27b, ↓zp_14_27b, ↓zg_14_28b, ↓zp_14_28b, ↓zg_14_29b, ↓zp_14_29b, ↓za_15b, ↓zs_15b, ↓zl_15b, ↓za_16b, ↓zs_16b, ↓zl_16b, ↓za_17b, ↓zs_17b, ↓zl_17b, ↓za_18b, ↓zs_18b, ↓zl_18b, ↓za_19b, ↓zs_19b, ↓zl_19b, ↓za_20b, ↓zs_20b, ↓zl_20b, ↓za_21b, ↓zs_21b, ↓zl_21b, ↓za_22b, ↓zs_22b, ↓zl_22b, ↓za_23b, ↓zs_23b, ↓zl_23b, ↓za_24b, ↓zs_24b, ↓zl_24b, ↓za_25b, ↓zs_25b, ↓zl_25b, ↓za_26b, ↓zs_26b, ↓zl_26b, ↓za_27b, ↓zs_27b, ↓zl_27b, ↓za_28b, ↓zs_28b, ↓zl_28b, ↓za_29b, ↓zs_29b, ↓zl_29b, ↓za_30b, ↓zs_30b, ↓zl_30b, ↓za_31b, ↓zs_31b, ↓zl_31b, ↓za_32b, ↓zs_32b, ↓zl_32b, ↓za_33b, ↓zs_33b, ↓zl_33b, ↓za_34b, ↓zs_34b, ↓zl_34b, ↓za_35b, ↓zs_35b, ↓zl_35b, ↓za_36b, ↓zs_36b, ↓zl_36b, ↓za_37b, ↓zs_37b, ↓zl_37b, ↓za_38b, ↓zs_38b]
            rw [if_pos c3]
            by_cases c4 : L 15 (I 22 i).toNat = L 14 26
            · rw [if_pos c4, hx, if_pos ⟨c1, c2, c3, Or.inl c4⟩, e2]
              rfl
            · rw [if_neg c4]
              by_cases c5 : L 16 (I 22 i).toNat = L 14 26
              · rw [if_pos c5, hx, if_pos ⟨c1, c2, c3, Or.inr c5⟩, e2]
                rfl
              · rw [if_neg c5, hx, if_neg (fun y => y.2.2.2.elim c4 c5)]
                rfl
          · rw [if_neg c3, hx, if_neg (fun y => c3 y.2.2.1)]
            rfl
    · unfold X8_now_b4
      simp (disch := first | omega | assumption) only [↓zb, ↓zckb, zu_j, zu_c, zu_eq, Int.toNat_natCast, ↓zo_14b, ↓zg_14_0b, ↓zg_14_1b, ↓zg_14_2b, ↓zg_14_3b, ↓zg_14_4b, ↓zg_14_5b, ↓zg_14_6b, ↓zg_14_7b, ↓zp_14_7b, ↓zg_14_8b, ↓zg_14_9b, ↓zg_14_10b, ↓zg_14_11b, ↓zg_14_12b, ↓zg_14_13b, ↓zg_14_14b, ↓zp_14_14b, ↓zg_14_15b, ↓zg_14_16b, ↓zg_14_17b, ↓zg_14_18b, ↓zg_14_19b, ↓zp_14_19b, ↓zg_14_20b, ↓zg_14_21b, ↓zg_14_22b, ↓zg_14_23b, ↓zg_14_24b, ↓zg_14_25b, ↓zp_14_25b, ↓zg_14_26b, ↓zp_14_26b, ↓zg_14_27b, ↓zp_14_27b, ↓zg_14_28b, ↓zp_14_28b, ↓zg_14_29b, ↓zp_14_29b, ↓za_15b, ↓zs_15b, ↓zl_15b, ↓za_16b, ↓zs_16b, ↓zl_16b, ↓za_17b, ↓zs_17b, ↓zl_17b, ↓za_18b, ↓zs_18b, ↓zl_18b, ↓za_19b, ↓zs_19b, ↓zl_19b, ↓za_20b, ↓zs_20b, ↓zl_20b, ↓za_21b, ↓zs_21b, ↓zl_21b, ↓za_22b, ↓zs_22b, ↓zl_22b, ↓za_23b, ↓zs_23b, ↓zl_23b, ↓za_24b, ↓zs_24b, ↓zl_24b, ↓za_25b, ↓zs_25b, ↓zl_25b, ↓za_26b, ↓zs_26b, ↓zl_26b, ↓za_27b, ↓zs_27b, ↓zl_27b, ↓za_28b, ↓zs_28b, ↓zl_28b, ↓za_29b, ↓zs_29b, ↓zl_29b, ↓za_30b, ↓zs_30b, ↓zl_30b, ↓za_31b, ↓zs_31b, ↓zl_31b, ↓za_32b, ↓zs_32b, ↓zl_32b, ↓za_33b, ↓zs_33b, ↓zl_33b, ↓za_34b, ↓zs_34b, ↓zl_34b, ↓za_35b, ↓zs_35b, ↓zl_35b, ↓za_36b, ↓zs_36b, ↓zl_36b, ↓za_37b, ↓zs_37b, ↓zl_37b, ↓za_38b, ↓zs_38b]
      rw [if_pos (by omega)]
  unfold X8_now
  rw [h]
  rfl
def zla (I : zIT) (L : zLT) (a : Int) : Nat → Int
  | 0 => -1
  | n + 1 => if L 14 26 ≠ 0 ∧ L 28 n = L 14 26 ∧ I 29 n = a then (n : Int) else zla I L a n
theorem m_latest {A : zIT} {K : zLT} {I : zIT} {L : zLT} {F : zFT} {E : zET} {dyn : zH} {a : Int} (hb : zB I) : X8_latest (zM A K I L F E dyn) (some 14) a = some (zla I L a (I 14 19).toNat) := by
  have hb' := hb
  unfold zB at hb'
  have h : zloop (X8_latest_b4 (some 14) a (zM A K I L F E dyn)) zN (-1, 0) = some (zla I L a (I 14 19).toNat) := by
    refine zloop_0 (body := X8_latest_b4 (some 14) a (zM A K I L F E dyn)) (fun i => (zla I L a i, (i : Int))) (I 14 19).toNat ?_ ?_ (by omega)
    · intro i hi
      have hx : zla I L a (i + 1) = if L 14 26 ≠ 0 ∧ L 28 i = L 14 26 ∧ I 29 i = a then (i : Int) else zla I L a i := rfl
      unfold X8_latest_b4
      simp (disch := first | omega | assumption) only [zcmp_0, ↓zb, ↓zckb, zu_j, zu_c, zu_eq, Int.toNat_natCast, ↓zo_14b, ↓zg_14_0b, ↓zg_14_1b, ↓zg_14_2b, ↓zg_14_3b, ↓zg_14_4b, ↓zg_14_5b, ↓zg_14_6b, ↓zg_14_7b, ↓zp_14_7b, ↓zg_14_8b, ↓zg_14_9b, ↓zg_14_10b, ↓zg_14_11b, ↓zg_14_12b, ↓zg_14_13b, ↓zg_14_14b, ↓zp_14_14b, ↓zg_14_15b, ↓zg_14_16b, ↓zg_14_17b, ↓zg_14_18b, ↓zg_14_19b, ↓zp_14_19b, ↓zg_14_20b, ↓zg_14_21b, ↓zg_14_22b, ↓zg_14_23b, ↓zg_14_24b, ↓zg_14_25b, ↓zp_14_25b, ↓zg_14_26b, ↓zp_14_26b, ↓zg_14_27b, ↓zp_14_27b, ↓zg_14_28b, ↓zp_14_28b, ↓zg_14_29b, ↓zp_14_29b, ↓za_15b, ↓zs_15b, ↓zl_15b, ↓za_16b, ↓zs_16b, ↓zl_16b, ↓za_17b, ↓zs_17b, ↓zl_17b, ↓za_18b, ↓zs_18b, ↓zl_18b, ↓za_19b, ↓zs_19b, ↓zl_19b, ↓za_20b, ↓zs_20b, ↓zl_20b, ↓za_21b, ↓zs_21b, ↓zl_21b, ↓za_22b, ↓zs_22b, ↓zl_22b, ↓za_23b, ↓zs_23b, ↓zl_23b, ↓za_24b, ↓zs_24b, ↓zl_24b, ↓za_25b, ↓zs_25b, ↓zl_25b, ↓za_26b, ↓zs_26b, ↓zl_26b, ↓za_27b, ↓zs_27b, ↓zl_27b, ↓za_28b, ↓zs_28b, ↓zl_28b, ↓za_29b, ↓zs_29b, ↓zl_29b, ↓za_30b, ↓zs_30b, ↓zl_30b, ↓za_31b, ↓zs_31b, ↓zl_31b, ↓za_32b, ↓zs_32b, ↓zl_32b, ↓za_33b, ↓zs_33b, ↓zl_33b, ↓za_34b, ↓zs_34b, ↓zl_34b, ↓za_35b, ↓zs_35b, ↓zl_35b, ↓za_36b, ↓zs_36b, ↓zl_36b, ↓za_37b, ↓zs_37b, ↓zl_37b, ↓za_38b, ↓zs_38b]
      rw [if_neg (by omega)]
      by_cases c2 : L 14 26 = 0
      · rw [if_pos c2, hx, if_neg (fun y => y.1 c2)]
        rfl
      · rw [if_neg c2]
        by_cases c4 : L 28 i = L 14 26
        · rw [if_pos c4]
          by_cases c3 : I 29 i = a
          · rw [if_pos c3, hx, if_pos ⟨c2, c4, c3⟩]
            rfl
          · rw [if_neg c3, hx, if_neg (fun y => c3 y.2.2)]
            rfl
        · rw [if_neg c4, hx, if_neg (fun y => c4 y.2.1)]
          rfl
    · unfold X8_latest_b4
      simp (disch := first | omega | assumption) only [↓zb, ↓zckb, zu_j, zu_c, zu_eq, Int.toNat_natCast, ↓zo_14b, ↓zg_14_0b, ↓zg_14_1b, ↓zg_14_2b, ↓zg_14_3b, ↓zg_14_4b, ↓zg_14_5b, ↓zg_14_6b, ↓zg_14_7b, ↓zp_14_7b, ↓zg_14_8b, ↓zg_14_9b, ↓zg_14_10b, ↓zg_14_11b, ↓zg_14_12b, ↓zg_14_13b, ↓zg_14_14b, ↓zp_14_14b, ↓zg_14_15b, ↓zg_14_16b, ↓zg_14_17b, ↓zg_14_18b, ↓zg_14_19b, ↓zp_14_19b, ↓zg_14_20b, ↓zg_14_21b, ↓zg_14_22b, ↓zg_14_23b, ↓zg_14_24b, ↓zg_14_25b, ↓zp_14_25b, ↓zg_14_26b, ↓zp_14_26b, ↓zg_14_27b, ↓zp_14_27b, ↓zg_14_28b, ↓zp_14_28b, ↓zg_14_29b, ↓zp_14_29b, ↓za_15b, ↓zs_15b, ↓zl_15b, ↓za_16b, ↓zs_16b, ↓zl_16b, ↓za_17b, ↓zs_17b, ↓zl_17b, ↓za_18b, ↓zs_18b, ↓zl_18b, ↓za_19b, ↓zs_19b, ↓zl_19b, ↓za_20b, ↓zs_20b, ↓zl_20b, ↓za_21b, ↓zs_21b, ↓zl_21b, ↓za_22b, ↓zs_22b, ↓zl_22b, ↓za_23b, ↓zs_23b, ↓zl_23b, ↓za_24b, ↓zs_24b, ↓zl_24b, ↓za_25b, ↓zs_25b, ↓zl_25b, ↓za_26b, ↓zs_26b, ↓zl_26b, ↓za_27b, ↓zs_27b, ↓zl_27b, ↓za_28b, ↓zs_28b, ↓zl_28b, ↓za_29b, ↓zs_29b, ↓zl_29b, ↓za_30b, ↓zs_30b, ↓zl_30b, ↓za_31b, ↓zs_31b, ↓zl_31b, ↓za_32b, ↓zs_32b, ↓zl_32b, ↓za_33b, ↓zs_33b, ↓zl_33b, ↓za_34b, ↓zs_34b, ↓zl_34b, ↓za_35b, ↓zs_35b, ↓zl_35b, ↓za_36b, ↓zs_36b, ↓zl_36b, ↓za_37b, ↓zs_37b, ↓zl_37b, ↓za_38b, ↓zs_38b]
      rw [if_pos (by omega)]
  unfold X8_latest
  rw [h]
  rfl
theorem zla_in {I : zIT} {L : zLT} {a : Int} : ∀ n : Nat, -1 ≤ zla I L a n ∧ zla I L a n < n
  | 0 => by
    show -1 ≤ (-1 : Int) ∧ (-1 : Int) < ((0 : Nat) : Int)
    omega
  | n + 1 => by
    have := zla_in (I := I) (L := L) (a := a) n
    simp only [zla]
    split <;> omega
theorem znw_th {I : zIT} {L : zLT} {a t : Int} : ∀ n, znw (zu I 14 29 t) L a n = znw I L a n
  | 0 => rfl
  | n + 1 => by
    simp only [znw]
    rw [znw_th n]
    rfl
theorem zla_th {I : zIT} {L : zLT} {a t : Int} : ∀ n, zla (zu I 14 29 t) L a n = zla I L a n
  | 0 => rfl
  | n + 1 => by
    simp only [zla]
    rw [zla_th n]
    rfl
theorem m_find {A : zIT} {K : zLT} {I : zIT} {L : zLT} {F : zFT} {E : zET} {dyn : zH} {a : Int} (hb : zB I) (hs : ∀ p, p < 80 → I 22 p ≠ -1 → 0 ≤ I 22 p ∧ I 22 p < 12) : X8_find (zM A K I L F E dyn) (some 14) a = if znw I L a (2 * I 14 14).toNat = -1 then some (0, zM A K (zu I 14 29 1) L F E dyn) else some (znw I L a (2 * I 14 14).toNat, zM A K (zu I 14 29 0) L F E dyn) := by
  have h2 : X8_now (zM A K (zu I 14 29 0) L F E dyn) (some 14) a = some (znw I L a (2 * I 14 14).toNat) := (m_now (I := zu I 14 29 0) hb hs).trans (congrArg some (znw_th _))
  unfold X8_find X8_find_j15
  simp (disch := first | omega | assumption) only [m_now hb hs, h2, ↓zb, ↓zckb, zu_j, zu_c, zu_eq, Int.toNat_natCast, ↓zo_14b, ↓zg_14_0b, ↓zg_14_1b, ↓zg_14_2b, ↓zg_14_3b, ↓zg_14_4b, ↓zg_14_5b, ↓zg_14_6b, ↓zg_14_7b, ↓zp_14_7b, ↓zg_14_8b, ↓zg_14_9b, ↓zg_14_10b, ↓zg_14_11b, ↓zg_14_12b, ↓zg_14_13b, ↓zg_14_14b, ↓zp_14_14b, ↓zg_14_15b, ↓zg_14_16b, ↓zg_14_17b, ↓zg_14_18b, ↓zg_14_19b, ↓zp_14_19b, ↓zg_14_20b, ↓zg_14_21b, ↓zg_14_22b, ↓zg_14_23b, ↓zg_14_24b, ↓zg_14_25b, ↓zp_14_25b, ↓zg_14_26b, ↓zp_14_26b, ↓zg_14_27b, ↓zp_14_27b, ↓zg_14_28b, ↓zp_14_28b, ↓zg_14_29b, ↓zp_14_29b, ↓za_15b, ↓zs_15b, ↓zl_15b, ↓za_16b, ↓zs_16b, ↓zl_16b, ↓za_17b, ↓zs_17b, ↓zl_17b, ↓za_18b, ↓zs_18b, ↓zl_18b, ↓za_19b, ↓zs_19b, ↓zl_19b, ↓za_20b, ↓zs_20b, ↓zl_20b, ↓za_21b, ↓zs_21b, ↓zl_21b, ↓za_22b, ↓zs_22b, ↓zl_22b, ↓za_23b, ↓zs_23b, ↓zl_23b, ↓za_24b, ↓zs_24b, ↓zl_24b, ↓za_25b, ↓zs_25b, ↓zl_25b, ↓za_26b, ↓zs_26b, ↓zl_26b, ↓za_27b, ↓zs_27b, ↓zl_27b, ↓za_28b, ↓zs_28b, ↓zl_28b, ↓za_29b, ↓zs_29b, ↓zl_29b, ↓za_30b, ↓zs_30b, ↓zl_30b, ↓za_31b, ↓zs_31b, ↓zl_31b, ↓za_32b, ↓zs_32b, ↓zl_32b, ↓za_33b, ↓zs_33b, ↓zl_33b, ↓za_34b, ↓zs_34b, ↓zl_34b, ↓za_35b, ↓zs_35b, ↓zl_35b, ↓za_36b, ↓zs_36b, ↓zl_36b, ↓za_37b, ↓zs_37b, ↓zl_37b, ↓za_38b, ↓zs_38b, ↓reduceIte, Nat.reduceEqDiff, zne10, eq_self, ↓m_nob1, ↓m_nob0, zu_zu]
theorem m_until {A : zIT} {K : zLT} {I : zIT} {L : zLT} {F : zFT} {E : zET} {dyn : zH} {a : Int} (hb : zB I) : X8_until (zM A K I L F E dyn) (some 14) a = if zla I L a (I 14 19).toNat = -1 then some (0, zM A K (zu I 14 29 1) L F E dyn) else some (I 31 (zla I L a (I 14 19).toNat).toNat, zM A K (zu I 14 29 0) L F E dyn) := by
  have h2 : X8_latest (zM A K (zu I 14 29 0) L F E dyn) (some 14) a = some (zla I L a (I 14 19).toNat) := (m_latest (I := zu I 14 29 0) hb).trans (congrArg some (zla_th _))
  have h3 := zla_in (I := I) (L := L) (a := a) (I 14 19).toNat
  have hb' := hb
  unfold zB at hb'
  unfold X8_until X8_until_j15
  simp (disch := first | omega | assumption) only [m_latest hb, h2, ↓zb, ↓zckb, zu_j, zu_c, zu_eq, Int.toNat_natCast, ↓zo_14b, ↓zg_14_0b, ↓zg_14_1b, ↓zg_14_2b, ↓zg_14_3b, ↓zg_14_4b, ↓zg_14_5b, ↓zg_14_6b, ↓zg_14_7b, ↓zp_14_7b, ↓zg_14_8b, ↓zg_14_9b, ↓zg_14_10b, ↓zg_14_11b, ↓zg_14_12b, ↓zg_14_13b, ↓zg_14_14b, ↓zp_14_14b, ↓zg_14_15b, ↓zg_14_16b, ↓zg_14_17b, ↓zg_14_18b, ↓zg_14_19b, ↓zp_14_19b, ↓zg_14_20b, ↓zg_14_21b, ↓zg_14_22b, ↓zg_14_23b, ↓zg_14_24b, ↓zg_14_25b, ↓zp_14_25b, ↓zg_14_26b, ↓zp_14_26b, ↓zg_14_27b, ↓zp_14_27b, ↓zg_14_28b, ↓zp_14_28b, ↓zg_14_29b, ↓zp_14_29b, ↓za_15b, ↓zs_15b, ↓zl_15b, ↓za_16b, ↓zs_16b, ↓zl_16b, ↓za_17b, ↓zs_17b, ↓zl_17b, ↓za_18b, ↓zs_18b, ↓zl_18b, ↓za_19b, ↓zs_19b, ↓zl_19b, ↓za_20b, ↓zs_20b, ↓zl_20b, ↓za_21b, ↓zs_21b, ↓zl_21b, ↓za_22b, ↓zs_22b, ↓zl_22b, ↓za_23b, ↓zs_23b, ↓zl_23b, ↓za_24b, ↓zs_24b, ↓zl_24b, ↓za_25b, ↓zs_25b, ↓zl_25b, ↓za_26b, ↓zs_26b, ↓zl_26b, ↓za_27b, ↓zs_27b, ↓zl_27b, ↓za_28b, ↓zs_28b, ↓zl_28b, ↓za_29b, ↓zs_29b, ↓zl_29b, ↓za_30b, ↓zs_30b, ↓zl_30b, ↓za_31b, ↓zs_31b, ↓zl_31b, ↓za_32b, ↓zs_32b, ↓zl_32b, ↓za_33b, ↓zs_33b, ↓zl_33b, ↓za_34b, ↓zs_34b, ↓zl_34b, ↓za_35b, ↓zs_35b, ↓zl_35b, ↓za_36b, ↓zs_36b, ↓zl_36b, ↓za_37b, ↓zs_37b, ↓zl_37b, ↓za_38b, ↓zs_38b, ↓reduceIte, Nat.reduceEqDiff, zne10, eq_self, ↓m_nob1, ↓m_nob0, zu_zu]
theorem m_send_now {A : zIT} {K : zLT} {I : zIT} {L : zLT} {F : zFT} {E : zET} {dyn : zH} {a : Int} (hb : zB I) (hs : ∀ p, p < 80 → I 22 p ≠ -1 → 0 ≤ I 22 p ∧ I 22 p < 12) (h : znw I L a (2 * I 14 14).toNat ≠ -1) : X8_send (zM A K I L F E dyn) (some 14) a = some (znw I L a (2 * I 14 14).toNat, zM A K (zu I 14 29 0) L F E dyn) := by
  unfold X8_send
  simp (disch := first | omega | assumption) only [m_now hb hs, ↓zb, ↓zckb, zu_j, zu_c, zu_eq, Int.toNat_natCast, ↓zo_14b, ↓zg_14_0b, ↓zg_14_1b, ↓zg_14_2b, ↓zg_14_3b, ↓zg_14_4b, ↓zg_14_5b, ↓zg_14_6b, ↓zg_14_7b, ↓zp_14_7b, ↓zg_14_8b, ↓zg_14_9b, ↓zg_14_10b, ↓zg_14_11b, ↓zg_14_12b, ↓zg_14_13b, ↓zg_14_14b, ↓zp_14_14b, ↓zg_14_15b, ↓zg_14_16b, ↓zg_14_17b, ↓zg_14_18b, ↓zg_14_19b, ↓zp_14_19b, ↓zg_14_20b, ↓zg_14_21b, ↓zg_14_22b, ↓zg_14_23b, ↓zg_14_24b, ↓zg_14_25b, ↓zp_14_25b, ↓zg_14_26b, ↓zp_14_26b, ↓zg_14_27b, ↓zp_14_27b, ↓zg_14_28b, ↓zp_14_28b, ↓zg_14_29b, ↓zp_14_29b, ↓za_15b, ↓zs_15b, ↓zl_15b, ↓za_16b, ↓zs_16b, ↓zl_16b, ↓za_17b, ↓zs_17b, ↓zl_17b, ↓za_18b, ↓zs_18b, ↓zl_18b, ↓za_19b, ↓zs_19b, ↓zl_19b, ↓za_20b, ↓zs_20b, ↓zl_20b, ↓za_21b, ↓zs_21b, ↓zl_21b, ↓za_22b, ↓zs_22b, ↓zl_22b, ↓za_23b, ↓zs_23b, ↓zl_23b, ↓za_24b, ↓zs_24b, ↓zl_24b, ↓za_25b, ↓zs_25b, ↓zl_25b, ↓za_26b, ↓zs_26b, ↓zl_26b, ↓za_27b, ↓zs_27b, ↓zl_27b, ↓za_28b, ↓zs_28b, ↓zl_28b, ↓za_29b, ↓zs_29b, ↓zl_29b, ↓za_30b, ↓zs_30b, ↓zl_30b, ↓za_31b, ↓zs_31b, ↓zl_31b, ↓za_32b, ↓zs_32b, ↓zl_32b, ↓za_33b, ↓zs_33b, ↓zl_33b, ↓za_34b, ↓zs_34b, ↓zl_34b, ↓za_35b, ↓zs_35b, ↓zl_35b, ↓za_36b, ↓zs_36b, ↓zl_36b, ↓za_37b, ↓zs_37b, ↓zl_37b, ↓za_38b, ↓zs_38b, ↓reduceIte, Nat.reduceEqDiff, zne10, eq_self, ↓m_nob1, ↓m_nob0, zu_zu]
  rw [if_neg h]
theorem m_send_1 {A : zIT} {K : zLT} {I : zIT} {L : zLT} {F : zFT} {E : zET} {dyn : zH} {a : Int} (hb : zB I) (hs : ∀ p, p < 80 → I 22 p ≠ -1 → 0 ≤ I 22 p ∧ I 22 p < 12) (h : znw I L a (2 * I 14 14).toNat = -1) (h2 : zla I L a (I 14 19).toNat = -1) : X8_send (zM A K I L F E dyn) (some 14) a = some (0, zM A K (zu I 14 29 1) L F E dyn) := by
  unfold X8_send X8_send_j35
  simp (disch := first | omega | assumption) only [m_now hb hs, m_latest hb, ↓zb, ↓zckb, zu_j, zu_c, zu_eq, Int.toNat_natCast, ↓zo_14b, ↓zg_14_0b, ↓zg_14_1b, ↓zg_14_2b, ↓zg_14_3b, ↓zg_14_4b, ↓zg_14_5b, ↓zg_14_6b, ↓zg_14_7b, ↓zp_14_7b, ↓zg_14_8b, ↓zg_14_9b, ↓zg_14_10b, ↓zg_14_11b, ↓zg_14_12b, ↓zg_14_13b, ↓zg_14_14b, ↓zp_14_14b, ↓zg_14_15b, ↓zg_14_16b, ↓zg_14_17b, ↓zg_14_18b, ↓zg_14_19b, ↓zp_14_19b, ↓zg_14_20b, ↓zg_14_21b, ↓zg_14_22b, ↓zg_14_23b, ↓zg_14_24b, ↓zg_14_25b, ↓zp_14_25b, ↓zg_14_26b, ↓zp_14_26b, ↓zg_14_27b, ↓zp_14_27b, ↓zg_14_28b, ↓zp_14_28b, ↓zg_14_29b, ↓zp_14_29b, ↓za_15b, ↓zs_15b, ↓zl_15b, ↓za_16b, ↓zs_16b, ↓zl_16b, ↓za_17b, ↓zs_17b, ↓zl_17b, ↓za_18b, ↓zs_18b, ↓zl_18b, ↓za_19b, ↓zs_19b, ↓zl_19b, ↓za_20b, ↓zs_20b, ↓zl_20b, ↓za_21b, ↓zs_21b, ↓zl_21b, ↓za_22b, ↓zs_22b, ↓zl_22b, ↓za_23b, ↓zs_23b, ↓zl_23b, ↓za_24b, ↓zs_24b, ↓zl_24b, ↓za_25b, ↓zs_25b, ↓zl_25b, ↓za_26b, ↓zs_26b, ↓zl_26b, ↓za_27b, ↓zs_27b, ↓zl_27b, ↓za_28b, ↓zs_28b, ↓zl_28b, ↓za_29b, ↓zs_29b, ↓zl_29b, ↓za_30b, ↓zs_30b, ↓zl_30b, ↓za_31b, ↓zs_31b, ↓zl_31b, ↓za_32b, ↓zs_32b, ↓zl_32b, ↓za_33b, ↓zs_33b, ↓zl_33b, ↓za_34b, ↓zs_34b, ↓zl_34b, ↓za_35b, ↓zs_35b, ↓zl_35b, ↓za_36b, ↓zs_36b, ↓zl_36b, ↓za_37b, ↓zs_37b, ↓zl_37b, ↓za_38b, ↓zs_38b, ↓reduceIte, Nat.reduceEqDiff, zne10, eq_self, ↓m_nob1, ↓m_nob0, zu_zu]
  rw [if_pos h, if_pos h2]
theorem m_send_0 {A : zIT} {K : zLT} {I : zIT} {L : zLT} {F : zFT} {E : zET} {dyn : zH} {a : Int} {rk : Nat → Nat} (hb : zB I) (ha : zacy I rk) (hs : ∀ p, p < 80 → I 22 p ≠ -1 → 0 ≤ I 22 p ∧ I 22 p < 12) (h : znw I L a (2 * I 14 14).toNat = -1) (h2 : zla I L a (I 14 19).toNat ≠ -1) (hd : ∀ k, k < (I 14 19).toNat → I 30 k < I 14 14) : X8_send (zM A K I L F E dyn) (some 14) a =
    if zend I 40 (I 30 (zla I L a (I 14 19).toNat).toNat) < 0 then some (0, zM A K (zu I 14 29 2) L F E dyn) else some (zend I 40 (I 30 (zla I L a (I 14 19).toNat).toNat), zM A K (zu I 14 29 0) L F E dyn) := by
  have h3 := zla_in (I := I) (L := L) (a := a) (I 14 19).toNat
  have hb' := hb
  unfold zB at hb'
  have he : X8_endOf (zM A K (zu I 14 29 0) L F E dyn) (some 14) (I 30 (zla I L a (I 14 19).toNat).toNat) = some (zend I 40 (I 30 (zla I L a (I 14 19).toNat).toNat)) := m_endOf (I := zu I 14 29 0) hb ha (hd _ (by omega))
  unfold X8_send X8_send_j35 X8_send_j61
  simp (disch := first | omega | assumption) only [m_now hb hs, m_latest hb, ↓zb, ↓zckb, zu_j, zu_c, zu_eq, Int.toNat_natCast, ↓zo_14b, ↓zg_14_0b, ↓zg_14_1b, ↓zg_14_2b, ↓zg_14_3b, ↓zg_14_4b, ↓zg_14_5b, ↓zg_14_6b, ↓zg_14_7b, ↓zp_14_7b, ↓zg_14_8b, ↓zg_14_9b, ↓zg_14_10b, ↓zg_14_11b, ↓zg_14_12b, ↓zg_14_13b, ↓zg_14_14b, ↓zp_14_14b, ↓zg_14_15b, ↓zg_14_16b, ↓zg_14_17b, ↓zg_14_18b, ↓zg_14_19b, ↓zp_14_19b, ↓zg_14_20b, ↓zg_14_21b, ↓zg_14_22b, ↓zg_14_23b, ↓zg_14_24b, ↓zg_14_25b, ↓zp_14_25b, ↓zg_14_26b, ↓zp_14_26b, ↓zg_14_27b, ↓zp_14_27b, ↓zg_14_28b, ↓zp_14_28b, ↓zg_14_29b, ↓zp_14_29b, ↓za_15b, ↓zs_15b, ↓zl_15b, ↓za_16b, ↓zs_16b, ↓zl_16b, ↓za_17b, ↓zs_17b, ↓zl_17b, ↓za_18b, ↓zs_18b, ↓zl_18b, ↓za_19b, ↓zs_19b, ↓zl_19b, ↓za_20b, ↓zs_20b, ↓zl_20b, ↓za_21b, ↓zs_21b, ↓zl_21b, ↓za_22b, ↓zs_22b, ↓zl_22b, ↓za_23b, ↓zs_23b, ↓zl_23b, ↓za_24b, ↓zs_24b, ↓zl_24b, ↓za_25b, ↓zs_25b, ↓zl_25b, ↓za_26b, ↓zs_26b, ↓zl_26b, ↓za_27b, ↓zs_27b, ↓zl_27b, ↓za_28b, ↓zs_28b, ↓zl_28b, ↓za_29b, ↓zs_29b, ↓zl_29b, ↓za_30b, ↓zs_30b, ↓zl_30b, ↓za_31b, ↓zs_31b, ↓zl_31b, ↓za_32b, ↓zs_32b, ↓zl_32b, ↓za_33b, ↓zs_33b, ↓zl_33b, ↓za_34b, ↓zs_34b, ↓zl_34b, ↓za_35b, ↓zs_35b, ↓zl_35b, ↓za_36b, ↓zs_36b, ↓zl_36b, ↓za_37b, ↓zs_37b, ↓zl_37b, ↓za_38b, ↓zs_38b, ↓reduceIte, Nat.reduceEqDiff, zne10, eq_self, ↓m_nob1, ↓m_nob0, zu_zu]
  rw [if_pos h, if_neg h2]
  simp (disch := first | omega | assumption) only [he, ↓zb, ↓zckb, zu_j, zu_c, zu_eq, Int.toNat_natCast, ↓zo_14b, ↓zg_14_0b, ↓zg_14_1b, ↓zg_14_2b, ↓zg_14_3b, ↓zg_14_4b, ↓zg_14_5b, ↓zg_14_6b, ↓zg_14_7b, ↓zp_14_7b, ↓zg_14_8b, ↓zg_14_9b, ↓zg_14_10b, ↓zg_14_11b, ↓zg_14_12b, ↓zg_14_13b, ↓zg_14_14b, ↓zp_14_14b, ↓zg_14_15b, ↓zg_14_16b, ↓zg_14_17b, ↓zg_14_18b, ↓zg_14_19b, ↓zp_14_19b, ↓zg_14_20b, ↓zg_14_21b, ↓zg_14_22b, ↓zg_14_23b, ↓zg_14_24b, ↓zg_14_25b, ↓zp_14_25b, ↓zg_14_26b, ↓zp_14_26b, ↓zg_14_27b, ↓zp_14_27b, ↓zg_14_28b, ↓zp_14_28b, ↓zg_14_29b, ↓zp_14_29b, ↓za_15b, ↓zs_15b, ↓zl_15b, ↓za_16b, ↓zs_16b, ↓zl_16b, ↓za_17b, ↓zs_17b, ↓zl_17b, ↓za_18b, ↓zs_18b, ↓zl_18b, ↓za_19b, ↓zs_19b, ↓zl_19b, ↓za_20b, ↓zs_20b, ↓zl_20b, ↓za_21b, ↓zs_21b, ↓zl_21b, ↓za_22b, ↓zs_22b, ↓zl_22b, ↓za_23b, ↓zs_23b, ↓zl_23b, ↓za_24b, ↓zs_24b, ↓zl_24b, ↓za_25b, ↓zs_25b, ↓zl_25b, ↓za_26b, ↓zs_26b, ↓zl_26b, ↓za_27b, ↓zs_27b, ↓zl_27b, ↓za_28b, ↓zs_28b, ↓zl_28b, ↓za_29b, ↓zs_29b, ↓zl_29b, ↓za_30b, ↓zs_30b, ↓zl_30b, ↓za_31b, ↓zs_31b, ↓zl_31b, ↓za_32b, ↓zs_32b, ↓zl_32b, ↓za_33b, ↓zs_33b, ↓zl_33b, ↓za_34b, ↓zs_34b, ↓zl_34b, ↓za_35b, ↓zs_35b, ↓zl_35b, ↓za_36b, ↓zs_36b, ↓zl_36b, ↓za_37b, ↓zs_37b, ↓zl_37b, ↓za_38b, ↓zs_38b, ↓reduceIte, Nat.reduceEqDiff, zne10, eq_self, ↓m_nob1, ↓m_nob0, zu_zu]
-- ===== counts =====
theorem m_olds {A : zIT} {K : zLT} {I : zIT} {L : zLT} {F : zFT} {E : zET} {dyn : zH} : X8_olds (zM A K I L F E dyn) (some 14) = some (I 14 19) := by
  unfold X8_olds
  simp (disch := first | omega | assumption) only [↓zb, ↓zckb, zu_j, zu_c, zu_eq, Int.toNat_natCast, ↓zo_14b, ↓zg_14_0b, ↓zg_14_1b, ↓zg_14_2b, ↓zg_14_3b, ↓zg_14_4b, ↓zg_14_5b, ↓zg_14_6b, ↓zg_14_7b, ↓zp_14_7b, ↓zg_14_8b, ↓zg_14_9b, ↓zg_14_10b, ↓zg_14_11b, ↓zg_14_12b, ↓zg_14_13b, ↓zg_14_14b, ↓zp_14_14b, ↓zg_14_15b, ↓zg_14_16b, ↓zg_14_17b, ↓zg_14_18b, ↓zg_14_19b, ↓zp_14_19b, ↓zg_14_20b, ↓zg_14_21b, ↓zg_14_22b, ↓zg_14_23b, ↓zg_14_24b, ↓zg_14_25b, ↓zp_14_25b, ↓zg_14_26b, ↓zp_14_26b, ↓zg_14_27b, ↓zp_14_27b, ↓zg_14_28b, ↓zp_14_28b, ↓zg_14_29b, ↓zp_14_29b, ↓za_15b, ↓zs_15b, ↓zl_15b, ↓za_16b, ↓zs_16b, ↓zl_16b, ↓za_17b, ↓zs_17b, ↓zl_17b, ↓za_18b, ↓zs_18b, ↓zl_18b, ↓za_19b, ↓zs_19b, ↓zl_19b, ↓za_20b, ↓zs_20b, ↓zl_20b, ↓za_21b, ↓zs_21b, ↓zl_21b, ↓za_22b, ↓zs_22b, ↓zl_22b, ↓za_23b, ↓zs_23b, ↓zl_23b, ↓za_24b, ↓zs_24b, ↓zl_24b, ↓za_25b, ↓zs_25b, ↓zl_25b, ↓za_26b, ↓zs_26b, ↓zl_26b, ↓za_27b, ↓zs_27b, ↓zl_27b, ↓za_28b, ↓zs_28b, ↓zl_28b, ↓za_29b, ↓zs_29b, ↓zl_29b, ↓za_30b, ↓zs_30b, ↓zl_30b, ↓za_31b, ↓zs_31b, ↓zl_31b, ↓za_32b, ↓zs_32b, ↓zl_32b, ↓za_33b, ↓zs_33b, ↓zl_33b, ↓za_34b, ↓zs_34b, ↓zl_34b, ↓za_35b, ↓zs_35b, ↓zl_35b, ↓za_36b, ↓zs_36b, ↓zl_36b, ↓za_37b, ↓zs_37b, ↓zl_37b, ↓za_38b, ↓zs_38b]
def zdo (I : zIT) (s : Int) (n : Nat) : Int := zsum (fun p => if I 22 p = s then 1 else 0) n
theorem zdo_in {I : zIT} {s : Int} (n : Nat) : 0 ≤ zdo I s n ∧ zdo I s n ≤ 1 * (n : Int) := zsum_le (fun k => by split <;> omega) n
theorem m_doorsOf {A : zIT} {K : zLT} {I : zIT} {L : zLT} {F : zFT} {E : zET} {dyn : zH} {s : Int} : X8_doorsOf (zM A K I L F E dyn) (some 14) s = some (zdo I s 80) := by
  have h : zloop (X8_doorsOf_b4 (some 14) s (zM A K I L F E dyn)) zN (0, 0) = some (zdo I s 80) := by
    refine zloop_0 (body := X8_doorsOf_b4 (some 14) s (zM A K I L F E dyn)) (fun i => (zdo I s i, (i : Int))) 80 ?_ ?_ (by omega)
    · intro i hi
      have hx : zdo I s (i + 1) = zdo I s i + (if I 22 i = s then 1 else 0) := rfl
      have hz := zdo_in (I := I) (s := s) i
      unfold X8_doorsOf_b4
      simp (disch := first | omega | assumption) only [↓zb, ↓zckb, zu_j, zu_c, zu_eq, Int.toNat_natCast, ↓zo_14b, ↓zg_14_0b, ↓zg_14_1b, ↓zg_14_2b, ↓zg_14_3b, ↓zg_14_4b, ↓zg_14_5b, ↓zg_14_6b, ↓zg_14_7b, ↓zp_14_7b, ↓zg_14_8b, ↓zg_14_9b, ↓zg_14_10b, ↓zg_14_11b, ↓zg_14_12b, ↓zg_14_13b, ↓zg_14_14b, ↓zp_14_14b, ↓zg_14_15b, ↓zg_14_16b, ↓zg_14_17b, ↓zg_14_18b, ↓zg_14_19b, ↓zp_14_19b, ↓zg_14_20b, ↓zg_14_21b, ↓zg_14_22b, ↓zg_14_23b, ↓zg_14_24b, ↓zg_14_25b, ↓zp_14_25b, ↓zg_14_26b, ↓zp_14_26b, ↓zg_14_27b, ↓zp_14_27b, ↓zg_14_28b, ↓zp_14_28b, ↓zg_14_29b, ↓zp_14_29b, ↓za_15b, ↓zs_15b, ↓zl_15b, ↓za_16b, ↓zs_16b, ↓zl_16b, ↓za_17b, ↓zs_17b, ↓zl_17b, ↓za_18b, ↓zs_18b, ↓zl_18b, ↓za_19b, ↓zs_19b, ↓zl_19b, ↓za_20b, ↓zs_20b, ↓zl_20b, ↓za_21b, ↓zs_21b, ↓zl_21b, ↓za_22b, ↓zs_22b, ↓zl_22b, ↓za_23b, ↓zs_23b, ↓zl_23b, ↓za_24b, ↓zs_24b, ↓zl_24b, ↓za_25b, ↓zs_25b, ↓zl_25b, ↓za_26b, ↓zs_26b, ↓zl_26b, ↓za_27b, ↓zs_27b, ↓zl_27b, ↓za_28b, ↓zs_28b, ↓zl_28b, ↓za_29b, ↓zs_29b, ↓zl_29b, ↓za_30b, ↓zs_30b, ↓zl_30b, ↓za_31b, ↓zs_31b, ↓zl_31b, ↓za_32b, ↓zs_32b, ↓zl_32b, ↓za_33b, ↓zs_33b, ↓zl_33b, ↓za_34b, ↓zs_34b, ↓zl_34b, ↓za_35b, ↓zs_35b, ↓zl_35b, ↓za_36b, ↓zs_36b, ↓zl_36b, ↓za_37b, ↓zs_37b, ↓zl_37b, ↓za_38b, ↓zs_38b]
      rw [if_neg (by omega)]
      by_cases c : I 22 i = s
      · rw [if_pos c, hx, if_pos c]
        rfl
      · rw [if_neg c, hx, if_neg c]
        rfl
    · rfl
  unfold X8_doorsOf
  rw [h]
  rfl
theorem m_doors_1 {A : zIT} {K : zLT} {I : zIT} {L : zLT} {F : zFT} {E : zET} {dyn : zH} {s : Int} (hb : zB I) (h : ¬ zst I s) : X8_doors (zM A K I L F E dyn) (some 14) s = some (0, zM A K (zu I 14 29 1) L F E dyn) := by
  unfold X8_doors
  simp (disch := first | omega | assumption) only [zbl_0 (m_isStreet (A := A) (K := K) (L := L) (F := F) (E := E) (dyn := dyn) hb s) h, ↓zb, ↓zckb, zu_j, zu_c, zu_eq, Int.toNat_natCast, ↓zo_14b, ↓zg_14_0b, ↓zg_14_1b, ↓zg_14_2b, ↓zg_14_3b, ↓zg_14_4b, ↓zg_14_5b, ↓zg_14_6b, ↓zg_14_7b, ↓zp_14_7b, ↓zg_14_8b, ↓zg_14_9b, ↓zg_14_10b, ↓zg_14_11b, ↓zg_14_12b, ↓zg_14_13b, ↓zg_14_14b, ↓zp_14_14b, ↓zg_14_15b, ↓zg_14_16b, ↓zg_14_17b, ↓zg_14_18b, ↓zg_14_19b, ↓zp_14_19b, ↓zg_14_20b, ↓zg_14_21b, ↓zg_14_22b, ↓zg_14_23b, ↓zg_14_24b, ↓zg_14_25b, ↓zp_14_25b, ↓zg_14_26b, ↓zp_14_26b, ↓zg_14_27b, ↓zp_14_27b, ↓zg_14_28b, ↓zp_14_28b, ↓zg_14_29b, ↓zp_14_29b, ↓za_15b, ↓zs_15b, ↓zl_15b, ↓za_16b, ↓zs_16b, ↓zl_16b, ↓za_17b, ↓zs_17b, ↓zl_17b, ↓za_18b, ↓zs_18b, ↓zl_18b, ↓za_19b, ↓zs_19b, ↓zl_19b, ↓za_20b, ↓zs_20b, ↓zl_20b, ↓za_21b, ↓zs_21b, ↓zl_21b, ↓za_22b, ↓zs_22b, ↓zl_22b, ↓za_23b, ↓zs_23b, ↓zl_23b, ↓za_24b, ↓zs_24b, ↓zl_24b, ↓za_25b, ↓zs_25b, ↓zl_25b, ↓za_26b, ↓zs_26b, ↓zl_26b, ↓za_27b, ↓zs_27b, ↓zl_27b, ↓za_28b, ↓zs_28b, ↓zl_28b, ↓za_29b, ↓zs_29b, ↓zl_29b, ↓za_30b, ↓zs_30b, ↓zl_30b, ↓za_31b, ↓zs_31b, ↓zl_31b, ↓za_32b, ↓zs_32b, ↓zl_32b, ↓za_33b, ↓zs_33b, ↓zl_33b, ↓za_34b, ↓zs_34b, ↓zl_34b, ↓za_35b, ↓zs_35b, ↓zl_35b, ↓za_36b, ↓zs_36b, ↓zl_36b, ↓za_37b, ↓zs_37b, ↓zl_37b, ↓za_38b, ↓zs_38b, ↓reduceIte, Nat.reduceEqDiff, zne10, eq_self, ↓m_nob1, ↓m_nob0, zu_zu]
theorem m_doors_0 {A : zIT} {K : zLT} {I : zIT} {L : zLT} {F : zFT} {E : zET} {dyn : zH} {s : Int} (hb : zB I) (h : zst I s) : X8_doors (zM A K I L F E dyn) (some 14) s = some (zdo I s 80, zM A K (zu I 14 29 0) L F E dyn) := by
  unfold X8_doors
  simp (disch := first | omega | assumption) only [zbl_1 (m_isStreet (A := A) (K := K) (L := L) (F := F) (E := E) (dyn := dyn) hb s) h, m_doorsOf, ↓zb, ↓zckb, zu_j, zu_c, zu_eq, Int.toNat_natCast, ↓zo_14b, ↓zg_14_0b, ↓zg_14_1b, ↓zg_14_2b, ↓zg_14_3b, ↓zg_14_4b, ↓zg_14_5b, ↓zg_14_6b, ↓zg_14_7b, ↓zp_14_7b, ↓zg_14_8b, ↓zg_14_9b, ↓zg_14_10b, ↓zg_14_11b, ↓zg_14_12b, ↓zg_14_13b, ↓zg_14_14b, ↓zp_14_14b, ↓zg_14_15b, ↓zg_14_16b, ↓zg_14_17b, ↓zg_14_18b, ↓zg_14_19b, ↓zp_14_19b, ↓zg_14_20b, ↓zg_14_21b, ↓zg_14_22b, ↓zg_14_23b, ↓zg_14_24b, ↓zg_14_25b, ↓zp_14_25b, ↓zg_14_26b, ↓zp_14_26b, ↓zg_14_27b, ↓zp_14_27b, ↓zg_14_28b, ↓zp_14_28b, ↓zg_14_29b, ↓zp_14_29b, ↓za_15b, ↓zs_15b, ↓zl_15b, ↓za_16b, ↓zs_16b, ↓zl_16b, ↓za_17b, ↓zs_17b, ↓zl_17b, ↓za_18b, ↓zs_18b, ↓zl_18b, ↓za_19b, ↓zs_19b, ↓zl_19b, ↓za_20b, ↓zs_20b, ↓zl_20b, ↓za_21b, ↓zs_21b, ↓zl_21b, ↓za_22b, ↓zs_22b, ↓zl_22b, ↓za_23b, ↓zs_23b, ↓zl_23b, ↓za_24b, ↓zs_24b, ↓zl_24b, ↓za_25b, ↓zs_25b, ↓zl_25b, ↓za_26b, ↓zs_26b, ↓zl_26b, ↓za_27b, ↓zs_27b, ↓zl_27b, ↓za_28b, ↓zs_28b, ↓zl_28b, ↓za_29b, ↓zs_29b, ↓zl_29b, ↓za_30b, ↓zs_30b, ↓zl_30b, ↓za_31b, ↓zs_31b, ↓zl_31b, ↓za_32b, ↓zs_32b, ↓zl_32b, ↓za_33b, ↓zs_33b, ↓zl_33b, ↓za_34b, ↓zs_34b, ↓zl_34b, ↓za_35b, ↓zs_35b, ↓zl_35b, ↓za_36b, ↓zs_36b, ↓zl_36b, ↓za_37b, ↓zs_37b, ↓zl_37b, ↓za_38b, ↓zs_38b, ↓reduceIte, Nat.reduceEqDiff, zne10, eq_self, ↓m_nob1, ↓m_nob0, zu_zu]
  rfl
def zsc2 (I : zIT) (n : Nat) : Int := zsum (fun s => if I 20 s = 0 then 1 else 0) n
theorem zsc2_in {I : zIT} (n : Nat) : 0 ≤ zsc2 I n ∧ zsc2 I n ≤ 1 * (n : Int) := zsum_le (fun k => by split <;> omega) n
theorem m_streets {A : zIT} {K : zLT} {I : zIT} {L : zLT} {F : zFT} {E : zET} {dyn : zH} (hb : zB I) : X8_streets (zM A K I L F E dyn) (some 14) = some (zsc2 I (I 14 7).toNat) := by
  have hb' := hb
  unfold zB at hb'
  have h : zloop (X8_streets_b4 (some 14) (zM A K I L F E dyn)) zN (0, 0) = some (zsc2 I (I 14 7).toNat) := by
    refine zloop_0 (body := X8_streets_b4 (some 14) (zM A K I L F E dyn)) (fun i => (zsc2 I i, (i : Int))) (I 14 7).toNat ?_ ?_ (by omega)
    · intro i hi
      have hx : zsc2 I (i + 1) = zsc2 I i + (if I 20 i = 0 then 1 else 0) := rfl
      have hz := zsc2_in (I := I) i
      unfold X8_streets_b4
      simp (disch := first | omega | assumption) only [↓zb, ↓zckb, zu_j, zu_c, zu_eq, Int.toNat_natCast, ↓zo_14b, ↓zg_14_0b, ↓zg_14_1b, ↓zg_14_2b, ↓zg_14_3b, ↓zg_14_4b, ↓zg_14_5b, ↓zg_14_6b, ↓zg_14_7b, ↓zp_14_7b, ↓zg_14_8b, ↓zg_14_9b, ↓zg_14_10b, ↓zg_14_11b, ↓zg_14_12b, ↓zg_14_13b, ↓zg_14_14b, ↓zp_14_14b, ↓zg_14_15b, ↓zg_14_16b, ↓zg_14_17b, ↓zg_14_18b, ↓zg_14_19b, ↓zp_14_19b, ↓zg_14_20b, ↓zg_14_21b, ↓zg_14_22b, ↓zg_14_23b, ↓zg_14_24b, ↓zg_14_25b, ↓zp_14_25b, ↓zg_14_26b, ↓zp_14_26b, ↓zg_14_27b, ↓zp_14_27b, ↓zg_14_28b, ↓zp_14_28b, ↓zg_14_29b, ↓zp_14_29b, ↓za_15b, ↓zs_15b, ↓zl_15b, ↓za_16b, ↓zs_16b, ↓zl_16b, ↓za_17b, ↓zs_17b, ↓zl_17b, ↓za_18b, ↓zs_18b, ↓zl_18b, ↓za_19b, ↓zs_19b, ↓zl_19b, ↓za_20b, ↓zs_20b, ↓zl_20b, ↓za_21b, ↓zs_21b, ↓zl_21b, ↓za_22b, ↓zs_22b, ↓zl_22b, ↓za_23b, ↓zs_23b, ↓zl_23b, ↓za_24b, ↓zs_24b, ↓zl_24b, ↓za_25b, ↓zs_25b, ↓zl_25b, ↓za_26b, ↓zs_26b, ↓zl_26b, ↓za_27b, ↓zs_27b, ↓zl_27b, ↓za_28b, ↓zs_28b, ↓zl_28b, ↓za_29b, ↓zs_29b, ↓zl_29b, ↓za_30b, ↓zs_30b, ↓zl_30b, ↓za_31b, ↓zs_31b, ↓zl_31b, ↓za_32b, ↓zs_32b, ↓zl_32b, ↓za_33b, ↓zs_33b, ↓zl_33b, ↓za_34b, ↓zs_34b, ↓zl_34b, ↓za_35b, ↓zs_35b, ↓zl_35b, ↓za_36b, ↓zs_36b, ↓zl_36b, ↓za_37b, ↓zs_37b, ↓zl_37b, ↓za_38b, ↓zs_38b]
      rw [if_neg (by omega)]
      by_cases c : I 20 i = 0
      · rw [if_pos c, hx, if_pos c]
        rfl
      · rw [if_neg c, hx, if_neg c]
        rfl
    · unfold X8_streets_b4
      simp (disch := first | omega | assumption) only [↓zb, ↓zckb, zu_j, zu_c, zu_eq, Int.toNat_natCast, ↓zo_14b, ↓zg_14_0b, ↓zg_14_1b, ↓zg_14_2b, ↓zg_14_3b, ↓zg_14_4b, ↓zg_14_5b, ↓zg_14_6b, ↓zg_14_7b, ↓zp_14_7b, ↓zg_14_8b, ↓zg_14_9b, ↓zg_14_10b, ↓zg_14_11b, ↓zg_14_12b, ↓zg_14_13b, ↓zg_14_14b, ↓zp_14_14b, ↓zg_14_15b, ↓zg_14_16b, ↓zg_14_17b, ↓zg_14_18b, ↓zg_14_19b, ↓zp_14_19b, ↓zg_14_20b, ↓zg_14_21b, ↓zg_14_22b, ↓zg_14_23b, ↓zg_14_24b, ↓zg_14_25b, ↓zp_14_25b, ↓zg_14_26b, ↓zp_14_26b, ↓zg_14_27b, ↓zp_14_27b, ↓zg_14_28b, ↓zp_14_28b, ↓zg_14_29b, ↓zp_14_29b, ↓za_15b, ↓zs_15b, ↓zl_15b, ↓za_16b, ↓zs_16b, ↓zl_16b, ↓za_17b, ↓zs_17b, ↓zl_17b, ↓za_18b, ↓zs_18b, ↓zl_18b, ↓za_19b, ↓zs_19b, ↓zl_19b, ↓za_20b, ↓zs_20b, ↓zl_20b, ↓za_21b, ↓zs_21b, ↓zl_21b, ↓za_22b, ↓zs_22b, ↓zl_22b, ↓za_23b, ↓zs_23b, ↓zl_23b, ↓za_24b, ↓zs_24b, ↓zl_24b, ↓za_25b, ↓zs_25b, ↓zl_25b, ↓za_26b, ↓zs_26b, ↓zl_26b, ↓za_27b, ↓zs_27b, ↓zl_27b, ↓za_28b, ↓zs_28b, ↓zl_28b, ↓za_29b, ↓zs_29b, ↓zl_29b, ↓za_30b, ↓zs_30b, ↓zl_30b, ↓za_31b, ↓zs_31b, ↓zl_31b, ↓za_32b, ↓zs_32b, ↓zl_32b, ↓za_33b, ↓zs_33b, ↓zl_33b, ↓za_34b, ↓zs_34b, ↓zl_34b, ↓za_35b, ↓zs_35b, ↓zl_35b, ↓za_36b, ↓zs_36b, ↓zl_36b, ↓za_37b, ↓zs_37b, ↓zl_37b, ↓za_38b, ↓zs_38b]
      rw [if_pos (by omega)]
  unfold X8_streets
  rw [h]
  rfl
