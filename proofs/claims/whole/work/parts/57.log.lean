abbrev zRow : Type := Int64 × Int × Int
def zlg : List zRow → zIT × zLT → zIT × zLT
  | [], x => x
  | r :: q, x => zlg q (zoI x.1 r.1 r.2.1 r.2.2, zoL x.1 x.2 r.1)
theorem zlg_app : ∀ (a b : List zRow) (x : zIT × zLT), zlg (a ++ b) x = zlg b (zlg a x)
  | [], _, _ => rfl
  | r :: q, b, x => zlg_app q b _
theorem zlg_c {c : Nat} (h : c < 29 ∨ 31 < c) (h2 : c ≠ 14) : ∀ (a : List zRow) (x : zIT × zLT), (zlg a x).1 c = x.1 c
  | [], _ => rfl
  | r :: q, x => (zlg_c h h2 q _).trans (zoI_c h h2)
theorem zlg_14 {j : Nat} (h : j ≠ 19) : ∀ (a : List zRow) (x : zIT × zLT), (zlg a x).1 14 j = x.1 14 j
  | [], _ => rfl
  | r :: q, x => (zlg_14 h q _).trans (zoI_14 h)
theorem zlg_19 : ∀ (a : List zRow) (x : zIT × zLT), 0 ≤ x.1 14 19 ∧ x.1 14 19 ≤ 200 → 0 ≤ (zlg a x).1 14 19 ∧ (zlg a x).1 14 19 ≤ 200
  | [], _, h => h
  | r :: q, x, h => by
    refine zlg_19 q _ ?_
    simp only [zoI_19 h]
    split
    · exact h
    · split
      · omega
      · omega
theorem zlg_L {c : Nat} (h : c ≠ 28) : ∀ (a : List zRow) (x : zIT × zLT), (zlg a x).2 c = x.2 c
  | [], _ => rfl
  | r :: q, x => (zlg_L h q _).trans (zoL_c h)
theorem zpo_c {I J : zIT} (h : J 22 = I 22) (d : Nat) (s : Int) : zpo J d s = zpo I d s := by
  unfold zpo
  rw [h]
theorem zpo_in {I : zIT} {d : Nat} {s : Int} (h : zpo I d s ≠ -1) : 2 * (d : Int) ≤ zpo I d s ∧ zpo I d s ≤ 2 * (d : Int) + 1 ∧ I 22 (zpo I d s).toNat = s := by
  unfold zpo at *
  split
  · rename_i h1
    rw [zn1]
    omega
  · split
    · rename_i h1 h2
      rw [zn2]
      omega
    · rename_i h1 h2
      rw [if_neg h1, if_neg h2] at h
      exact absurd rfl h
def zngo (I : zIT) (s : Int) (told : Int64) : Nat → List zRow
  | 0 => []
  | n + 1 => zngo I s told n ++ (if zpo I n s = -1 then [] else [(told, I 25 (zpo I n s).toNat, (n : Int))])
theorem m_nameGoes {A : zIT} {K : zLT} {I : zIT} {L : zLT} {F : zFT} {E : zET} {dyn : zH} (hb : zB I) (s : Int) (told : Int64) : X8_nameGoes (zM A K I L F E dyn) (some 14) s told = some (zM A K (zlg (zngo I s told (I 14 14).toNat) (I, L)).1 (zlg (zngo I s told (I 14 14).toNat) (I, L)).2 F E dyn) := by
  unfold zB at hb
  unfold X8_nameGoes
  have h : zloop (X8_nameGoes_b3 (some 14) s told) zN (0, (zM A K I L F E dyn)) = some (zM A K (zlg (zngo I s told (I 14 14).toNat) (I, L)).1 (zlg (zngo I s told (I 14 14).toNat) (I, L)).2 F E dyn) := by
    refine zloop_0 (body := X8_nameGoes_b3 (some 14) s told) (fun i => ((i : Int), zM A K (zlg (zngo I s told i) (I, L)).1 (zlg (zngo I s told i) (I, L)).2 F E dyn)) (I 14 14).toNat ?_ ?_ (by omega)
    · intro i hi
      have f14 : (zlg (zngo I s told i) (I, L)).1 14 14 = I 14 14 := zlg_14 (by omega) _ _
      have f22 : (zlg (zngo I s told i) (I, L)).1 22 = I 22 := zlg_c (by omega) (by omega) _ _
      have f25 : (zlg (zngo I s told i) (I, L)).1 25 = I 25 := zlg_c (by omega) (by omega) _ _
      have f19 := zlg_19 (zngo I s told i) (I, L) hb.2.2
      unfold X8_nameGoes_b3
      simp (disch := first | omega | assumption) only [f14, ↓zb, ↓zckb, zu_j, zu_c, zu_eq, Int.toNat_natCast, ↓zo_14b, ↓zg_14_0b, ↓zg_14_1b, ↓zg_14_2b, ↓zg_14_3b, ↓zg_14_4b, ↓zg_14_5b, ↓zg_14_6b, ↓zg_14_7b, ↓zp_14_7b, ↓zg_14_8b, ↓zg_14_9b, ↓zg_14_10b, ↓zg_14_11b, ↓zg_14_12b, ↓zg_14_13b, ↓zg_14_14b, ↓zp_14_14b, ↓zg_14_15b, ↓zg_14_16b, ↓zg_14_17b, ↓zg_14_18b, ↓zg_14_19b, ↓zp_14_19b, ↓zg_14_20b, ↓zg_14_21b, ↓zg_14_22b, ↓zg_14_23b, ↓zg_14_24b, ↓zg_14_25b, ↓zp_14_25b, ↓zg_14_26b, ↓zp_14_26b, ↓zg_14_27b, ↓zp_14_27b, ↓zg_14_28b, ↓zp_14_28b, ↓zg_14_29b, ↓zp_14_29b, ↓za_15b, ↓zs_15b, ↓zl_15b, ↓za_16b, ↓zs_16b, ↓zl_16b, ↓za_17b, ↓zs_17b, ↓zl_17b, ↓za_18b, ↓zs_18b, ↓zl_18b, ↓za_19b, ↓zs_19b, ↓zl_19b, ↓za_20b, ↓zs_20b, ↓zl_20b, ↓za_21b, ↓zs_21b, ↓zl_21b, ↓za_22b, ↓zs_22b, ↓zl_22b, ↓za_23b, ↓zs_23b, ↓zl_23b, ↓za_24b, ↓zs_24b, ↓zl_24b, ↓za_25b, ↓zs_25b, ↓zl_25b, ↓za_26b, ↓zs_26b, ↓zl_26b, ↓za_27b, ↓zs_27b, ↓zl_27b, ↓za_28b, ↓zs_28b, ↓zl_28b, ↓za_29b, ↓zs_29b, ↓zl_29b, ↓za_30b, ↓zs_30b, ↓zl_30b, ↓za_31b, ↓zs_31b, ↓zl_31b, ↓za_32b, ↓zs_32b, ↓zl_32b, ↓za_33b, ↓zs_33b, ↓zl_33b, ↓za_34b, ↓zs_34b, ↓zl_34b, ↓za_35b, ↓zs_35b, ↓zl_35b, ↓za_36b, ↓zs_36b, ↓zl_36b, ↓za_37b, ↓zs_37b, ↓zl_37b, ↓za_38b, ↓zs_38b]
      rw [if_neg (by omega), m_placeOn (by omega), zb, zpo_c f22]
      by_cases c : zpo I i s = -1
      · have hx : zngo I s told (i + 1) = zngo I s told i := by
          show zngo I s told i ++ _ = _
          rw [if_pos c, List.append_nil]
        rw [if_pos c, hx]
        rfl
      · have hx : zngo I s told (i + 1) = zngo I s told i ++ [(told, I 25 (zpo I i s).toNat, (i : Int))] := by
          show zngo I s told i ++ _ = _
          rw [if_neg c]
        have hz := zpo_in c
        rw [if_neg c, za_25b (by omega) (by omega), f25, m_old f19, zb, hx, zlg_app]
        rfl
    · have f14 : (zlg (zngo I s told (I 14 14).toNat) (I, L)).1 14 14 = I 14 14 := zlg_14 (by omega) _ _
      unfold X8_nameGoes_b3
      simp (disch := first | omega | assumption) only [f14, ↓zb, ↓zckb, zu_j, zu_c, zu_eq, Int.toNat_natCast, ↓zo_14b, ↓zg_14_0b, ↓zg_14_1b, ↓zg_14_2b, ↓zg_14_3b, ↓zg_14_4b, ↓zg_14_5b, ↓zg_14_6b, ↓zg_14_7b, ↓zp_14_7b, ↓zg_14_8b, ↓zg_14_9b, ↓zg_14_10b, ↓zg_14_11b, ↓zg_14_12b, ↓zg_14_13b, ↓zg_14_14b, ↓zp_14_14b, ↓zg_14_15b, ↓zg_14_16b, ↓zg_14_17b, ↓zg_14_18b, ↓zg_14_19b, ↓zp_14_19b, ↓zg_14_20b, ↓zg_14_21b, ↓zg_14_22b, ↓zg_14_23b, ↓zg_14_24b, ↓zg_14_25b, ↓zp_14_25b, ↓zg_14_26b, ↓zp_14_26b, ↓zg_14_27b, ↓zp_14_27b, ↓zg_14_28b, ↓zp_14_28b, ↓zg_14_29b, ↓zp_14_29b, ↓za_15b, ↓zs_15b, ↓zl_15b, ↓za_16b, ↓zs_16b, ↓zl_16b, ↓za_17b, ↓zs_17b, ↓zl_17b, ↓za_18b, ↓zs_18b, ↓zl_18b, ↓za_19b, ↓zs_19b, ↓zl_19b, ↓za_20b, ↓zs_20b, ↓zl_20b, ↓za_21b, ↓zs_21b, ↓zl_21b, ↓za_22b, ↓zs_22b, ↓zl_22b, ↓za_23b, ↓zs_23b, ↓zl_23b, ↓za_24b, ↓zs_24b, ↓zl_24b, ↓za_25b, ↓zs_25b, ↓zl_25b, ↓za_26b, ↓zs_26b, ↓zl_26b, ↓za_27b, ↓zs_27b, ↓zl_27b, ↓za_28b, ↓zs_28b, ↓zl_28b, ↓za_29b, ↓zs_29b, ↓zl_29b, ↓za_30b, ↓zs_30b, ↓zl_30b, ↓za_31b, ↓zs_31b, ↓zl_31b, ↓za_32b, ↓zs_32b, ↓zl_32b, ↓za_33b, ↓zs_33b, ↓zl_33b, ↓za_34b, ↓zs_34b, ↓zl_34b, ↓za_35b, ↓zs_35b, ↓zl_35b, ↓za_36b, ↓zs_36b, ↓zl_36b, ↓za_37b, ↓zs_37b, ↓zl_37b, ↓za_38b, ↓zs_38b]
      rw [if_pos (by omega)]
  rw [h, zb]
def zlv (x : zIT × zLT) (p : Nat) : zIT × zLT := if x.1 22 p = -1 then x else
  (zu (zu (zlg [(x.2 15 (x.1 22 p).toNat, x.1 25 p, ((p / 2 : Nat) : Int)), (x.2 16 (x.1 22 p).toNat, x.1 25 p, ((p / 2 : Nat) : Int))] x).1 22 p (-1)) 25 p (-1),
   (zlg [(x.2 15 (x.1 22 p).toNat, x.1 25 p, ((p / 2 : Nat) : Int)), (x.2 16 (x.1 22 p).toNat, x.1 25 p, ((p / 2 : Nat) : Int))] x).2)
theorem m_leaves {A : zIT} {K : zLT} {I : zIT} {L : zLT} {F : zFT} {E : zET} {dyn : zH} {p : Nat} (hp : p < 80) (h19 : 0 ≤ I 14 19 ∧ I 14 19 ≤ 200) (hs : I 22 p ≠ -1 → 0 ≤ I 22 p ∧ I 22 p < 12) : X8_leaves (zM A K I L F E dyn) (some 14) (p : Int) = some (zM A K (zlv (I, L) p).1 (zlv (I, L) p).2 F E dyn) := by
  unfold X8_leaves zlv
  rw [zg_14_8b, za_22b (by omega) (by omega), Int.toNat_natCast]
  by_cases c : I 22 p = -1
  · rw [if_pos c, if_pos c]
  · rw [if_neg c, if_neg c]
    have hs' := hs c
    have e2 : ((p : Int) / 2) = ((p / 2 : Nat) : Int) := rfl
    simp (disch := first | omega | assumption) only [↓zdvb, ↓zb, ↓zckb, zu_j, zu_c, zu_eq, Int.toNat_natCast, ↓zo_14b, ↓zg_14_0b, ↓zg_14_1b, ↓zg_14_2b, ↓zg_14_3b, ↓zg_14_4b, ↓zg_14_5b, ↓zg_14_6b, ↓zg_14_7b, ↓zp_14_7b, ↓zg_14_8b, ↓zg_14_9b, ↓zg_14_10b, ↓zg_14_11b, ↓zg_14_12b, ↓zg_14_13b, ↓zg_14_14b, ↓zp_14_14b, ↓zg_14_15b, ↓zg_14_16b, ↓zg_14_17b, ↓zg_14_18b, ↓zg_14_19b, ↓zp_14_19b, ↓zg_14_20b, ↓zg_14_21b, ↓zg_14_22b, ↓zg_14_23b, ↓zg_14_24b, ↓zg_14_25b, ↓zp_14_25b, ↓zg_14_26b, ↓zp_14_26b, ↓zg_14_27b, ↓zp_14_27b, ↓zg_14_28b, ↓zp_14_28b, ↓zg_14_29b, ↓zp_14_29b, ↓za_15b, ↓zs_15b, ↓zl_15b, ↓za_16b, ↓zs_16b, ↓zl_16b, ↓za_17b, ↓zs_17b, ↓zl_17b, ↓za_18b, ↓zs_18b, ↓zl_18b, ↓za_19b, ↓zs_19b, ↓zl_19b, ↓za_20b, ↓zs_20b, ↓zl_20b, ↓za_21b, ↓zs_21b, ↓zl_21b, ↓za_22b, ↓zs_22b, ↓zl_22b, ↓za_23b, ↓zs_23b, ↓zl_23b, ↓za_24b, ↓zs_24b, ↓zl_24b, ↓za_25b, ↓zs_25b, ↓zl_25b, ↓za_26b, ↓zs_26b, ↓zl_26b, ↓za_27b, ↓zs_27b, ↓zl_27b, ↓za_28b, ↓zs_28b, ↓zl_28b, ↓za_29b, ↓zs_29b, ↓zl_29b, ↓za_30b, ↓zs_30b, ↓zl_30b, ↓za_31b, ↓zs_31b, ↓zl_31b, ↓za_32b, ↓zs_32b, ↓zl_32b, ↓za_33b, ↓zs_33b, ↓zl_33b, ↓za_34b, ↓zs_34b, ↓zl_34b, ↓za_35b, ↓zs_35b, ↓zl_35b, ↓za_36b, ↓zs_36b, ↓zl_36b, ↓za_37b, ↓zs_37b, ↓zl_37b, ↓za_38b, ↓zs_38b]
    rw [m_old h19, zb]
    have f25 : zoI I (L 15 (I 22 p).toNat) (I 25 p) ((p : Int) / 2) 25 = I 25 := zoI_c (by omega) (by omega)
    have f16 : zoL I L (L 15 (I 22 p).toNat) 16 = L 16 := zoL_c (by omega)
    have f19 : 0 ≤ (zoI I (L 15 (I 22 p).toNat) (I 25 p) ((p : Int) / 2)) 14 19 ∧ (zoI I (L 15 (I 22 p).toNat) (I 25 p) ((p : Int) / 2)) 14 19 ≤ 200 := zlg_19 [(L 15 (I 22 p).toNat, I 25 p, ((p / 2 : Nat) : Int))] (I, L) h19
    simp (disch := first | omega | assumption) only [↓zdvb, f25, f16, ↓zb, ↓zckb, zu_j, zu_c, zu_eq, Int.toNat_natCast, ↓zo_14b, ↓zg_14_0b, ↓zg_14_1b, ↓zg_14_2b, ↓zg_14_3b, ↓zg_14_4b, ↓zg_14_5b, ↓zg_14_6b, ↓zg_14_7b, ↓zp_14_7b, ↓zg_14_8b, ↓zg_14_9b, ↓zg_14_10b, ↓zg_14_11b, ↓zg_14_12b, ↓zg_14_13b, ↓zg_14_14b, ↓zp_14_14b, ↓zg_14_15b, ↓zg_14_16b, ↓zg_14_17b, ↓zg_14_18b, ↓zg_14_19b, ↓zp_14_19b, ↓zg_14_20b, ↓zg_14_21b, ↓zg_14_22b, ↓zg_14_23b, ↓zg_14_24b, ↓zg_14_25b, ↓zp_14_25b, ↓zg_14_26b, ↓zp_14_26b, ↓zg_14_27b, ↓zp_14_27b, ↓zg_14_28b, ↓zp_14_28b, ↓zg_14_29b, ↓zp_14_29b, ↓za_15b, ↓zs_15b, ↓zl_15b, ↓za_16b, ↓zs_16b, ↓zl_16b, ↓za_17b, ↓zs_17b, ↓zl_17b, ↓za_18b, ↓zs_18b, ↓zl_18b, ↓za_19b, ↓zs_19b, ↓zl_19b, ↓za_20b, ↓zs_20b, ↓zl_20b, ↓za_21b, ↓zs_21b, ↓zl_21b, ↓za_22b, ↓zs_22b, ↓zl_22b, ↓za_23b, ↓zs_23b, ↓zl_23b, ↓za_24b, ↓zs_24b, ↓zl_24b, ↓za_25b, ↓zs_25b, ↓zl_25b, ↓za_26b, ↓zs_26b, ↓zl_26b, ↓za_27b, ↓zs_27b, ↓zl_27b, ↓za_28b, ↓zs_28b, ↓zl_28b, ↓za_29b, ↓zs_29b, ↓zl_29b, ↓za_30b, ↓zs_30b, ↓zl_30b, ↓za_31b, ↓zs_31b, ↓zl_31b, ↓za_32b, ↓zs_32b, ↓zl_32b, ↓za_33b, ↓zs_33b, ↓zl_33b, ↓za_34b, ↓zs_34b, ↓zl_34b, ↓za_35b, ↓zs_35b, ↓zl_35b, ↓za_36b, ↓zs_36b, ↓zl_36b, ↓za_37b, ↓zs_37b, ↓zl_37b, ↓za_38b, ↓zs_38b]
    rw [m_old f19, zb]
    simp (disch := first | omega | assumption) only [↓zb, ↓zckb, zu_j, zu_c, zu_eq, Int.toNat_natCast, ↓zo_14b, ↓zg_14_0b, ↓zg_14_1b, ↓zg_14_2b, ↓zg_14_3b, ↓zg_14_4b, ↓zg_14_5b, ↓zg_14_6b, ↓zg_14_7b, ↓zp_14_7b, ↓zg_14_8b, ↓zg_14_9b, ↓zg_14_10b, ↓zg_14_11b, ↓zg_14_12b, ↓zg_14_13b, ↓zg_14_14b, ↓zp_14_14b, ↓zg_14_15b, ↓zg_14_16b, ↓zg_14_17b, ↓zg_14_18b, ↓zg_14_19b, ↓zp_14_19b, ↓zg_14_20b, ↓zg_14_21b, ↓zg_14_22b, ↓zg_14_23b, ↓zg_14_24b, ↓zg_14_25b, ↓zp_14_25b, ↓zg_14_26b, ↓zp_14_26b, ↓zg_14_27b, ↓zp_14_27b, ↓zg_14_28b, ↓zp_14_28b, ↓zg_14_29b, ↓zp_14_29b, ↓za_15b, ↓zs_15b, ↓zl_15b, ↓za_16b, ↓zs_16b, ↓zl_16b, ↓za_17b, ↓zs_17b, ↓zl_17b, ↓za_18b, ↓zs_18b, ↓zl_18b, ↓za_19b, ↓zs_19b, ↓zl_19b, ↓za_20b, ↓zs_20b, ↓zl_20b, ↓za_21b, ↓zs_21b, ↓zl_21b, ↓za_22b, ↓zs_22b, ↓zl_22b, ↓za_23b, ↓zs_23b, ↓zl_23b, ↓za_24b, ↓zs_24b, ↓zl_24b, ↓za_25b, ↓zs_25b, ↓zl_25b, ↓za_26b, ↓zs_26b, ↓zl_26b, ↓za_27b, ↓zs_27b, ↓zl_27b, ↓za_28b, ↓zs_28b, ↓zl_28b, ↓za_29b, ↓zs_29b, ↓zl_29b, ↓za_30b, ↓zs_30b, ↓zl_30b, ↓za_31b, ↓zs_31b, ↓zl_31b, ↓za_32b, ↓zs_32b, ↓zl_32b, ↓za_33b, ↓zs_33b, ↓zl_33b, ↓za_34b, ↓zs_34b, ↓zl_34b, ↓za_35b, ↓zs_35b, ↓zl_35b, ↓za_36b, ↓zs_36b, ↓zl_36b, ↓za_37b, ↓zs_37b, ↓zl_37b, ↓za_38b, ↓zs_38b]
    rfl
def zgo (x : zIT × zLT) (d : Nat) (to : Int) : zIT × zLT := (zu (zu (zlv (zlv x (2 * d)) (2 * d + 1)).1 26 d 1) 27 d to, (zlv (zlv x (2 * d)) (2 * d + 1)).2)
theorem zlv_19 {x : zIT × zLT} {p : Nat} (h : 0 ≤ x.1 14 19 ∧ x.1 14 19 ≤ 200) : 0 ≤ (zlv x p).1 14 19 ∧ (zlv x p).1 14 19 ≤ 200 := by
  unfold zlv
  split
  · exact h
  · simp (disch := omega) only [zu_c]
    exact zlg_19 _ x h
theorem zlv_22 {x : zIT × zLT} {p q : Nat} (h : p ≠ q) : (zlv x p).1 22 q = x.1 22 q := by
  unfold zlv
  split
  · rfl
  · simp (disch := omega) only [zu_c, zu_j, zlg_c]
    rw [if_neg (fun e => h e.symm)]
theorem m_goes {A : zIT} {K : zLT} {I : zIT} {L : zLT} {F : zFT} {E : zET} {dyn : zH} {d : Nat} {to : Int} (hd : d < 40) (h19 : 0 ≤ I 14 19 ∧ I 14 19 ≤ 200) (hs : ∀ p, p < 80 → I 22 p ≠ -1 → 0 ≤ I 22 p ∧ I 22 p < 12) : X8_goes (zM A K I L F E dyn) (some 14) (d : Int) to = some (zM A K (zgo (I, L) d to).1 (zgo (I, L) d to).2 F E dyn) := by
  unfold X8_goes zgo
  have e1 : (2 * (d : Int)) = ((2 * d : Nat) : Int) := by omega
  have e3 : (((2 * d : Nat) : Int) + 1) = ((2 * d + 1 : Nat) : Int) := by omega
  rw [e1, zckb (by omega) (by omega), zo_14b, m_leaves (by omega) h19 (hs _ (by omega)), zb, zckb (by omega) (by omega), zckb (by omega) (by omega), e3, zo_14b,
    m_leaves (by omega) (zlv_19 (x := (I, L)) h19) (by rw [zlv_22 (by omega)]; exact hs _ (by omega)), zb]
  simp (disch := first | omega | assumption) only [↓zb, ↓zckb, zu_j, zu_c, zu_eq, Int.toNat_natCast, ↓zo_14b, ↓zg_14_0b, ↓zg_14_1b, ↓zg_14_2b, ↓zg_14_3b, ↓zg_14_4b, ↓zg_14_5b, ↓zg_14_6b, ↓zg_14_7b, ↓zp_14_7b, ↓zg_14_8b, ↓zg_14_9b, ↓zg_14_10b, ↓zg_14_11b, ↓zg_14_12b, ↓zg_14_13b, ↓zg_14_14b, ↓zp_14_14b, ↓zg_14_15b, ↓zg_14_16b, ↓zg_14_17b, ↓zg_14_18b, ↓zg_14_19b, ↓zp_14_19b, ↓zg_14_20b, ↓zg_14_21b, ↓zg_14_22b, ↓zg_14_23b, ↓zg_14_24b, ↓zg_14_25b, ↓zp_14_25b, ↓zg_14_26b, ↓zp_14_26b, ↓zg_14_27b, ↓zp_14_27b, ↓zg_14_28b, ↓zp_14_28b, ↓zg_14_29b, ↓zp_14_29b, ↓za_15b, ↓zs_15b, ↓zl_15b, ↓za_16b, ↓zs_16b, ↓zl_16b, ↓za_17b, ↓zs_17b, ↓zl_17b, ↓za_18b, ↓zs_18b, ↓zl_18b, ↓za_19b, ↓zs_19b, ↓zl_19b, ↓za_20b, ↓zs_20b, ↓zl_20b, ↓za_21b, ↓zs_21b, ↓zl_21b, ↓za_22b, ↓zs_22b, ↓zl_22b, ↓za_23b, ↓zs_23b, ↓zl_23b, ↓za_24b, ↓zs_24b, ↓zl_24b, ↓za_25b, ↓zs_25b, ↓zl_25b, ↓za_26b, ↓zs_26b, ↓zl_26b, ↓za_27b, ↓zs_27b, ↓zl_27b, ↓za_28b, ↓zs_28b, ↓zl_28b, ↓za_29b, ↓zs_29b, ↓zl_29b, ↓za_30b, ↓zs_30b, ↓zl_30b, ↓za_31b, ↓zs_31b, ↓zl_31b, ↓za_32b, ↓zs_32b, ↓zl_32b, ↓za_33b, ↓zs_33b, ↓zl_33b, ↓za_34b, ↓zs_34b, ↓zl_34b, ↓za_35b, ↓zs_35b, ↓zl_35b, ↓za_36b, ↓zs_36b, ↓zl_36b, ↓za_37b, ↓zs_37b, ↓zl_37b, ↓za_38b, ↓zs_38b]
