-- ===== the law, call by call (by program: mk98s.py) =====
theorem s_k0 {n : Nat} {A : zIT} {K : zLT} {I : zIT} {L : zLT} {F : zFT} {E : zET} {dyn : zH} {xs : Nat → Int32} {N : Nat} {i : Int} (W : zWw n A K I L F dyn) (hn : n ≤ 600) (hi : 0 ≤ i ∧ i + 5 ≤ N ∧ N ≤ 3000) : zNX n i (L_law_k0 xs N (some 0) (some 14) (some 37) (i, zM A K I L F E dyn)) := by
  obtain ⟨rs, rd, fp, rk, h⟩ := W
  unfold L_law_k0
  simp only
  rw [zckb (by omega) (by omega), zscb (by omega) (by omega)]
  obtain ⟨k, A', K', L1, F', dyn', b, I', L', e1, e2, e3, e4, w⟩ := d_type (E := E) h ((xs (i + 1).toNat).toInt % 65536)
  simp only at e2
  rw [e1, zb]
  simp only
  rw [zckb (by omega) (by omega), zscb (by omega) (by omega), zo_14b, e2, zb]
  exact ⟨A', K', I', L', F', E, dyn', z_tail e3 e4 (by omega), w⟩
theorem s_k2 {n : Nat} {A : zIT} {K : zLT} {I : zIT} {L : zLT} {F : zFT} {E : zET} {dyn : zH} {xs : Nat → Int32} {N : Nat} {i : Int} (W : zWw n A K I L F dyn) (hn : n ≤ 600) (hi : 0 ≤ i ∧ i + 5 ≤ N ∧ N ≤ 3000) : zNX n i (L_law_k2 xs N (some 0) (some 14) (some 37) (i, zM A K I L F E dyn)) := by
  obtain ⟨rs, rd, fp, rk, h⟩ := W
  unfold L_law_k2
  simp only
  rw [zckb (by omega) (by omega), zscb (by omega) (by omega), zckb (by omega) (by omega), zscb (by omega) (by omega), zckb (by omega) (by omega), zscb (by omega) (by omega)]
  by_cases c : (xs (i + 3).toNat).toInt = 0
  · rw [if_pos c]
    unfold L_law_j279
    (try simp only)
    obtain ⟨k, A', K', L1, F', dyn', b, I', L', e1, e2, e3, e4, w⟩ := d_street (E := E) h (xs (i + 1).toNat).toInt ((xs (i + 2).toNat).toInt % 65536) 0 (Or.inl rfl)
    simp only at e2
    rw [e1, zb]
    (try simp only)
    rw [zckb (by omega) (by omega), zscb (by omega) (by omega), zckb (by omega) (by omega), zscb (by omega) (by omega), zckb (by omega) (by omega), zscb (by omega) (by omega), if_pos c]
    unfold L_law_j313
    (try simp only)
    rw [zo_14b, e2, zb]
    exact ⟨A', K', I', L', F', E, dyn', z_tail e3 e4 (by omega), w⟩
  · rw [if_neg c]
    unfold L_law_j279
    (try simp only)
    obtain ⟨k, A', K', L1, F', dyn', b, I', L', e1, e2, e3, e4, w⟩ := d_street (E := E) h (xs (i + 1).toNat).toInt ((xs (i + 2).toNat).toInt % 65536) 1 (Or.inr rfl)
    simp only at e2
    rw [e1, zb]
    (try simp only)
    rw [zckb (by omega) (by omega), zscb (by omega) (by omega), zckb (by omega) (by omega), zscb (by omega) (by omega), zckb (by omega) (by omega), zscb (by omega) (by omega), if_neg c]
    unfold L_law_j313
    (try simp only)
    rw [zo_14b, e2, zb]
    exact ⟨A', K', I', L', F', E, dyn', z_tail e3 e4 (by omega), w⟩
theorem s_k3 {n : Nat} {A : zIT} {K : zLT} {I : zIT} {L : zLT} {F : zFT} {E : zET} {dyn : zH} {xs : Nat → Int32} {N : Nat} {i : Int} (W : zWw n A K I L F dyn) (hn : n ≤ 600) (hi : 0 ≤ i ∧ i + 5 ≤ N ∧ N ≤ 3000) : zNX n i (L_law_k3 xs N (some 0) (some 14) (some 37) (i, zM A K I L F E dyn)) := by
  obtain ⟨rs, rd, fp, rk, h⟩ := W
  unfold L_law_k3
  simp only
  rw [zckb (by omega) (by omega), zscb (by omega) (by omega)]
  obtain ⟨k, A', K', L1, F', dyn', b, I', L', e1, e2, e3, e4, w⟩ := d_rename (E := E) h (xs (i + 1).toNat).toInt
  simp only at e2
  rw [e1, zb]
  simp only
  rw [zckb (by omega) (by omega), zscb (by omega) (by omega), zo_14b, e2, zb]
  exact ⟨A', K', I', L', F', E, dyn', z_tail e3 e4 (by omega), w⟩
theorem s_k4 {n : Nat} {A : zIT} {K : zLT} {I : zIT} {L : zLT} {F : zFT} {E : zET} {dyn : zH} {xs : Nat → Int32} {N : Nat} {i : Int} (W : zWw n A K I L F dyn) (hn : n ≤ 600) (hi : 0 ≤ i ∧ i + 5 ≤ N ∧ N ≤ 3000) : zNX n i (L_law_k4 xs N (some 0) (some 14) (some 37) (i, zM A K I L F E dyn)) := by
  obtain ⟨rs, rd, fp, rk, h⟩ := W
  unfold L_law_k4
  simp only
  rw [zckb (by omega) (by omega), zscb (by omega) (by omega)]
  obtain ⟨k, A', K', L1, F', dyn', b, I', L', e1, e2, e3, e4, w⟩ := d_translate (E := E) h (xs (i + 1).toNat).toInt
  simp only at e2
  rw [e1, zb]
  simp only
  rw [zckb (by omega) (by omega), zscb (by omega) (by omega), zo_14b, e2, zb]
  exact ⟨A', K', I', L', F', E, dyn', z_tail e3 e4 (by omega), w⟩
theorem s_k5 {n : Nat} {A : zIT} {K : zLT} {I : zIT} {L : zLT} {F : zFT} {E : zET} {dyn : zH} {xs : Nat → Int32} {N : Nat} {i : Int} (W : zWw n A K I L F dyn) (hn : n ≤ 600) (hi : 0 ≤ i ∧ i + 5 ≤ N ∧ N ≤ 3000) : zNX n i (L_law_k5 xs N (some 0) (some 14) (some 37) (i, zM A K I L F E dyn)) := by
  obtain ⟨rs, rd, fp, rk, h⟩ := W
  unfold L_law_k5
  simp only
  rw [zckb (by omega) (by omega), zscb (by omega) (by omega), zckb (by omega) (by omega), zscb (by omega) (by omega)]
  by_cases c : (xs (i + 2).toNat).toInt = 0
  · rw [if_pos c]
    unfold L_law_j482
    (try simp only)
    rw [zckb (by omega) (by omega), zscb (by omega) (by omega)]
    obtain ⟨k, A', K', L1, F', dyn', b, I', L', e1, e2, e3, e4, w⟩ := d_letter (E := E) h (xs (i + 1).toNat).toInt 0 (xs (i + 3).toNat).toInt
    simp only at e2
    rw [e1, zb]
    (try simp only)
    rw [zckb (by omega) (by omega), zscb (by omega) (by omega), zckb (by omega) (by omega), zscb (by omega) (by omega), if_pos c]
    unfold L_law_j515
    (try simp only)
    rw [zckb (by omega) (by omega), zscb (by omega) (by omega), zo_14b, e2, zb]
    exact ⟨A', K', I', L', F', E, dyn', z_tail e3 e4 (by omega), w⟩
  · rw [if_neg c]
    unfold L_law_j482
    (try simp only)
    rw [zckb (by omega) (by omega), zscb (by omega) (by omega)]
    obtain ⟨k, A', K', L1, F', dyn', b, I', L', e1, e2, e3, e4, w⟩ := d_letter (E := E) h (xs (i + 1).toNat).toInt 1 (xs (i + 3).toNat).toInt
    simp only at e2
    rw [e1, zb]
    (try simp only)
    rw [zckb (by omega) (by omega), zscb (by omega) (by omega), zckb (by omega) (by omega), zscb (by omega) (by omega), if_neg c]
    unfold L_law_j515
    (try simp only)
    rw [zckb (by omega) (by omega), zscb (by omega) (by omega), zo_14b, e2, zb]
    exact ⟨A', K', I', L', F', E, dyn', z_tail e3 e4 (by omega), w⟩
theorem s_k6 {n : Nat} {A : zIT} {K : zLT} {I : zIT} {L : zLT} {F : zFT} {E : zET} {dyn : zH} {xs : Nat → Int32} {N : Nat} {i : Int} (W : zWw n A K I L F dyn) (hn : n ≤ 600) (hi : 0 ≤ i ∧ i + 5 ≤ N ∧ N ≤ 3000) : zNX n i (L_law_k6 xs N (some 0) (some 14) (some 37) (i, zM A K I L F E dyn)) := by
  obtain ⟨rs, rd, fp, rk, h⟩ := W
  unfold L_law_k6
  simp only
  rw [zckb (by omega) (by omega), zscb (by omega) (by omega), zckb (by omega) (by omega), zscb (by omega) (by omega), zckb (by omega) (by omega), zscb (by omega) (by omega)]
  by_cases c : (xs (i + 3).toNat).toInt = 0
  · rw [if_pos c]
    unfold L_law_j585
    (try simp only)
    obtain ⟨k, A', K', L1, F', dyn', b, I', L', e1, e2, e3, e4, w⟩ := d_way (E := E) h (xs (i + 1).toNat).toInt ((xs (i + 2).toNat).toInt % 65536) 0 (Or.inl rfl)
    simp only at e2
    rw [e1, zb]
    (try simp only)
    rw [zckb (by omega) (by omega), zscb (by omega) (by omega), zckb (by omega) (by omega), zscb (by omega) (by omega), zckb (by omega) (by omega), zscb (by omega) (by omega), if_pos c]
    unfold L_law_j619
    (try simp only)
    rw [zo_14b, e2, zb]
    exact ⟨A', K', I', L', F', E, dyn', z_tail e3 e4 (by omega), w⟩
  · rw [if_neg c]
    unfold L_law_j585
    (try simp only)
    obtain ⟨k, A', K', L1, F', dyn', b, I', L', e1, e2, e3, e4, w⟩ := d_way (E := E) h (xs (i + 1).toNat).toInt ((xs (i + 2).toNat).toInt % 65536) 1 (Or.inr rfl)
    simp only at e2
    rw [e1, zb]
    (try simp only)
    rw [zckb (by omega) (by omega), zscb (by omega) (by omega), zckb (by omega) (by omega), zscb (by omega) (by omega), zckb (by omega) (by omega), zscb (by omega) (by omega), if_neg c]
    unfold L_law_j619
    (try simp only)
    rw [zo_14b, e2, zb]
    exact ⟨A', K', I', L', F', E, dyn', z_tail e3 e4 (by omega), w⟩
theorem s_k7 {n : Nat} {A : zIT} {K : zLT} {I : zIT} {L : zLT} {F : zFT} {E : zET} {dyn : zH} {xs : Nat → Int32} {N : Nat} {i : Int} (W : zWw n A K I L F dyn) (hn : n ≤ 600) (hi : 0 ≤ i ∧ i + 5 ≤ N ∧ N ≤ 3000) : zNX n i (L_law_k7 xs N (some 0) (some 14) (some 37) (i, zM A K I L F E dyn)) := by
  obtain ⟨rs, rd, fp, rk, h⟩ := W
  unfold L_law_k7
  simp only
  rw [zckb (by omega) (by omega), zscb (by omega) (by omega), zckb (by omega) (by omega), zscb (by omega) (by omega), zckb (by omega) (by omega), zscb (by omega) (by omega)]
  obtain ⟨k, A', K', L1, F', dyn', b, I', L', e1, e2, e3, e4, w⟩ := d_door (E := E) h (xs (i + 1).toNat).toInt (xs (i + 2).toNat).toInt ((xs (i + 3).toNat).toInt % 65536) hn
  simp only at e2
  rw [e1, zb]
  simp only
  rw [zckb (by omega) (by omega), zscb (by omega) (by omega), zckb (by omega) (by omega), zscb (by omega) (by omega), zckb (by omega) (by omega), zscb (by omega) (by omega), zo_14b, e2, zb]
  exact ⟨A', K', I', L', F', E, dyn', z_tail e3 e4 (by omega), w⟩
theorem s_k8 {n : Nat} {A : zIT} {K : zLT} {I : zIT} {L : zLT} {F : zFT} {E : zET} {dyn : zH} {xs : Nat → Int32} {N : Nat} {i : Int} (W : zWw n A K I L F dyn) (hn : n ≤ 600) (hi : 0 ≤ i ∧ i + 5 ≤ N ∧ N ≤ 3000) : zNX n i (L_law_k8 xs N (some 0) (some 14) (some 37) (i, zM A K I L F E dyn)) := by
  obtain ⟨rs, rd, fp, rk, h⟩ := W
  unfold L_law_k8
  simp only
  rw [zckb (by omega) (by omega), zscb (by omega) (by omega), zckb (by omega) (by omega), zscb (by omega) (by omega), zckb (by omega) (by omega), zscb (by omega) (by omega), zckb (by omega) (by omega), zscb (by omega) (by omega)]
  obtain ⟨k, A', K', L1, F', dyn', b, I', L', e1, e2, e3, e4, w⟩ := d_corner (E := E) h (xs (i + 1).toNat).toInt (xs (i + 2).toNat).toInt (xs (i + 3).toNat).toInt ((xs (i + 4).toNat).toInt % 65536) hn
  simp only at e2
  rw [e1, zb]
  simp only
  rw [zckb (by omega) (by omega), zscb (by omega) (by omega), zckb (by omega) (by omega), zscb (by omega) (by omega), zckb (by omega) (by omega), zscb (by omega) (by omega), zckb (by omega) (by omega), zscb (by omega) (by omega), zo_14b, e2, zb]
  exact ⟨A', K', I', L', F', E, dyn', z_tail e3 e4 (by omega), w⟩
theorem s_k9 {n : Nat} {A : zIT} {K : zLT} {I : zIT} {L : zLT} {F : zFT} {E : zET} {dyn : zH} {xs : Nat → Int32} {N : Nat} {i : Int} (W : zWw n A K I L F dyn) (hn : n ≤ 600) (hi : 0 ≤ i ∧ i + 5 ≤ N ∧ N ≤ 3000) : zNX n i (L_law_k9 xs N (some 0) (some 14) (some 37) (i, zM A K I L F E dyn)) := by
  obtain ⟨rs, rd, fp, rk, h⟩ := W
  unfold L_law_k9
  simp only
  rw [zckb (by omega) (by omega), zscb (by omega) (by omega), zckb (by omega) (by omega), zscb (by omega) (by omega)]
  obtain ⟨k, A', K', L1, F', dyn', b, I', L', e1, e2, e3, e4, w⟩ := d_merge (E := E) h (xs (i + 1).toNat).toInt (xs (i + 2).toNat).toInt
  simp only at e2
  rw [e1, zb]
  simp only
  rw [zckb (by omega) (by omega), zscb (by omega) (by omega), zckb (by omega) (by omega), zscb (by omega) (by omega), zo_14b, e2, zb]
  exact ⟨A', K', I', L', F', E, dyn', z_tail e3 e4 (by omega), w⟩
theorem s_k10 {n : Nat} {A : zIT} {K : zLT} {I : zIT} {L : zLT} {F : zFT} {E : zET} {dyn : zH} {xs : Nat → Int32} {N : Nat} {i : Int} (W : zWw n A K I L F dyn) (hn : n ≤ 600) (hi : 0 ≤ i ∧ i + 5 ≤ N ∧ N ≤ 3000) : zNX n i (L_law_k10 xs N (some 0) (some 14) (some 37) (i, zM A K I L F E dyn)) := by
  obtain ⟨rs, rd, fp, rk, h⟩ := W
  unfold L_law_k10
  simp only
  rw [zckb (by omega) (by omega), zscb (by omega) (by omega)]
  obtain ⟨k, A', K', L1, F', dyn', b, I', L', e1, e2, e3, e4, w⟩ := d_remove (E := E) h (xs (i + 1).toNat).toInt
  simp only at e2
  rw [e1, zb]
  simp only
  rw [zckb (by omega) (by omega), zscb (by omega) (by omega), zo_14b, e2, zb]
  exact ⟨A', K', I', L', F', E, dyn', z_tail e3 e4 (by omega), w⟩
theorem s_k11 {n : Nat} {A : zIT} {K : zLT} {I : zIT} {L : zLT} {F : zFT} {E : zET} {dyn : zH} {xs : Nat → Int32} {N : Nat} {i : Int} (W : zWw n A K I L F dyn) (hn : n ≤ 600) (hi : 0 ≤ i ∧ i + 5 ≤ N ∧ N ≤ 3000) : zNX n i (L_law_k11 xs N (some 0) (some 14) (some 37) (i, zM A K I L F E dyn)) := by
  obtain ⟨rs, rd, fp, rk, h⟩ := W
  unfold L_law_k11
  simp only
  rw [zckb (by omega) (by omega), zscb (by omega) (by omega)]
  obtain ⟨k, A', K', L1, F', dyn', b, I', L', e1, e2, e3, e4, w⟩ := d_renumber (E := E) h (xs (i + 1).toNat).toInt
  simp only at e2
  rw [e1, zb]
  simp only
  rw [zckb (by omega) (by omega), zscb (by omega) (by omega), zo_14b, e2, zb]
  exact ⟨A', K', I', L', F', E, dyn', z_tail e3 e4 (by omega), w⟩
theorem s_k12 {n : Nat} {A : zIT} {K : zLT} {I : zIT} {L : zLT} {F : zFT} {E : zET} {dyn : zH} {xs : Nat → Int32} {N : Nat} {i : Int} (W : zWw n A K I L F dyn) (hn : n ≤ 600) (hi : 0 ≤ i ∧ i + 5 ≤ N ∧ N ≤ 3000) : zNX n i (L_law_k12 xs N (some 0) (some 14) (some 37) (i, zM A K I L F E dyn)) := by
  obtain ⟨rs, rd, fp, rk, h⟩ := W
  unfold L_law_k12
  simp only
  rw [zckb (by omega) (by omega), zscb (by omega) (by omega), zckb (by omega) (by omega), zscb (by omega) (by omega)]
  obtain ⟨k, A', K', L1, F', dyn', b, I', L', e1, e2, e3, e4, w⟩ := d_join (E := E) h (xs (i + 1).toNat).toInt (xs (i + 2).toNat).toInt hn
  simp only at e2
  rw [e1, zb]
  simp only
  rw [zckb (by omega) (by omega), zscb (by omega) (by omega), zckb (by omega) (by omega), zscb (by omega) (by omega), zo_14b, e2, zb]
  exact ⟨A', K', I', L', F', E, dyn', z_tail e3 e4 (by omega), w⟩
theorem s_k13 {n : Nat} {A : zIT} {K : zLT} {I : zIT} {L : zLT} {F : zFT} {E : zET} {dyn : zH} {xs : Nat → Int32} {N : Nat} {i : Int} (W : zWw n A K I L F dyn) (hn : n ≤ 600) (hi : 0 ≤ i ∧ i + 5 ≤ N ∧ N ≤ 3000) : zNX n i (L_law_k13 xs N (some 0) (some 14) (some 37) (i, zM A K I L F E dyn)) := by
  obtain ⟨rs, rd, fp, rk, h⟩ := W
  unfold L_law_k13
  simp only
  rw [zckb (by omega) (by omega), zscb (by omega) (by omega)]
  obtain ⟨k, A', K', L1, F', dyn', b, I', L', e1, e2, e3, e4, w⟩ := d_day (E := E) h (xs (i + 1).toNat).toInt hn
  simp only at e2
  rw [e1, zb]
  simp only
  rw [zckb (by omega) (by omega), zscb (by omega) (by omega), zo_14b, e2, zb]
  exact ⟨A', K', I', L', F', E, dyn', z_tail e3 e4 (by omega), w⟩
theorem s_k14 {n : Nat} {A : zIT} {K : zLT} {I : zIT} {L : zLT} {F : zFT} {E : zET} {dyn : zH} {xs : Nat → Int32} {N : Nat} {i : Int} (W : zWw n A K I L F dyn) (hn : n ≤ 600) (hi : 0 ≤ i ∧ i + 5 ≤ N ∧ N ≤ 3000) : zNX n i (L_law_k14 xs N (some 0) (some 14) (some 37) (i, zM A K I L F E dyn)) := by
  obtain ⟨rs, rd, fp, rk, h⟩ := W
  unfold L_law_k14
  simp only
  rw [zckb (by omega) (by omega), zscb (by omega) (by omega), zckb (by omega) (by omega), zscb (by omega) (by omega)]
  by_cases c : (xs (i + 2).toNat).toInt = 0
  · rw [if_pos c]
    unfold L_law_j1156
    (try simp only)
    obtain ⟨k, A', K', L1, F', dyn', b, I', L', e1, e2, e3, e4, w⟩ := d_address (E := E) h (xs (i + 1).toNat).toInt 0
    simp only at e2
    rw [e1, zb]
    (try simp only)
    rw [zckb (by omega) (by omega), zscb (by omega) (by omega), zckb (by omega) (by omega), zscb (by omega) (by omega), if_pos c]
    unfold L_law_j1183
    (try simp only)
    rw [zo_14b, e2, zb]
    exact ⟨A', K', I', L', F', E, dyn', z_tail e3 e4 (by omega), w⟩
  · rw [if_neg c]
    unfold L_law_j1156
    (try simp only)
    obtain ⟨k, A', K', L1, F', dyn', b, I', L', e1, e2, e3, e4, w⟩ := d_address (E := E) h (xs (i + 1).toNat).toInt 1
    simp only at e2
    rw [e1, zb]
    (try simp only)
    rw [zckb (by omega) (by omega), zscb (by omega) (by omega), zckb (by omega) (by omega), zscb (by omega) (by omega), if_neg c]
    unfold L_law_j1183
    (try simp only)
    rw [zo_14b, e2, zb]
    exact ⟨A', K', I', L', F', E, dyn', z_tail e3 e4 (by omega), w⟩
theorem s_k15 {n : Nat} {A : zIT} {K : zLT} {I : zIT} {L : zLT} {F : zFT} {E : zET} {dyn : zH} {xs : Nat → Int32} {N : Nat} {i : Int} (W : zWw n A K I L F dyn) (hn : n ≤ 600) (hi : 0 ≤ i ∧ i + 5 ≤ N ∧ N ≤ 3000) : zNX n i (L_law_k15 xs N (some 0) (some 14) (some 37) (i, zM A K I L F E dyn)) := by
  obtain ⟨rs, rd, fp, rk, h⟩ := W
  unfold L_law_k15
  simp only
  rw [zckb (by omega) (by omega), zscb (by omega) (by omega), zckb (by omega) (by omega), zscb (by omega) (by omega)]
  by_cases c : (xs (i + 2).toNat).toInt = 0
  · rw [if_pos c]
    unfold L_law_j1240
    (try simp only)
    obtain ⟨k, A', K', L1, F', dyn', b, I', L', e1, e2, e3, e4, w⟩ := d_streetOf (E := E) h (xs (i + 1).toNat).toInt 0
    simp only at e2
    rw [e1, zb]
    (try simp only)
    rw [zckb (by omega) (by omega), zscb (by omega) (by omega), zckb (by omega) (by omega), zscb (by omega) (by omega), if_pos c]
    unfold L_law_j1267
    (try simp only)
    rw [zo_14b, e2, zb]
    exact ⟨A', K', I', L', F', E, dyn', z_tail e3 e4 (by omega), w⟩
  · rw [if_neg c]
    unfold L_law_j1240
    (try simp only)
    obtain ⟨k, A', K', L1, F', dyn', b, I', L', e1, e2, e3, e4, w⟩ := d_streetOf (E := E) h (xs (i + 1).toNat).toInt 1
    simp only at e2
    rw [e1, zb]
    (try simp only)
    rw [zckb (by omega) (by omega), zscb (by omega) (by omega), zckb (by omega) (by omega), zscb (by omega) (by omega), if_neg c]
    unfold L_law_j1267
    (try simp only)
    rw [zo_14b, e2, zb]
    exact ⟨A', K', I', L', F', E, dyn', z_tail e3 e4 (by omega), w⟩
theorem s_k17 {n : Nat} {A : zIT} {K : zLT} {I : zIT} {L : zLT} {F : zFT} {E : zET} {dyn : zH} {xs : Nat → Int32} {N : Nat} {i : Int} (W : zWw n A K I L F dyn) (hn : n ≤ 600) (hi : 0 ≤ i ∧ i + 5 ≤ N ∧ N ≤ 3000) : zNX n i (L_law_k17 xs N (some 0) (some 14) (some 37) (i, zM A K I L F E dyn)) := by
  obtain ⟨rs, rd, fp, rk, h⟩ := W
  unfold L_law_k17
  simp only
  rw [zckb (by omega) (by omega), zscb (by omega) (by omega)]
  obtain ⟨k, A', K', L1, F', dyn', b, I', L', e1, e2, e3, e4, w⟩ := d_find (E := E) h (xs (i + 1).toNat).toInt
  simp only at e2
  rw [e1, zb]
  simp only
  rw [zckb (by omega) (by omega), zscb (by omega) (by omega), zo_14b, e2, zb]
  exact ⟨A', K', I', L', F', E, dyn', z_tail e3 e4 (by omega), w⟩
theorem s_k18 {n : Nat} {A : zIT} {K : zLT} {I : zIT} {L : zLT} {F : zFT} {E : zET} {dyn : zH} {xs : Nat → Int32} {N : Nat} {i : Int} (W : zWw n A K I L F dyn) (hn : n ≤ 600) (hi : 0 ≤ i ∧ i + 5 ≤ N ∧ N ≤ 3000) : zNX n i (L_law_k18 xs N (some 0) (some 14) (some 37) (i, zM A K I L F E dyn)) := by
  obtain ⟨rs, rd, fp, rk, h⟩ := W
  unfold L_law_k18
  simp only
  rw [zckb (by omega) (by omega), zscb (by omega) (by omega)]
  obtain ⟨k, A', K', L1, F', dyn', b, I', L', e1, e2, e3, e4, w⟩ := d_send (E := E) h (xs (i + 1).toNat).toInt
  simp only at e2
  rw [e1, zb]
  simp only
  rw [zckb (by omega) (by omega), zscb (by omega) (by omega), zo_14b, e2, zb]
  exact ⟨A', K', I', L', F', E, dyn', z_tail e3 e4 (by omega), w⟩
theorem s_k19 {n : Nat} {A : zIT} {K : zLT} {I : zIT} {L : zLT} {F : zFT} {E : zET} {dyn : zH} {xs : Nat → Int32} {N : Nat} {i : Int} (W : zWw n A K I L F dyn) (hn : n ≤ 600) (hi : 0 ≤ i ∧ i + 5 ≤ N ∧ N ≤ 3000) : zNX n i (L_law_k19 xs N (some 0) (some 14) (some 37) (i, zM A K I L F E dyn)) := by
  obtain ⟨rs, rd, fp, rk, h⟩ := W
  unfold L_law_k19
  simp only
  rw [zckb (by omega) (by omega), zscb (by omega) (by omega)]
  obtain ⟨k, A', K', L1, F', dyn', b, I', L', e1, e2, e3, e4, w⟩ := d_until (E := E) h (xs (i + 1).toNat).toInt
  simp only at e2
  rw [e1, zb]
  simp only
  rw [zckb (by omega) (by omega), zscb (by omega) (by omega), zo_14b, e2, zb]
  exact ⟨A', K', I', L', F', E, dyn', z_tail e3 e4 (by omega), w⟩
theorem s_k21 {n : Nat} {A : zIT} {K : zLT} {I : zIT} {L : zLT} {F : zFT} {E : zET} {dyn : zH} {xs : Nat → Int32} {N : Nat} {i : Int} (W : zWw n A K I L F dyn) (hn : n ≤ 600) (hi : 0 ≤ i ∧ i + 5 ≤ N ∧ N ≤ 3000) : zNX n i (L_law_k21 xs N (some 0) (some 14) (some 37) (i, zM A K I L F E dyn)) := by
  obtain ⟨rs, rd, fp, rk, h⟩ := W
  unfold L_law_k21
  simp only
  rw [zckb (by omega) (by omega), zscb (by omega) (by omega)]
  obtain ⟨k, A', K', L1, F', dyn', b, I', L', e1, e2, e3, e4, w⟩ := d_doors (E := E) h (xs (i + 1).toNat).toInt
  simp only at e2
  rw [e1, zb]
  simp only
  rw [zckb (by omega) (by omega), zscb (by omega) (by omega), zo_14b, e2, zb]
  exact ⟨A', K', I', L', F', E, dyn', z_tail e3 e4 (by omega), w⟩
theorem s_k22 {n : Nat} {A : zIT} {K : zLT} {I : zIT} {L : zLT} {F : zFT} {E : zET} {dyn : zH} {xs : Nat → Int32} {N : Nat} {i : Int} (W : zWw n A K I L F dyn) (hn : n ≤ 600) (hi : 0 ≤ i ∧ i + 5 ≤ N ∧ N ≤ 3000) : zNX n i (L_law_k22 xs N (some 0) (some 14) (some 37) (i, zM A K I L F E dyn)) := by
  obtain ⟨rs, rd, fp, rk, h⟩ := W
  unfold L_law_k22
  simp only
  rw [zckb (by omega) (by omega), zscb (by omega) (by omega), zckb (by omega) (by omega), zscb (by omega) (by omega)]
  obtain ⟨k, A', K', L1, F', dyn', b, I', L', e1, e2, e3, e4, w⟩ := d_walk (E := E) h (xs (i + 1).toNat).toInt (xs (i + 2).toNat).toInt
  simp only at e2
  rw [e1, zb]
  simp only
  rw [zckb (by omega) (by omega), zscb (by omega) (by omega), zckb (by omega) (by omega), zscb (by omega) (by omega), zo_14b, e2, zb]
  exact ⟨A', K', I', L', F', E, dyn', z_tail e3 e4 (by omega), w⟩
theorem s_k23 {n : Nat} {A : zIT} {K : zLT} {I : zIT} {L : zLT} {F : zFT} {E : zET} {dyn : zH} {xs : Nat → Int32} {N : Nat} {i : Int} (W : zWw n A K I L F dyn) (hn : n ≤ 600) (hi : 0 ≤ i ∧ i + 5 ≤ N ∧ N ≤ 3000) : zNX n i (L_law_k23 xs N (some 0) (some 14) (some 37) (i, zM A K I L F E dyn)) := by
  obtain ⟨rs, rd, fp, rk, h⟩ := W
  unfold L_law_k23
  simp only
  rw [zckb (by omega) (by omega), zscb (by omega) (by omega)]
  obtain ⟨k, A', K', L1, F', dyn', b, I', L', e1, e2, e3, e4, w⟩ := d_steps (E := E) h (xs (i + 1).toNat).toInt
  simp only at e2
  rw [e1, zb]
  simp only
  rw [zckb (by omega) (by omega), zscb (by omega) (by omega), zo_14b, e2, zb]
  exact ⟨A', K', I', L', F', E, dyn', z_tail e3 e4 (by omega), w⟩
theorem s_k24 {n : Nat} {A : zIT} {K : zLT} {I : zIT} {L : zLT} {F : zFT} {E : zET} {dyn : zH} {xs : Nat → Int32} {N : Nat} {i : Int} (W : zWw n A K I L F dyn) (hn : n ≤ 600) (hi : 0 ≤ i ∧ i + 5 ≤ N ∧ N ≤ 3000) : zNX n i (L_law_k24 xs N (some 0) (some 14) (some 37) (i, zM A K I L F E dyn)) := by
  obtain ⟨rs, rd, fp, rk, h⟩ := W
  unfold L_law_k24
  simp only
  rw [zckb (by omega) (by omega), zscb (by omega) (by omega)]
  obtain ⟨k, A', K', L1, F', dyn', b, I', L', e1, e2, e3, e4, w⟩ := d_clashes (E := E) h (xs (i + 1).toNat).toInt
  simp only at e2
  rw [e1, zb]
  simp only
  rw [zckb (by omega) (by omega), zscb (by omega) (by omega), zo_14b, e2, zb]
  exact ⟨A', K', I', L', F', E, dyn', z_tail e3 e4 (by omega), w⟩
theorem s_k1 {n : Nat} {A : zIT} {K : zLT} {I : zIT} {L : zLT} {F : zFT} {E : zET} {dyn : zH} {xs : Nat → Int32} {N : Nat} {i : Int} (W : zWw n A K I L F dyn) (hn : n ≤ 600) (hi : 0 ≤ i ∧ i + 5 ≤ N ∧ N ≤ 3000) : zNX n i (L_law_k1 (some 0) (some 14) (i, zM A K I L F E dyn)) := by
  obtain ⟨rs, rd, fp, rk, h⟩ := W
  have ht := zVA_t h.2.1
  unfold L_law_k1
  simp only
  rw [zo_0b, k_wipe h.1.2.2.2.2.1 ht, zb]
  simp only
  rw [zo_14b, m_wipe, zb]
  simp only
  rw [if_pos trivial, zckb (by omega) (by omega)]
  have h' := zWc_up h
  have eI : zIe I (zu I 14 27 0) := ⟨fun c c1 c2 => zu_c (by omega), rfl, rfl, rfl, rfl⟩
  exact ⟨A, _, _, _, F, E, dyn, rfl, rs, rd, fp, rk, zRL_cg h'.1 eI ⟨zu_c (by omega), zu_c (by omega), zu_c (by omega)⟩ zAe_r (zu_c (by omega)) (by rw [zu_eq, zu_eq]; rfl), w_wipe h'.2.1, zrkb_cg h'.2.2.1 rfl (zu_c (by omega)), h'.2.2.2⟩
theorem s_k20 {n : Nat} {A : zIT} {K : zLT} {I : zIT} {L : zLT} {F : zFT} {E : zET} {dyn : zH} {xs : Nat → Int32} {N : Nat} {i : Int} (W : zWw n A K I L F dyn) (hn : n ≤ 600) (hi : 0 ≤ i ∧ i + 5 ≤ N ∧ N ≤ 3000) : zNX n i (L_law_k20 (some 0) (some 14) (i, zM A K I L F E dyn)) := by
  obtain ⟨rs, rd, fp, rk, h⟩ := W
  unfold L_law_k20
  simp only
  rw [zo_0b, k_olds h.1.2.2.2.1, zb, zo_14b, m_olds, zb, if_pos rfl, zckb (by omega) (by omega)]
  exact ⟨A, K, I, L, F, E, dyn, rfl, rs, rd, fp, rk, zWc_up h⟩
theorem s_k25 {n : Nat} {A : zIT} {K : zLT} {I : zIT} {L : zLT} {F : zFT} {E : zET} {dyn : zH} {xs : Nat → Int32} {N : Nat} {i : Int} (W : zWw n A K I L F dyn) (hn : n ≤ 600) (hi : 0 ≤ i ∧ i + 5 ≤ N ∧ N ≤ 3000) : zNX n i (L_law_k25 (some 0) (some 14) (i, zM A K I L F E dyn)) := by
  obtain ⟨rs, rd, fp, rk, h⟩ := W
  have hb := zVA_B h.2.1
  unfold L_law_k25
  simp only
  rw [zo_0b, k_streets hb h.1.1, zb, zo_14b, m_streets hb, zb, if_pos rfl, zckb (by omega) (by omega)]
  exact ⟨A, K, I, L, F, E, dyn, rfl, rs, rd, fp, rk, zWc_up h⟩
theorem s_k28 {n : Nat} {A : zIT} {K : zLT} {I : zIT} {L : zLT} {F : zFT} {E : zET} {dyn : zH} {xs : Nat → Int32} {N : Nat} {i : Int} (W : zWw n A K I L F dyn) (hn : n ≤ 600) (hi : 0 ≤ i ∧ i + 5 ≤ N ∧ N ≤ 3000) : zNX n i (L_law_k28 (some 0) (some 14) (i, zM A K I L F E dyn)) := by
  obtain ⟨rs, rd, fp, rk, h⟩ := W
  have hb := zVA_B h.2.1
  unfold L_law_k28
  simp only
  rw [zo_0b, k_checksum h.2.1 h.1, zb, zo_14b, m_checksum hb, zb, if_pos (zcmp_0.2 rfl), zckb (by omega) (by omega)]
  exact ⟨A, K, I, L, F, E, dyn, rfl, rs, rd, fp, rk, zWc_up h⟩
theorem s_k29 {n : Nat} {A : zIT} {K : zLT} {I : zIT} {L : zLT} {F : zFT} {E : zET} {dyn : zH} {xs : Nat → Int32} {N : Nat} {i : Int} (W : zWw n A K I L F dyn) (hn : n ≤ 600) (hi : 0 ≤ i ∧ i + 5 ≤ N ∧ N ≤ 3000) : zNX n i (L_law_k29 (some 0) (some 14) (i, zM A K I L F E dyn)) := by
  obtain ⟨rs, rd, fp, rk, h⟩ := W
  obtain ⟨A', e, hA⟩ := k_isTrue (A := A) (K := K) (E := E) h.2.1 h.1
  unfold L_law_k29
  simp only
  rw [zo_0b, e, zb]
  simp only
  rw [zo_14b]
  unfold X8_isTrue
  rw [zb, if_pos rfl, zckb (by omega) (by omega)]
  exact ⟨A', K, I, L, F, E, dyn, rfl, rs, rd, fp, rk, zWc_up (zWc_cg h zIe_r zLe_r hA rfl rfl rfl rfl)⟩
theorem s_k16 {n : Nat} {A : zIT} {K : zLT} {I : zIT} {L : zLT} {F : zFT} {E : zET} {dyn : zH} {xs : Nat → Int32} {N : Nat} {i : Int} (W : zWw n A K I L F dyn) (hn : n ≤ 600) (hi : 0 ≤ i ∧ i + 5 ≤ N ∧ N ≤ 3000) : zNX n i (L_law_k16 xs N (some 0) (some 14) (some 37) (i, zM A K I L F E dyn)) := by
  obtain ⟨rs, rd, fp, rk, h⟩ := W
  have hb := zVA_B h.2.1
  have hG : ∀ d : Nat, (d : Int) < I 14 14 → I 26 d = 0 ∨ I 26 d = 1 := fun d hd => by
    have hb' := hb
    unfold zB at hb'
    exact (zVA_8 h.2.1 d (by omega)).1
  unfold L_law_k16
  simp only
  rw [zckb (by omega) (by omega), zscb (by omega) (by omega)]
  rcases k_isGone (A := A) (K := K) (L := L) (E := E) hb h.1.2.1 hG (xs (i + 1).toNat).toInt with ⟨e, c1⟩ | ⟨e, c1⟩
  · obtain ⟨d, hd⟩ := zdr_r c1
    rw [hd] at c1 e
    rw [hd]
    rw [Int.toNat_natCast] at e
    have hx := hG d c1.2
    by_cases c2 : I 26 d = 0
    · have lw : L_isGone (zM A K I L F E dyn) (some 0) (d : Int) (some 37) = some (0, zM A K I (zu L 37 0 0) F E dyn) := by
        unfold L_isGone
        rw [zo_0b, e, zb]
        simp only
        rw [if_pos c2, zs_37b (by omega) (by omega)]
        all_goals rfl
      have mm := m_isGone_0 (A := A) (K := K) (I := I) (L := zu L 37 0 0) (F := F) (E := E) (dyn := dyn) hb c1
      rw [if_pos c2] at mm
      rw [lw, zb]
      simp only
      rw [zckb (by omega) (by omega), zscb (by omega) (by omega), hd, zo_14b, mm, zb]
      simp only
      have e37 : zu L 37 0 (0 : Int64) 37 (0 : Int).toNat = 0 := zu_eq
      rw [zo_14b, m_thrown, zb, if_pos zu_eq, if_pos trivial, za_37b (by omega) (by omega), e37, if_pos trivial, if_pos (zcmp_0.2 rfl), zckb (by omega) (by omega)]
      exact ⟨A, K, _, _, F, E, dyn, rfl, rs, rd, fp, rk, zWc_up (zWc_cg h zIe_th zLe_37 zAe_r rfl rfl rfl rfl)⟩
    · have lw : L_isGone (zM A K I L F E dyn) (some 0) (d : Int) (some 37) = some (0, zM A K I (zu L 37 0 1) F E dyn) := by
        unfold L_isGone
        rw [zo_0b, e, zb]
        simp only
        rw [if_neg c2, zs_37b (by omega) (by omega)]
        all_goals rfl
      have mm := m_isGone_0 (A := A) (K := K) (I := I) (L := zu L 37 0 1) (F := F) (E := E) (dyn := dyn) hb c1
      rw [if_neg c2] at mm
      rw [lw, zb]
      simp only
      rw [zckb (by omega) (by omega), zscb (by omega) (by omega), hd, zo_14b, mm, zb]
      simp only
      have e37 : zu L 37 0 (1 : Int64) 37 (0 : Int).toNat = 1 := zu_eq
      rw [zo_14b, m_thrown, zb, if_pos zu_eq, if_pos trivial, za_37b (by omega) (by omega), e37, if_neg (show ¬ (1 : Int) = 0 by omega), if_pos (zcmp_0.2 rfl), zckb (by omega) (by omega)]
      exact ⟨A, K, _, _, F, E, dyn, rfl, rs, rd, fp, rk, zWc_up (zWc_cg h zIe_th zLe_37 zAe_r rfl rfl rfl rfl)⟩
  · have lw : L_isGone (zM A K I L F E dyn) (some 0) (xs (i + 1).toNat).toInt (some 37) = some (1, zM A K I L F E dyn) := by
      unfold L_isGone
      rw [zo_0b, e]
      all_goals rfl
    rw [lw, zb]
    simp only
    rw [zckb (by omega) (by omega), zscb (by omega) (by omega), zo_14b, m_isGone_1 hb c1, zb]
    simp only
    rw [zo_14b, m_thrown, zb, if_pos zu_eq, if_neg (show ¬ (1 : Int) = 0 by omega), zckb (by omega) (by omega)]
    exact ⟨A, K, _, _, F, E, dyn, rfl, rs, rd, fp, rk, zWc_up (zWc_cg h zIe_th zLe_r zAe_r rfl rfl rfl rfl)⟩
theorem zfok_x {a b : Nat} (h : zfok a b = true) : ∃ v w, zfdiv (zi2f a) (zi2f b) = some v ∧ zf2d v = some w ∧ (Op.cmpValue (FP.dcmp w w) .l).toInt = 0 := by
  unfold zfok at h
  split at h
  · cases h
  · rename_i v hv
    split at h
    · cases h
    · rename_i w hw
      exact ⟨v, w, hv, hw, of_decide_eq_true h⟩
theorem zdok_x {a b : Nat} (h : zdok a b = true) : ∃ w, zddiv (zi2d a) (zi2d b) = some w ∧ (Op.cmpValue (FP.dcmp w w) .l).toInt = 0 := by
  unfold zdok at h
  split at h
  · cases h
  · rename_i w hw
    exact ⟨w, hw, of_decide_eq_true h⟩
theorem s_k26 {n : Nat} {A : zIT} {K : zLT} {I : zIT} {L : zLT} {F : zFT} {E : zET} {dyn : zH} {xs : Nat → Int32} {N : Nat} {i : Int} (W : zWw n A K I L F dyn) (hn : n ≤ 600) (hi : 0 ≤ i ∧ i + 5 ≤ N ∧ N ≤ 3000) : zNX n i (L_law_k26 (some 0) (some 14) (some 38) (i, zM A K I L F E dyn)) := by
  obtain ⟨rs, rd, fp, rk, h⟩ := W
  have hb := zVA_B h.2.1
  have hb' := hb
  unfold zB at hb'
  have kk := k_goneShare (A := A) (K := K) (L := L) (E := E) hb h.1.2.1 h.1.2.2.2.2.2.2.2
  unfold L_law_k26
  simp only
  by_cases c : I 14 14 = 0
  · rw [if_pos c] at kk
    have lw : L_goneShare (zM A K I L F E dyn) (some 0) (some 38) = some (1, zM A K I L F E dyn) := by
      unfold L_goneShare
      rw [zo_0b, kk]
      all_goals rfl
    rw [lw, zb]
    simp only
    rw [zo_14b, m_goneShare_1 hb c, zb]
    simp only
    rw [zo_14b, m_thrown, zb, if_pos zu_eq, if_neg (show ¬ (1 : Int) = 0 by omega), zckb (by omega) (by omega)]
    exact ⟨A, K, _, _, F, E, dyn, rfl, rs, rd, fp, rk, zWc_up (zWc_cg h zIe_th zLe_r zAe_r rfl rfl rfl rfl)⟩
  · rw [if_neg c] at kk
    have hg := zgc_in (I := I) (I 14 14).toNat
    obtain ⟨v, w, q1, q2, q3⟩ := zfok_x (zfok_1 (zgc I (I 14 14).toNat).toNat (by omega) (I 14 14).toNat (by omega) (by omega))
    have ea : (((zgc I (I 14 14).toNat).toNat : Nat) : Int) = zgc I (I 14 14).toNat := by omega
    have eb : (((I 14 14).toNat : Nat) : Int) = I 14 14 := by omega
    rw [ea, eb] at q1
    rw [q1, zb] at kk
    have lw : L_goneShare (zM A K I L F E dyn) (some 0) (some 38) = some (0, zM A K I L F (zu E 38 0 w) dyn) := by
      unfold L_goneShare
      rw [zo_0b, kk, zb]
      simp only
      rw [q2, zb, zs_38b]
    have mm := m_goneShare_0 (A := A) (K := K) (I := I) (L := L) (F := F) (E := zu E 38 0 w) (dyn := dyn) hb c
    rw [q1, zb] at mm
    have e38 : zu E 38 0 w 38 0 = w := zu_eq
    rw [lw, zb]
    simp only
    rw [zo_14b, mm, zb]
    simp only
    rw [zo_14b, m_thrown, zb, if_pos zu_eq, if_pos trivial, za_38b, e38, q2, zb, if_pos q3, zckb (by omega) (by omega)]
    exact ⟨A, K, _, _, F, _, dyn, rfl, rs, rd, fp, rk, zWc_up (zWc_cg h zIe_th zLe_r zAe_r rfl rfl rfl rfl)⟩
theorem s_k27 {n : Nat} {A : zIT} {K : zLT} {I : zIT} {L : zLT} {F : zFT} {E : zET} {dyn : zH} {xs : Nat → Int32} {N : Nat} {i : Int} (W : zWw n A K I L F dyn) (hn : n ≤ 600) (hi : 0 ≤ i ∧ i + 5 ≤ N ∧ N ≤ 3000) : zNX n i (L_law_k27 (some 0) (some 14) (some 38) (i, zM A K I L F E dyn)) := by
  obtain ⟨rs, rd, fp, rk, h⟩ := W
  have hb := zVA_B h.2.1
  have hb' := hb
  unfold zB at hb'
  obtain ⟨hS, hD, hP, _⟩ := h.1
  have kk := k_meanDoors (A := A) (K := K) (E := E) hb hS hD hP (zVA_5 h.2.1) (zVA_7 h.2.1)
  unfold L_law_k27
  simp only
  by_cases c : zsc2 I (I 14 7).toNat = 0
  · rw [if_pos c] at kk
    have lw : L_meanDoors (zM A K I L F E dyn) (some 0) (some 38) = some (1, zM A K I L F E dyn) := by
      unfold L_meanDoors
      rw [zo_0b, kk]
      all_goals rfl
    rw [lw, zb]
    simp only
    rw [zo_14b, m_meanDoors_1 hb c, zb]
    simp only
    rw [zo_14b, m_thrown, zb, if_pos zu_eq, if_neg (show ¬ (1 : Int) = 0 by omega), zckb (by omega) (by omega)]
    exact ⟨A, K, _, _, F, E, dyn, rfl, rs, rd, fp, rk, zWc_up (zWc_cg h zIe_th zLe_r zAe_r rfl rfl rfl rfl)⟩
  · rw [if_neg c] at kk
    have hg := zmd_80 (I := I) (I 14 7).toNat
    have hg2 := zsc2_in (I := I) (I 14 7).toNat
    obtain ⟨w, q1, q3⟩ := zdok_x (zdok_1 (zmd I (I 14 7).toNat).toNat (by omega) (zsc2 I (I 14 7).toNat).toNat (by omega) (by omega))
    have ea : (((zmd I (I 14 7).toNat).toNat : Nat) : Int) = zmd I (I 14 7).toNat := by omega
    have eb : (((zsc2 I (I 14 7).toNat).toNat : Nat) : Int) = zsc2 I (I 14 7).toNat := by omega
    rw [ea, eb] at q1
    rw [q1, zb] at kk
    have lw : L_meanDoors (zM A K I L F E dyn) (some 0) (some 38) = some (0, zM A K I L F (zu E 38 0 w) dyn) := by
      unfold L_meanDoors
      rw [zo_0b, kk, zb]
      simp only
      rw [zs_38b]
    have mm := m_meanDoors_0 (A := A) (K := K) (I := I) (L := L) (F := F) (E := zu E 38 0 w) (dyn := dyn) hb c
    rw [q1, zb] at mm
    have e38 : zu E 38 0 w 38 0 = w := zu_eq
    rw [lw, zb]
    simp only
    rw [zo_14b, mm, zb]
    simp only
    rw [zo_14b, m_thrown, zb, if_pos zu_eq, if_pos trivial, za_38b, e38, if_pos q3, zckb (by omega) (by omega)]
    exact ⟨A, K, _, _, F, _, dyn, rfl, rs, rd, fp, rk, zWc_up (zWc_cg h zIe_th zLe_r zAe_r rfl rfl rfl rfl)⟩
