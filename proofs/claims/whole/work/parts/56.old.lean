def zputs (I : zIT) (p s : Nat) (m w a : Int) : zIT := zu (zu (zu (zu (zu I 22 p s) 23 p m) 24 p w) 25 p a) 21 s (if a / 10 ≤ I 21 s then I 21 s else a / 10)
theorem m_puts {A : zIT} {K : zLT} {I : zIT} {L : zLT} {F : zFT} {E : zET} {dyn : zH} {p s : Nat} {m w a : Int} (hp : p < 80) (hs : s < 12) (hw : 0 ≤ w ∧ w ≤ 65535) (ha : 0 ≤ a) : X8_puts (zM A K I L F E dyn) (some 14) (p : Int) (s : Int) m w a = some (zM A K (zputs I p s m w a) L F E dyn) := by
  unfold X8_puts zputs
  simp (disch := first | omega | assumption) only [↓zdvb, ↓zb, ↓zckb, zu_j, zu_c, zu_eq, Int.toNat_natCast, ↓zo_14b, ↓zg_14_0b, ↓zg_14_1b, ↓zg_14_2b, ↓zg_14_3b, ↓zg_14_4b, ↓zg_14_5b, ↓zg_14_6b, ↓zg_14_7b, ↓zp_14_7b, ↓zg_14_8b, ↓zg_14_9b, ↓zg_14_10b, ↓zg_14_11b, ↓zg_14_12b, ↓zg_14_13b, ↓zg_14_14b, ↓zp_14_14b, ↓zg_14_15b, ↓zg_14_16b, ↓zg_14_17b, ↓zg_14_18b, ↓zg_14_19b, ↓zp_14_19b, ↓zg_14_20b, ↓zg_14_21b, ↓zg_14_22b, ↓zg_14_23b, ↓zg_14_24b, ↓zg_14_25b, ↓zp_14_25b, ↓zg_14_26b, ↓zp_14_26b, ↓zg_14_27b, ↓zp_14_27b, ↓zg_14_28b, ↓zp_14_28b, ↓zg_14_29b, ↓zp_14_29b, ↓za_15b, ↓zs_15b, ↓zl_15b, ↓za_16b, ↓zs_16b, ↓zl_16b, ↓za_17b, ↓zs_17b, ↓zl_17b, ↓za_18b, ↓zs_18b, ↓zl_18b, ↓za_19b, ↓zs_19b, ↓zl_19b, ↓za_20b, ↓zs_20b, ↓zl_20b, ↓za_21b, ↓zs_21b, ↓zl_21b, ↓za_22b, ↓zs_22b, ↓zl_22b, ↓za_23b, ↓zs_23b, ↓zl_23b, ↓za_24b, ↓zs_24b, ↓zl_24b, ↓za_25b, ↓zs_25b, ↓zl_25b, ↓za_26b, ↓zs_26b, ↓zl_26b, ↓za_27b, ↓zs_27b, ↓zl_27b, ↓za_28b, ↓zs_28b, ↓zl_28b, ↓za_29b, ↓zs_29b, ↓zl_29b, ↓za_30b, ↓zs_30b, ↓zl_30b, ↓za_31b, ↓zs_31b, ↓zl_31b, ↓za_32b, ↓zs_32b, ↓zl_32b, ↓za_33b, ↓zs_33b, ↓zl_33b, ↓za_34b, ↓zs_34b, ↓zl_34b, ↓za_35b, ↓zs_35b, ↓zl_35b, ↓za_36b, ↓zs_36b, ↓zl_36b, ↓za_37b, ↓zs_37b, ↓zl_37b, ↓za_38b, ↓zs_38b]
  split
  · rfl
  · rfl
def zsd (w : Int) : Prop := w = 108 ∨ w = 114
theorem m_isPlace {A : zIT} {K : zLT} {I : zIT} {L : zLT} {F : zFT} {E : zET} {dyn : zH} {s : Nat} {m w : Int} (hs : s < 12) : zbl (X8_isPlace (zM A K I L F E dyn) (some 14) (s : Int) m w) ((0 ≤ m ∧ m ≤ I 17 s) ∧ zsd w) := by
  unfold X8_isPlace zsd
  simp (disch := first | omega | assumption) only [↓zb, ↓zckb, zu_j, zu_c, zu_eq, Int.toNat_natCast, ↓zo_14b, ↓zg_14_0b, ↓zg_14_1b, ↓zg_14_2b, ↓zg_14_3b, ↓zg_14_4b, ↓zg_14_5b, ↓zg_14_6b, ↓zg_14_7b, ↓zp_14_7b, ↓zg_14_8b, ↓zg_14_9b, ↓zg_14_10b, ↓zg_14_11b, ↓zg_14_12b, ↓zg_14_13b, ↓zg_14_14b, ↓zp_14_14b, ↓zg_14_15b, ↓zg_14_16b, ↓zg_14_17b, ↓zg_14_18b, ↓zg_14_19b, ↓zp_14_19b, ↓zg_14_20b, ↓zg_14_21b, ↓zg_14_22b, ↓zg_14_23b, ↓zg_14_24b, ↓zg_14_25b, ↓zp_14_25b, ↓zg_14_26b, ↓zp_14_26b, ↓zg_14_27b, ↓zp_14_27b, ↓zg_14_28b, ↓zp_14_28b, ↓zg_14_29b, ↓zp_14_29b, ↓za_15b, ↓zs_15b, ↓zl_15b, ↓za_16b, ↓zs_16b, ↓zl_16b, ↓za_17b, ↓zs_17b, ↓zl_17b, ↓za_18b, ↓zs_18b, ↓zl_18b, ↓za_19b, ↓zs_19b, ↓zl_19b, ↓za_20b, ↓zs_20b, ↓zl_20b, ↓za_21b, ↓zs_21b, ↓zl_21b, ↓za_22b, ↓zs_22b, ↓zl_22b, ↓za_23b, ↓zs_23b, ↓zl_23b, ↓za_24b, ↓zs_24b, ↓zl_24b, ↓za_25b, ↓zs_25b, ↓zl_25b, ↓za_26b, ↓zs_26b, ↓zl_26b, ↓za_27b, ↓zs_27b, ↓zl_27b, ↓za_28b, ↓zs_28b, ↓zl_28b, ↓za_29b, ↓zs_29b, ↓zl_29b, ↓za_30b, ↓zs_30b, ↓zl_30b, ↓za_31b, ↓zs_31b, ↓zl_31b, ↓za_32b, ↓zs_32b, ↓zl_32b, ↓za_33b, ↓zs_33b, ↓zl_33b, ↓za_34b, ↓zs_34b, ↓zl_34b, ↓za_35b, ↓zs_35b, ↓zl_35b, ↓za_36b, ↓zs_36b, ↓zl_36b, ↓za_37b, ↓zs_37b, ↓zl_37b, ↓za_38b, ↓zs_38b]
  rcases m_between (hp := (zM A K I L F E dyn)) m 0 (I 17 s) with ⟨e, h⟩ | ⟨e, h⟩
  · rw [e, zb, if_neg (by omega)]
    unfold zbl
    repeat' split
    all_goals first | exact Or.inl ⟨rfl, by omega⟩ | exact Or.inr ⟨rfl, by omega⟩
  · rw [e, zb, if_pos rfl]
    exact Or.inr ⟨rfl, fun x => h x.1⟩
def zpo (I : zIT) (d : Nat) (s : Int) : Int := if I 22 (2 * d) = s then 2 * d else if I 22 (2 * d + 1) = s then 2 * d + 1 else -1
theorem zn1 {d : Nat} : ((2 : Int) * (d : Int)).toNat = 2 * d := by omega
theorem zn2 {d : Nat} : ((2 : Int) * (d : Int) + 1).toNat = 2 * d + 1 := by omega
theorem m_placeOn {A : zIT} {K : zLT} {I : zIT} {L : zLT} {F : zFT} {E : zET} {dyn : zH} {d : Nat} {s : Int} (hd : d < 40) : X8_placeOn (zM A K I L F E dyn) (some 14) (d : Int) s = some (zpo I d s) := by
  unfold X8_placeOn zpo
  simp (disch := first | omega | assumption) only [zn1, zn2, ↓zb, ↓zckb, zu_j, zu_c, zu_eq, Int.toNat_natCast, ↓zo_14b, ↓zg_14_0b, ↓zg_14_1b, ↓zg_14_2b, ↓zg_14_3b, ↓zg_14_4b, ↓zg_14_5b, ↓zg_14_6b, ↓zg_14_7b, ↓zp_14_7b, ↓zg_14_8b, ↓zg_14_9b, ↓zg_14_10b, ↓zg_14_11b, ↓zg_14_12b, ↓zg_14_13b, ↓zg_14_14b, ↓zp_14_14b, ↓zg_14_15b, ↓zg_14_16b, ↓zg_14_17b, ↓zg_14_18b, ↓zg_14_19b, ↓zp_14_19b, ↓zg_14_20b, ↓zg_14_21b, ↓zg_14_22b, ↓zg_14_23b, ↓zg_14_24b, ↓zg_14_25b, ↓zp_14_25b, ↓zg_14_26b, ↓zp_14_26b, ↓zg_14_27b, ↓zp_14_27b, ↓zg_14_28b, ↓zp_14_28b, ↓zg_14_29b, ↓zp_14_29b, ↓za_15b, ↓zs_15b, ↓zl_15b, ↓za_16b, ↓zs_16b, ↓zl_16b, ↓za_17b, ↓zs_17b, ↓zl_17b, ↓za_18b, ↓zs_18b, ↓zl_18b, ↓za_19b, ↓zs_19b, ↓zl_19b, ↓za_20b, ↓zs_20b, ↓zl_20b, ↓za_21b, ↓zs_21b, ↓zl_21b, ↓za_22b, ↓zs_22b, ↓zl_22b, ↓za_23b, ↓zs_23b, ↓zl_23b, ↓za_24b, ↓zs_24b, ↓zl_24b, ↓za_25b, ↓zs_25b, ↓zl_25b, ↓za_26b, ↓zs_26b, ↓zl_26b, ↓za_27b, ↓zs_27b, ↓zl_27b, ↓za_28b, ↓zs_28b, ↓zl_28b, ↓za_29b, ↓zs_29b, ↓zl_29b, ↓za_30b, ↓zs_30b, ↓zl_30b, ↓za_31b, ↓zs_31b, ↓zl_31b, ↓za_32b, ↓zs_32b, ↓zl_32b, ↓za_33b, ↓zs_33b, ↓zl_33b, ↓za_34b, ↓zs_34b, ↓zl_34b, ↓za_35b, ↓zs_35b, ↓zl_35b, ↓za_36b, ↓zs_36b, ↓zl_36b, ↓za_37b, ↓zs_37b, ↓zl_37b, ↓za_38b, ↓zs_38b]
  split
  · rfl
  · split
    · rfl
    · rfl
-- ===== the old addresses =====
def zsh (k : Nat) (I : zIT) : zIT := fun c j => if (c = 29 ∨ c = 30 ∨ c = 31) ∧ j + 1 < k then I c (j + 1) else I c j
def zsL (k : Nat) (L : zLT) : zLT := fun c j => if c = 28 ∧ j + 1 < k then L c (j + 1) else L c j
theorem zsh_s {I : zIT} {i : Nat} : zu (zu (zu (zsh (i + 1) I) 29 i (I 29 (i + 1))) 30 i (I 30 (i + 1))) 31 i (I 31 (i + 1)) = zsh (i + 2) I := by
  funext c j
  unfold zu zsh
  by_cases h1 : c = 31 ∧ j = i
  · obtain ⟨rfl, rfl⟩ := h1
    rw [if_pos ⟨rfl, rfl⟩, if_pos ⟨by omega, by omega⟩]
  · rw [if_neg h1]
    by_cases h2 : c = 30 ∧ j = i
    · obtain ⟨rfl, rfl⟩ := h2
      rw [if_pos ⟨rfl, rfl⟩, if_pos ⟨by omega, by omega⟩]
    · rw [if_neg h2]
      by_cases h3 : c = 29 ∧ j = i
      · obtain ⟨rfl, rfl⟩ := h3
        rw [if_pos ⟨rfl, rfl⟩, if_pos ⟨by omega, by omega⟩]
      · rw [if_neg h3]
        by_cases h4 : (c = 29 ∨ c = 30 ∨ c = 31) ∧ j + 1 < i + 1
        · rw [if_pos h4, if_pos ⟨h4.1, by omega⟩]
        · rw [if_neg h4, if_neg (by omega)]
theorem zsL_s {L : zLT} {i : Nat} : zu (zsL (i + 1) L) 28 i (L 28 (i + 1)) = zsL (i + 2) L := by
  funext c j
  unfold zu zsL
  by_cases h1 : c = 28 ∧ j = i
  · obtain ⟨rfl, rfl⟩ := h1
    rw [if_pos ⟨rfl, rfl⟩, if_pos ⟨by omega, by omega⟩]
  · rw [if_neg h1]
    by_cases h4 : c = 28 ∧ j + 1 < i + 1
    · rw [if_pos h4, if_pos ⟨h4.1, by omega⟩]
    · rw [if_neg h4, if_neg (by omega)]
theorem zsh_1 {I : zIT} : zsh 1 I = I := by
  funext c j
  exact if_neg (by omega)
theorem zsL_1 {L : zLT} : zsL 1 L = L := by
  funext c j
  exact if_neg (by omega)
theorem m_shift {A : zIT} {K : zLT} {I : zIT} {L : zLT} {F : zFT} {E : zET} {dyn : zH} {told : Int64} {a d : Int} : zloop (X8_old_b20 (some 14) told a d) zN (1, (zM A K I L F E dyn)) = some (zM A K (zsh 200 I) (zsL 200 L) F E dyn) := by
  have h := zloop_run (body := X8_old_b20 (some 14) told a d) (fun i => (((i + 1 : Nat) : Int), zM A K (zsh (i + 1) I) (zsL (i + 1) L) F E dyn)) (e := zM A K (zsh 200 I) (zsL 200 L) F E dyn) 199 (by
    intro i hi
    have r1 : ∀ c, zsh (i + 1) I c (i + 1) = I c (i + 1) := fun c => if_neg (by omega)
    have r2 : ∀ c, zsL (i + 1) L c (i + 1) = L c (i + 1) := fun c => if_neg (by omega)
    have e1 : ((i + 1 : Nat) : Int) - 1 = (i : Int) := by omega
    unfold X8_old_b20
    simp only
    rw [if_neg (by omega)]
    simp (disch := first | omega | assumption) only [e1, r1, r2, zsh_s, zsL_s, ↓zb, ↓zckb, zu_j, zu_c, zu_eq, Int.toNat_natCast, ↓zo_14b, ↓zg_14_0b, ↓zg_14_1b, ↓zg_14_2b, ↓zg_14_3b, ↓zg_14_4b, ↓zg_14_5b, ↓zg_14_6b, ↓zg_14_7b, ↓zp_14_7b, ↓zg_14_8b, ↓zg_14_9b, ↓zg_14_10b, ↓zg_14_11b, ↓zg_14_12b, ↓zg_14_13b, ↓zg_14_14b, ↓zp_14_14b, ↓zg_14_15b, ↓zg_14_16b, ↓zg_14_17b, ↓zg_14_18b, ↓zg_14_19b, ↓zp_14_19b, ↓zg_14_20b, ↓zg_14_21b, ↓zg_14_22b, ↓zg_14_23b, ↓zg_14_24b, ↓zg_14_25b, ↓zp_14_25b, ↓zg_14_26b, ↓zp_14_26b, ↓zg_14_27b, ↓zp_14_27b, ↓zg_14_28b, ↓zp_14_28b, ↓zg_14_29b, ↓zp_14_29b, ↓za_15b, ↓zs_15b, ↓zl_15b, ↓za_16b, ↓zs_16b, ↓zl_16b, ↓za_17b, ↓zs_17b, ↓zl_17b, ↓za_18b, ↓zs_18b, ↓zl_18b, ↓za_19b, ↓zs_19b, ↓zl_19b, ↓za_20b, ↓zs_20b, ↓zl_20b, ↓za_21b, ↓zs_21b, ↓zl_21b, ↓za_22b, ↓zs_22b, ↓zl_22b, ↓za_23b, ↓zs_23b, ↓zl_23b, ↓za_24b, ↓zs_24b, ↓zl_24b, ↓za_25b, ↓zs_25b, ↓zl_25b, ↓za_26b, ↓zs_26b, ↓zl_26b, ↓za_27b, ↓zs_27b, ↓zl_27b, ↓za_28b, ↓zs_28b, ↓zl_28b, ↓za_29b, ↓zs_29b, ↓zl_29b, ↓za_30b, ↓zs_30b, ↓zl_30b, ↓za_31b, ↓zs_31b, ↓zl_31b, ↓za_32b, ↓zs_32b, ↓zl_32b, ↓za_33b, ↓zs_33b, ↓zl_33b, ↓za_34b, ↓zs_34b, ↓zl_34b, ↓za_35b, ↓zs_35b, ↓zl_35b, ↓za_36b, ↓zs_36b, ↓zl_36b, ↓za_37b, ↓zs_37b, ↓zl_37b, ↓za_38b, ↓zs_38b]
    rfl) (by
    unfold X8_old_b20
    rfl) 199 0 zN rfl (by omega) (by unfold zN; omega)
  simp only [Nat.zero_add, zsh_1, zsL_1] at h
  exact h
def zoP (J : zIT) (a d : Int) : zIT := zu (zu (zu (zu J 29 (J 14 19).toNat a) 30 (J 14 19).toNat d) 31 (J 14 19).toNat (J 14 28)) 14 19 (J 14 19 + 1)
def zoI (I : zIT) (told : Int64) (a d : Int) : zIT := if told = 0 then I else if I 14 19 = 200 then zoP (zu (zsh 200 I) 14 19 199) a d else zoP I a d
def zoL (I : zIT) (L : zLT) (told : Int64) : zLT := if told = 0 then L else if I 14 19 = 200 then zu (zsL 200 L) 28 199 told else zu L 28 (I 14 19).toNat told
theorem m_old108 {A : zIT} {K : zLT} {I : zIT} {L : zLT} {F : zFT} {E : zET} {dyn : zH} {told : Int64} {a d : Int} (h : 0 ≤ I 14 19 ∧ I 14 19 < 200) : X8_old_j108 (some 14) told a d (zM A K I L F E dyn) = some (zM A K (zoP I a d) (zu L 28 (I 14 19).toNat told) F E dyn) := by
  unfold X8_old_j108 zoP
  simp (disch := first | omega | assumption) only [↓zb, ↓zckb, zu_j, zu_c, zu_eq, Int.toNat_natCast, ↓zo_14b, ↓zg_14_0b, ↓zg_14_1b, ↓zg_14_2b, ↓zg_14_3b, ↓zg_14_4b, ↓zg_14_5b, ↓zg_14_6b, ↓zg_14_7b, ↓zp_14_7b, ↓zg_14_8b, ↓zg_14_9b, ↓zg_14_10b, ↓zg_14_11b, ↓zg_14_12b, ↓zg_14_13b, ↓zg_14_14b, ↓zp_14_14b, ↓zg_14_15b, ↓zg_14_16b, ↓zg_14_17b, ↓zg_14_18b, ↓zg_14_19b, ↓zp_14_19b, ↓zg_14_20b, ↓zg_14_21b, ↓zg_14_22b, ↓zg_14_23b, ↓zg_14_24b, ↓zg_14_25b, ↓zp_14_25b, ↓zg_14_26b, ↓zp_14_26b, ↓zg_14_27b, ↓zp_14_27b, ↓zg_14_28b, ↓zp_14_28b, ↓zg_14_29b, ↓zp_14_29b, ↓za_15b, ↓zs_15b, ↓zl_15b, ↓za_16b, ↓zs_16b, ↓zl_16b, ↓za_17b, ↓zs_17b, ↓zl_17b, ↓za_18b, ↓zs_18b, ↓zl_18b, ↓za_19b, ↓zs_19b, ↓zl_19b, ↓za_20b, ↓zs_20b, ↓zl_20b, ↓za_21b, ↓zs_21b, ↓zl_21b, ↓za_22b, ↓zs_22b, ↓zl_22b, ↓za_23b, ↓zs_23b, ↓zl_23b, ↓za_24b, ↓zs_24b, ↓zl_24b, ↓za_25b, ↓zs_25b, ↓zl_25b, ↓za_26b, ↓zs_26b, ↓zl_26b, ↓za_27b, ↓zs_27b, ↓zl_27b, ↓za_28b, ↓zs_28b, ↓zl_28b, ↓za_29b, ↓zs_29b, ↓zl_29b, ↓za_30b, ↓zs_30b, ↓zl_30b, ↓za_31b, ↓zs_31b, ↓zl_31b, ↓za_32b, ↓zs_32b, ↓zl_32b, ↓za_33b, ↓zs_33b, ↓zl_33b, ↓za_34b, ↓zs_34b, ↓zl_34b, ↓za_35b, ↓zs_35b, ↓zl_35b, ↓za_36b, ↓zs_36b, ↓zl_36b, ↓za_37b, ↓zs_37b, ↓zl_37b, ↓za_38b, ↓zs_38b]
theorem m_old {A : zIT} {K : zLT} {I : zIT} {L : zLT} {F : zFT} {E : zET} {dyn : zH} {told : Int64} {a d : Int} (h : 0 ≤ I 14 19 ∧ I 14 19 ≤ 200) : X8_old (zM A K I L F E dyn) (some 14) told a d = some (zM A K (zoI I told a d) (zoL I L told) F E dyn) := by
  unfold X8_old zoI zoL
  by_cases c : told = 0
  · rw [if_pos (zcmp_0.2 c), if_pos c, if_pos c]
  · rw [if_neg (fun x => c (zcmp_0.1 x)), if_neg c, if_neg c, zg_14_19b]
    by_cases c2 : I 14 19 = 200
    · rw [if_pos c2, if_pos c2, if_pos c2, m_shift, zb, zg_14_19b]
      have r1 : zsh 200 I 14 19 = 200 := by
        show (if _ then _ else _) = _
        rw [if_neg (by omega), c2]
      rw [r1, zckb (by omega) (by omega), zp_14_19b, m_old108 (by rw [zu_eq]; omega), zu_eq]
      rfl
    · rw [if_neg c2, if_neg c2, if_neg c2, m_old108 (by omega)]
theorem zoI_c {I : zIT} {told : Int64} {a d : Int} {c : Nat} (h : c < 29 ∨ 31 < c) (h2 : c ≠ 14) : zoI I told a d c = I c := by
  unfold zoI zoP
  split
  · rfl
  · split
    · rw [zu_c (by omega), zu_c (by omega), zu_c (by omega), zu_c (by omega), zu_c (by omega)]
      funext j
      exact if_neg (by omega)
    · rw [zu_c (by omega), zu_c (by omega), zu_c (by omega), zu_c (by omega)]
theorem zoI_14 {I : zIT} {told : Int64} {a d : Int} {j : Nat} (h : j ≠ 19) : zoI I told a d 14 j = I 14 j := by
  have r : zsh 200 I 14 j = I 14 j := if_neg (by omega)
  unfold zoI zoP
  split
  · rfl
  · split
    · simp only [zu_j, zu_c, if_neg h, ne_eq, Nat.reduceEqDiff, not_false_eq_true, reduceCtorEq, r]
    · simp only [zu_j, zu_c, if_neg h, ne_eq, Nat.reduceEqDiff, not_false_eq_true, reduceCtorEq]
theorem zoI_19 {I : zIT} {told : Int64} {a d : Int} (h : 0 ≤ I 14 19 ∧ I 14 19 ≤ 200) : zoI I told a d 14 19 = if told = 0 then I 14 19 else if I 14 19 = 200 then 200 else I 14 19 + 1 := by
  unfold zoI zoP
  split
  · rfl
  · split
    · simp only [zu_eq]
      rfl
    · simp only [zu_eq]
theorem zoL_c {I : zIT} {L : zLT} {told : Int64} {c : Nat} (h : c ≠ 28) : zoL I L told c = L c := by
  unfold zoL
  split
  · rfl
  · split
    · rw [zu_c (by omega)]
      funext j
      exact if_neg (by omega)
    · rw [zu_c (by omega)]
