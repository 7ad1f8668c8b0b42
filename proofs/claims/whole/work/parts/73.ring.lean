-- ===== the ring of old addresses =====
def zix (cnt nx : Int) (k : Nat) : Nat := if cnt < 200 then k else if nx.toNat + k < 200 then nx.toNat + k else nx.toNat + k - 200
def zRO (A : zIT) (K : zLT) (I : zIT) (L : zLT) : Prop := A 3 4 = I 14 19 ∧ 0 ≤ A 3 5 ∧ A 3 5 < 200 ∧ (A 3 4 < 200 → A 3 5 = A 3 4) ∧
  ∀ k : Nat, (k : Int) < I 14 19 → K 4 (zix (A 3 4) (A 3 5) k) = c5 (L 28 k) ∧ A 5 (zix (A 3 4) (A 3 5) k) = I 29 k ∧ A 6 (zix (A 3 4) (A 3 5) k) = I 30 k ∧ A 7 (zix (A 3 4) (A 3 5) k) = I 31 k
def zkA (A : zIT) (c d t : Int) : zIT := zu (zu (zu (zu (zu A 5 (A 3 5).toNat c) 6 (A 3 5).toNat d) 7 (A 3 5).toNat t) 3 5 (if 200 ≤ A 3 5 + 1 then 0 else A 3 5 + 1)) 3 4 (zmin (A 3 4 + 1) 200)
theorem k_isRow {hp : zH} {v : Int} (h : 0 ≤ v ∧ v < 200) : X3_isRow hp v = some 1 := by
  unfold X3_isRow
  rw [if_neg (by omega)]
  first
    | rw [if_pos (by omega)]
    | rw [if_neg (by omega)]
theorem k_keep {A : zIT} {K : zLT} {I : zIT} {L : zLT} {F : zFT} {E : zET} {dyn : zH} {n : Int64} {c d t : Int} (h : 0 ≤ A 3 5 ∧ A 3 5 < 200) (h2 : 0 ≤ A 3 4 ∧ A 3 4 ≤ 200) : X3_keep (zM A K I L F E dyn) (some 3) n c d t = some (zM (zkA A c d t) (zu K 4 (A 3 5).toNat n) I L F E dyn) := by
  unfold X3_keep zkA
  rw [zg_3_5b, k_isRow h, zb]
  simp (disch := first | omega | assumption) only [↓zb, ↓zckb, zu_j, zu_c, zu_eq, Int.toNat_natCast, ↓zo_0b, ↓zg_0_0b, ↓zg_0_1b, ↓zg_0_2b, ↓zg_0_3b, ↓zg_0_4b, ↓zg_0_5b, ↓zp_0_5b, ↓zg_0_6b, ↓zp_0_6b, ↓zg_0_7b, ↓zp_0_7b, ↓zg_0_8b, ↓zp_0_8b, ↓za_1b, ↓zs_1b, ↓zl_1b, ↓za_2b, ↓zs_2b, ↓zl_2b, ↓zo_3b, ↓zg_3_0b, ↓zg_3_1b, ↓zg_3_2b, ↓zg_3_3b, ↓zg_3_4b, ↓zp_3_4b, ↓zg_3_5b, ↓zp_3_5b, ↓za_4b, ↓zs_4b, ↓zl_4b, ↓za_5b, ↓zs_5b, ↓zl_5b, ↓za_6b, ↓zs_6b, ↓zl_6b, ↓za_7b, ↓zs_7b, ↓zl_7b, ↓zo_8b, ↓zg_8_0b, ↓zg_8_1b, ↓zg_8_2b, ↓zg_8_3b, ↓zp_8_3b, ↓zg_8_4b, ↓zp_8_4b, ↓zg_8_5b, ↓zp_8_5b, ↓zg_8_6b, ↓zp_8_6b, ↓za_9b, ↓zs_9b, ↓zl_9b, ↓za_10b, ↓zs_10b, ↓zl_10b, ↓za_11b, ↓zs_11b, ↓zl_11b, ↓zo_12b, ↓zg_12_0b, ↓zg_12_1b, ↓zp_12_1b, ↓za_13b, ↓zs_13b, ↓zl_13b, ↓zoStrb, ↓zgStr_0b, ↓zpStr_0b, ↓zgStr_1b, ↓zpStr_1b, ↓zgStr_2b, ↓zpStr_2b, ↓zgStr_3b, ↓zpStr_3b, ↓zgStr_4b, ↓zpStr_4b, ↓zgStr_5b, ↓zpStr_5b, ↓zgStr_6b, ↓zpStr_6b, ↓zgStr_7b, ↓zpStr_7b, ↓zoDorb, ↓zgDor_0b, ↓zpDor_0b, ↓zgDor_1b, ↓zpDor_1b, ↓zgDor_2b, ↓zpDor_2b, ↓zgDor_3b, ↓zpDor_3b, ↓zgDor_4b, ↓zpDor_4b, ↓zoPlcb, ↓zgPlc_0b, ↓zpPlc_0b, ↓zgPlc_1b, ↓zpPlc_1b, ↓zgPlc_2b, ↓zpPlc_2b, ↓zgPlc_3b, ↓zpPlc_3b, ↓zgPlc_4b, ↓zpPlc_4b, ↓reduceIte, Nat.reduceEqDiff, zne10, eq_self, zu_zu]
  by_cases c1 : 200 ≤ A 3 5 + 1
  · rw [if_pos c1, if_pos c1]
    unfold X3_keep_j76
    simp (disch := first | omega | assumption) only [↓zb, ↓zckb, zu_j, zu_c, zu_eq, Int.toNat_natCast, ↓zo_0b, ↓zg_0_0b, ↓zg_0_1b, ↓zg_0_2b, ↓zg_0_3b, ↓zg_0_4b, ↓zg_0_5b, ↓zp_0_5b, ↓zg_0_6b, ↓zp_0_6b, ↓zg_0_7b, ↓zp_0_7b, ↓zg_0_8b, ↓zp_0_8b, ↓za_1b, ↓zs_1b, ↓zl_1b, ↓za_2b, ↓zs_2b, ↓zl_2b, ↓zo_3b, ↓zg_3_0b, ↓zg_3_1b, ↓zg_3_2b, ↓zg_3_3b, ↓zg_3_4b, ↓zp_3_4b, ↓zg_3_5b, ↓zp_3_5b, ↓za_4b, ↓zs_4b, ↓zl_4b, ↓za_5b, ↓zs_5b, ↓zl_5b, ↓za_6b, ↓zs_6b, ↓zl_6b, ↓za_7b, ↓zs_7b, ↓zl_7b, ↓zo_8b, ↓zg_8_0b, ↓zg_8_1b, ↓zg_8_2b, ↓zg_8_3b, ↓zp_8_3b, ↓zg_8_4b, ↓zp_8_4b, ↓zg_8_5b, ↓zp_8_5b, ↓zg_8_6b, ↓zp_8_6b, ↓za_9b, ↓zs_9b, ↓zl_9b, ↓za_10b, ↓zs_10b, ↓zl_10b, ↓za_11b, ↓zs_11b, ↓zl_11b, ↓zo_12b, ↓zg_12_0b, ↓zg_12_1b, ↓zp_12_1b, ↓za_13b, ↓zs_13b, ↓zl_13b, ↓zoStrb, ↓zgStr_0b, ↓zpStr_0b, ↓zgStr_1b, ↓zpStr_1b, ↓zgStr_2b, ↓zpStr_2b, ↓zgStr_3b, ↓zpStr_3b, ↓zgStr_4b, ↓zpStr_4b, ↓zgStr_5b, ↓zpStr_5b, ↓zgStr_6b, ↓zpStr_6b, ↓zgStr_7b, ↓zpStr_7b, ↓zoDorb, ↓zgDor_0b, ↓zpDor_0b, ↓zgDor_1b, ↓zpDor_1b, ↓zgDor_2b, ↓zpDor_2b, ↓zgDor_3b, ↓zpDor_3b, ↓zgDor_4b, ↓zpDor_4b, ↓zoPlcb, ↓zgPlc_0b, ↓zpPlc_0b, ↓zgPlc_1b, ↓zpPlc_1b, ↓zgPlc_2b, ↓zpPlc_2b, ↓zgPlc_3b, ↓zpPlc_3b, ↓zgPlc_4b, ↓zpPlc_4b, ↓reduceIte, Nat.reduceEqDiff, zne10, eq_self, zu_zu]
  · rw [if_neg c1, if_neg c1]
    unfold X3_keep_j76
    simp (disch := first | omega | assumption) only [↓zb, ↓zckb, zu_j, zu_c, zu_eq, Int.toNat_natCast, ↓zo_0b, ↓zg_0_0b, ↓zg_0_1b, ↓zg_0_2b, ↓zg_0_3b, ↓zg_0_4b, ↓zg_0_5b, ↓zp_0_5b, ↓zg_0_6b, ↓zp_0_6b, ↓zg_0_7b, ↓zp_0_7b, ↓zg_0_8b, ↓zp_0_8b, ↓za_1b, ↓zs_1b, ↓zl_1b, ↓za_2b, ↓zs_2b, ↓zl_2b, ↓zo_3b, ↓zg_3_0b, ↓zg_3_1b, ↓zg_3_2b, ↓zg_3_3b, ↓zg_3_4b, ↓zp_3_4b, ↓zg_3_5b, ↓zp_3_5b, ↓za_4b, ↓zs_4b, ↓zl_4b, ↓za_5b, ↓zs_5b, ↓zl_5b, ↓za_6b, ↓zs_6b, ↓zl_6b, ↓za_7b, ↓zs_7b, ↓zl_7b, ↓zo_8b, ↓zg_8_0b, ↓zg_8_1b, ↓zg_8_2b, ↓zg_8_3b, ↓zp_8_3b, ↓zg_8_4b, ↓zp_8_4b, ↓zg_8_5b, ↓zp_8_5b, ↓zg_8_6b, ↓zp_8_6b, ↓za_9b, ↓zs_9b, ↓zl_9b, ↓za_10b, ↓zs_10b, ↓zl_10b, ↓za_11b, ↓zs_11b, ↓zl_11b, ↓zo_12b, ↓zg_12_0b, ↓zg_12_1b, ↓zp_12_1b, ↓za_13b, ↓zs_13b, ↓zl_13b, ↓zoStrb, ↓zgStr_0b, ↓zpStr_0b, ↓zgStr_1b, ↓zpStr_1b, ↓zgStr_2b, ↓zpStr_2b, ↓zgStr_3b, ↓zpStr_3b, ↓zgStr_4b, ↓zpStr_4b, ↓zgStr_5b, ↓zpStr_5b, ↓zgStr_6b, ↓zpStr_6b, ↓zgStr_7b, ↓zpStr_7b, ↓zoDorb, ↓zgDor_0b, ↓zpDor_0b, ↓zgDor_1b, ↓zpDor_1b, ↓zgDor_2b, ↓zpDor_2b, ↓zgDor_3b, ↓zpDor_3b, ↓zgDor_4b, ↓zpDor_4b, ↓zoPlcb, ↓zgPlc_0b, ↓zpPlc_0b, ↓zgPlc_1b, ↓zpPlc_1b, ↓zgPlc_2b, ↓zpPlc_2b, ↓zgPlc_3b, ↓zpPlc_3b, ↓zgPlc_4b, ↓zpPlc_4b, ↓reduceIte, Nat.reduceEqDiff, zne10, eq_self, zu_zu]
theorem zRO_add {A : zIT} {K : zLT} {I : zIT} {L : zLT} {told : Int64} {a d : Int} (h : zRO A K I L) (h19 : 0 ≤ I 14 19 ∧ I 14 19 ≤ 200) (ht : told ≠ 0) : zRO (zkA A a d (I 14 28)) (zu K 4 (A 3 5).toNat (c5 told)) (zoI I told a d) (zoL I L told) := by
  obtain ⟨h1, h2, h3, h4, h5⟩ := h
  have e19 := zoI_19 (told := told) (a := a) (d := d) h19
  rw [if_neg ht] at e19
  have a34 : zkA A a d (I 14 28) 3 4 = zmin (A 3 4 + 1) 200 := rfl
  have a35 : zkA A a d (I 14 28) 3 5 = if 200 ≤ A 3 5 + 1 then 0 else A 3 5 + 1 := rfl
  have a5 : ∀ j, zkA A a d (I 14 28) 5 j = if j = (A 3 5).toNat then a else A 5 j := fun j => by
    unfold zkA
    simp (disch := omega) only [zu_c, zu_j]
  have a6 : ∀ j, zkA A a d (I 14 28) 6 j = if j = (A 3 5).toNat then d else A 6 j := fun j => by
    unfold zkA
    simp (disch := omega) only [zu_c, zu_j]
  have a7 : ∀ j, zkA A a d (I 14 28) 7 j = if j = (A 3 5).toNat then I 14 28 else A 7 j := fun j => by
    unfold zkA
    simp (disch := omega) only [zu_c, zu_j]
  have k4 : ∀ j, zu K 4 (A 3 5).toNat (c5 told) 4 j = if j = (A 3 5).toNat then c5 told else K 4 j := fun j => zu_j
  have m34 : zmin (A 3 4 + 1) 200 = if I 14 19 = 200 then 200 else I 14 19 + 1 := by
    unfold zmin
    repeat' split
    all_goals omega
  refine ⟨by rw [a34, m34, e19], ?_, ?_, ?_, ?_⟩
  · rw [a35]
    split <;> omega
  · rw [a35]
    split <;> omega
  · rw [a34, a35, m34]
    intro hx
    have : ¬ I 14 19 = 200 := by
      intro y
      rw [if_pos y] at hx
      omega
    rw [if_neg this] at hx ⊢
    have := h4 (by omega)
    rw [if_neg (by omega)]
    omega
  · intro k hk
    rw [a34, a35, a5, a6, a7, k4, m34]
    rw [e19] at hk
    by_cases c : I 14 19 = 200
    · rw [if_pos c] at hk ⊢
      have o29 : ∀ c' : Nat, c' = 29 ∨ c' = 30 ∨ c' = 31 → zoI I told a d c' k = if k = 199 then (if c' = 29 then a else if c' = 30 then d else I 14 28) else I c' (k + 1) := by
        intro c' hc
        unfold zoI zoP
        rw [if_neg ht, if_pos c]
        have z1 : zu (zsh 200 I) 14 19 199 14 19 = 199 := zu_eq
        have z2 : zu (zsh 200 I) 14 19 199 14 28 = I 14 28 := rfl
        rw [z1, z2]
        have hk2 : k < 200 := by omega
        rcases hc with rfl | rfl | rfl
        all_goals
          simp (disch := omega) only [zu_c, zu_j]
          unfold zsh
          by_cases ck : k = 199
          · subst ck
            rfl
          · rw [if_neg ck]
            first
              | rw [if_neg (show ¬ k = (199 : Int).toNat by omega), if_pos ⟨by omega, by omega⟩]
      have oL : zoL I L told 28 k = if k = 199 then told else L 28 (k + 1) := by
        unfold zoL
        rw [if_neg ht, if_pos c, zu_j]
        unfold zsL
        by_cases ck : k = 199
        · rw [if_pos ck, if_pos ck]
        · rw [if_neg ck, if_neg ck, if_pos ⟨rfl, by omega⟩]
      rw [o29 29 (by omega), o29 30 (by omega), o29 31 (by omega), oL]
      by_cases ck : k = 199
      · have ez : zix 200 (if 200 ≤ A 3 5 + 1 then 0 else A 3 5 + 1) k = (A 3 5).toNat := by
          unfold zix
          rw [if_neg (show ¬ (200 : Int) < 200 by omega)]
          repeat' split
          all_goals omega
        rw [ez]
        refine ⟨?_, ?_, ?_, ?_⟩
        all_goals simp [ck]
      · have ez : zix 200 (if 200 ≤ A 3 5 + 1 then 0 else A 3 5 + 1) k = zix (A 3 4) (A 3 5) (k + 1) := by
          unfold zix
          rw [if_neg (show ¬ (200 : Int) < 200 by omega), if_neg (show ¬ A 3 4 < 200 by omega)]
          repeat' split
          all_goals omega
        have ne : zix (A 3 4) (A 3 5) (k + 1) ≠ (A 3 5).toNat := by
          unfold zix
          rw [if_neg (by omega)]
          split <;> omega
        rw [ez, if_neg ne, if_neg ne, if_neg ne, if_neg ne, if_neg ck, if_neg ck, if_neg ck, if_neg ck]
        exact h5 (k + 1) (by omega)
    · rw [if_neg c] at hk ⊢
      have hnx := h4 (by omega)
      have o29 : ∀ c' : Nat, c' = 29 ∨ c' = 30 ∨ c' = 31 → zoI I told a d c' k = if k = (I 14 19).toNat then (if c' = 29 then a else if c' = 30 then d else I 14 28) else I c' k := by
        intro c' hc
        unfold zoI zoP
        rw [if_neg ht, if_neg c]
        rcases hc with rfl | rfl | rfl
        all_goals
          simp (disch := omega) only [zu_c, zu_j]
          rfl
      have oL : zoL I L told 28 k = if k = (I 14 19).toNat then told else L 28 k := by
        unfold zoL
        rw [if_neg ht, if_neg c, zu_j]
      have ez : zix (I 14 19 + 1) (if 200 ≤ A 3 5 + 1 then 0 else A 3 5 + 1) k = k := by
        unfold zix
        repeat' split
        all_goals omega
      rw [o29 29 (by omega), o29 30 (by omega), o29 31 (by omega), oL, ez]
      by_cases ck : k = (I 14 19).toNat
      · have ck2 : k = (A 3 5).toNat := by omega
        rw [if_pos ck2, if_pos ck2, if_pos ck2, if_pos ck2, if_pos ck, if_pos ck, if_pos ck, if_pos ck]
        exact ⟨rfl, rfl, rfl, rfl⟩
      · have ck2 : ¬ k = (A 3 5).toNat := by omega
        rw [if_neg ck2, if_neg ck2, if_neg ck2, if_neg ck2, if_neg ck, if_neg ck, if_neg ck, if_neg ck]
        have := h5 k (by omega)
        have ez2 : zix (A 3 4) (A 3 5) k = k := by
          unfold zix
          rw [if_pos (by omega)]
        rw [ez2] at this
        exact this
