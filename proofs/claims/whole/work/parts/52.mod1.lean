/-! THE REFERENCE'S METHODS over the tables, first the small ones -/
def zbl (o : Option Int) (P : Prop) : Prop := (o = some 1 ∧ P) ∨ (o = some 0 ∧ ¬ P)
theorem zbl_1 {o : Option Int} {P : Prop} (h : zbl o P) (p : P) : o = some 1 := h.elim (fun x => x.1) (fun x => absurd p x.2)
theorem zbl_0 {o : Option Int} {P : Prop} (h : zbl o P) (p : ¬ P) : o = some 0 := h.elim (fun x => absurd x.2 p) (fun x => x.1)
theorem zcmp_0 {a b : Int64} : zcmp a b = 0 ↔ a = b := by
  unfold zcmp
  split
  · rename_i h
    constructor
    · intro x
      cases x
    · intro x
      subst x
      exact absurd h (Int64.lt_irrefl)
  · split
    · rename_i h
      exact ⟨fun _ => h, fun _ => rfl⟩
    · rename_i h
      exact ⟨(fun x => by cases x), fun x => absurd x h⟩
theorem zor_0 {u : Int} (h : u = 0 ∨ u = 1) : zor u 0 = some u := by
  rcases h with rfl | rfl <;> rfl
theorem zor_1 {u : Int} (h : u = 0 ∨ u = 1) : zor u 1 = some 1 := by
  rcases h with rfl | rfl <;> rfl
def zB (I : zIT) : Prop := (0 ≤ I 14 7 ∧ I 14 7 ≤ 12) ∧ (0 ≤ I 14 14 ∧ I 14 14 ≤ 40) ∧ (0 ≤ I 14 19 ∧ I 14 19 ≤ 200)
def zfr (I : zIT) (s : Nat) (m : Int) : Int := if I 19 s = 0 then m else I 17 s - m
def zst (I : zIT) (s : Int) : Prop := 0 ≤ s ∧ s < I 14 7 ∧ I 20 s.toNat = 0
def zdr (I : zIT) (d : Int) : Prop := 0 ≤ d ∧ d < I 14 14
theorem m_no {A : zIT} {K : zLT} {I : zIT} {L : zLT} {F : zFT} {E : zET} {dyn : zH} (a p : Int) : X8_no (zM A K I L F E dyn) (some 14) a p = some (if a = 0 then 1 else 0, zM A K (zu I 14 29 (if a = 0 then p else 0)) L F E dyn) := by
  unfold X8_no
  split
  · rw [zp_14_29]
    rfl
  · rw [zp_14_29]
    rfl
theorem m_between {hp : zH} (v lo hi : Int) : zbl (X8_isBetween hp v lo hi) (lo ≤ v ∧ v ≤ hi) := by
  unfold X8_isBetween zbl
  split
  · exact Or.inr ⟨rfl, by omega⟩
  · split
    · exact Or.inr ⟨rfl, by omega⟩
    · exact Or.inl ⟨rfl, by omega⟩
theorem m_isStreet {A : zIT} {K : zLT} {I : zIT} {L : zLT} {F : zFT} {E : zET} {dyn : zH} (hb : zB I) (s : Int) : zbl (X8_isStreet (zM A K I L F E dyn) (some 14) s) (zst I s) := by
  unfold zB at hb
  unfold X8_isStreet zst
  rw [zg_14_7, zb, zck (by omega) (by omega), zb]
  rcases m_between (hp := (zM A K I L F E dyn)) s 0 (I 14 7 - 1) with ⟨e, h⟩ | ⟨e, h⟩
  · rw [e, zb, if_neg (by omega), zg_14_5, zb, za_20 (by omega) (by omega), zb]
    split
    · rename_i hg
      exact Or.inl ⟨rfl, by omega, by omega, hg⟩
    · rename_i hg
      exact Or.inr ⟨rfl, fun x => hg x.2.2⟩
  · rw [e, zb, if_pos rfl]
    exact Or.inr ⟨rfl, fun x => h ⟨x.1, by omega⟩⟩
theorem m_isDoor {A : zIT} {K : zLT} {I : zIT} {L : zLT} {F : zFT} {E : zET} {dyn : zH} (hb : zB I) (d : Int) : zbl (X8_isDoor (zM A K I L F E dyn) (some 14) d) (zdr I d) := by
  unfold zB at hb
  unfold X8_isDoor zdr
  rw [zg_14_14, zb, zck (by omega) (by omega), zb]
  rcases m_between (hp := (zM A K I L F E dyn)) d 0 (I 14 14 - 1) with ⟨e, h⟩ | ⟨e, h⟩
  · rw [e, zb, zckZ1]
    exact Or.inl ⟨rfl, by omega, by omega⟩
  · rw [e, zb, zckZ0]
    exact Or.inr ⟨rfl, by omega⟩
def zwy (w : Int) : Prop := w = 115 ∨ w = 109 ∨ w = 121
theorem m_isWay {hp : zH} (w : Int) : zbl (X8_isWay hp w) (zwy w) := by
  unfold X8_isWay zbl zwy
  repeat' split
  all_goals first | exact Or.inl ⟨rfl, by omega⟩ | exact Or.inr ⟨rfl, by omega⟩
theorem m_from {A : zIT} {K : zLT} {I : zIT} {L : zLT} {F : zFT} {E : zET} {dyn : zH} {s : Nat} {m : Int} (hs : s < 12) (hl : 0 ≤ I 17 s ∧ I 17 s ≤ 999) (hm : 0 ≤ m ∧ m ≤ 999) : X8_from (zM A K I L F E dyn) (some 14) (s : Int) m = some (zfr I s m) := by
  unfold X8_from zfr
  simp (disch := first | omega | assumption) only [↓zb, ↓zckb, zu_j, zu_c, zu_eq, Int.toNat_natCast, ↓zo_14b, ↓zg_14_0b, ↓zg_14_1b, ↓zg_14_2b, ↓zg_14_3b, ↓zg_14_4b, ↓zg_14_5b, ↓zg_14_6b, ↓zg_14_7b, ↓zp_14_7b, ↓zg_14_8b, ↓zg_14_9b, ↓zg_14_10b, ↓zg_14_11b, ↓zg_14_12b, ↓zg_14_13b, ↓zg_14_14b, ↓zp_14_14b, ↓zg_14_15b, ↓zg_14_16b, ↓zg_14_17b, ↓zg_14_18b, ↓zg_14_19b, ↓zp_14_19b, ↓zg_14_20b, ↓zg_14_21b, ↓zg_14_22b, ↓zg_14_23b, ↓zg_14_24b, ↓zg_14_25b, ↓zp_14_25b, ↓zg_14_26b, ↓zp_14_26b, ↓zg_14_27b, ↓zp_14_27b, ↓zg_14_28b, ↓zp_14_28b, ↓zg_14_29b, ↓zp_14_29b, ↓za_15b, ↓zs_15b, ↓zl_15b, ↓za_16b, ↓zs_16b, ↓zl_16b, ↓za_17b, ↓zs_17b, ↓zl_17b, ↓za_18b, ↓zs_18b, ↓zl_18b, ↓za_19b, ↓zs_19b, ↓zl_19b, ↓za_20b, ↓zs_20b, ↓zl_20b, ↓za_21b, ↓zs_21b, ↓zl_21b, ↓za_22b, ↓zs_22b, ↓zl_22b, ↓za_23b, ↓zs_23b, ↓zl_23b, ↓za_24b, ↓zs_24b, ↓zl_24b, ↓za_25b, ↓zs_25b, ↓zl_25b, ↓za_26b, ↓zs_26b, ↓zl_26b, ↓za_27b, ↓zs_27b, ↓zl_27b, ↓za_28b, ↓zs_28b, ↓zl_28b, ↓za_29b, ↓zs_29b, ↓zl_29b, ↓za_30b, ↓zs_30b, ↓zl_30b, ↓za_31b, ↓zs_31b, ↓zl_31b, ↓za_32b, ↓zs_32b, ↓zl_32b, ↓za_33b, ↓zs_33b, ↓zl_33b, ↓za_34b, ↓zs_34b, ↓zl_34b, ↓za_35b, ↓zs_35b, ↓zl_35b, ↓za_36b, ↓zs_36b, ↓zl_36b, ↓za_37b, ↓zs_37b, ↓zl_37b, ↓za_38b, ↓zs_38b]
  split
  · rfl
  · simp (disch := first | omega | assumption) only [↓zb, ↓zckb, zu_j, zu_c, zu_eq, Int.toNat_natCast, ↓zo_14b, ↓zg_14_0b, ↓zg_14_1b, ↓zg_14_2b, ↓zg_14_3b, ↓zg_14_4b, ↓zg_14_5b, ↓zg_14_6b, ↓zg_14_7b, ↓zp_14_7b, ↓zg_14_8b, ↓zg_14_9b, ↓zg_14_10b, ↓zg_14_11b, ↓zg_14_12b, ↓zg_14_13b, ↓zg_14_14b, ↓zp_14_14b, ↓zg_14_15b, ↓zg_14_16b, ↓zg_14_17b, ↓zg_14_18b, ↓zg_14_19b, ↓zp_14_19b, ↓zg_14_20b, ↓zg_14_21b, ↓zg_14_22b, ↓zg_14_23b, ↓zg_14_24b, ↓zg_14_25b, ↓zp_14_25b, ↓zg_14_26b, ↓zp_14_26b, ↓zg_14_27b, ↓zp_14_27b, ↓zg_14_28b, ↓zp_14_28b, ↓zg_14_29b, ↓zp_14_29b, ↓za_15b, ↓zs_15b, ↓zl_15b, ↓za_16b, ↓zs_16b, ↓zl_16b, ↓za_17b, ↓zs_17b, ↓zl_17b, ↓za_18b, ↓zs_18b, ↓zl_18b, ↓za_19b, ↓zs_19b, ↓zl_19b, ↓za_20b, ↓zs_20b, ↓zl_20b, ↓za_21b, ↓zs_21b, ↓zl_21b, ↓za_22b, ↓zs_22b, ↓zl_22b, ↓za_23b, ↓zs_23b, ↓zl_23b, ↓za_24b, ↓zs_24b, ↓zl_24b, ↓za_25b, ↓zs_25b, ↓zl_25b, ↓za_26b, ↓zs_26b, ↓zl_26b, ↓za_27b, ↓zs_27b, ↓zl_27b, ↓za_28b, ↓zs_28b, ↓zl_28b, ↓za_29b, ↓zs_29b, ↓zl_29b, ↓za_30b, ↓zs_30b, ↓zl_30b, ↓za_31b, ↓zs_31b, ↓zl_31b, ↓za_32b, ↓zs_32b, ↓zl_32b, ↓za_33b, ↓zs_33b, ↓zl_33b, ↓za_34b, ↓zs_34b, ↓zl_34b, ↓za_35b, ↓zs_35b, ↓zl_35b, ↓za_36b, ↓zs_36b, ↓zl_36b, ↓za_37b, ↓zs_37b, ↓zl_37b, ↓za_38b, ↓zs_38b]
theorem m_wipe {A : zIT} {K : zLT} {I : zIT} {L : zLT} {F : zFT} {E : zET} {dyn : zH} : X8_wipe (zM A K I L F E dyn) (some 14) = some (I 14 27, zM A K (zu I 14 27 0) (zu L 14 26 0) F E dyn) := by
  unfold X8_wipe
  simp (disch := first | omega | assumption) only [↓zb, ↓zckb, zu_j, zu_c, zu_eq, Int.toNat_natCast, ↓zo_14b, ↓zg_14_0b, ↓zg_14_1b, ↓zg_14_2b, ↓zg_14_3b, ↓zg_14_4b, ↓zg_14_5b, ↓zg_14_6b, ↓zg_14_7b, ↓zp_14_7b, ↓zg_14_8b, ↓zg_14_9b, ↓zg_14_10b, ↓zg_14_11b, ↓zg_14_12b, ↓zg_14_13b, ↓zg_14_14b, ↓zp_14_14b, ↓zg_14_15b, ↓zg_14_16b, ↓zg_14_17b, ↓zg_14_18b, ↓zg_14_19b, ↓zp_14_19b, ↓zg_14_20b, ↓zg_14_21b, ↓zg_14_22b, ↓zg_14_23b, ↓zg_14_24b, ↓zg_14_25b, ↓zp_14_25b, ↓zg_14_26b, ↓zp_14_26b, ↓zg_14_27b, ↓zp_14_27b, ↓zg_14_28b, ↓zp_14_28b, ↓zg_14_29b, ↓zp_14_29b, ↓za_15b, ↓zs_15b, ↓zl_15b, ↓za_16b, ↓zs_16b, ↓zl_16b, ↓za_17b, ↓zs_17b, ↓zl_17b, ↓za_18b, ↓zs_18b, ↓zl_18b, ↓za_19b, ↓zs_19b, ↓zl_19b, ↓za_20b, ↓zs_20b, ↓zl_20b, ↓za_21b, ↓zs_21b, ↓zl_21b, ↓za_22b, ↓zs_22b, ↓zl_22b, ↓za_23b, ↓zs_23b, ↓zl_23b, ↓za_24b, ↓zs_24b, ↓zl_24b, ↓za_25b, ↓zs_25b, ↓zl_25b, ↓za_26b, ↓zs_26b, ↓zl_26b, ↓za_27b, ↓zs_27b, ↓zl_27b, ↓za_28b, ↓zs_28b, ↓zl_28b, ↓za_29b, ↓zs_29b, ↓zl_29b, ↓za_30b, ↓zs_30b, ↓zl_30b, ↓za_31b, ↓zs_31b, ↓zl_31b, ↓za_32b, ↓zs_32b, ↓zl_32b, ↓za_33b, ↓zs_33b, ↓zl_33b, ↓za_34b, ↓zs_34b, ↓zl_34b, ↓za_35b, ↓zs_35b, ↓zl_35b, ↓za_36b, ↓zs_36b, ↓zl_36b, ↓za_37b, ↓zs_37b, ↓zl_37b, ↓za_38b, ↓zs_38b]
def zus (I : zIT) (L : zLT) (told : Int64) (n : Nat) : Prop := zex (fun k => I 20 k = 0 ∧ told ≠ 0 ∧ (L 15 k = told ∨ L 16 k = told)) n
theorem m_isUsed {A : zIT} {K : zLT} {I : zIT} {L : zLT} {F : zFT} {E : zET} {dyn : zH} (hb : zB I) (told : Int64) : zbl (X8_isUsed (zM A K I L F E dyn) (some 14) told) (zus I L told (I 14 7).toNat) := by
  unfold zB at hb
  unfold X8_isUsed
  obtain ⟨e, he, hq⟩ := zloop_up (body := X8_isUsed_b5 (some 14) told (zM A K I L F E dyn)) (fun i s => s.2 = (i : Int) ∧ ((s.1 = 1 ∧ zus I L told i) ∨ (s.1 = 0 ∧ ¬ zus I L told i)))
    (fun e => (e = 1 ∧ zus I L told (I 14 7).toNat) ∨ (e = 0 ∧ ¬ zus I L told (I 14 7).toNat)) (I 14 7).toNat
    (by
      rintro i ⟨u, k⟩ hi ⟨hk, hu⟩
      simp only at hk
      subst hk
      have hu1 : u = 0 ∨ u = 1 := by
        rcases hu with h | h
        · exact Or.inr h.1
        · exact Or.inl h.1
      refine Or.inl ?_
      unfold X8_isUsed_b5
      simp (disch := first | omega | assumption) only [zcmp_0, zor_0 hu1, zor_1 hu1, ↓zb, ↓zckb, zu_j, zu_c, zu_eq, Int.toNat_natCast, ↓zo_14b, ↓zg_14_0b, ↓zg_14_1b, ↓zg_14_2b, ↓zg_14_3b, ↓zg_14_4b, ↓zg_14_5b, ↓zg_14_6b, ↓zg_14_7b, ↓zp_14_7b, ↓zg_14_8b, ↓zg_14_9b, ↓zg_14_10b, ↓zg_14_11b, ↓zg_14_12b, ↓zg_14_13b, ↓zg_14_14b, ↓zp_14_14b, ↓zg_14_15b, ↓zg_14_16b, ↓zg_14_17b, ↓zg_14_18b, ↓zg_14_19b, ↓zp_14_19b, ↓zg_14_20b, ↓zg_14_21b, ↓zg_14_22b, ↓zg_14_23b, ↓zg_14_24b, ↓zg_14_25b, ↓zp_14_25b, ↓zg_14_26b, ↓zp_14_26b, ↓zg_14_27b, ↓zp_14_27b, ↓zg_14_28b, ↓zp_14_28b, ↓zg_14_29b, ↓zp_14_29b, ↓za_15b, ↓zs_15b, ↓zl_15b, ↓za_16b, ↓zs_16b, ↓zl_16b, ↓za_17b, ↓zs_17b, ↓zl_17b, ↓za_18b, ↓zs_18b, ↓zl_18b, ↓za_19b, ↓zs_19b, ↓zl_19b, ↓za_20b, ↓zs_20b, ↓zl_20b, ↓za_21b, ↓zs_21b, ↓zl_21b, ↓za_22b, ↓zs_22b, ↓zl_22b, ↓za_23b, ↓zs_23b, ↓zl_23b, ↓za_24b, ↓zs_24b, ↓zl_24b, ↓za_25b, ↓zs_25b, ↓zl_25b, ↓za_26b, ↓zs_26b, ↓zl_26b, ↓za_27b, ↓zs_27b, ↓zl_27b, ↓za_28b, ↓zs_28b, ↓zl_28b, ↓za_29b, ↓zs_29b, ↓zl_29b, ↓za_30b, ↓zs_30b, ↓zl_30b, ↓za_31b, ↓zs_31b, ↓zl_31b, ↓za_32b, ↓zs_32b, ↓zl_32b, ↓za_33b, ↓zs_33b, ↓zl_33b, ↓za_34b, ↓zs_34b, ↓zl_34b, ↓za_35b, ↓zs_35b, ↓zl_35b, ↓za_36b, ↓zs_36b, ↓zl_36b, ↓za_37b, ↓zs_37b, ↓zl_37b, ↓za_38b, ↓zs_38b]
      rw [if_neg (by omega)]
      have hx : zus I L told (i + 1) ↔ zus I L told i ∨ (I 20 i = 0 ∧ told ≠ 0 ∧ (L 15 i = told ∨ L 16 i = told)) := zex_s
      repeat' split
      all_goals refine ⟨_, rfl, rfl, ?_⟩
      all_goals simp only [hx]
      all_goals simp_all)
    (by
      rintro ⟨u, k⟩ ⟨hk, hu⟩
      simp only at hk
      subst hk
      unfold X8_isUsed_b5
      simp (disch := first | omega | assumption) only [↓zb, ↓zckb, zu_j, zu_c, zu_eq, Int.toNat_natCast, ↓zo_14b, ↓zg_14_0b, ↓zg_14_1b, ↓zg_14_2b, ↓zg_14_3b, ↓zg_14_4b, ↓zg_14_5b, ↓zg_14_6b, ↓zg_14_7b, ↓zp_14_7b, ↓zg_14_8b, ↓zg_14_9b, ↓zg_14_10b, ↓zg_14_11b, ↓zg_14_12b, ↓zg_14_13b, ↓zg_14_14b, ↓zp_14_14b, ↓zg_14_15b, ↓zg_14_16b, ↓zg_14_17b, ↓zg_14_18b, ↓zg_14_19b, ↓zp_14_19b, ↓zg_14_20b, ↓zg_14_21b, ↓zg_14_22b, ↓zg_14_23b, ↓zg_14_24b, ↓zg_14_25b, ↓zp_14_25b, ↓zg_14_26b, ↓zp_14_26b, ↓zg_14_27b, ↓zp_14_27b, ↓zg_14_28b, ↓zp_14_28b, ↓zg_14_29b, ↓zp_14_29b, ↓za_15b, ↓zs_15b, ↓zl_15b, ↓za_16b, ↓zs_16b, ↓zl_16b, ↓za_17b, ↓zs_17b, ↓zl_17b, ↓za_18b, ↓zs_18b, ↓zl_18b, ↓za_19b, ↓zs_19b, ↓zl_19b, ↓za_20b, ↓zs_20b, ↓zl_20b, ↓za_21b, ↓zs_21b, ↓zl_21b, ↓za_22b, ↓zs_22b, ↓zl_22b, ↓za_23b, ↓zs_23b, ↓zl_23b, ↓za_24b, ↓zs_24b, ↓zl_24b, ↓za_25b, ↓zs_25b, ↓zl_25b, ↓za_26b, ↓zs_26b, ↓zl_26b, ↓za_27b, ↓zs_27b, ↓zl_27b, ↓za_28b, ↓zs_28b, ↓zl_28b, ↓za_29b, ↓zs_29b, ↓zl_29b, ↓za_30b, ↓zs_30b, ↓zl_30b, ↓za_31b, ↓zs_31b, ↓zl_31b, ↓za_32b, ↓zs_32b, ↓zl_32b, ↓za_33b, ↓zs_33b, ↓zl_33b, ↓za_34b, ↓zs_34b, ↓zl_34b, ↓za_35b, ↓zs_35b, ↓zl_35b, ↓za_36b, ↓zs_36b, ↓zl_36b, ↓za_37b, ↓zs_37b, ↓zl_37b, ↓za_38b, ↓zs_38b]
      rw [if_pos (by omega)]
      exact ⟨_, rfl, hu⟩) (0, 0) ⟨rfl, Or.inr ⟨rfl, zex_0⟩⟩ (by omega)
  rw [he, zb]
  rcases hq with ⟨rfl, h⟩ | ⟨rfl, h⟩
  · exact Or.inl ⟨rfl, h⟩
  · exact Or.inr ⟨rfl, h⟩
