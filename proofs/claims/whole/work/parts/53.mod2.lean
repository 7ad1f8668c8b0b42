def zgv (I : zIT) (s : Int) (n : Nat) (a : Int) : Prop := zex (fun p => I 22 p = s ∧ I 25 p = a) n
theorem m_isGiven {A : zIT} {K : zLT} {I : zIT} {L : zLT} {F : zFT} {E : zET} {dyn : zH} (hb : zB I) (s a : Int) : zbl (X8_isGiven (zM A K I L F E dyn) (some 14) s a) (zgv I s (2 * I 14 14).toNat a) := by
  unfold zB at hb
  unfold X8_isGiven
  obtain ⟨e, he, hq⟩ := zloop_up (body := X8_isGiven_b5 (some 14) s a (zM A K I L F E dyn)) (fun i t => t.2 = (i : Int) ∧ ((t.1 = 1 ∧ zgv I s i a) ∨ (t.1 = 0 ∧ ¬ zgv I s i a)))
    (fun e => (e = 1 ∧ zgv I s (2 * I 14 14).toNat a) ∨ (e = 0 ∧ ¬ zgv I s (2 * I 14 14).toNat a)) (2 * I 14 14).toNat
    (by
      rintro i ⟨u, k⟩ hi ⟨hk, hu⟩
      simp only at hk
      subst hk
      have hu1 : u = 0 ∨ u = 1 := by
        rcases hu with h | h
        · exact Or.inr h.1
        · exact Or.inl h.1
      refine Or.inl ?_
      unfold X8_isGiven_b5
      simp (disch := first | omega | assumption) only [zor_0 hu1, zor_1 hu1, ↓zb, ↓zckb, zu_j, zu_c, zu_eq, Int.toNat_natCast, ↓zo_14b, ↓zg_14_0b, ↓zg_14_1b, ↓zg_14_2b, ↓zg_14_3b, ↓zg_14_4b, ↓zg_14_5b, ↓zg_14_6b, ↓zg_14_7b, ↓zp_14_7b, ↓zg_14_8b, ↓zg_14_9b, ↓zg_14_10b, ↓zg_14_11b, ↓zg_14_12b, ↓zg_14_13b, ↓zg_14_14b, ↓zp_14_14b, ↓zg_14_15b, ↓zg_14_16b, ↓zg_14_17b, ↓zg_14_18b, ↓zg_14_19b, ↓zp_14_19b, ↓zg_14_20b, ↓zg_14_21b, ↓zg_14_22b, ↓zg_14_23b, ↓zg_14_24b, ↓zg_14_25b, ↓zp_14_25b, ↓zg_14_26b, ↓zp_14_26b, ↓zg_14_27b, ↓zp_14_27b, ↓zg_14_28b, ↓zp_14_28b, ↓zg_14_29b, ↓zp_14_29b, ↓za_15b, ↓zs_15b, ↓zl_15b, ↓za_16b, ↓zs_16b, ↓zl_16b, ↓za_17b, ↓zs_17b, ↓zl_17b, ↓za_18b, ↓zs_18b, ↓zl_18b, ↓za_19b, ↓zs_19b, ↓zl_19b, ↓za_20b, ↓zs_20b, ↓zl_20b, ↓za_21b, ↓zs_21b, ↓zl_21b, ↓za_22b, ↓zs_22b, ↓zl_22b, ↓za_23b, ↓zs_23b, ↓zl_23b, ↓za_24b, ↓zs_24b, ↓zl_24b, ↓za_25b, ↓zs_25b, ↓zl_25b, ↓za_26b, ↓zs_26b, ↓zl_26b, ↓za_27b, ↓zs_27b, ↓zl_27b, ↓za_28b, ↓zs_28b, ↓zl_28b, ↓za_29b, ↓zs_29b, ↓zl_29b, ↓za_30b, ↓zs_30b, ↓zl_30b, ↓za_31b, ↓zs_31b, ↓zl_31b, ↓za_32b, ↓zs_32b, ↓zl_32b, ↓za_33b, ↓zs_33b, ↓zl_33b, ↓za_34b, ↓zs_34b, ↓zl_34b, ↓za_35b, ↓zs_35b, ↓zl_35b, ↓za_36b, ↓zs_36b, ↓zl_36b, ↓za_37b, ↓zs_37b, ↓zl_37b, ↓za_38b, ↓zs_38b]
      rw [if_neg (by omega)]
      have hx : zgv I s (i + 1) a ↔ zgv I s i a ∨ (I 22 i = s ∧ I 25 i = a) := zex_s
      repeat' split
      all_goals refine ⟨_, rfl, rfl, ?_⟩
      all_goals simp only [hx]
      all_goals simp_all)
    (by
      rintro ⟨u, k⟩ ⟨hk, hu⟩
      simp only at hk
      subst hk
      unfold X8_isGiven_b5
      simp (disch := first | omega | assumption) only [↓zb, ↓zckb, zu_j, zu_c, zu_eq, Int.toNat_natCast, ↓zo_14b, ↓zg_14_0b, ↓zg_14_1b, ↓zg_14_2b, ↓zg_14_3b, ↓zg_14_4b, ↓zg_14_5b, ↓zg_14_6b, ↓zg_14_7b, ↓zp_14_7b, ↓zg_14_8b, ↓zg_14_9b, ↓zg_14_10b, ↓zg_14_11b, ↓zg_14_12b, ↓zg_14_13b, ↓zg_14_14b, ↓zp_14_14b, ↓zg_14_15b, ↓zg_14_16b, ↓zg_14_17b, ↓zg_14_18b, ↓zg_14_19b, ↓zp_14_19b, ↓zg_14_20b, ↓zg_14_21b, ↓zg_14_22b, ↓zg_14_23b, ↓zg_14_24b, ↓zg_14_25b, ↓zp_14_25b, ↓zg_14_26b, ↓zp_14_26b, ↓zg_14_27b, ↓zp_14_27b, ↓zg_14_28b, ↓zp_14_28b, ↓zg_14_29b, ↓zp_14_29b, ↓za_15b, ↓zs_15b, ↓zl_15b, ↓za_16b, ↓zs_16b, ↓zl_16b, ↓za_17b, ↓zs_17b, ↓zl_17b, ↓za_18b, ↓zs_18b, ↓zl_18b, ↓za_19b, ↓zs_19b, ↓zl_19b, ↓za_20b, ↓zs_20b, ↓zl_20b, ↓za_21b, ↓zs_21b, ↓zl_21b, ↓za_22b, ↓zs_22b, ↓zl_22b, ↓za_23b, ↓zs_23b, ↓zl_23b, ↓za_24b, ↓zs_24b, ↓zl_24b, ↓za_25b, ↓zs_25b, ↓zl_25b, ↓za_26b, ↓zs_26b, ↓zl_26b, ↓za_27b, ↓zs_27b, ↓zl_27b, ↓za_28b, ↓zs_28b, ↓zl_28b, ↓za_29b, ↓zs_29b, ↓zl_29b, ↓za_30b, ↓zs_30b, ↓zl_30b, ↓za_31b, ↓zs_31b, ↓zl_31b, ↓za_32b, ↓zs_32b, ↓zl_32b, ↓za_33b, ↓zs_33b, ↓zl_33b, ↓za_34b, ↓zs_34b, ↓zl_34b, ↓za_35b, ↓zs_35b, ↓zl_35b, ↓za_36b, ↓zs_36b, ↓zl_36b, ↓za_37b, ↓zs_37b, ↓zl_37b, ↓za_38b, ↓zs_38b]
      rw [if_pos (by omega)]
      exact ⟨_, rfl, hu⟩) (0, 0) ⟨rfl, Or.inr ⟨rfl, zex_0⟩⟩ (by omega)
  rw [he, zb]
  rcases hq with ⟨rfl, h⟩ | ⟨rfl, h⟩
  · exact Or.inl ⟨rfl, h⟩
  · exact Or.inr ⟨rfl, h⟩
def zng2 (I : zIT) (s : Int) (n : Nat) (a : Int) : Prop := zex (fun p => I 22 p = s ∧ 0 ≤ I 25 p ∧ I 25 p / 10 = a) n
theorem m_isNumberGiven {A : zIT} {K : zLT} {I : zIT} {L : zLT} {F : zFT} {E : zET} {dyn : zH} (hb : zB I) (s a : Int) : zbl (X8_isNumberGiven (zM A K I L F E dyn) (some 14) s a) (zng2 I s (2 * I 14 14).toNat a) := by
  unfold zB at hb
  unfold X8_isNumberGiven
  obtain ⟨e, he, hq⟩ := zloop_up (body := X8_isNumberGiven_b5 (some 14) s a (zM A K I L F E dyn)) (fun i t => t.2 = (i : Int) ∧ ((t.1 = 1 ∧ zng2 I s i a) ∨ (t.1 = 0 ∧ ¬ zng2 I s i a)))
    (fun e => (e = 1 ∧ zng2 I s (2 * I 14 14).toNat a) ∨ (e = 0 ∧ ¬ zng2 I s (2 * I 14 14).toNat a)) (2 * I 14 14).toNat
    (by
      rintro i ⟨u, k⟩ hi ⟨hk, hu⟩
      simp only at hk
      subst hk
      have hu1 : u = 0 ∨ u = 1 := by
        rcases hu with h | h
        · exact Or.inr h.1
        · exact Or.inl h.1
      refine Or.inl ?_
      unfold X8_isNumberGiven_b5
      simp (disch := first | omega | assumption) only [zor_0 hu1, zor_1 hu1, ↓zb, ↓zckb, zu_j, zu_c, zu_eq, Int.toNat_natCast, ↓zo_14b, ↓zg_14_0b, ↓zg_14_1b, ↓zg_14_2b, ↓zg_14_3b, ↓zg_14_4b, ↓zg_14_5b, ↓zg_14_6b, ↓zg_14_7b, ↓zp_14_7b, ↓zg_14_8b, ↓zg_14_9b, ↓zg_14_10b, ↓zg_14_11b, ↓zg_14_12b, ↓zg_14_13b, ↓zg_14_14b, ↓zp_14_14b, ↓zg_14_15b, ↓zg_14_16b, ↓zg_14_17b, ↓zg_14_18b, ↓zg_14_19b, ↓zp_14_19b, ↓zg_14_20b, ↓zg_14_21b, ↓zg_14_22b, ↓zg_14_23b, ↓zg_14_24b, ↓zg_14_25b, ↓zp_14_25b, ↓zg_14_26b, ↓zp_14_26b, ↓zg_14_27b, ↓zp_14_27b, ↓zg_14_28b, ↓zp_14_28b, ↓zg_14_29b, ↓zp_14_29b, ↓za_15b, ↓zs_15b, ↓zl_15b, ↓za_16b, ↓zs_16b, ↓zl_16b, ↓za_17b, ↓zs_17b, ↓zl_17b, ↓za_18b, ↓zs_18b, ↓zl_18b, ↓za_19b, ↓zs_19b, ↓zl_19b, ↓za_20b, ↓zs_20b, ↓zl_20b, ↓za_21b, ↓zs_21b, ↓zl_21b, ↓za_22b, ↓zs_22b, ↓zl_22b, ↓za_23b, ↓zs_23b, ↓zl_23b, ↓za_24b, ↓zs_24b, ↓zl_24b, ↓za_25b, ↓zs_25b, ↓zl_25b, ↓za_26b, ↓zs_26b, ↓zl_26b, ↓za_27b, ↓zs_27b, ↓zl_27b, ↓za_28b, ↓zs_28b, ↓zl_28b, ↓za_29b, ↓zs_29b, ↓zl_29b, ↓za_30b, ↓zs_30b, ↓zl_30b, ↓za_31b, ↓zs_31b, ↓zl_31b, ↓za_32b, ↓zs_32b, ↓zl_32b, ↓za_33b, ↓zs_33b, ↓zl_33b, ↓za_34b, ↓zs_34b, ↓zl_34b, ↓za_35b, ↓zs_35b, ↓zl_35b, ↓za_36b, ↓zs_36b, ↓zl_36b, ↓za_37b, ↓zs_37b, ↓zl_37b, ↓za_38b, ↓zs_38b]
      rw [if_neg (by omega)]
      have hx : zng2 I s (i + 1) a ↔ zng2 I s i a ∨ (I 22 i = s ∧ 0 ≤ I 25 i ∧ I 25 i / 10 = a) := zex_s
      by_cases c1 : I 22 i = s
      · rw [if_pos c1]
        by_cases c2 : I 25 i < 0
        · rw [if_pos c2]
          refine ⟨_, rfl, rfl, ?_⟩
          simp only [hx]
          rcases hu with ⟨rfl, h⟩ | ⟨rfl, h⟩
          · exact Or.inl ⟨rfl, Or.inl h⟩
          · exact Or.inr ⟨rfl, fun x => x.elim h (fun y => absurd y.2.1 (by omega))⟩
        · rw [if_neg c2, zdv (by omega) (by omega), zb]
          by_cases c3 : I 25 i / 10 = a
          · rw [if_pos c3]
            exact ⟨_, rfl, rfl, Or.inl ⟨rfl, hx.2 (Or.inr ⟨c1, by omega, c3⟩)⟩⟩
          · rw [if_neg c3]
            refine ⟨_, rfl, rfl, ?_⟩
            simp only [hx]
            rcases hu with ⟨rfl, h⟩ | ⟨rfl, h⟩
            · exact Or.inl ⟨rfl, Or.inl h⟩
            · exact Or.inr ⟨rfl, fun x => x.elim h (fun y => c3 y.2.2)⟩
      · rw [if_neg c1]
        refine ⟨_, rfl, rfl, ?_⟩
        simp only [hx]
        rcases hu with ⟨rfl, h⟩ | ⟨rfl, h⟩
        · exact Or.inl ⟨rfl, Or.inl h⟩
        · exact Or.inr ⟨rfl, fun x => x.elim h (fun y => c1 y.1)⟩)
    (by
      rintro ⟨u, k⟩ ⟨hk, hu⟩
      simp only at hk
      subst hk
      unfold X8_isNumberGiven_b5
      simp (disch := first | omega | assumption) only [↓zb, ↓zckb, zu_j, zu_c, zu_eq, Int.toNat_natCast, ↓zo_14b, ↓zg_14_0b, ↓zg_14_1b, ↓zg_14_2b, ↓zg_14_3b, ↓zg_14_4b, ↓zg_14_5b, ↓zg_14_6b, ↓zg_14_7b, ↓zp_14_7b, ↓zg_14_8b, ↓zg_14_9b, ↓zg_14_10b, ↓zg_14_11b, ↓zg_14_12b, ↓zg_14_13b, ↓zg_14_14b, ↓zp_14_14b, ↓zg_14_15b, ↓zg_14_16b, ↓zg_14_17b, ↓zg_14_18b, ↓zg_14_19b, ↓zp_14_19b, ↓zg_14_20b, ↓zg_14_21b, ↓zg_14_22b, ↓zg_14_23b, ↓zg_14_24b, ↓zg_14_25b, ↓zp_14_25b, ↓zg_14_26b, ↓zp_14_26b, ↓zg_14_27b, ↓zp_14_27b, ↓zg_14_28b, ↓zp_14_28b, ↓zg_14_29b, ↓zp_14_29b, ↓za_15b, ↓zs_15b, ↓zl_15b, ↓za_16b, ↓zs_16b, ↓zl_16b, ↓za_17b, ↓zs_17b, ↓zl_17b, ↓za_18b, ↓zs_18b, ↓zl_18b, ↓za_19b, ↓zs_19b, ↓zl_19b, ↓za_20b, ↓zs_20b, ↓zl_20b, ↓za_21b, ↓zs_21b, ↓zl_21b, ↓za_22b, ↓zs_22b, ↓zl_22b, ↓za_23b, ↓zs_23b, ↓zl_23b, ↓za_24b, ↓zs_24b, ↓zl_24b, ↓za_25b, ↓zs_25b, ↓zl_25b, ↓za_26b, ↓zs_26b, ↓zl_26b, ↓za_27b, ↓zs_27b, ↓zl_27b, ↓za_28b, ↓zs_28b, ↓zl_28b, ↓za_29b, ↓zs_29b, ↓zl_29b, ↓za_30b, ↓zs_30b, ↓zl_30b, ↓za_31b, ↓zs_31b, ↓zl_31b, ↓za_32b, ↓zs_32b, ↓zl_32b, ↓za_33b, ↓zs_33b, ↓zl_33b, ↓za_34b, ↓zs_34b, ↓zl_34b, ↓za_35b, ↓zs_35b, ↓zl_35b, ↓za_36b, ↓zs_36b, ↓zl_36b, ↓za_37b, ↓zs_37b, ↓zl_37b, ↓za_38b, ↓zs_38b]
      rw [if_pos (by omega)]
      exact ⟨_, rfl, hu⟩) (0, 0) ⟨rfl, Or.inr ⟨rfl, zex_0⟩⟩ (by omega)
  rw [he, zb]
  rcases hq with ⟨rfl, h⟩ | ⟨rfl, h⟩
  · exact Or.inl ⟨rfl, h⟩
  · exact Or.inr ⟨rfl, h⟩
def zltr (G : Int → Prop) (n least r : Int) : Prop := (∃ k, least ≤ k ∧ k < 10 ∧ ¬ G (10 * n + k) ∧ (∀ j, least ≤ j → j < k → G (10 * n + j)) ∧ r = 10 * n + k) ∨ (r = -1 ∧ ∀ k, least ≤ k → k < 10 → G (10 * n + k))
theorem m_lettered {A : zIT} {K : zLT} {I : zIT} {L : zLT} {F : zFT} {E : zET} {dyn : zH} (hb : zB I) (s n least : Int) (hn : 0 ≤ n ∧ n ≤ 200000) (hl : 0 ≤ least ∧ least ≤ 1) : ∃ r, X8_lettered (zM A K I L F E dyn) (some 14) s n least = some r ∧ zltr (zgv I s (2 * I 14 14).toNat) n least r := by
  unfold X8_lettered
  obtain ⟨e, he, hq⟩ := zloop_inv (body := X8_lettered_b3 (some 14) s n (zM A K I L F E dyn)) (fun i k => k = 10 - (i : Int) ∧ least ≤ k ∧ ∀ j, least ≤ j → j < k → zgv I s (2 * I 14 14).toNat (10 * n + j))
    (fun e => match e with
      | .inl _ => ∀ k, least ≤ k → k < 10 → zgv I s (2 * I 14 14).toNat (10 * n + k)
      | .inr k => least ≤ k ∧ k < 10 ∧ ¬ zgv I s (2 * I 14 14).toNat (10 * n + k) ∧ (∀ j, least ≤ j → j < k → zgv I s (2 * I 14 14).toNat (10 * n + j)))
    (by
      rintro i k ⟨hk, h0, h1⟩
      unfold X8_lettered_b3
      by_cases c : 10 ≤ k
      · rw [if_pos c]
        exact Or.inr ⟨_, rfl, fun k' a b => h1 k' a (by omega)⟩
      · rw [if_neg c]
        rcases m_isGiven (A := A) (K := K) (L := L) (F := F) (E := E) (dyn := dyn) hb s (10 * n + k) with ⟨e, h⟩ | ⟨e, h⟩
        · simp (disch := first | omega | assumption) only [e, ↓zb, ↓zckb, zu_j, zu_c, zu_eq, Int.toNat_natCast, ↓zo_14b, ↓zg_14_0b, ↓zg_14_1b, ↓zg_14_2b, ↓zg_14_3b, ↓zg_14_4b, ↓zg_14_5b, ↓zg_14_6b, ↓zg_14_7b, ↓zp_14_7b, ↓zg_14_8b, ↓zg_14_9b, ↓zg_14_10b, ↓zg_14_11b, ↓zg_14_12b, ↓zg_14_13b, ↓zg_14_14b, ↓zp_14_14b, ↓zg_14_15b, ↓zg_14_16b, ↓zg_14_17b, ↓zg_14_18b, ↓zg_14_19b, ↓zp_14_19b, ↓zg_14_20b, ↓zg_14_21b, ↓zg_14_22b, ↓zg_14_23b, ↓zg_14_24b, ↓zg_14_25b, ↓zp_14_25b, ↓zg_14_26b, ↓zp_14_26b, ↓zg_14_27b, ↓zp_14_27b, ↓zg_14_28b, ↓zp_14_28b, ↓zg_14_29b, ↓zp_14_29b, ↓za_15b, ↓zs_15b, ↓zl_15b, ↓za_16b, ↓zs_16b, ↓zl_16b, ↓za_17b, ↓zs_17b, ↓zl_17b, ↓za_18b, ↓zs_18b, ↓zl_18b, ↓za_19b, ↓zs_19b, ↓zl_19b, ↓za_20b, ↓zs_20b, ↓zl_20b, ↓za_21b, ↓zs_21b, ↓zl_21b, ↓za_22b, ↓zs_22b, ↓zl_22b, ↓za_23b, ↓zs_23b, ↓zl_23b, ↓za_24b, ↓zs_24b, ↓zl_24b, ↓za_25b, ↓zs_25b, ↓zl_25b, ↓za_26b, ↓zs_26b, ↓zl_26b, ↓za_27b, ↓zs_27b, ↓zl_27b, ↓za_28b, ↓zs_28b, ↓zl_28b, ↓za_29b, ↓zs_29b, ↓zl_29b, ↓za_30b, ↓zs_30b, ↓zl_30b, ↓za_31b, ↓zs_31b, ↓zl_31b, ↓za_32b, ↓zs_32b, ↓zl_32b, ↓za_33b, ↓zs_33b, ↓zl_33b, ↓za_34b, ↓zs_34b, ↓zl_34b, ↓za_35b, ↓zs_35b, ↓zl_35b, ↓za_36b, ↓zs_36b, ↓zl_36b, ↓za_37b, ↓zs_37b, ↓zl_37b, ↓za_38b, ↓zs_38b]
          rw [if_neg (by omega)]
          refine Or.inl ⟨i - 1, k + 1, by omega, rfl, by omega, by omega, fun j a b => ?_⟩
          rcases Int.lt_or_eq_of_le (show j ≤ k by omega) with b1 | b1
          · exact h1 j a b1
          · rw [b1]
            exact h
        · simp (disch := first | omega | assumption) only [e, ↓zb, ↓zckb, zu_j, zu_c, zu_eq, Int.toNat_natCast, ↓zo_14b, ↓zg_14_0b, ↓zg_14_1b, ↓zg_14_2b, ↓zg_14_3b, ↓zg_14_4b, ↓zg_14_5b, ↓zg_14_6b, ↓zg_14_7b, ↓zp_14_7b, ↓zg_14_8b, ↓zg_14_9b, ↓zg_14_10b, ↓zg_14_11b, ↓zg_14_12b, ↓zg_14_13b, ↓zg_14_14b, ↓zp_14_14b, ↓zg_14_15b, ↓zg_14_16b, ↓zg_14_17b, ↓zg_14_18b, ↓zg_14_19b, ↓zp_14_19b, ↓zg_14_20b, ↓zg_14_21b, ↓zg_14_22b, ↓zg_14_23b, ↓zg_14_24b, ↓zg_14_25b, ↓zp_14_25b, ↓zg_14_26b, ↓zp_14_26b, ↓zg_14_27b, ↓zp_14_27b, ↓zg_14_28b, ↓zp_14_28b, ↓zg_14_29b, ↓zp_14_29b, ↓za_15b, ↓zs_15b, ↓zl_15b, ↓za_16b, ↓zs_16b, ↓zl_16b, ↓za_17b, ↓zs_17b, ↓zl_17b, ↓za_18b, ↓zs_18b, ↓zl_18b, ↓za_19b, ↓zs_19b, ↓zl_19b, ↓za_20b, ↓zs_20b, ↓zl_20b, ↓za_21b, ↓zs_21b, ↓zl_21b, ↓za_22b, ↓zs_22b, ↓zl_22b, ↓za_23b, ↓zs_23b, ↓zl_23b, ↓za_24b, ↓zs_24b, ↓zl_24b, ↓za_25b, ↓zs_25b, ↓zl_25b, ↓za_26b, ↓zs_26b, ↓zl_26b, ↓za_27b, ↓zs_27b, ↓zl_27b, ↓za_28b, ↓zs_28b, ↓zl_28b, ↓za_29b, ↓zs_29b, ↓zl_29b, ↓za_30b, ↓zs_30b, ↓zl_30b, ↓za_31b, ↓zs_31b, ↓zl_31b, ↓za_32b, ↓zs_32b, ↓zl_32b, ↓za_33b, ↓zs_33b, ↓zl_33b, ↓za_34b, ↓zs_34b, ↓zl_34b, ↓za_35b, ↓zs_35b, ↓zl_35b, ↓za_36b, ↓zs_36b, ↓zl_36b, ↓za_37b, ↓zs_37b, ↓zl_37b, ↓za_38b, ↓zs_38b]
          rw [if_pos trivial]
          exact Or.inr ⟨_, rfl, h0, by omega, h, h1⟩) zN (10 - least).toNat least ⟨by omega, by omega, fun j a b => absurd a (by omega)⟩ (by unfold zN; omega)
  rw [he, zb]
  rcases e with e | k
  · exact ⟨-1, rfl, Or.inr ⟨rfl, hq⟩⟩
  · simp only at hq
    obtain ⟨h0, h1, h2, h3⟩ := hq
    simp only
    rw [zck (by omega) (by omega), zb, zck (by omega) (by omega), zb]
    exact ⟨_, rfl, Or.inl ⟨k, h0, h1, h2, h3, rfl⟩⟩
def zky (I : zIT) (s p : Nat) : Int := zfr I s (I 23 p) * 64 + ((p / 2 : Nat) : Int)
theorem m_isFarther {A : zIT} {K : zLT} {I : zIT} {L : zLT} {F : zFT} {E : zET} {dyn : zH} {s p q : Nat} (hs : s < 12) (hl : 0 ≤ I 17 s ∧ I 17 s ≤ 999) (hp : p < 80) (hq : q < 80) (mp : 0 ≤ I 23 p ∧ I 23 p ≤ 999) (mq : 0 ≤ I 23 q ∧ I 23 q ≤ 999) : zbl (X8_isFarther (zM A K I L F E dyn) (some 14) (s : Int) (p : Int) (q : Int)) (zky I s q < zky I s p) := by
  unfold X8_isFarther zky
  simp (disch := first | omega | assumption) only [m_from, zdv, ↓zb, ↓zckb, zu_j, zu_c, zu_eq, Int.toNat_natCast, ↓zo_14b, ↓zg_14_0b, ↓zg_14_1b, ↓zg_14_2b, ↓zg_14_3b, ↓zg_14_4b, ↓zg_14_5b, ↓zg_14_6b, ↓zg_14_7b, ↓zp_14_7b, ↓zg_14_8b, ↓zg_14_9b, ↓zg_14_10b, ↓zg_14_11b, ↓zg_14_12b, ↓zg_14_13b, ↓zg_14_14b, ↓zp_14_14b, ↓zg_14_15b, ↓zg_14_16b, ↓zg_14_17b, ↓zg_14_18b, ↓zg_14_19b, ↓zp_14_19b, ↓zg_14_20b, ↓zg_14_21b, ↓zg_14_22b, ↓zg_14_23b, ↓zg_14_24b, ↓zg_14_25b, ↓zp_14_25b, ↓zg_14_26b, ↓zp_14_26b, ↓zg_14_27b, ↓zp_14_27b, ↓zg_14_28b, ↓zp_14_28b, ↓zg_14_29b, ↓zp_14_29b, ↓za_15b, ↓zs_15b, ↓zl_15b, ↓za_16b, ↓zs_16b, ↓zl_16b, ↓za_17b, ↓zs_17b, ↓zl_17b, ↓za_18b, ↓zs_18b, ↓zl_18b, ↓za_19b, ↓zs_19b, ↓zl_19b, ↓za_20b, ↓zs_20b, ↓zl_20b, ↓za_21b, ↓zs_21b, ↓zl_21b, ↓za_22b, ↓zs_22b, ↓zl_22b, ↓za_23b, ↓zs_23b, ↓zl_23b, ↓za_24b, ↓zs_24b, ↓zl_24b, ↓za_25b, ↓zs_25b, ↓zl_25b, ↓za_26b, ↓zs_26b, ↓zl_26b, ↓za_27b, ↓zs_27b, ↓zl_27b, ↓za_28b, ↓zs_28b, ↓zl_28b, ↓za_29b, ↓zs_29b, ↓zl_29b, ↓za_30b, ↓zs_30b, ↓zl_30b, ↓za_31b, ↓zs_31b, ↓zl_31b, ↓za_32b, ↓zs_32b, ↓zl_32b, ↓za_33b, ↓zs_33b, ↓zl_33b, ↓za_34b, ↓zs_34b, ↓zl_34b, ↓za_35b, ↓zs_35b, ↓zl_35b, ↓za_36b, ↓zs_36b, ↓zl_36b, ↓za_37b, ↓zs_37b, ↓zl_37b, ↓za_38b, ↓zs_38b]
  have e1 : ((p : Int) / 2) = ((p / 2 : Nat) : Int) := rfl
  have e2 : ((q : Int) / 2) = ((q / 2 : Nat) : Int) := rfl
  rw [e1, e2]
  unfold zbl
  repeat' split
  all_goals first | exact Or.inl ⟨rfl, by omega⟩ | exact Or.inr ⟨rfl, by omega⟩
