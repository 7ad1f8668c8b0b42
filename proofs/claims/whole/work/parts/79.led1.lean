-- ===== the ledger: its loops over the tables =====
theorem k_isGiven {A : zIT} {K : zLT} {I : zIT} {L : zLT} {F : zFT} {E : zET} {dyn : zH} (a : Int) : zbl (X1_isGiven (zM A K I L F E dyn) (some 8) a) (zex (fun d => A 11 d = a) 40) := by
  unfold X1_isGiven
  rw [zg_8_2b, zl_11b]
  obtain ⟨e, he, hq⟩ := zloop_up (body := X1_isGiven_b11 a (some 11) 40 (zM A K I L F E dyn)) (fun i k => k = (i : Int) ∧ ¬ zex (fun d => A 11 d = a) i) (fun e => (e = .inr () ∧ zex (fun d => A 11 d = a) 40) ∨ (e = .inl () ∧ ¬ zex (fun d => A 11 d = a) 40)) 40 (by
    rintro i k hi ⟨hk, hu⟩
    subst hk
    unfold X1_isGiven_b11
    rw [if_neg (by omega), za_11b (by omega) (by omega), Int.toNat_natCast]
    by_cases c : A 11 i = a
    · rw [if_pos c]
      exact Or.inr ⟨_, rfl, Or.inl ⟨rfl, i, hi, c⟩⟩
    · rw [if_neg c, zckb (by omega) (by omega)]
      refine Or.inl ⟨_, rfl, rfl, ?_⟩
      rw [zex_s]
      exact fun y => y.elim hu c) (by
    rintro k ⟨hk, hu⟩
    subst hk
    unfold X1_isGiven_b11
    rw [if_pos (by omega)]
    exact ⟨_, rfl, Or.inr ⟨rfl, hu⟩⟩) 0 ⟨rfl, zex_0⟩ (by omega)
  rw [he, zb]
  rcases hq with ⟨rfl, h⟩ | ⟨rfl, h⟩
  · exact Or.inl ⟨rfl, h⟩
  · exact Or.inr ⟨rfl, h⟩
theorem k_isNumberGiven {A : zIT} {K : zLT} {I : zIT} {L : zLT} {F : zFT} {E : zET} {dyn : zH} (a : Int) (h0 : ∀ d, d < 40 → 0 ≤ A 11 d) : zbl (X1_isNumberGiven (zM A K I L F E dyn) (some 8) a) (zex (fun d => A 11 d ≠ 0 ∧ A 11 d / 10 = a) 40) := by
  unfold X1_isNumberGiven
  rw [zg_8_2b, zl_11b]
  obtain ⟨e, he, hq⟩ := zloop_up (body := X1_isNumberGiven_b11 a (some 11) 40 (zM A K I L F E dyn)) (fun i k => k = (i : Int) ∧ ¬ zex (fun d => A 11 d ≠ 0 ∧ A 11 d / 10 = a) i) (fun e => (e = .inr () ∧ zex (fun d => A 11 d ≠ 0 ∧ A 11 d / 10 = a) 40) ∨ (e = .inl () ∧ ¬ zex (fun d => A 11 d ≠ 0 ∧ A 11 d / 10 = a) 40)) 40 (by
    rintro i k hi ⟨hk, hu⟩
    subst hk
    unfold X1_isNumberGiven_b11
    rw [if_neg (by omega), za_11b (by omega) (by omega), Int.toNat_natCast]
    by_cases c : A 11 i = 0
    · rw [if_pos c, zckb (by omega) (by omega)]
      refine Or.inl ⟨_, rfl, rfl, ?_⟩
      rw [zex_s]
      exact fun y => y.elim hu (fun z => z.1 c)
    · rw [if_neg c, zdvb (h0 i hi) (by omega)]
      by_cases c2 : A 11 i / 10 = a
      · rw [if_pos c2]
        exact Or.inr ⟨_, rfl, Or.inl ⟨rfl, i, hi, c, c2⟩⟩
      · rw [if_neg c2, zckb (by omega) (by omega)]
        refine Or.inl ⟨_, rfl, rfl, ?_⟩
        rw [zex_s]
        exact fun y => y.elim hu (fun z => c2 z.2)) (by
    rintro k ⟨hk, hu⟩
    subst hk
    unfold X1_isNumberGiven_b11
    rw [if_pos (by omega)]
    exact ⟨_, rfl, Or.inr ⟨rfl, hu⟩⟩) 0 ⟨rfl, zex_0⟩ (by omega)
  rw [he, zb]
  rcases hq with ⟨rfl, h⟩ | ⟨rfl, h⟩
  · exact Or.inl ⟨rfl, h⟩
  · exact Or.inr ⟨rfl, h⟩
def zc0 (r : Int) : Int := if r = -1 then 0 else r
theorem k_codeWithLetter {A : zIT} {K : zLT} {I : zIT} {L : zLT} {F : zFT} {E : zET} {dyn : zH} {G : Int → Prop} {n r : Int} (hn : 0 ≤ n ∧ n ≤ 200000) (hG : ∀ a, 1 ≤ a → (zex (fun d => A 11 d = a) 40 ↔ G a)) (h : zltr G n 1 r) : X1_codeWithLetter (zM A K I L F E dyn) (some 8) n = some (zc0 r) := by
  unfold X1_codeWithLetter
  obtain ⟨e, he, hq⟩ := zloop_inv (body := X1_codeWithLetter_b2 (some 8) n (zM A K I L F E dyn)) (fun i k => k = 10 - (i : Int) ∧ 1 ≤ k ∧ ∀ j, 1 ≤ j → j < k → G (10 * n + j))
    (fun e => match e with
      | .inl _ => ∀ k, 1 ≤ k → k < 10 → G (10 * n + k)
      | .inr r => ∃ k, r = 10 * n + k ∧ 1 ≤ k ∧ k < 10 ∧ ¬ G (10 * n + k) ∧ (∀ j, 1 ≤ j → j < k → G (10 * n + j)))
    (by
      rintro i k ⟨hk, h0, h1⟩
      unfold X1_codeWithLetter_b2
      by_cases c : 9 < k
      · rw [if_pos c]
        exact Or.inr ⟨_, rfl, fun k' a b => h1 k' a (by omega)⟩
      · rw [if_neg c, zckb (by omega) (by omega), zckb (by omega) (by omega), zo_8b, show n * 10 + k = 10 * n + k by omega]
        rcases k_isGiven (A := A) (K := K) (I := I) (L := L) (F := F) (E := E) (dyn := dyn) (10 * n + k) with ⟨e, h⟩ | ⟨e, h⟩
        · rw [e, zb, if_neg (by omega), zckb (by omega) (by omega)]
          have hg := (hG _ (by omega)).1 h
          refine Or.inl ⟨i - 1, k + 1, by omega, rfl, by omega, by omega, fun j a b => ?_⟩
          rcases Int.lt_or_eq_of_le (show j ≤ k by omega) with b1 | b1
          · exact h1 j a b1
          · rw [b1]
            exact hg
        · rw [e, zb, if_pos rfl]
          exact Or.inr ⟨_, rfl, k, rfl, h0, by omega, fun y => h ((hG _ (by omega)).2 y), h1⟩) zN 9 1 ⟨by omega, by omega, fun j a b => absurd a (by omega)⟩ (by unfold zN; omega)
  rw [he, zb]
  unfold zc0
  rcases e with e | k
  · simp only at hq ⊢
    rcases h with ⟨k, h1, h2, h3, _⟩ | ⟨h1, _⟩
    · exact absurd (hq k h1 h2) h3
    · rw [if_pos h1]
  · simp only at hq ⊢
    obtain ⟨k', rfl, h1, h2, h3, h4⟩ := hq
    rcases h with ⟨k, g1, g2, g3, g4, g5⟩ | ⟨g1, g2⟩
    · rw [if_neg (by omega), g5]
      have : k = k' := by
        rcases Int.lt_trichotomy k k' with y | y | y
        · exact absurd (h4 k g1 y) g3
        · exact y
        · exact absurd (g4 k' h1 y) h3
      rw [this]
    · exact absurd (g2 k' h1 h2) h3
theorem k_codeByMetres15 {A : zIT} {K : zLT} {I : zIT} {L : zLT} {F : zFT} {E : zET} {dyn : zH} {G : Int → Prop} {v n j r : Int} (hn : n = v + j) (hn0 : 1 ≤ n ∧ n ≤ 200000) (hv : 0 ≤ v) (hG : ∀ a, 1 ≤ a → (zex (fun d => A 11 d = a) 40 ↔ G a)) (h : zltr G n 0 r) : X1_codeByMetres_j15 (zM A K I L F E dyn) (some 8) v j = some (zc0 r) := by
  unfold X1_codeByMetres_j15
  rw [zckb (by omega) (by omega), ← hn, zckb (by omega) (by omega), zo_8b, show n * 10 = 10 * n + 0 by omega]
  have hz : zltr G n 0 r → (¬ G (10 * n + 0) ∧ r = 10 * n) ∨ (G (10 * n + 0) ∧ zltr G n 1 r) := by
    rintro (⟨k, g1, g2, g3, g4, g5⟩ | ⟨g1, g2⟩)
    · by_cases c : k = 0
      · subst c
        exact Or.inl ⟨g3, by omega⟩
      · exact Or.inr ⟨g4 0 (by omega) (by omega), Or.inl ⟨k, by omega, g2, g3, fun j a b => g4 j (by omega) b, g5⟩⟩
    · exact Or.inr ⟨g2 0 (by omega) (by omega), Or.inr ⟨g1, fun k a b => g2 k (by omega) b⟩⟩
  rcases k_isGiven (A := A) (K := K) (I := I) (L := L) (F := F) (E := E) (dyn := dyn) (10 * n + 0) with ⟨e, hg⟩ | ⟨e, hg⟩
  · have hg2 := (hG _ (by omega)).1 hg
    rcases hz h with ⟨y, _⟩ | ⟨_, y⟩
    · exact absurd hg2 y
    · rw [e, zb, if_neg (by omega), zo_8b, k_codeWithLetter (by omega) hG y]
      rfl
  · have hg2 : ¬ G (10 * n + 0) := fun y => hg ((hG _ (by omega)).2 y)
    rcases hz h with ⟨_, y⟩ | ⟨y, _⟩
    · rw [e, zb, if_pos rfl, zckb (by omega) (by omega)]
      unfold zc0
      rw [y, if_neg (by omega)]
      congr 1
      omega
    · exact absurd y hg2
theorem k_codeByMetres {A : zIT} {K : zLT} {I : zIT} {L : zLT} {F : zFT} {E : zET} {dyn : zH} {G : Int → Prop} {f w r : Int} (hf : 0 ≤ f ∧ f ≤ 999) (hG : ∀ a, 1 ≤ a → (zex (fun d => A 11 d = a) 40 ↔ G a)) (h : zltr G (2 * (f / 10) + (if w = 108 then 1 else 2)) 0 r) : X1_codeByMetres (zM A K I L F E dyn) (some 8) f (if w = 108 then 1 else 0) = some (zc0 r) := by
  unfold X1_codeByMetres
  rw [zdvb (by omega) (by omega), zckb (by omega) (by omega)]
  by_cases c : w = 108
  · rw [if_pos c] at h ⊢
    rw [if_neg (by omega)]
    exact k_codeByMetres15 rfl (by omega) (by omega) hG h
  · rw [if_neg c] at h ⊢
    rw [if_pos rfl]
    exact k_codeByMetres15 rfl (by omega) (by omega) hG h
