theorem zcol_zu {I : zIT} {c c' j : Nat} {R : Nat → Int} {v : Int} (h : c' ≠ c) : zu (zcol I c R) c' j v = zcol (zu I c' j v) c R := by
  funext a b
  unfold zu zcol
  by_cases h1 : a = c' ∧ b = j
  · rw [if_pos h1, if_neg (by omega)]
    exact (if_pos h1).symm
  · rw [if_neg h1]
    by_cases h2 : a = c
    · rw [if_pos h2, if_pos h2]
    · rw [if_neg h2, if_neg h2]
      exact (if_neg h1).symm
def zso (I : zIT) (s i r : Nat) (R : Nat → Int) : Prop :=
  (∀ a, a < r → ∃ q : Nat, R a = q ∧ q < i ∧ I 22 q = s) ∧ (∀ q : Nat, q < i → I 22 q = s → ∃ a, a < r ∧ R a = q) ∧
  (∀ a b qa qb : Nat, a < b → b < r → R a = qa → R b = qb → zwk I qa < zwk I qb) ∧
  (i % 2 = 0 → 2 * r ≤ i) ∧ (i % 2 = 1 → 2 * r ≤ i - 1 ∨ (2 * r ≤ i + 1 ∧ I 22 (i - 1) = s))
theorem zwk_ne {I : zIT} {p q : Nat} (hp : p < 80) (hq : q < 80) (h : zwk I p = zwk I q) : p / 2 = q / 2 := by
  have e : ∀ x y a b : Int, x * 64 + a = y * 64 + b → 0 ≤ a → a < 64 → 0 ≤ b → b < 64 → a = b := fun x y a b h1 h2 h3 h4 h5 => by omega
  have := e _ _ _ _ h (by omega) (by omega) (by omega) (by omega)
  omega
theorem zso_skip {I : zIT} {s i r : Nat} {R : Nat → Int} (h : zso I s i r R) (hn : I 22 i ≠ s) : zso I s (i + 1) r R := by
  obtain ⟨h1, h2, h3, h4, h5⟩ := h
  refine ⟨fun a ha => ?_, fun q hq hs => ?_, h3, fun he => ?_, fun he => ?_⟩
  · obtain ⟨q, e1, e2, e3⟩ := h1 a ha
    exact ⟨q, e1, by omega, e3⟩
  · by_cases c : q = i
    · rw [c] at hs
      exact absurd hs hn
    · exact h2 q (by omega) hs
  · rcases h5 (by omega) with h6 | h6
    · omega
    · omega
  · have := h4 (by omega)
    exact Or.inl (by omega)
theorem zso_put {I : zIT} {s i r at1 : Nat} {R R' : Nat → Int} (h : zso I s i r R) (hi : I 22 i = s) (hr : i % 2 = 1 → I 22 (i - 1) ≠ s) (hat : at1 ≤ r) (g1 : ∀ a, a < at1 → R' a = R a) (g2 : ∀ a, at1 < a → a ≤ r → R' a = R (a - 1))
    (g3 : ∀ a (q : Nat), at1 ≤ a → a < r → R a = q → zwk I i < zwk I q) (g4 : ∀ q : Nat, 0 < at1 → R (at1 - 1) = q → zwk I q < zwk I i) : zso I s (i + 1) (r + 1) (zup R' at1 (i : Int)) := by
  obtain ⟨h1, h2, h3, h4, h5⟩ := h
  have v0 : zup R' at1 (i : Int) at1 = i := if_pos rfl
  have v1 : ∀ a, a < at1 → zup R' at1 (i : Int) a = R a := fun a ha => (if_neg (by omega)).trans (g1 a ha)
  have v2 : ∀ a, at1 < a → a ≤ r → zup R' at1 (i : Int) a = R (a - 1) := fun a ha hb => (if_neg (by omega)).trans (g2 a ha hb)
  have lowk : ∀ a (q : Nat), a < at1 → R a = q → zwk I q < zwk I i := by
    intro a q ha hq
    by_cases c : a = at1 - 1
    · rw [c] at hq
      exact g4 q (by omega) hq
    · obtain ⟨q', e1, _, _⟩ := h1 (at1 - 1) (by omega)
      have k1 := h3 a (at1 - 1) q q' (by omega) (by omega) hq e1
      have k2 := g4 q' (by omega) e1
      omega
  refine ⟨fun a ha => ?_, fun q hq hs => ?_, fun a b qa qb hab hb ha1 hb1 => ?_, fun he => ?_, fun he => ?_⟩
  · rcases Nat.lt_trichotomy a at1 with c | c | c
    · obtain ⟨q, e1, e2, e3⟩ := h1 a (by omega)
      exact ⟨q, (v1 a c).trans e1, by omega, e3⟩
    · rw [c]
      exact ⟨i, v0, by omega, hi⟩
    · obtain ⟨q, e1, e2, e3⟩ := h1 (a - 1) (by omega)
      exact ⟨q, (v2 a c (by omega)).trans e1, by omega, e3⟩
  · by_cases c : q = i
    · rw [c]
      exact ⟨at1, by omega, v0⟩
    · obtain ⟨a, ha, e1⟩ := h2 q (by omega) hs
      by_cases c2 : a < at1
      · exact ⟨a, by omega, (v1 a c2).trans e1⟩
      · exact ⟨a + 1, by omega, (v2 (a + 1) (by omega) (by omega)).trans e1⟩
  · rcases Nat.lt_trichotomy a at1 with c | c | c
    · rw [v1 a c] at ha1
      rcases Nat.lt_trichotomy b at1 with d | d | d
      · rw [v1 b d] at hb1
        exact h3 a b qa qb hab (by omega) ha1 hb1
      · rw [d, v0] at hb1
        rw [show qb = i by omega]
        exact lowk a qa c ha1
      · rw [v2 b d (by omega)] at hb1
        by_cases c2 : a = b - 1
        · omega
        · exact h3 a (b - 1) qa qb (by omega) (by omega) ha1 hb1
    · rw [c, v0] at ha1
      rw [v2 b (by omega) (by omega)] at hb1
      rw [show qa = i by omega]
      exact g3 (b - 1) qb (by omega) (by omega) hb1
    · rw [v2 a c (by omega)] at ha1
      rw [v2 b (by omega) (by omega)] at hb1
      exact h3 (a - 1) (b - 1) qa qb (by omega) (by omega) ha1 hb1
  · rcases h5 (by omega) with h6 | h6
    · omega
    · exact absurd h6.2 (hr (by omega))
  · have := h4 (by omega)
    exact Or.inr ⟨by omega, hi⟩
theorem m_walks {A : zIT} {K : zLT} {I : zIT} {L : zLT} {F : zFT} {E : zET} {dyn : zH} {s : Nat} (hb : zB I) (hV : ∀ p, p < 80 → I 22 p = s → zsd (I 24 p) ∧ 0 ≤ I 23 p ∧ I 23 p ≤ 999) (hD : ∀ d, d < 40 → I 22 (2 * d) = s → I 22 (2 * d + 1) ≠ s) :
    ∃ (r : Nat) (R : Nat → Int), X8_walks (zM A K I L F E dyn) (some 14) (s : Int) = some (zM A K (zcol (zu I 14 25 (r : Int)) 36 R) L F E dyn) ∧ zso I s (2 * I 14 14).toNat r R ∧ r ≤ 40 := by
  have hb' := hb
  unfold zB at hb'
  unfold X8_walks
  rw [zp_14_25b]
  obtain ⟨e, he, hq⟩ := zloop_up (body := X8_walks_b7 (some 14) (s : Int)) (fun i t => t.1 = (i : Int) ∧ ∃ (r : Nat) (R : Nat → Int), t.2 = zM A K (zcol (zu I 14 25 (r : Int)) 36 R) L F E dyn ∧ zso I s i r R)
    (fun e => ∃ (r : Nat) (R : Nat → Int), e = zM A K (zcol (zu I 14 25 (r : Int)) 36 R) L F E dyn ∧ zso I s (2 * I 14 14).toNat r R) (2 * I 14 14).toNat (by
    rintro i ⟨t1, t2⟩ hi ⟨h1, r, R, h2, h3⟩
    simp only at h1 h2
    subst h1 h2
    have c22 : zcol (zu I 14 25 (r : Int)) 36 R 22 = I 22 := by
      rw [zcol_o (by omega), zu_c (by omega)]
    have c14 : zcol (zu I 14 25 (r : Int)) 36 R 14 14 = I 14 14 := rfl
    have c25 : zcol (zu I 14 25 (r : Int)) 36 R 14 25 = r := rfl
    refine Or.inl ?_
    unfold X8_walks_b7
    simp (disch := first | omega | assumption) only [c22, c14, c25, ↓zb, ↓zckb, zu_j, zu_c, zu_eq, Int.toNat_natCast, ↓zo_14b, ↓zg_14_0b, ↓zg_14_1b, ↓zg_14_2b, ↓zg_14_3b, ↓zg_14_4b, ↓zg_14_5b, ↓zg_14_6b, ↓zg_14_7b, ↓zp_14_7b, ↓zg_14_8b, ↓zg_14_9b, ↓zg_14_10b, ↓zg_14_11b, ↓zg_14_12b, ↓zg_14_13b, ↓zg_14_14b, ↓zp_14_14b, ↓zg_14_15b, ↓zg_14_16b, ↓zg_14_17b, ↓zg_14_18b, ↓zg_14_19b, ↓zp_14_19b, ↓zg_14_20b, ↓zg_14_21b, ↓zg_14_22b, ↓zg_14_23b, ↓zg_14_24b, ↓zg_14_25b, ↓zp_14_25b, ↓zg_14_26b, ↓zp_14_26b, ↓zg_14_27b, ↓zp_14_27b, ↓zg_14_28b, ↓zp_14_28b, ↓zg_14_29b, ↓zp_14_29b, ↓za_15b, ↓zs_15b, ↓zl_15b, ↓za_16b, ↓zs_16b, ↓zl_16b, ↓za_17b, ↓zs_17b, ↓zl_17b, ↓za_18b, ↓zs_18b, ↓zl_18b, ↓za_19b, ↓zs_19b, ↓zl_19b, ↓za_20b, ↓zs_20b, ↓zl_20b, ↓za_21b, ↓zs_21b, ↓zl_21b, ↓za_22b, ↓zs_22b, ↓zl_22b, ↓za_23b, ↓zs_23b, ↓zl_23b, ↓za_24b, ↓zs_24b, ↓zl_24b, ↓za_25b, ↓zs_25b, ↓zl_25b, ↓za_26b, ↓zs_26b, ↓zl_26b, ↓za_27b, ↓zs_27b, ↓zl_27b, ↓za_28b, ↓zs_28b, ↓zl_28b, ↓za_29b, ↓zs_29b, ↓zl_29b, ↓za_30b, ↓zs_30b, ↓zl_30b, ↓za_31b, ↓zs_31b, ↓zl_31b, ↓za_32b, ↓zs_32b, ↓zl_32b, ↓za_33b, ↓zs_33b, ↓zl_33b, ↓za_34b, ↓zs_34b, ↓zl_34b, ↓za_35b, ↓zs_35b, ↓zl_35b, ↓za_36b, ↓zs_36b, ↓zl_36b, ↓za_37b, ↓zs_37b, ↓zl_37b, ↓za_38b, ↓zs_38b]
    rw [if_neg (by omega)]
    by_cases c : I 22 i = s
    · rw [if_pos c]
      have hpar : i % 2 = 1 → I 22 (i - 1) ≠ s := by
        intro ho hx
        refine hD ((i - 1) / 2) (by omega) (by rw [show 2 * ((i - 1) / 2) = i - 1 by omega]; exact hx) ?_
        rw [show 2 * ((i - 1) / 2) + 1 = i by omega]
        exact c
      have hr : r < 40 := by
        by_cases ho : i % 2 = 0
        · have := h3.2.2.2.1 ho
          omega
        · rcases h3.2.2.2.2 (by omega) with h6 | h6
          · omega
          · exact absurd h6.2 (hpar (by omega))
      have hvi := hV i (by omega) c
      obtain ⟨at1, R', e1, e2, e3, e4, e5, e6⟩ := m_walks35 (A := A) (K := K) (L := L) (F := F) (E := E) (dyn := dyn) (I := zu I 14 25 (r : Int)) (s := s) (p := i) (r := r) (R0 := R) (by omega) hr hvi.1 hvi.2 (by
        intro a ha
        obtain ⟨q, q1, q2, q3⟩ := h3.1 a ha
        have hvq := hV q (by omega) q3
        refine ⟨q, q1, by omega, hvq.1, hvq.2.1, hvq.2.2, fun hk => ?_⟩
        have hk' : zwk I q = zwk I i := hk
        have := zwk_ne (by omega) (by omega) hk'
        have hqi : q = i - 1 := by omega
        rw [hqi] at q3
        exact hpar (by omega) q3)
      rw [e1, zb]
      have c25' : zcol (zu I 14 25 (r : Int)) 36 R' 14 25 = r := rfl
      simp (disch := first | omega | assumption) only [zcol_u, c25', zcol_zu, zu_zu, ↓zb, ↓zckb, zu_j, zu_c, zu_eq, Int.toNat_natCast, ↓zo_14b, ↓zg_14_0b, ↓zg_14_1b, ↓zg_14_2b, ↓zg_14_3b, ↓zg_14_4b, ↓zg_14_5b, ↓zg_14_6b, ↓zg_14_7b, ↓zp_14_7b, ↓zg_14_8b, ↓zg_14_9b, ↓zg_14_10b, ↓zg_14_11b, ↓zg_14_12b, ↓zg_14_13b, ↓zg_14_14b, ↓zp_14_14b, ↓zg_14_15b, ↓zg_14_16b, ↓zg_14_17b, ↓zg_14_18b, ↓zg_14_19b, ↓zp_14_19b, ↓zg_14_20b, ↓zg_14_21b, ↓zg_14_22b, ↓zg_14_23b, ↓zg_14_24b, ↓zg_14_25b, ↓zp_14_25b, ↓zg_14_26b, ↓zp_14_26b, ↓zg_14_27b, ↓zp_14_27b, ↓zg_14_28b, ↓zp_14_28b, ↓zg_14_29b, ↓zp_14_29b, ↓za_15b, ↓zs_15b, ↓zl_15b, ↓za_16b, ↓zs_16b, ↓zl_16b, ↓za_17b, ↓zs_17b, ↓zl_17b, ↓za_18b, ↓zs_18b, ↓zl_18b, ↓za_19b, ↓zs_19b, ↓zl_19b, ↓za_20b, ↓zs_20b, ↓zl_20b, ↓za_21b, ↓zs_21b, ↓zl_21b, ↓za_22b, ↓zs_22b, ↓zl_22b, ↓za_23b, ↓zs_23b, ↓zl_23b, ↓za_24b, ↓zs_24b, ↓zl_24b, ↓za_25b, ↓zs_25b, ↓zl_25b, ↓za_26b, ↓zs_26b, ↓zl_26b, ↓za_27b, ↓zs_27b, ↓zl_27b, ↓za_28b, ↓zs_28b, ↓zl_28b, ↓za_29b, ↓zs_29b, ↓zl_29b, ↓za_30b, ↓zs_30b, ↓zl_30b, ↓za_31b, ↓zs_31b, ↓zl_31b, ↓za_32b, ↓zs_32b, ↓zl_32b, ↓za_33b, ↓zs_33b, ↓zl_33b, ↓za_34b, ↓zs_34b, ↓zl_34b, ↓za_35b, ↓zs_35b, ↓zl_35b, ↓za_36b, ↓zs_36b, ↓zl_36b, ↓za_37b, ↓zs_37b, ↓zl_37b, ↓za_38b, ↓zs_38b]
      exact ⟨_, rfl, rfl, r + 1, zup R' at1 (i : Int), rfl, zso_put h3 c hpar e2 e3 e4 e5 e6⟩
    · rw [if_neg c]
      exact ⟨_, rfl, rfl, r, R, rfl, zso_skip h3 c⟩) (by
    rintro ⟨t1, t2⟩ ⟨h1, r, R, h2, h3⟩
    simp only at h1 h2
    subst h1 h2
    have c14 : zcol (zu I 14 25 (r : Int)) 36 R 14 14 = I 14 14 := rfl
    unfold X8_walks_b7
    simp (disch := first | omega | assumption) only [c14, ↓zb, ↓zckb, zu_j, zu_c, zu_eq, Int.toNat_natCast, ↓zo_14b, ↓zg_14_0b, ↓zg_14_1b, ↓zg_14_2b, ↓zg_14_3b, ↓zg_14_4b, ↓zg_14_5b, ↓zg_14_6b, ↓zg_14_7b, ↓zp_14_7b, ↓zg_14_8b, ↓zg_14_9b, ↓zg_14_10b, ↓zg_14_11b, ↓zg_14_12b, ↓zg_14_13b, ↓zg_14_14b, ↓zp_14_14b, ↓zg_14_15b, ↓zg_14_16b, ↓zg_14_17b, ↓zg_14_18b, ↓zg_14_19b, ↓zp_14_19b, ↓zg_14_20b, ↓zg_14_21b, ↓zg_14_22b, ↓zg_14_23b, ↓zg_14_24b, ↓zg_14_25b, ↓zp_14_25b, ↓zg_14_26b, ↓zp_14_26b, ↓zg_14_27b, ↓zp_14_27b, ↓zg_14_28b, ↓zp_14_28b, ↓zg_14_29b, ↓zp_14_29b, ↓za_15b, ↓zs_15b, ↓zl_15b, ↓za_16b, ↓zs_16b, ↓zl_16b, ↓za_17b, ↓zs_17b, ↓zl_17b, ↓za_18b, ↓zs_18b, ↓zl_18b, ↓za_19b, ↓zs_19b, ↓zl_19b, ↓za_20b, ↓zs_20b, ↓zl_20b, ↓za_21b, ↓zs_21b, ↓zl_21b, ↓za_22b, ↓zs_22b, ↓zl_22b, ↓za_23b, ↓zs_23b, ↓zl_23b, ↓za_24b, ↓zs_24b, ↓zl_24b, ↓za_25b, ↓zs_25b, ↓zl_25b, ↓za_26b, ↓zs_26b, ↓zl_26b, ↓za_27b, ↓zs_27b, ↓zl_27b, ↓za_28b, ↓zs_28b, ↓zl_28b, ↓za_29b, ↓zs_29b, ↓zl_29b, ↓za_30b, ↓zs_30b, ↓zl_30b, ↓za_31b, ↓zs_31b, ↓zl_31b, ↓za_32b, ↓zs_32b, ↓zl_32b, ↓za_33b, ↓zs_33b, ↓zl_33b, ↓za_34b, ↓zs_34b, ↓zl_34b, ↓za_35b, ↓zs_35b, ↓zl_35b, ↓za_36b, ↓zs_36b, ↓zl_36b, ↓za_37b, ↓zs_37b, ↓zl_37b, ↓za_38b, ↓zs_38b]
    rw [if_pos (by omega)]
    exact ⟨_, rfl, r, R, rfl, h3⟩) (0, zM A K (zu I 14 25 0) L F E dyn) ⟨rfl, 0, I 36, by
      show zM A K (zu I 14 25 0) L F E dyn = zM A K (zcol (zu I 14 25 ((0 : Nat) : Int)) 36 (I 36)) L F E dyn
      have h : (I 36) = (zu I 14 25 ((0 : Nat) : Int)) 36 := (zu_c (by omega)).symm
      rw [h, zcol_id]
      rfl, fun a h => absurd h (by omega), fun q h => absurd h (by omega), fun a b qa qb h1 h2 => absurd h2 (by omega), fun _ => by omega, fun h => absurd h (by omega)⟩ (by omega)
  obtain ⟨r, R, rfl, hz⟩ := hq
  rw [he, zb]
  refine ⟨r, R, rfl, hz, ?_⟩
  have := hz.2.2.2.1 (by omega)
  omega
