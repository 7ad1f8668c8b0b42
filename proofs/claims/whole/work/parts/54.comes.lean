def zcd (I : zIT) (s : Nat) (w : Int) (p : Nat) : Prop := I 22 p = s ∧ 0 ≤ I 25 p ∧ I 24 p = w
def zlo (I : zIT) (s : Nat) (w key : Int) (n : Nat) (a : Int) : Prop := (a = -1 ∧ ∀ p, p < n → zcd I s w p → ¬ zky I s p < key) ∨ (∃ q : Nat, a = q ∧ q < n ∧ zcd I s w q ∧ zky I s q < key ∧ ∀ p, p < n → zcd I s w p → zky I s p < key → zky I s p ≤ zky I s q)
def znx (I : zIT) (s : Nat) (w key : Int) (n : Nat) (a : Int) : Prop := (a = -1 ∧ ∀ p, p < n → zcd I s w p → zky I s p < key) ∨ (∃ q : Nat, a = q ∧ q < n ∧ zcd I s w q ∧ ¬ zky I s q < key ∧ ∀ p, p < n → zcd I s w p → ¬ zky I s p < key → zky I s q ≤ zky I s p)
theorem zlo_skip {I : zIT} {s : Nat} {w key : Int} {n : Nat} {a : Int} (h : zlo I s w key n a) (hn : zcd I s w n → ¬ zky I s n < key) : zlo I s w key (n + 1) a := by
  rcases h with ⟨h1, h2⟩ | ⟨q, h1, h2, h3, h4, h5⟩
  · refine Or.inl ⟨h1, fun p hp hc => ?_⟩
    rcases Nat.lt_or_eq_of_le (Nat.le_of_lt_succ hp) with h | h
    · exact h2 p h hc
    · subst h
      exact hn hc
  · refine Or.inr ⟨q, h1, by omega, h3, h4, fun p hp hc hk => ?_⟩
    rcases Nat.lt_or_eq_of_le (Nat.le_of_lt_succ hp) with h | h
    · exact h5 p h hc hk
    · subst h
      exact absurd hk (hn hc)
theorem zlo_take {I : zIT} {s : Nat} {w key : Int} {n : Nat} {a : Int} (h : zlo I s w key n a) (hc : zcd I s w n) (hk : zky I s n < key) (ha : ∀ q : Nat, a = q → zky I s q < zky I s n) : zlo I s w key (n + 1) n := by
  refine Or.inr ⟨n, rfl, by omega, hc, hk, fun p hp hcp hkp => ?_⟩
  rcases Nat.lt_or_eq_of_le (Nat.le_of_lt_succ hp) with h' | h'
  · rcases h with ⟨h1, h2⟩ | ⟨q, h1, h2, h3, h4, h5⟩
    · exact absurd hkp (h2 p h' hcp)
    · have := h5 p h' hcp hkp
      have := ha q h1
      omega
  · subst h'
    exact Int.le_refl _
theorem zlo_keep {I : zIT} {s : Nat} {w key : Int} {n : Nat} {a : Int} (h : zlo I s w key n a) (hne : a ≠ -1) (ha : ∀ q : Nat, a = q → ¬ zky I s q < zky I s n) : zlo I s w key (n + 1) a := by
  rcases h with ⟨h1, h2⟩ | ⟨q, h1, h2, h3, h4, h5⟩
  · exact absurd h1 hne
  · refine Or.inr ⟨q, h1, by omega, h3, h4, fun p hp hc hk => ?_⟩
    rcases Nat.lt_or_eq_of_le (Nat.le_of_lt_succ hp) with h | h
    · exact h5 p h hc hk
    · subst h
      have := ha q h1
      omega
theorem znx_skip {I : zIT} {s : Nat} {w key : Int} {n : Nat} {a : Int} (h : znx I s w key n a) (hn : zcd I s w n → zky I s n < key) : znx I s w key (n + 1) a := by
  rcases h with ⟨h1, h2⟩ | ⟨q, h1, h2, h3, h4, h5⟩
  · refine Or.inl ⟨h1, fun p hp hc => ?_⟩
    rcases Nat.lt_or_eq_of_le (Nat.le_of_lt_succ hp) with h | h
    · exact h2 p h hc
    · subst h
      exact hn hc
  · refine Or.inr ⟨q, h1, by omega, h3, h4, fun p hp hc hk => ?_⟩
    rcases Nat.lt_or_eq_of_le (Nat.le_of_lt_succ hp) with h | h
    · exact h5 p h hc hk
    · subst h
      exact absurd (hn hc) hk
theorem znx_take {I : zIT} {s : Nat} {w key : Int} {n : Nat} {a : Int} (h : znx I s w key n a) (hc : zcd I s w n) (hk : ¬ zky I s n < key) (ha : ∀ q : Nat, a = q → zky I s n < zky I s q) : znx I s w key (n + 1) n := by
  refine Or.inr ⟨n, rfl, by omega, hc, hk, fun p hp hcp hkp => ?_⟩
  rcases Nat.lt_or_eq_of_le (Nat.le_of_lt_succ hp) with h' | h'
  · rcases h with ⟨h1, h2⟩ | ⟨q, h1, h2, h3, h4, h5⟩
    · exact absurd (h2 p h' hcp) hkp
    · have := h5 p h' hcp hkp
      have := ha q h1
      omega
  · subst h'
    exact Int.le_refl _
theorem znx_keep {I : zIT} {s : Nat} {w key : Int} {n : Nat} {a : Int} (h : znx I s w key n a) (hne : a ≠ -1) (ha : ∀ q : Nat, a = q → ¬ zky I s n < zky I s q) : znx I s w key (n + 1) a := by
  rcases h with ⟨h1, h2⟩ | ⟨q, h1, h2, h3, h4, h5⟩
  · exact absurd h1 hne
  · refine Or.inr ⟨q, h1, by omega, h3, h4, fun p hp hc hk => ?_⟩
    rcases Nat.lt_or_eq_of_le (Nat.le_of_lt_succ hp) with h | h
    · exact h5 p h hc hk
    · subst h
      have := ha q h1
      omega
theorem m_c161 {A : zIT} {K : zLT} {I : zIT} {L : zLT} {F : zFT} {E : zET} {dyn : zH} {s : Nat} {w key b : Int} {i : Nat} {a : Int} (hs : s < 12) (hl : 0 ≤ I 17 s ∧ I 17 s ≤ 999) (hP : ∀ p, p < 80 → I 22 p = s → 0 ≤ I 23 p ∧ I 23 p ≤ 999) (hi : i < 80) (h : zlo I s w key i a) (hc : zcd I s w i) (hk : zky I s i < key) : ∃ a', X8_comes_j161 (some 14) (s : Int) (zM A K I L F E dyn) (a, b, (i : Int)) = some (.inl (a', b, ((i + 1 : Nat) : Int))) ∧ zlo I s w key (i + 1) a' := by
  unfold X8_comes_j161
  simp only
  by_cases c : a = -1
  · rw [if_pos c, zck (by omega) (by omega), zb]
    exact ⟨_, rfl, zlo_take h hc hk (fun q hq => by omega)⟩
  · rw [if_neg c]
    obtain ⟨q, hq, hqi, hcq⟩ : ∃ q : Nat, a = q ∧ q < i ∧ zcd I s w q := by
      rcases h with ⟨h1, _⟩ | ⟨q, h1, h2, h3, _⟩
      · exact absurd h1 c
      · exact ⟨q, h1, h2, h3⟩
    subst hq
    rcases m_isFarther (A := A) (K := K) (L := L) (F := F) (E := E) (dyn := dyn) hs hl hi (show q < 80 by omega) (hP i hi hc.1) (hP q (by omega) hcq.1) with ⟨e, hf⟩ | ⟨e, hf⟩
    · rw [zo_14, zb, e, zb, if_neg (by omega), zck (by omega) (by omega), zb]
      exact ⟨_, rfl, zlo_take h hc hk (fun q' hq' => by rw [show q' = q by omega]; exact hf)⟩
    · rw [zo_14, zb, e, zb, if_pos rfl, zck (by omega) (by omega), zb]
      exact ⟨_, rfl, zlo_keep h c (fun q' hq' => by rw [show q' = q by omega]; exact hf)⟩
theorem m_c191 {A : zIT} {K : zLT} {I : zIT} {L : zLT} {F : zFT} {E : zET} {dyn : zH} {s : Nat} {w key b : Int} {i : Nat} {a : Int} (hs : s < 12) (hl : 0 ≤ I 17 s ∧ I 17 s ≤ 999) (hP : ∀ p, p < 80 → I 22 p = s → 0 ≤ I 23 p ∧ I 23 p ≤ 999) (hi : i < 80) (h : znx I s w key i a) (hc : zcd I s w i) (hk : ¬ zky I s i < key) : ∃ a', X8_comes_j191 (some 14) (s : Int) (zM A K I L F E dyn) (b, a, (i : Int)) = some (.inl (b, a', ((i + 1 : Nat) : Int))) ∧ znx I s w key (i + 1) a' := by
  unfold X8_comes_j191
  simp only
  by_cases c : a = -1
  · rw [if_pos c, zck (by omega) (by omega), zb]
    exact ⟨_, rfl, znx_take h hc hk (fun q hq => by omega)⟩
  · rw [if_neg c]
    obtain ⟨q, hq, hqi, hcq⟩ : ∃ q : Nat, a = q ∧ q < i ∧ zcd I s w q := by
      rcases h with ⟨h1, _⟩ | ⟨q, h1, h2, h3, _⟩
      · exact absurd h1 c
      · exact ⟨q, h1, h2, h3⟩
    subst hq
    rcases m_isFarther (A := A) (K := K) (L := L) (F := F) (E := E) (dyn := dyn) hs hl (show q < 80 by omega) hi (hP q (by omega) hcq.1) (hP i hi hc.1) with ⟨e, hf⟩ | ⟨e, hf⟩
    · rw [zo_14, zb, e, zb, if_neg (by omega), zck (by omega) (by omega), zb]
      exact ⟨_, rfl, znx_take h hc hk (fun q' hq' => by rw [show q' = q by omega]; exact hf)⟩
    · rw [zo_14, zb, e, zb, if_pos rfl, zck (by omega) (by omega), zb]
      exact ⟨_, rfl, znx_keep h c (fun q' hq' => by rw [show q' = q by omega]; exact hf)⟩
theorem m_c78 {A : zIT} {K : zLT} {I : zIT} {L : zLT} {F : zFT} {E : zET} {dyn : zH} {s d : Nat} {m w : Int} (hb : zB I) (hs : s < 12) (hd : d ≤ 40) (hl : 0 ≤ I 17 s ∧ I 17 s ≤ 999) (hP : ∀ p, p < 80 → I 22 p = s → 0 ≤ I 23 p ∧ I 23 p ≤ 999) : ∃ a b, zloop (X8_comes_b78 (some 14) (s : Int) (d : Int) w (zfr I s m) (zM A K I L F E dyn)) zN (-1, -1, 0) = some (a, b) ∧ zlo I s w (zfr I s m * 64 + d) (2 * I 14 14).toNat a ∧ znx I s w (zfr I s m * 64 + d) (2 * I 14 14).toNat b := by
  unfold zB at hb
  obtain ⟨e, he, hq⟩ := zloop_up (body := X8_comes_b78 (some 14) (s : Int) (d : Int) w (zfr I s m) (zM A K I L F E dyn)) (fun i t => t.2.2 = (i : Int) ∧ zlo I s w (zfr I s m * 64 + d) i t.1 ∧ znx I s w (zfr I s m * 64 + d) i t.2.1)
    (fun e => zlo I s w (zfr I s m * 64 + d) (2 * I 14 14).toNat e.1 ∧ znx I s w (zfr I s m * 64 + d) (2 * I 14 14).toNat e.2) (2 * I 14 14).toNat
    (by
      rintro i ⟨a, b, k⟩ hi ⟨hk, ha, hbb⟩
      simp only at hk
      subst hk
      refine Or.inl ?_
      unfold X8_comes_b78
      simp (disch := first | omega | assumption) only [↓zb, ↓zckb, zu_j, zu_c, zu_eq, Int.toNat_natCast, ↓zo_14b, ↓zg_14_0b, ↓zg_14_1b, ↓zg_14_2b, ↓zg_14_3b, ↓zg_14_4b, ↓zg_14_5b, ↓zg_14_6b, ↓zg_14_7b, ↓zp_14_7b, ↓zg_14_8b, ↓zg_14_9b, ↓zg_14_10b, ↓zg_14_11b, ↓zg_14_12b, ↓zg_14_13b, ↓zg_14_14b, ↓zp_14_14b, ↓zg_14_15b, ↓zg_14_16b, ↓zg_14_17b, ↓zg_14_18b, ↓zg_14_19b, ↓zp_14_19b, ↓zg_14_20b, ↓zg_14_21b, ↓zg_14_22b, ↓zg_14_23b, ↓zg_14_24b, ↓zg_14_25b, ↓zp_14_25b, ↓zg_14_26b, ↓zp_14_26b, ↓zg_14_27b, ↓zp_14_27b, ↓zg_14_28b, ↓zp_14_28b, ↓zg_14_29b, ↓zp_14_29b, ↓za_15b, ↓zs_15b, ↓zl_15b, ↓za_16b, ↓zs_16b, ↓zl_16b, ↓za_17b, ↓zs_17b, ↓zl_17b, ↓za_18b, ↓zs_18b, ↓zl_18b, ↓za_19b, ↓zs_19b, ↓zl_19b, ↓za_20b, ↓zs_20b, ↓zl_20b, ↓za_21b, ↓zs_21b, ↓zl_21b, ↓za_22b, ↓zs_22b, ↓zl_22b, ↓za_23b, ↓zs_23b, ↓zl_23b, ↓za_24b, ↓zs_24b, ↓zl_24b, ↓za_25b, ↓zs_25b, ↓zl_25b, ↓za_26b, ↓zs_26b, ↓zl_26b, ↓za_27b, ↓zs_27b, ↓zl_27b, ↓za_28b, ↓zs_28b, ↓zl_28b, ↓za_29b, ↓zs_29b, ↓zl_29b, ↓za_30b, ↓zs_30b, ↓zl_30b, ↓za_31b, ↓zs_31b, ↓zl_31b, ↓za_32b, ↓zs_32b, ↓zl_32b, ↓za_33b, ↓zs_33b, ↓zl_33b, ↓za_34b, ↓zs_34b, ↓zl_34b, ↓za_35b, ↓zs_35b, ↓zl_35b, ↓za_36b, ↓zs_36b, ↓zl_36b, ↓za_37b, ↓zs_37b, ↓zl_37b, ↓za_38b, ↓zs_38b]
      rw [if_neg (by omega)]
      have skip : (¬ zcd I s w i) → ∃ s' : Int × Int × Int, (some (Sum.inl (a, b, (i : Int) + 1)) : Option ((Int × Int × Int) ⊕ (Int × Int))) = some (.inl s') ∧ s'.2.2 = ((i + 1 : Nat) : Int) ∧ zlo I s w (zfr I s m * 64 + d) (i + 1) s'.1 ∧ znx I s w (zfr I s m * 64 + d) (i + 1) s'.2.1 :=
        fun hn => ⟨_, rfl, rfl, zlo_skip ha (fun x => absurd x hn), znx_skip hbb (fun x => absurd x hn)⟩
      by_cases c1 : I 22 i = s
      · rw [if_pos c1]
        by_cases c2 : I 25 i < 0
        · rw [if_pos c2]
          exact skip (fun x => absurd x.2.1 (by omega))
        · rw [if_neg c2]
          by_cases c3 : I 24 i = w
          · rw [if_pos c3]
            have hc : zcd I s w i := ⟨c1, by omega, c3⟩
            have hm := hP i (by omega) c1
            rw [m_from hs hl hm, zb]
            have hkd : zky I s i = zfr I s (I 23 i) * 64 + ((i / 2 : Nat) : Int) := rfl
            have lo : zky I s i < zfr I s m * 64 + d → ∃ s' : Int × Int × Int, X8_comes_j161 (some 14) (s : Int) (zM A K I L F E dyn) (a, b, (i : Int)) = some (.inl s') ∧ s'.2.2 = ((i + 1 : Nat) : Int) ∧ zlo I s w (zfr I s m * 64 + d) (i + 1) s'.1 ∧ znx I s w (zfr I s m * 64 + d) (i + 1) s'.2.1 := by
              intro hx
              obtain ⟨a', e1, e2⟩ := m_c161 (A := A) (K := K) (L := L) (F := F) (E := E) (dyn := dyn) (b := b) hs hl hP (show i < 80 by omega) ha hc hx
              exact ⟨_, e1, rfl, e2, znx_skip hbb (fun _ => hx)⟩
            have nx : ¬ zky I s i < zfr I s m * 64 + d → ∃ s' : Int × Int × Int, X8_comes_j191 (some 14) (s : Int) (zM A K I L F E dyn) (a, b, (i : Int)) = some (.inl s') ∧ s'.2.2 = ((i + 1 : Nat) : Int) ∧ zlo I s w (zfr I s m * 64 + d) (i + 1) s'.1 ∧ znx I s w (zfr I s m * 64 + d) (i + 1) s'.2.1 := by
              intro hx
              obtain ⟨a', e1, e2⟩ := m_c191 (A := A) (K := K) (L := L) (F := F) (E := E) (dyn := dyn) (b := a) hs hl hP (show i < 80 by omega) hbb hc hx
              exact ⟨_, e1, rfl, zlo_skip ha (fun _ => hx), e2⟩
            have e2 : ((i : Int) / 2) = ((i / 2 : Nat) : Int) := rfl
            by_cases c4 : zfr I s (I 23 i) < zfr I s m
            · rw [if_pos c4]
              exact lo (by omega)
            · rw [if_neg c4]
              by_cases c5 : zfr I s (I 23 i) = zfr I s m
              · rw [if_pos c5, zdv (by omega) (by omega), zb, e2]
                by_cases c6 : (d : Int) ≤ ((i / 2 : Nat) : Int)
                · rw [if_pos c6]
                  exact nx (by omega)
                · rw [if_neg c6]
                  exact lo (by omega)
              · rw [if_neg c5]
                exact nx (by omega)
          · rw [if_neg c3]
            exact skip (fun x => absurd x.2.2 c3)
      · rw [if_neg c1]
        exact skip (fun x => absurd x.1 c1))
    (by
      rintro ⟨a, b, k⟩ ⟨hk, hu⟩
      simp only at hk
      subst hk
      unfold X8_comes_b78
      simp (disch := first | omega | assumption) only [↓zb, ↓zckb, zu_j, zu_c, zu_eq, Int.toNat_natCast, ↓zo_14b, ↓zg_14_0b, ↓zg_14_1b, ↓zg_14_2b, ↓zg_14_3b, ↓zg_14_4b, ↓zg_14_5b, ↓zg_14_6b, ↓zg_14_7b, ↓zp_14_7b, ↓zg_14_8b, ↓zg_14_9b, ↓zg_14_10b, ↓zg_14_11b, ↓zg_14_12b, ↓zg_14_13b, ↓zg_14_14b, ↓zp_14_14b, ↓zg_14_15b, ↓zg_14_16b, ↓zg_14_17b, ↓zg_14_18b, ↓zg_14_19b, ↓zp_14_19b, ↓zg_14_20b, ↓zg_14_21b, ↓zg_14_22b, ↓zg_14_23b, ↓zg_14_24b, ↓zg_14_25b, ↓zp_14_25b, ↓zg_14_26b, ↓zp_14_26b, ↓zg_14_27b, ↓zp_14_27b, ↓zg_14_28b, ↓zp_14_28b, ↓zg_14_29b, ↓zp_14_29b, ↓za_15b, ↓zs_15b, ↓zl_15b, ↓za_16b, ↓zs_16b, ↓zl_16b, ↓za_17b, ↓zs_17b, ↓zl_17b, ↓za_18b, ↓zs_18b, ↓zl_18b, ↓za_19b, ↓zs_19b, ↓zl_19b, ↓za_20b, ↓zs_20b, ↓zl_20b, ↓za_21b, ↓zs_21b, ↓zl_21b, ↓za_22b, ↓zs_22b, ↓zl_22b, ↓za_23b, ↓zs_23b, ↓zl_23b, ↓za_24b, ↓zs_24b, ↓zl_24b, ↓za_25b, ↓zs_25b, ↓zl_25b, ↓za_26b, ↓zs_26b, ↓zl_26b, ↓za_27b, ↓zs_27b, ↓zl_27b, ↓za_28b, ↓zs_28b, ↓zl_28b, ↓za_29b, ↓zs_29b, ↓zl_29b, ↓za_30b, ↓zs_30b, ↓zl_30b, ↓za_31b, ↓zs_31b, ↓zl_31b, ↓za_32b, ↓zs_32b, ↓zl_32b, ↓za_33b, ↓zs_33b, ↓zl_33b, ↓za_34b, ↓zs_34b, ↓zl_34b, ↓za_35b, ↓zs_35b, ↓zl_35b, ↓za_36b, ↓zs_36b, ↓zl_36b, ↓za_37b, ↓zs_37b, ↓zl_37b, ↓za_38b, ↓zs_38b]
      rw [if_pos (by omega)]
      exact ⟨_, rfl, hu⟩) (-1, -1, 0) ⟨rfl, Or.inl ⟨rfl, fun p hp => absurd hp (by omega)⟩, Or.inl ⟨rfl, fun p hp => absurd hp (by omega)⟩⟩ (by omega)
  exact ⟨e.1, e.2, he, hq⟩
