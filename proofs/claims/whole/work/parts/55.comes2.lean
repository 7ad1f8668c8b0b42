def zfn (G : Int → Prop) (par low r : Int) : Prop := 1 ≤ r ∧ r % 2 = par ∧ low < r ∧ ¬ G r ∧ ∀ j, 1 ≤ j → j % 2 = par → low < j → j < r → G j
theorem m_c260 {A : zIT} {K : zLT} {I : zIT} {L : zLT} {F : zFT} {E : zET} {dyn : zH} {s : Nat} {a b low n0 B : Int} (hb : zB I) (h0 : n0 = 1 ∨ n0 = 2) (hlow : 0 ≤ low ∧ low ≤ B) (hB : 0 ≤ B ∧ B ≤ 90000) (hP : ∀ p, p < 80 → I 22 p = s → I 25 p ≤ 10 * B + 9) : ∃ r, zloop (X8_comes_b260 (some 14) (s : Int) a b low (zM A K I L F E dyn)) zN n0 = some r ∧ zfn (zng2 I s (2 * I 14 14).toNat) (n0 % 2) low r ∧ r ≤ B + 2 := by
  refine zloop_inv (body := X8_comes_b260 (some 14) (s : Int) a b low (zM A K I L F E dyn)) (fun i k => (i : Int) = B + 3 - k ∧ 1 ≤ k ∧ k ≤ B + 2 ∧ k % 2 = n0 % 2 ∧ ∀ j, 1 ≤ j → j % 2 = n0 % 2 → low < j → j < k → zng2 I s (2 * I 14 14).toNat j)
    (fun r => zfn (zng2 I s (2 * I 14 14).toNat) (n0 % 2) low r ∧ r ≤ B + 2) ?_ zN (B + 3 - n0).toNat n0 ⟨by omega, by omega, by omega, rfl, fun j h1 h2 h3 h4 => by omega⟩ (by unfold zN; omega)
  rintro i k ⟨h1, h2, h3, h4, h5⟩
  unfold X8_comes_b260
  by_cases c : k ≤ low
  · rw [if_pos c, zck (by omega) (by omega), zb]
    exact Or.inl ⟨i - 2, k + 2, by omega, rfl, by omega, by omega, by omega, by omega, fun j a1 a2 a3 a4 => by omega⟩
  · rw [if_neg c, zo_14, zb]
    rcases m_isNumberGiven (A := A) (K := K) (L := L) (F := F) (E := E) (dyn := dyn) hb s k with ⟨e, h⟩ | ⟨e, h⟩
    · rw [e, zb, if_neg (by omega), zck (by omega) (by omega), zb]
      obtain ⟨p, hp, hq1, hq2, hq3⟩ := h
      unfold zB at hb
      have := hP p (by omega) hq1
      refine Or.inl ⟨i - 2, k + 2, by omega, rfl, by omega, by omega, by omega, by omega, fun j a1 a2 a3 a4 => ?_⟩
      by_cases hj : j < k
      · exact h5 j a1 a2 a3 hj
      · rw [show j = k by omega]
        exact ⟨p, hp, hq1, hq2, hq3⟩
    · rw [e, zb, if_pos rfl]
      exact Or.inr ⟨_, rfl, ⟨h2, h4, by omega, h, h5⟩, h3⟩
def zlw (I : zIT) (a : Int) : Int := if a = -1 then 0 else I 25 a.toNat / 10
def zcw (I : zIT) (s n : Nat) (w key r : Int) : Prop := ∃ a b num : Int, zlo I s w key n a ∧ znx I s w key n b ∧ zfn (zng2 I s n) (if w = 108 then 1 else 0) (zlw I a) num ∧
  (((b = -1 ∨ num < I 25 b.toNat / 10) ∧ r = 10 * num) ∨ (b ≠ -1 ∧ ¬ num < I 25 b.toNat / 10 ∧ zltr (zgv I s n) (if a = -1 then I 25 b.toNat / 10 else I 25 a.toNat / 10) 1 r))
def zcm (I : zIT) (s d : Nat) (m w r : Int) : Prop :=
  (I 18 s = 109 ∧ zltr (zgv I s (2 * I 14 14).toNat) (2 * (zfr I s m / 10) + (if w = 108 then 1 else 2)) 0 r) ∨ (I 18 s = 121 ∧ r = 10 * (I 21 s + 1)) ∨
  (I 18 s ≠ 109 ∧ I 18 s ≠ 121 ∧ zcw I s (2 * I 14 14).toNat w (zfr I s m * 64 + d) r)
theorem m_comes {A : zIT} {K : zLT} {I : zIT} {L : zLT} {F : zFT} {E : zET} {dyn : zH} {s d : Nat} {m w B : Int} (hb : zB I) (hs : s < 12) (hd : d ≤ 40) (hl : 0 ≤ I 17 s ∧ I 17 s ≤ 999) (hm : 0 ≤ m ∧ m ≤ I 17 s) (hB : B ≤ 90000) (hg : 0 ≤ I 21 s ∧ I 21 s ≤ B) (hP : ∀ p, p < 80 → I 22 p = s → 0 ≤ I 23 p ∧ I 23 p ≤ 999) (hC : ∀ p, p < 80 → I 22 p = s → I 25 p ≤ 10 * B + 9) : ∃ r, X8_comes (zM A K I L F E dyn) (some 14) (s : Int) (d : Int) m w = some r ∧ zcm I s d m w r ∧ r ≤ 10 * (B + 202) + 9 ∧ -1 ≤ r := by
  unfold X8_comes
  have hf : 0 ≤ zfr I s m ∧ zfr I s m ≤ 999 := by
    unfold zfr
    split <;> omega
  rw [zo_14, zb, m_from hs hl (by omega), zb]
  simp (disch := first | omega | assumption) only [↓zb, ↓zckb, zu_j, zu_c, zu_eq, Int.toNat_natCast, ↓zo_14b, ↓zg_14_0b, ↓zg_14_1b, ↓zg_14_2b, ↓zg_14_3b, ↓zg_14_4b, ↓zg_14_5b, ↓zg_14_6b, ↓zg_14_7b, ↓zp_14_7b, ↓zg_14_8b, ↓zg_14_9b, ↓zg_14_10b, ↓zg_14_11b, ↓zg_14_12b, ↓zg_14_13b, ↓zg_14_14b, ↓zp_14_14b, ↓zg_14_15b, ↓zg_14_16b, ↓zg_14_17b, ↓zg_14_18b, ↓zg_14_19b, ↓zp_14_19b, ↓zg_14_20b, ↓zg_14_21b, ↓zg_14_22b, ↓zg_14_23b, ↓zg_14_24b, ↓zg_14_25b, ↓zp_14_25b, ↓zg_14_26b, ↓zp_14_26b, ↓zg_14_27b, ↓zp_14_27b, ↓zg_14_28b, ↓zp_14_28b, ↓zg_14_29b, ↓zp_14_29b, ↓za_15b, ↓zs_15b, ↓zl_15b, ↓za_16b, ↓zs_16b, ↓zl_16b, ↓za_17b, ↓zs_17b, ↓zl_17b, ↓za_18b, ↓zs_18b, ↓zl_18b, ↓za_19b, ↓zs_19b, ↓zl_19b, ↓za_20b, ↓zs_20b, ↓zl_20b, ↓za_21b, ↓zs_21b, ↓zl_21b, ↓za_22b, ↓zs_22b, ↓zl_22b, ↓za_23b, ↓zs_23b, ↓zl_23b, ↓za_24b, ↓zs_24b, ↓zl_24b, ↓za_25b, ↓zs_25b, ↓zl_25b, ↓za_26b, ↓zs_26b, ↓zl_26b, ↓za_27b, ↓zs_27b, ↓zl_27b, ↓za_28b, ↓zs_28b, ↓zl_28b, ↓za_29b, ↓zs_29b, ↓zl_29b, ↓za_30b, ↓zs_30b, ↓zl_30b, ↓za_31b, ↓zs_31b, ↓zl_31b, ↓za_32b, ↓zs_32b, ↓zl_32b, ↓za_33b, ↓zs_33b, ↓zl_33b, ↓za_34b, ↓zs_34b, ↓zl_34b, ↓za_35b, ↓zs_35b, ↓zl_35b, ↓za_36b, ↓zs_36b, ↓zl_36b, ↓za_37b, ↓zs_37b, ↓zl_37b, ↓za_38b, ↓zs_38b]
  unfold zcm
  have lt : ∀ n least r, 0 ≤ n → n ≤ B + 201 → 0 ≤ least → zltr (zgv I s (2 * I 14 14).toNat) n least r → r ≤ 10 * (B + 202) + 9 ∧ -1 ≤ r := by
    rintro n least r h0 h1 h2 (⟨k, a1, a2, _, _, a3⟩ | ⟨a3, _⟩)
    · omega
    · omega
  by_cases c1 : I 18 s = 109
  · rw [if_pos c1, zdvb (by omega) (by omega), zckb (by omega) (by omega)]
    by_cases c2 : w = 108
    · rw [if_pos c2, if_pos c2, zckb (by omega) (by omega)]
      obtain ⟨r, e, h⟩ := m_lettered (A := A) (K := K) (L := L) (F := F) (E := E) (dyn := dyn) hb s (2 * (zfr I s m / 10) + 1) 0 (by omega) (by omega)
      rw [e]
      exact ⟨r, rfl, Or.inl ⟨c1, h⟩, lt _ _ _ (by omega) (by omega) (by omega) h⟩
    · rw [if_neg c2, if_neg c2, zckb (by omega) (by omega)]
      obtain ⟨r, e, h⟩ := m_lettered (A := A) (K := K) (L := L) (F := F) (E := E) (dyn := dyn) hb s (2 * (zfr I s m / 10) + 2) 0 (by omega) (by omega)
      rw [e]
      exact ⟨r, rfl, Or.inl ⟨c1, h⟩, lt _ _ _ (by omega) (by omega) (by omega) h⟩
  · rw [if_neg c1]
    by_cases c2 : I 18 s = 121
    · rw [if_pos c2]
      exact ⟨_, rfl, Or.inr (Or.inl ⟨c2, rfl⟩), by omega⟩
    · rw [if_neg c2]
      obtain ⟨a, b, e, ha, hbb⟩ := m_c78 (A := A) (K := K) (L := L) (F := F) (E := E) (dyn := dyn) (m := m) (w := w) hb hs hd hl hP
      rw [e, zb]
      have hb' := hb
      unfold zB at hb'
      have hlw : 0 ≤ zlw I a ∧ zlw I a ≤ B := by
        unfold zlw
        rcases ha with ⟨h1, _⟩ | ⟨q, h1, h2, h3, _⟩
        · rw [if_pos h1]
          omega
        · rw [if_neg (by omega), h1, Int.toNat_natCast]
          have := hC q (by omega) h3.1
          have := h3.2.1
          omega
      have tail : ∀ (j37 : Int), j37 = zlw I a → ∃ r, X8_comes_j244 (zM A K I L F E dyn) (some 14) (s : Int) w (a, b) j37 = some r ∧ zcw I s (2 * I 14 14).toNat w (zfr I s m * 64 + d) r ∧ r ≤ 10 * (B + 202) + 9 ∧ -1 ≤ r := by
        intro j37 hj
        have t2 : ∀ n0 : Int, (n0 = 1 ∨ n0 = 2) → n0 % 2 = (if w = 108 then 1 else 0) → ∃ r, X8_comes_j258 (zM A K I L F E dyn) (some 14) (s : Int) (a, b) j37 n0 = some r ∧ zcw I s (2 * I 14 14).toNat w (zfr I s m * 64 + d) r ∧ r ≤ 10 * (B + 202) + 9 ∧ -1 ≤ r := by
          intro n0 h0 hpar
          unfold X8_comes_j258
          obtain ⟨num, e1, hn, hn2⟩ := m_c260 (A := A) (K := K) (L := L) (F := F) (E := E) (dyn := dyn) (a := a) (b := b) (low := j37) (n0 := n0) (B := B) hb h0 (by omega) (by omega) hC
          rw [hpar, hj] at hn
          have hn1 := hn.1
          simp only
          rw [e1, zb]
          by_cases c3 : b = -1
          · rw [if_pos c3, zckb (by omega) (by omega)]
            exact ⟨_, rfl, ⟨a, b, num, ha, hbb, hn, Or.inl ⟨Or.inl c3, rfl⟩⟩, by omega⟩
          · rw [if_neg c3]
            obtain ⟨q, hq, hqn, hqc⟩ : ∃ q : Nat, b = q ∧ q < (2 * I 14 14).toNat ∧ zcd I s w q := by
              rcases hbb with ⟨h1, _⟩ | ⟨q, h1, h2, h3, _⟩
              · exact absurd h1 c3
              · exact ⟨q, h1, h2, h3⟩
            have hq0 := hqc.2.1
            have hq1 := hC q (by omega) hqc.1
            subst hq
            simp (disch := first | omega | assumption) only [↓zb, ↓zckb, zu_j, zu_c, zu_eq, Int.toNat_natCast, ↓zo_14b, ↓zg_14_0b, ↓zg_14_1b, ↓zg_14_2b, ↓zg_14_3b, ↓zg_14_4b, ↓zg_14_5b, ↓zg_14_6b, ↓zg_14_7b, ↓zp_14_7b, ↓zg_14_8b, ↓zg_14_9b, ↓zg_14_10b, ↓zg_14_11b, ↓zg_14_12b, ↓zg_14_13b, ↓zg_14_14b, ↓zp_14_14b, ↓zg_14_15b, ↓zg_14_16b, ↓zg_14_17b, ↓zg_14_18b, ↓zg_14_19b, ↓zp_14_19b, ↓zg_14_20b, ↓zg_14_21b, ↓zg_14_22b, ↓zg_14_23b, ↓zg_14_24b, ↓zg_14_25b, ↓zp_14_25b, ↓zg_14_26b, ↓zp_14_26b, ↓zg_14_27b, ↓zp_14_27b, ↓zg_14_28b, ↓zp_14_28b, ↓zg_14_29b, ↓zp_14_29b, ↓za_15b, ↓zs_15b, ↓zl_15b, ↓za_16b, ↓zs_16b, ↓zl_16b, ↓za_17b, ↓zs_17b, ↓zl_17b, ↓za_18b, ↓zs_18b, ↓zl_18b, ↓za_19b, ↓zs_19b, ↓zl_19b, ↓za_20b, ↓zs_20b, ↓zl_20b, ↓za_21b, ↓zs_21b, ↓zl_21b, ↓za_22b, ↓zs_22b, ↓zl_22b, ↓za_23b, ↓zs_23b, ↓zl_23b, ↓za_24b, ↓zs_24b, ↓zl_24b, ↓za_25b, ↓zs_25b, ↓zl_25b, ↓za_26b, ↓zs_26b, ↓zl_26b, ↓za_27b, ↓zs_27b, ↓zl_27b, ↓za_28b, ↓zs_28b, ↓zl_28b, ↓za_29b, ↓zs_29b, ↓zl_29b, ↓za_30b, ↓zs_30b, ↓zl_30b, ↓za_31b, ↓zs_31b, ↓zl_31b, ↓za_32b, ↓zs_32b, ↓zl_32b, ↓za_33b, ↓zs_33b, ↓zl_33b, ↓za_34b, ↓zs_34b, ↓zl_34b, ↓za_35b, ↓zs_35b, ↓zl_35b, ↓za_36b, ↓zs_36b, ↓zl_36b, ↓za_37b, ↓zs_37b, ↓zl_37b, ↓za_38b, ↓zs_38b]
            rw [zdvb (by omega) (by omega)]
            by_cases c4 : I 25 q / 10 ≤ num
            · rw [if_pos c4]
              by_cases c5 : a = -1
              · rw [if_pos c5, zdvb (by omega) (by omega)]
                obtain ⟨r, e, h⟩ := m_lettered (A := A) (K := K) (L := L) (F := F) (E := E) (dyn := dyn) hb s (I 25 q / 10) 1 (by omega) (by omega)
                rw [e]
                refine ⟨r, rfl, ⟨a, q, num, ha, hbb, hn, Or.inr ⟨c3, by rw [Int.toNat_natCast]; omega, ?_⟩⟩, lt _ _ _ (by omega) (by omega) (by omega) h⟩
                rw [if_pos c5, Int.toNat_natCast]
                exact h
              · rw [if_neg c5]
                obtain ⟨r, e, h⟩ := m_lettered (A := A) (K := K) (L := L) (F := F) (E := E) (dyn := dyn) hb s j37 1 (by omega) (by omega)
                rw [e]
                refine ⟨r, rfl, ⟨a, q, num, ha, hbb, hn, Or.inr ⟨c3, by rw [Int.toNat_natCast]; omega, ?_⟩⟩, lt _ _ _ (by omega) (by omega) (by omega) h⟩
                rw [if_neg c5]
                rw [hj] at h
                unfold zlw at h
                rw [if_neg c5] at h
                exact h
            · rw [if_neg c4]
              exact ⟨_, rfl, ⟨a, q, num, ha, hbb, hn, Or.inl ⟨Or.inr (by rw [Int.toNat_natCast]; omega), rfl⟩⟩, by omega⟩
        unfold X8_comes_j244
        by_cases c3 : w = 108
        · rw [if_pos c3]
          exact t2 1 (Or.inl rfl) (by rw [if_pos c3]; rfl)
        · rw [if_neg c3]
          exact t2 2 (Or.inr rfl) (by rw [if_neg c3]; rfl)
      have fin : ∃ r, (if (a, b).1 = -1 then X8_comes_j244 (zM A K I L F E dyn) (some 14) (s : Int) w (a, b) 0 else X8_comes_j244 (zM A K I L F E dyn) (some 14) (s : Int) w (a, b) (I 25 a.toNat / 10)) = some r ∧ zcw I s (2 * I 14 14).toNat w (zfr I s m * 64 + d) r ∧ r ≤ 10 * (B + 202) + 9 ∧ -1 ≤ r := by
        by_cases c3 : a = -1
        · rw [if_pos c3]
          exact tail 0 (by unfold zlw; rw [if_pos c3])
        · rw [if_neg c3]
          exact tail _ (by unfold zlw; rw [if_neg c3])
      obtain ⟨r, e1, h1, h2⟩ := fin
      refine ⟨r, ?_, Or.inr (Or.inr ⟨c1, c2, h1⟩), h2⟩
      rw [← e1]
      by_cases c3 : a = -1
      · rw [if_pos c3, if_pos c3]
      · rw [if_neg c3, if_neg c3]
        obtain ⟨q, hq, hqn, hqc⟩ : ∃ q : Nat, a = q ∧ q < (2 * I 14 14).toNat ∧ zcd I s w q := by
          rcases ha with ⟨h1, _⟩ | ⟨q, h1, h2, h3, _⟩
          · exact absurd h1 c3
          · exact ⟨q, h1, h2, h3⟩
        subst hq
        have := hqc.2.1
        simp (disch := first | omega | assumption) only [↓zb, ↓zckb, zu_j, zu_c, zu_eq, Int.toNat_natCast, ↓zo_14b, ↓zg_14_0b, ↓zg_14_1b, ↓zg_14_2b, ↓zg_14_3b, ↓zg_14_4b, ↓zg_14_5b, ↓zg_14_6b, ↓zg_14_7b, ↓zp_14_7b, ↓zg_14_8b, ↓zg_14_9b, ↓zg_14_10b, ↓zg_14_11b, ↓zg_14_12b, ↓zg_14_13b, ↓zg_14_14b, ↓zp_14_14b, ↓zg_14_15b, ↓zg_14_16b, ↓zg_14_17b, ↓zg_14_18b, ↓zg_14_19b, ↓zp_14_19b, ↓zg_14_20b, ↓zg_14_21b, ↓zg_14_22b, ↓zg_14_23b, ↓zg_14_24b, ↓zg_14_25b, ↓zp_14_25b, ↓zg_14_26b, ↓zp_14_26b, ↓zg_14_27b, ↓zp_14_27b, ↓zg_14_28b, ↓zp_14_28b, ↓zg_14_29b, ↓zp_14_29b, ↓za_15b, ↓zs_15b, ↓zl_15b, ↓za_16b, ↓zs_16b, ↓zl_16b, ↓za_17b, ↓zs_17b, ↓zl_17b, ↓za_18b, ↓zs_18b, ↓zl_18b, ↓za_19b, ↓zs_19b, ↓zl_19b, ↓za_20b, ↓zs_20b, ↓zl_20b, ↓za_21b, ↓zs_21b, ↓zl_21b, ↓za_22b, ↓zs_22b, ↓zl_22b, ↓za_23b, ↓zs_23b, ↓zl_23b, ↓za_24b, ↓zs_24b, ↓zl_24b, ↓za_25b, ↓zs_25b, ↓zl_25b, ↓za_26b, ↓zs_26b, ↓zl_26b, ↓za_27b, ↓zs_27b, ↓zl_27b, ↓za_28b, ↓zs_28b, ↓zl_28b, ↓za_29b, ↓zs_29b, ↓zl_29b, ↓za_30b, ↓zs_30b, ↓zl_30b, ↓za_31b, ↓zs_31b, ↓zl_31b, ↓za_32b, ↓zs_32b, ↓zl_32b, ↓za_33b, ↓zs_33b, ↓zl_33b, ↓za_34b, ↓zs_34b, ↓zl_34b, ↓za_35b, ↓zs_35b, ↓zl_35b, ↓za_36b, ↓zs_36b, ↓zl_36b, ↓za_37b, ↓zs_37b, ↓zl_37b, ↓za_38b, ↓zs_38b]
        rw [zdvb (by omega) (by omega)]
