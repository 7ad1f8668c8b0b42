-- ===== letter, both =====
theorem zcmp_le {x : Int64} : zcmp x 0 ≤ 0 ↔ x.toInt ≤ 0 := by
  have h : (x > 0) ↔ 0 < x.toInt := Int64.lt_iff_toInt_lt
  unfold zcmp
  by_cases c : x > 0
  · rw [if_pos c]
    have := h.1 c
    omega
  · rw [if_neg c]
    have : ¬ 0 < x.toInt := fun y => c (h.2 y)
    split <;> omega
theorem zldiv_27 {x : Int64} {n : Nat} (h : x.toInt = n) : ∃ y, zldiv x 27 = some y ∧ y.toInt = (n / 27 : Nat) := by
  refine ⟨x / 27, ?_, ?_⟩
  · unfold zldiv
    rw [if_neg (by decide)]
  · rw [Int64.toInt_div_of_ne_right _ _ (by decide), h]
    have e : (27 : Int64).toInt = 27 := rfl
    rw [e]
    rfl
theorem zlrem_27 {x : Int64} {n : Nat} (h : x.toInt = n) (hn : n < 10460353203) : ∃ y, zlrem x 27 = some y ∧ y.toInt = (n % 27 : Nat) := by
  obtain ⟨y, e1, e2⟩ := zldiv_27 h
  refine ⟨x - y * 27, ?_, ?_⟩
  · unfold zlrem
    unfold zldiv at e1
    rw [if_neg (by decide)] at e1 ⊢
    injection e1 with e1
    rw [e1]
  · have e : (27 : Int64).toInt = 27 := rfl
    have em : (y * 27).toInt = y.toInt * 27 := by
      rw [zi_mul (by rw [e]; omega), e]
    rw [Int64.toInt_sub, em]
    rw [Int.bmod_eq_of_le (by omega) (by omega)]
    omega
theorem zdgn_pos {n i : Nat} (hn : n < 10460353203) (h : i < zdgn 7 n) : 1 ≤ n / 27 ^ i := by
  exact Nat.pos_of_ne_zero ((zdgn_spec 7 n hn).2.1 i h)
theorem zdig (n j : Nat) (hj : j < 7) : c5n 7 n / 32 ^ j % 32 = n / 27 ^ j % 27 := by
  have h := c5n_div j (7 - j) n
  rw [show 7 - j + j = 7 by omega] at h
  rw [h]
  obtain ⟨m, hm⟩ : ∃ m, 7 - j = m + 1 := ⟨6 - j, by omega⟩
  rw [hm]
  simp only [c5n]
  omega
theorem m_letter35 {A : zIT} {K : zLT} {I : zIT} {L : zLT} {F : zFT} {E : zET} {dyn : zH} {x : Int64} {k : Int} {t : Int} (h : zvn x) : X8_letter_j35 (some 14) k (t, (zM A K I L F E dyn)) x =
    if 0 ≤ k ∧ k < (zdgn 7 x.toNatClampNeg : Int) then some (96 + ((x.toNatClampNeg / 27 ^ ((zdgn 7 x.toNatClampNeg : Int) - 1 - k).toNat % 27 : Nat) : Int), zM A K (zu I 14 29 0) L F E dyn) else some (45, zM A K (zu I 14 29 2) L F E dyn) := by
  have hn := zvn_n h
  have hx := zi_n h.1
  obtain ⟨d1, d2, d3⟩ := zdgn_spec 7 x.toNatClampNeg hn
  obtain ⟨e, he, hq⟩ := zloop_up (body := X8_letter_b44 (some 14) k x (zM A K I L F E dyn)) (fun i s => s.1 = (i : Int) ∧ s.2.toInt = (x.toNatClampNeg / 27 ^ i : Nat)) (fun e => e = (zdgn 7 x.toNatClampNeg : Int)) (zdgn 7 x.toNatClampNeg) (by
    rintro i ⟨m, v⟩ hi ⟨h1, h2⟩
    simp only at h1 h2
    subst h1
    have hpos : (0 : Int) < ((x.toNatClampNeg / 27 ^ i : Nat) : Int) := Int.natCast_pos.2 (zdgn_pos hn hi)
    unfold X8_letter_b44
    simp only
    obtain ⟨y, y1, y2⟩ := zldiv_27 h2
    rw [if_neg (fun z => by have z2 := zcmp_le.1 z; rw [h2] at z2; exact absurd z2 (Int.not_le.2 hpos)), zckb (by omega) (by omega), y1, zb]
    refine Or.inl ⟨_, rfl, rfl, ?_⟩
    simp only
    rw [y2, Nat.div_div_eq_div_mul, ← Nat.pow_succ]) (by
    rintro ⟨m, v⟩ ⟨h1, h2⟩
    simp only at h1 h2
    subst h1
    unfold X8_letter_b44
    simp only
    rw [if_pos (zcmp_le.2 (by rw [h2, d3]; exact Int.le_refl _))]
    exact ⟨_, rfl, rfl⟩) (0, x) ⟨rfl, by simp only [Nat.pow_zero, Nat.div_one]; exact hx⟩ (by omega)
  subst hq
  unfold X8_letter_j35
  simp only
  rw [he, zb, zckb (by omega) (by omega)]
  by_cases c : 0 ≤ k ∧ k < (zdgn 7 x.toNatClampNeg : Int)
  · rw [zbl_1 (m_between k 0 _) (by omega), zb, zo_14b, m_nob1, if_pos rfl, if_pos c, zckb (by omega) (by omega)]
    obtain ⟨e2, he2, hq2⟩ := zloop_up (body := X8_letter_b91 k (zM A K (zu I 14 29 0) L F E dyn)) (fun i s => s.2 = (zdgn 7 x.toNatClampNeg : Int) - 1 - i ∧ s.1.toInt = (x.toNatClampNeg / 27 ^ i : Nat)) (fun e => e.toInt = (x.toNatClampNeg / 27 ^ ((zdgn 7 x.toNatClampNeg : Int) - 1 - k).toNat : Nat)) ((zdgn 7 x.toNatClampNeg : Int) - 1 - k).toNat (by
      rintro i ⟨v, m⟩ hi ⟨h1, h2⟩
      simp only at h1 h2
      unfold X8_letter_b91
      simp only
      obtain ⟨y, y1, y2⟩ := zldiv_27 h2
      rw [if_neg (by omega), y1, zb, zckb (by omega) (by omega)]
      refine Or.inl ⟨_, rfl, by simp only; omega, ?_⟩
      simp only
      rw [y2, Nat.div_div_eq_div_mul, ← Nat.pow_succ]) (by
      rintro ⟨v, m⟩ ⟨h1, h2⟩
      simp only at h1 h2
      unfold X8_letter_b91
      simp only
      rw [if_pos (by omega)]
      exact ⟨_, rfl, h2⟩) (x, (zdgn 7 x.toNatClampNeg : Int) - 1) ⟨by simp only; omega, by simp only [Nat.pow_zero, Nat.div_one]; exact hx⟩ (by omega)
    have hle : x.toNatClampNeg / 27 ^ ((zdgn 7 x.toNatClampNeg : Int) - 1 - k).toNat ≤ x.toNatClampNeg := Nat.div_le_self ..
    obtain ⟨y, y1, y2⟩ := zlrem_27 hq2 (by omega)
    have hm : x.toNatClampNeg / 27 ^ ((zdgn 7 x.toNatClampNeg : Int) - 1 - k).toNat % 27 < 27 := Nat.mod_lt _ (by omega)
    have e32 : (Int64.toInt32 y).toInt = y.toInt := by
      rw [Int64.toInt_toInt32]
      exact Int.bmod_eq_of_le (by omega) (by omega)
    rw [he2, zb, y1, zb, e32, y2, zckb (by omega) (by omega), zckb (by omega) (by omega)]
    unfold zchkC
    have e6 : (97 + ((x.toNatClampNeg / 27 ^ ((zdgn 7 x.toNatClampNeg : Int) - 1 - k).toNat % 27 : Nat) : Int) - 1) % 65536 = 96 + ((x.toNatClampNeg / 27 ^ ((zdgn 7 x.toNatClampNeg : Int) - 1 - k).toNat % 27 : Nat) : Int) := by omega
    rw [if_pos (by omega), zb, e6]
  · rw [zbl_0 (m_between k 0 _) (by omega), zb, zo_14b, m_nob0, if_neg (by omega), if_neg c]
theorem m_letter_1 {A : zIT} {K : zLT} {I : zIT} {L : zLT} {F : zFT} {E : zET} {dyn : zH} {s b k : Int} (hb : zB I) (h : ¬ zst I s) : X8_letter (zM A K I L F E dyn) (some 14) s b k = some (45, zM A K (zu I 14 29 1) L F E dyn) := by
  unfold X8_letter
  simp (disch := first | omega | assumption) only [zbl_0 (m_isStreet hb s) h, ↓zb, ↓zckb, zu_j, zu_c, zu_eq, Int.toNat_natCast, ↓zo_14b, ↓zg_14_0b, ↓zg_14_1b, ↓zg_14_2b, ↓zg_14_3b, ↓zg_14_4b, ↓zg_14_5b, ↓zg_14_6b, ↓zg_14_7b, ↓zp_14_7b, ↓zg_14_8b, ↓zg_14_9b, ↓zg_14_10b, ↓zg_14_11b, ↓zg_14_12b, ↓zg_14_13b, ↓zg_14_14b, ↓zp_14_14b, ↓zg_14_15b, ↓zg_14_16b, ↓zg_14_17b, ↓zg_14_18b, ↓zg_14_19b, ↓zp_14_19b, ↓zg_14_20b, ↓zg_14_21b, ↓zg_14_22b, ↓zg_14_23b, ↓zg_14_24b, ↓zg_14_25b, ↓zp_14_25b, ↓zg_14_26b, ↓zp_14_26b, ↓zg_14_27b, ↓zp_14_27b, ↓zg_14_28b, ↓zp_14_28b, ↓zg_14_29b, ↓zp_14_29b, ↓za_15b, ↓zs_15b, ↓zl_15b, ↓za_16b, ↓zs_16b, ↓zl_16b, ↓za_17b, ↓zs_17b, ↓zl_17b, ↓za_18b, ↓zs_18b, ↓zl_18b, ↓za_19b, ↓zs_19b, ↓zl_19b, ↓za_20b, ↓zs_20b, ↓zl_20b, ↓za_21b, ↓zs_21b, ↓zl_21b, ↓za_22b, ↓zs_22b, ↓zl_22b, ↓za_23b, ↓zs_23b, ↓zl_23b, ↓za_24b, ↓zs_24b, ↓zl_24b, ↓za_25b, ↓zs_25b, ↓zl_25b, ↓za_26b, ↓zs_26b, ↓zl_26b, ↓za_27b, ↓zs_27b, ↓zl_27b, ↓za_28b, ↓zs_28b, ↓zl_28b, ↓za_29b, ↓zs_29b, ↓zl_29b, ↓za_30b, ↓zs_30b, ↓zl_30b, ↓za_31b, ↓zs_31b, ↓zl_31b, ↓za_32b, ↓zs_32b, ↓zl_32b, ↓za_33b, ↓zs_33b, ↓zl_33b, ↓za_34b, ↓zs_34b, ↓zl_34b, ↓za_35b, ↓zs_35b, ↓zl_35b, ↓za_36b, ↓zs_36b, ↓zl_36b, ↓za_37b, ↓zs_37b, ↓zl_37b, ↓za_38b, ↓zs_38b, ↓reduceIte, Nat.reduceEqDiff, zne10, eq_self, ↓m_nob1, ↓m_nob0, zu_zu]
theorem m_letter_0 {A : zIT} {K : zLT} {I : zIT} {L : zLT} {F : zFT} {E : zET} {dyn : zH} {s : Nat} {b k : Int} {x : Int64} (hb : zB I) (h : zst I s) (hx : x = if b = 0 then L 15 s else L 16 s) (hv : zvn x) : X8_letter (zM A K I L F E dyn) (some 14) (s : Int) b k =
    if 0 ≤ k ∧ k < (zdgn 7 x.toNatClampNeg : Int) then some (96 + ((x.toNatClampNeg / 27 ^ ((zdgn 7 x.toNatClampNeg : Int) - 1 - k).toNat % 27 : Nat) : Int), zM A K (zu I 14 29 0) L F E dyn) else some (45, zM A K (zu I 14 29 2) L F E dyn) := by
  have h12 := zst_12 hb h
  have ez : ∀ t : Int, zu (zu I 14 29 0) 14 29 t = zu I 14 29 t := fun t => zu_zu
  have key := m_letter35 (A := A) (K := K) (I := zu I 14 29 0) (L := L) (F := F) (E := E) (dyn := dyn) (k := k) (t := 0) hv
  rw [ez, ez] at key
  unfold X8_letter
  rw [zo_14b, zbl_1 (m_isStreet hb s) h, zb, zo_14b, m_nob1]
  simp only
  rw [if_pos trivial]
  by_cases c : b = 0
  · rw [if_pos c] at hx ⊢
    rw [zg_14_0b, za_15b (by omega) (by omega), Int.toNat_natCast, ← hx]
    exact key
  · rw [if_neg c] at hx ⊢
    rw [zg_14_1b, za_16b (by omega) (by omega), Int.toNat_natCast, ← hx]
    exact key
theorem k_letter24 {A : zIT} {K : zLT} {I : zIT} {L : zLT} {F : zFT} {E : zET} {dyn : zH} {x : Int64} {k : Int} (h : zvn x) : X7_letter_j24 (zM A K I L F E dyn) k (c5 x) =
    if 0 ≤ k ∧ k < (zdgn 7 x.toNatClampNeg : Int) then some (.inl (96 + ((x.toNatClampNeg / 27 ^ ((zdgn 7 x.toNatClampNeg : Int) - 1 - k).toNat % 27 : Nat) : Int))) else some (.inr 4) := by
  have hn := zvn_n h
  obtain ⟨d1, d2, d3⟩ := zdgn_spec 7 x.toNatClampNeg hn
  unfold X7_letter_j24
  by_cases c0 : k < 0
  · rw [if_pos c0, if_neg (by omega)]
  · rw [if_neg c0, k_lengthOf h, zb]
    by_cases c1 : k < (zdgn 7 x.toNatClampNeg : Int)
    · rw [if_pos c1, if_pos ⟨by omega, c1⟩]
      obtain ⟨j, hj⟩ : ∃ j : Nat, (zdgn 7 x.toNatClampNeg : Int) - 1 - k = (j : Int) := ⟨((zdgn 7 x.toNatClampNeg : Int) - 1 - k).toNat, by omega⟩
      have hj7 : j < 7 := by omega
      have hd := zdig x.toNatClampNeg j hj7
      have hlt := c5n_lt 7 x.toNatClampNeg
      have hle : c5n 7 x.toNatClampNeg / 32 ^ j ≤ c5n 7 x.toNatClampNeg := Nat.div_le_self ..
      have e32 : ((Int64.toInt32 (c5 x >>> ((Int32.ofInt ((j : Int) * 5)).toInt64 &&& 63))).toInt) % 32 = ((x.toNatClampNeg / 27 ^ j % 27 : Nat) : Int) := by
        rw [Int64.toInt_toInt32, zshr5 hj7]
        have h1 : ∀ y : Int, (y.bmod (2 ^ 32)) % 32 = y % 32 := by
          intro y
          show (y.bmod 4294967296) % 32 = _
          have h1 := Int.bmod_emod (x := y) (m := 4294967296)
          omega
        rw [h1, ← hd]
        rfl
      have hm : x.toNatClampNeg / 27 ^ j % 27 < 27 := Nat.mod_lt _ (by omega)
      unfold X2_letterOf
      rw [k_lengthOf h, zb, zckb (by omega) (by omega), zckb (by omega) (by omega), hj, zckb (by omega) (by omega)]
      have ea : ∀ y : Int, zand y 31 = some (y % 32) := fun y => rfl
      rw [ea, zb, e32, zckb (by omega) (by omega)]
      unfold zchkC
      rw [Int.toNat_natCast]
      have e6 : (96 + ((x.toNatClampNeg / 27 ^ j % 27 : Nat) : Int)) % 65536 = 96 + ((x.toNatClampNeg / 27 ^ j % 27 : Nat) : Int) := by omega
      rw [e6, if_pos (by omega), zb, zb, if_pos (by omega), zb]
    · rw [if_neg c1, if_neg (fun y => c1 y.2)]
theorem k_letter_1 {A : zIT} {K : zLT} {I : zIT} {L : zLT} {F : zFT} {E : zET} {dyn : zH} {rs : Nat → Nat} {s b k : Int} (hb : zB I) (hS : zRS I L F dyn rs) (h : ¬ zst I s) : X7_letter (zM A K I L F E dyn) (some 0) s b k = some (.inr 3) := by
  unfold X7_letter
  rw [zo_0b]
  rcases k_standing (A := A) (K := K) (E := E) hb hS s with ⟨_, hx⟩ | ⟨e, _⟩
  · exact absurd hx h
  · rw [e, zb]
theorem k_letter_0 {A : zIT} {K : zLT} {I : zIT} {L : zLT} {F : zFT} {E : zET} {dyn : zH} {rs : Nat → Nat} {s : Nat} {b k : Int} {x : Int64} (hb : zB I) (hS : zRS I L F dyn rs) (h : zst I s) (hx : x = if b = 0 then L 15 s else L 16 s) (hv : zvn x) : X7_letter (zM A K I L F E dyn) (some 0) (s : Int) b k =
    if 0 ≤ k ∧ k < (zdgn 7 x.toNatClampNeg : Int) then some (.inl (96 + ((x.toNatClampNeg / 27 ^ ((zdgn 7 x.toNatClampNeg : Int) - 1 - k).toNat % 27 : Nat) : Int))) else some (.inr 4) := by
  have hsc := (hS.1 s h.2.1).2
  unfold X7_letter
  rw [zo_0b]
  rcases k_standing (A := A) (K := K) (E := E) hb hS s with ⟨e, _⟩ | ⟨_, hy⟩
  · rw [e, zb]
    simp only
    rw [Int.toNat_natCast]
    by_cases c : b = 0
    · rw [if_pos c] at hx ⊢
      rw [zgStr_1b hsc, ← hx]
      exact k_letter24 hv
    · rw [if_neg c] at hx ⊢
      rw [zgStr_2b hsc, ← hx]
      exact k_letter24 hv
  · exact absurd h hy
