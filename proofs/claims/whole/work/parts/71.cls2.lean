def zvn (x : Int64) : Prop := 0 ≤ x.toInt ∧ x.toInt < 10460353203
theorem c5n_lt : ∀ k n : Nat, c5n k n < 32 ^ k
  | 0, _ => by
    simp [c5n]
  | k + 1, n => by
    have := c5n_lt k (n / 27)
    rw [Nat.pow_succ]
    simp only [c5n]
    omega
theorem c5_inj {x y : Int64} (hx : zvn x) (hy : zvn y) (h : c5 x = c5 y) : x = y := by
  unfold zvn at hx hy
  have l1 := c5n_lt 7 x.toNatClampNeg
  have l2 := c5n_lt 7 y.toNatClampNeg
  have e : c5n 7 x.toNatClampNeg = c5n 7 y.toNatClampNeg := by
    have h1 := congrArg Int64.toInt h
    unfold c5 at h1
    rw [Int64.toInt_ofNat_of_lt (by omega), Int64.toInt_ofNat_of_lt (by omega)] at h1
    omega
  have e1 : x.toNatClampNeg = x.toInt.toNat := rfl
  have e2 : y.toNatClampNeg = y.toInt.toNat := rfl
  have := c5n_inj 7 _ _ (by omega) (by omega) e
  exact Int64.toInt_inj.1 (by omega)
theorem c5_0 : c5 0 = 0 := rfl
theorem zvn_0 : zvn 0 := by
  unfold zvn
  decide
theorem c5_ne {x : Int64} (hx : zvn x) : c5 x = 0 ↔ x = 0 := ⟨fun h => c5_inj hx zvn_0 (h.trans c5_0.symm), fun h => by rw [h]; rfl⟩
theorem k_hasName {A : zIT} {K : zLT} {I : zIT} {L : zLT} {F : zFT} {E : zET} {dyn : zH} {j : Nat} {n : Int} {a b t : Int64} {l w bk g gr : Int} (h : dyn[j]? = some (zStr n (c5 a) (c5 b) l w bk g gr)) (ha : zvn a) (hb : zvn b) (ht : zvn t) : zbl (X6_hasName (zM A K I L F E dyn) (some (j + 39)) (c5 t)) (t ≠ 0 ∧ (a = t ∨ b = t)) := by
  unfold X6_hasName
  by_cases c : t = 0
  · rw [if_pos (zcmp_0.2 ((c5_ne ht).2 c))]
    exact Or.inr ⟨rfl, fun y => y.1 c⟩
  · rw [if_neg (fun y => c ((c5_ne ht).1 (zcmp_0.1 y))), zgStr_1b h]
    by_cases c1 : a = t
    · rw [if_pos (zcmp_0.2 (by rw [c1]))]
      exact Or.inl ⟨rfl, c, Or.inl c1⟩
    · rw [if_neg (fun y => c1 (c5_inj ht ha (zcmp_0.1 y)).symm), zgStr_2b h]
      by_cases c2 : b = t
      · rw [if_pos (zcmp_0.2 (by rw [c2]))]
        exact Or.inl ⟨rfl, c, Or.inr c2⟩
      · rw [if_neg (fun y => c2 (c5_inj ht hb (zcmp_0.1 y)).symm)]
        exact Or.inr ⟨rfl, fun y => y.2.elim c1 c2⟩
theorem k_isInUse {A : zIT} {K : zLT} {I : zIT} {L : zLT} {F : zFT} {E : zET} {dyn : zH} {rs : Nat → Nat} {t : Int64} (hb : zB I) (hS : zRS I L F dyn rs) (hN : ∀ s : Nat, (s : Int) < I 14 7 → zvn (L 15 s) ∧ zvn (L 16 s)) (ht : zvn t) : zbl (X7_isInUse (zM A K I L F E dyn) (some 0) (c5 t)) (zus I L t (I 14 7).toNat) := by
  unfold zB at hb
  unfold X7_isInUse
  rw [zg_0_0b, zl_1b]
  obtain ⟨e, he, hq⟩ := zloop_up (body := X7_isInUse_b12 (c5 t) (some 1) 12 (zM A K I L F E dyn)) (fun i k => k = (i : Int) ∧ ¬ zus I L t (min i (I 14 7).toNat))
    (fun e => (e = .inr () ∧ zus I L t (I 14 7).toNat) ∨ (e = .inl () ∧ ¬ zus I L t (I 14 7).toNat)) 12 (by
    rintro i k hi ⟨hk, hu⟩
    subst hk
    unfold X7_isInUse_b12
    rw [if_neg (by omega), za_1b (by omega) (by omega), Int.toNat_natCast]
    rcases k_isStanding (A := A) (K := K) (E := E) hS i with ⟨e1, h⟩ | ⟨e1, h⟩
    · rw [e1, zb, if_neg (by omega), (hS.1 i h.1).1, zoStrb (hS.1 i h.1).2]
      rcases k_hasName (A := A) (K := K) (I := I) (L := L) (F := F) (E := E) (hS.1 i h.1).2 (hN i h.1).1 (hN i h.1).2 ht with ⟨e2, h2⟩ | ⟨e2, h2⟩
      · rw [e2, zb, if_neg (by omega)]
        exact Or.inr ⟨_, rfl, Or.inl ⟨rfl, i, by omega, h.2, h2⟩⟩
      · rw [e2, zb, if_pos rfl, zckb (by omega) (by omega)]
        refine Or.inl ⟨_, rfl, rfl, ?_⟩
        rw [show min (i + 1) (I 14 7).toNat = min i (I 14 7).toNat + 1 by omega]
        rintro hx
        rcases zex_s.1 hx with h3 | h3
        · exact hu h3
        · rw [show min i (I 14 7).toNat = i by omega] at h3
          exact h2 h3.2
    · rw [e1, zb, if_pos rfl, zckb (by omega) (by omega)]
      refine Or.inl ⟨_, rfl, rfl, ?_⟩
      by_cases c : (i : Int) < I 14 7
      · rw [show min (i + 1) (I 14 7).toNat = min i (I 14 7).toNat + 1 by omega]
        rintro hx
        rcases zex_s.1 hx with h3 | h3
        · exact hu h3
        · rw [show min i (I 14 7).toNat = i by omega] at h3
          exact h ⟨c, h3.1⟩
      · rw [show min (i + 1) (I 14 7).toNat = min i (I 14 7).toNat by omega]
        exact hu) (by
    rintro k ⟨hk, hu⟩
    subst hk
    rw [show min 12 (I 14 7).toNat = (I 14 7).toNat by omega] at hu
    unfold X7_isInUse_b12
    rw [if_pos (by omega)]
    exact ⟨_, rfl, Or.inr ⟨rfl, hu⟩⟩) 0 ⟨rfl, by rw [show min 0 (I 14 7).toNat = 0 by omega]; exact zex_0⟩ (by omega)
  rw [he, zb]
  rcases hq with ⟨rfl, h⟩ | ⟨rfl, h⟩
  · exact Or.inl ⟨rfl, h⟩
  · exact Or.inr ⟨rfl, h⟩
theorem k_doorAt {A : zIT} {K : zLT} {I : zIT} {L : zLT} {F : zFT} {E : zET} {dyn : zH} {rd : Nat → Nat} {fp : Nat → Option Nat} (hb : zB I) (hD : zRD I F dyn rd fp) (d : Int) : (X7_doorAt (zM A K I L F E dyn) (some 0) d = some (some (rd d.toNat + 39)) ∧ zdr I d) ∨ (X7_doorAt (zM A K I L F E dyn) (some 0) d = some none ∧ ¬ zdr I d) := by
  unfold zB at hb
  unfold X7_doorAt zdr
  by_cases c : d < 0
  · rw [if_pos c]
    exact Or.inr ⟨rfl, fun y => by omega⟩
  · rw [if_neg c, zg_0_1b, zl_2b]
    by_cases c2 : d < 40
    · rw [if_pos c2, zg_0_1b, za_2b (by omega) (by omega)]
      by_cases c3 : d < I 14 14
      · rw [(hD.1 d.toNat (by omega)).1]
        exact Or.inl ⟨rfl, by omega, c3⟩
      · rw [hD.2 d.toNat (by omega)]
        exact Or.inr ⟨rfl, fun y => c3 y.2⟩
    · rw [if_neg c2]
      exact Or.inr ⟨rfl, fun y => by omega⟩
theorem k_known {A : zIT} {K : zLT} {I : zIT} {L : zLT} {F : zFT} {E : zET} {dyn : zH} {rd : Nat → Nat} {fp : Nat → Option Nat} (hb : zB I) (hD : zRD I F dyn rd fp) (d : Int) : (X7_known (zM A K I L F E dyn) (some 0) d = some (.inl (some (rd d.toNat + 39))) ∧ zdr I d) ∨ (X7_known (zM A K I L F E dyn) (some 0) d = some (.inr 3) ∧ ¬ zdr I d) := by
  unfold X7_known
  rw [zo_0b]
  rcases k_doorAt (A := A) (K := K) (L := L) (E := E) hb hD d with ⟨e, h⟩ | ⟨e, h⟩
  · rw [e, zb, if_neg (fun y => by cases y)]
    exact Or.inl ⟨rfl, h⟩
  · rw [e, zb, if_pos rfl]
    exact Or.inr ⟨rfl, h⟩
