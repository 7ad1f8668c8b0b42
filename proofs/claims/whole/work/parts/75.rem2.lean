theorem zpf_at {I : zIT} {dyn : zH} {rs : Nat → Nat} {fp : Nat → Option Nat} {d s : Nat} (hP : zRP I dyn rs fp) (hd : d < 40) : (zpf I fp d s = none ∧ zpo I d s = -1) ∨
    (zpo I d s ≠ -1 ∧ ∃ r, zpf I fp d s = some (r + 39) ∧ dyn[r]? = some (zPlc (d : Int) (some (rs s + 39)) (I 23 (zpo I d s).toNat) (if I 24 (zpo I d s).toNat = 108 then 1 else 0) (I 25 (zpo I d s).toNat))) := by
  have hn : ∀ p : Nat, p < 80 → I 22 p = s → ∃ r, fp p = some (r + 39) ∧ dyn[r]? = some (zPlc ((p / 2 : Nat) : Int) (some (rs s + 39)) (I 23 p) (if I 24 p = 108 then 1 else 0) (I 25 p)) := by
    intro p hp e
    rcases hP p hp with ⟨h1, h2⟩ | ⟨h1, h2, r, h3, h4⟩
    · omega
    · rw [e, Int.toNat_natCast] at h4
      exact ⟨r, h3, h4⟩
  unfold zpf zpo
  by_cases c : I 22 (2 * d) = s
  · rw [if_pos c, if_pos c, zn1]
    obtain ⟨r, h1, h2⟩ := hn (2 * d) (by omega) c
    rw [show 2 * d / 2 = d by omega] at h2
    exact Or.inr ⟨by omega, r, h1, h2⟩
  · rw [if_neg c, if_neg c]
    by_cases c2 : I 22 (2 * d + 1) = s
    · rw [if_pos c2, if_pos c2, zn2]
      obtain ⟨r, h1, h2⟩ := hn (2 * d + 1) (by omega) c2
      rw [show (2 * d + 1) / 2 = d by omega] at h2
      exact Or.inr ⟨by omega, r, h1, h2⟩
    · rw [if_neg c2, if_neg c2]
      exact Or.inl ⟨rfl, rfl⟩
theorem zngo_ext {I : zIT} {s : Nat} {told : Int64} {m : Nat} (hE : ∀ p : Nat, 2 * (m : Int) ≤ (p : Int) → I 22 p = -1) : ∀ k, zngo I s told (m + k) = zngo I s told m
  | 0 => rfl
  | k + 1 => by
    show zngo I s told (m + k) ++ (if zpo I (m + k) s = -1 then [] else [(told, I 25 (zpo I (m + k) s).toNat, ((m + k : Nat) : Int))]) = _
    have e : zpo I (m + k) s = -1 := by
      unfold zpo
      rw [hE (2 * (m + k)) (by omega), hE (2 * (m + k) + 1) (by omega), if_neg (by omega), if_neg (by omega)]
    rw [if_pos e, List.append_nil, zngo_ext hE k]
theorem k_rememberAll {A : zIT} {K : zLT} {I : zIT} {L : zLT} {F : zFT} {E : zET} {dyn : zH} {rs rd : Nat → Nat} {fp : Nat → Option Nat} {s : Nat} {told : Int64} {x : zIT × zLT} (hb : zB I) (hS : zRS I L F dyn rs) (hD : zRD I F dyn rd fp) (hP : zRP I dyn rs fp) (hE : ∀ p : Nat, 2 * I 14 14 ≤ (p : Int) → I 22 p = -1) (hs : (s : Int) < I 14 7)
    (hR : zRO2 A K x) (hv : zvn told) (hd : A 0 8 = x.1 14 28) : ∃ A' K', X7_rememberAll (zM A K I L F E dyn) (some 0) (some (rs s + 39)) (c5 told) = some (zM A' K' I L F E dyn) ∧ zRO2 A' K' (zlg (zngo I s told (I 14 14).toNat) x) ∧ (∀ c, c ≠ 3 → c ≠ 5 → c ≠ 6 → c ≠ 7 → A' c = A c) ∧ (∀ c, c ≠ 4 → K' c = K c) := by
  have hb' := hb
  unfold zB at hb'
  obtain ⟨e, he, hq⟩ := zloop_up (body := X7_rememberAll_b14 (some 0) (some (rs s + 39)) (c5 told) (some 2) 40)
    (fun i t => t.1 = (i : Int) ∧ ∃ A' K', t.2 = zM A' K' I L F E dyn ∧ zRO2 A' K' (zlg (zngo I s told i) x) ∧ (∀ c, c ≠ 3 → c ≠ 5 → c ≠ 6 → c ≠ 7 → A' c = A c) ∧ (∀ c, c ≠ 4 → K' c = K c))
    (fun e => ∃ A' K', e = zM A' K' I L F E dyn ∧ zRO2 A' K' (zlg (zngo I s told 40) x) ∧ (∀ c, c ≠ 3 → c ≠ 5 → c ≠ 6 → c ≠ 7 → A' c = A c) ∧ (∀ c, c ≠ 4 → K' c = K c)) 40 (by
    rintro i ⟨t1, t2⟩ hi ⟨h1, A1, K1, h2, r1, f1, g1⟩
    simp only at h1 h2
    subst h1 h2
    unfold X7_rememberAll_b14
    simp only
    rw [if_neg (by omega), za_2b (by omega) (by omega), Int.toNat_natCast, k_placeOf hb hS hD hP hE hi hs, zb, zo_0b]
    refine Or.inl ?_
    rcases zpf_at (s := s) hP hi with ⟨z1, z2⟩ | ⟨z1, r, z2, z3⟩
    · have hx : zngo I s told (i + 1) = zngo I s told i := by
        show zngo I s told i ++ _ = _
        rw [if_pos z2, List.append_nil]
      have hn : X7_remember (zM A1 K1 I L F E dyn) (some 0) (c5 told) none = some (zM A1 K1 I L F E dyn) := by
        unfold X7_remember
        rw [if_pos rfl]
        split
        · rfl
        · rfl
      rw [z1, hn, zb, zckb (by omega) (by omega)]
      exact ⟨_, rfl, rfl, A1, K1, rfl, by rw [hx]; exact r1, f1, g1⟩
    · have hx : zngo I s told (i + 1) = zngo I s told i ++ [(told, I 25 (zpo I i s).toNat, (i : Int))] := by
        show zngo I s told i ++ _ = _
        rw [if_neg z1]
      obtain ⟨A2, K2, e2, r2, f2, g2⟩ := k_remember (I := I) (L := L) (F := F) (E := E) r1 hv (by rw [f1 0 (by omega) (by omega) (by omega) (by omega), zlg_28]; exact hd) z3
      rw [z2, e2, zb, zckb (by omega) (by omega)]
      refine ⟨_, rfl, rfl, A2, K2, rfl, ?_, fun c a1 a2 a3 a4 => (f2 c a1 a2 a3 a4).trans (f1 c a1 a2 a3 a4), fun c a1 => (g2 c a1).trans (g1 c a1)⟩
      rw [hx, zlg_app]
      exact r2) (by
    rintro ⟨t1, t2⟩ ⟨h1, h⟩
    simp only at h1
    subst h1
    unfold X7_rememberAll_b14
    rw [if_pos (by omega)]
    exact ⟨_, rfl, h⟩) (0, (zM A K I L F E dyn)) ⟨rfl, A, K, rfl, hR, fun _ _ _ _ _ => rfl, fun _ _ => rfl⟩ (by omega)
  obtain ⟨A', K', rfl, h⟩ := hq
  unfold X7_rememberAll
  rw [zg_0_1b, zl_2b, he]
  have e40 : zngo I s told 40 = zngo I s told (I 14 14).toNat := by
    have := zngo_ext (I := I) (s := s) (told := told) (m := (I 14 14).toNat) (fun p hp => hE p (by omega)) (40 - (I 14 14).toNat)
    rw [show (I 14 14).toNat + (40 - (I 14 14).toNat) = 40 by omega] at this
    exact this
  rw [e40] at h
  exact ⟨A', K', rfl, h⟩
