def zngb (I : zIT) (L : zLT) (s : Nat) : Nat → List zRow
  | 0 => []
  | n + 1 => zngb I L s n ++ (if zpo I n s = -1 then [] else [(L 15 s, I 25 (zpo I n s).toNat, (n : Int)), (L 16 s, I 25 (zpo I n s).toNat, (n : Int))])
theorem zngb_ext {I : zIT} {L : zLT} {s : Nat} {m : Nat} (hE : ∀ p : Nat, 2 * (m : Int) ≤ (p : Int) → I 22 p = -1) : ∀ k, zngb I L s (m + k) = zngb I L s m
  | 0 => rfl
  | k + 1 => by
    show zngb I L s (m + k) ++ (if zpo I (m + k) s = -1 then [] else [(L 15 s, I 25 (zpo I (m + k) s).toNat, ((m + k : Nat) : Int)), (L 16 s, I 25 (zpo I (m + k) s).toNat, ((m + k : Nat) : Int))]) = _
    have e : zpo I (m + k) s = -1 := by
      unfold zpo
      rw [hE (2 * (m + k)) (by omega), hE (2 * (m + k) + 1) (by omega), if_neg (by omega), if_neg (by omega)]
    rw [if_pos e, List.append_nil, zngb_ext hE k]
theorem k_rememberAll2 {A : zIT} {K : zLT} {I : zIT} {L : zLT} {F : zFT} {E : zET} {dyn : zH} {rs rd : Nat → Nat} {fp : Nat → Option Nat} {s : Nat} {x : zIT × zLT} (hb : zB I) (hS : zRS I L F dyn rs) (hD : zRD I F dyn rd fp) (hP : zRP I dyn rs fp) (hE : ∀ p : Nat, 2 * I 14 14 ≤ (p : Int) → I 22 p = -1) (hs : (s : Int) < I 14 7)
    (hR : zRO2 A K x) (hv : zvn (L 15 s) ∧ zvn (L 16 s)) (hd : A 0 8 = x.1 14 28) : ∃ A' K', X7_rememberAll_ (zM A K I L F E dyn) (some 0) (some (rs s + 39)) = some (zM A' K' I L F E dyn) ∧ zRO2 A' K' (zlg (zngb I L s (I 14 14).toNat) x) ∧ (∀ c, c ≠ 3 → c ≠ 5 → c ≠ 6 → c ≠ 7 → A' c = A c) ∧ (∀ c, c ≠ 4 → K' c = K c) := by
  have hb' := hb
  unfold zB at hb'
  obtain ⟨e, he, hq⟩ := zloop_up (body := X7_rememberAll__b11 (some 0) (some (rs s + 39)) (some 2) 40)
    (fun i t => t.1 = (i : Int) ∧ ∃ A' K', t.2 = zM A' K' I L F E dyn ∧ zRO2 A' K' (zlg (zngb I L s i) x) ∧ (∀ c, c ≠ 3 → c ≠ 5 → c ≠ 6 → c ≠ 7 → A' c = A c) ∧ (∀ c, c ≠ 4 → K' c = K c))
    (fun e => ∃ A' K', e = zM A' K' I L F E dyn ∧ zRO2 A' K' (zlg (zngb I L s 40) x) ∧ (∀ c, c ≠ 3 → c ≠ 5 → c ≠ 6 → c ≠ 7 → A' c = A c) ∧ (∀ c, c ≠ 4 → K' c = K c)) 40 (by
    rintro i ⟨t1, t2⟩ hi ⟨h1, A1, K1, h2, r1, f1, g1⟩
    simp only at h1 h2
    subst h1 h2
    unfold X7_rememberAll__b11
    simp only
    rw [if_neg (by omega), za_2b (by omega) (by omega), Int.toNat_natCast, k_placeOf hb hS hD hP hE hi hs, zb, zo_0b]
    refine Or.inl ?_
    rcases zpf_at (s := s) hP hi with ⟨z1, z2⟩ | ⟨z1, r, z2, z3⟩
    · have hx : zngb I L s (i + 1) = zngb I L s i := by
        show zngb I L s i ++ _ = _
        rw [if_pos z2, List.append_nil]
      have hn : X7_rememberBoth (zM A1 K1 I L F E dyn) (some 0) none = some (zM A1 K1 I L F E dyn) := by
        unfold X7_rememberBoth
        rw [if_pos rfl]
      rw [z1, hn, zb, zckb (by omega) (by omega)]
      exact ⟨_, rfl, rfl, A1, K1, rfl, by rw [hx]; exact r1, f1, g1⟩
    · have hx : zngb I L s (i + 1) = zngb I L s i ++ [(L 15 s, I 25 (zpo I i s).toNat, (i : Int)), (L 16 s, I 25 (zpo I i s).toNat, (i : Int))] := by
        show zngb I L s i ++ _ = _
        rw [if_neg z1]
      obtain ⟨A2, K2, e2, r2, f2, g2⟩ := k_rememberBoth (I := I) (L := L) (F := F) (E := E) r1 hv.1 hv.2 (by rw [f1 0 (by omega) (by omega) (by omega) (by omega), zlg_28]; exact hd) z3 (hS.1 s hs).2
      rw [z2, e2, zb, zckb (by omega) (by omega)]
      refine ⟨_, rfl, rfl, A2, K2, rfl, ?_, fun c a1 a2 a3 a4 => (f2 c a1 a2 a3 a4).trans (f1 c a1 a2 a3 a4), fun c a1 => (g2 c a1).trans (g1 c a1)⟩
      rw [hx, zlg_app]
      exact r2) (by
    rintro ⟨t1, t2⟩ ⟨h1, h⟩
    simp only at h1
    subst h1
    unfold X7_rememberAll__b11
    rw [if_pos (by omega)]
    exact ⟨_, rfl, h⟩) (0, (zM A K I L F E dyn)) ⟨rfl, A, K, rfl, hR, fun _ _ _ _ _ => rfl, fun _ _ => rfl⟩ (by omega)
  obtain ⟨A', K', rfl, h⟩ := hq
  unfold X7_rememberAll_
  rw [zg_0_1b, zl_2b, he]
  have e40 : zngb I L s 40 = zngb I L s (I 14 14).toNat := by
    have := zngb_ext (I := I) (s := s) (L := L) (m := (I 14 14).toNat) (fun p hp => hE p (by omega)) (40 - (I 14 14).toNat)
    rw [show (I 14 14).toNat + (40 - (I 14 14).toNat) = 40 by omega] at this
    exact this
  rw [e40] at h
  exact ⟨A', K', rfl, h⟩
