-- ===== clashes of the class =====
theorem zsum_add {f g : Nat → Int} : ∀ n, zsum (fun i => f i + g i) n = zsum f n + zsum g n
  | 0 => rfl
  | n + 1 => by
    simp only [zsum]
    rw [zsum_add n]
    omega
theorem zsum_z {f : Nat → Int} : ∀ {n : Nat}, (∀ i, i < n → f i = 0) → zsum f n = 0
  | 0, _ => rfl
  | n + 1, h => by
    simp only [zsum]
    rw [zsum_z (fun i hi => h i (by omega)), h n (by omega)]
    rfl
theorem zsum_swap {f : Nat → Nat → Int} {n : Nat} : ∀ m, zsum (fun i => zsum (fun j => f i j) n) m = zsum (fun j => zsum (fun i => f i j) m) n
  | 0 => (zsum_z (f := fun j => zsum (fun i => f i j) 0) (n := n) (fun _ _ => rfl)).symm
  | m + 1 => by
    simp only [zsum]
    rw [zsum_swap m, ← zsum_add]
theorem zsum_po {I : zIT} {s : Nat} {h : Nat → Int} (h7 : zV7 I) (hh : ∀ p, I 22 p ≠ s → h p = 0) : zsum h 80 = zsum (fun d => if zpo I d s = -1 then 0 else h (zpo I d s).toNat) 40 := by
  rw [show (80 : Nat) = 2 * 40 from rfl, zsum_two]
  apply zsum_congr
  intro d hd
  unfold zpo
  by_cases c : I 22 (2 * d) = s
  · have c2 : I 22 (2 * d + 1) ≠ s := fun y => h7 (2 * d) (2 * d + 1) (by omega) (by omega) (by omega) (by rw [c, y])
    rw [if_pos c, if_neg (by omega), zn1, hh _ c2]
    omega
  · by_cases c2 : I 22 (2 * d + 1) = s
    · rw [if_neg c, if_pos c2, if_neg (by omega), zn2, hh _ c]
      omega
    · rw [if_neg c, if_neg c2, if_pos rfl, hh _ c, hh _ c2]
      rfl
def zcc (A : zIT) (i j : Nat) : Int := if A 11 i ≠ 0 ∧ A 11 j ≠ 0 ∧ A 10 i = A 10 j ∧ A 9 i < A 9 j ∧ A 11 j < A 11 i then 1 else 0
theorem zcc_in {A : zIT} {i : Nat} (n : Nat) : 0 ≤ zsum (zcc A i) n ∧ zsum (zcc A i) n ≤ 1 * (n : Int) := zsum_le (fun k => by
  unfold zcc
  split <;> omega) n
theorem k_pairs12 {A : zIT} {K : zLT} {I : zIT} {L : zLT} {F : zFT} {E : zET} {dyn : zH} {i : Nat} {e : Int} (hi : i < 40) (he : 0 ≤ e ∧ e ≤ 100000) : zloop (X1_pairsAgainstOrder_b12 (some 8) (i : Int) (zM A K I L F E dyn)) zN (e, 0) = some (e + zsum (zcc A i) 40) := by
  have h := zloop_0 (body := X1_pairsAgainstOrder_b12 (some 8) (i : Int) (zM A K I L F E dyn)) (fun j => (e + zsum (zcc A i) j, (j : Int))) (e := e + zsum (zcc A i) 40) 40 ?_ ?_ (by omega)
  · simp only [zsum, Int.add_zero] at h
    exact h
  · intro j hj
    have hz := zcc_in (A := A) (i := i) j
    unfold X1_pairsAgainstOrder_b12
    simp only
    rw [if_neg (by omega), zg_8_2b, za_11b (by omega) (by omega), Int.toNat_natCast]
    have hx : zsum (zcc A i) (j + 1) = zsum (zcc A i) j + zcc A i j := rfl
    have no : ¬ (A 11 i ≠ 0 ∧ A 11 j ≠ 0 ∧ A 10 i = A 10 j ∧ A 9 i < A 9 j ∧ A 11 j < A 11 i) → (zchk ((j : Int) + 1)).bind (fun v => some (Sum.inl (e + zsum (zcc A i) j, v))) = (some (Sum.inl (e + zsum (zcc A i) (j + 1), ((j + 1 : Nat) : Int))) : Option ((Int × Int) ⊕ Int)) := by
      intro hn
      have hc : zcc A i j = 0 := if_neg hn
      rw [zckb (by omega) (by omega), hx, hc, Int.add_zero]
      rfl
    by_cases c1 : A 11 i = 0
    · rw [if_pos c1]
      exact no (fun y => y.1 c1)
    · rw [if_neg c1, zg_8_2b, za_11b (by omega) (by omega), Int.toNat_natCast]
      by_cases c2 : A 11 j = 0
      · rw [if_pos c2]
        exact no (fun y => y.2.1 c2)
      · rw [if_neg c2, zg_8_1b, za_10b (by omega) (by omega), zg_8_1b, za_10b (by omega) (by omega), Int.toNat_natCast, Int.toNat_natCast]
        by_cases c3 : A 10 i = A 10 j
        · rw [if_pos c3, zg_8_0b, za_9b (by omega) (by omega), zg_8_0b, za_9b (by omega) (by omega), Int.toNat_natCast, Int.toNat_natCast]
          by_cases c4 : A 9 j ≤ A 9 i
          · rw [if_pos c4]
            exact no (fun y => by omega)
          · rw [if_neg c4, zg_8_2b, za_11b (by omega) (by omega), zg_8_2b, za_11b (by omega) (by omega), Int.toNat_natCast, Int.toNat_natCast]
            by_cases c5 : A 11 i ≤ A 11 j
            · rw [if_pos c5]
              exact no (fun y => by omega)
            · have hc : zcc A i j = 1 := if_pos ⟨c1, c2, c3, by omega, by omega⟩
              rw [if_neg c5, zckb (by omega) (by omega), zckb (by omega) (by omega), hx, hc]
              congr 2
              congr 1
              omega
        · rw [if_neg c3]
          exact no (fun y => c3 y.2.2.1)
  · rfl
theorem k_pairs {A : zIT} {K : zLT} {I : zIT} {L : zLT} {F : zFT} {E : zET} {dyn : zH} : X1_pairsAgainstOrder (zM A K I L F E dyn) (some 8) = some (zsum (fun i => zsum (zcc A i) 40) 40) := by
  have h : zloop (X1_pairsAgainstOrder_b4 (some 8) (zM A K I L F E dyn)) zN (0, 0) = some (zsum (fun i => zsum (zcc A i) 40) 40) := by
    refine zloop_0 (body := X1_pairsAgainstOrder_b4 (some 8) (zM A K I L F E dyn)) (fun j => (zsum (fun i => zsum (zcc A i) 40) j, (j : Int))) 40 ?_ ?_ (by omega)
    · intro i hi
      have hz : 0 ≤ zsum (fun i => zsum (zcc A i) 40) i ∧ zsum (fun i => zsum (zcc A i) 40) i ≤ 40 * (i : Int) := zsum_le (fun k => by
        have := zcc_in (A := A) (i := k) 40
        omega) i
      unfold X1_pairsAgainstOrder_b4
      simp only
      rw [if_neg (by omega), k_pairs12 hi (by omega), zb, zckb (by omega) (by omega)]
      rfl
    · rfl
  unfold X1_pairsAgainstOrder
  rw [h]
  rfl
theorem zcs_pairs {A I : zIT} {L : zLT} {B : Int} {rk : Nat → Nat} {s : Nat} (hV : zVA I L B rk) (hs : (s : Int) < I 14 7) (hL : zLgr A I s) : zsum (fun i => zsum (zcc A i) 40) 40 = zcs I s (2 * I 14 14).toNat (2 * I 14 14).toNat := by
  have hb := zVA_B hV
  unfold zB at hb
  have h7 := zVA_7 hV
  have hLV := zVA_LV hV hs
  have out : ∀ p : Nat, (2 * I 14 14).toNat ≤ p → I 22 p ≠ s := fun p hp => by
    have := zVA_5 hV p (by omega)
    omega
  have inner : ∀ p, zsum (zcf I s p) (2 * I 14 14).toNat = zsum (fun e => if zpo I e s = -1 then 0 else zcf I s p (zpo I e s).toNat) 40 := by
    intro p
    have e1 : zsum (zcf I s p) 80 = zsum (zcf I s p) (2 * I 14 14).toNat := zsum_ext (by omega) (fun q h1 h2 => if_neg (fun y => out q h1 y.2.2.1))
    have e2 : ∀ q, I 22 q ≠ s → zcf I s p q = 0 := fun q hq => if_neg (fun y => hq y.2.2.1)
    rw [← e1, zsum_po h7 e2]
  have outer : zcs I s (2 * I 14 14).toNat (2 * I 14 14).toNat = zsum (fun d => if zpo I d s = -1 then 0 else zsum (fun e => if zpo I e s = -1 then 0 else zcf I s (zpo I d s).toNat (zpo I e s).toNat) 40) 40 := by
    unfold zcs
    have e0 : zsum (fun p => zsum (zcf I s p) (2 * I 14 14).toNat) (2 * I 14 14).toNat = zsum (fun p => zsum (fun e => if zpo I e s = -1 then 0 else zcf I s p (zpo I e s).toNat) 40) (2 * I 14 14).toNat := zsum_congr (fun p _ => inner p)
    have z0 : ∀ p, I 22 p ≠ s → zsum (fun e => if zpo I e s = -1 then 0 else zcf I s p (zpo I e s).toNat) 40 = 0 := by
      intro p hp
      apply zsum_z
      intro e he
      split
      · rfl
      · exact if_neg (fun y => hp y.2.1)
    rw [e0, ← zsum_ext (n := (2 * I 14 14).toNat) (m := 80) (by omega) (fun q h1 h2 => z0 q (out q h1)), zsum_po h7 z0]
  rw [outer, zsum_swap]
  apply zsum_congr
  intro j hj
  have cz : ∀ i, i < 40 → zpo I i s = -1 → A 11 i = 0 := by
    intro i hi hz
    rcases hL.2.2.2.2 i hi with ⟨g, _⟩ | ⟨p, g1, g2, _⟩
    · exact g
    · exact absurd g2 (zpo_no hz g1)
  have cn : ∀ i, i < 40 → zpo I i s ≠ -1 → (zpo I i s).toNat < 80 ∧ I 22 (zpo I i s).toNat = s ∧ 10 ≤ I 25 (zpo I i s).toNat ∧ A 11 i = I 25 (zpo I i s).toNat ∧ A 9 i = zky I s (zpo I i s).toNat ∧ A 10 i = (if I 24 (zpo I i s).toNat = 108 then 1 else 0) ∧ zsd (I 24 (zpo I i s).toNat) := by
    intro i hi hz
    obtain ⟨q1, q2, q3⟩ := zpo_at hz
    have q80 : (zpo I i s).toNat < 80 := by omega
    have v := zV4_at (zVA_4 hV) q80 q2
    obtain ⟨g1, g2, g3, g4⟩ := zLgr_at hL hLV q80 q2 (by omega)
    rw [q1] at g2 g3 g4
    exact ⟨q80, q2, g1, g2, g3, g4, v.2.2.1⟩
  by_cases c : zpo I j s = -1
  · rw [if_pos c]
    apply zsum_z
    intro i hi
    exact if_neg (fun y => y.2.1 (cz j hj c))
  · rw [if_neg c]
    apply zsum_congr
    intro i hi
    by_cases c2 : zpo I i s = -1
    · rw [if_pos c2]
      exact if_neg (fun y => y.1 (cz i hi c2))
    · rw [if_neg c2]
      obtain ⟨a1, a2, a3, a4, a5, a6, a7⟩ := cn i hi c2
      obtain ⟨b1, b2, b3, b4, b5, b6, b7⟩ := cn j hj c
      unfold zcc zcf
      rw [a4, a5, a6, b4, b5, b6]
      have hside := zsd_e b7 a7
      by_cases k1 : I 24 (zpo I i s).toNat = I 24 (zpo I j s).toNat
      · by_cases k2 : zky I s (zpo I i s).toNat < zky I s (zpo I j s).toNat ∧ I 25 (zpo I j s).toNat < I 25 (zpo I i s).toNat
        · rw [if_pos ⟨by omega, by omega, hside.2 k1, k2.1, k2.2⟩, if_pos]
          refine ⟨fun y => ?_, b2, a2, k1.symm, k2.1, k2.2⟩
          rw [y] at k2
          omega
        · rw [if_neg (fun y => k2 ⟨y.2.2.2.1, y.2.2.2.2⟩), if_neg (fun y => k2 ⟨y.2.2.2.2.1, y.2.2.2.2.2⟩)]
      · rw [if_neg (fun y => k1 (hside.1 y.2.2.1)), if_neg (fun y => k1 y.2.2.2.1.symm)]
theorem k_clashes_1 {A : zIT} {K : zLT} {I : zIT} {L : zLT} {F : zFT} {E : zET} {dyn : zH} {rs : Nat → Nat} {s : Int} (hb : zB I) (hS : zRS I L F dyn rs) (h : ¬ zst I s) : X7_clashes (zM A K I L F E dyn) (some 0) s = some (.inr 3, (zM A K I L F E dyn)) := by
  unfold X7_clashes
  rw [zo_0b]
  rcases k_standing (A := A) (K := K) (E := E) hb hS s with ⟨_, hx⟩ | ⟨e, _⟩
  · exact absurd hx h
  · rw [e, zb]
theorem k_clashes_0 {A : zIT} {K : zLT} {I : zIT} {L : zLT} {F : zFT} {E : zET} {dyn : zH} {rs rd : Nat → Nat} {fp : Nat → Option Nat} {B : Int} {rk : Nat → Nat} {s : Nat} (hV : zVA I L B rk) (hR : zRL A K I L F dyn rs rd fp) (h : zst I s) :
    ∃ A', X7_clashes (zM A K I L F E dyn) (some 0) (s : Int) = some (.inl (zcs I s (2 * I 14 14).toNat (2 * I 14 14).toNat), zM A' K I L F E dyn) ∧ zAe A A' := by
  obtain ⟨hS, hD, hP, hO, hK7, h8, h5, h6⟩ := hR
  have hb := zVA_B hV
  have hl := (zVA_LV hV h.2.1).2.2.2.1
  obtain ⟨A', e, hL, hf⟩ := k_openLedger (A := A) (K := K) (E := E) (len := I 17 s) hV hS hD hP h.2.1 (by omega)
  rw [zu_id] at hL
  refine ⟨A', ?_, zAe_h hf⟩
  unfold X7_clashes
  rw [zo_0b]
  rcases k_standing (A := A) (K := K) (E := E) hb hS s with ⟨e1, _⟩ | ⟨_, hx⟩
  · rw [e1, zb]
    simp only
    rw [Int.toNat_natCast, zgStr_3b (hS.1 s h.2.1).2, zo_0b, e, zb, zg_0_3b, zo_8b, k_pairs, zb, zcs_pairs hV h.2.1 hL]
  · exact absurd h hx
