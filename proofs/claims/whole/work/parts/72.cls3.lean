theorem k_placeOf {A : zIT} {K : zLT} {I : zIT} {L : zLT} {F : zFT} {E : zET} {dyn : zH} {rs rd : Nat → Nat} {fp : Nat → Option Nat} {d s : Nat} (hb : zB I) (hS : zRS I L F dyn rs) (hD : zRD I F dyn rd fp) (hP : zRP I dyn rs fp) (hE : ∀ p : Nat, 2 * I 14 14 ≤ (p : Int) → I 22 p = -1) (hd : d < 40) (hs : (s : Int) < I 14 7) : X7_placeOf (zM A K I L F E dyn) (F 2 d) (some (rs s + 39)) = some (zpf I fp d s) := by
  unfold X7_placeOf
  by_cases c : (d : Int) < I 14 14
  · rw [(hD.1 d c).1, if_neg (fun y => by cases y), zoDorb (hD.1 d c).2, k_placeOn hS hD hP c hd hs]
    rfl
  · rw [hD.2 d (by omega), if_pos rfl]
    unfold zpf
    rw [hE (2 * d) (by omega), hE (2 * d + 1) (by omega), if_neg (by omega), if_neg (by omega)]
theorem zpf_some {I : zIT} {dyn : zH} {rs : Nat → Nat} {fp : Nat → Option Nat} {d s : Nat} (hP : zRP I dyn rs fp) (hd : d < 40) : zpf I fp d s = none ↔ (I 22 (2 * d) ≠ s ∧ I 22 (2 * d + 1) ≠ s) := by
  have hn : ∀ p : Nat, p < 80 → I 22 p = s → fp p ≠ none := by
    intro p hp e
    rcases hP p hp with ⟨h1, h2⟩ | ⟨h1, h2, r, h3, h4⟩
    · omega
    · rw [h3]
      exact fun y => by cases y
  unfold zpf
  by_cases c : I 22 (2 * d) = s
  · rw [if_pos c]
    exact ⟨fun y => absurd y (hn _ (by omega) c), fun y => absurd c y.1⟩
  · rw [if_neg c]
    by_cases c2 : I 22 (2 * d + 1) = s
    · rw [if_pos c2]
      exact ⟨fun y => absurd y (hn _ (by omega) c2), fun y => absurd c2 y.2⟩
    · rw [if_neg c2]
      exact ⟨fun _ => ⟨c, c2⟩, fun _ => rfl⟩
theorem zdo_80 {I : zIT} {dyn : zH} {rs : Nat → Nat} {fp : Nat → Option Nat} {s : Nat} (hP : zRP I dyn rs fp) (hD2 : ∀ d, d < 40 → I 22 (2 * d) = s → I 22 (2 * d + 1) ≠ s) : zdo I s 80 = zsum (fun d => if zpf I fp d s = none then 0 else 1) 40 := by
  unfold zdo
  rw [show (80 : Nat) = 2 * 40 from rfl, zsum_two]
  apply zsum_congr
  intro d hd
  have h := zpf_some (s := s) hP hd
  have h2 := hD2 d hd
  by_cases c : I 22 (2 * d) = s
  · rw [if_pos c, if_neg (h2 c), if_neg (fun y => (h.1 y).1 c)]
    rfl
  · rw [if_neg c]
    by_cases c2 : I 22 (2 * d + 1) = s
    · rw [if_pos c2, if_neg (fun y => (h.1 y).2 c2)]
      rfl
    · rw [if_neg c2, if_pos (h.2 ⟨c, c2⟩)]
      rfl
theorem k_doorsOn {A : zIT} {K : zLT} {I : zIT} {L : zLT} {F : zFT} {E : zET} {dyn : zH} {rs rd : Nat → Nat} {fp : Nat → Option Nat} {s : Nat} (hb : zB I) (hS : zRS I L F dyn rs) (hD : zRD I F dyn rd fp) (hP : zRP I dyn rs fp) (hE : ∀ p : Nat, 2 * I 14 14 ≤ (p : Int) → I 22 p = -1) (hD2 : ∀ d, d < 40 → I 22 (2 * d) = s → I 22 (2 * d + 1) ≠ s) (hs : (s : Int) < I 14 7) : X7_doorsOn (zM A K I L F E dyn) (some 0) (some (rs s + 39)) = some (zdo I s 80) := by
  rw [zdo_80 hP hD2]
  have h : zloop (X7_doorsOn_b14 (some (rs s + 39)) (some 2) 40 (zM A K I L F E dyn)) zN (0, 0) = some (zsum (fun d => if zpf I fp d s = none then 0 else 1) 40) := by
    refine zloop_0 (body := X7_doorsOn_b14 (some (rs s + 39)) (some 2) 40 (zM A K I L F E dyn)) (fun i => (zsum (fun d => if zpf I fp d s = none then 0 else 1) i, (i : Int))) 40 ?_ ?_ (by omega)
    · intro i hi
      have hz : 0 ≤ zsum (fun d => if zpf I fp d s = none then 0 else 1) i ∧ zsum (fun d => if zpf I fp d s = none then 0 else 1) i ≤ 1 * (i : Int) := zsum_le (fun k => by split <;> omega) i
      unfold X7_doorsOn_b14
      simp only
      rw [if_neg (by omega), za_2b (by omega) (by omega), Int.toNat_natCast, k_placeOf hb hS hD hP hE hi hs, zb]
      simp only [zsum]
      by_cases c : zpf I fp i s = none
      · rw [if_pos c, if_pos c, zckb (by omega) (by omega), Int.add_zero]
        rfl
      · rw [if_neg c, if_neg c, zckb (by omega) (by omega), zckb (by omega) (by omega)]
        rfl
    · rfl
  unfold X7_doorsOn
  rw [zg_0_1b, zl_2b, h]
  rfl
theorem k_streets {A : zIT} {K : zLT} {I : zIT} {L : zLT} {F : zFT} {E : zET} {dyn : zH} {rs : Nat → Nat} (hb : zB I) (hS : zRS I L F dyn rs) : X7_streets (zM A K I L F E dyn) (some 0) = some (zsc2 I (I 14 7).toNat) := by
  unfold zB at hb
  have e : zsc2 I (I 14 7).toNat = zsum (fun s => if (s : Int) < I 14 7 ∧ I 20 s = 0 then 1 else 0) 12 := by
    unfold zsc2
    rw [zsum_ext (n := (I 14 7).toNat) (m := 12) (by omega) (fun i h1 h2 => if_neg (fun y => by omega))]
    apply zsum_congr
    intro i hi
    by_cases c : I 20 i = 0
    · rw [if_pos c, if_pos ⟨by omega, c⟩]
    · rw [if_neg c, if_neg (fun y => c y.2)]
  have h : zloop (X7_streets_b13 (some 1) 12 (zM A K I L F E dyn)) zN (0, 0) = some (zsum (fun s => if (s : Int) < I 14 7 ∧ I 20 s = 0 then 1 else 0) 12) := by
    refine zloop_0 (body := X7_streets_b13 (some 1) 12 (zM A K I L F E dyn)) (fun i => (zsum (fun s => if (s : Int) < I 14 7 ∧ I 20 s = 0 then 1 else 0) i, (i : Int))) 12 ?_ ?_ (by omega)
    · intro i hi
      have hz : 0 ≤ zsum (fun s => if (s : Int) < I 14 7 ∧ I 20 s = 0 then 1 else 0) i ∧ zsum (fun s => if (s : Int) < I 14 7 ∧ I 20 s = 0 then 1 else 0) i ≤ 1 * (i : Int) := zsum_le (fun k => by split <;> omega) i
      unfold X7_streets_b13
      simp only
      rw [if_neg (by omega), za_1b (by omega) (by omega), Int.toNat_natCast]
      simp only [zsum]
      rcases k_isStanding (A := A) (K := K) (E := E) hS i with ⟨e1, h⟩ | ⟨e1, h⟩
      · rw [e1, zb, if_neg (by omega), if_pos h, zckb (by omega) (by omega), zckb (by omega) (by omega)]
        rfl
      · rw [e1, zb, if_pos rfl, if_neg h, zckb (by omega) (by omega), Int.add_zero]
        rfl
    · rfl
  unfold X7_streets
  rw [zg_0_0b, zl_1b, h, e]
  rfl
