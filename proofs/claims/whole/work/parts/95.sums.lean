-- ===== goneShare, meanDoors, checksum of the class =====
theorem k_goneShare {A : zIT} {K : zLT} {I : zIT} {L : zLT} {F : zFT} {E : zET} {dyn : zH} {rd : Nat → Nat} {fp : Nat → Option Nat} (hb : zB I) (hD : zRD I F dyn rd fp) (h6 : A 0 6 = I 14 14) : X7_goneShare (zM A K I L F E dyn) (some 0) = if I 14 14 = 0 then some (.inr 5) else (zfdiv (zi2f (zgc I (I 14 14).toNat)) (zi2f (I 14 14))).bind fun v => some (.inl v) := by
  unfold zB at hb
  unfold X7_goneShare
  rw [zg_0_6b, h6]
  by_cases c : I 14 14 = 0
  · rw [if_pos c, if_pos c]
  · have e : zgc I (I 14 14).toNat = zsum (fun d => if (d : Int) < I 14 14 ∧ I 26 d ≠ 0 then 1 else 0) 40 := by
      unfold zgc
      rw [zsum_ext (n := (I 14 14).toNat) (m := 40) (by omega) (fun i h1 h2 => if_neg (fun y => by omega))]
      apply zsum_congr
      intro i hi
      by_cases c : I 26 i = 0
      · rw [if_pos c, if_neg (fun y => y.2 c)]
      · rw [if_neg c, if_pos ⟨by omega, c⟩]
    have h : zloop (X7_goneShare_b34 (I 14 14) (some 2) 40 (zM A K I L F E dyn)) zN (0, 0) = some (zsum (fun d => if (d : Int) < I 14 14 ∧ I 26 d ≠ 0 then 1 else 0) 40) := by
      refine zloop_0 (body := X7_goneShare_b34 (I 14 14) (some 2) 40 (zM A K I L F E dyn)) (fun i => (zsum (fun d => if (d : Int) < I 14 14 ∧ I 26 d ≠ 0 then 1 else 0) i, (i : Int))) 40 ?_ ?_ (by omega)
      · intro i hi
        have hz : 0 ≤ zsum (fun d => if (d : Int) < I 14 14 ∧ I 26 d ≠ 0 then 1 else 0) i ∧ zsum (fun d => if (d : Int) < I 14 14 ∧ I 26 d ≠ 0 then 1 else 0) i ≤ 1 * (i : Int) := zsum_le (fun k => by split <;> omega) i
        unfold X7_goneShare_b34
        simp only
        rw [if_neg (by omega), za_2b (by omega) (by omega), Int.toNat_natCast]
        simp only [zsum]
        by_cases c1 : (i : Int) < I 14 14
        · rw [(hD.1 i c1).1, if_neg (fun y => by cases y), zgDor_3b (hD.1 i c1).2]
          by_cases c2 : I 26 i = 0
          · rw [if_pos c2, zckb (by omega) (by omega), if_neg (fun y => y.2 c2), Int.add_zero]
            rfl
          · rw [if_neg c2, zckb (by omega) (by omega), zckb (by omega) (by omega), if_pos ⟨c1, c2⟩]
            rfl
        · rw [hD.2 i (by omega), if_pos rfl, zckb (by omega) (by omega), if_neg (fun y => c1 y.1), Int.add_zero]
          rfl
      · rfl
    rw [if_neg c, if_neg c, zg_0_1b, zl_2b, h, zb, e]
theorem k_meanDoors {A : zIT} {K : zLT} {I : zIT} {L : zLT} {F : zFT} {E : zET} {dyn : zH} {rs rd : Nat → Nat} {fp : Nat → Option Nat} (hb : zB I) (hS : zRS I L F dyn rs) (hD : zRD I F dyn rd fp) (hP : zRP I dyn rs fp) (h5 : zV5 I) (h7 : zV7 I) : X7_meanDoors (zM A K I L F E dyn) (some 0) = if zsc2 I (I 14 7).toNat = 0 then some (.inr 5) else (zddiv (zi2d (zmd I (I 14 7).toNat)) (zi2d (zsc2 I (I 14 7).toNat))).bind fun v => some (.inl v) := by
  have hb' := hb
  unfold zB at hb
  have e1 : zsc2 I (I 14 7).toNat = zsum (fun s => if (s : Int) < I 14 7 ∧ I 20 s = 0 then 1 else 0) 12 := by
    unfold zsc2
    rw [zsum_ext (n := (I 14 7).toNat) (m := 12) (by omega) (fun i h1 h2 => if_neg (fun y => by omega))]
    apply zsum_congr
    intro i hi
    by_cases c : I 20 i = 0
    · rw [if_pos c, if_pos ⟨by omega, c⟩]
    · rw [if_neg c, if_neg (fun y => c y.2)]
  have e2 : zmd I (I 14 7).toNat = zsum (fun s => if (s : Int) < I 14 7 ∧ I 20 s = 0 then zdo I s 80 else 0) 12 := by
    unfold zmd
    rw [zsum_ext (n := (I 14 7).toNat) (m := 12) (by omega) (fun i h1 h2 => if_neg (fun y => by omega))]
    apply zsum_congr
    intro i hi
    by_cases c : I 20 i = 0
    · rw [if_pos c, if_pos ⟨by omega, c⟩]
    · rw [if_neg c, if_neg (fun y => c y.2)]
  have h : zloop (X7_meanDoors_b16 (some 0) (some 1) 12 (zM A K I L F E dyn)) zN (0, 0, 0) = some (zsum (fun s => if (s : Int) < I 14 7 ∧ I 20 s = 0 then 1 else 0) 12, zsum (fun s => if (s : Int) < I 14 7 ∧ I 20 s = 0 then zdo I s 80 else 0) 12) := by
    refine zloop_0 (body := X7_meanDoors_b16 (some 0) (some 1) 12 (zM A K I L F E dyn)) (fun i => (zsum (fun s => if (s : Int) < I 14 7 ∧ I 20 s = 0 then 1 else 0) i, zsum (fun s => if (s : Int) < I 14 7 ∧ I 20 s = 0 then zdo I s 80 else 0) i, (i : Int))) 12 ?_ ?_ (by omega)
    · intro i hi
      have hz : 0 ≤ zsum (fun s => if (s : Int) < I 14 7 ∧ I 20 s = 0 then 1 else 0) i ∧ zsum (fun s => if (s : Int) < I 14 7 ∧ I 20 s = 0 then 1 else 0) i ≤ 1 * (i : Int) := zsum_le (fun k => by split <;> omega) i
      have hz2 : 0 ≤ zsum (fun s => if (s : Int) < I 14 7 ∧ I 20 s = 0 then zdo I s 80 else 0) i ∧ zsum (fun s => if (s : Int) < I 14 7 ∧ I 20 s = 0 then zdo I s 80 else 0) i ≤ 80 * (i : Int) := zsum_le (fun k => by
        have := zdo_in (I := I) (s := (k : Int)) 80
        split <;> omega) i
      have hz3 := zdo_in (I := I) (s := (i : Int)) 80
      unfold X7_meanDoors_b16
      simp only
      rw [if_neg (by omega), za_1b (by omega) (by omega), Int.toNat_natCast]
      simp only [zsum]
      rcases k_isStanding (A := A) (K := K) (E := E) hS i with ⟨e1, h⟩ | ⟨e1, h⟩
      · rw [e1, zb, if_neg (by omega), zckb (by omega) (by omega), zo_0b, (hS.1 i h.1).1, k_doorsOn hb' hS hD hP h5 (zV7_d h7) h.1, zb, zckb (by omega) (by omega), zckb (by omega) (by omega), if_pos h, if_pos h]
        rfl
      · rw [e1, zb, if_pos rfl, zckb (by omega) (by omega), if_neg h, if_neg h, Int.add_zero, Int.add_zero]
        rfl
    · rfl
  unfold X7_meanDoors
  rw [zg_0_0b, zl_1b, h, zb, e1, e2]
theorem k_checksum {A : zIT} {K : zLT} {I : zIT} {L : zLT} {F : zFT} {E : zET} {dyn : zH} {rs rd : Nat → Nat} {fp : Nat → Option Nat} {B : Int} {rk : Nat → Nat} (hV : zVA I L B rk) (hR : zRL A K I L F dyn rs rd fp) : X7_checksum (zM A K I L F E dyn) (some 0) = some (31 * zk2 I (zk1 I (I 14 7).toNat) (I 14 14).toNat + Int64.ofInt (I 14 19)) := by
  have hb := zVA_B hV
  have hb' := hb
  unfold zB at hb
  obtain ⟨hS, hD, hP, hO, hK7, h8, h5, h6⟩ := hR
  have h : zloop (X7_checksum_b16 (some 0) (some 1) 12 (zM A K I L F E dyn)) zN (7, 0) = some (zk1 I (min 12 (I 14 7).toNat)) := by
    refine zloop_0 (body := X7_checksum_b16 (some 0) (some 1) 12 (zM A K I L F E dyn)) (fun i => (zk1 I (min i (I 14 7).toNat), (i : Int))) 12 ?_ ?_ (by omega)
    · intro i hi
      unfold X7_checksum_b16
      simp only
      rw [if_neg (by omega), za_1b (by omega) (by omega), Int.toNat_natCast]
      rcases k_isStanding (A := A) (K := K) (E := E) hS i with ⟨e1, h⟩ | ⟨e1, h⟩
      · rw [e1, zb, if_neg (by omega), (hS.1 i h.1).1, zgStr_3b (hS.1 i h.1).2, zo_0b, k_doorsOn hb' hS hD hP (zVA_5 hV) (zV7_d (zVA_7 hV)) h.1, zb, zckb (by omega) (by omega)]
        rw [show min (i + 1) (I 14 7).toNat = i + 1 by omega, show min i (I 14 7).toNat = i by omega]
        have e : zk1 I (i + 1) = if I 20 i = 0 then 31 * (31 * zk1 I i + Int64.ofInt (I 17 i)) + Int64.ofInt (zdo I i 80) else zk1 I i := rfl
        rw [e, if_pos h.2]
        rfl
      · rw [e1, zb, if_pos rfl, zckb (by omega) (by omega)]
        by_cases c : (i : Int) < I 14 7
        · rw [show min (i + 1) (I 14 7).toNat = i + 1 by omega, show min i (I 14 7).toNat = i by omega]
          have e : zk1 I (i + 1) = if I 20 i = 0 then 31 * (31 * zk1 I i + Int64.ofInt (I 17 i)) + Int64.ofInt (zdo I i 80) else zk1 I i := rfl
          rw [e, if_neg (fun y => h ⟨c, y⟩)]
          rfl
        · rw [show min (i + 1) (I 14 7).toNat = min i (I 14 7).toNat by omega]
          rfl
    · rfl
  have h2 : ∀ e : Int64, zloop (X7_checksum_b82 (some 0) (some 2) 40 (zM A K I L F E dyn)) zN (e, 0) = some (zk2 I e (min 40 (I 14 14).toNat)) := by
    intro e
    refine zloop_0 (body := X7_checksum_b82 (some 0) (some 2) 40 (zM A K I L F E dyn)) (fun i => (zk2 I e (min i (I 14 14).toNat), (i : Int))) 40 ?_ ?_ (by omega)
    · intro i hi
      unfold X7_checksum_b82
      simp only
      rw [if_neg (by omega), za_2b (by omega) (by omega), Int.toNat_natCast]
      by_cases c : (i : Int) < I 14 14
      · have hdc := (hD.1 i c).2
        obtain ⟨g1, g2, g3, g4⟩ := zVA_8 hV i hi
        rw [(hD.1 i c).1, if_neg (fun y => by cases y), zgDor_1b hdc, show min (i + 1) (I 14 14).toNat = i + 1 by omega, show min i (I 14 14).toNat = i by omega]
        have e2 : zk2 I e (i + 1) = if I 26 i = 0 then (if I 22 (2 * i + 1) = -1 then 31 * zk2 I e i + Int64.ofInt (I 25 (2 * i)) else 31 * (31 * zk2 I e i + Int64.ofInt (I 25 (2 * i))) + Int64.ofInt (I 25 (2 * i + 1))) else zk2 I e i := rfl
        by_cases c2 : I 26 i = 0
        · rw [e2, if_pos c2]
          rcases hP (2 * i) (by omega) with ⟨k1, k2⟩ | ⟨k1, k2, r, k3, k4⟩
          · exact absurd k1 (g3 c c2).1
          · rw [k3, if_neg (fun y => by cases y), zgDor_1b hdc, k3, zgPlc_4b k4]
            unfold X7_checksum_j127
            rw [zgDor_2b hdc]
            rcases hP (2 * i + 1) (by omega) with ⟨m1, m2⟩ | ⟨m1, m2, r2, m3, m4⟩
            · rw [m2, if_pos rfl, zckb (by omega) (by omega), if_pos m1]
              rfl
            · rw [m3, if_neg (fun y => by cases y), zgDor_2b hdc, m3, zgPlc_4b m4, zckb (by omega) (by omega), if_neg (by omega)]
              rfl
        · have c3 := g4 (by omega)
          rw [e2, if_neg c2]
          rcases hP (2 * i) (by omega) with ⟨k1, k2⟩ | ⟨k1, k2, r, k3, k4⟩
          · rw [k2, if_pos rfl]
            unfold X7_checksum_j127
            rw [zgDor_2b hdc]
            rcases hP (2 * i + 1) (by omega) with ⟨m1, m2⟩ | ⟨m1, m2, r2, m3, m4⟩
            · rw [m2, if_pos rfl, zckb (by omega) (by omega)]
              rfl
            · omega
          · omega
      · rw [hD.2 i (by omega), if_pos rfl, zckb (by omega) (by omega), show min (i + 1) (I 14 14).toNat = min i (I 14 14).toNat by omega]
        rfl
    · rfl
  unfold X7_checksum
  rw [zg_0_0b, zl_1b, h, zb, zg_0_1b, zl_2b, h2, zb, zg_0_2b, zg_3_4b, hO.1, show min 12 (I 14 7).toNat = (I 14 7).toNat by omega, show min 40 (I 14 14).toNat = (I 14 14).toNat by omega]
