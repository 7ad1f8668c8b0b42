-- ===== the law's loop (by program: mk98t.py) =====
theorem s_go {n : Nat} {A : zIT} {K : zLT} {I : zIT} {L : zLT} {F : zFT} {E : zET} {dyn : zH} {xs : Nat → Int32} {N b : Nat} {i : Int} (W : zWw n A K I L F dyn) (hn : n ≤ 600) (hi : 0 ≤ i ∧ i + 5 ≤ N ∧ N ≤ 3000) : zNX n i (L_law_b28 xs N b (some 0) (some 14) (some 37) (some 38) (i, zM A K I L F E dyn)) := by
  unfold L_law_b28
  have ea : ∀ y : Int, zand y 31 = some (y % 32) := fun y => rfl
  simp only
  rw [zckb (by omega) (by omega), if_neg (by omega), zscb (by omega) (by omega), ea, zb]
  generalize (xs i.toNat).toInt % 32 = v
  by_cases c0 : v = 0
  · rw [if_pos c0]
    exact s_k0 (xs := xs) W hn hi
  rw [if_neg c0]
  by_cases c1 : v = 1
  · rw [if_pos c1]
    exact s_k1 (xs := xs) W hn hi
  rw [if_neg c1]
  by_cases c2 : v = 2
  · rw [if_pos c2]
    exact s_k2 (xs := xs) W hn hi
  rw [if_neg c2]
  by_cases c3 : v = 3
  · rw [if_pos c3]
    exact s_k3 (xs := xs) W hn hi
  rw [if_neg c3]
  by_cases c4 : v = 4
  · rw [if_pos c4]
    exact s_k4 (xs := xs) W hn hi
  rw [if_neg c4]
  by_cases c5 : v = 5
  · rw [if_pos c5]
    exact s_k5 (xs := xs) W hn hi
  rw [if_neg c5]
  by_cases c6 : v = 6
  · rw [if_pos c6]
    exact s_k6 (xs := xs) W hn hi
  rw [if_neg c6]
  by_cases c7 : v = 7
  · rw [if_pos c7]
    exact s_k7 (xs := xs) W hn hi
  rw [if_neg c7]
  by_cases c8 : v = 8
  · rw [if_pos c8]
    exact s_k8 (xs := xs) W hn hi
  rw [if_neg c8]
  by_cases c9 : v = 9
  · rw [if_pos c9]
    exact s_k9 (xs := xs) W hn hi
  rw [if_neg c9]
  by_cases c10 : v = 10
  · rw [if_pos c10]
    exact s_k10 (xs := xs) W hn hi
  rw [if_neg c10]
  by_cases c11 : v = 11
  · rw [if_pos c11]
    exact s_k11 (xs := xs) W hn hi
  rw [if_neg c11]
  by_cases c12 : v = 12
  · rw [if_pos c12]
    exact s_k12 (xs := xs) W hn hi
  rw [if_neg c12]
  by_cases c13 : v = 13
  · rw [if_pos c13]
    exact s_k13 (xs := xs) W hn hi
  rw [if_neg c13]
  by_cases c14 : v = 14
  · rw [if_pos c14]
    exact s_k14 (xs := xs) W hn hi
  rw [if_neg c14]
  by_cases c15 : v = 15
  · rw [if_pos c15]
    exact s_k15 (xs := xs) W hn hi
  rw [if_neg c15]
  by_cases c16 : v = 16
  · rw [if_pos c16]
    exact s_k16 (xs := xs) W hn hi
  rw [if_neg c16]
  by_cases c17 : v = 17
  · rw [if_pos c17]
    exact s_k17 (xs := xs) W hn hi
  rw [if_neg c17]
  by_cases c18 : v = 18
  · rw [if_pos c18]
    exact s_k18 (xs := xs) W hn hi
  rw [if_neg c18]
  by_cases c19 : v = 19
  · rw [if_pos c19]
    exact s_k19 (xs := xs) W hn hi
  rw [if_neg c19]
  by_cases c20 : v = 20
  · rw [if_pos c20]
    exact s_k20 (xs := xs) W hn hi
  rw [if_neg c20]
  by_cases c21 : v = 21
  · rw [if_pos c21]
    exact s_k21 (xs := xs) W hn hi
  rw [if_neg c21]
  by_cases c22 : v = 22
  · rw [if_pos c22]
    exact s_k22 (xs := xs) W hn hi
  rw [if_neg c22]
  by_cases c23 : v = 23
  · rw [if_pos c23]
    exact s_k23 (xs := xs) W hn hi
  rw [if_neg c23]
  by_cases c24 : v = 24
  · rw [if_pos c24]
    exact s_k24 (xs := xs) W hn hi
  rw [if_neg c24]
  by_cases c25 : v = 25
  · rw [if_pos c25]
    exact s_k25 (xs := xs) W hn hi
  rw [if_neg c25]
  by_cases c26 : v = 26
  · rw [if_pos c26]
    exact s_k26 (xs := xs) W hn hi
  rw [if_neg c26]
  by_cases c27 : v = 27
  · rw [if_pos c27]
    exact s_k27 (xs := xs) W hn hi
  rw [if_neg c27]
  by_cases c28 : v = 28
  · rw [if_pos c28]
    exact s_k28 (xs := xs) W hn hi
  rw [if_neg c28]
  by_cases c29 : v = 29
  · rw [if_pos c29]
    exact s_k29 (xs := xs) W hn hi
  rw [if_neg c29]
  rw [zckb (by omega) (by omega)]
  obtain ⟨rs, rd, fp, rk, h⟩ := W
  exact ⟨A, K, I, L, F, E, dyn, rfl, rs, rd, fp, rk, zWc_up h⟩
theorem s_end {A : zIT} {K : zLT} {I : zIT} {L : zLT} {F : zFT} {E : zET} {dyn : zH} {xs : Nat → Int32} {N b : Nat} {i : Int} (h : (N : Int) - 5 < i ∧ i ≤ 3000 ∧ N ≤ 3000) : ∃ e, L_law_b28 xs N b (some 0) (some 14) (some 37) (some 38) (i, zM A K I L F E dyn) = some (.inr e) := by
  unfold L_law_b28
  simp only
  rw [zckb (by omega) (by omega), if_pos h.1, if_pos h.2.1]
  exact ⟨_, rfl⟩
theorem s_loop {A : zIT} {K : zLT} {I : zIT} {L : zLT} {F : zFT} {E : zET} {dyn : zH} {xs : Nat → Int32} {N b : Nat} (W : zWw 0 A K I L F dyn) (hN : N ≤ 2560) : ∃ e, zloop (L_law_b28 xs N b (some 0) (some 14) (some 37) (some 38)) zN (0, zM A K I L F E dyn) = some e := by
  suffices hh : ∃ e, zloop (L_law_b28 xs N b (some 0) (some 14) (some 37) (some 38)) zN (0, zM A K I L F E dyn) = some e ∧ True by
    obtain ⟨e, h, _⟩ := hh
    exact ⟨e, h⟩
  refine zloop_up (body := L_law_b28 xs N b (some 0) (some 14) (some 37) (some 38)) (fun n s => ∃ (A : zIT) (K : zLT) (I : zIT) (L : zLT) (F : zFT) (E : zET) (dyn : zH), s = (5 * (n : Int), zM A K I L F E dyn) ∧ zWw n A K I L F dyn) (fun _ => True) 600 (fun n s hn hJ => ?_) (fun s hJ => ?_) (0, zM A K I L F E dyn) ⟨A, K, I, L, F, E, dyn, rfl, W⟩ (by omega)
  · obtain ⟨A, K, I, L, F, E, dyn, e, W⟩ := hJ
    subst e
    by_cases c : (N : Int) - 5 < 5 * (n : Int)
    · obtain ⟨e, h⟩ := s_end (A := A) (K := K) (I := I) (L := L) (F := F) (E := E) (dyn := dyn) (xs := xs) (N := N) (b := b) (i := 5 * (n : Int)) ⟨c, by omega, by omega⟩
      exact Or.inr ⟨e, h, trivial⟩
    · obtain ⟨A', K', I', L', F', E', dyn', e, w⟩ := s_go (E := E) (xs := xs) (N := N) (b := b) (i := 5 * (n : Int)) W (by omega) ⟨by omega, by omega, by omega⟩
      exact Or.inl ⟨_, e, A', K', I', L', F', E', dyn', by rw [show 5 * (n : Int) + 5 = 5 * ((n + 1 : Nat) : Int) by omega], w⟩
  · obtain ⟨A, K, I, L, F, E, dyn, e, W⟩ := hJ
    subst e
    obtain ⟨e, h⟩ := s_end (A := A) (K := K) (I := I) (L := L) (F := F) (E := E) (dyn := dyn) (xs := xs) (N := N) (b := b) (i := 5 * ((600 : Nat) : Int)) ⟨by omega, by omega, by omega⟩
    exact ⟨e, h, trivial⟩
