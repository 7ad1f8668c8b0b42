/-! THE HEAP as tables: the 39 cells that the law makes first, and what comes behind (by program) -/
abbrev zIT : Type := Nat → Nat → Int
abbrev zLT : Type := Nat → Nat → Int64
abbrev zFT : Type := Nat → Nat → Option Nat
abbrev zET : Type := Nat → Nat → UInt64
def zu {α : Type} (I : Nat → Nat → α) (c j : Nat) (v : α) : Nat → Nat → α := fun c' j' => if c' = c ∧ j' = j then v else I c' j'
theorem zu_eq {α : Type} {I : Nat → Nat → α} {c j : Nat} {v : α} : zu I c j v c j = v := if_pos ⟨rfl, rfl⟩
theorem zu_j {α : Type} {I : Nat → Nat → α} {c j k : Nat} {v : α} : zu I c j v c k = if k = j then v else I c k := by
  unfold zu
  by_cases h : k = j
  · rw [if_pos ⟨rfl, h⟩, if_pos h]
  · rw [if_neg (fun x => h x.2), if_neg h]
theorem zu_c {α : Type} {I : Nat → Nat → α} {c c' j : Nat} {v : α} (h : c' ≠ c) : zu I c j v c' = I c' := by
  funext k
  exact if_neg (fun x => h x.1)
theorem zu_r {α : Type} {I : Nat → Nat → α} {c j : Nat} {v : α} : zu I c j v c = zup (I c) j v := by
  funext k
  exact zu_j
def zM (A : zIT) (K : zLT) (I : zIT) (L : zLT) (F : zFT) (E : zET) (dyn : zH) : zH := [.inr (8, [zR (some 1), zR (some 2), zR (some 3), zR (some 8), zR (some 12), zI (A 0 5), zI (A 0 6), zL (K 0 7), zI (A 0 8)]),
  .inl (5, 12, .inr (.inr (.inr (F 1)))),
  .inl (6, 40, .inr (.inr (.inr (F 2)))),
  .inr (4, [zR (some 4), zR (some 5), zR (some 6), zR (some 7), zI (A 3 4), zI (A 3 5)]),
  .inl (1, 200, .inr (.inl (K 4))),
  .inl (0, 200, .inl (A 5)),
  .inl (0, 200, .inl (A 6)),
  .inl (0, 200, .inl (A 7)),
  .inr (3, [zR (some 9), zR (some 10), zR (some 11), zI (A 8 3), zI (A 8 4), zI (A 8 5), zI (A 8 6)]),
  .inl (0, 40, .inl (A 9)),
  .inl (2, 40, .inl (A 10)),
  .inl (0, 40, .inl (A 11)),
  .inr (5, [zR (some 13), zI (A 12 1)]),
  .inl (0, 40, .inl (A 13)),
  .inr (9, [zR (some 15), zR (some 16), zR (some 17), zR (some 18), zR (some 19), zR (some 20), zR (some 21), zI (I 14 7), zR (some 22), zR (some 23), zR (some 24), zR (some 25), zR (some 26), zR (some 27), zI (I 14 14), zR (some 28), zR (some 29), zR (some 30), zR (some 31), zI (I 14 19), zR (some 32), zR (some 33), zR (some 34), zR (some 35), zR (some 36), zI (I 14 25), zL (L 14 26), zI (I 14 27), zI (I 14 28), zI (I 14 29)]),
  .inl (1, 12, .inr (.inl (L 15))),
  .inl (1, 12, .inr (.inl (L 16))),
  .inl (0, 12, .inl (I 17)),
  .inl (3, 12, .inl (I 18)),
  .inl (2, 12, .inl (I 19)),
  .inl (2, 12, .inl (I 20)),
  .inl (0, 12, .inl (I 21)),
  .inl (0, 80, .inl (I 22)),
  .inl (0, 80, .inl (I 23)),
  .inl (3, 80, .inl (I 24)),
  .inl (0, 80, .inl (I 25)),
  .inl (2, 40, .inl (I 26)),
  .inl (0, 40, .inl (I 27)),
  .inl (1, 200, .inr (.inl (L 28))),
  .inl (0, 200, .inl (I 29)),
  .inl (0, 200, .inl (I 30)),
  .inl (0, 200, .inl (I 31)),
  .inl (0, 80, .inl (I 32)),
  .inl (0, 80, .inl (I 33)),
  .inl (3, 80, .inl (I 34)),
  .inl (0, 80, .inl (I 35)),
  .inl (0, 40, .inl (I 36)),
  .inl (1, 1, .inr (.inl (L 37))),
  .inl (4, 1, .inr (.inr (.inl (E 38))))] ++ dyn
theorem zM_dyn {A : zIT} {K : zLT} {I : zIT} {L : zLT} {F : zFT} {E : zET} {dyn : zH} (j : Nat) : (zM A K I L F E dyn)[j + 39]? = dyn[j]? := rfl
theorem zM_set {A : zIT} {K : zLT} {I : zIT} {L : zLT} {F : zFT} {E : zET} {dyn : zH} (j : Nat) (x : zCell) : (zM A K I L F E dyn).set (j + 39) x = zM A K I L F E (dyn.set j x) := rfl
theorem zM_app {A : zIT} {K : zLT} {I : zIT} {L : zLT} {F : zFT} {E : zET} {dyn : zH} (x : zCell) : zM A K I L F E dyn ++ [x] = zM A K I L F E (dyn ++ [x]) := rfl
theorem zM_len {A : zIT} {K : zLT} {I : zIT} {L : zLT} {F : zFT} {E : zET} {dyn : zH} : (zM A K I L F E dyn).length = dyn.length + 39 := by
  unfold zM
  rw [List.length_append]
  exact Nat.add_comm _ _
theorem zo_0 {A : zIT} {K : zLT} {I : zIT} {L : zLT} {F : zFT} {E : zET} {dyn : zH} : zobj (zM A K I L F E dyn) (some 0) 8 = some (0, [zR (some 1), zR (some 2), zR (some 3), zR (some 8), zR (some 12), zI (A 0 5), zI (A 0 6), zL (K 0 7), zI (A 0 8)]) := rfl
theorem zg_0_0 {A : zIT} {K : zLT} {I : zIT} {L : zLT} {F : zFT} {E : zET} {dyn : zH} : zgR (zM A K I L F E dyn) (some 0) 8 0 = some (some 1) := rfl
theorem zg_0_1 {A : zIT} {K : zLT} {I : zIT} {L : zLT} {F : zFT} {E : zET} {dyn : zH} : zgR (zM A K I L F E dyn) (some 0) 8 1 = some (some 2) := rfl
theorem zg_0_2 {A : zIT} {K : zLT} {I : zIT} {L : zLT} {F : zFT} {E : zET} {dyn : zH} : zgR (zM A K I L F E dyn) (some 0) 8 2 = some (some 3) := rfl
theorem zg_0_3 {A : zIT} {K : zLT} {I : zIT} {L : zLT} {F : zFT} {E : zET} {dyn : zH} : zgR (zM A K I L F E dyn) (some 0) 8 3 = some (some 8) := rfl
theorem zg_0_4 {A : zIT} {K : zLT} {I : zIT} {L : zLT} {F : zFT} {E : zET} {dyn : zH} : zgR (zM A K I L F E dyn) (some 0) 8 4 = some (some 12) := rfl
theorem zg_0_5 {A : zIT} {K : zLT} {I : zIT} {L : zLT} {F : zFT} {E : zET} {dyn : zH} : zgI (zM A K I L F E dyn) (some 0) 8 5 = some (A 0 5) := rfl
theorem zp_0_5 {A : zIT} {K : zLT} {I : zIT} {L : zLT} {F : zFT} {E : zET} {dyn : zH} {v : Int} : zpI (zM A K I L F E dyn) (some 0) 8 5 v = some (zM (zu A 0 5 v) K I L F E dyn) := by
  show some ((zM A K I L F E dyn).set 0 _) = _
  apply congrArg some
  unfold zM
  simp only [zu_j, zu_c, ne_eq, reduceCtorEq, not_false_eq_true, Nat.reduceEqDiff, List.set_cons_zero, List.set_cons_succ, List.cons_append, List.nil_append, if_true, if_false, zu_eq]
  all_goals rfl
theorem zg_0_6 {A : zIT} {K : zLT} {I : zIT} {L : zLT} {F : zFT} {E : zET} {dyn : zH} : zgI (zM A K I L F E dyn) (some 0) 8 6 = some (A 0 6) := rfl
theorem zp_0_6 {A : zIT} {K : zLT} {I : zIT} {L : zLT} {F : zFT} {E : zET} {dyn : zH} {v : Int} : zpI (zM A K I L F E dyn) (some 0) 8 6 v = some (zM (zu A 0 6 v) K I L F E dyn) := by
  show some ((zM A K I L F E dyn).set 0 _) = _
  apply congrArg some
  unfold zM
  simp only [zu_j, zu_c, ne_eq, reduceCtorEq, not_false_eq_true, Nat.reduceEqDiff, List.set_cons_zero, List.set_cons_succ, List.cons_append, List.nil_append, if_true, if_false, zu_eq]
  all_goals rfl
theorem zg_0_7 {A : zIT} {K : zLT} {I : zIT} {L : zLT} {F : zFT} {E : zET} {dyn : zH} : zgJ (zM A K I L F E dyn) (some 0) 8 7 = some (K 0 7) := rfl
theorem zp_0_7 {A : zIT} {K : zLT} {I : zIT} {L : zLT} {F : zFT} {E : zET} {dyn : zH} {v : Int64} : zpJ (zM A K I L F E dyn) (some 0) 8 7 v = some (zM A (zu K 0 7 v) I L F E dyn) := by
  show some ((zM A K I L F E dyn).set 0 _) = _
  apply congrArg some
  unfold zM
  simp only [zu_j, zu_c, ne_eq, reduceCtorEq, not_false_eq_true, Nat.reduceEqDiff, List.set_cons_zero, List.set_cons_succ, List.cons_append, List.nil_append, if_true, if_false, zu_eq]
  all_goals rfl
theorem zg_0_8 {A : zIT} {K : zLT} {I : zIT} {L : zLT} {F : zFT} {E : zET} {dyn : zH} : zgI (zM A K I L F E dyn) (some 0) 8 8 = some (A 0 8) := rfl
theorem zp_0_8 {A : zIT} {K : zLT} {I : zIT} {L : zLT} {F : zFT} {E : zET} {dyn : zH} {v : Int} : zpI (zM A K I L F E dyn) (some 0) 8 8 v = some (zM (zu A 0 8 v) K I L F E dyn) := by
  show some ((zM A K I L F E dyn).set 0 _) = _
  apply congrArg some
  unfold zM
  simp only [zu_j, zu_c, ne_eq, reduceCtorEq, not_false_eq_true, Nat.reduceEqDiff, List.set_cons_zero, List.set_cons_succ, List.cons_append, List.nil_append, if_true, if_false, zu_eq]
  all_goals rfl
theorem za_1 {A : zIT} {K : zLT} {I : zIT} {L : zLT} {F : zFT} {E : zET} {dyn : zH} {i : Int} (h0 : 0 ≤ i) (h1 : i < 12) : zaR (zM A K I L F E dyn) 5 (some 1) i = some (F 1 i.toNat) := by
  have hz : zarr (zM A K I L F E dyn) (some 1) 5 i = some (1, 12, .inr (.inr (.inr (F 1)))) := by
    show ((if 5 = 5 ∧ 0 ≤ i ∧ i < ((12 : Nat) : Int) then some (12, (.inr (.inr (.inr (F 1))) : zC)) else none).bind fun q => some (1, q)) = _
    rw [if_pos ⟨rfl, h0, h1⟩]
    rfl
  unfold zaR
  rw [hz]
  rfl
theorem zs_1 {A : zIT} {K : zLT} {I : zIT} {L : zLT} {F : zFT} {E : zET} {dyn : zH} {i : Int} {q : Nat} {fs : List zPV} (h0 : 0 ≤ i) (h1 : i < 12) (hq : zobj (zM A K I L F E dyn) (some q) 7 = some (q, fs)) : zsR (zM A K I L F E dyn) 5 (some 1) i (some q) 7 = some (zM A K I L (zu F 1 i.toNat (some q)) E dyn) := by
  have hz : zarr (zM A K I L F E dyn) (some 1) 5 i = some (1, 12, .inr (.inr (.inr (F 1)))) := by
    show ((if 5 = 5 ∧ 0 ≤ i ∧ i < ((12 : Nat) : Int) then some (12, (.inr (.inr (.inr (F 1))) : zC)) else none).bind fun q => some (1, q)) = _
    rw [if_pos ⟨rfl, h0, h1⟩]
    rfl
  unfold zsR
  rw [hz, hq]
  show some ((zM A K I L F E dyn).set 1 _) = _
  apply congrArg some
  unfold zM
  simp only [zu_r, zu_c, ne_eq, reduceCtorEq, not_false_eq_true, Nat.reduceEqDiff, List.set_cons_zero, List.set_cons_succ, List.cons_append, List.nil_append]
theorem zl_1 {A : zIT} {K : zLT} {I : zIT} {L : zLT} {F : zFT} {E : zET} {dyn : zH} : zlen (zM A K I L F E dyn) (some 1) = some 12 := rfl
theorem za_2 {A : zIT} {K : zLT} {I : zIT} {L : zLT} {F : zFT} {E : zET} {dyn : zH} {i : Int} (h0 : 0 ≤ i) (h1 : i < 40) : zaR (zM A K I L F E dyn) 6 (some 2) i = some (F 2 i.toNat) := by
  have hz : zarr (zM A K I L F E dyn) (some 2) 6 i = some (2, 40, .inr (.inr (.inr (F 2)))) := by
    show ((if 6 = 6 ∧ 0 ≤ i ∧ i < ((40 : Nat) : Int) then some (40, (.inr (.inr (.inr (F 2))) : zC)) else none).bind fun q => some (2, q)) = _
    rw [if_pos ⟨rfl, h0, h1⟩]
    rfl
  unfold zaR
  rw [hz]
  rfl
theorem zs_2 {A : zIT} {K : zLT} {I : zIT} {L : zLT} {F : zFT} {E : zET} {dyn : zH} {i : Int} {q : Nat} {fs : List zPV} (h0 : 0 ≤ i) (h1 : i < 40) (hq : zobj (zM A K I L F E dyn) (some q) 2 = some (q, fs)) : zsR (zM A K I L F E dyn) 6 (some 2) i (some q) 2 = some (zM A K I L (zu F 2 i.toNat (some q)) E dyn) := by
  have hz : zarr (zM A K I L F E dyn) (some 2) 6 i = some (2, 40, .inr (.inr (.inr (F 2)))) := by
    show ((if 6 = 6 ∧ 0 ≤ i ∧ i < ((40 : Nat) : Int) then some (40, (.inr (.inr (.inr (F 2))) : zC)) else none).bind fun q => some (2, q)) = _
    rw [if_pos ⟨rfl, h0, h1⟩]
    rfl
  unfold zsR
  rw [hz, hq]
  show some ((zM A K I L F E dyn).set 2 _) = _
  apply congrArg some
  unfold zM
  simp only [zu_r, zu_c, ne_eq, reduceCtorEq, not_false_eq_true, Nat.reduceEqDiff, List.set_cons_zero, List.set_cons_succ, List.cons_append, List.nil_append]
theorem zl_2 {A : zIT} {K : zLT} {I : zIT} {L : zLT} {F : zFT} {E : zET} {dyn : zH} : zlen (zM A K I L F E dyn) (some 2) = some 40 := rfl
theorem zo_3 {A : zIT} {K : zLT} {I : zIT} {L : zLT} {F : zFT} {E : zET} {dyn : zH} : zobj (zM A K I L F E dyn) (some 3) 4 = some (3, [zR (some 4), zR (some 5), zR (some 6), zR (some 7), zI (A 3 4), zI (A 3 5)]) := rfl
theorem zg_3_0 {A : zIT} {K : zLT} {I : zIT} {L : zLT} {F : zFT} {E : zET} {dyn : zH} : zgR (zM A K I L F E dyn) (some 3) 4 0 = some (some 4) := rfl
theorem zg_3_1 {A : zIT} {K : zLT} {I : zIT} {L : zLT} {F : zFT} {E : zET} {dyn : zH} : zgR (zM A K I L F E dyn) (some 3) 4 1 = some (some 5) := rfl
theorem zg_3_2 {A : zIT} {K : zLT} {I : zIT} {L : zLT} {F : zFT} {E : zET} {dyn : zH} : zgR (zM A K I L F E dyn) (some 3) 4 2 = some (some 6) := rfl
theorem zg_3_3 {A : zIT} {K : zLT} {I : zIT} {L : zLT} {F : zFT} {E : zET} {dyn : zH} : zgR (zM A K I L F E dyn) (some 3) 4 3 = some (some 7) := rfl
theorem zg_3_4 {A : zIT} {K : zLT} {I : zIT} {L : zLT} {F : zFT} {E : zET} {dyn : zH} : zgI (zM A K I L F E dyn) (some 3) 4 4 = some (A 3 4) := rfl
theorem zp_3_4 {A : zIT} {K : zLT} {I : zIT} {L : zLT} {F : zFT} {E : zET} {dyn : zH} {v : Int} : zpI (zM A K I L F E dyn) (some 3) 4 4 v = some (zM (zu A 3 4 v) K I L F E dyn) := by
  show some ((zM A K I L F E dyn).set 3 _) = _
  apply congrArg some
  unfold zM
  simp only [zu_j, zu_c, ne_eq, reduceCtorEq, not_false_eq_true, Nat.reduceEqDiff, List.set_cons_zero, List.set_cons_succ, List.cons_append, List.nil_append, if_true, if_false, zu_eq]
  all_goals rfl
theorem zg_3_5 {A : zIT} {K : zLT} {I : zIT} {L : zLT} {F : zFT} {E : zET} {dyn : zH} : zgI (zM A K I L F E dyn) (some 3) 4 5 = some (A 3 5) := rfl
theorem zp_3_5 {A : zIT} {K : zLT} {I : zIT} {L : zLT} {F : zFT} {E : zET} {dyn : zH} {v : Int} : zpI (zM A K I L F E dyn) (some 3) 4 5 v = some (zM (zu A 3 5 v) K I L F E dyn) := by
  show some ((zM A K I L F E dyn).set 3 _) = _
  apply congrArg some
  unfold zM
  simp only [zu_j, zu_c, ne_eq, reduceCtorEq, not_false_eq_true, Nat.reduceEqDiff, List.set_cons_zero, List.set_cons_succ, List.cons_append, List.nil_append, if_true, if_false, zu_eq]
  all_goals rfl
theorem za_4 {A : zIT} {K : zLT} {I : zIT} {L : zLT} {F : zFT} {E : zET} {dyn : zH} {i : Int} (h0 : 0 ≤ i) (h1 : i < 200) : zaJ (zM A K I L F E dyn) (some 4) i = some (K 4 i.toNat) := by
  have hz : zarr (zM A K I L F E dyn) (some 4) 1 i = some (4, 200, .inr (.inl (K 4))) := by
    show ((if 1 = 1 ∧ 0 ≤ i ∧ i < ((200 : Nat) : Int) then some (200, (.inr (.inl (K 4)) : zC)) else none).bind fun q => some (4, q)) = _
    rw [if_pos ⟨rfl, h0, h1⟩]
    rfl
  unfold zaJ
  rw [hz]
  rfl
theorem zs_4 {A : zIT} {K : zLT} {I : zIT} {L : zLT} {F : zFT} {E : zET} {dyn : zH} {i : Int} {v : Int64} (h0 : 0 ≤ i) (h1 : i < 200) : zsJ (zM A K I L F E dyn) (some 4) i v = some (zM A (zu K 4 i.toNat v) I L F E dyn) := by
  have hz : zarr (zM A K I L F E dyn) (some 4) 1 i = some (4, 200, .inr (.inl (K 4))) := by
    show ((if 1 = 1 ∧ 0 ≤ i ∧ i < ((200 : Nat) : Int) then some (200, (.inr (.inl (K 4)) : zC)) else none).bind fun q => some (4, q)) = _
    rw [if_pos ⟨rfl, h0, h1⟩]
    rfl
  unfold zsJ
  rw [hz]
  show some ((zM A K I L F E dyn).set 4 _) = _
  apply congrArg some
  unfold zM
  simp only [zu_r, zu_c, ne_eq, reduceCtorEq, not_false_eq_true, Nat.reduceEqDiff, List.set_cons_zero, List.set_cons_succ, List.cons_append, List.nil_append]
theorem zl_4 {A : zIT} {K : zLT} {I : zIT} {L : zLT} {F : zFT} {E : zET} {dyn : zH} : zlen (zM A K I L F E dyn) (some 4) = some 200 := rfl
theorem za_5 {A : zIT} {K : zLT} {I : zIT} {L : zLT} {F : zFT} {E : zET} {dyn : zH} {i : Int} (h0 : 0 ≤ i) (h1 : i < 200) : zaI (zM A K I L F E dyn) 0 (some 5) i = some (A 5 i.toNat) := by
  have hz : zarr (zM A K I L F E dyn) (some 5) 0 i = some (5, 200, .inl (A 5)) := by
    show ((if 0 = 0 ∧ 0 ≤ i ∧ i < ((200 : Nat) : Int) then some (200, (.inl (A 5) : zC)) else none).bind fun q => some (5, q)) = _
    rw [if_pos ⟨rfl, h0, h1⟩]
    rfl
  unfold zaI
  rw [hz]
  rfl
theorem zs_5 {A : zIT} {K : zLT} {I : zIT} {L : zLT} {F : zFT} {E : zET} {dyn : zH} {i v : Int} (h0 : 0 ≤ i) (h1 : i < 200) : zsI (zM A K I L F E dyn) 0 (some 5) i v = some (zM (zu A 5 i.toNat v) K I L F E dyn) := by
  have hz : zarr (zM A K I L F E dyn) (some 5) 0 i = some (5, 200, .inl (A 5)) := by
    show ((if 0 = 0 ∧ 0 ≤ i ∧ i < ((200 : Nat) : Int) then some (200, (.inl (A 5) : zC)) else none).bind fun q => some (5, q)) = _
    rw [if_pos ⟨rfl, h0, h1⟩]
    rfl
  unfold zsI
  rw [hz]
  show (if (0 = 2 → v = 0 ∨ v = 1) ∧ (0 = 3 → 0 ≤ v ∧ v ≤ 65535) then some ((zM A K I L F E dyn).set 5 (.inl (0, 200, .inl (zup (A 5) i.toNat v)))) else none) = _
  rw [if_pos ⟨(fun h => by cases h), (fun h => by cases h)⟩]
  apply congrArg some
  unfold zM
  simp only [zu_r, zu_c, ne_eq, reduceCtorEq, not_false_eq_true, Nat.reduceEqDiff, List.set_cons_zero, List.set_cons_succ, List.cons_append, List.nil_append]
theorem zl_5 {A : zIT} {K : zLT} {I : zIT} {L : zLT} {F : zFT} {E : zET} {dyn : zH} : zlen (zM A K I L F E dyn) (some 5) = some 200 := rfl
theorem za_6 {A : zIT} {K : zLT} {I : zIT} {L : zLT} {F : zFT} {E : zET} {dyn : zH} {i : Int} (h0 : 0 ≤ i) (h1 : i < 200) : zaI (zM A K I L F E dyn) 0 (some 6) i = some (A 6 i.toNat) := by
  have hz : zarr (zM A K I L F E dyn) (some 6) 0 i = some (6, 200, .inl (A 6)) := by
    show ((if 0 = 0 ∧ 0 ≤ i ∧ i < ((200 : Nat) : Int) then some (200, (.inl (A 6) : zC)) else none).bind fun q => some (6, q)) = _
    rw [if_pos ⟨rfl, h0, h1⟩]
    rfl
  unfold zaI
  rw [hz]
  rfl
theorem zs_6 {A : zIT} {K : zLT} {I : zIT} {L : zLT} {F : zFT} {E : zET} {dyn : zH} {i v : Int} (h0 : 0 ≤ i) (h1 : i < 200) : zsI (zM A K I L F E dyn) 0 (some 6) i v = some (zM (zu A 6 i.toNat v) K I L F E dyn) := by
  have hz : zarr (zM A K I L F E dyn) (some 6) 0 i = some (6, 200, .inl (A 6)) := by
    show ((if 0 = 0 ∧ 0 ≤ i ∧ i < ((200 : Nat) : Int) then some (200, (.inl (A 6) : zC)) else none).bind fun q => some (6, q)) = _
    rw [if_pos ⟨rfl, h0, h1⟩]
    rfl
  unfold zsI
  rw [hz]
  show (if (0 = 2 → v = 0 ∨ v = 1) ∧ (0 = 3 → 0 ≤ v ∧ v ≤ 65535) then some ((zM A K I L F E dyn).set 6 (.inl (0, 200, .inl (zup (A 6) i.toNat v)))) else none) = _
  rw [if_pos ⟨(fun h => by cases h), (fun h => by cases h)⟩]
  apply congrArg some
  unfold zM
  simp only [zu_r, zu_c, ne_eq, reduceCtorEq, not_false_eq_true, Nat.reduceEqDiff, List.set_cons_zero, List.set_cons_succ, List.cons_append, List.nil_append]
theorem zl_6 {A : zIT} {K : zLT} {I : zIT} {L : zLT} {F : zFT} {E : zET} {dyn : zH} : zlen (zM A K I L F E dyn) (some 6) = some 200 := rfl
theorem za_7 {A : zIT} {K : zLT} {I : zIT} {L : zLT} {F : zFT} {E : zET} {dyn : zH} {i : Int} (h0 : 0 ≤ i) (h1 : i < 200) : zaI (zM A K I L F E dyn) 0 (some 7) i = some (A 7 i.toNat) := by
  have hz : zarr (zM A K I L F E dyn) (some 7) 0 i = some (7, 200, .inl (A 7)) := by
    show ((if 0 = 0 ∧ 0 ≤ i ∧ i < ((200 : Nat) : Int) then some (200, (.inl (A 7) : zC)) else none).bind fun q => some (7, q)) = _
    rw [if_pos ⟨rfl, h0, h1⟩]
    rfl
  unfold zaI
  rw [hz]
  rfl
theorem zs_7 {A : zIT} {K : zLT} {I : zIT} {L : zLT} {F : zFT} {E : zET} {dyn : zH} {i v : Int} (h0 : 0 ≤ i) (h1 : i < 200) : zsI (zM A K I L F E dyn) 0 (some 7) i v = some (zM (zu A 7 i.toNat v) K I L F E dyn) := by
  have hz : zarr (zM A K I L F E dyn) (some 7) 0 i = some (7, 200, .inl (A 7)) := by
    show ((if 0 = 0 ∧ 0 ≤ i ∧ i < ((200 : Nat) : Int) then some (200, (.inl (A 7) : zC)) else none).bind fun q => some (7, q)) = _
    rw [if_pos ⟨rfl, h0, h1⟩]
    rfl
  unfold zsI
  rw [hz]
  show (if (0 = 2 → v = 0 ∨ v = 1) ∧ (0 = 3 → 0 ≤ v ∧ v ≤ 65535) then some ((zM A K I L F E dyn).set 7 (.inl (0, 200, .inl (zup (A 7) i.toNat v)))) else none) = _
  rw [if_pos ⟨(fun h => by cases h), (fun h => by cases h)⟩]
  apply congrArg some
  unfold zM
  simp only [zu_r, zu_c, ne_eq, reduceCtorEq, not_false_eq_true, Nat.reduceEqDiff, List.set_cons_zero, List.set_cons_succ, List.cons_append, List.nil_append]
theorem zl_7 {A : zIT} {K : zLT} {I : zIT} {L : zLT} {F : zFT} {E : zET} {dyn : zH} : zlen (zM A K I L F E dyn) (some 7) = some 200 := rfl
theorem zo_8 {A : zIT} {K : zLT} {I : zIT} {L : zLT} {F : zFT} {E : zET} {dyn : zH} : zobj (zM A K I L F E dyn) (some 8) 3 = some (8, [zR (some 9), zR (some 10), zR (some 11), zI (A 8 3), zI (A 8 4), zI (A 8 5), zI (A 8 6)]) := rfl
theorem zg_8_0 {A : zIT} {K : zLT} {I : zIT} {L : zLT} {F : zFT} {E : zET} {dyn : zH} : zgR (zM A K I L F E dyn) (some 8) 3 0 = some (some 9) := rfl
theorem zg_8_1 {A : zIT} {K : zLT} {I : zIT} {L : zLT} {F : zFT} {E : zET} {dyn : zH} : zgR (zM A K I L F E dyn) (some 8) 3 1 = some (some 10) := rfl
theorem zg_8_2 {A : zIT} {K : zLT} {I : zIT} {L : zLT} {F : zFT} {E : zET} {dyn : zH} : zgR (zM A K I L F E dyn) (some 8) 3 2 = some (some 11) := rfl
theorem zg_8_3 {A : zIT} {K : zLT} {I : zIT} {L : zLT} {F : zFT} {E : zET} {dyn : zH} : zgI (zM A K I L F E dyn) (some 8) 3 3 = some (A 8 3) := rfl
theorem zp_8_3 {A : zIT} {K : zLT} {I : zIT} {L : zLT} {F : zFT} {E : zET} {dyn : zH} {v : Int} (hv : 0 ≤ v ∧ v ≤ 65535) : zpC (zM A K I L F E dyn) (some 8) 3 3 v = some (zM (zu A 8 3 v) K I L F E dyn) := by
  unfold zpC
  rw [if_pos hv]
  show some ((zM A K I L F E dyn).set 8 _) = _
  apply congrArg some
  unfold zM
  simp only [zu_j, zu_c, ne_eq, reduceCtorEq, not_false_eq_true, Nat.reduceEqDiff, List.set_cons_zero, List.set_cons_succ, List.cons_append, List.nil_append, if_true, if_false, zu_eq]
  all_goals rfl
theorem zg_8_4 {A : zIT} {K : zLT} {I : zIT} {L : zLT} {F : zFT} {E : zET} {dyn : zH} : zgI (zM A K I L F E dyn) (some 8) 3 4 = some (A 8 4) := rfl
theorem zp_8_4 {A : zIT} {K : zLT} {I : zIT} {L : zLT} {F : zFT} {E : zET} {dyn : zH} {v : Int} (hv : v = 0 ∨ v = 1) : zpZ (zM A K I L F E dyn) (some 8) 3 4 v = some (zM (zu A 8 4 v) K I L F E dyn) := by
  unfold zpZ
  rw [if_pos hv]
  show some ((zM A K I L F E dyn).set 8 _) = _
  apply congrArg some
  unfold zM
  simp only [zu_j, zu_c, ne_eq, reduceCtorEq, not_false_eq_true, Nat.reduceEqDiff, List.set_cons_zero, List.set_cons_succ, List.cons_append, List.nil_append, if_true, if_false, zu_eq]
  all_goals rfl
theorem zg_8_5 {A : zIT} {K : zLT} {I : zIT} {L : zLT} {F : zFT} {E : zET} {dyn : zH} : zgI (zM A K I L F E dyn) (some 8) 3 5 = some (A 8 5) := rfl
theorem zp_8_5 {A : zIT} {K : zLT} {I : zIT} {L : zLT} {F : zFT} {E : zET} {dyn : zH} {v : Int} : zpI (zM A K I L F E dyn) (some 8) 3 5 v = some (zM (zu A 8 5 v) K I L F E dyn) := by
  show some ((zM A K I L F E dyn).set 8 _) = _
  apply congrArg some
  unfold zM
  simp only [zu_j, zu_c, ne_eq, reduceCtorEq, not_false_eq_true, Nat.reduceEqDiff, List.set_cons_zero, List.set_cons_succ, List.cons_append, List.nil_append, if_true, if_false, zu_eq]
  all_goals rfl
theorem zg_8_6 {A : zIT} {K : zLT} {I : zIT} {L : zLT} {F : zFT} {E : zET} {dyn : zH} : zgI (zM A K I L F E dyn) (some 8) 3 6 = some (A 8 6) := rfl
theorem zp_8_6 {A : zIT} {K : zLT} {I : zIT} {L : zLT} {F : zFT} {E : zET} {dyn : zH} {v : Int} : zpI (zM A K I L F E dyn) (some 8) 3 6 v = some (zM (zu A 8 6 v) K I L F E dyn) := by
  show some ((zM A K I L F E dyn).set 8 _) = _
  apply congrArg some
  unfold zM
  simp only [zu_j, zu_c, ne_eq, reduceCtorEq, not_false_eq_true, Nat.reduceEqDiff, List.set_cons_zero, List.set_cons_succ, List.cons_append, List.nil_append, if_true, if_false, zu_eq]
  all_goals rfl
theorem za_9 {A : zIT} {K : zLT} {I : zIT} {L : zLT} {F : zFT} {E : zET} {dyn : zH} {i : Int} (h0 : 0 ≤ i) (h1 : i < 40) : zaI (zM A K I L F E dyn) 0 (some 9) i = some (A 9 i.toNat) := by
  have hz : zarr (zM A K I L F E dyn) (some 9) 0 i = some (9, 40, .inl (A 9)) := by
    show ((if 0 = 0 ∧ 0 ≤ i ∧ i < ((40 : Nat) : Int) then some (40, (.inl (A 9) : zC)) else none).bind fun q => some (9, q)) = _
    rw [if_pos ⟨rfl, h0, h1⟩]
    rfl
  unfold zaI
  rw [hz]
  rfl
theorem zs_9 {A : zIT} {K : zLT} {I : zIT} {L : zLT} {F : zFT} {E : zET} {dyn : zH} {i v : Int} (h0 : 0 ≤ i) (h1 : i < 40) : zsI (zM A K I L F E dyn) 0 (some 9) i v = some (zM (zu A 9 i.toNat v) K I L F E dyn) := by
  have hz : zarr (zM A K I L F E dyn) (some 9) 0 i = some (9, 40, .inl (A 9)) := by
    show ((if 0 = 0 ∧ 0 ≤ i ∧ i < ((40 : Nat) : Int) then some (40, (.inl (A 9) : zC)) else none).bind fun q => some (9, q)) = _
    rw [if_pos ⟨rfl, h0, h1⟩]
    rfl
  unfold zsI
  rw [hz]
  show (if (0 = 2 → v = 0 ∨ v = 1) ∧ (0 = 3 → 0 ≤ v ∧ v ≤ 65535) then some ((zM A K I L F E dyn).set 9 (.inl (0, 40, .inl (zup (A 9) i.toNat v)))) else none) = _
  rw [if_pos ⟨(fun h => by cases h), (fun h => by cases h)⟩]
  apply congrArg some
  unfold zM
  simp only [zu_r, zu_c, ne_eq, reduceCtorEq, not_false_eq_true, Nat.reduceEqDiff, List.set_cons_zero, List.set_cons_succ, List.cons_append, List.nil_append]
theorem zl_9 {A : zIT} {K : zLT} {I : zIT} {L : zLT} {F : zFT} {E : zET} {dyn : zH} : zlen (zM A K I L F E dyn) (some 9) = some 40 := rfl
theorem za_10 {A : zIT} {K : zLT} {I : zIT} {L : zLT} {F : zFT} {E : zET} {dyn : zH} {i : Int} (h0 : 0 ≤ i) (h1 : i < 40) : zaI (zM A K I L F E dyn) 2 (some 10) i = some (A 10 i.toNat) := by
  have hz : zarr (zM A K I L F E dyn) (some 10) 2 i = some (10, 40, .inl (A 10)) := by
    show ((if 2 = 2 ∧ 0 ≤ i ∧ i < ((40 : Nat) : Int) then some (40, (.inl (A 10) : zC)) else none).bind fun q => some (10, q)) = _
    rw [if_pos ⟨rfl, h0, h1⟩]
    rfl
  unfold zaI
  rw [hz]
  rfl
theorem zs_10 {A : zIT} {K : zLT} {I : zIT} {L : zLT} {F : zFT} {E : zET} {dyn : zH} {i v : Int} (h0 : 0 ≤ i) (h1 : i < 40) (hv : v = 0 ∨ v = 1) : zsI (zM A K I L F E dyn) 2 (some 10) i v = some (zM (zu A 10 i.toNat v) K I L F E dyn) := by
  have hz : zarr (zM A K I L F E dyn) (some 10) 2 i = some (10, 40, .inl (A 10)) := by
    show ((if 2 = 2 ∧ 0 ≤ i ∧ i < ((40 : Nat) : Int) then some (40, (.inl (A 10) : zC)) else none).bind fun q => some (10, q)) = _
    rw [if_pos ⟨rfl, h0, h1⟩]
    rfl
  unfold zsI
  rw [hz]
  show (if (2 = 2 → v = 0 ∨ v = 1) ∧ (2 = 3 → 0 ≤ v ∧ v ≤ 65535) then some ((zM A K I L F E dyn).set 10 (.inl (2, 40, .inl (zup (A 10) i.toNat v)))) else none) = _
  rw [if_pos ⟨(fun _ => hv), (fun h => by cases h)⟩]
  apply congrArg some
  unfold zM
  simp only [zu_r, zu_c, ne_eq, reduceCtorEq, not_false_eq_true, Nat.reduceEqDiff, List.set_cons_zero, List.set_cons_succ, List.cons_append, List.nil_append]
theorem zl_10 {A : zIT} {K : zLT} {I : zIT} {L : zLT} {F : zFT} {E : zET} {dyn : zH} : zlen (zM A K I L F E dyn) (some 10) = some 40 := rfl
theorem za_11 {A : zIT} {K : zLT} {I : zIT} {L : zLT} {F : zFT} {E : zET} {dyn : zH} {i : Int} (h0 : 0 ≤ i) (h1 : i < 40) : zaI (zM A K I L F E dyn) 0 (some 11) i = some (A 11 i.toNat) := by
  have hz : zarr (zM A K I L F E dyn) (some 11) 0 i = some (11, 40, .inl (A 11)) := by
    show ((if 0 = 0 ∧ 0 ≤ i ∧ i < ((40 : Nat) : Int) then some (40, (.inl (A 11) : zC)) else none).bind fun q => some (11, q)) = _
    rw [if_pos ⟨rfl, h0, h1⟩]
    rfl
  unfold zaI
  rw [hz]
  rfl
theorem zs_11 {A : zIT} {K : zLT} {I : zIT} {L : zLT} {F : zFT} {E : zET} {dyn : zH} {i v : Int} (h0 : 0 ≤ i) (h1 : i < 40) : zsI (zM A K I L F E dyn) 0 (some 11) i v = some (zM (zu A 11 i.toNat v) K I L F E dyn) := by
  have hz : zarr (zM A K I L F E dyn) (some 11) 0 i = some (11, 40, .inl (A 11)) := by
    show ((if 0 = 0 ∧ 0 ≤ i ∧ i < ((40 : Nat) : Int) then some (40, (.inl (A 11) : zC)) else none).bind fun q => some (11, q)) = _
    rw [if_pos ⟨rfl, h0, h1⟩]
    rfl
  unfold zsI
  rw [hz]
  show (if (0 = 2 → v = 0 ∨ v = 1) ∧ (0 = 3 → 0 ≤ v ∧ v ≤ 65535) then some ((zM A K I L F E dyn).set 11 (.inl (0, 40, .inl (zup (A 11) i.toNat v)))) else none) = _
  rw [if_pos ⟨(fun h => by cases h), (fun h => by cases h)⟩]
  apply congrArg some
  unfold zM
  simp only [zu_r, zu_c, ne_eq, reduceCtorEq, not_false_eq_true, Nat.reduceEqDiff, List.set_cons_zero, List.set_cons_succ, List.cons_append, List.nil_append]
theorem zl_11 {A : zIT} {K : zLT} {I : zIT} {L : zLT} {F : zFT} {E : zET} {dyn : zH} : zlen (zM A K I L F E dyn) (some 11) = some 40 := rfl
theorem zo_12 {A : zIT} {K : zLT} {I : zIT} {L : zLT} {F : zFT} {E : zET} {dyn : zH} : zobj (zM A K I L F E dyn) (some 12) 5 = some (12, [zR (some 13), zI (A 12 1)]) := rfl
theorem zg_12_0 {A : zIT} {K : zLT} {I : zIT} {L : zLT} {F : zFT} {E : zET} {dyn : zH} : zgR (zM A K I L F E dyn) (some 12) 5 0 = some (some 13) := rfl
theorem zg_12_1 {A : zIT} {K : zLT} {I : zIT} {L : zLT} {F : zFT} {E : zET} {dyn : zH} : zgI (zM A K I L F E dyn) (some 12) 5 1 = some (A 12 1) := rfl
theorem zp_12_1 {A : zIT} {K : zLT} {I : zIT} {L : zLT} {F : zFT} {E : zET} {dyn : zH} {v : Int} : zpI (zM A K I L F E dyn) (some 12) 5 1 v = some (zM (zu A 12 1 v) K I L F E dyn) := by
  show some ((zM A K I L F E dyn).set 12 _) = _
  apply congrArg some
  unfold zM
  simp only [zu_j, zu_c, ne_eq, reduceCtorEq, not_false_eq_true, Nat.reduceEqDiff, List.set_cons_zero, List.set_cons_succ, List.cons_append, List.nil_append, if_true, if_false, zu_eq]
  all_goals rfl
theorem za_13 {A : zIT} {K : zLT} {I : zIT} {L : zLT} {F : zFT} {E : zET} {dyn : zH} {i : Int} (h0 : 0 ≤ i) (h1 : i < 40) : zaI (zM A K I L F E dyn) 0 (some 13) i = some (A 13 i.toNat) := by
  have hz : zarr (zM A K I L F E dyn) (some 13) 0 i = some (13, 40, .inl (A 13)) := by
    show ((if 0 = 0 ∧ 0 ≤ i ∧ i < ((40 : Nat) : Int) then some (40, (.inl (A 13) : zC)) else none).bind fun q => some (13, q)) = _
    rw [if_pos ⟨rfl, h0, h1⟩]
    rfl
  unfold zaI
  rw [hz]
  rfl
theorem zs_13 {A : zIT} {K : zLT} {I : zIT} {L : zLT} {F : zFT} {E : zET} {dyn : zH} {i v : Int} (h0 : 0 ≤ i) (h1 : i < 40) : zsI (zM A K I L F E dyn) 0 (some 13) i v = some (zM (zu A 13 i.toNat v) K I L F E dyn) := by
  have hz : zarr (zM A K I L F E dyn) (some 13) 0 i = some (13, 40, .inl (A 13)) := by
    show ((if 0 = 0 ∧ 0 ≤ i ∧ i < ((40 : Nat) : Int) then some (40, (.inl (A 13) : zC)) else none).bind fun q => some (13, q)) = _
    rw [if_pos ⟨rfl, h0, h1⟩]
    rfl
  unfold zsI
  rw [hz]
  show (if (0 = 2 → v = 0 ∨ v = 1) ∧ (0 = 3 → 0 ≤ v ∧ v ≤ 65535) then some ((zM A K I L F E dyn).set 13 (.inl (0, 40, .inl (zup (A 13) i.toNat v)))) else none) = _
  rw [if_pos ⟨(fun h => by cases h), (fun h => by cases h)⟩]
  apply congrArg some
  unfold zM
  simp only [zu_r, zu_c, ne_eq, reduceCtorEq, not_false_eq_true, Nat.reduceEqDiff, List.set_cons_zero, List.set_cons_succ, List.cons_append, List.nil_append]
theorem zl_13 {A : zIT} {K : zLT} {I : zIT} {L : zLT} {F : zFT} {E : zET} {dyn : zH} : zlen (zM A K I L F E dyn) (some 13) = some 40 := rfl
theorem zo_14 {A : zIT} {K : zLT} {I : zIT} {L : zLT} {F : zFT} {E : zET} {dyn : zH} : zobj (zM A K I L F E dyn) (some 14) 9 = some (14, [zR (some 15), zR (some 16), zR (some 17), zR (some 18), zR (some 19), zR (some 20), zR (some 21), zI (I 14 7), zR (some 22), zR (some 23), zR (some 24), zR (some 25), zR (some 26), zR (some 27), zI (I 14 14), zR (some 28), zR (some 29), zR (some 30), zR (some 31), zI (I 14 19), zR (some 32), zR (some 33), zR (some 34), zR (some 35), zR (some 36), zI (I 14 25), zL (L 14 26), zI (I 14 27), zI (I 14 28), zI (I 14 29)]) := rfl
theorem zg_14_0 {A : zIT} {K : zLT} {I : zIT} {L : zLT} {F : zFT} {E : zET} {dyn : zH} : zgR (zM A K I L F E dyn) (some 14) 9 0 = some (some 15) := rfl
theorem zg_14_1 {A : zIT} {K : zLT} {I : zIT} {L : zLT} {F : zFT} {E : zET} {dyn : zH} : zgR (zM A K I L F E dyn) (some 14) 9 1 = some (some 16) := rfl
theorem zg_14_2 {A : zIT} {K : zLT} {I : zIT} {L : zLT} {F : zFT} {E : zET} {dyn : zH} : zgR (zM A K I L F E dyn) (some 14) 9 2 = some (some 17) := rfl
theorem zg_14_3 {A : zIT} {K : zLT} {I : zIT} {L : zLT} {F : zFT} {E : zET} {dyn : zH} : zgR (zM A K I L F E dyn) (some 14) 9 3 = some (some 18) := rfl
theorem zg_14_4 {A : zIT} {K : zLT} {I : zIT} {L : zLT} {F : zFT} {E : zET} {dyn : zH} : zgR (zM A K I L F E dyn) (some 14) 9 4 = some (some 19) := rfl
theorem zg_14_5 {A : zIT} {K : zLT} {I : zIT} {L : zLT} {F : zFT} {E : zET} {dyn : zH} : zgR (zM A K I L F E dyn) (some 14) 9 5 = some (some 20) := rfl
theorem zg_14_6 {A : zIT} {K : zLT} {I : zIT} {L : zLT} {F : zFT} {E : zET} {dyn : zH} : zgR (zM A K I L F E dyn) (some 14) 9 6 = some (some 21) := rfl
theorem zg_14_7 {A : zIT} {K : zLT} {I : zIT} {L : zLT} {F : zFT} {E : zET} {dyn : zH} : zgI (zM A K I L F E dyn) (some 14) 9 7 = some (I 14 7) := rfl
theorem zp_14_7 {A : zIT} {K : zLT} {I : zIT} {L : zLT} {F : zFT} {E : zET} {dyn : zH} {v : Int} : zpI (zM A K I L F E dyn) (some 14) 9 7 v = some (zM A K (zu I 14 7 v) L F E dyn) := by
  show some ((zM A K I L F E dyn).set 14 _) = _
  apply congrArg some
  unfold zM
  simp only [zu_j, zu_c, ne_eq, reduceCtorEq, not_false_eq_true, Nat.reduceEqDiff, List.set_cons_zero, List.set_cons_succ, List.cons_append, List.nil_append, if_true, if_false, zu_eq]
  all_goals rfl
theorem zg_14_8 {A : zIT} {K : zLT} {I : zIT} {L : zLT} {F : zFT} {E : zET} {dyn : zH} : zgR (zM A K I L F E dyn) (some 14) 9 8 = some (some 22) := rfl
theorem zg_14_9 {A : zIT} {K : zLT} {I : zIT} {L : zLT} {F : zFT} {E : zET} {dyn : zH} : zgR (zM A K I L F E dyn) (some 14) 9 9 = some (some 23) := rfl
theorem zg_14_10 {A : zIT} {K : zLT} {I : zIT} {L : zLT} {F : zFT} {E : zET} {dyn : zH} : zgR (zM A K I L F E dyn) (some 14) 9 10 = some (some 24) := rfl
theorem zg_14_11 {A : zIT} {K : zLT} {I : zIT} {L : zLT} {F : zFT} {E : zET} {dyn : zH} : zgR (zM A K I L F E dyn) (some 14) 9 11 = some (some 25) := rfl
theorem zg_14_12 {A : zIT} {K : zLT} {I : zIT} {L : zLT} {F : zFT} {E : zET} {dyn : zH} : zgR (zM A K I L F E dyn) (some 14) 9 12 = some (some 26) := rfl
theorem zg_14_13 {A : zIT} {K : zLT} {I : zIT} {L : zLT} {F : zFT} {E : zET} {dyn : zH} : zgR (zM A K I L F E dyn) (some 14) 9 13 = some (some 27) := rfl
theorem zg_14_14 {A : zIT} {K : zLT} {I : zIT} {L : zLT} {F : zFT} {E : zET} {dyn : zH} : zgI (zM A K I L F E dyn) (some 14) 9 14 = some (I 14 14) := rfl
theorem zp_14_14 {A : zIT} {K : zLT} {I : zIT} {L : zLT} {F : zFT} {E : zET} {dyn : zH} {v : Int} : zpI (zM A K I L F E dyn) (some 14) 9 14 v = some (zM A K (zu I 14 14 v) L F E dyn) := by
  show some ((zM A K I L F E dyn).set 14 _) = _
  apply congrArg some
  unfold zM
  simp only [zu_j, zu_c, ne_eq, reduceCtorEq, not_false_eq_true, Nat.reduceEqDiff, List.set_cons_zero, List.set_cons_succ, List.cons_append, List.nil_append, if_true, if_false, zu_eq]
  all_goals rfl
theorem zg_14_15 {A : zIT} {K : zLT} {I : zIT} {L : zLT} {F : zFT} {E : zET} {dyn : zH} : zgR (zM A K I L F E dyn) (some 14) 9 15 = some (some 28) := rfl
theorem zg_14_16 {A : zIT} {K : zLT} {I : zIT} {L : zLT} {F : zFT} {E : zET} {dyn : zH} : zgR (zM A K I L F E dyn) (some 14) 9 16 = some (some 29) := rfl
theorem zg_14_17 {A : zIT} {K : zLT} {I : zIT} {L : zLT} {F : zFT} {E : zET} {dyn : zH} : zgR (zM A K I L F E dyn) (some 14) 9 17 = some (some 30) := rfl
theorem zg_14_18 {A : zIT} {K : zLT} {I : zIT} {L : zLT} {F : zFT} {E : zET} {dyn : zH} : zgR (zM A K I L F E dyn) (some 14) 9 18 = some (some 31) := rfl
theorem zg_14_19 {A : zIT} {K : zLT} {I : zIT} {L : zLT} {F : zFT} {E : zET} {dyn : zH} : zgI (zM A K I L F E dyn) (some 14) 9 19 = some (I 14 19) := rfl
theorem zp_14_19 {A : zIT} {K : zLT} {I : zIT} {L : zLT} {F : zFT} {E : zET} {dyn : zH} {v : Int} : zpI (zM A K I L F E dyn) (some 14) 9 19 v = some (zM A K (zu I 14 19 v) L F E dyn) := by
  show some ((zM A K I L F E dyn).set 14 _) = _
  apply congrArg some
  unfold zM
  simp only [zu_j, zu_c, ne_eq, reduceCtorEq, not_false_eq_true, Nat.reduceEqDiff, List.set_cons_zero, List.set_cons_succ, List.cons_append, List.nil_append, if_true, if_false, zu_eq]
  all_goals rfl
theorem zg_14_20 {A : zIT} {K : zLT} {I : zIT} {L : zLT} {F : zFT} {E : zET} {dyn : zH} : zgR (zM A K I L F E dyn) (some 14) 9 20 = some (some 32) := rfl
theorem zg_14_21 {A : zIT} {K : zLT} {I : zIT} {L : zLT} {F : zFT} {E : zET} {dyn : zH} : zgR (zM A K I L F E dyn) (some 14) 9 21 = some (some 33) := rfl
theorem zg_14_22 {A : zIT} {K : zLT} {I : zIT} {L : zLT} {F : zFT} {E : zET} {dyn : zH} : zgR (zM A K I L F E dyn) (some 14) 9 22 = some (some 34) := rfl
theorem zg_14_23 {A : zIT} {K : zLT} {I : zIT} {L : zLT} {F : zFT} {E : zET} {dyn : zH} : zgR (zM A K I L F E dyn) (some 14) 9 23 = some (some 35) := rfl
theorem zg_14_24 {A : zIT} {K : zLT} {I : zIT} {L : zLT} {F : zFT} {E : zET} {dyn : zH} : zgR (zM A K I L F E dyn) (some 14) 9 24 = some (some 36) := rfl
theorem zg_14_25 {A : zIT} {K : zLT} {I : zIT} {L : zLT} {F : zFT} {E : zET} {dyn : zH} : zgI (zM A K I L F E dyn) (some 14) 9 25 = some (I 14 25) := rfl
theorem zp_14_25 {A : zIT} {K : zLT} {I : zIT} {L : zLT} {F : zFT} {E : zET} {dyn : zH} {v : Int} : zpI (zM A K I L F E dyn) (some 14) 9 25 v = some (zM A K (zu I 14 25 v) L F E dyn) := by
  show some ((zM A K I L F E dyn).set 14 _) = _
  apply congrArg some
  unfold zM
  simp only [zu_j, zu_c, ne_eq, reduceCtorEq, not_false_eq_true, Nat.reduceEqDiff, List.set_cons_zero, List.set_cons_succ, List.cons_append, List.nil_append, if_true, if_false, zu_eq]
  all_goals rfl
theorem zg_14_26 {A : zIT} {K : zLT} {I : zIT} {L : zLT} {F : zFT} {E : zET} {dyn : zH} : zgJ (zM A K I L F E dyn) (some 14) 9 26 = some (L 14 26) := rfl
theorem zp_14_26 {A : zIT} {K : zLT} {I : zIT} {L : zLT} {F : zFT} {E : zET} {dyn : zH} {v : Int64} : zpJ (zM A K I L F E dyn) (some 14) 9 26 v = some (zM A K I (zu L 14 26 v) F E dyn) := by
  show some ((zM A K I L F E dyn).set 14 _) = _
  apply congrArg some
  unfold zM
  simp only [zu_j, zu_c, ne_eq, reduceCtorEq, not_false_eq_true, Nat.reduceEqDiff, List.set_cons_zero, List.set_cons_succ, List.cons_append, List.nil_append, if_true, if_false, zu_eq]
  all_goals rfl
theorem zg_14_27 {A : zIT} {K : zLT} {I : zIT} {L : zLT} {F : zFT} {E : zET} {dyn : zH} : zgI (zM A K I L F E dyn) (some 14) 9 27 = some (I 14 27) := rfl
theorem zp_14_27 {A : zIT} {K : zLT} {I : zIT} {L : zLT} {F : zFT} {E : zET} {dyn : zH} {v : Int} : zpI (zM A K I L F E dyn) (some 14) 9 27 v = some (zM A K (zu I 14 27 v) L F E dyn) := by
  show some ((zM A K I L F E dyn).set 14 _) = _
  apply congrArg some
  unfold zM
  simp only [zu_j, zu_c, ne_eq, reduceCtorEq, not_false_eq_true, Nat.reduceEqDiff, List.set_cons_zero, List.set_cons_succ, List.cons_append, List.nil_append, if_true, if_false, zu_eq]
  all_goals rfl
theorem zg_14_28 {A : zIT} {K : zLT} {I : zIT} {L : zLT} {F : zFT} {E : zET} {dyn : zH} : zgI (zM A K I L F E dyn) (some 14) 9 28 = some (I 14 28) := rfl
theorem zp_14_28 {A : zIT} {K : zLT} {I : zIT} {L : zLT} {F : zFT} {E : zET} {dyn : zH} {v : Int} : zpI (zM A K I L F E dyn) (some 14) 9 28 v = some (zM A K (zu I 14 28 v) L F E dyn) := by
  show some ((zM A K I L F E dyn).set 14 _) = _
  apply congrArg some
  unfold zM
  simp only [zu_j, zu_c, ne_eq, reduceCtorEq, not_false_eq_true, Nat.reduceEqDiff, List.set_cons_zero, List.set_cons_succ, List.cons_append, List.nil_append, if_true, if_false, zu_eq]
  all_goals rfl
theorem zg_14_29 {A : zIT} {K : zLT} {I : zIT} {L : zLT} {F : zFT} {E : zET} {dyn : zH} : zgI (zM A K I L F E dyn) (some 14) 9 29 = some (I 14 29) := rfl
theorem zp_14_29 {A : zIT} {K : zLT} {I : zIT} {L : zLT} {F : zFT} {E : zET} {dyn : zH} {v : Int} : zpI (zM A K I L F E dyn) (some 14) 9 29 v = some (zM A K (zu I 14 29 v) L F E dyn) := by
  show some ((zM A K I L F E dyn).set 14 _) = _
  apply congrArg some
  unfold zM
  simp only [zu_j, zu_c, ne_eq, reduceCtorEq, not_false_eq_true, Nat.reduceEqDiff, List.set_cons_zero, List.set_cons_succ, List.cons_append, List.nil_append, if_true, if_false, zu_eq]
  all_goals rfl
theorem za_15 {A : zIT} {K : zLT} {I : zIT} {L : zLT} {F : zFT} {E : zET} {dyn : zH} {i : Int} (h0 : 0 ≤ i) (h1 : i < 12) : zaJ (zM A K I L F E dyn) (some 15) i = some (L 15 i.toNat) := by
  have hz : zarr (zM A K I L F E dyn) (some 15) 1 i = some (15, 12, .inr (.inl (L 15))) := by
    show ((if 1 = 1 ∧ 0 ≤ i ∧ i < ((12 : Nat) : Int) then some (12, (.inr (.inl (L 15)) : zC)) else none).bind fun q => some (15, q)) = _
    rw [if_pos ⟨rfl, h0, h1⟩]
    rfl
  unfold zaJ
  rw [hz]
  rfl
theorem zs_15 {A : zIT} {K : zLT} {I : zIT} {L : zLT} {F : zFT} {E : zET} {dyn : zH} {i : Int} {v : Int64} (h0 : 0 ≤ i) (h1 : i < 12) : zsJ (zM A K I L F E dyn) (some 15) i v = some (zM A K I (zu L 15 i.toNat v) F E dyn) := by
  have hz : zarr (zM A K I L F E dyn) (some 15) 1 i = some (15, 12, .inr (.inl (L 15))) := by
    show ((if 1 = 1 ∧ 0 ≤ i ∧ i < ((12 : Nat) : Int) then some (12, (.inr (.inl (L 15)) : zC)) else none).bind fun q => some (15, q)) = _
    rw [if_pos ⟨rfl, h0, h1⟩]
    rfl
  unfold zsJ
  rw [hz]
  show some ((zM A K I L F E dyn).set 15 _) = _
  apply congrArg some
  unfold zM
  simp only [zu_r, zu_c, ne_eq, reduceCtorEq, not_false_eq_true, Nat.reduceEqDiff, List.set_cons_zero, List.set_cons_succ, List.cons_append, List.nil_append]
theorem zl_15 {A : zIT} {K : zLT} {I : zIT} {L : zLT} {F : zFT} {E : zET} {dyn : zH} : zlen (zM A K I L F E dyn) (some 15) = some 12 := rfl
theorem za_16 {A : zIT} {K : zLT} {I : zIT} {L : zLT} {F : zFT} {E : zET} {dyn : zH} {i : Int} (h0 : 0 ≤ i) (h1 : i < 12) : zaJ (zM A K I L F E dyn) (some 16) i = some (L 16 i.toNat) := by
  have hz : zarr (zM A K I L F E dyn) (some 16) 1 i = some (16, 12, .inr (.inl (L 16))) := by
    show ((if 1 = 1 ∧ 0 ≤ i ∧ i < ((12 : Nat) : Int) then some (12, (.inr (.inl (L 16)) : zC)) else none).bind fun q => some (16, q)) = _
    rw [if_pos ⟨rfl, h0, h1⟩]
    rfl
  unfold zaJ
  rw [hz]
  rfl
theorem zs_16 {A : zIT} {K : zLT} {I : zIT} {L : zLT} {F : zFT} {E : zET} {dyn : zH} {i : Int} {v : Int64} (h0 : 0 ≤ i) (h1 : i < 12) : zsJ (zM A K I L F E dyn) (some 16) i v = some (zM A K I (zu L 16 i.toNat v) F E dyn) := by
  have hz : zarr (zM A K I L F E dyn) (some 16) 1 i = some (16, 12, .inr (.inl (L 16))) := by
    show ((if 1 = 1 ∧ 0 ≤ i ∧ i < ((12 : Nat) : Int) then some (12, (.inr (.inl (L 16)) : zC)) else none).bind fun q => some (16, q)) = _
    rw [if_pos ⟨rfl, h0, h1⟩]
    rfl
  unfold zsJ
  rw [hz]
  show some ((zM A K I L F E dyn).set 16 _) = _
  apply congrArg some
  unfold zM
  simp only [zu_r, zu_c, ne_eq, reduceCtorEq, not_false_eq_true, Nat.reduceEqDiff, List.set_cons_zero, List.set_cons_succ, List.cons_append, List.nil_append]
theorem zl_16 {A : zIT} {K : zLT} {I : zIT} {L : zLT} {F : zFT} {E : zET} {dyn : zH} : zlen (zM A K I L F E dyn) (some 16) = some 12 := rfl
theorem za_17 {A : zIT} {K : zLT} {I : zIT} {L : zLT} {F : zFT} {E : zET} {dyn : zH} {i : Int} (h0 : 0 ≤ i) (h1 : i < 12) : zaI (zM A K I L F E dyn) 0 (some 17) i = some (I 17 i.toNat) := by
  have hz : zarr (zM A K I L F E dyn) (some 17) 0 i = some (17, 12, .inl (I 17)) := by
    show ((if 0 = 0 ∧ 0 ≤ i ∧ i < ((12 : Nat) : Int) then some (12, (.inl (I 17) : zC)) else none).bind fun q => some (17, q)) = _
    rw [if_pos ⟨rfl, h0, h1⟩]
    rfl
  unfold zaI
  rw [hz]
  rfl
theorem zs_17 {A : zIT} {K : zLT} {I : zIT} {L : zLT} {F : zFT} {E : zET} {dyn : zH} {i v : Int} (h0 : 0 ≤ i) (h1 : i < 12) : zsI (zM A K I L F E dyn) 0 (some 17) i v = some (zM A K (zu I 17 i.toNat v) L F E dyn) := by
  have hz : zarr (zM A K I L F E dyn) (some 17) 0 i = some (17, 12, .inl (I 17)) := by
    show ((if 0 = 0 ∧ 0 ≤ i ∧ i < ((12 : Nat) : Int) then some (12, (.inl (I 17) : zC)) else none).bind fun q => some (17, q)) = _
    rw [if_pos ⟨rfl, h0, h1⟩]
    rfl
  unfold zsI
  rw [hz]
  show (if (0 = 2 → v = 0 ∨ v = 1) ∧ (0 = 3 → 0 ≤ v ∧ v ≤ 65535) then some ((zM A K I L F E dyn).set 17 (.inl (0, 12, .inl (zup (I 17) i.toNat v)))) else none) = _
  rw [if_pos ⟨(fun h => by cases h), (fun h => by cases h)⟩]
  apply congrArg some
  unfold zM
  simp only [zu_r, zu_c, ne_eq, reduceCtorEq, not_false_eq_true, Nat.reduceEqDiff, List.set_cons_zero, List.set_cons_succ, List.cons_append, List.nil_append]
theorem zl_17 {A : zIT} {K : zLT} {I : zIT} {L : zLT} {F : zFT} {E : zET} {dyn : zH} : zlen (zM A K I L F E dyn) (some 17) = some 12 := rfl
theorem za_18 {A : zIT} {K : zLT} {I : zIT} {L : zLT} {F : zFT} {E : zET} {dyn : zH} {i : Int} (h0 : 0 ≤ i) (h1 : i < 12) : zaI (zM A K I L F E dyn) 3 (some 18) i = some (I 18 i.toNat) := by
  have hz : zarr (zM A K I L F E dyn) (some 18) 3 i = some (18, 12, .inl (I 18)) := by
    show ((if 3 = 3 ∧ 0 ≤ i ∧ i < ((12 : Nat) : Int) then some (12, (.inl (I 18) : zC)) else none).bind fun q => some (18, q)) = _
    rw [if_pos ⟨rfl, h0, h1⟩]
    rfl
  unfold zaI
  rw [hz]
  rfl
theorem zs_18 {A : zIT} {K : zLT} {I : zIT} {L : zLT} {F : zFT} {E : zET} {dyn : zH} {i v : Int} (h0 : 0 ≤ i) (h1 : i < 12) (hv : 0 ≤ v ∧ v ≤ 65535) : zsI (zM A K I L F E dyn) 3 (some 18) i v = some (zM A K (zu I 18 i.toNat v) L F E dyn) := by
  have hz : zarr (zM A K I L F E dyn) (some 18) 3 i = some (18, 12, .inl (I 18)) := by
    show ((if 3 = 3 ∧ 0 ≤ i ∧ i < ((12 : Nat) : Int) then some (12, (.inl (I 18) : zC)) else none).bind fun q => some (18, q)) = _
    rw [if_pos ⟨rfl, h0, h1⟩]
    rfl
  unfold zsI
  rw [hz]
  show (if (3 = 2 → v = 0 ∨ v = 1) ∧ (3 = 3 → 0 ≤ v ∧ v ≤ 65535) then some ((zM A K I L F E dyn).set 18 (.inl (3, 12, .inl (zup (I 18) i.toNat v)))) else none) = _
  rw [if_pos ⟨(fun h => by cases h), (fun _ => hv)⟩]
  apply congrArg some
  unfold zM
  simp only [zu_r, zu_c, ne_eq, reduceCtorEq, not_false_eq_true, Nat.reduceEqDiff, List.set_cons_zero, List.set_cons_succ, List.cons_append, List.nil_append]
theorem zl_18 {A : zIT} {K : zLT} {I : zIT} {L : zLT} {F : zFT} {E : zET} {dyn : zH} : zlen (zM A K I L F E dyn) (some 18) = some 12 := rfl
theorem za_19 {A : zIT} {K : zLT} {I : zIT} {L : zLT} {F : zFT} {E : zET} {dyn : zH} {i : Int} (h0 : 0 ≤ i) (h1 : i < 12) : zaI (zM A K I L F E dyn) 2 (some 19) i = some (I 19 i.toNat) := by
  have hz : zarr (zM A K I L F E dyn) (some 19) 2 i = some (19, 12, .inl (I 19)) := by
    show ((if 2 = 2 ∧ 0 ≤ i ∧ i < ((12 : Nat) : Int) then some (12, (.inl (I 19) : zC)) else none).bind fun q => some (19, q)) = _
    rw [if_pos ⟨rfl, h0, h1⟩]
    rfl
  unfold zaI
  rw [hz]
  rfl
theorem zs_19 {A : zIT} {K : zLT} {I : zIT} {L : zLT} {F : zFT} {E : zET} {dyn : zH} {i v : Int} (h0 : 0 ≤ i) (h1 : i < 12) (hv : v = 0 ∨ v = 1) : zsI (zM A K I L F E dyn) 2 (some 19) i v = some (zM A K (zu I 19 i.toNat v) L F E dyn) := by
  have hz : zarr (zM A K I L F E dyn) (some 19) 2 i = some (19, 12, .inl (I 19)) := by
    show ((if 2 = 2 ∧ 0 ≤ i ∧ i < ((12 : Nat) : Int) then some (12, (.inl (I 19) : zC)) else none).bind fun q => some (19, q)) = _
    rw [if_pos ⟨rfl, h0, h1⟩]
    rfl
  unfold zsI
  rw [hz]
  show (if (2 = 2 → v = 0 ∨ v = 1) ∧ (2 = 3 → 0 ≤ v ∧ v ≤ 65535) then some ((zM A K I L F E dyn).set 19 (.inl (2, 12, .inl (zup (I 19) i.toNat v)))) else none) = _
  rw [if_pos ⟨(fun _ => hv), (fun h => by cases h)⟩]
  apply congrArg some
  unfold zM
  simp only [zu_r, zu_c, ne_eq, reduceCtorEq, not_false_eq_true, Nat.reduceEqDiff, List.set_cons_zero, List.set_cons_succ, List.cons_append, List.nil_append]
theorem zl_19 {A : zIT} {K : zLT} {I : zIT} {L : zLT} {F : zFT} {E : zET} {dyn : zH} : zlen (zM A K I L F E dyn) (some 19) = some 12 := rfl
theorem za_20 {A : zIT} {K : zLT} {I : zIT} {L : zLT} {F : zFT} {E : zET} {dyn : zH} {i : Int} (h0 : 0 ≤ i) (h1 : i < 12) : zaI (zM A K I L F E dyn) 2 (some 20) i = some (I 20 i.toNat) := by
  have hz : zarr (zM A K I L F E dyn) (some 20) 2 i = some (20, 12, .inl (I 20)) := by
    show ((if 2 = 2 ∧ 0 ≤ i ∧ i < ((12 : Nat) : Int) then some (12, (.inl (I 20) : zC)) else none).bind fun q => some (20, q)) = _
    rw [if_pos ⟨rfl, h0, h1⟩]
    rfl
  unfold zaI
  rw [hz]
  rfl
theorem zs_20 {A : zIT} {K : zLT} {I : zIT} {L : zLT} {F : zFT} {E : zET} {dyn : zH} {i v : Int} (h0 : 0 ≤ i) (h1 : i < 12) (hv : v = 0 ∨ v = 1) : zsI (zM A K I L F E dyn) 2 (some 20) i v = some (zM A K (zu I 20 i.toNat v) L F E dyn) := by
  have hz : zarr (zM A K I L F E dyn) (some 20) 2 i = some (20, 12, .inl (I 20)) := by
    show ((if 2 = 2 ∧ 0 ≤ i ∧ i < ((12 : Nat) : Int) then some (12, (.inl (I 20) : zC)) else none).bind fun q => some (20, q)) = _
    rw [if_pos ⟨rfl, h0, h1⟩]
    rfl
  unfold zsI
  rw [hz]
  show (if (2 = 2 → v = 0 ∨ v = 1) ∧ (2 = 3 → 0 ≤ v ∧ v ≤ 65535) then some ((zM A K I L F E dyn).set 20 (.inl (2, 12, .inl (zup (I 20) i.toNat v)))) else none) = _
  rw [if_pos ⟨(fun _ => hv), (fun h => by cases h)⟩]
  apply congrArg some
  unfold zM
  simp only [zu_r, zu_c, ne_eq, reduceCtorEq, not_false_eq_true, Nat.reduceEqDiff, List.set_cons_zero, List.set_cons_succ, List.cons_append, List.nil_append]
theorem zl_20 {A : zIT} {K : zLT} {I : zIT} {L : zLT} {F : zFT} {E : zET} {dyn : zH} : zlen (zM A K I L F E dyn) (some 20) = some 12 := rfl
theorem za_21 {A : zIT} {K : zLT} {I : zIT} {L : zLT} {F : zFT} {E : zET} {dyn : zH} {i : Int} (h0 : 0 ≤ i) (h1 : i < 12) : zaI (zM A K I L F E dyn) 0 (some 21) i = some (I 21 i.toNat) := by
  have hz : zarr (zM A K I L F E dyn) (some 21) 0 i = some (21, 12, .inl (I 21)) := by
    show ((if 0 = 0 ∧ 0 ≤ i ∧ i < ((12 : Nat) : Int) then some (12, (.inl (I 21) : zC)) else none).bind fun q => some (21, q)) = _
    rw [if_pos ⟨rfl, h0, h1⟩]
    rfl
  unfold zaI
  rw [hz]
  rfl
theorem zs_21 {A : zIT} {K : zLT} {I : zIT} {L : zLT} {F : zFT} {E : zET} {dyn : zH} {i v : Int} (h0 : 0 ≤ i) (h1 : i < 12) : zsI (zM A K I L F E dyn) 0 (some 21) i v = some (zM A K (zu I 21 i.toNat v) L F E dyn) := by
  have hz : zarr (zM A K I L F E dyn) (some 21) 0 i = some (21, 12, .inl (I 21)) := by
    show ((if 0 = 0 ∧ 0 ≤ i ∧ i < ((12 : Nat) : Int) then some (12, (.inl (I 21) : zC)) else none).bind fun q => some (21, q)) = _
    rw [if_pos ⟨rfl, h0, h1⟩]
    rfl
  unfold zsI
  rw [hz]
  show (if (0 = 2 → v = 0 ∨ v = 1) ∧ (0 = 3 → 0 ≤ v ∧ v ≤ 65535) then some ((zM A K I L F E dyn).set 21 (.inl (0, 12, .inl (zup (I 21) i.toNat v)))) else none) = _
  rw [if_pos ⟨(fun h => by cases h), (fun h => by cases h)⟩]
  apply congrArg some
  unfold zM
  simp only [zu_r, zu_c, ne_eq, reduceCtorEq, not_false_eq_true, Nat.reduceEqDiff, List.set_cons_zero, List.set_cons_succ, List.cons_append, List.nil_append]
theorem zl_21 {A : zIT} {K : zLT} {I : zIT} {L : zLT} {F : zFT} {E : zET} {dyn : zH} : zlen (zM A K I L F E dyn) (some 21) = some 12 := rfl
theorem za_22 {A : zIT} {K : zLT} {I : zIT} {L : zLT} {F : zFT} {E : zET} {dyn : zH} {i : Int} (h0 : 0 ≤ i) (h1 : i < 80) : zaI (zM A K I L F E dyn) 0 (some 22) i = some (I 22 i.toNat) := by
  have hz : zarr (zM A K I L F E dyn) (some 22) 0 i = some (22, 80, .inl (I 22)) := by
    show ((if 0 = 0 ∧ 0 ≤ i ∧ i < ((80 : Nat) : Int) then some (80, (.inl (I 22) : zC)) else none).bind fun q => some (22, q)) = _
    rw [if_pos ⟨rfl, h0, h1⟩]
    rfl
  unfold zaI
  rw [hz]
  rfl
theorem zs_22 {A : zIT} {K : zLT} {I : zIT} {L : zLT} {F : zFT} {E : zET} {dyn : zH} {i v : Int} (h0 : 0 ≤ i) (h1 : i < 80) : zsI (zM A K I L F E dyn) 0 (some 22) i v = some (zM A K (zu I 22 i.toNat v) L F E dyn) := by
  have hz : zarr (zM A K I L F E dyn) (some 22) 0 i = some (22, 80, .inl (I 22)) := by
    show ((if 0 = 0 ∧ 0 ≤ i ∧ i < ((80 : Nat) : Int) then some (80, (.inl (I 22) : zC)) else none).bind fun q => some (22, q)) = _
    rw [if_pos ⟨rfl, h0, h1⟩]
    rfl
  unfold zsI
  rw [hz]
  show (if (0 = 2 → v = 0 ∨ v = 1) ∧ (0 = 3 → 0 ≤ v ∧ v ≤ 65535) then some ((zM A K I L F E dyn).set 22 (.inl (0, 80, .inl (zup (I 22) i.toNat v)))) else none) = _
  rw [if_pos ⟨(fun h => by cases h), (fun h => by cases h)⟩]
  apply congrArg some
  unfold zM
  simp only [zu_r, zu_c, ne_eq, reduceCtorEq, not_false_eq_true, Nat.reduceEqDiff, List.set_cons_zero, List.set_cons_succ, List.cons_append, List.nil_append]
theorem zl_22 {A : zIT} {K : zLT} {I : zIT} {L : zLT} {F : zFT} {E : zET} {dyn : zH} : zlen (zM A K I L F E dyn) (some 22) = some 80 := rfl
theorem za_23 {A : zIT} {K : zLT} {I : zIT} {L : zLT} {F : zFT} {E : zET} {dyn : zH} {i : Int} (h0 : 0 ≤ i) (h1 : i < 80) : zaI (zM A K I L F E dyn) 0 (some 23) i = some (I 23 i.toNat) := by
  have hz : zarr (zM A K I L F E dyn) (some 23) 0 i = some (23, 80, .inl (I 23)) := by
    show ((if 0 = 0 ∧ 0 ≤ i ∧ i < ((80 : Nat) : Int) then some (80, (.inl (I 23) : zC)) else none).bind fun q => some (23, q)) = _
    rw [if_pos ⟨rfl, h0, h1⟩]
    rfl
  unfold zaI
  rw [hz]
  rfl
theorem zs_23 {A : zIT} {K : zLT} {I : zIT} {L : zLT} {F : zFT} {E : zET} {dyn : zH} {i v : Int} (h0 : 0 ≤ i) (h1 : i < 80) : zsI (zM A K I L F E dyn) 0 (some 23) i v = some (zM A K (zu I 23 i.toNat v) L F E dyn) := by
  have hz : zarr (zM A K I L F E dyn) (some 23) 0 i = some (23, 80, .inl (I 23)) := by
    show ((if 0 = 0 ∧ 0 ≤ i ∧ i < ((80 : Nat) : Int) then some (80, (.inl (I 23) : zC)) else none).bind fun q => some (23, q)) = _
    rw [if_pos ⟨rfl, h0, h1⟩]
    rfl
  unfold zsI
  rw [hz]
  show (if (0 = 2 → v = 0 ∨ v = 1) ∧ (0 = 3 → 0 ≤ v ∧ v ≤ 65535) then some ((zM A K I L F E dyn).set 23 (.inl (0, 80, .inl (zup (I 23) i.toNat v)))) else none) = _
  rw [if_pos ⟨(fun h => by cases h), (fun h => by cases h)⟩]
  apply congrArg some
  unfold zM
  simp only [zu_r, zu_c, ne_eq, reduceCtorEq, not_false_eq_true, Nat.reduceEqDiff, List.set_cons_zero, List.set_cons_succ, List.cons_append, List.nil_append]
theorem zl_23 {A : zIT} {K : zLT} {I : zIT} {L : zLT} {F : zFT} {E : zET} {dyn : zH} : zlen (zM A K I L F E dyn) (some 23) = some 80 := rfl
theorem za_24 {A : zIT} {K : zLT} {I : zIT} {L : zLT} {F : zFT} {E : zET} {dyn : zH} {i : Int} (h0 : 0 ≤ i) (h1 : i < 80) : zaI (zM A K I L F E dyn) 3 (some 24) i = some (I 24 i.toNat) := by
  have hz : zarr (zM A K I L F E dyn) (some 24) 3 i = some (24, 80, .inl (I 24)) := by
    show ((if 3 = 3 ∧ 0 ≤ i ∧ i < ((80 : Nat) : Int) then some (80, (.inl (I 24) : zC)) else none).bind fun q => some (24, q)) = _
    rw [if_pos ⟨rfl, h0, h1⟩]
    rfl
  unfold zaI
  rw [hz]
  rfl
theorem zs_24 {A : zIT} {K : zLT} {I : zIT} {L : zLT} {F : zFT} {E : zET} {dyn : zH} {i v : Int} (h0 : 0 ≤ i) (h1 : i < 80) (hv : 0 ≤ v ∧ v ≤ 65535) : zsI (zM A K I L F E dyn) 3 (some 24) i v = some (zM A K (zu I 24 i.toNat v) L F E dyn) := by
  have hz : zarr (zM A K I L F E dyn) (some 24) 3 i = some (24, 80, .inl (I 24)) := by
    show ((if 3 = 3 ∧ 0 ≤ i ∧ i < ((80 : Nat) : Int) then some (80, (.inl (I 24) : zC)) else none).bind fun q => some (24, q)) = _
    rw [if_pos ⟨rfl, h0, h1⟩]
    rfl
  unfold zsI
  rw [hz]
  show (if (3 = 2 → v = 0 ∨ v = 1) ∧ (3 = 3 → 0 ≤ v ∧ v ≤ 65535) then some ((zM A K I L F E dyn).set 24 (.inl (3, 80, .inl (zup (I 24) i.toNat v)))) else none) = _
  rw [if_pos ⟨(fun h => by cases h), (fun _ => hv)⟩]
  apply congrArg some
  unfold zM
  simp only [zu_r, zu_c, ne_eq, reduceCtorEq, not_false_eq_true, Nat.reduceEqDiff, List.set_cons_zero, List.set_cons_succ, List.cons_append, List.nil_append]
theorem zl_24 {A : zIT} {K : zLT} {I : zIT} {L : zLT} {F : zFT} {E : zET} {dyn : zH} : zlen (zM A K I L F E dyn) (some 24) = some 80 := rfl
theorem za_25 {A : zIT} {K : zLT} {I : zIT} {L : zLT} {F : zFT} {E : zET} {dyn : zH} {i : Int} (h0 : 0 ≤ i) (h1 : i < 80) : zaI (zM A K I L F E dyn) 0 (some 25) i = some (I 25 i.toNat) := by
  have hz : zarr (zM A K I L F E dyn) (some 25) 0 i = some (25, 80, .inl (I 25)) := by
    show ((if 0 = 0 ∧ 0 ≤ i ∧ i < ((80 : Nat) : Int) then some (80, (.inl (I 25) : zC)) else none).bind fun q => some (25, q)) = _
    rw [if_pos ⟨rfl, h0, h1⟩]
    rfl
  unfold zaI
  rw [hz]
  rfl
theorem zs_25 {A : zIT} {K : zLT} {I : zIT} {L : zLT} {F : zFT} {E : zET} {dyn : zH} {i v : Int} (h0 : 0 ≤ i) (h1 : i < 80) : zsI (zM A K I L F E dyn) 0 (some 25) i v = some (zM A K (zu I 25 i.toNat v) L F E dyn) := by
  have hz : zarr (zM A K I L F E dyn) (some 25) 0 i = some (25, 80, .inl (I 25)) := by
    show ((if 0 = 0 ∧ 0 ≤ i ∧ i < ((80 : Nat) : Int) then some (80, (.inl (I 25) : zC)) else none).bind fun q => some (25, q)) = _
    rw [if_pos ⟨rfl, h0, h1⟩]
    rfl
  unfold zsI
  rw [hz]
  show (if (0 = 2 → v = 0 ∨ v = 1) ∧ (0 = 3 → 0 ≤ v ∧ v ≤ 65535) then some ((zM A K I L F E dyn).set 25 (.inl (0, 80, .inl (zup (I 25) i.toNat v)))) else none) = _
  rw [if_pos ⟨(fun h => by cases h), (fun h => by cases h)⟩]
  apply congrArg some
  unfold zM
  simp only [zu_r, zu_c, ne_eq, reduceCtorEq, not_false_eq_true, Nat.reduceEqDiff, List.set_cons_zero, List.set_cons_succ, List.cons_append, List.nil_append]
theorem zl_25 {A : zIT} {K : zLT} {I : zIT} {L : zLT} {F : zFT} {E : zET} {dyn : zH} : zlen (zM A K I L F E dyn) (some 25) = some 80 := rfl
theorem za_26 {A : zIT} {K : zLT} {I : zIT} {L : zLT} {F : zFT} {E : zET} {dyn : zH} {i : Int} (h0 : 0 ≤ i) (h1 : i < 40) : zaI (zM A K I L F E dyn) 2 (some 26) i = some (I 26 i.toNat) := by
  have hz : zarr (zM A K I L F E dyn) (some 26) 2 i = some (26, 40, .inl (I 26)) := by
    show ((if 2 = 2 ∧ 0 ≤ i ∧ i < ((40 : Nat) : Int) then some (40, (.inl (I 26) : zC)) else none).bind fun q => some (26, q)) = _
    rw [if_pos ⟨rfl, h0, h1⟩]
    rfl
  unfold zaI
  rw [hz]
  rfl
theorem zs_26 {A : zIT} {K : zLT} {I : zIT} {L : zLT} {F : zFT} {E : zET} {dyn : zH} {i v : Int} (h0 : 0 ≤ i) (h1 : i < 40) (hv : v = 0 ∨ v = 1) : zsI (zM A K I L F E dyn) 2 (some 26) i v = some (zM A K (zu I 26 i.toNat v) L F E dyn) := by
  have hz : zarr (zM A K I L F E dyn) (some 26) 2 i = some (26, 40, .inl (I 26)) := by
    show ((if 2 = 2 ∧ 0 ≤ i ∧ i < ((40 : Nat) : Int) then some (40, (.inl (I 26) : zC)) else none).bind fun q => some (26, q)) = _
    rw [if_pos ⟨rfl, h0, h1⟩]
    rfl
  unfold zsI
  rw [hz]
  show (if (2 = 2 → v = 0 ∨ v = 1) ∧ (2 = 3 → 0 ≤ v ∧ v ≤ 65535) then some ((zM A K I L F E dyn).set 26 (.inl (2, 40, .inl (zup (I 26) i.toNat v)))) else none) = _
  rw [if_pos ⟨(fun _ => hv), (fun h => by cases h)⟩]
  apply congrArg some
  unfold zM
  simp only [zu_r, zu_c, ne_eq, reduceCtorEq, not_false_eq_true, Nat.reduceEqDiff, List.set_cons_zero, List.set_cons_succ, List.cons_append, List.nil_append]
theorem zl_26 {A : zIT} {K : zLT} {I : zIT} {L : zLT} {F : zFT} {E : zET} {dyn : zH} : zlen (zM A K I L F E dyn) (some 26) = some 40 := rfl
theorem za_27 {A : zIT} {K : zLT} {I : zIT} {L : zLT} {F : zFT} {E : zET} {dyn : zH} {i : Int} (h0 : 0 ≤ i) (h1 : i < 40) : zaI (zM A K I L F E dyn) 0 (some 27) i = some (I 27 i.toNat) := by
  have hz : zarr (zM A K I L F E dyn) (some 27) 0 i = some (27, 40, .inl (I 27)) := by
    show ((if 0 = 0 ∧ 0 ≤ i ∧ i < ((40 : Nat) : Int) then some (40, (.inl (I 27) : zC)) else none).bind fun q => some (27, q)) = _
    rw [if_pos ⟨rfl, h0, h1⟩]
    rfl
  unfold zaI
  rw [hz]
  rfl
theorem zs_27 {A : zIT} {K : zLT} {I : zIT} {L : zLT} {F : zFT} {E : zET} {dyn : zH} {i v : Int} (h0 : 0 ≤ i) (h1 : i < 40) : zsI (zM A K I L F E dyn) 0 (some 27) i v = some (zM A K (zu I 27 i.toNat v) L F E dyn) := by
  have hz : zarr (zM A K I L F E dyn) (some 27) 0 i = some (27, 40, .inl (I 27)) := by
    show ((if 0 = 0 ∧ 0 ≤ i ∧ i < ((40 : Nat) : Int) then some (40, (.inl (I 27) : zC)) else none).bind fun q => some (27, q)) = _
    rw [if_pos ⟨rfl, h0, h1⟩]
    rfl
  unfold zsI
  rw [hz]
  show (if (0 = 2 → v = 0 ∨ v = 1) ∧ (0 = 3 → 0 ≤ v ∧ v ≤ 65535) then some ((zM A K I L F E dyn).set 27 (.inl (0, 40, .inl (zup (I 27) i.toNat v)))) else none) = _
  rw [if_pos ⟨(fun h => by cases h), (fun h => by cases h)⟩]
  apply congrArg some
  unfold zM
  simp only [zu_r, zu_c, ne_eq, reduceCtorEq, not_false_eq_true, Nat.reduceEqDiff, List.set_cons_zero, List.set_cons_succ, List.cons_append, List.nil_append]
theorem zl_27 {A : zIT} {K : zLT} {I : zIT} {L : zLT} {F : zFT} {E : zET} {dyn : zH} : zlen (zM A K I L F E dyn) (some 27) = some 40 := rfl
theorem za_28 {A : zIT} {K : zLT} {I : zIT} {L : zLT} {F : zFT} {E : zET} {dyn : zH} {i : Int} (h0 : 0 ≤ i) (h1 : i < 200) : zaJ (zM A K I L F E dyn) (some 28) i = some (L 28 i.toNat) := by
  have hz : zarr (zM A K I L F E dyn) (some 28) 1 i = some (28, 200, .inr (.inl (L 28))) := by
    show ((if 1 = 1 ∧ 0 ≤ i ∧ i < ((200 : Nat) : Int) then some (200, (.inr (.inl (L 28)) : zC)) else none).bind fun q => some (28, q)) = _
    rw [if_pos ⟨rfl, h0, h1⟩]
    rfl
  unfold zaJ
  rw [hz]
  rfl
theorem zs_28 {A : zIT} {K : zLT} {I : zIT} {L : zLT} {F : zFT} {E : zET} {dyn : zH} {i : Int} {v : Int64} (h0 : 0 ≤ i) (h1 : i < 200) : zsJ (zM A K I L F E dyn) (some 28) i v = some (zM A K I (zu L 28 i.toNat v) F E dyn) := by
  have hz : zarr (zM A K I L F E dyn) (some 28) 1 i = some (28, 200, .inr (.inl (L 28))) := by
    show ((if 1 = 1 ∧ 0 ≤ i ∧ i < ((200 : Nat) : Int) then some (200, (.inr (.inl (L 28)) : zC)) else none).bind fun q => some (28, q)) = _
    rw [if_pos ⟨rfl, h0, h1⟩]
    rfl
  unfold zsJ
  rw [hz]
  show some ((zM A K I L F E dyn).set 28 _) = _
  apply congrArg some
  unfold zM
  simp only [zu_r, zu_c, ne_eq, reduceCtorEq, not_false_eq_true, Nat.reduceEqDiff, List.set_cons_zero, List.set_cons_succ, List.cons_append, List.nil_append]
theorem zl_28 {A : zIT} {K : zLT} {I : zIT} {L : zLT} {F : zFT} {E : zET} {dyn : zH} : zlen (zM A K I L F E dyn) (some 28) = some 200 := rfl
theorem za_29 {A : zIT} {K : zLT} {I : zIT} {L : zLT} {F : zFT} {E : zET} {dyn : zH} {i : Int} (h0 : 0 ≤ i) (h1 : i < 200) : zaI (zM A K I L F E dyn) 0 (some 29) i = some (I 29 i.toNat) := by
  have hz : zarr (zM A K I L F E dyn) (some 29) 0 i = some (29, 200, .inl (I 29)) := by
    show ((if 0 = 0 ∧ 0 ≤ i ∧ i < ((200 : Nat) : Int) then some (200, (.inl (I 29) : zC)) else none).bind fun q => some (29, q)) = _
    rw [if_pos ⟨rfl, h0, h1⟩]
    rfl
  unfold zaI
  rw [hz]
  rfl
theorem zs_29 {A : zIT} {K : zLT} {I : zIT} {L : zLT} {F : zFT} {E : zET} {dyn : zH} {i v : Int} (h0 : 0 ≤ i) (h1 : i < 200) : zsI (zM A K I L F E dyn) 0 (some 29) i v = some (zM A K (zu I 29 i.toNat v) L F E dyn) := by
  have hz : zarr (zM A K I L F E dyn) (some 29) 0 i = some (29, 200, .inl (I 29)) := by
    show ((if 0 = 0 ∧ 0 ≤ i ∧ i < ((200 : Nat) : Int) then some (200, (.inl (I 29) : zC)) else none).bind fun q => some (29, q)) = _
    rw [if_pos ⟨rfl, h0, h1⟩]
    rfl
  unfold zsI
  rw [hz]
  show (if (0 = 2 → v = 0 ∨ v = 1) ∧ (0 = 3 → 0 ≤ v ∧ v ≤ 65535) then some ((zM A K I L F E dyn).set 29 (.inl (0, 200, .inl (zup (I 29) i.toNat v)))) else none) = _
  rw [if_pos ⟨(fun h => by cases h), (fun h => by cases h)⟩]
  apply congrArg some
  unfold zM
  simp only [zu_r, zu_c, ne_eq, reduceCtorEq, not_false_eq_true, Nat.reduceEqDiff, List.set_cons_zero, List.set_cons_succ, List.cons_append, List.nil_append]
theorem zl_29 {A : zIT} {K : zLT} {I : zIT} {L : zLT} {F : zFT} {E : zET} {dyn : zH} : zlen (zM A K I L F E dyn) (some 29) = some 200 := rfl
theorem za_30 {A : zIT} {K : zLT} {I : zIT} {L : zLT} {F : zFT} {E : zET} {dyn : zH} {i : Int} (h0 : 0 ≤ i) (h1 : i < 200) : zaI (zM A K I L F E dyn) 0 (some 30) i = some (I 30 i.toNat) := by
  have hz : zarr (zM A K I L F E dyn) (some 30) 0 i = some (30, 200, .inl (I 30)) := by
    show ((if 0 = 0 ∧ 0 ≤ i ∧ i < ((200 : Nat) : Int) then some (200, (.inl (I 30) : zC)) else none).bind fun q => some (30, q)) = _
    rw [if_pos ⟨rfl, h0, h1⟩]
    rfl
  unfold zaI
  rw [hz]
  rfl
theorem zs_30 {A : zIT} {K : zLT} {I : zIT} {L : zLT} {F : zFT} {E : zET} {dyn : zH} {i v : Int} (h0 : 0 ≤ i) (h1 : i < 200) : zsI (zM A K I L F E dyn) 0 (some 30) i v = some (zM A K (zu I 30 i.toNat v) L F E dyn) := by
  have hz : zarr (zM A K I L F E dyn) (some 30) 0 i = some (30, 200, .inl (I 30)) := by
    show ((if 0 = 0 ∧ 0 ≤ i ∧ i < ((200 : Nat) : Int) then some (200, (.inl (I 30) : zC)) else none).bind fun q => some (30, q)) = _
    rw [if_pos ⟨rfl, h0, h1⟩]
    rfl
  unfold zsI
  rw [hz]
  show (if (0 = 2 → v = 0 ∨ v = 1) ∧ (0 = 3 → 0 ≤ v ∧ v ≤ 65535) then some ((zM A K I L F E dyn).set 30 (.inl (0, 200, .inl (zup (I 30) i.toNat v)))) else none) = _
  rw [if_pos ⟨(fun h => by cases h), (fun h => by cases h)⟩]
  apply congrArg some
  unfold zM
  simp only [zu_r, zu_c, ne_eq, reduceCtorEq, not_false_eq_true, Nat.reduceEqDiff, List.set_cons_zero, List.set_cons_succ, List.cons_append, List.nil_append]
theorem zl_30 {A : zIT} {K : zLT} {I : zIT} {L : zLT} {F : zFT} {E : zET} {dyn : zH} : zlen (zM A K I L F E dyn) (some 30) = some 200 := rfl
theorem za_31 {A : zIT} {K : zLT} {I : zIT} {L : zLT} {F : zFT} {E : zET} {dyn : zH} {i : Int} (h0 : 0 ≤ i) (h1 : i < 200) : zaI (zM A K I L F E dyn) 0 (some 31) i = some (I 31 i.toNat) := by
  have hz : zarr (zM A K I L F E dyn) (some 31) 0 i = some (31, 200, .inl (I 31)) := by
    show ((if 0 = 0 ∧ 0 ≤ i ∧ i < ((200 : Nat) : Int) then some (200, (.inl (I 31) : zC)) else none).bind fun q => some (31, q)) = _
    rw [if_pos ⟨rfl, h0, h1⟩]
    rfl
  unfold zaI
  rw [hz]
  rfl
theorem zs_31 {A : zIT} {K : zLT} {I : zIT} {L : zLT} {F : zFT} {E : zET} {dyn : zH} {i v : Int} (h0 : 0 ≤ i) (h1 : i < 200) : zsI (zM A K I L F E dyn) 0 (some 31) i v = some (zM A K (zu I 31 i.toNat v) L F E dyn) := by
  have hz : zarr (zM A K I L F E dyn) (some 31) 0 i = some (31, 200, .inl (I 31)) := by
    show ((if 0 = 0 ∧ 0 ≤ i ∧ i < ((200 : Nat) : Int) then some (200, (.inl (I 31) : zC)) else none).bind fun q => some (31, q)) = _
    rw [if_pos ⟨rfl, h0, h1⟩]
    rfl
  unfold zsI
  rw [hz]
  show (if (0 = 2 → v = 0 ∨ v = 1) ∧ (0 = 3 → 0 ≤ v ∧ v ≤ 65535) then some ((zM A K I L F E dyn).set 31 (.inl (0, 200, .inl (zup (I 31) i.toNat v)))) else none) = _
  rw [if_pos ⟨(fun h => by cases h), (fun h => by cases h)⟩]
  apply congrArg some
  unfold zM
  simp only [zu_r, zu_c, ne_eq, reduceCtorEq, not_false_eq_true, Nat.reduceEqDiff, List.set_cons_zero, List.set_cons_succ, List.cons_append, List.nil_append]
theorem zl_31 {A : zIT} {K : zLT} {I : zIT} {L : zLT} {F : zFT} {E : zET} {dyn : zH} : zlen (zM A K I L F E dyn) (some 31) = some 200 := rfl
theorem za_32 {A : zIT} {K : zLT} {I : zIT} {L : zLT} {F : zFT} {E : zET} {dyn : zH} {i : Int} (h0 : 0 ≤ i) (h1 : i < 80) : zaI (zM A K I L F E dyn) 0 (some 32) i = some (I 32 i.toNat) := by
  have hz : zarr (zM A K I L F E dyn) (some 32) 0 i = some (32, 80, .inl (I 32)) := by
    show ((if 0 = 0 ∧ 0 ≤ i ∧ i < ((80 : Nat) : Int) then some (80, (.inl (I 32) : zC)) else none).bind fun q => some (32, q)) = _
    rw [if_pos ⟨rfl, h0, h1⟩]
    rfl
  unfold zaI
  rw [hz]
  rfl
theorem zs_32 {A : zIT} {K : zLT} {I : zIT} {L : zLT} {F : zFT} {E : zET} {dyn : zH} {i v : Int} (h0 : 0 ≤ i) (h1 : i < 80) : zsI (zM A K I L F E dyn) 0 (some 32) i v = some (zM A K (zu I 32 i.toNat v) L F E dyn) := by
  have hz : zarr (zM A K I L F E dyn) (some 32) 0 i = some (32, 80, .inl (I 32)) := by
    show ((if 0 = 0 ∧ 0 ≤ i ∧ i < ((80 : Nat) : Int) then some (80, (.inl (I 32) : zC)) else none).bind fun q => some (32, q)) = _
    rw [if_pos ⟨rfl, h0, h1⟩]
    rfl
  unfold zsI
  rw [hz]
  show (if (0 = 2 → v = 0 ∨ v = 1) ∧ (0 = 3 → 0 ≤ v ∧ v ≤ 65535) then some ((zM A K I L F E dyn).set 32 (.inl (0, 80, .inl (zup (I 32) i.toNat v)))) else none) = _
  rw [if_pos ⟨(fun h => by cases h), (fun h => by cases h)⟩]
  apply congrArg some
  unfold zM
  simp only [zu_r, zu_c, ne_eq, reduceCtorEq, not_false_eq_true, Nat.reduceEqDiff, List.set_cons_zero, List.set_cons_succ, List.cons_append, List.nil_append]
theorem zl_32 {A : zIT} {K : zLT} {I : zIT} {L : zLT} {F : zFT} {E : zET} {dyn : zH} : zlen (zM A K I L F E dyn) (some 32) = some 80 := rfl
theorem za_33 {A : zIT} {K : zLT} {I : zIT} {L : zLT} {F : zFT} {E : zET} {dyn : zH} {i : Int} (h0 : 0 ≤ i) (h1 : i < 80) : zaI (zM A K I L F E dyn) 0 (some 33) i = some (I 33 i.toNat) := by
  have hz : zarr (zM A K I L F E dyn) (some 33) 0 i = some (33, 80, .inl (I 33)) := by
    show ((if 0 = 0 ∧ 0 ≤ i ∧ i < ((80 : Nat) : Int) then some (80, (.inl (I 33) : zC)) else none).bind fun q => some (33, q)) = _
    rw [if_pos ⟨rfl, h0, h1⟩]
    rfl
  unfold zaI
  rw [hz]
  rfl
theorem zs_33 {A : zIT} {K : zLT} {I : zIT} {L : zLT} {F : zFT} {E : zET} {dyn : zH} {i v : Int} (h0 : 0 ≤ i) (h1 : i < 80) : zsI (zM A K I L F E dyn) 0 (some 33) i v = some (zM A K (zu I 33 i.toNat v) L F E dyn) := by
  have hz : zarr (zM A K I L F E dyn) (some 33) 0 i = some (33, 80, .inl (I 33)) := by
    show ((if 0 = 0 ∧ 0 ≤ i ∧ i < ((80 : Nat) : Int) then some (80, (.inl (I 33) : zC)) else none).bind fun q => some (33, q)) = _
    rw [if_pos ⟨rfl, h0, h1⟩]
    rfl
  unfold zsI
  rw [hz]
  show (if (0 = 2 → v = 0 ∨ v = 1) ∧ (0 = 3 → 0 ≤ v ∧ v ≤ 65535) then some ((zM A K I L F E dyn).set 33 (.inl (0, 80, .inl (zup (I 33) i.toNat v)))) else none) = _
  rw [if_pos ⟨(fun h => by cases h), (fun h => by cases h)⟩]
  apply congrArg some
  unfold zM
  simp only [zu_r, zu_c, ne_eq, reduceCtorEq, not_false_eq_true, Nat.reduceEqDiff, List.set_cons_zero, List.set_cons_succ, List.cons_append, List.nil_append]
theorem zl_33 {A : zIT} {K : zLT} {I : zIT} {L : zLT} {F : zFT} {E : zET} {dyn : zH} : zlen (zM A K I L F E dyn) (some 33) = some 80 := rfl
theorem za_34 {A : zIT} {K : zLT} {I : zIT} {L : zLT} {F : zFT} {E : zET} {dyn : zH} {i : Int} (h0 : 0 ≤ i) (h1 : i < 80) : zaI (zM A K I L F E dyn) 3 (some 34) i = some (I 34 i.toNat) := by
  have hz : zarr (zM A K I L F E dyn) (some 34) 3 i = some (34, 80, .inl (I 34)) := by
    show ((if 3 = 3 ∧ 0 ≤ i ∧ i < ((80 : Nat) : Int) then some (80, (.inl (I 34) : zC)) else none).bind fun q => some (34, q)) = _
    rw [if_pos ⟨rfl, h0, h1⟩]
    rfl
  unfold zaI
  rw [hz]
  rfl
theorem zs_34 {A : zIT} {K : zLT} {I : zIT} {L : zLT} {F : zFT} {E : zET} {dyn : zH} {i v : Int} (h0 : 0 ≤ i) (h1 : i < 80) (hv : 0 ≤ v ∧ v ≤ 65535) : zsI (zM A K I L F E dyn) 3 (some 34) i v = some (zM A K (zu I 34 i.toNat v) L F E dyn) := by
  have hz : zarr (zM A K I L F E dyn) (some 34) 3 i = some (34, 80, .inl (I 34)) := by
    show ((if 3 = 3 ∧ 0 ≤ i ∧ i < ((80 : Nat) : Int) then some (80, (.inl (I 34) : zC)) else none).bind fun q => some (34, q)) = _
    rw [if_pos ⟨rfl, h0, h1⟩]
    rfl
  unfold zsI
  rw [hz]
  show (if (3 = 2 → v = 0 ∨ v = 1) ∧ (3 = 3 → 0 ≤ v ∧ v ≤ 65535) then some ((zM A K I L F E dyn).set 34 (.inl (3, 80, .inl (zup (I 34) i.toNat v)))) else none) = _
  rw [if_pos ⟨(fun h => by cases h), (fun _ => hv)⟩]
  apply congrArg some
  unfold zM
  simp only [zu_r, zu_c, ne_eq, reduceCtorEq, not_false_eq_true, Nat.reduceEqDiff, List.set_cons_zero, List.set_cons_succ, List.cons_append, List.nil_append]
theorem zl_34 {A : zIT} {K : zLT} {I : zIT} {L : zLT} {F : zFT} {E : zET} {dyn : zH} : zlen (zM A K I L F E dyn) (some 34) = some 80 := rfl
theorem za_35 {A : zIT} {K : zLT} {I : zIT} {L : zLT} {F : zFT} {E : zET} {dyn : zH} {i : Int} (h0 : 0 ≤ i) (h1 : i < 80) : zaI (zM A K I L F E dyn) 0 (some 35) i = some (I 35 i.toNat) := by
  have hz : zarr (zM A K I L F E dyn) (some 35) 0 i = some (35, 80, .inl (I 35)) := by
    show ((if 0 = 0 ∧ 0 ≤ i ∧ i < ((80 : Nat) : Int) then some (80, (.inl (I 35) : zC)) else none).bind fun q => some (35, q)) = _
    rw [if_pos ⟨rfl, h0, h1⟩]
    rfl
  unfold zaI
  rw [hz]
  rfl
theorem zs_35 {A : zIT} {K : zLT} {I : zIT} {L : zLT} {F : zFT} {E : zET} {dyn : zH} {i v : Int} (h0 : 0 ≤ i) (h1 : i < 80) : zsI (zM A K I L F E dyn) 0 (some 35) i v = some (zM A K (zu I 35 i.toNat v) L F E dyn) := by
  have hz : zarr (zM A K I L F E dyn) (some 35) 0 i = some (35, 80, .inl (I 35)) := by
    show ((if 0 = 0 ∧ 0 ≤ i ∧ i < ((80 : Nat) : Int) then some (80, (.inl (I 35) : zC)) else none).bind fun q => some (35, q)) = _
    rw [if_pos ⟨rfl, h0, h1⟩]
    rfl
  unfold zsI
  rw [hz]
  show (if (0 = 2 → v = 0 ∨ v = 1) ∧ (0 = 3 → 0 ≤ v ∧ v ≤ 65535) then some ((zM A K I L F E dyn).set 35 (.inl (0, 80, .inl (zup (I 35) i.toNat v)))) else none) = _
  rw [if_pos ⟨(fun h => by cases h), (fun h => by cases h)⟩]
  apply congrArg some
  unfold zM
  simp only [zu_r, zu_c, ne_eq, reduceCtorEq, not_false_eq_true, Nat.reduceEqDiff, List.set_cons_zero, List.set_cons_succ, List.cons_append, List.nil_append]
theorem zl_35 {A : zIT} {K : zLT} {I : zIT} {L : zLT} {F : zFT} {E : zET} {dyn : zH} : zlen (zM A K I L F E dyn) (some 35) = some 80 := rfl
theorem za_36 {A : zIT} {K : zLT} {I : zIT} {L : zLT} {F : zFT} {E : zET} {dyn : zH} {i : Int} (h0 : 0 ≤ i) (h1 : i < 40) : zaI (zM A K I L F E dyn) 0 (some 36) i = some (I 36 i.toNat) := by
  have hz : zarr (zM A K I L F E dyn) (some 36) 0 i = some (36, 40, .inl (I 36)) := by
    show ((if 0 = 0 ∧ 0 ≤ i ∧ i < ((40 : Nat) : Int) then some (40, (.inl (I 36) : zC)) else none).bind fun q => some (36, q)) = _
    rw [if_pos ⟨rfl, h0, h1⟩]
    rfl
  unfold zaI
  rw [hz]
  rfl
theorem zs_36 {A : zIT} {K : zLT} {I : zIT} {L : zLT} {F : zFT} {E : zET} {dyn : zH} {i v : Int} (h0 : 0 ≤ i) (h1 : i < 40) : zsI (zM A K I L F E dyn) 0 (some 36) i v = some (zM A K (zu I 36 i.toNat v) L F E dyn) := by
  have hz : zarr (zM A K I L F E dyn) (some 36) 0 i = some (36, 40, .inl (I 36)) := by
    show ((if 0 = 0 ∧ 0 ≤ i ∧ i < ((40 : Nat) : Int) then some (40, (.inl (I 36) : zC)) else none).bind fun q => some (36, q)) = _
    rw [if_pos ⟨rfl, h0, h1⟩]
    rfl
  unfold zsI
  rw [hz]
  show (if (0 = 2 → v = 0 ∨ v = 1) ∧ (0 = 3 → 0 ≤ v ∧ v ≤ 65535) then some ((zM A K I L F E dyn).set 36 (.inl (0, 40, .inl (zup (I 36) i.toNat v)))) else none) = _
  rw [if_pos ⟨(fun h => by cases h), (fun h => by cases h)⟩]
  apply congrArg some
  unfold zM
  simp only [zu_r, zu_c, ne_eq, reduceCtorEq, not_false_eq_true, Nat.reduceEqDiff, List.set_cons_zero, List.set_cons_succ, List.cons_append, List.nil_append]
theorem zl_36 {A : zIT} {K : zLT} {I : zIT} {L : zLT} {F : zFT} {E : zET} {dyn : zH} : zlen (zM A K I L F E dyn) (some 36) = some 40 := rfl
theorem za_37 {A : zIT} {K : zLT} {I : zIT} {L : zLT} {F : zFT} {E : zET} {dyn : zH} {i : Int} (h0 : 0 ≤ i) (h1 : i < 1) : zaJ (zM A K I L F E dyn) (some 37) i = some (L 37 i.toNat) := by
  have hz : zarr (zM A K I L F E dyn) (some 37) 1 i = some (37, 1, .inr (.inl (L 37))) := by
    show ((if 1 = 1 ∧ 0 ≤ i ∧ i < ((1 : Nat) : Int) then some (1, (.inr (.inl (L 37)) : zC)) else none).bind fun q => some (37, q)) = _
    rw [if_pos ⟨rfl, h0, h1⟩]
    rfl
  unfold zaJ
  rw [hz]
  rfl
theorem zs_37 {A : zIT} {K : zLT} {I : zIT} {L : zLT} {F : zFT} {E : zET} {dyn : zH} {i : Int} {v : Int64} (h0 : 0 ≤ i) (h1 : i < 1) : zsJ (zM A K I L F E dyn) (some 37) i v = some (zM A K I (zu L 37 i.toNat v) F E dyn) := by
  have hz : zarr (zM A K I L F E dyn) (some 37) 1 i = some (37, 1, .inr (.inl (L 37))) := by
    show ((if 1 = 1 ∧ 0 ≤ i ∧ i < ((1 : Nat) : Int) then some (1, (.inr (.inl (L 37)) : zC)) else none).bind fun q => some (37, q)) = _
    rw [if_pos ⟨rfl, h0, h1⟩]
    rfl
  unfold zsJ
  rw [hz]
  show some ((zM A K I L F E dyn).set 37 _) = _
  apply congrArg some
  unfold zM
  simp only [zu_r, zu_c, ne_eq, reduceCtorEq, not_false_eq_true, Nat.reduceEqDiff, List.set_cons_zero, List.set_cons_succ, List.cons_append, List.nil_append]
theorem zl_37 {A : zIT} {K : zLT} {I : zIT} {L : zLT} {F : zFT} {E : zET} {dyn : zH} : zlen (zM A K I L F E dyn) (some 37) = some 1 := rfl
theorem zb {α β : Type} (a : α) (f : α → Option β) : (some a).bind f = f a := rfl
theorem zck {z : Int} (h0 : -2147483648 ≤ z) (h1 : z ≤ 2147483647) : zchk z = some z := if_pos ⟨h0, h1⟩
theorem zckZ0 : zchkZ 0 = some 0 := rfl
theorem zckZ1 : zchkZ 1 = some 1 := rfl
theorem zckZ {z : Int} (h : z = 0 ∨ z = 1) : zchkZ z = some z := if_pos h
theorem zdv {a b : Int} (h0 : 0 ≤ a) (h1 : 0 < b) : zdiv a b = some (a / b) := if_pos ⟨h0, h1⟩
theorem zrm' {a b : Int} (h0 : 0 ≤ a) (h1 : 0 < b) : zrem a b = some (a % b) := if_pos ⟨h0, h1⟩
theorem za_38 {A : zIT} {K : zLT} {I : zIT} {L : zLT} {F : zFT} {E : zET} {dyn : zH} : zaD (zM A K I L F E dyn) (some 38) 0 = some (E 38 0) := rfl
theorem zs_38 {A : zIT} {K : zLT} {I : zIT} {L : zLT} {F : zFT} {E : zET} {dyn : zH} {v : UInt64} : zsD (zM A K I L F E dyn) (some 38) 0 v = some (zM A K I L F (zu E 38 0 v) dyn) := by
  show some ((zM A K I L F E dyn).set 38 _) = _
  apply congrArg some
  unfold zM
  simp only [zu_r, zu_c, ne_eq, reduceCtorEq, not_false_eq_true, Nat.reduceEqDiff, List.set_cons_zero, List.set_cons_succ, List.cons_append, List.nil_append]
  all_goals rfl
