-- ===== remembering: the class's rows are the reference's =====
def zRO2 (A : zIT) (K : zLT) (x : zIT × zLT) : Prop := zRO A K x.1 x.2 ∧ 0 ≤ x.1 14 19 ∧ x.1 14 19 ≤ 200
theorem k_keepR {A : zIT} {K : zLT} {I : zIT} {L : zLT} {F : zFT} {E : zET} {dyn : zH} {told : Int64} {a d : Int} {x : zIT × zLT} (hR : zRO2 A K x) (ht : told ≠ 0) : ∃ A' K', X3_keep (zM A K I L F E dyn) (some 3) (c5 told) a d (x.1 14 28) = some (zM A' K' I L F E dyn) ∧ zRO2 A' K' (zlg [(told, a, d)] x) ∧ (∀ c, c ≠ 3 → c ≠ 5 → c ≠ 6 → c ≠ 7 → A' c = A c) ∧ (∀ c, c ≠ 4 → K' c = K c) := by
  obtain ⟨h1, h2⟩ := hR
  refine ⟨_, _, k_keep ⟨h1.2.1, h1.2.2.1⟩ (by rw [h1.1]; exact h2), ⟨zRO_add h1 h2 ht, zlg_19 [(told, a, d)] x h2⟩, fun c h3 h5 h6 h7 => ?_, fun c h4 => zu_c (by omega)⟩
  unfold zkA
  simp (disch := omega) only [zu_c]
theorem zlg_0 {a d : Int} {x : zIT × zLT} : zlg [(0, a, d)] x = x := by
  show (zoI x.1 0 a d, zoL x.1 x.2 0) = x
  unfold zoI zoL
  rw [if_pos rfl, if_pos rfl]
theorem k_remember {A : zIT} {K : zLT} {I : zIT} {L : zLT} {F : zFT} {E : zET} {dyn : zH} {told : Int64} {a d m : Int} {lf : Int} {r : Nat} {st : Option Nat} {x : zIT × zLT} (hR : zRO2 A K x) (hv : zvn told) (hd : A 0 8 = x.1 14 28) (hp : dyn[r]? = some (zPlc d st m lf a)) :
    ∃ A' K', X7_remember (zM A K I L F E dyn) (some 0) (c5 told) (some (r + 39)) = some (zM A' K' I L F E dyn) ∧ zRO2 A' K' (zlg [(told, a, d)] x) ∧ (∀ c, c ≠ 3 → c ≠ 5 → c ≠ 6 → c ≠ 7 → A' c = A c) ∧ (∀ c, c ≠ 4 → K' c = K c) := by
  unfold X7_remember
  by_cases c : told = 0
  · rw [if_pos (zcmp_0.2 ((c5_ne hv).2 c)), c, zlg_0]
    exact ⟨A, K, rfl, hR, fun _ _ _ _ _ => rfl, fun _ _ => rfl⟩
  · rw [if_neg (fun y => c ((c5_ne hv).1 (zcmp_0.1 y))), if_neg (fun y => by cases y), zg_0_2b, zgPlc_4b hp, zgPlc_0b hp, zg_0_8b, zo_3b, hd]
    obtain ⟨A', K', e, h⟩ := k_keepR (I := I) (L := L) (F := F) (E := E) (dyn := dyn) (a := a) (d := d) hR c
    rw [e]
    exact ⟨A', K', rfl, h⟩
theorem zlg_28 {q : List zRow} {x : zIT × zLT} : (zlg q x).1 14 28 = x.1 14 28 := zlg_14 (by omega) q x
theorem k_rememberBoth {A : zIT} {K : zLT} {I : zIT} {L : zLT} {F : zFT} {E : zET} {dyn : zH} {n1 n2 : Int64} {nn a d m l w bk g gr : Int} {lf : Int} {r t : Nat} {x : zIT × zLT} (hR : zRO2 A K x) (h1 : zvn n1) (h2 : zvn n2) (hd : A 0 8 = x.1 14 28) (hp : dyn[r]? = some (zPlc d (some (t + 39)) m lf a)) (hs : dyn[t]? = some (zStr nn (c5 n1) (c5 n2) l w bk g gr)) :
    ∃ A' K', X7_rememberBoth (zM A K I L F E dyn) (some 0) (some (r + 39)) = some (zM A' K' I L F E dyn) ∧ zRO2 A' K' (zlg [(n1, a, d), (n2, a, d)] x) ∧ (∀ c, c ≠ 3 → c ≠ 5 → c ≠ 6 → c ≠ 7 → A' c = A c) ∧ (∀ c, c ≠ 4 → K' c = K c) := by
  unfold X7_rememberBoth
  rw [if_neg (fun y => by cases y), zgPlc_1b hp, if_neg (fun y => by cases y), zgPlc_1b hp, zgStr_1b hs, zo_0b]
  obtain ⟨A1, K1, e1, r1, f1, g1⟩ := k_remember (I := I) (L := L) (F := F) (E := E) hR h1 hd hp
  rw [e1, zb, zgPlc_1b hp, zgStr_2b hs, zo_0b]
  obtain ⟨A2, K2, e2, r2, f2, g2⟩ := k_remember (I := I) (L := L) (F := F) (E := E) (told := n2) r1 h2 (by rw [f1 0 (by omega) (by omega) (by omega) (by omega), zlg_28]; exact hd) hp
  rw [e2]
  refine ⟨A2, K2, rfl, ?_, fun c a1 a2 a3 a4 => (f2 c a1 a2 a3 a4).trans (f1 c a1 a2 a3 a4), fun c a1 => (g2 c a1).trans (g1 c a1)⟩
  rw [← zlg_app] at r2
  exact r2
