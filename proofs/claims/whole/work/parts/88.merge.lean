-- ===== ends; merge and remove of the class =====
def zrf (rd : Nat → Nat) (a : Int) : Option Nat := if 0 ≤ a then some (rd a.toNat + 39) else none
theorem zend_lt {J : zIT} (hl : ∀ d : Nat, (d : Int) < J 14 14 → 0 ≤ J 27 d → J 27 d < J 14 14) (h0 : 0 ≤ J 14 14) : ∀ (n : Nat) (a : Int), a < J 14 14 → zend J n a < J 14 14
  | 0, a, h => h
  | n + 1, a, h => by
    show zend J n (zstp J a) < J 14 14
    refine zend_lt hl h0 n _ ?_
    unfold zstp
    split
    · rename_i c
      have := hl a.toNat (by omega)
      omega
    · exact h
theorem k_endOf {A : zIT} {K : zLT} {I : zIT} {L : zLT} {F : zFT} {E : zET} {dyn : zH} {J : zIT} {rd : Nat → Nat} {fp : Nat → Option Nat} {a : Int} (hD : zRD J F dyn rd fp) (hl : ∀ d : Nat, (d : Int) < J 14 14 → 0 ≤ J 27 d → J 27 d < J 14 14) (h0 : 0 ≤ J 14 14) (ha : a < J 14 14) : X7_endOf (zM A K I L F E dyn) (zrf rd a) = some (zrf rd (zend J 40 a)) := by
  unfold X7_endOf
  obtain ⟨e, he, hq⟩ := zloop_up (body := X7_endOf_b4 (zM A K I L F E dyn)) (fun i s => s.2 = (i : Int) ∧ ∃ x, s.1 = zrf rd x ∧ zend J (40 - i) x = zend J 40 a ∧ x < J 14 14) (fun e => e = zrf rd (zend J 40 a)) 40 (by
    rintro i ⟨q, k⟩ hi ⟨hk, x, hq, hx, hlt⟩
    simp only at hk hq
    subst hk hq
    unfold X7_endOf_b4
    simp only
    rw [if_neg (by omega)]
    by_cases c : 0 ≤ x
    · have hc := (hD.1 x.toNat (by omega)).2
      have ez : zrf rd x = some (rd x.toNat + 39) := if_pos c
      rw [ez, if_neg (fun y => by cases y), zgDor_3b hc]
      by_cases c2 : J 26 x.toNat = 0
      · rw [if_pos c2]
        rw [zend_fix (fun y => y.2 c2)] at hx
        exact Or.inr ⟨_, rfl, by rw [← hx, ez]⟩
      · rw [if_neg c2, zgDor_4b hc, zckb (by omega) (by omega)]
        rw [show 40 - i = (40 - (i + 1)) + 1 by omega] at hx
        have es : zstp J x = J 27 x.toNat := if_pos ⟨c, c2⟩
        refine Or.inl ⟨_, rfl, rfl, J 27 x.toNat, rfl, ?_, ?_⟩
        · rw [← es]
          exact hx
        · have := hl x.toNat (by omega)
          omega
    · have ez : zrf rd x = none := if_neg c
      rw [ez, if_pos rfl]
      rw [zend_fix (fun y => c y.1)] at hx
      exact Or.inr ⟨_, rfl, by rw [← hx, ez]⟩) (by
    rintro ⟨q, k⟩ ⟨hk, x, hq, hx, hlt⟩
    simp only at hk hq
    subst hk hq
    unfold X7_endOf_b4
    rw [if_pos (by omega)]
    refine ⟨_, rfl, ?_⟩
    rw [← hx]
    rfl) (zrf rd a, 0) ⟨rfl, a, rfl, rfl, ha⟩ (by omega)
  rw [he, hq]
  rfl
theorem zrf_e {J : zIT} {F : zFT} {dyn : zH} {rd : Nat → Nat} {fp : Nat → Option Nat} {a : Int} {o : Nat} (hD : zRD J F dyn rd fp) (ha : a < J 14 14) (ho : (o : Int) < J 14 14) : zrf rd a = some (rd o + 39) ↔ a = o := by
  unfold zrf
  by_cases c : 0 ≤ a
  · rw [if_pos c]
    constructor
    · intro h
      injection h with h
      have := zRD_inj hD (s := a.toNat) (t := o) (by omega) ho (by omega)
      omega
    · rintro rfl
      rw [Int.toNat_natCast]
  · rw [if_neg c]
    exact ⟨fun h => (by cases h), fun h => (by omega)⟩
theorem k_leadingTo {A : zIT} {K : zLT} {I : zIT} {L : zLT} {F : zFT} {E : zET} {dyn : zH} {J : zIT} {rd : Nat → Nat} {fp : Nat → Option Nat} {o : Nat} (hb : zB J) (hD : zRD J F dyn rd fp) (hl : ∀ d : Nat, (d : Int) < J 14 14 → 0 ≤ J 27 d → J 27 d < J 14 14) (ho : (o : Int) < J 14 14) : X7_leadingTo (zM A K I L F E dyn) (some 0) (some (rd o + 39)) = some (zmc J o (J 14 14).toNat) := by
  unfold zB at hb
  have e : zmc J o (J 14 14).toNat = zsum (fun k => if (k : Int) < J 14 14 ∧ (k : Int) ≠ o ∧ zend J 40 k = o then 1 else 0) 40 := by
    unfold zmc
    rw [zsum_ext (n := (J 14 14).toNat) (m := 40) (by omega) (fun i h1 h2 => if_neg (fun y => by omega))]
    apply zsum_congr
    intro i hi
    by_cases c : (i : Int) ≠ o ∧ zend J 40 i = o
    · rw [if_pos c, if_pos ⟨by omega, c⟩]
    · rw [if_neg c, if_neg (fun y => c y.2)]
  have h : zloop (X7_leadingTo_b14 (some (rd o + 39)) (some 2) 40 (zM A K I L F E dyn)) zN (0, 0) = some (zsum (fun k => if (k : Int) < J 14 14 ∧ (k : Int) ≠ o ∧ zend J 40 k = o then 1 else 0) 40) := by
    refine zloop_0 (body := X7_leadingTo_b14 (some (rd o + 39)) (some 2) 40 (zM A K I L F E dyn)) (fun i => (zsum (fun k => if (k : Int) < J 14 14 ∧ (k : Int) ≠ o ∧ zend J 40 k = o then 1 else 0) i, (i : Int))) 40 ?_ ?_ (by omega)
    · intro i hi
      have hz : 0 ≤ zsum (fun k => if (k : Int) < J 14 14 ∧ (k : Int) ≠ o ∧ zend J 40 k = o then 1 else 0) i ∧ zsum (fun k => if (k : Int) < J 14 14 ∧ (k : Int) ≠ o ∧ zend J 40 k = o then 1 else 0) i ≤ 1 * (i : Int) := zsum_le (fun k => by split <;> omega) i
      unfold X7_leadingTo_b14
      simp only
      rw [if_neg (by omega), za_2b (by omega) (by omega), Int.toNat_natCast]
      simp only [zsum]
      by_cases c : (i : Int) < J 14 14
      · rw [(hD.1 i c).1, if_neg (fun y => by cases y)]
        by_cases c2 : i = o
        · subst c2
          rw [if_pos rfl, zckb (by omega) (by omega), if_neg (fun y => y.2.1 rfl), Int.add_zero]
          rfl
        · rw [if_neg (fun y => c2 (zRD_inj hD c ho (by injection y with y; omega)))]
          have ez : zrf rd (i : Int) = some (rd i + 39) := by
            unfold zrf
            rw [if_pos (by omega), Int.toNat_natCast]
          rw [← ez, k_endOf hD hl (by omega) c, zb]
          by_cases c3 : zend J 40 i = o
          · rw [if_pos ((zrf_e hD (zend_lt hl (by omega) 40 i c) ho).2 c3), zckb (by omega) (by omega), zckb (by omega) (by omega), if_pos ⟨c, by omega, c3⟩]
            rfl
          · rw [if_neg (fun y => c3 ((zrf_e hD (zend_lt hl (by omega) 40 i c) ho).1 y)), zckb (by omega) (by omega), if_neg (fun y => c3 y.2.2), Int.add_zero]
            rfl
      · rw [hD.2 i (by omega), if_pos rfl, zckb (by omega) (by omega), if_neg (fun y => c y.1), Int.add_zero]
        rfl
    · rfl
  unfold X7_leadingTo
  rw [zg_0_1b, zl_2b, h, e]
  rfl
theorem k_remove_1 {A : zIT} {K : zLT} {I : zIT} {L : zLT} {F : zFT} {E : zET} {dyn : zH} {rd : Nat → Nat} {fp : Nat → Option Nat} {d : Int} (hb : zB I) (hD : zRD I F dyn rd fp) (h : ¬ zdr I d) : X7_remove (zM A K I L F E dyn) (some 0) d = some (.inr 3, (zM A K I L F E dyn)) := by
  unfold X7_remove
  rw [zo_0b]
  rcases k_known (A := A) (K := K) (L := L) (E := E) hb hD d with ⟨_, hx⟩ | ⟨e, _⟩
  · exact absurd hx h
  · rw [e, zb]
theorem k_remove_2 {A : zIT} {K : zLT} {I : zIT} {L : zLT} {F : zFT} {E : zET} {dyn : zH} {rd : Nat → Nat} {fp : Nat → Option Nat} {d : Nat} (hb : zB I) (hD : zRD I F dyn rd fp) (h : zdr I d) (h2 : I 26 d ≠ 0) : X7_remove (zM A K I L F E dyn) (some 0) (d : Int) = some (.inr 2, (zM A K I L F E dyn)) := by
  unfold X7_remove
  rw [zo_0b]
  rcases k_known (A := A) (K := K) (L := L) (E := E) hb hD d with ⟨e, _⟩ | ⟨_, hx⟩
  · rw [e, zb]
    simp only
    rw [Int.toNat_natCast, zgDor_3b (hD.1 d h.2).2, if_neg h2]
  · exact absurd h hx
theorem zRO2_0 {A : zIT} {K : zLT} {I : zIT} {L : zLT} {t : Int} (hb : zB I) (h : zRO A K I L) : zRO2 A K (zu I 14 29 t, L) := by
  unfold zB at hb
  have e : (zu I 14 29 t) 14 19 = I 14 19 := rfl
  refine ⟨zRO_cg h rfl rfl rfl rfl rfl e rfl (fun c c1 c2 => zu_c (by omega)), ?_⟩
  simp only
  rw [e]
  exact hb.2.2
theorem k_remove_0 {A : zIT} {K : zLT} {I : zIT} {L : zLT} {F : zFT} {E : zET} {dyn : zH} {rs rd : Nat → Nat} {fp : Nat → Option Nat} {B : Int} {rk : Nat → Nat} {d : Nat} (hV : zVA I L B rk) (hR : zRL A K I L F dyn rs rd fp) (h : zdr I d) (h2 : I 26 d = 0) :
    ∃ A' K' dyn', X7_remove (zM A K I L F E dyn) (some 0) (d : Int) = some (.inl ((zgo (zu I 14 29 0, L) d (-2)).1 14 19), zM A' K' I L F E dyn') ∧ zRL A' K' (zgo (zu I 14 29 0, L) d (-2)).1 (zgo (zu I 14 29 0, L) d (-2)).2 F dyn' rs rd (fun p => if p / 2 = d then none else fp p) := by
  have hb := zVA_B hV
  have hb' := hb
  unfold zB at hb'
  have hR' := hR
  obtain ⟨hS, hD, hP, hO, hK7, h8, h5, h6⟩ := hR'
  have hd : (d : Int) < I 14 14 := h.2
  have hl : zld I rd d = none := by
    have := ((zVA_8 hV d (by omega)).2.2.1 hd h2).2
    unfold zld
    rw [if_neg (by omega)]
  unfold X7_remove
  rw [zo_0b]
  rcases k_known (A := A) (K := K) (L := L) (E := E) hb hD d with ⟨e, _⟩ | ⟨_, hx⟩
  · rw [e, zb]
    simp only
    rw [Int.toNat_natCast, zgDor_3b (hD.1 d hd).2, if_pos h2, zo_0b]
    obtain ⟨A', K', e1, r1, f1, g1⟩ := k_letGo (I := I) (E := E) (x := (zu I 14 29 0, L)) hS hD hP hd (by omega) (zVA_1 hV) (zRO2_0 hb hO) h8 (show zu I 14 29 0 22 = I 22 from zu_c (by omega)) (show zu I 14 29 0 25 = I 25 from zu_c (by omega)) rfl rfl
    have R := k_go_R (to := -2) hR hd r1 f1 g1
    rw [if_neg (by omega)] at R
    rw [e1, zb, hl, zg_0_2b, zg_3_4b]
    refine ⟨A', K', _, ?_, R⟩
    rw [R.2.2.2.1.1]
  · exact absurd h hx
theorem k_merge_1 {A : zIT} {K : zLT} {I : zIT} {L : zLT} {F : zFT} {E : zET} {dyn : zH} {rd : Nat → Nat} {fp : Nat → Option Nat} {d o : Int} (hb : zB I) (hD : zRD I F dyn rd fp) (h : ¬ (zdr I d ∧ zdr I o)) : X7_merge (zM A K I L F E dyn) (some 0) d o = some (.inr 3, (zM A K I L F E dyn)) := by
  unfold X7_merge
  rw [zo_0b]
  rcases k_known (A := A) (K := K) (L := L) (E := E) hb hD d with ⟨e, hx⟩ | ⟨e, _⟩
  · rw [e, zb]
    simp only
    rw [zo_0b]
    rcases k_known (A := A) (K := K) (L := L) (E := E) hb hD o with ⟨e, hy⟩ | ⟨e, _⟩
    · exact absurd ⟨hx, hy⟩ h
    · rw [e, zb]
  · rw [e, zb]
theorem k_merge_s {A : zIT} {K : zLT} {I : zIT} {L : zLT} {F : zFT} {E : zET} {dyn : zH} {rd : Nat → Nat} {fp : Nat → Option Nat} {d o : Nat} (hb : zB I) (hD : zRD I F dyn rd fp) (h : zdr I d ∧ zdr I o) : X7_merge (zM A K I L F E dyn) (some 0) (d : Int) (o : Int) = if d = o then some (.inr 0, (zM A K I L F E dyn)) else if I 26 d = 0 then (if I 26 o = 0 then
      (X7_letGo (zM A K I L F E dyn) (some 0) (some (rd d + 39))).bind fun x9 => (zpR x9 (some (rd d + 39)) 2 4 (some (rd o + 39))).bind fun h10 => ((zobj h10 (some 0) 8).bind fun _ => X7_leadingTo h10 (some 0) (some (rd o + 39))).bind fun x11 => some (Sum.inl x11, h10)
      else some (.inr 2, (zM A K I L F E dyn))) else some (.inr 2, (zM A K I L F E dyn)) := by
  unfold X7_merge
  rw [zo_0b]
  rcases k_known (A := A) (K := K) (L := L) (E := E) hb hD d with ⟨e, _⟩ | ⟨_, hx⟩
  · rw [e, zb]
    simp only
    rw [zo_0b]
    rcases k_known (A := A) (K := K) (L := L) (E := E) hb hD o with ⟨e, _⟩ | ⟨_, hx⟩
    · rw [e, zb]
      simp only
      rw [Int.toNat_natCast, Int.toNat_natCast]
      by_cases c : d = o
      · rw [if_pos (by rw [c]), if_pos c]
      · rw [if_neg (fun y => c (zRD_inj hD h.1.2 h.2.2 (by injection y with y; omega))), if_neg c, zgDor_3b (hD.1 d h.1.2).2]
        by_cases c2 : I 26 d = 0
        · rw [if_pos c2, if_pos c2, zgDor_3b (hD.1 o h.2.2).2]
          by_cases c3 : I 26 o = 0
          · rw [if_pos c3, if_pos c3, zo_0b]
          · rw [if_neg c3, if_neg c3]
        · rw [if_neg c2, if_neg c2]
    · exact absurd h.2 hx
  · exact absurd h.1 hx
theorem k_merge_0 {A : zIT} {K : zLT} {I : zIT} {L : zLT} {F : zFT} {E : zET} {dyn : zH} {rs rd : Nat → Nat} {fp : Nat → Option Nat} {B : Int} {rk : Nat → Nat} {d o : Nat} (hV : zVA I L B rk) (hR : zRL A K I L F dyn rs rd fp) (h : zdr I d ∧ zdr I o) (hne : d ≠ o) (h2 : I 26 d = 0) (h3 : I 26 o = 0) :
    ∃ A' K' dyn', X7_merge (zM A K I L F E dyn) (some 0) (d : Int) (o : Int) = some (.inl (zmc (zgo (zu I 14 29 0, L) d o).1 o (I 14 14).toNat), zM A' K' I L F E dyn') ∧ zRL A' K' (zgo (zu I 14 29 0, L) d o).1 (zgo (zu I 14 29 0, L) d o).2 F dyn' rs rd (fun p => if p / 2 = d then none else fp p) := by
  have hb := zVA_B hV
  have hb' := hb
  unfold zB at hb'
  have hR' := hR
  obtain ⟨hS, hD, hP, hO, hK7, h8, h5, h6⟩ := hR'
  have hd : (d : Int) < I 14 14 := h.1.2
  have ho : (o : Int) < I 14 14 := h.2.2
  obtain ⟨A', K', e1, r1, f1, g1⟩ := k_letGo (I := I) (E := E) (x := (zu I 14 29 0, L)) hS hD hP hd (by omega) (zVA_1 hV) (zRO2_0 hb hO) h8 (show zu I 14 29 0 22 = I 22 from zu_c (by omega)) (show zu I 14 29 0 25 = I 25 from zu_c (by omega)) rfl rfl
  have R := k_go_R (to := (o : Int)) hR hd r1 f1 g1
  rw [if_pos (by omega), Int.toNat_natCast] at R
  have e14 : (zgo (zu I 14 29 0, L) d o).1 14 14 = I 14 14 := zgo_14 (by omega)
  have e27 : ∀ t, (zgo (zu I 14 29 0, L) d o).1 27 t = if t = d then (o : Int) else I 27 t := fun t => by
    unfold zgo
    simp only
    rw [zu_j, zu_c (by omega), zlv_o (by omega) (by omega) (by omega) (by omega), zlv_o (by omega) (by omega) (by omega) (by omega)]
    simp only
    rw [zu_c (by omega)]
  rw [k_merge_s hb hD h, if_neg hne, if_pos h2, if_pos h3, e1, zb, zpDor_4b (zset_eq (hD.1 d hd).2), zset22, zo_0b]
  have hl := k_leadingTo (A := A') (K := K') (I := I) (L := L) (E := E) (o := o) (zgo_B (d := d) (to := (o : Int)) (x := (zu I 14 29 0, L)) hb) R.2.1 (fun t ht h0 => by
    rw [e14] at ht ⊢
    rw [e27] at h0 ⊢
    by_cases c : t = d
    · rw [if_pos c]
      exact ho
    · rw [if_neg c] at h0 ⊢
      exact zld_lt hV ht h0) (by rw [e14]; exact ho)
  rw [hl, zb, e14]
  exact ⟨A', K', _, rfl, R⟩
