-- ===== one call of both, call by call =====
theorem zst_r {I : zIT} {s : Int} (h : zst I s) : ∃ t : Nat, s = (t : Int) := by
  unfold zst at h
  exact ⟨s.toNat, by omega⟩
theorem zdr_r {I : zIT} {s : Int} (h : zdr I s) : ∃ t : Nat, s = (t : Int) := by
  unfold zdr at h
  exact ⟨s.toNat, by omega⟩
theorem d_type {n : Nat} {A : zIT} {K : zLT} {I : zIT} {L : zLT} {F : zFT} {E : zET} {dyn : zH} {rs rd : Nat → Nat} {fp : Nat → Option Nat} {rk : Nat → Nat} (h : zWc n A K I L F dyn rs rd fp rk) (c : Int) : zDO n I E (L_type (zM A K I L F E dyn) (some 0) c (some 37)) (fun hp => X8_type hp (some 14) c) := by
  have ht := zVA_t h.2.1
  have h7 := h.1.2.2.2.2.1
  by_cases c1 : 97 ≤ c ∧ c ≤ 122
  · by_cases c2 : 7 ≤ I 14 27
    · refine zDO_f (k := 2) (A' := A) h ?_ zAe_r (m_type_2 c1 c2) (by omega) zu_eq zIe_th rfl
      unfold L_type
      rw [zo_0b, k_type_2 h7 ht c1 c2]
      all_goals rfl
    · have e27 : zIe I (zu (zu I 14 29 0) 14 27 (I 14 27 + 1)) := ⟨fun c c1 c2 => by rw [zu_c (by omega), zu_c (by omega)], rfl, rfl, rfl, rfl⟩
      have W : zWc (n + 1) A (zu K 0 7 (c5 (27 * L 14 26 + Int64.ofInt (c - 97 + 1)))) (zu (zu I 14 29 0) 14 27 (I 14 27 + 1)) (zu L 14 26 (27 * L 14 26 + Int64.ofInt (c - 97 + 1))) F dyn rs rd fp rk := by
        have h' := zWc_up h
        exact ⟨zRL_cg h'.1 e27 ⟨zu_c (by omega), zu_c (by omega), zu_c (by omega)⟩ zAe_r (zu_c (by omega)) (by rw [zu_eq, zu_eq]), w_type h'.2.1 c1 c2, zrkb_cg h'.2.2.1 rfl (by rw [zu_c (by omega), zu_c (by omega)]), h'.2.2.2⟩
      refine zDO_n (v := I 14 27 + 1) W ?_ (m_type_0 c1 c2 (zVt_7 ht).1) rfl ⟨by rw [zu_c (by omega), zu_c (by omega), zu_c (by omega)], by rw [zu_c (by omega), zu_c (by omega), zu_c (by omega)], by rw [zu_c (by omega), zu_c (by omega), zu_c (by omega)]⟩ rfl rfl
      unfold L_type
      rw [zo_0b, k_type_0 h7 ht c1 c2, zb]
      simp only
      rw [zs_37b (by omega) (by omega)]
      all_goals rfl
  · refine zDO_f (k := 1) (A' := A) h ?_ zAe_r (m_type_1 c1) (by omega) zu_eq zIe_th rfl
    unfold L_type
    rw [zo_0b, k_type_1 c1]
    all_goals rfl
theorem d_way {n : Nat} {A : zIT} {K : zLT} {I : zIT} {L : zLT} {F : zFT} {E : zET} {dyn : zH} {rs rd : Nat → Nat} {fp : Nat → Option Nat} {rk : Nat → Nat} (h : zWc n A K I L F dyn rs rd fp rk) (s w bk : Int) (hbk : bk = 0 ∨ bk = 1) : zDO n I E (L_way (zM A K I L F E dyn) (some 0) s w bk (some 37)) (fun hp => X8_way hp (some 14) s w bk) := by
  have hb := zVA_B h.2.1
  have hS := h.1.1
  by_cases c1 : zst I s
  · by_cases c2 : zwy w
    · obtain ⟨s, rfl⟩ := zst_r c1
      have hv := zVA_1 h.2.1 s c1.2.1
      have W : zWc (n + 1) A K (zu (zu (zu I 14 29 0) 18 s w) 19 s bk) L F (dyn.set (rs s) (zStr s (c5 (L 15 s)) (c5 (L 16 s)) (I 17 s) w bk (I 20 s) (I 21 s))) rs rd fp rk := by
        have h' := zWc_up h
        exact ⟨k_way_R h'.1 c1, w_way h'.2.1 c2 hbk, zrkb_cg h'.2.2.1 rfl (by rw [zu_c (by omega), zu_c (by omega), zu_c (by omega)]), h'.2.2.2⟩
      refine zDO_n (v := I 18 s) W ?_ (m_way_0 hb c1 c2 hbk (zvwy hv.2.2.2.2.2.1)) rfl zLe_37 rfl zu_eq
      unfold L_way
      rw [zo_0b, k_way_0 hb hS c1 c2 hbk hv.2.2.2.2.2.1, zb]
      simp only
      rw [zs_37b (by omega) (by omega)]
      all_goals rfl
    · refine zDO_f (k := 2) (A' := A) h ?_ zAe_r (m_way_2 hb c1 c2) (by omega) zu_eq zIe_th rfl
      unfold L_way
      rw [zo_0b, k_way_2 hb hS c1 c2]
      all_goals rfl
  · refine zDO_f (k := 1) (A' := A) h ?_ zAe_r (m_way_1 hb c1) (by omega) zu_eq zIe_th rfl
    unfold L_way
    rw [zo_0b, k_way_1 hb hS c1]
    all_goals rfl
theorem d_letter {n : Nat} {A : zIT} {K : zLT} {I : zIT} {L : zLT} {F : zFT} {E : zET} {dyn : zH} {rs rd : Nat → Nat} {fp : Nat → Option Nat} {rk : Nat → Nat} (h : zWc n A K I L F dyn rs rd fp rk) (s b k : Int) : zDO n I E (L_letter (zM A K I L F E dyn) (some 0) s b k (some 37)) (fun hp => X8_letter hp (some 14) s b k) := by
  have hb := zVA_B h.2.1
  have hS := h.1.1
  by_cases c1 : zst I s
  · obtain ⟨s, rfl⟩ := zst_r c1
    have hv := zVA_1 h.2.1 s c1.2.1
    have hx : zvn (if b = 0 then L 15 s else L 16 s) := by
      split
      · exact hv.1
      · exact hv.2.1
    have kk := k_letter_0 (A := A) (K := K) (E := E) (b := b) (k := k) hb hS c1 rfl hx
    by_cases c2 : 0 ≤ k ∧ k < (zdgn 7 (if b = 0 then L 15 s else L 16 s).toNatClampNeg : Int)
    · have mm := m_letter_0 (A := A) (K := K) (I := I) (L := zu L 37 0 (Int64.ofInt (96 + (((if b = 0 then L 15 s else L 16 s).toNatClampNeg / 27 ^ ((zdgn 7 (if b = 0 then L 15 s else L 16 s).toNatClampNeg : Int) - 1 - k).toNat % 27 : Nat) : Int)))) (F := F) (E := E) (dyn := dyn) (b := b) (k := k) (x := if b = 0 then L 15 s else L 16 s) hb c1 (by rw [zu_c (by omega), zu_c (by omega)]) hx
      rw [if_pos c2] at kk mm
      refine zDO_q (A' := A) h ?_ zAe_r mm zu_eq zIe_th rfl
      unfold L_letter
      rw [zo_0b, kk, zb]
      simp only
      rw [zs_37b (by omega) (by omega)]
      all_goals rfl
    · have mm := m_letter_0 (A := A) (K := K) (I := I) (L := L) (F := F) (E := E) (dyn := dyn) (b := b) (k := k) hb c1 rfl hx
      rw [if_neg c2] at kk mm
      refine zDO_f (k := 2) (A' := A) h ?_ zAe_r mm (by omega) zu_eq zIe_th rfl
      unfold L_letter
      rw [zo_0b, kk]
      all_goals rfl
  · refine zDO_f (k := 1) (A' := A) h ?_ zAe_r (m_letter_1 hb c1) (by omega) zu_eq zIe_th rfl
    unfold L_letter
    rw [zo_0b, k_letter_1 hb hS c1]
    all_goals rfl
theorem d_address {n : Nat} {A : zIT} {K : zLT} {I : zIT} {L : zLT} {F : zFT} {E : zET} {dyn : zH} {rs rd : Nat → Nat} {fp : Nat → Option Nat} {rk : Nat → Nat} (h : zWc n A K I L F dyn rs rd fp rk) (d c : Int) : zDO n I E (L_address (zM A K I L F E dyn) (some 0) d c (some 37)) (fun hp => X8_address hp (some 14) d c) := by
  have hb := zVA_B h.2.1
  have hD := h.1.2.1
  have hP := h.1.2.2.1
  by_cases c1 : zdr I d
  · obtain ⟨q, hq⟩ : ∃ q : Nat, (q : Int) = 2 * d + (if c = 0 then 0 else 1) := ⟨(2 * d + (if c = 0 then 0 else 1)).toNat, by
      have := c1.1
      split <;> omega⟩
    have kk := k_address (A := A) (K := K) (L := L) (E := E) hb hD hP c1 hq
    by_cases c2 : I 22 q = -1
    · have mm := m_address (A := A) (K := K) (I := I) (L := L) (F := F) (E := E) (dyn := dyn) hb c1 hq
      rw [if_pos c2] at kk mm
      refine zDO_f (k := 2) (A' := A) h ?_ zAe_r mm (by omega) zu_eq zIe_th rfl
      unfold L_address
      rw [zo_0b, kk]
      all_goals rfl
    · have mm := m_address (A := A) (K := K) (I := I) (L := zu L 37 0 (Int64.ofInt (I 25 q))) (F := F) (E := E) (dyn := dyn) hb c1 hq
      rw [if_neg c2] at kk mm
      refine zDO_q (A' := A) h ?_ zAe_r mm zu_eq zIe_th rfl
      unfold L_address
      rw [zo_0b, kk, zb]
      simp only
      rw [zs_37b (by omega) (by omega)]
      all_goals rfl
  · refine zDO_f (k := 1) (A' := A) h ?_ zAe_r (m_address_1 hb c1) (by omega) zu_eq zIe_th rfl
    unfold L_address X7_address
    rw [zo_0b, zo_0b]
    rcases k_known (A := A) (K := K) (L := L) (E := E) hb hD d with ⟨_, hx⟩ | ⟨e, _⟩
    · exact absurd hx c1
    · rw [e]
      all_goals rfl
theorem d_streetOf {n : Nat} {A : zIT} {K : zLT} {I : zIT} {L : zLT} {F : zFT} {E : zET} {dyn : zH} {rs rd : Nat → Nat} {fp : Nat → Option Nat} {rk : Nat → Nat} (h : zWc n A K I L F dyn rs rd fp rk) (d c : Int) : zDO n I E (L_streetOf (zM A K I L F E dyn) (some 0) d c (some 37)) (fun hp => X8_streetOf hp (some 14) d c) := by
  have hb := zVA_B h.2.1
  have hS := h.1.1
  have hD := h.1.2.1
  have hP := h.1.2.2.1
  by_cases c1 : zdr I d
  · obtain ⟨q, hq⟩ : ∃ q : Nat, (q : Int) = 2 * d + (if c = 0 then 0 else 1) := ⟨(2 * d + (if c = 0 then 0 else 1)).toNat, by
      have := c1.1
      split <;> omega⟩
    have kk := k_streetOf (A := A) (K := K) (E := E) hb hS hD hP c1 hq
    by_cases c2 : I 22 q = -1
    · have mm := m_streetOf (A := A) (K := K) (I := I) (L := L) (F := F) (E := E) (dyn := dyn) hb c1 hq
      rw [if_pos c2] at kk mm
      refine zDO_f (k := 2) (A' := A) h ?_ zAe_r mm (by omega) zu_eq zIe_th rfl
      unfold L_streetOf
      rw [zo_0b, kk]
      all_goals rfl
    · have mm := m_streetOf (A := A) (K := K) (I := I) (L := zu L 37 0 (Int64.ofInt (I 22 q))) (F := F) (E := E) (dyn := dyn) hb c1 hq
      rw [if_neg c2] at kk mm
      refine zDO_q (A' := A) h ?_ zAe_r mm zu_eq zIe_th rfl
      unfold L_streetOf
      rw [zo_0b, kk, zb]
      simp only
      rw [zs_37b (by omega) (by omega)]
      all_goals rfl
  · refine zDO_f (k := 1) (A' := A) h ?_ zAe_r (m_streetOf_1 hb c1) (by omega) zu_eq zIe_th rfl
    unfold L_streetOf X7_streetOf
    rw [zo_0b, zo_0b]
    rcases k_known (A := A) (K := K) (L := L) (E := E) hb hD d with ⟨_, hx⟩ | ⟨e, _⟩
    · exact absurd hx c1
    · rw [e]
      all_goals rfl
theorem d_find {n : Nat} {A : zIT} {K : zLT} {I : zIT} {L : zLT} {F : zFT} {E : zET} {dyn : zH} {rs rd : Nat → Nat} {fp : Nat → Option Nat} {rk : Nat → Nat} (h : zWc n A K I L F dyn rs rd fp rk) (a : Int) : zDO n I E (L_find (zM A K I L F E dyn) (some 0) a (some 37)) (fun hp => X8_find hp (some 14) a) := by
  have hb := zVA_B h.2.1
  have hs := zV4_s hb (zVA_4 h.2.1)
  have kk := k_find (A := A) (K := K) (L := L) (E := E) (a := a) h.2.1 h.1
  by_cases c2 : znw I L a (2 * I 14 14).toNat = -1
  · have mm := m_find (A := A) (K := K) (I := I) (L := L) (F := F) (E := E) (dyn := dyn) (a := a) hb hs
    rw [if_pos c2] at kk mm
    refine zDO_f (k := 1) (A' := A) h ?_ zAe_r mm (by omega) zu_eq zIe_th rfl
    unfold L_find
    rw [zo_0b, kk]
    all_goals rfl
  · have mm := m_find (A := A) (K := K) (I := I) (L := zu L 37 0 (Int64.ofInt (znw I L a (2 * I 14 14).toNat))) (F := F) (E := E) (dyn := dyn) (a := a) hb hs
    have ez : ∀ (v : Int64) (m : Nat), znw I (zu L 37 0 v) a m = znw I L a m := fun v m => by
      induction m with
      | zero => rfl
      | succ m ih =>
        show (if _ then _ else znw I (zu L 37 0 v) a m) = _
        rw [ih]
        rfl
    rw [ez, if_neg c2] at mm
    rw [if_neg c2] at kk
    refine zDO_q (A' := A) h ?_ zAe_r mm zu_eq zIe_th rfl
    unfold L_find
    rw [zo_0b, kk, zb]
    simp only
    rw [zs_37b (by omega) (by omega)]
    all_goals rfl
