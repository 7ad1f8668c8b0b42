-- ===== one call of both, call by call (by program: mk98q.py) =====
theorem d_send {n : Nat} {A : zIT} {K : zLT} {I : zIT} {L : zLT} {F : zFT} {E : zET} {dyn : zH} {rs rd : Nat → Nat} {fp : Nat → Option Nat} {rk : Nat → Nat} (h : zWc n A K I L F dyn rs rd fp rk) (a : Int) : zDO n I E (L_send (zM A K I L F E dyn) (some 0) a (some 37)) (fun hp => X8_send hp (some 14) a) := by
  have hb := zVA_B h.2.1
  have hs := zV4_s hb (zVA_4 h.2.1)
  have kk := k_send (A := A) (K := K) (L := L) (E := E) (a := a) h.2.1 h.1
  have h30 : ∀ k, k < (I 14 19).toNat → I 30 k < I 14 14 := fun k hk => (zVA_9 h.2.1 k (by omega)).2.2.2
  have ezw : ∀ (v : Int64) (m : Nat), znw I (zu L 37 0 v) a m = znw I L a m := fun v m => by
    induction m with
    | zero => rfl
    | succ m ih =>
      show (if _ then _ else znw I (zu L 37 0 v) a m) = _
      rw [ih]
      rfl
  have eza : ∀ (v : Int64) (m : Nat), zla I (zu L 37 0 v) a m = zla I L a m := fun v m => by
    induction m with
    | zero => rfl
    | succ m ih =>
      show (if _ then _ else zla I (zu L 37 0 v) a m) = _
      rw [ih]
      rfl
  by_cases c1 : znw I L a (2 * I 14 14).toNat ≠ -1
  · rw [if_pos c1] at kk
    have mm := m_send_now (A := A) (K := K) (I := I) (L := zu L 37 0 (Int64.ofInt (znw I L a (2 * I 14 14).toNat))) (F := F) (E := E) (dyn := dyn) (a := a) hb hs (by rw [ezw]; exact c1)
    rw [ezw] at mm
    refine zDO_q (A' := A) h ?_ zAe_r mm zu_eq zIe_th rfl
    unfold L_send
    rw [zo_0b, kk, zb]
    simp only
    rw [zs_37b (by omega) (by omega)]
    all_goals rfl
  · have c1' : znw I L a (2 * I 14 14).toNat = -1 := by
      by_cases y : znw I L a (2 * I 14 14).toNat = -1
      · exact y
      · exact absurd y c1
    rw [if_neg c1] at kk
    by_cases c2 : zla I L a (I 14 19).toNat = -1
    · rw [if_pos c2] at kk
      refine zDO_f (k := 1) (A' := A) h ?_ zAe_r (m_send_1 (A := A) (K := K) (I := I) (L := L) (F := F) (E := E) (dyn := dyn) (a := a) hb hs c1' c2) (by omega) zu_eq zIe_th rfl
      unfold L_send
      rw [zo_0b, kk]
      all_goals rfl
    · rw [if_neg c2] at kk
      by_cases c3 : zend I 40 (I 30 (zla I L a (I 14 19).toNat).toNat) < 0
      · have mm := m_send_0 (A := A) (K := K) (I := I) (L := L) (F := F) (E := E) (dyn := dyn) (a := a) hb (zVA_a h.2.1) hs c1' c2 h30
        rw [if_pos c3] at kk mm
        refine zDO_f (k := 2) (A' := A) h ?_ zAe_r mm (by omega) zu_eq zIe_th rfl
        unfold L_send
        rw [zo_0b, kk]
        all_goals rfl
      · have mm := m_send_0 (A := A) (K := K) (I := I) (L := zu L 37 0 (Int64.ofInt (zend I 40 (I 30 (zla I L a (I 14 19).toNat).toNat)))) (F := F) (E := E) (dyn := dyn) (a := a) hb (zVA_a h.2.1) hs (by rw [ezw]; exact c1') (by rw [eza]; exact c2) h30
        rw [eza, if_neg c3] at mm
        rw [if_neg c3] at kk
        refine zDO_q (A' := A) h ?_ zAe_r mm zu_eq zIe_th rfl
        unfold L_send
        rw [zo_0b, kk, zb]
        simp only
        rw [zs_37b (by omega) (by omega)]
        all_goals rfl
theorem d_until {n : Nat} {A : zIT} {K : zLT} {I : zIT} {L : zLT} {F : zFT} {E : zET} {dyn : zH} {rs rd : Nat → Nat} {fp : Nat → Option Nat} {rk : Nat → Nat} (h : zWc n A K I L F dyn rs rd fp rk) (a : Int) : zDO n I E (L_until (zM A K I L F E dyn) (some 0) a (some 37)) (fun hp => X8_until hp (some 14) a) := by
  have hb := zVA_B h.2.1
  have kk := k_until (A := A) (K := K) (L := L) (E := E) (a := a) h.2.1 h.1
  have eza : ∀ (v : Int64) (m : Nat), zla I (zu L 37 0 v) a m = zla I L a m := fun v m => by
    induction m with
    | zero => rfl
    | succ m ih =>
      show (if _ then _ else zla I (zu L 37 0 v) a m) = _
      rw [ih]
      rfl
  by_cases c2 : zla I L a (I 14 19).toNat = -1
  · have mm := m_until (A := A) (K := K) (I := I) (L := L) (F := F) (E := E) (dyn := dyn) (a := a) hb
    rw [if_pos c2] at kk mm
    refine zDO_f (k := 1) (A' := A) h ?_ zAe_r mm (by omega) zu_eq zIe_th rfl
    unfold L_until
    rw [zo_0b, kk]
    all_goals rfl
  · have mm := m_until (A := A) (K := K) (I := I) (L := zu L 37 0 (Int64.ofInt (I 31 (zla I L a (I 14 19).toNat).toNat))) (F := F) (E := E) (dyn := dyn) (a := a) hb
    rw [eza, if_neg c2] at mm
    rw [if_neg c2] at kk
    refine zDO_q (A' := A) h ?_ zAe_r mm zu_eq zIe_th rfl
    unfold L_until
    rw [zo_0b, kk, zb]
    simp only
    rw [zs_37b (by omega) (by omega)]
    all_goals rfl
theorem d_doors {n : Nat} {A : zIT} {K : zLT} {I : zIT} {L : zLT} {F : zFT} {E : zET} {dyn : zH} {rs rd : Nat → Nat} {fp : Nat → Option Nat} {rk : Nat → Nat} (h : zWc n A K I L F dyn rs rd fp rk) (s : Int) : zDO n I E (L_doors (zM A K I L F E dyn) (some 0) s (some 37)) (fun hp => X8_doors hp (some 14) s) := by
  have hb := zVA_B h.2.1
  obtain ⟨hS, hD, hP, _⟩ := h.1
  by_cases c1 : zst I s
  · obtain ⟨s, rfl⟩ := zst_r c1
    refine zDO_q (A' := A) h ?_ zAe_r (m_doors_0 hb c1) zu_eq zIe_th rfl
    unfold L_doors
    rw [zo_0b, k_doors hb hS hD hP (zVA_5 h.2.1) (zV7_d (zVA_7 h.2.1)) c1, zb]
    simp only
    rw [zs_37b (by omega) (by omega)]
    all_goals rfl
  · refine zDO_f (k := 1) (A' := A) h ?_ zAe_r (m_doors_1 hb c1) (by omega) zu_eq zIe_th rfl
    unfold L_doors X7_doors
    rw [zo_0b, zo_0b]
    rcases k_standing (A := A) (K := K) (E := E) hb hS s with ⟨_, hx⟩ | ⟨e, _⟩
    · exact absurd hx c1
    · rw [e]
      all_goals rfl
theorem d_walk {n : Nat} {A : zIT} {K : zLT} {I : zIT} {L : zLT} {F : zFT} {E : zET} {dyn : zH} {rs rd : Nat → Nat} {fp : Nat → Option Nat} {rk : Nat → Nat} (h : zWc n A K I L F dyn rs rd fp rk) (s k : Int) : zDO n I E (L_walk (zM A K I L F E dyn) (some 0) s k (some 37)) (fun hp => X8_walk hp (some 14) s k) := by
  have hb := zVA_B h.2.1
  by_cases c1 : zst I s
  · obtain ⟨s, rfl⟩ := zst_r c1
    have hV : ∀ p, p < 80 → I 22 p = s → zsd (I 24 p) ∧ 0 ≤ I 23 p ∧ I 23 p ≤ 999 := fun p hp e => by
      have v := zV4_at (zVA_4 h.2.1) hp e
      have := (zVA_LV h.2.1 c1.2.1).2.2.2.1
      exact ⟨v.2.2.1, by omega⟩
    have hD7 := zV7_d (s := s) (zVA_7 h.2.1)
    obtain ⟨r0, R0, t0, m0, _, so0⟩ := m_walk_0 (A := A) (K := K) (I := I) (L := L) (F := F) (E := E) (dyn := dyn) (k := k) hb c1 hV hD7
    obtain ⟨A', kk, hA⟩ := k_walk_0 (A := A) (K := K) (L := L) (E := E) (k := k) h.2.1 h.1 c1 so0
    have uniq : ∀ (r : Nat) (R : Nat → Int), zso I s (2 * I 14 14).toNat r R → r = r0 ∧ ∀ a, a < r0 → R a / 2 = R0 a / 2 := by
      intro r R so
      obtain ⟨e1, e2⟩ := zOS_eq (zso_OS hb (zVA_5 h.2.1) (zVA_7 h.2.1) so0) (zso_OS hb (zVA_5 h.2.1) (zVA_7 h.2.1) so) (fun x => Iff.rfl)
      refine ⟨e1.symm, fun a ha => ?_⟩
      obtain ⟨q0, a1, a2, _⟩ := so0.1 a ha
      obtain ⟨q, b1, b2, _⟩ := so.1 a (by omega)
      have := e2 a ha
      rw [a1, b1, Int.toNat_natCast, Int.toNat_natCast] at this
      have hb2 := hb
      unfold zB at hb2
      have := zwk_ne (I := I) (p := q0) (q := q) (by omega) (by omega) this
      rw [a1, b1]
      omega
    by_cases c2 : 0 ≤ k ∧ k < r0
    · rw [if_pos c2] at kk
      obtain ⟨r, R, t, mm, ht, so⟩ := m_walk_0 (A := A') (K := K) (I := I) (L := zu L 37 0 (Int64.ofInt (R0 k.toNat / 2))) (F := F) (E := E) (dyn := dyn) (k := k) hb c1 hV hD7
      obtain ⟨e1, e2⟩ := uniq r R so
      rw [e1, if_pos c2] at ht
      rw [e1, if_pos c2, e2 k.toNat (by omega), ht] at mm
      refine zDO_q (A' := A') h ?_ hA mm ?_ ?_ ?_
      · unfold L_walk
        rw [zo_0b, kk, zb]
        simp only
        rw [zs_37b (by omega) (by omega)]
        all_goals rfl
      · rw [zcol_o (by omega)]
        exact zu_eq
      · exact ⟨fun c c1 c2 => by rw [zcol_o (by omega), zu_c (by omega), zu_c (by omega)], by rw [zcol_o (by omega)]; rfl, by rw [zcol_o (by omega)]; rfl, by rw [zcol_o (by omega)]; rfl, by rw [zcol_o (by omega)]; rfl⟩
      · rw [zcol_o (by omega)]
        rfl
    · rw [if_neg c2] at kk
      obtain ⟨r, R, t, mm, ht, so⟩ := m_walk_0 (A := A') (K := K) (I := I) (L := L) (F := F) (E := E) (dyn := dyn) (k := k) hb c1 hV hD7
      obtain ⟨e1, e2⟩ := uniq r R so
      rw [e1, if_neg c2] at ht
      rw [e1, if_neg c2, ht] at mm
      refine zDO_f (k := 2) (A' := A') h ?_ hA mm (by omega) ?_ ?_ ?_
      · unfold L_walk
        rw [zo_0b, kk]
        all_goals rfl
      · rw [zcol_o (by omega)]
        exact zu_eq
      · exact ⟨fun c c1 c2 => by rw [zcol_o (by omega), zu_c (by omega), zu_c (by omega)], by rw [zcol_o (by omega)]; rfl, by rw [zcol_o (by omega)]; rfl, by rw [zcol_o (by omega)]; rfl, by rw [zcol_o (by omega)]; rfl⟩
      · rw [zcol_o (by omega)]
        rfl
  · refine zDO_f (k := 1) (A' := A) h ?_ zAe_r (m_walk_1 hb c1) (by omega) zu_eq zIe_th rfl
    unfold L_walk
    rw [zo_0b, k_walk_1 hb h.1.1 c1]
    all_goals rfl
theorem d_steps {n : Nat} {A : zIT} {K : zLT} {I : zIT} {L : zLT} {F : zFT} {E : zET} {dyn : zH} {rs rd : Nat → Nat} {fp : Nat → Option Nat} {rk : Nat → Nat} (h : zWc n A K I L F dyn rs rd fp rk) (s : Int) : zDO n I E (L_steps (zM A K I L F E dyn) (some 0) s (some 37)) (fun hp => X8_steps hp (some 14) s) := by
  have hb := zVA_B h.2.1
  by_cases c1 : zst I s
  · obtain ⟨s, rfl⟩ := zst_r c1
    have hV : ∀ p, p < 80 → I 22 p = s → zsd (I 24 p) ∧ 0 ≤ I 23 p ∧ I 23 p ≤ 999 := fun p hp e => by
      have v := zV4_at (zVA_4 h.2.1) hp e
      have := (zVA_LV h.2.1 c1.2.1).2.2.2.1
      exact ⟨v.2.2.1, by omega⟩
    have hD7 := zV7_d (s := s) (zVA_7 h.2.1)
    obtain ⟨r0, R0, m0, so0⟩ := m_steps_0 (A := A) (K := K) (I := I) (L := L) (F := F) (E := E) (dyn := dyn) hb c1 hV hD7
    obtain ⟨A', kk, hA⟩ := k_steps_0 (A := A) (K := K) (L := L) (E := E) h.2.1 h.1 c1 so0
    obtain ⟨r, R, mm, so⟩ := m_steps_0 (A := A') (K := K) (I := I) (L := zu L 37 0 (Int64.ofInt (zstp2 I R0 (r0 - 1)))) (F := F) (E := E) (dyn := dyn) hb c1 hV hD7
    obtain ⟨A'', kk2, _⟩ := k_steps_0 (A := A) (K := K) (L := L) (E := E) h.2.1 h.1 c1 so
    have ev : zstp2 I R (r - 1) = zstp2 I R0 (r0 - 1) := by
      rw [kk] at kk2
      injection kk2 with kk2
      injection kk2 with k1 k2
      injection k1 with k1
      exact k1.symm
    rw [ev] at mm
    refine zDO_q (A' := A') h ?_ hA mm ?_ ?_ ?_
    · unfold L_steps
      rw [zo_0b, kk, zb]
      simp only
      rw [zs_37b (by omega) (by omega)]
      all_goals rfl
    · rw [zcol_o (by omega)]
      exact zu_eq
    · exact ⟨fun c c1 c2 => by rw [zcol_o (by omega), zu_c (by omega), zu_c (by omega)], by rw [zcol_o (by omega)]; rfl, by rw [zcol_o (by omega)]; rfl, by rw [zcol_o (by omega)]; rfl, by rw [zcol_o (by omega)]; rfl⟩
    · rw [zcol_o (by omega)]
      rfl
  · refine zDO_f (k := 1) (A' := A) h ?_ zAe_r (m_steps_1 hb c1) (by omega) zu_eq zIe_th rfl
    unfold L_steps
    rw [zo_0b, k_steps_1 hb h.1.1 c1]
    all_goals rfl
theorem d_clashes {n : Nat} {A : zIT} {K : zLT} {I : zIT} {L : zLT} {F : zFT} {E : zET} {dyn : zH} {rs rd : Nat → Nat} {fp : Nat → Option Nat} {rk : Nat → Nat} (h : zWc n A K I L F dyn rs rd fp rk) (s : Int) : zDO n I E (L_clashes (zM A K I L F E dyn) (some 0) s (some 37)) (fun hp => X8_clashes hp (some 14) s) := by
  have hb := zVA_B h.2.1
  by_cases c1 : zst I s
  · obtain ⟨s, rfl⟩ := zst_r c1
    have LV := zVA_LV h.2.1 c1.2.1
    obtain ⟨A', kk, hA⟩ := k_clashes_0 (A := A) (K := K) (L := L) (E := E) h.2.1 h.1 c1
    refine zDO_q (A' := A') h ?_ hA (m_clashes_0 hb c1 LV.2.2.2.1 (fun p hp e => by
      have := (LV.2.2.2.2.2 p hp e).2.1
      have := LV.2.2.2.1
      omega)) zu_eq zIe_th rfl
    unfold L_clashes
    rw [zo_0b, kk, zb]
    simp only
    rw [zs_37b (by omega) (by omega)]
    all_goals rfl
  · refine zDO_f (k := 1) (A' := A) h ?_ zAe_r (m_clashes_1 hb c1) (by omega) zu_eq zIe_th rfl
    unfold L_clashes
    rw [zo_0b, k_clashes_1 hb h.1.1 c1]
    all_goals rfl
theorem zVA_cd {I : zIT} {L : zLT} {B v : Int} {rk : Nat → Nat} (hV : zVA I L B rk) : zVA (zu I 14 28 v) L B rk := by
  have hc : ∀ c, c ≠ 14 → zu I 14 28 v c = I c := fun c h => zu_c h
  obtain ⟨v0, v1, v2, v3, v4, v5, v6, v7, v8, va, v9, vt, vw⟩ := hV
  refine ⟨v0, ?_, ?_, ?_, ?_, ?_, ?_, ?_, ?_, ?_, ?_, zVt_cg vt rfl rfl, ?_⟩
  · unfold zV1 zvStr at v1 ⊢
    rw [hc 17 (by omega), hc 18 (by omega), hc 19 (by omega), hc 20 (by omega), hc 21 (by omega)]
    exact v1
  · unfold zV2 at v2 ⊢
    rw [hc 20 (by omega), hc 21 (by omega)]
    exact v2
  · unfold zV3 at v3 ⊢
    rw [hc 20 (by omega)]
    exact v3
  · unfold zV4 zvPl at v4 ⊢
    rw [hc 17 (by omega), hc 20 (by omega), hc 21 (by omega), hc 22 (by omega), hc 23 (by omega), hc 24 (by omega), hc 25 (by omega)]
    exact v4
  · unfold zV5 at v5 ⊢
    rw [hc 22 (by omega)]
    exact v5
  · unfold zV6 at v6 ⊢
    rw [hc 22 (by omega), hc 25 (by omega)]
    exact v6
  · unfold zV7 at v7 ⊢
    rw [hc 22 (by omega)]
    exact v7
  · unfold zV8 zvDr at v8 ⊢
    rw [hc 22 (by omega), hc 26 (by omega), hc 27 (by omega)]
    exact v8
  · unfold zacy at va ⊢
    rw [hc 26 (by omega), hc 27 (by omega)]
    exact va
  · unfold zV9 at v9 ⊢
    rw [hc 30 (by omega)]
    exact v9
  · unfold zVw at vw ⊢
    rw [hc 24 (by omega)]
    exact vw
theorem d_day {n : Nat} {A : zIT} {K : zLT} {I : zIT} {L : zLT} {F : zFT} {E : zET} {dyn : zH} {rs rd : Nat → Nat} {fp : Nat → Option Nat} {rk : Nat → Nat} (h : zWc n A K I L F dyn rs rd fp rk) (d : Int) (hn : n ≤ 600) : zDO n I E (L_day (zM A K I L F E dyn) (some 0) d (some 37)) (fun hp => X8_day hp (some 14) d) := by
  by_cases c1 : 1 ≤ d ∧ d ≤ 9999
  · have hd := h.2.2.2
    obtain ⟨hS, hD, hP, hO, hK, h8, h5, h6⟩ := h.1
    have hdr : 0 ≤ I 14 28 ∧ I 14 28 ≤ 100000000 := by omega
    have W : zWc (n + 1) (zu A 0 8 (A 0 8 + d)) K (zu (zu I 14 29 0) 14 28 (I 14 28 + d)) L F dyn rs rd fp rk := by
      have V1 : zVA (zu I 14 29 0) L (200 + 82 * ((n + 1 : Nat) : Int)) rk := zVA_B2 (zVA_th h.2.1) (by omega)
      refine ⟨⟨zRS_cg hS rfl (fun c c1 c2 => by rw [zu_c (by omega), zu_c (by omega)]) rfl rfl rfl, zRD_cg hD rfl (by rw [zu_c (by omega), zu_c (by omega)]) (by rw [zu_c (by omega), zu_c (by omega)]) rfl, zRP_cg hP rfl (fun c c1 c2 => by rw [zu_c (by omega), zu_c (by omega)]), zRO_cg hO (zu_c (by omega)) (zu_c (by omega)) (zu_c (by omega)) (zu_c (by omega)) rfl rfl rfl (fun c c1 c2 => by rw [zu_c (by omega), zu_c (by omega)]), hK, ?_, h5, h6⟩, zVA_cd V1, zrkb_cg h.2.2.1 rfl (by rw [zu_c (by omega), zu_c (by omega)]), ?_, ?_⟩
      · rw [zu_eq, zu_eq, h8]
      · rw [zu_eq]
        omega
      · rw [zu_eq]
        omega
    refine zDO_n (v := I 14 28 + d) W ?_ (m_day_0 c1 hdr) rfl zLe_37 rfl zu_eq
    unfold L_day
    rw [zo_0b, k_day_0 c1 (by rw [h8]; exact hdr), zb]
    simp only
    rw [zs_37b (by omega) (by omega), h8]
    all_goals rfl
  · refine zDO_f (k := 1) (A' := A) h ?_ zAe_r (m_day_1 c1) (by omega) zu_eq zIe_th rfl
    unfold L_day
    rw [zo_0b, k_day_1 c1]
    all_goals rfl
theorem d_street {n : Nat} {A : zIT} {K : zLT} {I : zIT} {L : zLT} {F : zFT} {E : zET} {dyn : zH} {rs rd : Nat → Nat} {fp : Nat → Option Nat} {rk : Nat → Nat} (h : zWc n A K I L F dyn rs rd fp rk) (l w bk : Int) (hbk : bk = 0 ∨ bk = 1) : zDO n I E (L_street (zM A K I L F E dyn) (some 0) l w bk (some 37)) (fun hp => X8_street hp (some 14) l w bk) := by
  have hb := zVA_B h.2.1
  obtain ⟨hS, hD, hP, hO, hK, h8, h5, h6⟩ := h.1
  have ht := zVA_t h.2.1
  have h1 := zVA_1 h.2.1
  by_cases c1 : zwy w ∧ 10 ≤ l ∧ l ≤ 999
  · have kk := k_street_s (A := A) (K := K) (E := E) hb hS h1 hK ht h5 c1 hbk
    by_cases c2 : 0 < I 14 27 ∧ ¬ zus I L (L 14 26) (I 14 7).toNat
    · have k2 := kk.2 c2
      by_cases c3 : 12 ≤ I 14 7
      · rw [if_pos c3] at k2
        refine zDO_f (k := 3) (A' := A) h ?_ zAe_r (m_street_3 hb c1 c2 c3) (by omega) zu_eq zIe_th rfl
        unfold L_street
        rw [zo_0b, k2]
        all_goals rfl
      · rw [if_neg c3] at k2
        have W : zWc (n + 1) (zu A 0 5 (I 14 7 + 1)) (zu K 0 7 0) (zxsI I l w bk) (zxsL I L) (zu F 1 (I 14 7).toNat (some (dyn.length + 39))) (dyn ++ [zStr (I 14 7) (c5 (L 14 26)) 0 l w bk 0 0]) (zup rs (I 14 7).toNat dyn.length) rd fp rk := by
          have h' := zWc_up h
          refine ⟨k_street_R h'.2.1 h'.1, w_street h'.2.1 (by omega) c1 hbk c2 c3, zrkb_cg h'.2.2.1 (zxsI_14 (by omega) (by omega) (by omega)) (zxsI_c (by omega) (by omega) (by omega) (by omega)), ?_⟩
          rw [zxsI_14 (by omega) (by omega) (by omega)]
          exact h'.2.2.2
        have mm := m_street_0 (A := zu A 0 5 (I 14 7 + 1)) (K := zu K 0 7 0) (I := I) (L := zu L 37 0 (Int64.ofInt (I 14 7))) (F := zu F 1 (I 14 7).toNat (some (dyn.length + 39))) (E := E) (dyn := dyn ++ [zStr (I 14 7) (c5 (L 14 26)) 0 l w bk 0 0]) hb c1 ⟨c2.1, fun y => c2.2 (zus_37.1 y)⟩ c3 hbk
        have x14 : zu L 37 0 (Int64.ofInt (I 14 7)) 14 26 = L 14 26 := rfl
        refine zDO_n (v := I 14 7) W ?_ mm rfl ⟨?_, ?_, ?_⟩ rfl ?_
        · unfold L_street
          rw [zo_0b, k2, zb]
          simp only
          rw [zs_37b (by omega) (by omega)]
          all_goals rfl
        · unfold zxsL
          rw [x14]
          funext t
          rw [zu_c (by omega), zu_j, zu_c (by omega), zu_c (by omega), zu_j]
        · unfold zxsL
          rw [zu_c (by omega), zu_c (by omega), zu_c (by omega), zu_c (by omega), zu_c (by omega)]
        · unfold zxsL
          rw [zu_c (by omega), zu_c (by omega), zu_c (by omega), zu_c (by omega), zu_c (by omega)]
        · unfold zxsL
          rw [zu_c (by omega), zu_c (by omega), zu_eq]
    · have k2 := kk.1 c2
      refine zDO_f (k := 2) (A' := A) h ?_ zAe_r (m_street_2 hb c1 c2) (by omega) zu_eq zIe_th rfl
      unfold L_street
      rw [zo_0b, k2]
      all_goals rfl
  · refine zDO_f (k := 1) (A' := A) h ?_ zAe_r (m_street_1 c1) (by omega) zu_eq zIe_th rfl
    unfold L_street
    rw [zo_0b, k_street_1 c1]
    all_goals rfl
theorem zrename_37 {I : zIT} {L : zLT} {v : Int64} {s : Nat} : (zxr 15 I (zu L 37 0 v) s).1 = (zxr 15 I L s).1 ∧ zLe (zxr 15 I L s).2 (zxr 15 I (zu L 37 0 v) s).2 ∧ (zxr 15 I (zu L 37 0 v) s).2 37 0 = v ∧ (zxr 15 I (zu L 37 0 v) s).2 14 26 = (zxr 15 I L s).2 14 26 := by
  have e : zu L 37 0 v 15 s = L 15 s := rfl
  have e26 : zu L 37 0 v 14 26 = L 14 26 := rfl
  unfold zxr
  rw [e, e26, zlg_37]
  refine ⟨rfl, ⟨?_, ?_, ?_⟩, ?_, ?_⟩
  all_goals simp only
  · funext t
    rw [zu_c (by omega), zu_j, zu_c (by omega), zu_c (by omega), zu_j]
  · funext t
    rw [zu_c (by omega), zu_c (by omega), zu_c (by omega), zu_c (by omega), zu_c (by omega)]
  · rw [zu_c (by omega), zu_c (by omega), zu_c (by omega), zu_c (by omega), zu_c (by omega)]
  · rw [zu_c (by omega), zu_c (by omega), zu_eq]
  · rw [zu_eq, zu_eq]
theorem d_rename {n : Nat} {A : zIT} {K : zLT} {I : zIT} {L : zLT} {F : zFT} {E : zET} {dyn : zH} {rs rd : Nat → Nat} {fp : Nat → Option Nat} {rk : Nat → Nat} (h : zWc n A K I L F dyn rs rd fp rk) (s : Int) : zDO n I E (L_rename (zM A K I L F E dyn) (some 0) s (some 37)) (fun hp => X8_rename hp (some 14) s) := by
  have hb := zVA_B h.2.1
  have hS := h.1.1
  by_cases c1 : zst I s
  · obtain ⟨s, rfl⟩ := zst_r c1
    have kk := k_rename_s (A := A) (K := K) (E := E) h.2.1 h.1 c1
    by_cases c2 : (0 < I 14 27 ∧ ¬ zus I L (L 14 26) (I 14 7).toNat)
    · obtain ⟨A', K', dyn', k2, R⟩ := kk.2 c2
      have W : zWc (n + 1) A' K' (zxr 15 I L s).1 (zxr 15 I L s).2 F dyn' rs rd fp rk := by
        have h' := zWc_up h
        have e14 : ∀ j, j ≠ 19 → j ≠ 27 → j ≠ 29 → (zxr 15 I L s).1 14 j = I 14 j := fun j j1 j2 j3 => by
          unfold zxr
          simp only
          rw [zu_j, if_neg j2, zlg_14 j1]
          simp only
          rw [zu_j, if_neg j3]
        refine ⟨R, w_rename h'.2.1 c1 c2, zrkb_cg h'.2.2.1 (e14 14 (by omega) (by omega) (by omega)) ?_, ?_⟩
        · unfold zxr
          simp only
          rw [zu_c (by omega), zlg_c (by omega) (by omega)]
          simp only
          rw [zu_c (by omega)]
        · rw [e14 28 (by omega) (by omega) (by omega)]
          exact h'.2.2.2
      have mm := m_rename_0 (A := A') (K := K') (I := I) (L := zu L 37 0 (Int64.ofInt ((zxr 15 I L s).1 14 19))) (F := F) (E := E) (dyn := dyn') hb c1 ⟨c2.1, fun y => c2.2 (zus_37.1 y)⟩
      obtain ⟨z1, z2, z3, z4⟩ := zrename_37 (I := I) (L := L) (v := Int64.ofInt ((zxr 15 I L s).1 14 19)) (s := s)
      rw [z1] at mm
      have h29 : (zxr 15 I L s).1 14 29 = 0 := by
        unfold zxr
        simp only
        rw [zu_j, if_neg (by omega), zlg_14 (by omega)]
        simp only
        exact zu_eq
      refine zDO_n (v := (zxr 15 I L s).1 14 19) W ?_ mm h29 z2 z4 z3
      unfold L_rename
      rw [zo_0b, k2, zb]
      simp only
      rw [zs_37b (by omega) (by omega)]
      all_goals rfl
    · have k2 := kk.1 c2
      refine zDO_f (k := 2) (A' := A) h ?_ zAe_r (m_rename_2 hb c1 c2) (by omega) zu_eq zIe_th rfl
      unfold L_rename
      rw [zo_0b, k2]
      all_goals rfl
  · refine zDO_f (k := 1) (A' := A) h ?_ zAe_r (m_rename_1 hb c1) (by omega) zu_eq zIe_th rfl
    unfold L_rename
    rw [zo_0b, k_rename_1 hb hS c1]
    all_goals rfl
theorem ztranslate_37 {I : zIT} {L : zLT} {v : Int64} {s : Nat} : (zxr 16 I (zu L 37 0 v) s).1 = (zxr 16 I L s).1 ∧ zLe (zxr 16 I L s).2 (zxr 16 I (zu L 37 0 v) s).2 ∧ (zxr 16 I (zu L 37 0 v) s).2 37 0 = v ∧ (zxr 16 I (zu L 37 0 v) s).2 14 26 = (zxr 16 I L s).2 14 26 := by
  have e : zu L 37 0 v 16 s = L 16 s := rfl
  have e26 : zu L 37 0 v 14 26 = L 14 26 := rfl
  unfold zxr
  rw [e, e26, zlg_37]
  refine ⟨rfl, ⟨?_, ?_, ?_⟩, ?_, ?_⟩
  all_goals simp only
  · funext t
    rw [zu_c (by omega), zu_c (by omega), zu_c (by omega), zu_c (by omega), zu_c (by omega)]
  · funext t
    rw [zu_c (by omega), zu_j, zu_c (by omega), zu_c (by omega), zu_j]
  · rw [zu_c (by omega), zu_c (by omega), zu_c (by omega), zu_c (by omega), zu_c (by omega)]
  · rw [zu_c (by omega), zu_c (by omega), zu_eq]
  · rw [zu_eq, zu_eq]
theorem d_translate {n : Nat} {A : zIT} {K : zLT} {I : zIT} {L : zLT} {F : zFT} {E : zET} {dyn : zH} {rs rd : Nat → Nat} {fp : Nat → Option Nat} {rk : Nat → Nat} (h : zWc n A K I L F dyn rs rd fp rk) (s : Int) : zDO n I E (L_translate (zM A K I L F E dyn) (some 0) s (some 37)) (fun hp => X8_translate hp (some 14) s) := by
  have hb := zVA_B h.2.1
  have hS := h.1.1
  by_cases c1 : zst I s
  · obtain ⟨s, rfl⟩ := zst_r c1
    have kk := k_translate_s (A := A) (K := K) (E := E) h.2.1 h.1 c1
    by_cases c2 : (¬ zus I L (L 14 26) (I 14 7).toNat)
    · obtain ⟨A', K', dyn', k2, R⟩ := kk.2 c2
      have W : zWc (n + 1) A' K' (zxr 16 I L s).1 (zxr 16 I L s).2 F dyn' rs rd fp rk := by
        have h' := zWc_up h
        have e14 : ∀ j, j ≠ 19 → j ≠ 27 → j ≠ 29 → (zxr 16 I L s).1 14 j = I 14 j := fun j j1 j2 j3 => by
          unfold zxr
          simp only
          rw [zu_j, if_neg j2, zlg_14 j1]
          simp only
          rw [zu_j, if_neg j3]
        refine ⟨R, w_translate h'.2.1 c1 c2, zrkb_cg h'.2.2.1 (e14 14 (by omega) (by omega) (by omega)) ?_, ?_⟩
        · unfold zxr
          simp only
          rw [zu_c (by omega), zlg_c (by omega) (by omega)]
          simp only
          rw [zu_c (by omega)]
        · rw [e14 28 (by omega) (by omega) (by omega)]
          exact h'.2.2.2
      have mm := m_translate_0 (A := A') (K := K') (I := I) (L := zu L 37 0 (Int64.ofInt ((zxr 16 I L s).1 14 19))) (F := F) (E := E) (dyn := dyn') hb c1 (fun y => c2 (zus_37.1 y))
      obtain ⟨z1, z2, z3, z4⟩ := ztranslate_37 (I := I) (L := L) (v := Int64.ofInt ((zxr 16 I L s).1 14 19)) (s := s)
      rw [z1] at mm
      have h29 : (zxr 16 I L s).1 14 29 = 0 := by
        unfold zxr
        simp only
        rw [zu_j, if_neg (by omega), zlg_14 (by omega)]
        simp only
        exact zu_eq
      refine zDO_n (v := (zxr 16 I L s).1 14 19) W ?_ mm h29 z2 z4 z3
      unfold L_translate
      rw [zo_0b, k2, zb]
      simp only
      rw [zs_37b (by omega) (by omega)]
      all_goals rfl
    · have k2 := kk.1 c2
      refine zDO_f (k := 2) (A' := A) h ?_ zAe_r (m_translate_2 hb c1 (by
        by_cases y : zus I L (L 14 26) (I 14 7).toNat
        · exact y
        · exact absurd y c2)) (by omega) zu_eq zIe_th rfl
      unfold L_translate
      rw [zo_0b, k2]
      all_goals rfl
  · refine zDO_f (k := 1) (A' := A) h ?_ zAe_r (m_translate_1 hb c1) (by omega) zu_eq zIe_th rfl
    unfold L_translate
    rw [zo_0b, k_translate_1 hb hS c1]
    all_goals rfl
