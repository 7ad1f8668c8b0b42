-- ===== one call of both, call by call (by program: mk98r.py) =====
theorem zcm_th {I : zIT} {s d : Nat} {m w r t : Int} (h : zcm (zu I 14 29 t) s d m w r) : zcm I s d m w r := h
theorem z_uniq {A : zIT} {K : zLT} {I : zIT} {L : zLT} {F : zFT} {dyn : zH} {rs rd : Nat → Nat} {fp : Nat → Option Nat} {B m w r r2 : Int} {rk : Nat → Nat} {s d : Nat} (hV : zVA I L B rk) (hB : B ≤ 90000) (hR : zRL A K I L F dyn rs rd fp) (hs : (s : Int) < I 14 7) (hw : zsd w) (hm : 0 ≤ m ∧ m ≤ I 17 s) (hd : d ≤ 40) (hf : ∀ p : Nat, p < 80 → I 22 p = s → p / 2 ≠ d) (hz : zcm I s d m w r) (hz2 : zcm I s d m w r2) : r2 = r := by
  have hLV := zVA_LV hV hs
  obtain ⟨A', _, hL, _⟩ := k_openLedger (A := A) (K := K) (E := fun _ _ => 0) (len := I 17 s) hV hR.1 hR.2.1 hR.2.2.1 hs (by have := hLV.2.2.2.1; omega)
  rw [zu_id] at hL
  exact zcm_one hL hLV hB hw (fun p hp h1 _ => hf p hp h1) hm hd hz hz2
theorem d_door {n : Nat} {A : zIT} {K : zLT} {I : zIT} {L : zLT} {F : zFT} {E : zET} {dyn : zH} {rs rd : Nat → Nat} {fp : Nat → Option Nat} {rk : Nat → Nat} (h : zWc n A K I L F dyn rs rd fp rk) (s m w : Int) (hn : n ≤ 600) : zDO n I E (L_door (zM A K I L F E dyn) (some 0) s m w (some 37)) (fun hp => X8_door hp (some 14) s m w) := by
  have hb := zVA_B h.2.1
  have hb' := hb
  unfold zB at hb'
  obtain ⟨hS, hD, hP, hO, hK, h8, h5, h6⟩ := h.1
  by_cases c1 : zst I s
  · obtain ⟨s, rfl⟩ := zst_r c1
    have c1S := c1
    by_cases c2 : (0 ≤ m ∧ m ≤ I 17 s) ∧ zsd w
    · have LV := zVA_LV h.2.1 c1S.2.1
      have hl := LV.2.2.2.1
      have hs12 := zst_12 hb c1S
      have mc := fun (Ax : zIT) (Kx Lx : zLT) (Fx : zFT) (Ex : zET) (dx : zH) => m_comes (A := Ax) (K := Kx) (I := zu I 14 29 0) (L := Lx) (F := Fx) (E := Ex) (dyn := dx) (s := s) (d := (I 14 14).toNat) (m := m) (w := w) (B := 200 + 82 * (n : Int)) hb hs12 (by omega) hl c2.1 (by omega) LV.2.2.2.2.1 (fun p hp e => by
        have := (LV.2.2.2.2.2 p hp e).2.1
        have e1 : zu I 14 29 0 23 p = I 23 p := rfl
        omega) (fun p hp e => by
        have v := (LV.2.2.2.2.2 p hp e).2.2
        have := LV.2.2.2.2.1
        have e1 : zu I 14 29 0 25 p = I 25 p := rfl
        omega)
      obtain ⟨r, _, hz', _, hr1⟩ := mc A K L F E dyn
      have hz : zcm I s (I 14 14).toNat m w r := zcm_th hz'
      have ed : (((I 14 14).toNat : Nat) : Int) = I 14 14 := by omega
      obtain ⟨A', hfr, kk⟩ := k_door_a (A := A) (K := K) (E := E) h.2.1 (by omega) hS hD hP h6 c1 c2 hz
      have hA := zAe_h hfr
      have ref : ∀ (Ax : zIT) (Kx Lx : zLT) (Fx : zFT) (Ex : zET) (dx : zH), X8_comes (zM Ax Kx (zu I 14 29 0) Lx Fx Ex dx) (some 14) (s : Int) (I 14 14) m w = some r := by
        intro Ax Kx Lx Fx Ex dx
        obtain ⟨r2, e, hz2, _⟩ := mc Ax Kx Lx Fx Ex dx
        have := z_uniq h.2.1 (by omega) h.1 c1.2.1 c2.2 c2.1 (by omega) (fun p hp h1 h3 => by
          have := zVA_5 h.2.1 p (by omega)
          omega) hz (zcm_th hz2)
        rw [this, ed] at e
        exact e
      have hr2 := (zcm_in LV c2.1 hz).1
      by_cases c3 : r = -1
      · rw [if_pos c3] at kk
        refine zDO_f (k := 3) (A' := A') h ?_ hA (m_door_3 hb c1 c2 (ref _ _ _ _ _ _) (by omega)) (by omega) zu_eq zIe_th rfl
        unfold L_door
        rw [zo_0b, kk]
        all_goals rfl
      · rw [if_neg c3] at kk
        by_cases c4 : 40 ≤ I 14 14
        · rw [if_pos c4] at kk
          have h' : zWc n A K I L F (dyn ++ [zPlc (I 14 14) (some (rs s + 39)) m (if w = 108 then 1 else 0) r]) rs rd fp rk := ⟨zRL_app h.1, h.2⟩
          refine zDO_f (k := 4) (A' := A') h' ?_ hA (m_door_4 hb c1 c2 (ref _ _ _ _ _ _) (by omega) c4) (by omega) zu_eq zIe_th rfl
          unfold L_door
          rw [zo_0b, kk]
          all_goals rfl
        · rw [if_neg c4] at kk
          have R := k_door_R (m := m) (w := w) (r := r) h.2.1 h.1 c1 (by omega) hfr
          have V := w_door (B' := 200 + 82 * ((n + 1 : Nat) : Int)) h.2.1 (by omega) (by omega) c1 c2 (by omega) hz c3
          refine zDO_n (n := n) (v := I 14 14) ⟨R, V, ?_, ?_⟩ ?_ (m_door_0 hb c1 c2 (ref _ _ _ _ _ _) (by omega) c4) ?_ zLe_37 rfl zu_eq
          · intro d hd hg
            rw [zxd_1414] at hd
            rw [zxd_c (by omega) (by omega) (by omega)] at hg
            have hlt : (d : Int) < I 14 14 := by
              rcases Int.lt_or_le (d : Int) (I 14 14) with u | u
              · exact u
              · exact absurd ((zVA_8 h.2.1 d (by omega)).2.1 u) hg
            have := h.2.2.1 d hlt hg
            have e1 : (zxd I s m w r 14 14).toNat = (I 14 14).toNat + 1 := by
              rw [zxd_1414]
              omega
            rw [e1]
            have e2 : zgc (zxd I s m w r) ((I 14 14).toNat + 1) = zgc I (I 14 14).toNat + (if I 26 (I 14 14).toNat = 0 then 0 else 1) := by
              unfold zgc
              rw [zxd_c (by omega) (by omega) (by omega)]
              rfl
            rw [e2]
            split <;> omega
          · rw [zxd_14 (by omega) (by omega)]
            exact (zWc_up h).2.2.2
          · unfold L_door
            rw [zo_0b, kk, zb]
            simp only
            rw [zs_37b (by omega) (by omega)]
            all_goals rfl
          · unfold zxd
            rw [zu_j, if_neg (by omega), zputs_c (by omega), zu_c (by omega)]
            exact zu_eq
    · refine zDO_f (k := 2) (A' := A) h ?_ zAe_r (m_door_2 hb c1 c2) (by omega) zu_eq zIe_th rfl
      unfold L_door
      rw [zo_0b, k_door_2 hb hS c1 (by rw [Int.toNat_natCast]; exact c2)]
      all_goals rfl
  · refine zDO_f (k := 1) (A' := A) h ?_ zAe_r (m_door_1 hb c1) (by omega) zu_eq zIe_th rfl
    unfold L_door
    rw [zo_0b, k_door_1 hb hS c1]
    all_goals rfl
theorem d_corner {n : Nat} {A : zIT} {K : zLT} {I : zIT} {L : zLT} {F : zFT} {E : zET} {dyn : zH} {rs rd : Nat → Nat} {fp : Nat → Option Nat} {rk : Nat → Nat} (h : zWc n A K I L F dyn rs rd fp rk) (d s m w : Int) (hn : n ≤ 600) : zDO n I E (L_corner (zM A K I L F E dyn) (some 0) d s m w (some 37)) (fun hp => X8_corner hp (some 14) d s m w) := by
  have hb := zVA_B h.2.1
  have hb' := hb
  unfold zB at hb'
  obtain ⟨hS, hD, hP, hO, hK, h8, h5, h6⟩ := h.1
  by_cases c1 : zdr I d ∧ zst I s
  · obtain ⟨s, rfl⟩ := zst_r c1.2
    obtain ⟨d, rfl⟩ := zdr_r c1.1
    have c1S := c1.2
    by_cases c2 : (0 ≤ m ∧ m ≤ I 17 s) ∧ zsd w
    · have hdl := c1.1.2
      have ka := k_corner_a (A := A) (K := K) (E := E) h.2.1 (by omega) hS hD hP c1 c2
      by_cases cn : zcan I d s
      · have LV := zVA_LV h.2.1 c1S.2.1
        have hl := LV.2.2.2.1
        have hs12 := zst_12 hb c1S
        have mc := fun (Ax : zIT) (Kx Lx : zLT) (Fx : zFT) (Ex : zET) (dx : zH) => m_comes (A := Ax) (K := Kx) (I := zu I 14 29 0) (L := Lx) (F := Fx) (E := Ex) (dyn := dx) (s := s) (d := d) (m := m) (w := w) (B := 200 + 82 * (n : Int)) hb hs12 (by omega) hl c2.1 (by omega) LV.2.2.2.2.1 (fun p hp e => by
          have := (LV.2.2.2.2.2 p hp e).2.1
          have e1 : zu I 14 29 0 23 p = I 23 p := rfl
          omega) (fun p hp e => by
          have v := (LV.2.2.2.2.2 p hp e).2.2
          have := LV.2.2.2.2.1
          have e1 : zu I 14 29 0 25 p = I 25 p := rfl
          omega)
        obtain ⟨r, _, hz', _, hr1⟩ := mc A K L F E dyn
        have hz : zcm I s d m w r := zcm_th hz'
        obtain ⟨A', hfr, kk⟩ := ka.2 cn r hz
        have hA := zAe_h hfr
        have ref : ∀ (Ax : zIT) (Kx Lx : zLT) (Fx : zFT) (Ex : zET) (dx : zH), X8_comes (zM Ax Kx (zu I 14 29 0) Lx Fx Ex dx) (some 14) (s : Int) (d : Int) m w = some r := by
          intro Ax Kx Lx Fx Ex dx
          obtain ⟨r2, e, hz2, _⟩ := mc Ax Kx Lx Fx Ex dx
          have := z_uniq h.2.1 (by omega) h.1 c1.2.2.1 c2.2 c2.1 (by omega) (fun p hp h1 h3 => by
            have := cn.2.1
            have := cn.2.2
            rcases show p = 2 * d ∨ p = 2 * d + 1 by omega with rfl | rfl
            · omega
            · omega) hz (zcm_th hz2)
          rw [this] at e
          exact e
        have hr2 := (zcm_in LV c2.1 hz).1
        by_cases c3 : r = -1
        · rw [if_pos c3] at kk
          have mm := m_corner_can (A := A') (K := K) (I := I) (L := L) (F := F) (E := E) (dyn := dyn) hb c1 c2 cn (ref _ _ _ _ _ _)
          rw [if_pos (by omega)] at mm
          refine zDO_f (k := 3) (A' := A') h ?_ hA mm (by omega) zu_eq zIe_th rfl
          unfold L_corner
          rw [zo_0b, kk]
          all_goals rfl
        · rw [if_neg c3] at kk
          have R := k_corner_R (m := m) (w := w) (r := r) h.2.1 h.1 c1 hfr
          have V := w_corner (B' := 200 + 82 * ((n + 1 : Nat) : Int)) h.2.1 (by omega) (by omega) c1 c2 cn hz c3
          have mm := m_corner_can (A := A') (K := K) (I := I) (L := zu L 37 0 (Int64.ofInt r)) (F := F) (E := E) (dyn := (((dyn ++ [zPlc d (some (rs s + 39)) m (if w = 108 then 1 else 0) r]).set (rd d) (zDor d (fp (2 * d)) (some (dyn.length + 39)) (I 26 d) (zld I rd d))).set (rs s) (zStr s (c5 (L 15 s)) (c5 (L 16 s)) (I 17 s) (I 18 s) (I 19 s) (I 20 s) (zmax (I 21 s) (r / 10))))) hb c1 c2 cn (ref _ _ _ _ _ _)
          rw [if_neg (show ¬ r < 0 by omega)] at mm
          refine zDO_n (n := n) (v := r) ⟨R, V, ?_, ?_⟩ ?_ mm ?_ zLe_37 rfl zu_eq
          · exact zrkb_cg h.2.2.1 (by rw [zputs_c (by omega)]; rfl) (by rw [zputs_c (by omega), zu_c (by omega)])
          · rw [zputs_c (by omega), zu_j, if_neg (by omega)]
            exact (zWc_up h).2.2.2
          · unfold L_corner
            rw [zo_0b, kk, zb]
            simp only
            rw [zs_37b (by omega) (by omega)]
            all_goals rfl
          · rw [zputs_c (by omega)]
            exact zu_eq
      · have kk := ka.1 cn
        refine zDO_f (k := 3) (A' := A) h ?_ zAe_r (m_corner_3 hb c1 c2 cn) (by omega) zu_eq zIe_th rfl
        unfold L_corner
        rw [zo_0b, kk]
        all_goals rfl
    · refine zDO_f (k := 2) (A' := A) h ?_ zAe_r (m_corner_2 hb c1 c2) (by omega) zu_eq zIe_th rfl
      unfold L_corner
      rw [zo_0b, k_corner_2 hb hS hD c1 (by rw [Int.toNat_natCast]; exact c2)]
      all_goals rfl
  · refine zDO_f (k := 1) (A' := A) h ?_ zAe_r (m_corner_1 hb c1) (by omega) zu_eq zIe_th rfl
    unfold L_corner
    rw [zo_0b, k_corner_1 hb hS hD c1]
    all_goals rfl
theorem zgo_29 {I : zIT} {L : zLT} {d : Nat} {to : Int} : (zgo (zu I 14 29 0, L) d to).1 14 29 = 0 := by
  rw [zgo_14 (by omega)]
  simp only
  exact zu_eq
theorem d_remove {n : Nat} {A : zIT} {K : zLT} {I : zIT} {L : zLT} {F : zFT} {E : zET} {dyn : zH} {rs rd : Nat → Nat} {fp : Nat → Option Nat} {rk : Nat → Nat} (h : zWc n A K I L F dyn rs rd fp rk) (d : Int) : zDO n I E (L_remove (zM A K I L F E dyn) (some 0) d (some 37)) (fun hp => X8_remove hp (some 14) d) := by
  have hb := zVA_B h.2.1
  have hD := h.1.2.1
  have hs := zV4_s hb (zVA_4 h.2.1)
  by_cases c1 : zdr I d
  · obtain ⟨d, rfl⟩ := zdr_r c1
    by_cases c2 : I 26 d = 0
    · obtain ⟨A', K', dyn', kk, R⟩ := k_remove_0 (A := A) (K := K) (E := E) h.2.1 h.1 c1 c2
      have W : zWc (n + 1) A' K' (zgo (zu I 14 29 0, L) d (-2)).1 (zgo (zu I 14 29 0, L) d (-2)).2 F dyn' rs rd (fun p => if p / 2 = d then none else fp p) (zup rk d (zgc I (I 14 14).toNat).toNat) := by
        have h' := zWc_up h
        have V := w_go (to := (-2)) h'.2.1 h'.2.2.1 c1.2 c2 (Or.inl rfl)
        refine ⟨R, V.1, V.2, ?_⟩
        rw [zgo_14 (by omega)]
        exact h'.2.2.2
      have mm := m_remove_0 (A := A') (K := K') (I := I) (L := zu L 37 0 (Int64.ofInt ((zgo (zu I 14 29 0, L) d (-2)).1 14 19))) (F := F) (E := E) (dyn := dyn') hb hs c1 c2
      rw [zgo_37] at mm
      simp only at mm
      refine zDO_n (v := (zgo (zu I 14 29 0, L) d (-2)).1 14 19) W ?_ mm zgo_29 zLe_37 rfl zu_eq
      unfold L_remove
      rw [zo_0b, kk, zb]
      simp only
      rw [zs_37b (by omega) (by omega)]
      all_goals rfl
    · refine zDO_f (k := 2) (A' := A) h ?_ zAe_r (m_remove_2 hb c1 c2) (by omega) zu_eq zIe_th rfl
      unfold L_remove
      rw [zo_0b, k_remove_2 hb hD c1 c2]
      all_goals rfl
  · refine zDO_f (k := 1) (A' := A) h ?_ zAe_r (m_remove_1 hb c1) (by omega) zu_eq zIe_th rfl
    unfold L_remove
    rw [zo_0b, k_remove_1 hb hD c1]
    all_goals rfl
theorem d_merge {n : Nat} {A : zIT} {K : zLT} {I : zIT} {L : zLT} {F : zFT} {E : zET} {dyn : zH} {rs rd : Nat → Nat} {fp : Nat → Option Nat} {rk : Nat → Nat} (h : zWc n A K I L F dyn rs rd fp rk) (d o : Int) : zDO n I E (L_merge (zM A K I L F E dyn) (some 0) d o (some 37)) (fun hp => X8_merge hp (some 14) d o) := by
  have hb := zVA_B h.2.1
  have hD := h.1.2.1
  have hs := zV4_s hb (zVA_4 h.2.1)
  by_cases c1 : zdr I d ∧ zdr I o
  · obtain ⟨d, rfl⟩ := zdr_r c1.1
    obtain ⟨o, rfl⟩ := zdr_r c1.2
    have ks := k_merge_s (A := A) (K := K) (L := L) (E := E) hb hD c1
    by_cases c2 : d = o
    · rw [if_pos c2] at ks
      refine zDO_f (k := 2) (A' := A) h ?_ zAe_r (m_merge_2 hb c1 (by omega)) (by omega) zu_eq zIe_th rfl
      unfold L_merge
      rw [zo_0b, ks]
      all_goals rfl
    · by_cases c3 : I 26 d = 0 ∧ I 26 o = 0
      · obtain ⟨A', K', dyn', kk, R⟩ := k_merge_0 (A := A) (K := K) (E := E) h.2.1 h.1 c1 c2 c3.1 c3.2
        have W : zWc (n + 1) A' K' (zgo (zu I 14 29 0, L) d (o : Int)).1 (zgo (zu I 14 29 0, L) d (o : Int)).2 F dyn' rs rd (fun p => if p / 2 = d then none else fp p) (zup rk d (zgc I (I 14 14).toNat).toNat) := by
          have h' := zWc_up h
          have V := w_go (to := (o : Int)) h'.2.1 h'.2.2.1 c1.1.2 c3.1 (Or.inr ⟨by omega, c1.2.2, by omega, by rw [Int.toNat_natCast]; exact c3.2⟩)
          refine ⟨R, V.1, V.2, ?_⟩
          rw [zgo_14 (by omega)]
          exact h'.2.2.2
        have mm := m_merge_0 (A := A') (K := K') (I := I) (L := zu L 37 0 (Int64.ofInt (zmc (zgo (zu I 14 29 0, L) d o).1 o (I 14 14).toNat))) (F := F) (E := E) (dyn := dyn') (rk := zup rk d (zgc I (I 14 14).toNat).toNat) hb hs c1 (by omega) c3 (by rw [zgo_37]; exact zVA_a W.2.1)
        rw [zgo_37] at mm
        simp only at mm
        refine zDO_n (v := zmc (zgo (zu I 14 29 0, L) d o).1 o (I 14 14).toNat) W ?_ mm zgo_29 zLe_37 rfl zu_eq
        unfold L_merge
        rw [zo_0b, kk, zb]
        simp only
        rw [zs_37b (by omega) (by omega)]
        all_goals rfl
      · rw [if_neg c2] at ks
        have kf : X7_merge (zM A K I L F E dyn) (some 0) (d : Int) (o : Int) = some (.inr 2, zM A K I L F E dyn) := by
          rw [ks]
          by_cases y : I 26 d = 0
          · rw [if_pos y, if_neg (fun z => c3 ⟨y, z⟩)]
          · rw [if_neg y]
        refine zDO_f (k := 3) (A' := A) h ?_ zAe_r (m_merge_3 hb c1 (by omega) c3) (by omega) zu_eq zIe_th rfl
        unfold L_merge
        rw [zo_0b, kf]
        all_goals rfl
  · refine zDO_f (k := 1) (A' := A) h ?_ zAe_r (m_merge_1 hb c1) (by omega) zu_eq zIe_th rfl
    unfold L_merge
    rw [zo_0b, k_merge_1 hb hD c1]
    all_goals rfl
theorem d_renumber {n : Nat} {A : zIT} {K : zLT} {I : zIT} {L : zLT} {F : zFT} {E : zET} {dyn : zH} {rs rd : Nat → Nat} {fp : Nat → Option Nat} {rk : Nat → Nat} (h : zWc n A K I L F dyn rs rd fp rk) (s : Int) : zDO n I E (L_renumber (zM A K I L F E dyn) (some 0) s (some 37)) (fun hp => X8_renumber hp (some 14) s) := by
  have hb := zVA_B h.2.1
  by_cases c1 : zst I s
  · obtain ⟨s, rfl⟩ := zst_r c1
    rcases z_renumber (A := A) (K := K) (E := E) (B' := 200 + 82 * ((n + 1 : Nat) : Int)) h.2.1 h.1 c1 (by omega) (by omega) with ⟨A', I', kk, hA, mm, h29, hI, h27⟩ | ⟨v, A', K', dyn', J1, q, kk, mm, h29, R, V, f14, f26⟩
    · refine zDO_f (k := 2) (A' := A') h ?_ hA (mm A' K L F E dyn) (by omega) h29 hI h27
      unfold L_renumber
      rw [zo_0b, kk]
      all_goals rfl
    · have W : zWc (n + 1) A' K' (zlg q (J1, L)).1 (zlg q (J1, L)).2 F dyn' rs rd fp rk := by
        refine ⟨R, V, zrkb_cg h.2.2.1 (f14 14 (by omega) (by omega)) f26, ?_⟩
        rw [f14 28 (by omega) (by omega)]
        exact (zWc_up h).2.2.2
      have m2 := mm A' K' (zu L 37 0 (Int64.ofInt v)) F E dyn' (zu_c (by omega)) (zu_c (by omega))
      rw [zlg_37] at m2
      simp only at m2
      refine zDO_n (v := v) W ?_ m2 h29 zLe_37 rfl zu_eq
      unfold L_renumber
      rw [zo_0b, kk, zb]
      simp only
      rw [zs_37b (by omega) (by omega)]
      all_goals rfl
  · refine zDO_f (k := 1) (A' := A) h ?_ zAe_r (m_renumber_1 hb c1) (by omega) zu_eq zIe_th rfl
    unfold L_renumber
    rw [zo_0b, k_renumber_1 hb h.1.1 c1]
    all_goals rfl
theorem d_join {n : Nat} {A : zIT} {K : zLT} {I : zIT} {L : zLT} {F : zFT} {E : zET} {dyn : zH} {rs rd : Nat → Nat} {fp : Nat → Option Nat} {rk : Nat → Nat} (h : zWc n A K I L F dyn rs rd fp rk) (s o : Int) (hn : n ≤ 600) : zDO n I E (L_join (zM A K I L F E dyn) (some 0) s o (some 37)) (fun hp => X8_join hp (some 14) s o) := by
  have hb := zVA_B h.2.1
  by_cases c1 : zst I s ∧ zst I o
  · obtain ⟨s, rfl⟩ := zst_r c1.1
    obtain ⟨o, rfl⟩ := zst_r c1.2
    have hls := (zVA_LV h.2.1 c1.1.2.1).2.2.2.1
    have hlo := (zVA_LV h.2.1 c1.2.2.1).2.2.2.1
    by_cases c2 : s ≠ o ∧ I 17 s + I 17 o ≤ 999
    · rcases z_join (A := A) (K := K) (E := E) (B' := 200 + 82 * ((n + 1 : Nat) : Int)) h.2.1 h.1 c1 c2.1 c2.2 (by omega) (by omega) (by omega) with ⟨A', I', kk, hA, mm, h29, hI, h27⟩ | ⟨A', K', dyn', fp', J1, q, kk, mm, h29, R, V, f14, f26⟩
      · refine zDO_f (k := 3) (A' := A') h ?_ hA (mm A' K L F E dyn) (by omega) h29 hI h27
        unfold L_join
        rw [zo_0b, kk]
        all_goals rfl
      · have W : zWc (n + 1) A' K' (zu (zlg q (J1, L)).1 20 o 1) (zlg q (J1, L)).2 F dyn' rs rd fp' rk := by
          refine ⟨R, V, zrkb_cg h.2.2.1 (f14 14 (by omega) (by omega)) f26, ?_⟩
          rw [f14 28 (by omega) (by omega)]
          exact (zWc_up h).2.2.2
        have m2 := mm A' K' (zu L 37 0 (Int64.ofInt (I 17 s + I 17 o))) F E dyn' (zu_c (by omega)) (zu_c (by omega))
        rw [zlg_37] at m2
        simp only at m2
        refine zDO_n (v := I 17 s + I 17 o) W ?_ m2 h29 zLe_37 rfl zu_eq
        unfold L_join
        rw [zo_0b, kk, zb]
        simp only
        rw [zs_37b (by omega) (by omega)]
        all_goals rfl
    · have ks := k_join_s (A := A) (K := K) (E := E) hb h.1.1 c1 ⟨hls.1, hls.2, hlo.1, hlo.2⟩
      have kf : X7_join (zM A K I L F E dyn) (some 0) (s : Int) (o : Int) = some (.inr 0, zM A K I L F E dyn) := by
        rw [ks]
        by_cases y : s = o
        · rw [if_pos y]
        · rw [if_neg y, if_neg (fun z => c2 ⟨y, z⟩)]
      have mj : X8_join (zM A K I L F E dyn) (some 14) (s : Int) (o : Int) = some (0, zM A K (zu I 14 29 2) L F E dyn) := by
        rw [m_join_j hb c1 ⟨hls.1, hls.2, hlo.1, hlo.2⟩, if_neg c2]
      refine zDO_f (k := 2) (A' := A) h ?_ zAe_r mj (by omega) zu_eq zIe_th rfl
      unfold L_join
      rw [zo_0b, kf]
      all_goals rfl
  · refine zDO_f (k := 1) (A' := A) h ?_ zAe_r (m_join_1 hb c1) (by omega) zu_eq zIe_th rfl
    unfold L_join
    rw [zo_0b, k_join_1 hb h.1.1 c1]
    all_goals rfl
