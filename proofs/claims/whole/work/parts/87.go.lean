-- ===== the relation after corner; letting a door go; ends =====
theorem k_corner_R {A A' : zIT} {K : zLT} {I : zIT} {L : zLT} {F : zFT} {dyn : zH} {rs rd : Nat → Nat} {fp : Nat → Option Nat} {B m w r : Int} {rk : Nat → Nat} {s d : Nat} (hV : zVA I L B rk) (hR : zRL A K I L F dyn rs rd fp) (h : zdr I d ∧ zst I s) (hA : ∀ c, c ≠ 8 → c ≠ 9 → c ≠ 10 → c ≠ 11 → A' c = A c) :
    zRL A' K (zputs (zu I 14 29 0) (2 * d + 1) s m w r) L F (((dyn ++ [zPlc d (some (rs s + 39)) m (if w = 108 then 1 else 0) r]).set (rd d) (zDor d (fp (2 * d)) (some (dyn.length + 39)) (I 26 d) (zld I rd d))).set (rs s) (zStr s (c5 (L 15 s)) (c5 (L 16 s)) (I 17 s) (I 18 s) (I 19 s) (I 20 s) (zmax (I 21 s) (r / 10))))
      rs rd (zup fp (2 * d + 1) (some (dyn.length + 39))) := by
  have hb := zVA_B hV
  unfold zB at hb
  obtain ⟨hS, hD, hP, hO, hK, h8, h5, h6⟩ := hR
  have hs : (s : Int) < I 14 7 := h.2.2.1
  have hd : (d : Int) < I 14 14 := h.1.2
  have hsc := (hS.1 s hs).2
  have hdc := (hD.1 d hd).2
  have e14 : ∀ j, j ≠ 29 → zputs (zu I 14 29 0) (2 * d + 1) s m w r 14 j = I 14 j := fun j hj => by
    rw [zputs_c (by omega), zu_j, if_neg hj]
  have ec : ∀ c, c ≠ 14 → (c < 21 ∨ 25 < c) → zputs (zu I 14 29 0) (2 * d + 1) s m w r c = I c := fun c h1 h2 => by
    rw [zputs_c h2, zu_c h1]
  have e21 : ∀ t, zputs (zu I 14 29 0) (2 * d + 1) s m w r 21 t = if t = s then zmax (I 21 s) (r / 10) else I 21 t := fun t => by
    rw [zputs_21, zu_c (by omega), zmax_e]
  have lk : (dyn ++ [zPlc d (some (rs s + 39)) m (if w = 108 then 1 else 0) r])[dyn.length]? = some (zPlc d (some (rs s + 39)) m (if w = 108 then 1 else 0) r) := zapp_l
  have q1 := zne_DP (zapp_o (x := zPlc d (some (rs s + 39)) m (if w = 108 then 1 else 0) r) hdc) lk
  have q2 := zne_SD hsc hdc
  have q3 := zne_SP (zapp_o (x := zPlc d (some (rs s + 39)) m (if w = 108 then 1 else 0) r) hsc) lk
  have hD2 := zRD_set (I' := zputs (zu I 14 29 0) (2 * d + 1) s m w r) (F' := F) (fp' := zup fp (2 * d + 1) (some (dyn.length + 39))) (d := d) (zRD_app (x := zPlc d (some (rs s + 39)) m (if w = 108 then 1 else 0) r) hD) hd (e14 14 (by omega)) rfl (fun t _ => by rw [ec 26 (by omega) (by omega)]) (fun t _ => by rw [ec 27 (by omega) (by omega)]) (fun p hp => zup_n (by omega))
  have el : zld (zputs (zu I 14 29 0) (2 * d + 1) s m w r) rd d = zld I rd d := by
    unfold zld
    rw [ec 27 (by omega) (by omega)]
  rw [zup_n (show 2 * d ≠ 2 * d + 1 by omega), zup_y rfl, ec 26 (by omega) (by omega), el] at hD2
  have hS2 := zRS_setD (x := zDor d (fp (2 * d)) (some (dyn.length + 39)) (I 26 d) (zld I rd d)) (zRS_app (x := zPlc d (some (rs s + 39)) m (if w = 108 then 1 else 0) r) hS) (zapp_o hdc)
  have hS3 := zRS_set (I' := zputs (zu I 14 29 0) (2 * d + 1) s m w r) (L' := L) (F' := F) hS2 hs (e14 7 (by omega)) rfl (fun c t c1 c2 c3 => by
      by_cases c4 : c = 21
      · subst c4
        rw [e21, if_neg c3]
      · rw [ec c (by omega) (by omega)]) (fun t _ => ⟨rfl, rfl⟩)
  rw [e21, if_pos rfl, ec 17 (by omega) (by omega), ec 18 (by omega) (by omega), ec 19 (by omega) (by omega), ec 20 (by omega) (by omega)] at hS3
  have hsc2 := (zset_ne (x := zDor d (fp (2 * d)) (some (dyn.length + 39)) (I 26 d) (zld I rd d)) q2.symm).trans (zapp_o (x := zPlc d (some (rs s + 39)) m (if w = 108 then 1 else 0) r) hsc)
  refine ⟨hS3, zRD_setS hD2 hsc2, fun p hp => ?_, ?_, hK, ?_, ?_, ?_⟩
  · rw [e14 7 (by omega), zputs_22, zputs_23, zputs_24, zputs_25, zu_c (by omega), zu_c (by omega), zu_c (by omega), zu_c (by omega)]
    by_cases c : p = 2 * d + 1
    · rw [if_pos c, if_pos c, if_pos c, if_pos c, zup_y c]
      refine Or.inr ⟨by omega, hs, dyn.length, rfl, ?_⟩
      rw [zset_ne q3, zset_ne q1, lk, show p / 2 = d by omega, Int.toNat_natCast]
    · rw [if_neg c, if_neg c, if_neg c, if_neg c, zup_n c]
      rcases hP p hp with g | ⟨g1, g2, r1, g3, g4⟩
      · exact Or.inl g
      · exact Or.inr ⟨g1, g2, r1, g3, by rw [zset_ne (zne_SP hsc g4), zset_ne (zne_DP hdc g4)]; exact zapp_o g4⟩
  · exact zRO_cg hO (hA 3 (by omega) (by omega) (by omega) (by omega)) (hA 5 (by omega) (by omega) (by omega) (by omega)) (hA 6 (by omega) (by omega) (by omega) (by omega)) (hA 7 (by omega) (by omega) (by omega) (by omega)) rfl (e14 19 (by omega)) rfl (fun c c1 c2 => ec c (by omega) (by omega))
  · rw [hA 0 (by omega) (by omega) (by omega) (by omega), e14 28 (by omega)]
    exact h8
  · rw [hA 0 (by omega) (by omega) (by omega) (by omega), e14 7 (by omega)]
    exact h5
  · rw [hA 0 (by omega) (by omega) (by omega) (by omega), e14 14 (by omega)]
    exact h6
theorem zlv_o {x : zIT × zLT} {p c : Nat} (h : c < 29 ∨ 31 < c) (h2 : c ≠ 14) (h3 : c ≠ 22) (h4 : c ≠ 25) : (zlv x p).1 c = x.1 c := by
  unfold zlv
  split
  · rfl
  · simp only
    rw [zu_c h4, zu_c h3, zlg_c h h2]
theorem zlv_q {x : zIT × zLT} {p q : Nat} (h : q ≠ p) : (zlv x p).1 22 q = x.1 22 q ∧ (zlv x p).1 25 q = x.1 25 q := by
  unfold zlv
  split
  · exact ⟨rfl, rfl⟩
  · simp only
    rw [zu_c (by omega), zu_j, if_neg h, zlg_c (by omega) (by omega), zu_j, if_neg h, zu_c (by omega), zlg_c (by omega) (by omega)]
    exact ⟨rfl, rfl⟩
theorem zlv_p {x : zIT × zLT} {p : Nat} : (zlv x p).1 22 p = -1 := by
  unfold zlv
  split
  · rename_i h
    exact h
  · simp only
    rw [zu_c (by omega), zu_j, if_pos rfl]
theorem zlv_L {x : zIT × zLT} {p c : Nat} (h : c ≠ 28) : (zlv x p).2 c = x.2 c := by
  unfold zlv
  split
  · rfl
  · simp only
    rw [zlg_L h]
theorem k_rem1 {A : zIT} {K : zLT} {I : zIT} {L : zLT} {F : zFT} {E : zET} {dyn : zH} {rs : Nat → Nat} {fp : Nat → Option Nat} {x : zIT × zLT} {p : Nat} (hS : zRS I L F dyn rs) (hP : zRP I dyn rs fp) (hp : p < 80) {B : Int} (h1 : zV1 I L B) (hR : zRO2 A K x) (hd : A 0 8 = x.1 14 28) (e22 : x.1 22 p = I 22 p) (e25 : x.1 25 p = I 25 p) (e15 : x.2 15 = L 15) (e16 : x.2 16 = L 16) :
    ∃ A' K', X7_rememberBoth (zM A K I L F E dyn) (some 0) (fp p) = some (zM A' K' I L F E dyn) ∧ zRO2 A' K' (zlv x p) ∧ (∀ c, c ≠ 3 → c ≠ 5 → c ≠ 6 → c ≠ 7 → A' c = A c) ∧ (∀ c, c ≠ 4 → K' c = K c) := by
  rcases hP p hp with ⟨g1, g2⟩ | ⟨g1, g2, r, g3, g4⟩
  · refine ⟨A, K, ?_, ?_, fun _ _ _ _ _ => rfl, fun _ _ => rfl⟩
    · rw [g2]
      unfold X7_rememberBoth
      rw [if_pos rfl]
    · unfold zlv
      rw [e22, if_pos g1]
      exact hR
  · have hv := h1 (I 22 p).toNat (by omega)
    unfold zvStr at hv
    obtain ⟨A', K', e, r1, f1, f2⟩ := k_rememberBoth (I := I) (L := L) (F := F) (E := E) hR hv.1 hv.2.1 hd g4 (hS.1 (I 22 p).toNat (by omega)).2
    refine ⟨A', K', by rw [g3]; exact e, ?_, f1, f2⟩
    unfold zlv
    rw [e22, e25, e15, e16, if_neg (by omega)]
    refine ⟨zRO_cg r1.1 rfl rfl rfl rfl rfl ?_ rfl (fun c c1 c2 => ?_), ?_⟩
    · simp only
      rw [zu_c (by omega), zu_c (by omega)]
    · simp only
      rw [zu_c (by omega), zu_c (by omega)]
    · simp only
      rw [zu_c (by omega), zu_c (by omega)]
      exact r1.2
theorem zset22 {dyn : zH} {j : Nat} {x y : zCell} : (dyn.set j x).set j y = dyn.set j y := List.set_set ..
theorem k_letGo {A : zIT} {K : zLT} {I : zIT} {L : zLT} {F : zFT} {E : zET} {dyn : zH} {rs rd : Nat → Nat} {fp : Nat → Option Nat} {B : Int} {x : zIT × zLT} {d : Nat} (hS : zRS I L F dyn rs) (hD : zRD I F dyn rd fp) (hP : zRP I dyn rs fp) (hd : (d : Int) < I 14 14) (hd4 : d < 40) (h1 : zV1 I L B) (hR : zRO2 A K x) (h8 : A 0 8 = x.1 14 28) (e22 : x.1 22 = I 22) (e25 : x.1 25 = I 25) (e15 : x.2 15 = L 15) (e16 : x.2 16 = L 16) :
    ∃ A' K', X7_letGo (zM A K I L F E dyn) (some 0) (some (rd d + 39)) = some (zM A' K' I L F E (dyn.set (rd d) (zDor d none none 1 (zld I rd d)))) ∧ zRO2 A' K' (zlv (zlv x (2 * d)) (2 * d + 1)) ∧ (∀ c, c ≠ 3 → c ≠ 5 → c ≠ 6 → c ≠ 7 → A' c = A c) ∧ (∀ c, c ≠ 4 → K' c = K c) := by
  have hdc := (hD.1 d hd).2
  unfold X7_letGo
  rw [zgDor_1b hdc, zo_0b]
  obtain ⟨A1, K1, x1, r1, f1, g1⟩ := k_rem1 (I := I) (L := L) (F := F) (E := E) (dyn := dyn) (p := 2 * d) hS hP (by omega) h1 hR h8 (by rw [e22]) (by rw [e25]) e15 e16
  rw [x1, zb, zgDor_2b hdc, zo_0b]
  have q := zlv_q (x := x) (p := 2 * d) (q := 2 * d + 1) (by omega)
  obtain ⟨A2, K2, x2, r2, f2, g2⟩ := k_rem1 (I := I) (L := L) (F := F) (E := E) (dyn := dyn) (p := 2 * d + 1) hS hP (by omega) h1 r1 (by rw [f1 0 (by omega) (by omega) (by omega) (by omega), zlv_14 (by omega)]; exact h8) (by rw [q.1, e22]) (by rw [q.2, e25]) (by rw [zlv_L (by omega)]; exact e15) (by rw [zlv_L (by omega)]; exact e16)
  rw [x2, zb, zpDor_1b hdc, zpDor_2b (zset_eq hdc), zset22, zpDor_3b (zset_eq hdc) (Or.inr rfl), zset22]
  exact ⟨A2, K2, rfl, r2, fun c a1 a2 a3 a4 => (f2 c a1 a2 a3 a4).trans (f1 c a1 a2 a3 a4), fun c a1 => (g2 c a1).trans (g1 c a1)⟩
theorem k_go_R {A A' : zIT} {K K' : zLT} {I : zIT} {L : zLT} {F : zFT} {dyn : zH} {rs rd : Nat → Nat} {fp : Nat → Option Nat} {to : Int} {d : Nat} (hR : zRL A K I L F dyn rs rd fp) (hd : (d : Int) < I 14 14) (hO : zRO2 A' K' (zlv (zlv (zu I 14 29 0, L) (2 * d)) (2 * d + 1))) (hA : ∀ c, c ≠ 3 → c ≠ 5 → c ≠ 6 → c ≠ 7 → A' c = A c) (hK : ∀ c, c ≠ 4 → K' c = K c) :
    zRL A' K' (zgo (zu I 14 29 0, L) d to).1 (zgo (zu I 14 29 0, L) d to).2 F (dyn.set (rd d) (zDor d none none 1 (if 0 ≤ to then some (rd to.toNat + 39) else none))) rs rd (fun p => if p / 2 = d then none else fp p) := by
  obtain ⟨hS, hD, hP, _, hK7, h8, h5, h6⟩ := hR
  have hdc := (hD.1 d hd).2
  have ec : ∀ c, (c < 29 ∨ 31 < c) → c ≠ 14 → c ≠ 22 → c ≠ 25 → c ≠ 26 → c ≠ 27 → (zgo (zu I 14 29 0, L) d to).1 c = I c := fun c c1 c2 c3 c4 c5 c6 => by
    unfold zgo
    simp only
    rw [zu_c c6, zu_c c5, zlv_o c1 c2 c3 c4, zlv_o c1 c2 c3 c4]
    simp only
    rw [zu_c c2]
  have e14 : ∀ j, j ≠ 19 → j ≠ 29 → (zgo (zu I 14 29 0, L) d to).1 14 j = I 14 j := fun j j1 j2 => by
    rw [zgo_14 j1]
    simp only
    rw [zu_j, if_neg j2]
  have eL : ∀ c, c ≠ 28 → (zgo (zu I 14 29 0, L) d to).2 c = L c := fun c c1 => by
    unfold zgo
    simp only
    rw [zlv_L c1, zlv_L c1]
  have e26 : ∀ t, (zgo (zu I 14 29 0, L) d to).1 26 t = if t = d then 1 else I 26 t := fun t => by
    unfold zgo
    simp only
    rw [zu_c (by omega), zu_j, zlv_o (by omega) (by omega) (by omega) (by omega), zlv_o (by omega) (by omega) (by omega) (by omega)]
    simp only
    rw [zu_c (by omega)]
  have e27 : ∀ t, (zgo (zu I 14 29 0, L) d to).1 27 t = if t = d then to else I 27 t := fun t => by
    unfold zgo
    simp only
    rw [zu_j, zu_c (by omega), zlv_o (by omega) (by omega) (by omega) (by omega), zlv_o (by omega) (by omega) (by omega) (by omega)]
    simp only
    rw [zu_c (by omega)]
  have eq1 : ∀ p, p / 2 ≠ d → (zgo (zu I 14 29 0, L) d to).1 22 p = I 22 p ∧ (zgo (zu I 14 29 0, L) d to).1 25 p = I 25 p := fun p hp => by
    unfold zgo
    simp only
    have a1 := zlv_q (x := zlv (zu I 14 29 0, L) (2 * d)) (p := 2 * d + 1) (q := p) (by omega)
    have a2 := zlv_q (x := (zu I 14 29 0, L)) (p := 2 * d) (q := p) (by omega)
    simp only at a2
    rw [zu_c (by omega), zu_c (by omega), a1.1, a2.1, zu_c (by omega), zu_c (by omega), zu_c (by omega), a1.2, a2.2, zu_c (by omega)]
    exact ⟨rfl, rfl⟩
  have eq2 : ∀ p, p / 2 = d → (zgo (zu I 14 29 0, L) d to).1 22 p = -1 := fun p hp => by
    unfold zgo
    simp only
    rw [zu_c (by omega), zu_c (by omega)]
    rcases show p = 2 * d ∨ p = 2 * d + 1 by omega with rfl | rfl
    · rw [(zlv_q (by omega)).1]
      exact zlv_p
    · exact zlv_p
  have hD2 := zRD_set (I' := (zgo (zu I 14 29 0, L) d to).1) (F' := F) (fp' := fun p => if p / 2 = d then none else fp p) (d := d) hD hd (e14 14 (by omega) (by omega)) rfl (fun t ht => by rw [e26, if_neg ht]) (fun t ht => by rw [e27, if_neg ht]) (fun p hp => if_neg hp)
  have el : zld (zgo (zu I 14 29 0, L) d to).1 rd d = if 0 ≤ to then some (rd to.toNat + 39) else none := by
    unfold zld
    rw [e27, if_pos rfl]
  rw [el, e26, if_pos rfl] at hD2
  simp only [show 2 * d / 2 = d by omega, show (2 * d + 1) / 2 = d by omega, if_true] at hD2
  refine ⟨zRS_cg (zRS_setD hS hdc) (e14 7 (by omega) (by omega)) (fun c c1 c2 => ec c (by omega) (by omega) (by omega) (by omega) (by omega) (by omega)) (eL 15 (by omega)) (eL 16 (by omega)) rfl, hD2, fun p hp => ?_, ?_, ?_, ?_, ?_, ?_⟩
  · by_cases c : p / 2 = d
    · exact Or.inl ⟨eq2 p c, if_pos c⟩
    · rw [(eq1 p c).1, (eq1 p c).2, e14 7 (by omega) (by omega), ec 23 (by omega) (by omega) (by omega) (by omega) (by omega) (by omega), ec 24 (by omega) (by omega) (by omega) (by omega) (by omega) (by omega)]
      simp only [if_neg c]
      exact zRP_setD hP hdc p hp
  · refine zRO_cg hO.1 rfl rfl rfl rfl rfl ?_ rfl (fun c c1 c2 => ?_)
    · unfold zgo
      simp only
      rw [zu_c (by omega), zu_c (by omega)]
    · unfold zgo
      simp only
      rw [zu_c (by omega), zu_c (by omega)]
  · rw [hK 0 (by omega), eL 14 (by omega)]
    exact hK7
  · rw [hA 0 (by omega) (by omega) (by omega) (by omega), e14 28 (by omega) (by omega)]
    exact h8
  · rw [hA 0 (by omega) (by omega) (by omega) (by omega), e14 7 (by omega) (by omega)]
    exact h5
  · rw [hA 0 (by omega) (by omega) (by omega) (by omega), e14 14 (by omega) (by omega)]
    exact h6
