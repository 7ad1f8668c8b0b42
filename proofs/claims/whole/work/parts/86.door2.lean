-- ===== the class: corner; the relation after door and corner =====
theorem k_corner_1 {A : zIT} {K : zLT} {I : zIT} {L : zLT} {F : zFT} {E : zET} {dyn : zH} {rs rd : Nat → Nat} {fp : Nat → Option Nat} {d s m w : Int} (hb : zB I) (hS : zRS I L F dyn rs) (hD : zRD I F dyn rd fp) (h : ¬ (zdr I d ∧ zst I s)) : X7_corner (zM A K I L F E dyn) (some 0) d s m w = some (.inr 3, (zM A K I L F E dyn)) := by
  unfold X7_corner
  rw [zo_0b]
  rcases k_known (A := A) (K := K) (L := L) (E := E) hb hD d with ⟨e, hd⟩ | ⟨e, _⟩
  · rw [e, zb]
    simp only
    rw [zo_0b]
    rcases k_standing (A := A) (K := K) (E := E) hb hS s with ⟨_, hx⟩ | ⟨e, _⟩
    · exact absurd ⟨hd, hx⟩ h
    · rw [e, zb]
  · rw [e, zb]
theorem k_corner_2 {A : zIT} {K : zLT} {I : zIT} {L : zLT} {F : zFT} {E : zET} {dyn : zH} {rs rd : Nat → Nat} {fp : Nat → Option Nat} {d s m w : Int} (hb : zB I) (hS : zRS I L F dyn rs) (hD : zRD I F dyn rd fp) (h : zdr I d ∧ zst I s) (h2 : ¬ ((0 ≤ m ∧ m ≤ I 17 s.toNat) ∧ zsd w)) : X7_corner (zM A K I L F E dyn) (some 0) d s m w = some (.inr 0, (zM A K I L F E dyn)) := by
  have h' := h.2
  unfold zst at h'
  unfold X7_corner
  rw [zo_0b]
  rcases k_known (A := A) (K := K) (L := L) (E := E) hb hD d with ⟨e, _⟩ | ⟨_, hx⟩
  · rw [e, zb]
    simp only
    rw [zo_0b]
    rcases k_standing (A := A) (K := K) (E := E) hb hS s with ⟨e, _⟩ | ⟨_, hx⟩
    · rw [e, zb]
      simp only
      rw [zbl_0 (k_isPlace (hS.1 s.toNat (by omega)).2) h2, zb, if_pos rfl]
    · exact absurd h.2 hx
  · exact absurd h.1 hx
theorem k_corner_a {A : zIT} {K : zLT} {I : zIT} {L : zLT} {F : zFT} {E : zET} {dyn : zH} {rs rd : Nat → Nat} {fp : Nat → Option Nat} {B m w : Int} {rk : Nat → Nat} {s d : Nat} (hV : zVA I L B rk) (hB : B ≤ 90000) (hS : zRS I L F dyn rs) (hD : zRD I F dyn rd fp) (hP : zRP I dyn rs fp) (h : zdr I d ∧ zst I s) (h2 : (0 ≤ m ∧ m ≤ I 17 s) ∧ zsd w) :
    (¬ zcan I d s → X7_corner (zM A K I L F E dyn) (some 0) (d : Int) (s : Int) m w = some (.inr 2, (zM A K I L F E dyn))) ∧
    (zcan I d s → ∀ r, zcm I s d m w r → ∃ A', (∀ c, c ≠ 8 → c ≠ 9 → c ≠ 10 → c ≠ 11 → A' c = A c) ∧
    X7_corner (zM A K I L F E dyn) (some 0) (d : Int) (s : Int) m w = if r = -1 then some (.inr 2, zM A' K I L F E dyn) else
      some (.inl r, zM A' K I L F E (((dyn ++ [zPlc d (some (rs s + 39)) m (if w = 108 then 1 else 0) r]).set (rd d) (zDor d (fp (2 * d)) (some (dyn.length + 39)) (I 26 d) (zld I rd d))).set (rs s) (zStr s (c5 (L 15 s)) (c5 (L 16 s)) (I 17 s) (I 18 s) (I 19 s) (I 20 s) (zmax (I 21 s) (r / 10)))))) := by
  have hb := zVA_B hV
  have hb' := hb
  unfold zB at hb'
  have hs : (s : Int) < I 14 7 := h.2.2.1
  have hd : (d : Int) < I 14 14 := h.1.2
  have hd4 : d < 40 := by omega
  have hLV := zVA_LV hV hs
  have hdc := (hD.1 d hd).2
  have pre : ∀ {β : Type} {ff : (Int ⊕ Nat) × zH → Option β} {o : Option β}, True → True := fun _ => trivial
  have start : X7_corner (zM A K I L F E dyn) (some 0) (d : Int) (s : Int) m w = (zgI (zM A K I L F E dyn) (some (rd d + 39)) 2 3).bind fun v8 =>
        if v8 = 0 then
          (zgR (zM A K I L F E dyn) (some (rd d + 39)) 2 2).bind fun v9 =>
          if v9 = none then
            ((zobj (zM A K I L F E dyn) (some (rd d + 39)) 2).bind fun _ => X0_placeOn (zM A K I L F E dyn) (some (rd d + 39)) (some (rs s + 39))).bind fun x10 =>
            if x10 = none then
              ((zobj (zM A K I L F E dyn) (some 0) 8).bind fun _ => X7_arrival (zM A K I L F E dyn) (some 0) (d : Int) (some (rs s + 39)) m w).bind fun x11 =>
              if x11.1 = none then
                some (Sum.inr 2, x11.2)
              else
                (zpR x11.2 (some (rd d + 39)) 2 2 x11.1).bind fun h12 =>
                (zgI h12 x11.1 6 4).bind fun v13 =>
                ((zobj h12 (some (rs s + 39)) 7).bind fun _ => X6_notice h12 (some (rs s + 39)) v13).bind fun x14 =>
                (zgI x14 x11.1 6 4).bind fun v15 =>
                some (Sum.inl v15, x14)
            else
              some (Sum.inr 2, (zM A K I L F E dyn))
          else
            some (Sum.inr 2, (zM A K I L F E dyn))
        else
          some (Sum.inr 2, (zM A K I L F E dyn)) := by
    unfold X7_corner
    rw [zo_0b]
    rcases k_known (A := A) (K := K) (L := L) (E := E) hb hD d with ⟨e, _⟩ | ⟨_, hx⟩
    · rw [e, zb]
      simp only
      rw [zo_0b]
      rcases k_standing (A := A) (K := K) (E := E) hb hS s with ⟨e, _⟩ | ⟨_, hx⟩
      · rw [e, zb]
        simp only
        rw [Int.toNat_natCast, Int.toNat_natCast, zbl_1 (k_isPlace (hS.1 s hs).2) h2, zb, if_neg (by omega)]
      · exact absurd h.2 hx
    · exact absurd h.1 hx
  have sec : fp (2 * d + 1) = none ↔ I 22 (2 * d + 1) = -1 := by
    rcases hP (2 * d + 1) (by omega) with ⟨g1, g2⟩ | ⟨g1, g2, r, g3, g4⟩
    · exact ⟨fun _ => g1, fun _ => g2⟩
    · rw [g3]
      exact ⟨fun y => (by cases y), fun y => by omega⟩
  rw [start, zgDor_3b hdc, zgDor_2b hdc, zoDorb hdc, k_placeOn hS hD hP hd hd4 hs, zb]
  constructor
  · intro hn
    by_cases c1 : I 26 d = 0
    · rw [if_pos c1]
      by_cases c2 : I 22 (2 * d + 1) = -1
      · rw [if_pos (sec.2 c2), if_neg]
        intro y
        have := (zpf_some hP hd4).1 y
        exact hn ⟨c1, c2, this.1⟩
      · rw [if_neg (fun y => c2 (sec.1 y))]
    · rw [if_neg c1]
  · intro hc r hz
    obtain ⟨A', e, hfr⟩ := k_arrival (A := A) (K := K) (E := E) hV hB hS hD hP hs h2.2 h2.1 (show d ≤ 40 by omega) (fun p hp h1 h3 => by
      have := hc.2.1
      have := hc.2.2
      rcases show p = 2 * d ∨ p = 2 * d + 1 by omega with rfl | rfl
      · omega
      · omega) hz
    have hr := (zcm_in hLV h2.1 hz).1
    refine ⟨A', hfr, ?_⟩
    rw [if_pos hc.1, if_pos (sec.2 hc.2.1), if_pos ((zpf_some hP hd4).2 ⟨hc.2.2, by have := hc.2.1; omega⟩), zo_0b, e, zb]
    unfold zar
    by_cases c : r = -1
    · rw [if_pos c, if_pos c, if_pos rfl]
    · have q1 := zne_DP (zapp_o (x := zPlc d (some (rs s + 39)) m (if w = 108 then 1 else 0) r) hdc) zapp_l
      have q2 := zne_SD (hS.1 s hs).2 hdc
      have q3 := zne_SP (zapp_o (x := zPlc d (some (rs s + 39)) m (if w = 108 then 1 else 0) r) (hS.1 s hs).2) zapp_l
      rw [if_neg c, if_neg c, if_neg (fun y => by cases y)]
      simp only
      rw [zpDor_2b (zapp_o hdc), zgPlc_4b ((zset_ne q1).trans zapp_l), zoStrb ((zset_ne q2.symm).trans (zapp_o (hS.1 s hs).2)), k_notice ((zset_ne q2.symm).trans (zapp_o (hS.1 s hs).2)) (by omega), zb, zgPlc_4b ((zset_ne q3).trans ((zset_ne q1).trans zapp_l))]
theorem zxd_c {I : zIT} {s c : Nat} {m w a : Int} (h : c < 21 ∨ 25 < c) (h2 : c ≠ 14) (h3 : c ≠ 27) : zxd I s m w a c = I c := by
  unfold zxd
  rw [zu_c h2, zputs_c h, zu_c h3, zu_c h2]
theorem zxd_14 {I : zIT} {s j : Nat} {m w a : Int} (h : j ≠ 14) (h2 : j ≠ 29) : zxd I s m w a 14 j = I 14 j := by
  unfold zxd
  rw [zu_j, if_neg h, zputs_c (by omega), zu_c (by omega), zu_j, if_neg h2]
theorem zxd_1414 {I : zIT} {s : Nat} {m w a : Int} : zxd I s m w a 14 14 = I 14 14 + 1 := zu_eq
theorem zxd_27 {I : zIT} {s j : Nat} {m w a : Int} : zxd I s m w a 27 j = if j = (I 14 14).toNat then -1 else I 27 j := by
  unfold zxd
  rw [zu_c (by omega), zputs_c (by omega), zu_j, zu_c (by omega)]
theorem zxd_22 {I : zIT} {s j : Nat} {m w a : Int} : zxd I s m w a 22 j = if j = 2 * (I 14 14).toNat then (s : Int) else I 22 j := by
  unfold zxd
  rw [zu_c (by omega), zputs_22, zu_c (by omega), zu_c (by omega)]
theorem zxd_23 {I : zIT} {s j : Nat} {m w a : Int} : zxd I s m w a 23 j = if j = 2 * (I 14 14).toNat then m else I 23 j := by
  unfold zxd
  rw [zu_c (by omega), zputs_23, zu_c (by omega), zu_c (by omega)]
theorem zxd_24 {I : zIT} {s j : Nat} {m w a : Int} : zxd I s m w a 24 j = if j = 2 * (I 14 14).toNat then w else I 24 j := by
  unfold zxd
  rw [zu_c (by omega), zputs_24, zu_c (by omega), zu_c (by omega)]
theorem zxd_25 {I : zIT} {s j : Nat} {m w a : Int} : zxd I s m w a 25 j = if j = 2 * (I 14 14).toNat then a else I 25 j := by
  unfold zxd
  rw [zu_c (by omega), zputs_25, zu_c (by omega), zu_c (by omega)]
theorem zxd_21 {I : zIT} {s j : Nat} {m w a : Int} : zxd I s m w a 21 j = if j = s then zmax (I 21 s) (a / 10) else I 21 j := by
  unfold zxd
  rw [zu_c (by omega), zputs_21, zu_c (by omega), zu_c (by omega), zmax_e]
theorem zld_lt {I : zIT} {L : zLT} {B : Int} {rk : Nat → Nat} {d : Nat} (hV : zVA I L B rk) (hd : (d : Int) < I 14 14) (h : 0 ≤ I 27 d) : I 27 d < I 14 14 := by
  have hb := zVA_B hV
  unfold zB at hb
  have h8 := zVA_8 hV d (by omega)
  unfold zvDr at h8
  rcases h8.1 with c | c
  · have := (h8.2.2.1 hd c).2
    omega
  · have := zVA_a hV d hd (by omega)
    omega
theorem zup_y {α : Type} {f : Nat → α} {k j : Nat} {v : α} (h : j = k) : zup f k v j = v := if_pos h
theorem zup_n {α : Type} {f : Nat → α} {k j : Nat} {v : α} (h : j ≠ k) : zup f k v j = f j := if_neg h
theorem k_door_R {A A' : zIT} {K : zLT} {I : zIT} {L : zLT} {F : zFT} {dyn : zH} {rs rd : Nat → Nat} {fp : Nat → Option Nat} {B m w r : Int} {rk : Nat → Nat} {s : Nat} (hV : zVA I L B rk) (hR : zRL A K I L F dyn rs rd fp) (h : zst I s) (h4 : I 14 14 < 40) (hA : ∀ c, c ≠ 8 → c ≠ 9 → c ≠ 10 → c ≠ 11 → A' c = A c) :
    zRL (zu A' 0 6 (I 14 14 + 1)) K (zxd I s m w r) L (zu F 2 (I 14 14).toNat (some (dyn.length + 1 + 39))) ((dyn ++ [zPlc (I 14 14) (some (rs s + 39)) m (if w = 108 then 1 else 0) r] ++ [zDor (I 14 14) (some (dyn.length + 39)) none 0 none]).set (rs s) (zStr s (c5 (L 15 s)) (c5 (L 16 s)) (I 17 s) (I 18 s) (I 19 s) (I 20 s) (zmax (I 21 s) (r / 10))))
      rs (zup rd (I 14 14).toNat (dyn.length + 1)) (zup fp (2 * (I 14 14).toNat) (some (dyn.length + 39))) := by
  have hb := zVA_B hV
  unfold zB at hb
  obtain ⟨hS, hD, hP, hO, hK, h8, h5, h6⟩ := hR
  have hs : (s : Int) < I 14 7 := h.2.1
  have hsc := (hS.1 s hs).2
  have dd : ((I 14 14).toNat : Int) = I 14 14 := by omega
  have lk : (dyn ++ [zPlc (I 14 14) (some (rs s + 39)) m (if w = 108 then 1 else 0) r])[dyn.length]? = some (zPlc (I 14 14) (some (rs s + 39)) m (if w = 108 then 1 else 0) r) := zapp_l
  have lp := zapp_o (x := zDor (I 14 14) (some (dyn.length + 39)) none 0 none) lk
  have ld : (dyn ++ [zPlc (I 14 14) (some (rs s + 39)) m (if w = 108 then 1 else 0) r] ++ [zDor (I 14 14) (some (dyn.length + 39)) none 0 none])[dyn.length + 1]? = some (zDor (I 14 14) (some (dyn.length + 39)) none 0 none) := by
    have := zapp_l (dyn := dyn ++ [zPlc (I 14 14) (some (rs s + 39)) m (if w = 108 then 1 else 0) r]) (x := zDor (I 14 14) (some (dyn.length + 39)) none 0 none)
    rw [List.length_append, List.length_singleton] at this
    exact this
  have lss : ∀ {j : Nat} {y : zCell}, dyn[j]? = some y → (dyn ++ [zPlc (I 14 14) (some (rs s + 39)) m (if w = 108 then 1 else 0) r] ++ [zDor (I 14 14) (some (dyn.length + 39)) none 0 none])[j]? = some y := fun h => zapp_o (zapp_o h)
  refine ⟨?_, ⟨fun d hd => ?_, fun d hd => ?_⟩, fun p hp => ?_, ?_, ?_, ?_, ?_, ?_⟩
  · have := zRS_set (I' := zxd I s m w r) (L' := L) (F' := zu F 2 (I 14 14).toNat (some (dyn.length + 1 + 39))) (zRS_app (x := zDor (I 14 14) (some (dyn.length + 39)) none 0 none) (zRS_app (x := zPlc (I 14 14) (some (rs s + 39)) m (if w = 108 then 1 else 0) r) hS)) hs (zxd_14 (by omega) (by omega)) (zu_c (by omega)) (fun c t c1 c2 c3 => by
      by_cases c4 : c = 21
      · subst c4
        rw [zxd_21, if_neg c3]
      · rw [zxd_c (by omega) (by omega) (by omega)]) (fun t _ => ⟨rfl, rfl⟩)
    rw [zxd_21, if_pos rfl, zxd_c (by omega) (by omega) (by omega), zxd_c (by omega) (by omega) (by omega), zxd_c (by omega) (by omega) (by omega), zxd_c (by omega) (by omega) (by omega)] at this
    exact this
  · rw [zxd_1414] at hd
    rw [zu_j, zxd_c (by omega) (by omega) (by omega)]
    unfold zld
    rw [zxd_27]
    by_cases c : d = (I 14 14).toNat
    · have c2 : 2 * d = 2 * (I 14 14).toNat := by omega
      rw [if_pos c, zup_y c, zup_y c2, zup_n (show ¬ 2 * d + 1 = 2 * (I 14 14).toNat by omega), if_pos c, if_neg (show ¬ (0 : Int) ≤ -1 by omega)]
      refine ⟨rfl, ?_⟩
      rw [zset_ne (zne_SD (lss hsc) ld), ld]
      have e1 : fp (2 * d + 1) = none := by
        rcases hP (2 * d + 1) (by omega) with g | ⟨g1, g2, _⟩
        · exact g.2
        · have := zVA_5 hV (2 * d + 1) (by omega)
          omega
      have e2 : I 26 d = 0 := (zVA_8 hV d (by omega)).2.1 (by omega)
      rw [e1, e2, c, dd]
    · have hd2 : (d : Int) < I 14 14 := by omega
      rw [if_neg c, zup_n c, zup_n (show ¬ 2 * d = 2 * (I 14 14).toNat by omega), zup_n (show ¬ 2 * d + 1 = 2 * (I 14 14).toNat by omega), if_neg c]
      refine ⟨(hD.1 d hd2).1, ?_⟩
      rw [zset_ne (zne_SD hsc (hD.1 d hd2).2), lss (hD.1 d hd2).2]
      unfold zld
      by_cases c3 : 0 ≤ I 27 d
      · have := zld_lt hV hd2 c3
        rw [if_pos c3, if_pos c3, zup_n (by omega)]
      · rw [if_neg c3, if_neg c3]
  · rw [zxd_1414] at hd
    rw [zu_j, if_neg (by omega)]
    exact hD.2 d (by omega)
  · rw [zxd_14 (by omega) (by omega), zxd_22, zxd_23, zxd_24, zxd_25]
    by_cases c : p = 2 * (I 14 14).toNat
    · rw [if_pos c, if_pos c, if_pos c, if_pos c, zup_y c]
      refine Or.inr ⟨by omega, hs, dyn.length, rfl, ?_⟩
      rw [zset_ne (zne_SP (lss hsc) lp), lp, show ((p / 2 : Nat) : Int) = I 14 14 by omega, Int.toNat_natCast]
    · rw [if_neg c, if_neg c, if_neg c, if_neg c, zup_n c]
      rcases hP p hp with g | ⟨g1, g2, r1, g3, g4⟩
      · exact Or.inl g
      · exact Or.inr ⟨g1, g2, r1, g3, by rw [zset_ne (zne_SP hsc g4)]; exact lss g4⟩
  · exact zRO_cg hO (by rw [zu_c (by omega), hA 3 (by omega) (by omega) (by omega) (by omega)]) (by rw [zu_c (by omega), hA 5 (by omega) (by omega) (by omega) (by omega)]) (by rw [zu_c (by omega), hA 6 (by omega) (by omega) (by omega) (by omega)]) (by rw [zu_c (by omega), hA 7 (by omega) (by omega) (by omega) (by omega)]) rfl (zxd_14 (by omega) (by omega)) rfl (fun c c1 c2 => zxd_c (by omega) (by omega) (by omega))
  · exact hK
  · rw [zu_j, if_neg (by omega), hA 0 (by omega) (by omega) (by omega) (by omega), zxd_14 (by omega) (by omega)]
    exact h8
  · rw [zu_j, if_neg (by omega), hA 0 (by omega) (by omega) (by omega) (by omega), zxd_14 (by omega) (by omega)]
    exact h5
  · rw [zu_eq, zxd_1414]
