-- ===== join: class and reference together =====
theorem zJF_o {I J : zIT} {s o p : Nat} (h : zJF I J s o) (hp : p < 80) (h1 : J 22 p ≠ -1) (h2 : J 22 p ≠ s) : ∀ c, 22 ≤ c → c ≤ 25 → J c p = I c p := by
  obtain ⟨F5, F6, F7⟩ := h
  intro c c1 c2
  by_cases k1 : zpo I (p / 2) o = -1
  · exact F5 _ k1 c p c1 c2 rfl
  · by_cases k2 : zpo I (p / 2) s = -1
    · have F := F7 (p / 2) (by omega) k1 k2
      by_cases y : p = (zpo I (p / 2) o).toNat
      · have := F.1.1
        rw [← y] at this
        exact absurd this h2
      · exact F.2 c p c1 c2 rfl y
    · have F := F6 (p / 2) (by omega) k1 k2
      rcases show p = 2 * (p / 2) ∨ p = 2 * (p / 2) + 1 by omega with y | y
      · have := F.1
        rw [← y] at this
        exact absurd this h2
      · have := F.2.2.2.2.1
        rw [← y] at this
        exact absurd this h1
theorem zJF_s {I J : zIT} {s o p : Nat} (h7 : zV7 I) (h4 : zV4 I) (h : zJF I J s o) (hp : p < 80) (h1 : J 22 p = s) : 10 ≤ J 25 p := by
  obtain ⟨F5, F6, F7⟩ := h
  by_cases k1 : zpo I (p / 2) o = -1
  · have u := F5 _ k1
    rw [u 22 p (by omega) (by omega) rfl] at h1
    rw [u 25 p (by omega) (by omega) rfl]
    exact (zV4_at h4 hp h1).2.2.2.1
  · by_cases k2 : zpo I (p / 2) s = -1
    · have F := F7 (p / 2) (by omega) k1 k2
      by_cases y : p = (zpo I (p / 2) o).toNat
      · have := F.1.2.2.2
        rw [← y] at this
        exact this
      · rw [F.2 22 p (by omega) (by omega) rfl y] at h1
        have := zpo_eq h7 h1
        omega
    · obtain ⟨a1, a2, a3, a4, a5, a6⟩ := F6 (p / 2) (by omega) k1 k2
      obtain ⟨q1, q2, q3⟩ := zpo_at k2
      rcases show p = 2 * (p / 2) ∨ p = 2 * (p / 2) + 1 by omega with y | y
      · rw [y, a4]
        exact (zV4_at h4 (by omega) q2).2.2.2.1
      · rw [y, a5] at h1
        omega
theorem zJF_w {I J : zIT} {s o p : Nat} (h4 : zV4 I) (hw : zVw I) (h : zJF I J s o) (hp : p < 80) : 0 ≤ J 24 p ∧ J 24 p ≤ 65535 := by
  obtain ⟨F5, F6, F7⟩ := h
  by_cases k1 : zpo I (p / 2) o = -1
  · rw [F5 _ k1 24 p (by omega) (by omega) rfl]
    exact hw p hp
  · by_cases k2 : zpo I (p / 2) s = -1
    · have F := F7 (p / 2) (by omega) k1 k2
      by_cases y : p = (zpo I (p / 2) o).toNat
      · have := F.1.2.2.1
        rw [← y] at this
        rw [this]
        exact hw p hp
      · rw [F.2 24 p (by omega) (by omega) rfl y]
        exact hw p hp
    · obtain ⟨a1, a2, a3, a4, a5, a6⟩ := F6 (p / 2) (by omega) k1 k2
      obtain ⟨q1, q2, q3⟩ := zpo_at k2
      rcases show p = 2 * (p / 2) ∨ p = 2 * (p / 2) + 1 by omega with y | y
      · rw [y, a3]
        exact zvsd (zV4_at h4 (by omega) q2).2.2.1
      · rw [y, a6]
        exact hw _ (by omega)
theorem z_jn0 {A0 A I : zIT} {L : zLT} {B B0 : Int} {rk : Nat → Nat} {s o c : Nat} (hV : zVA I L B rk) (hs : zst I s) (ho : zst I o) (hne : s ≠ o) (hlen : I 17 s + I 17 o ≤ 999) (hB : B ≤ B0) (hL : zLgr A0 (zu I 17 s (I 17 s + I 17 o)) s) (hA : ∀ c, 8 ≤ c → c ≤ 11 → A c = A0 c) (hc : A 12 1 = c) (hO : zOS (A 13) c (fun x => ∃ d : Nat, d < 40 ∧ (zpo I d o ≠ -1 ∧ zpo I d s = -1) ∧ x = zjr I o d * 64 + d)) : zJI A I (zJ1 I s (I 17 s + I 17 o)) (zJ1 I s (I 17 s + I 17 o)) s o c 0 B0 := by
  have hb := zVA_B hV
  have hb' := hb
  unfold zB at hb'
  have LVs := zVA_LV hV hs.2.1
  have LVo := zVA_LV hV ho.2.1
  have e22 : zJ1 I s (I 17 s + I 17 o) 22 = I 22 := zJ1_c (by omega) (by omega) (by omega)
  have e23 : zJ1 I s (I 17 s + I 17 o) 23 = I 23 := zJ1_c (by omega) (by omega) (by omega)
  have e24 : zJ1 I s (I 17 s + I 17 o) 24 = I 24 := zJ1_c (by omega) (by omega) (by omega)
  have e25 : zJ1 I s (I 17 s + I 17 o) 25 = I 25 := zJ1_c (by omega) (by omega) (by omega)
  have e21 : zJ1 I s (I 17 s + I 17 o) 21 = I 21 := zJ1_c (by omega) (by omega) (by omega)
  have un : ∀ d, zun I (zJ1 I s (I 17 s + I 17 o)) d := fun d c p c1 c2 _ => by rw [zJ1_c (by omega) (by omega) (by omega)]
  refine ⟨zLgr_cg hL (fun c c1 c2 c3 => ?_) hA, ⟨?_, ?_, ?_, ?_, ?_, fun p hp h => ?_⟩, fun _ _ => rfl, fun t _ => by rw [e21], fun d _ => un d, fun d _ _ => Or.inl (un d), fun d hd h1 h2 => Or.inl ⟨un d, ?_⟩, ?_, hc, hO⟩
  · by_cases y : c = 17
    · rw [y]
      funext t
      rw [zJ1_17, zu_j]
    · rw [zJ1_c (by omega) (by omega) y, zu_c y]
  · unfold zB
    rw [zJ1_14, zJ1_14, zJ1_14, if_neg (by omega), if_neg (by omega), if_neg (by omega)]
    exact hb'
  · rw [zJ1_14, if_neg (by omega), e22]
    exact zVA_5 hV
  · rw [e22]
    exact LVs.2.2.1
  · rw [zJ1_17, if_pos rfl]
    have := LVs.2.2.2.1
    have := LVo.2.2.2.1
    omega
  · rw [e21]
    have := LVs.2.2.2.2.1
    omega
  · rw [e22] at h
    rw [e24, e23, e25, e21, zJ1_17, if_pos rfl]
    have v := LVs.2.2.2.2.2 p hp h
    have := LVo.2.2.2.1
    exact ⟨v.1, by omega, v.2.2⟩
  · obtain ⟨a, a1, a2⟩ := (hO.2 (zjr I o d * 64 + d)).1 ⟨d, hd, ⟨h1, h2⟩, rfl⟩
    exact ⟨a, by omega, a1, a2⟩
  · rw [e22, e25]
    intro p q hp hq hnn h h'
    exact zVA_6 hV p q hp hq hnn (by omega) (by omega)
theorem z_join {A : zIT} {K : zLT} {I : zIT} {L : zLT} {F : zFT} {E : zET} {dyn : zH} {rs rd : Nat → Nat} {fp : Nat → Option Nat} {B B' : Int} {rk : Nat → Nat} {s o : Nat} (hV : zVA I L B rk) (hR : zRL A K I L F dyn rs rd fp) (hst : zst I s ∧ zst I o) (hne : s ≠ o) (hlen : I 17 s + I 17 o ≤ 999) (hBB : B + 80 ≤ B') (hB2 : 280 ≤ B') (hB3 : B' ≤ 80000) :
    (∃ A' I', X7_join (zM A K I L F E dyn) (some 0) (s : Int) (o : Int) = some (.inr 2, zM A' K I L F E dyn) ∧ zAe A A' ∧ (∀ (Ax : zIT) (Kx Lx : zLT) (Fx : zFT) (Ex : zET) (dx : zH), X8_join (zM Ax Kx I Lx Fx Ex dx) (some 14) (s : Int) (o : Int) = some (0, zM Ax Kx I' Lx Fx Ex dx)) ∧ I' 14 29 = 3 ∧ zIe I I' ∧ I' 14 27 = I 14 27) ∨
    (∃ A' K' dyn' fp' J1 q, X7_join (zM A K I L F E dyn) (some 0) (s : Int) (o : Int) = some (.inl (I 17 s + I 17 o), zM A' K' I L F E dyn') ∧ (∀ (Ax : zIT) (Kx Lx : zLT) (Fx : zFT) (Ex : zET) (dx : zH), Lx 15 = L 15 → Lx 16 = L 16 → X8_join (zM Ax Kx I Lx Fx Ex dx) (some 14) (s : Int) (o : Int) = some (I 17 s + I 17 o, zM Ax Kx (zu (zlg q (J1, Lx)).1 20 o 1) (zlg q (J1, Lx)).2 Fx Ex dx)) ∧ (zu (zlg q (J1, L)).1 20 o 1) 14 29 = 0 ∧
      zRL A' K' (zu (zlg q (J1, L)).1 20 o 1) (zlg q (J1, L)).2 F dyn' rs rd fp' ∧ zVA (zu (zlg q (J1, L)).1 20 o 1) (zlg q (J1, L)).2 B' rk ∧ (∀ j, j ≠ 19 → j ≠ 29 → (zu (zlg q (J1, L)).1 20 o 1) 14 j = I 14 j) ∧ (zu (zlg q (J1, L)).1 20 o 1) 26 = I 26) := by
  have hb := zVA_B hV
  have hb' := hb
  unfold zB at hb'
  have hR' := hR
  obtain ⟨hS, hD, hP, hO, hK7, h8, h5, h6⟩ := hR'
  have hs : (s : Int) < I 14 7 := hst.1.2.1
  have ho : (o : Int) < I 14 7 := hst.2.2.1
  have hso : (s : Int) ≠ (o : Int) := fun z => hne (Int.ofNat_inj.1 z)
  have LVs := zVA_LV hV hs
  have LVo := zVA_LV hV ho
  have hls := LVs.2.2.2.1
  have hlo := LVo.2.2.2.1
  have hsc := (hS.1 s hs).2
  have hvs := zVA_1 hV s hs
  have hvo := zVA_1 hV o ho
  have hPo : ∀ p, p < 80 → I 22 p = o → 0 ≤ I 23 p ∧ I 23 p ≤ 999 := fun p hp h => by
    have := (LVo.2.2.2.2.2 p hp h).2.1
    omega
  obtain ⟨A0, e0, L0, f0⟩ := k_openLedger (A := A) (K := K) (E := E) (len := I 17 s + I 17 o) hV hS hD hP hs (by omega)
  obtain ⟨A1, e1, ⟨c, c1, c2, c3⟩, f1⟩ := k_orderForJoining (A := A0) (K := K) (E := E) hV hS hD hP hs ho
  have in0 := z_jn0 (A := A1) (B0 := B' - 80) hV hst.1 hst.2 hne hlen (by omega) L0 (fun j j1 j2 => f1 j (by omega) (by omega)) c2 c3
  have zd := zdo_in (I := zJ1 I s (I 17 s + I 17 o)) (s := (o : Int)) 80
  obtain ⟨can, J', A2, hcan, rref, rcls, rW, rf, rI⟩ := z_jn (K := K) (L := L) (F := F) (E := E) (dyn := dyn) (g0 := I 21 s) (B0 := B' - 80) hV hS hD hP hst.1 hst.2 hne c1 hlen (by omega) (J0 := zJ1 I s (I 17 s + I 17 o)) (fun t => zJ1_17) (by rw [zJ1_14, if_neg (by omega)]) (by unfold zB; rw [zJ1_14, zJ1_14, zJ1_14, if_neg (by omega), if_neg (by omega), if_neg (by omega)]; exact hb') (zJ1_c (by omega) (by omega) (by omega)) (zJ1_c (by omega) (by omega) (by omega)) (fun t _ => by rw [zJ1_c (by omega) (by omega) (by omega)]) (fun c p c1 c2 _ => by rw [zJ1_c (by omega) (by omega) (by omega)])
    80 0 (zJ1 I s (I 17 s + I 17 o)) A1 (by omega) in0 (by omega) zN (by unfold zN; omega)
  have fAll : ∀ j, j ≠ 8 → j ≠ 9 → j ≠ 10 → j ≠ 11 → j ≠ 12 → j ≠ 13 → A2 j = A j := fun j j1 j2 j3 j4 j5 j6 => by
    rw [rf j j1 j2 j3 j4, f1 j j5 j6, f0 j j1 j2 j3 j4]
  have hAe : zAe A A2 := ⟨fAll 0 (by omega) (by omega) (by omega) (by omega) (by omega) (by omega), fAll 3 (by omega) (by omega) (by omega) (by omega) (by omega) (by omega), fAll 5 (by omega) (by omega) (by omega) (by omega) (by omega) (by omega), fAll 6 (by omega) (by omega) (by omega) (by omega) (by omega) (by omega), fAll 7 (by omega) (by omega) (by omega) (by omega) (by omega) (by omega)⟩
  have ent : X7_enterInOrder (zM A1 K I L F E dyn) (some 0) (some (rs o + 39)) (I 17 s) = some (if can = 1 then (1, zM A2 K I L F E dyn) else (0, zM A2 K I L F E dyn)) := by
    unfold X7_enterInOrder
    rw [show ((0 : Int), zM A1 K I L F E dyn) = (((0 : Nat) : Int), zM A1 K I L F E dyn) from rfl, rcls, zb]
    by_cases y : can = 1
    · rw [if_pos y, if_pos y]
    · rw [if_neg y, if_neg y]
  have cstart := k_join_s (A := A) (K := K) (E := E) hb hS hst ⟨hls.1, hls.2, hlo.1, hlo.2⟩
  rw [if_neg hne, if_pos hlen, e0, zb, zo_0b, e1, zb, zgStr_3b hsc, zo_0b, ent, zb] at cstart
  have mr := fun (Ax : zIT) (Kx Lx : zLT) (Fx : zFT) (Ex : zET) (dx : zH) => m_join_j (A := Ax) (K := Kx) (L := Lx) (F := Fx) (E := Ex) (dyn := dx) hb hst ⟨hls.1, hls.2, hlo.1, hlo.2⟩
  have mr2 := fun (Ax : zIT) (Kx Lx : zLT) (Fx : zFT) (Ex : zET) (dx : zH) => m_join_59 (A := Ax) (K := Kx) (L := Lx) (F := Fx) (E := Ex) (dyn := dx) hb hst hne (zVA_w hV) ⟨hls.1, hls.2, hlo.1, hlo.2⟩ hPo
  have w34 : ∀ (J : zIT) (t : Int), (∀ c, c < 21 ∨ 25 < c → J c = zJ1 I s (I 17 s + I 17 o) c) → ∀ p, p < 80 → 0 ≤ zu J 14 29 t 34 p ∧ zu J 14 29 t 34 p ≤ 65535 := fun J t hJ p hp => by
    rw [zu_c (by omega), hJ 34 (by omega), zJ1_k (k := 24) (by omega) hp]
    exact zVA_w hV p hp
  rcases hcan with rfl | rfl
  · left
    rw [if_neg (show ¬ (0 : Int) = 1 by omega)] at cstart
    simp only at cstart
    rw [if_pos trivial] at cstart
    obtain ⟨z1, z2, z3⟩ := zjF_e (I := I) (s := s) (len := I 17 s + I 17 o)
    refine ⟨A2, zjF I s (I 17 s + I 17 o), cstart, hAe, fun Ax Kx Lx Fx Ex dx => ?_, z2, z1, z3⟩
    obtain ⟨p, hp, e⟩ := mr2 Ax Kx Lx Fx Ex dx
    rw [mr, if_pos ⟨hne, hlen⟩, e, rref Ax Kx Lx Fx Ex dx p zN hp (by unfold zN; omega), zb]
    simp only
    rw [zo_14b, m_nob0]
    simp only
    rw [if_neg (by omega), zo_14b, m_givesBack (w34 J' 3 rW.1), zb, zg_14_6b, zs_21b (by omega) (by omega), zg_14_2b, zs_17b (by omega) (by omega), Int.toNat_natCast, zgb_fix2 rW]
    rfl
  · right
    obtain ⟨hJI, hno⟩ := rI rfl
    have hJF := zJI_F hJI hno
    have hJ7 := zJF_7 (zVA_7 hV) (zVA_5 hV) hb hso hJF
    obtain ⟨i1, i2, i3, i4, i5, i6, i7, i8, i9, i10⟩ := hJI
    rw [if_pos rfl] at cstart
    simp only at cstart
    rw [if_neg (by omega), zo_0b] at cstart
    have hg := i2.2.2.2.2.1
    have eg : A2 8 6 = J' 21 s := i1.2.2.2.1
    have ej : ∀ c, 17 < c → c < 21 ∨ 25 < c → c < 32 → J' c = I c := fun c c1 c2 c3 => by rw [i3 c c2, zJ1_c c3 (by omega) (by omega)]
    have ej17 : ∀ t, J' 17 t = if t = s then I 17 s + I 17 o else I 17 t := fun t => by rw [i3 17 (by omega), zJ1_17]
    have ej14 : ∀ j, j ≠ 29 → J' 14 j = I 14 j := fun j hj => by rw [i3 14 (by omega), zJ1_14, if_neg hj]
    have ej21 : ∀ t, J' 21 t = if t = s then J' 21 s else I 21 t := fun t => by
      by_cases y : t = s
      · rw [if_pos y, y]
      · rw [if_neg y, i4 t y]
    have x19 : zu J' 14 29 0 14 19 = I 14 19 := by
      rw [zu_j, if_neg (by omega), ej14 19 (by omega)]
    have R2 : zRO2 A2 K (zu J' 14 29 0, L) := by
      refine ⟨zRO_cg hO hAe.2.1 hAe.2.2.1 hAe.2.2.2.1 hAe.2.2.2.2 rfl x19 rfl (fun c c1 c2 => by simp only; rw [zu_c (by omega)]; exact ej c (by omega) (by omega) (by omega)), ?_⟩
      simp only
      rw [x19]
      exact hb'.2.2
    obtain ⟨A3, K3, t1, t2, t3, t4⟩ := k_rememberAll2 (A := A2) (K := K) (E := E) (s := o) (x := (zu J' 14 29 0, L)) hb hS hD hP (zVA_5 hV) ho R2 ⟨hvo.1, hvo.2.1⟩ (by
      simp only
      rw [zu_j, if_neg (by omega), ej14 28 (by omega), hAe.1]
      exact h8)
    obtain ⟨dy, m1, m2, m3, m4⟩ := k_moveDoors (A := A3) (K := K3) (E := E) (J := J') (L := L) hb hS hD hP (zVA_5 hV) (zVA_7 hV) hs ho hso hJF hls hPo (fun d hd h1 h2 => by
      obtain ⟨a1, a2, a3, a4⟩ := (hJF.2.2 d hd h1 h2).1
      obtain ⟨q1, q2, q3⟩ := zpo_at h1
      have := (zLgr_at i1 i2 (p := (zpo I d o).toNat) (by omega) a1 (by omega)).2.1
      rw [t3 11 (by omega) (by omega) (by omega) (by omega), ← this, q1])
    have sc := (m2.1 s hs).2
    have oc := (m2.1 o ho).2
    have rne : rs s ≠ rs o := fun z => hne (zRS_inj m2 hs ho z)
    have e86 : A3 8 6 = J' 21 s := by rw [t3 8 (by omega) (by omega) (by omega) (by omega), eg]
    rw [t1, zb, zo_0b, m1, zb, zg_0_3b, zg_8_6b, e86, zpStr_7b sc, zpStr_3b (zset_eq sc), zset22, zpStr_6b ((zset_ne rne).trans oc) (Or.inr rfl)] at cstart
    have fc : ∀ c, c < 29 → c ≠ 14 → c ≠ 20 → (zu (zlg (zngb I L o (I 14 14).toNat) (zu J' 14 29 0, L)).1 20 o 1) c = J' c := fun c c1 c2 c3 => by
      rw [zu_c c3, zlg_c (by omega) c2]
      simp only
      rw [zu_c c2]
    have f20 : ∀ t, (zu (zlg (zngb I L o (I 14 14).toNat) (zu J' 14 29 0, L)).1 20 o 1) 20 t = if t = o then 1 else I 20 t := fun t => by
      rw [zu_j, zlg_c (by omega) (by omega)]
      simp only
      rw [zu_c (by omega), ej 20 (by omega) (by omega) (by omega)]
    have f14 : ∀ j, j ≠ 19 → j ≠ 29 → (zu (zlg (zngb I L o (I 14 14).toNat) (zu J' 14 29 0, L)).1 20 o 1) 14 j = I 14 j := fun j j1 j2 => by
      rw [zu_c (by omega), zlg_14 j1]
      simp only
      rw [zu_j, if_neg j2, ej14 j j2]
    have fL : ∀ c, c ≠ 28 → (zlg (zngb I L o (I 14 14).toNat) (zu J' 14 29 0, L)).2 c = L c := fun c c1 => zlg_L c1 _ _
    have F18 := (fc 18 (by omega) (by omega) (by omega)).trans (ej 18 (by omega) (by omega) (by omega))
    have F19 := (fc 19 (by omega) (by omega) (by omega)).trans (ej 19 (by omega) (by omega) (by omega))
    have F17 : ∀ t, (zu (zlg (zngb I L o (I 14 14).toNat) (zu J' 14 29 0, L)).1 20 o 1) 17 t = if t = s then I 17 s + I 17 o else I 17 t := fun t => by
      rw [fc 17 (by omega) (by omega) (by omega), ej17]
    have F21 : ∀ t, (zu (zlg (zngb I L o (I 14 14).toNat) (zu J' 14 29 0, L)).1 20 o 1) 21 t = if t = s then J' 21 s else I 21 t := fun t => by
      rw [fc 21 (by omega) (by omega) (by omega), ej21]
    have F22 := fc 22 (by omega) (by omega) (by omega)
    have F23 := fc 23 (by omega) (by omega) (by omega)
    have F24 := fc 24 (by omega) (by omega) (by omega)
    have F25 := fc 25 (by omega) (by omega) (by omega)
    have F26 := (fc 26 (by omega) (by omega) (by omega)).trans (ej 26 (by omega) (by omega) (by omega))
    have F27 := (fc 27 (by omega) (by omega) (by omega)).trans (ej 27 (by omega) (by omega) (by omega))
    have S1 := zRS_set (I' := zu (zu I 21 s (J' 21 s)) 17 s (I 17 s + I 17 o)) (L' := L) (F' := F) m2 hs rfl rfl (fun c t c1 c2 c3 => by
      by_cases c4 : c = 17
      · subst c4
        rw [zu_j, if_neg c3, zu_c (by omega)]
      · by_cases c5 : c = 21
        · subst c5
          rw [zu_c (by omega), zu_j, if_neg c3]
        · rw [zu_c c4, zu_c c5]) (fun t _ => ⟨rfl, rfl⟩)
    have k17 : zu (zu I 21 s (J' 21 s)) 17 s (I 17 s + I 17 o) 17 s = I 17 s + I 17 o := zu_eq
    have k21 : zu (zu I 21 s (J' 21 s)) 17 s (I 17 s + I 17 o) 21 s = J' 21 s := by rw [zu_c (by omega), zu_eq]
    have ko : ∀ c, c ≠ 17 → c ≠ 21 → zu (zu I 21 s (J' 21 s)) 17 s (I 17 s + I 17 o) c = I c := fun c c1 c2 => by rw [zu_c c1, zu_c c2]
    rw [k17, k21, ko 18 (by omega) (by omega), ko 19 (by omega) (by omega), ko 20 (by omega) (by omega)] at S1
    have S2 := zRS_set (s := o) (I' := zu (zlg (zngb I L o (I 14 14).toNat) (zu J' 14 29 0, L)).1 20 o 1) (L' := (zlg (zngb I L o (I 14 14).toNat) (zu J' 14 29 0, L)).2) (F' := F) S1 ho (f14 7 (by omega) (by omega)) rfl (fun c t c1 c2 c3 => by
      rcases show c = 17 ∨ c = 18 ∨ c = 19 ∨ c = 20 ∨ c = 21 by omega with rfl | rfl | rfl | rfl | rfl
      · rw [F17, zu_j, zu_c (by omega)]
      · rw [F18, ko 18 (by omega) (by omega)]
      · rw [F19, ko 19 (by omega) (by omega)]
      · rw [f20, if_neg c3, ko 20 (by omega) (by omega)]
      · rw [F21, zu_c (by omega), zu_j]) (fun t _ => by
      rw [fL 15 (by omega), fL 16 (by omega)]
      exact ⟨rfl, rfl⟩)
    rw [F17, F18, F19, f20, F21, fL 15 (by omega), fL 16 (by omega), if_neg (fun z => hne z.symm), if_pos rfl, if_neg (fun z => hne z.symm)] at S2
    have oc2 := (zset_ne (x := zStr s (c5 (L 15 s)) (c5 (L 16 s)) (I 17 s + I 17 o) (I 18 s) (I 19 s) (I 20 s) (J' 21 s)) rne).trans oc
    refine ⟨A3, K3, _, zfi I fp s o 40, zu J' 14 29 0, zngb I L o (I 14 14).toNat, cstart, fun Ax Kx Lx Fx Ex dx l15 l16 => ?_, ?_, ⟨S2, ?_, ?_, ?_, ?_, ?_, ?_, ?_⟩, ?_, f14, F26⟩
    · obtain ⟨p, hp, e⟩ := mr2 Ax Kx Lx Fx Ex dx
      have bJ : zB (zu J' 14 29 0) := by
        have : zB J' := i2.1
        exact this
      have h178 := m_jn178 (A := Ax) (K := Kx) (I := zu J' 14 29 0) (L := Lx) (F := Fx) (E := Ex) (dyn := dx) (I0 := I) (s := s) (o := o) bJ (by omega) (fun p hp => by
        rw [zu_c (by omega), i3 32 (by omega), zJ1_k (k := 22) (by omega) hp]) (fun p hp => by
        rw [zu_c (by omega), i3 35 (by omega), zJ1_k (k := 25) (by omega) hp])
      have x14 : zu J' 14 29 0 14 14 = I 14 14 := by
        rw [zu_j, if_neg (by omega), ej14 14 (by omega)]
      rw [x14, show (2 * I 14 14).toNat = 2 * (I 14 14).toNat by omega, zjw_two (zVA_7 hV), zngb_L l15 l16] at h178
      have g17 : (zlg (zngb I L o (I 14 14).toNat) (zu J' 14 29 0, Lx)).1 17 s = I 17 s + I 17 o := by
        rw [zlg_c (by omega) (by omega)]
        simp only
        rw [zu_c (by omega), ej17, if_pos rfl]
      rw [mr, if_pos ⟨hne, hlen⟩, e, rref Ax Kx Lx Fx Ex dx p zN hp (by unfold zN; omega), zb]
      simp only
      rw [zo_14b, m_nob1]
      simp only
      rw [if_pos trivial, h178, zb, zg_14_5b, zs_20b (by omega) (by omega) (Or.inr rfl), zg_14_2b, za_17b (by omega) (by omega), Int.toNat_natCast, Int.toNat_natCast, zu_c (by omega), g17]
    · rw [zu_c (by omega), zlg_14 (by omega)]
      simp only
      exact zu_eq
    · exact zRD_cg (zRD_setS (zRD_setS m3 sc) oc2) (f14 14 (by omega) (by omega)) F26 F27 rfl
    · refine zRP_cg8 (zRP_setS (zRP_setS m4 sc) oc2) (by rw [zhj_c (by omega)]; exact f14 7 (by omega) (by omega)) (fun c p c1 c2 hp => ?_)
      rw [fc c (by omega) (by omega) (by omega), zhj_i ⟨c1, c2⟩ (by omega)]
    · exact zRO_cg t2.1 rfl rfl rfl rfl rfl (by rw [zu_c (by omega)]) rfl (fun c c1 c2 => zu_c (by omega))
    · rw [t4 0 (by omega), fL 14 (by omega)]
      exact hK7
    · rw [t3 0 (by omega) (by omega) (by omega) (by omega), hAe.1, f14 28 (by omega) (by omega)]
      exact h8
    · rw [t3 0 (by omega) (by omega) (by omega) (by omega), hAe.1, f14 7 (by omega) (by omega)]
      exact h5
    · rw [t3 0 (by omega) (by omega) (by omega) (by omega), hAe.1, f14 14 (by omega) (by omega)]
      exact h6
    · have b19 := zlg_19 (zngb I L o (I 14 14).toNat) (zu J' 14 29 0, L) R2.2
      have g9 : zgd (zlg (zngb I L o (I 14 14).toNat) (zu J' 14 29 0, L)) (I 14 14) := by
        refine zgd_lg _ _ (fun k hk => ?_) R2.2 (fun r hr => ?_)
        · simp only at hk ⊢
          rw [x19] at hk
          rw [zu_c (by omega), ej 30 (by omega) (by omega) (by omega)]
          exact zVA_9 hV k hk
        · obtain ⟨r1, r2, r3⟩ := zngb_in _ r hr
          refine ⟨?_, r2, by omega⟩
          rcases r1 with y | y
          · rw [y]
            exact hvo.1
          · rw [y]
            exact hvo.2.1
      obtain ⟨v0, v1, v2, v3, v4, v5, v6, v7, v8, va, v9, vt, vw⟩ := hV
      refine ⟨?_, fun t ht => ?_, fun t ht => ?_, fun t u ht hu hnn h20 h20u => ?_, fun p hp hn => ?_, fun p hp => ?_, fun p q hp hq hnn hn heq => ?_, ?_, fun d hd => ?_, ?_, fun k hk => ?_, zVt_cg vt (f14 27 (by omega) (by omega)) (by rw [fL 14 (by omega)]), fun p hp => ?_⟩
      · unfold zB
        rw [f14 7 (by omega) (by omega), f14 14 (by omega) (by omega), zu_c (by omega)]
        exact ⟨hb'.1, hb'.2.1, b19⟩
      · rw [f14 7 (by omega) (by omega)] at ht
        obtain ⟨a1, a2, a3, a4, a5, a6, a7, a8, a9⟩ := v1 t ht
        unfold zvStr
        rw [F17, F18, F19, f20, F21, fL 15 (by omega), fL 16 (by omega)]
        refine ⟨a1, a2, a3, a4, ?_, a6, a7, ?_, ?_⟩
        · by_cases y : t = s
          · rw [if_pos y]
            have := hvs.2.2.2.2.1
            omega
          · rw [if_neg y]
            exact a5
        · by_cases y : t = o
          · rw [if_pos y]
            exact Or.inr rfl
          · rw [if_neg y]
            exact a8
        · by_cases y : t = s
          · rw [if_pos y]
            omega
          · rw [if_neg y]
            omega
      · rw [f14 7 (by omega) (by omega)] at ht
        rw [f20, F21, fL 16 (by omega), if_neg (by omega), if_neg (by omega)]
        exact v2 t ht
      · rw [f14 7 (by omega) (by omega)] at ht hu
        rw [f20] at h20 h20u
        rw [fL 15 (by omega), fL 16 (by omega)]
        have y : t ≠ o := fun z => by
          rw [if_pos z] at h20
          omega
        have y' : u ≠ o := fun z => by
          rw [if_pos z] at h20u
          omega
        rw [if_neg y] at h20
        rw [if_neg y'] at h20u
        exact v3 t u ht hu hnn h20 h20u
      · rw [F22] at hn
        unfold zvPl
        rw [f14 7 (by omega) (by omega), F22, F23, F24, F25, f20, F17, F21]
        by_cases y : J' 22 p = s
        · have z := i2.2.2.2.2.2 p hp y
          have z10 := zJF_s v7 v4 hJF hp y
          rw [y, Int.toNat_natCast, if_neg hne, if_pos rfl, if_pos rfl]
          have e17 := ej17 s
          rw [if_pos rfl] at e17
          rw [e17] at z
          exact ⟨⟨by omega, hs, hst.1.2.2⟩, z.2.1, z.1, z10, by omega⟩
        · have un := zJF_o hJF hp hn y
          rw [un 22 (by omega) (by omega)] at hn y
          have hno' := hno p hp
          rw [un 22 (by omega) (by omega)] at hno'
          obtain ⟨⟨w1, w2, w3⟩, w4⟩ := v4 p hp hn
          rw [un 22 (by omega) (by omega), un 23 (by omega) (by omega), un 24 (by omega) (by omega), un 25 (by omega) (by omega), if_neg (by omega), if_neg (by omega), if_neg (by omega)]
          exact ⟨⟨w1, w2, w3⟩, w4⟩
      · rw [f14 14 (by omega) (by omega)] at hp
        have z : zpo I (p / 2) o = -1 := by
          unfold zpo
          rw [v5 (2 * (p / 2)) (by omega), v5 (2 * (p / 2) + 1) (by omega), if_neg (by omega), if_neg (by omega)]
        rw [F22, hJF.1 _ z 22 p (by omega) (by omega) rfl]
        exact v5 p hp
      · rw [F22] at hn heq
        rw [F25]
        by_cases y : J' 22 p = s
        · exact i8 p q hp hq hnn y (by rw [← heq]; exact y)
        · have un := zJF_o hJF hp hn y
          have un' := zJF_o hJF hq (by rw [← heq]; exact hn) (by rw [← heq]; exact y)
          rw [un 22 (by omega) (by omega)] at hn heq
          rw [un' 22 (by omega) (by omega)] at heq
          rw [un 25 (by omega) (by omega), un' 25 (by omega) (by omega)]
          exact v6 p q hp hq hnn hn heq
      · unfold zV7 at hJ7 ⊢
        rw [F22]
        exact hJ7
      · obtain ⟨g1, g2, g3, g4⟩ := v8 d hd
        unfold zvDr
        rw [f14 14 (by omega) (by omega), F22, F26, F27]
        refine ⟨g1, g2, fun h1 h2 => ⟨?_, (g3 h1 h2).2⟩, fun h1 => ?_⟩
        · have hx := (g3 h1 h2).1
          by_cases k1 : zpo I d o = -1
          · rw [hJF.1 _ k1 22 _ (by omega) (by omega) (by omega)]
            exact hx
          · by_cases k2 : zpo I d s = -1
            · have Fm := hJF.2.2 d hd k1 k2
              by_cases y : 2 * d = (zpo I d o).toNat
              · have := Fm.1.1
                rw [← y] at this
                omega
              · rw [Fm.2 22 (2 * d) (by omega) (by omega) (by omega) y]
                exact hx
            · have := (hJF.2.1 d hd k1 k2).1
              omega
        · have hx := g4 h1
          have k1 : zpo I d o = -1 := by
            unfold zpo
            rw [hx.1, hx.2, if_neg (by omega), if_neg (by omega)]
          rw [hJF.1 _ k1 22 _ (by omega) (by omega) (by omega), hJF.1 _ k1 22 _ (by omega) (by omega) (by omega)]
          exact hx
      · unfold zacy at va ⊢
        rw [f14 14 (by omega) (by omega), F26, F27]
        exact va
      · rw [zu_c (by omega)] at hk
        rw [f14 14 (by omega) (by omega), zu_c (by omega)]
        exact g9 k hk
      · rw [F24]
        exact zJF_w v4 vw hJF hp
