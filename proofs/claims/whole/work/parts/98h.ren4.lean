-- ===== renumber: class and reference together =====
theorem z_ren0 {A I : zIT} {L : zLT} {B : Int} {rk : Nat → Nat} {s c : Nat} (hV : zVA I L B rk) (hs : zst I s) (h3 : A 8 3 = I 18 s) (h4 : A 8 4 = I 19 s) (h5 : A 8 5 = I 17 s) (h6 : A 8 6 = 0) (h11 : ∀ d, d < 40 → A 11 d = 0) (hc : A 12 1 = c) (hO : zOS (A 13) c (fun x => ∃ d : Nat, d < 40 ∧ zpo I d s ≠ -1 ∧ x = zrn I s d * 64 + d)) : zRI A I (zJ0 I s) (zJ0 I s) s c 0 := by
  have hb := zVA_B hV
  have hb' := hb
  unfold zB at hb'
  have hLV := zVA_LV hV hs.2.1
  have e22 : zJ0 I s 22 = I 22 := zJ0_c (by omega) (by omega) (by omega) (by omega)
  have e23 : zJ0 I s 23 = I 23 := zJ0_c (by omega) (by omega) (by omega) (by omega)
  have e24 : zJ0 I s 24 = I 24 := zJ0_c (by omega) (by omega) (by omega) (by omega)
  have e17 : zJ0 I s 17 = I 17 := zJ0_c (by omega) (by omega) (by omega) (by omega)
  have e18 : zJ0 I s 18 = I 18 := zJ0_c (by omega) (by omega) (by omega) (by omega)
  have e19 : zJ0 I s 19 = I 19 := zJ0_c (by omega) (by omega) (by omega) (by omega)
  have n1 : ∀ p, p < 80 → I 22 p = s → zJ0 I s 25 p = -1 := fun p hp h => by rw [zJ0_25, if_pos ⟨hp, h⟩]
  refine ⟨⟨by rw [e18, h3], by rw [e19, h4], by rw [e17, h5], by rw [zJ0_21, if_pos rfl, h6], fun d hd => Or.inl ⟨h11 d hd, fun p hp h => by rw [e22] at h; rw [n1 p (by omega) h]; omega⟩⟩, ⟨?_, ?_, ?_, ?_, ?_, fun p hp h => ?_⟩, ⟨fun _ _ _ => rfl, fun _ _ => rfl, fun _ _ => rfl⟩, fun p hp h => ?_, fun p q hp hq hne h h' h0 => ?_, hc, hO⟩
  · unfold zB
    rw [zJ0_14, zJ0_14, zJ0_14, if_neg (by omega), if_neg (by omega), if_neg (by omega)]
    exact hb'
  · rw [zJ0_14, if_neg (by omega), e22]
    exact zVA_5 hV
  · rw [e22]
    exact hLV.2.2.1
  · rw [e17]
    exact hLV.2.2.2.1
  · rw [zJ0_21, if_pos rfl]
    omega
  · rw [e22] at h
    rw [e24, e23, e17, n1 p hp h]
    have := hLV.2.2.2.2.2 p hp h
    exact ⟨this.1, this.2.1, Or.inl rfl⟩
  · rw [n1 p hp h]
    refine ⟨fun _ => ?_, fun _ => by omega⟩
    have ez := zpo_eq (zVA_7 hV) h
    obtain ⟨a, a1, a2⟩ := (hO.2 (zrn I s (p / 2) * 64 + ((p / 2 : Nat) : Int))).1 ⟨p / 2, by omega, by rw [ez]; omega, rfl⟩
    exact ⟨a, by omega, a1, a2⟩
  · rw [n1 p hp h] at h0
    omega
theorem z_renumber {A : zIT} {K : zLT} {I : zIT} {L : zLT} {F : zFT} {E : zET} {dyn : zH} {rs rd : Nat → Nat} {fp : Nat → Option Nat} {B B' : Int} {rk : Nat → Nat} {s : Nat} (hV : zVA I L B rk) (hR : zRL A K I L F dyn rs rd fp) (hst : zst I s) (hBB : B ≤ B') (hB2 : 282 ≤ B') :
    (∃ A' I', X7_renumber (zM A K I L F E dyn) (some 0) (s : Int) = some (.inr 2, zM A' K I L F E dyn) ∧ zAe A A' ∧ (∀ (Ax : zIT) (Kx Lx : zLT) (Fx : zFT) (Ex : zET) (dx : zH), X8_renumber (zM Ax Kx I Lx Fx Ex dx) (some 14) (s : Int) = some (0, zM Ax Kx I' Lx Fx Ex dx)) ∧ I' 14 29 = 2 ∧ zIe I I' ∧ I' 14 27 = I 14 27) ∨
    (∃ v A' K' dyn' J1 q, X7_renumber (zM A K I L F E dyn) (some 0) (s : Int) = some (.inl v, zM A' K' I L F E dyn') ∧ (∀ (Ax : zIT) (Kx Lx : zLT) (Fx : zFT) (Ex : zET) (dx : zH), Lx 15 = L 15 → Lx 16 = L 16 → X8_renumber (zM Ax Kx I Lx Fx Ex dx) (some 14) (s : Int) = some (v, zM Ax Kx (zlg q (J1, Lx)).1 (zlg q (J1, Lx)).2 Fx Ex dx)) ∧ (zlg q (J1, L)).1 14 29 = 0 ∧
      zRL A' K' (zlg q (J1, L)).1 (zlg q (J1, L)).2 F dyn' rs rd fp ∧ zVA (zlg q (J1, L)).1 (zlg q (J1, L)).2 B' rk ∧ (∀ j, j ≠ 19 → j ≠ 29 → (zlg q (J1, L)).1 14 j = I 14 j) ∧ (zlg q (J1, L)).1 26 = I 26) := by
  have hb := zVA_B hV
  have hb' := hb
  unfold zB at hb'
  have hR' := hR
  obtain ⟨hS, hD, hP, hO, hK7, h8, h5, h6⟩ := hR'
  have hs : (s : Int) < I 14 7 := hst.2.1
  have hLV := zVA_LV hV hs
  have hl := hLV.2.2.2.1
  have hsc := (hS.1 s hs).2
  have hv := zVA_1 hV s hs
  have hPm : ∀ p, p < 80 → I 22 p = s → 0 ≤ I 23 p ∧ I 23 p ≤ 999 := fun p hp h => by
    have := (hLV.2.2.2.2.2 p hp h).2.1
    omega
  -- the class up to its loop
  obtain ⟨A0, e0, a3, a4, a5, a6, a11, af⟩ := k_open (A := A) (K := K) (I := I) (L := L) (F := F) (E := E) (len := I 17 s) (gre := 0) hsc (zvwy hv.2.2.2.2.2.1) hv.2.2.2.2.2.2.1
  obtain ⟨A1, e1, ⟨c, c1, c2, c3⟩, f1⟩ := k_orderForRenumbering (A := A0) (K := K) (E := E) hV hS hD hP hs
  have in0 := z_ren0 (A := A1) hV hst (by rw [f1 8 (by omega) (by omega)]; exact a3) (by rw [f1 8 (by omega) (by omega)]; exact a4) (by rw [f1 8 (by omega) (by omega)]; exact a5) (by rw [f1 8 (by omega) (by omega)]; exact a6) (fun d hd => by rw [f1 11 (by omega) (by omega)]; exact a11 d hd) c2 c3
  obtain ⟨can, J', A2, hcan, rref, rcls, rJ, rf, rI⟩ := z_ren (K := K) (L := L) (F := F) (E := E) (dyn := dyn) (g0 := I 21 s) hV hS hD hP hs c1 (J0 := zJ0 I s) (fun c c1 c2 c3 => zJ0_c (by omega) (by omega) c3 (by omega)) (by rw [zJ0_14, if_neg (by omega)]) (c - 0) 0 (zJ0 I s) A1 rfl (by omega) in0 zN (by unfold zN; omega)
  have fAll : ∀ j, j ≠ 8 → j ≠ 9 → j ≠ 10 → j ≠ 11 → j ≠ 12 → j ≠ 13 → A2 j = A j := fun j j1 j2 j3 j4 j5 j6 => by
    rw [rf j j1 j2 j3 j4, f1 j j5 j6, af j j1 j2 j3 j4]
  have hAe : zAe A A2 := ⟨fAll 0 (by omega) (by omega) (by omega) (by omega) (by omega) (by omega), fAll 3 (by omega) (by omega) (by omega) (by omega) (by omega) (by omega), fAll 5 (by omega) (by omega) (by omega) (by omega) (by omega) (by omega), fAll 6 (by omega) (by omega) (by omega) (by omega) (by omega) (by omega), fAll 7 (by omega) (by omega) (by omega) (by omega) (by omega) (by omega)⟩
  have cstart : X7_renumber (zM A K I L F E dyn) (some 0) (s : Int) = (zloop (X7_enterInOrder_b2 (some 0) (some (rs s + 39)) 0) zN (((0 : Nat) : Int), zM A1 K I L F E dyn)).bind fun e5 => (match e5 with
      | Sum.inl e5 => some ((1 : Int), e5)
      | Sum.inr e5 => some (0, e5)).bind fun x8 =>
      if x8.1 = 0 then some (Sum.inr 2, x8.2) else
      (zgR x8.2 (some 0) 8 3).bind fun v9 => (zgI x8.2 v9 3 6).bind fun v10 => (zpI x8.2 (some (rs s + 39)) 7 7 v10).bind fun h11 =>
      ((zobj h11 (some 0) 8).bind fun _ => X7_takeNewCodes h11 (some 0) (some (rs s + 39))).bind fun x12 => some (Sum.inl x12.1, x12.2) := by
    unfold X7_renumber
    rw [zo_0b]
    rcases k_standing (A := A) (K := K) (E := E) hb hS s with ⟨e, _⟩ | ⟨_, hx⟩
    · rw [e, zb]
      simp only
      rw [Int.toNat_natCast, zg_0_3b, zgStr_3b hsc, zo_8b, e0, zb, zo_0b, e1, zb, zo_0b]
      unfold X7_enterInOrder
      rw [show ((0 : Int), zM A1 K I L F E dyn) = (((0 : Nat) : Int), zM A1 K I L F E dyn) from rfl, rcls, zb, zb]
      rfl
    · exact absurd hst hx
  rw [rcls, zb] at cstart
  have mr := fun (Ax : zIT) (Kx Lx : zLT) (Fx : zFT) (Ex : zET) (dx : zH) => m_renumber_s (A := Ax) (K := Kx) (L := Lx) (F := Fx) (E := Ex) (dyn := dx) hb hst (zVA_w hV) hl hPm
  have w34 : ∀ (J : zIT) (t : Int), (∀ c, c ≠ 21 → c ≠ 25 → J c = zJ0 I s c) → ∀ p, p < 80 → 0 ≤ zu J 14 29 t 34 p ∧ zu J 14 29 t 34 p ≤ 65535 := fun J t hJ p hp => by
    rw [zu_c (by omega), hJ 34 (by omega) (by omega), zJ0_k (k := 24) (by omega) hp]
    exact zVA_w hV p hp
  have h80 : ∀ p, ¬ p < 80 → zJ0 I s 22 p ≠ s := fun p hp => by
    rw [zJ0_c (by omega) (by omega) (by omega) (by omega), zVA_5 hV p (by omega)]
    omega
  rcases hcan with rfl | rfl
  · left
    rw [if_neg (by omega)] at cstart
    simp only at cstart
    rw [zb] at cstart
    simp only at cstart
    rw [if_pos trivial] at cstart
    obtain ⟨z1, z2, z3⟩ := zrF_e (s := s) (zVA_5 hV) hb
    refine ⟨A2, zrF I s, cstart, hAe, fun Ax Kx Lx Fx Ex dx => ?_, z2, z1, z3⟩
    obtain ⟨p, hp, e⟩ := mr Ax Kx Lx Fx Ex dx
    rw [e, rref Ax Kx Lx Fx Ex dx p zN hp (by unfold zN; omega), zb]
    simp only
    rw [zo_14b, m_nob0]
    simp only
    rw [if_neg (by omega), zo_14b, m_givesBack (w34 J' 2 rJ.1), zb, zg_14_6b, zs_21b (by omega) (by omega), Int.toNat_natCast, zgb_fix rJ h80]
    rfl
  · right
    rw [if_pos rfl] at cstart
    simp only at cstart
    rw [zb] at cstart
    simp only at cstart
    rw [if_neg (by omega), zg_0_3b, zg_8_6b] at cstart
    obtain ⟨iL, iV, iJ, iP, iU, iC, iO⟩ := rI rfl
    have hg := iV.2.2.2.2.1
    have eg : A2 8 6 = J' 21 s := iL.2.2.2.1
    have ej : ∀ c, 17 ≤ c → c < 32 → c ≠ 21 → c ≠ 25 → J' c = I c := fun c c1 c2 c3 c4 => by rw [iJ.1 c c3 c4, zJ0_c c2 (by omega) c3 c4]
    have ej14 : ∀ j, j ≠ 29 → J' 14 j = I 14 j := fun j hj => by rw [iJ.1 14 (by omega) (by omega), zJ0_14, if_neg hj]
    have non : ∀ p, p < 80 → I 22 p = s → 0 ≤ J' 25 p := fun p hp h => by
      rcases Int.lt_or_le (J' 25 p) 0 with y | y
      · obtain ⟨a, a1, a2, _⟩ := (iP p hp h).1 y
        omega
      · exact y
    have off : ∀ p, ¬ (I 22 p = s) → J' 25 p = I 25 p := fun p h => by
      rw [iJ.2.2 p (by rw [zJ0_c (by omega) (by omega) (by omega) (by omega)]; exact h), zJ0_25, if_neg (fun y => h y.2)]
    -- the tables
    have u22 : zu I 21 s (J' 21 s) 22 = I 22 := zu_c (by omega)
    have b1 : zB (zu I 21 s (J' 21 s)) := hb
    have S1 := zRS_set (I' := zu I 21 s (J' 21 s)) (L' := L) (F' := F) hS hs rfl rfl (fun c t c1 c2 c3 => by
      by_cases c4 : c = 21
      · subst c4
        rw [zu_j, if_neg c3]
      · rw [zu_c c4]) (fun t _ => ⟨rfl, rfl⟩)
    rw [zu_c (by omega), zu_c (by omega), zu_c (by omega), zu_c (by omega), zu_eq] at S1
    have D1 : zRD (zu I 21 s (J' 21 s)) F (dyn.set (rs s) (zStr s (c5 (L 15 s)) (c5 (L 16 s)) (I 17 s) (I 18 s) (I 19 s) (I 20 s) (J' 21 s))) rd fp := zRD_cg (zRD_setS hD hsc) rfl (zu_c (by omega)) (zu_c (by omega)) rfl
    have P1 : zRP (zu I 21 s (J' 21 s)) (dyn.set (rs s) (zStr s (c5 (L 15 s)) (c5 (L 16 s)) (I 17 s) (I 18 s) (I 19 s) (I 20 s) (J' 21 s))) rs fp := zRP_cg (zRP_setS hP hsc) rfl (fun c c1 c2 => zu_c (by omega))
    have x19 : zu J' 14 29 0 14 19 = I 14 19 := by
      rw [zu_j, if_neg (by omega), ej14 19 (by omega)]
    have R2 : zRO2 A2 K (zu J' 14 29 0, L) := by
      refine ⟨zRO_cg hO hAe.2.1 hAe.2.2.1 hAe.2.2.2.1 hAe.2.2.2.2 rfl x19 rfl (fun c c1 c2 => by simp only; rw [zu_c (by omega)]; exact ej c (by omega) (by omega) (by omega) (by omega)), ?_⟩
      simp only
      rw [x19]
      exact hb'.2.2
    obtain ⟨A3, K3, dy, t1, t2, t3, t4, t5, t6, t7⟩ := k_takeNew (A := A2) (K := K) (I := I) (L := L) (F := F) (E := E) (I1 := zu I 21 s (J' 21 s)) (J := zu J' 14 29 0) (x := (zu J' 14 29 0, L)) b1 S1 D1 P1 (by intro p hp; rw [u22]; exact zVA_5 hV p hp) (by unfold zV7; rw [u22]; exact zVA_7 hV) hs ⟨hv.1, hv.2.1⟩ (fun d hd hz => by
      have ez : zpo (zu I 21 s (J' 21 s)) d s = zpo I d s := zpo_c u22 d s
      rw [ez] at hz ⊢
      obtain ⟨q1, q2, q3⟩ := zpo_at hz
      have := zLgr_at iL iV (p := (zpo I d s).toNat) (by omega) (by rw [ej 22 (by omega) (by omega) (by omega) (by omega)]; exact q2) (non _ (by omega) q2)
      rw [zu_c (by omega), ← this.2.1, q1]) R2 (by
      simp only
      rw [zu_j, if_neg (by omega), ej14 28 (by omega), hAe.1]
      exact h8)
    rw [eg, zpStr_7b hsc, zo_0b, t1, zb] at cstart
    have g14 : (zu I 21 s (J' 21 s)) 14 14 = I 14 14 := rfl
    rw [g14] at cstart t2
    have fc : ∀ c, c < 29 → c ≠ 14 → (zlg (zrr (zu I 21 s (J' 21 s)) (zu J' 14 29 0) L s (I 14 14).toNat) (zu J' 14 29 0, L)).1 c = J' c := fun c c1 c2 => by
      rw [zlg_c (by omega) c2]
      simp only
      rw [zu_c c2]
    have f14 : ∀ j, j ≠ 19 → j ≠ 29 → (zlg (zrr (zu I 21 s (J' 21 s)) (zu J' 14 29 0) L s (I 14 14).toNat) (zu J' 14 29 0, L)).1 14 j = I 14 j := fun j j1 j2 => by
      rw [zlg_14 j1]
      simp only
      rw [zu_j, if_neg j2, ej14 j j2]
    have fL : ∀ c, c ≠ 28 → (zlg (zrr (zu I 21 s (J' 21 s)) (zu J' 14 29 0) L s (I 14 14).toNat) (zu J' 14 29 0, L)).2 c = L c := fun c c1 => zlg_L c1 _ _
    have e21 : J' 21 = zu I 21 s (J' 21 s) 21 := by
      funext t
      rw [zu_j]
      by_cases y : t = s
      · rw [if_pos y, y]
      · rw [if_neg y, iJ.2.1 t y, zJ0_21, if_neg y]
    refine ⟨_, A3, K3, dy, zu J' 14 29 0, zrr (zu I 21 s (J' 21 s)) (zu J' 14 29 0) L s (I 14 14).toNat, cstart, fun Ax Kx Lx Fx Ex dx l15 l16 => ?_, ?_, ⟨?_, ?_, ?_, t2.1, ?_, ?_, ?_, ?_⟩, ?_, f14, ?_⟩
    · obtain ⟨p, hp, e⟩ := mr Ax Kx Lx Fx Ex dx
      have bJ : zB (zu J' 14 29 0) := by
        have : zB J' := iV.1
        exact this
      have h225 := m_ren225 (A := Ax) (K := Kx) (I := zu J' 14 29 0) (L := Lx) (F := Fx) (E := Ex) (dyn := dx) (I0 := zu I 21 s (J' 21 s)) (s := s) bJ (by omega) (by rw [zu_c (by omega), u22, ej 22 (by omega) (by omega) (by omega) (by omega)]) (fun p hp => by
        rw [zu_c (by omega), zu_c (by omega), iJ.1 35 (by omega) (by omega), zJ0_k (k := 25) (by omega) hp])
      have x14 : zu J' 14 29 0 14 14 = I 14 14 := by
        rw [zu_j, if_neg (by omega), ej14 14 (by omega)]
      rw [x14, zrr_L l15 l16] at h225
      rw [e, rref Ax Kx Lx Fx Ex dx p zN hp (by unfold zN; omega), zb]
      simp only
      rw [zo_14b, m_nob1]
      simp only
      rw [if_pos trivial, h225, zb]
    · rw [zlg_14 (by omega)]
      simp only
      exact zu_eq
    · exact zRS_cg t5 (f14 7 (by omega) (by omega)) (fun c c1 c2 => by
        rw [fc c (by omega) (by omega)]
        by_cases y : c = 21
        · rw [y]
          exact e21
        · rw [zu_c y]
          exact ej c c1 (by omega) y (by omega)) (fL 15 (by omega)) (fL 16 (by omega)) rfl
    · exact zRD_cg t6 (f14 14 (by omega) (by omega)) (by rw [fc 26 (by omega) (by omega), zu_c (by omega)]; exact ej 26 (by omega) (by omega) (by omega) (by omega)) (by rw [fc 27 (by omega) (by omega), zu_c (by omega)]; exact ej 27 (by omega) (by omega) (by omega) (by omega)) rfl
    · refine zRP_cg8 t7 (by rw [zhy_c (by omega)]; exact f14 7 (by omega) (by omega)) (fun c p c1 c2 hp => ?_)
      rw [fc c (by omega) (by omega)]
      by_cases y : c = 25
      · subst y
        by_cases z : I 22 p = s
        · have e : zhy (zu I 21 s (J' 21 s)) (zu J' 14 29 0) s 40 25 p = zu J' 14 29 0 25 p := if_pos ⟨rfl, by omega, by rw [u22]; exact z⟩
          rw [e, zu_c (by omega)]
        · have e : zhy (zu I 21 s (J' 21 s)) (zu J' 14 29 0) s 40 25 p = zu I 21 s (J' 21 s) 25 p := if_neg (fun w => z (by rw [← u22]; exact w.2.2))
          rw [e, zu_c (by omega), off p z]
      · rw [zhy_c y, zu_c (by omega), ej c (by omega) (by omega) (by omega) y]
    · rw [t4 0 (by omega), fL 14 (by omega)]
      exact hK7
    · rw [t3 0 (by omega) (by omega) (by omega) (by omega), hAe.1, f14 28 (by omega) (by omega)]
      exact h8
    · rw [t3 0 (by omega) (by omega) (by omega) (by omega), hAe.1, f14 7 (by omega) (by omega)]
      exact h5
    · rw [t3 0 (by omega) (by omega) (by omega) (by omega), hAe.1, f14 14 (by omega) (by omega)]
      exact h6
    · have b19 := zlg_19 (zrr (zu I 21 s (J' 21 s)) (zu J' 14 29 0) L s (I 14 14).toNat) (zu J' 14 29 0, L) R2.2
      have g9 : zgd (zlg (zrr (zu I 21 s (J' 21 s)) (zu J' 14 29 0) L s (I 14 14).toNat) (zu J' 14 29 0, L)) (I 14 14) := by
        refine zgd_lg _ _ (fun k hk => ?_) R2.2 (fun r hr => ?_)
        · simp only at hk ⊢
          rw [x19] at hk
          rw [zu_c (by omega), ej 30 (by omega) (by omega) (by omega) (by omega)]
          exact zVA_9 hV k hk
        · obtain ⟨r1, r2, r3⟩ := zrr_in _ r hr
          refine ⟨?_, r2, by omega⟩
          rcases r1 with y | y
          · rw [y]
            exact hv.1
          · rw [y]
            exact hv.2.1
      obtain ⟨v0, v1, v2, v3, v4, v5, v6, v7, v8, va, v9, vt, vw⟩ := hV
      have F17 := (fc 17 (by omega) (by omega)).trans (ej 17 (by omega) (by omega) (by omega) (by omega))
      have F18 := (fc 18 (by omega) (by omega)).trans (ej 18 (by omega) (by omega) (by omega) (by omega))
      have F19 := (fc 19 (by omega) (by omega)).trans (ej 19 (by omega) (by omega) (by omega) (by omega))
      have F20 := (fc 20 (by omega) (by omega)).trans (ej 20 (by omega) (by omega) (by omega) (by omega))
      have F21 : ∀ t, (zlg (zrr (zu I 21 s (J' 21 s)) (zu J' 14 29 0) L s (I 14 14).toNat) (zu J' 14 29 0, L)).1 21 t = if t = s then J' 21 s else I 21 t := fun t => by
        rw [fc 21 (by omega) (by omega), e21, zu_j, zu_eq]
      have F22 := (fc 22 (by omega) (by omega)).trans (ej 22 (by omega) (by omega) (by omega) (by omega))
      have F23 := (fc 23 (by omega) (by omega)).trans (ej 23 (by omega) (by omega) (by omega) (by omega))
      have F24 := (fc 24 (by omega) (by omega)).trans (ej 24 (by omega) (by omega) (by omega) (by omega))
      have F25 := fc 25 (by omega) (by omega)
      have F26 := (fc 26 (by omega) (by omega)).trans (ej 26 (by omega) (by omega) (by omega) (by omega))
      have F27 := (fc 27 (by omega) (by omega)).trans (ej 27 (by omega) (by omega) (by omega) (by omega))
      refine ⟨?_, fun t ht => ?_, fun t ht => ?_, ?_, fun p hp hn => ?_, ?_, fun p q hp hq hne hn heq => ?_, ?_, ?_, ?_, fun k hk => ?_, zVt_cg vt (f14 27 (by omega) (by omega)) (by rw [fL 14 (by omega)]), ?_⟩
      · unfold zB
        rw [f14 7 (by omega) (by omega), f14 14 (by omega) (by omega)]
        exact ⟨hb'.1, hb'.2.1, b19⟩
      · rw [f14 7 (by omega) (by omega)] at ht
        obtain ⟨a1, a2, a3, a4, a5, a6, a7, a8, a9⟩ := v1 t ht
        unfold zvStr
        rw [F17, F18, F19, F20, F21, fL 15 (by omega), fL 16 (by omega)]
        refine ⟨a1, a2, a3, a4, a5, a6, a7, a8, ?_⟩
        split <;> omega
      · rw [f14 7 (by omega) (by omega)] at ht
        rw [F20, F21, fL 16 (by omega), if_neg (by omega)]
        exact v2 t ht
      · unfold zV3 at v3 ⊢
        rw [f14 7 (by omega) (by omega), F20, fL 15 (by omega), fL 16 (by omega)]
        exact v3
      · rw [F22] at hn
        obtain ⟨w1, w2, w3, w4, w5⟩ := v4 p hp hn
        unfold zvPl
        rw [f14 7 (by omega) (by omega), F17, F20, F21, F22, F23, F24, F25]
        refine ⟨w1, w2, w3, ?_⟩
        by_cases y : I 22 p = s
        · rw [if_pos (by omega)]
          have h0 := non p hp y
          have := (iV.2.2.2.2.2 p hp (by rw [ej 22 (by omega) (by omega) (by omega) (by omega)]; exact y)).2.2
          omega
        · rw [if_neg (by omega), off p y]
          exact ⟨w4, w5⟩
      · unfold zV5 at v5 ⊢
        rw [f14 14 (by omega) (by omega), F22]
        exact v5
      · rw [F22] at hn heq
        rw [F25]
        by_cases y : I 22 p = s
        · exact iU p q hp hq hne y (by rw [← heq]; exact y) (non p hp y)
        · rw [off p y, off q (by rw [← heq]; exact y)]
          exact v6 p q hp hq hne hn heq
      · unfold zV7 at v7 ⊢
        rw [F22]
        exact v7
      · unfold zV8 zvDr at v8 ⊢
        rw [f14 14 (by omega) (by omega), F22, F26, F27]
        exact v8
      · unfold zacy at va ⊢
        rw [f14 14 (by omega) (by omega), F26, F27]
        exact va
      · rw [f14 14 (by omega) (by omega)]
        exact g9 k hk
      · unfold zVw at vw ⊢
        rw [F24]
        exact vw
    · rw [fc 26 (by omega) (by omega)]
      exact ej 26 (by omega) (by omega) (by omega) (by omega)
