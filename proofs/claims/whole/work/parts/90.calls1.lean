-- ===== tables alike; type, wipe, way, street of the class =====
def zIe (I I' : zIT) : Prop := (∀ c, 17 ≤ c → c ≤ 31 → I' c = I c) ∧ I' 14 7 = I 14 7 ∧ I' 14 14 = I 14 14 ∧ I' 14 19 = I 14 19 ∧ I' 14 28 = I 14 28
def zLe (L L' : zLT) : Prop := L' 15 = L 15 ∧ L' 16 = L 16 ∧ L' 28 = L 28
def zAe (A A' : zIT) : Prop := A' 0 = A 0 ∧ A' 3 = A 3 ∧ A' 5 = A 5 ∧ A' 6 = A 6 ∧ A' 7 = A 7
theorem zAe_r {A : zIT} : zAe A A := ⟨rfl, rfl, rfl, rfl, rfl⟩
theorem zLe_r {L : zLT} : zLe L L := ⟨rfl, rfl, rfl⟩
theorem zIe_th {I : zIT} {t : Int} : zIe I (zu I 14 29 t) := ⟨fun c c1 c2 => zu_c (by omega), rfl, rfl, rfl, rfl⟩
theorem zAe_h {A A' : zIT} (hA : ∀ c, c ≠ 8 → c ≠ 9 → c ≠ 10 → c ≠ 11 → A' c = A c) : zAe A A' := ⟨hA 0 (by omega) (by omega) (by omega) (by omega), hA 3 (by omega) (by omega) (by omega) (by omega), hA 5 (by omega) (by omega) (by omega) (by omega), hA 6 (by omega) (by omega) (by omega) (by omega), hA 7 (by omega) (by omega) (by omega) (by omega)⟩
theorem zRL_cg {A A' : zIT} {K K' : zLT} {I I' : zIT} {L L' : zLT} {F : zFT} {dyn : zH} {rs rd : Nat → Nat} {fp : Nat → Option Nat} (hR : zRL A K I L F dyn rs rd fp) (hI : zIe I I') (hL : zLe L L') (hA : zAe A A') (hK4 : K' 4 = K 4) (hK : K' 0 7 = c5 (L' 14 26)) : zRL A' K' I' L' F dyn rs rd fp := by
  obtain ⟨hS, hD, hP, hO, hK7, h8, h5, h6⟩ := hR
  obtain ⟨i0, i1, i2, i3, i4⟩ := hI
  obtain ⟨l1, l2, l3⟩ := hL
  obtain ⟨a0, a3, a5, a6, a7⟩ := hA
  refine ⟨zRS_cg hS i1 (fun c c1 c2 => i0 c c1 (by omega)) l1 l2 rfl, zRD_cg hD i2 (i0 26 (by omega) (by omega)) (i0 27 (by omega) (by omega)) rfl, zRP_cg hP i1 (fun c c1 c2 => i0 c (by omega) (by omega)), zRO_cg hO a3 a5 a6 a7 hK4 i3 l3 (fun c c1 c2 => i0 c (by omega) c2), hK, ?_, ?_, ?_⟩
  · rw [a0, i4]
    exact h8
  · rw [a0, i1]
    exact h5
  · rw [a0, i2]
    exact h6
theorem zVA_cg {I I' : zIT} {L L' : zLT} {B : Int} {rk : Nat → Nat} (hV : zVA I L B rk) (hI : zIe I I') (hL : zLe L L') (ht : zVt I' L') : zVA I' L' B rk := by
  obtain ⟨v0, v1, v2, v3, v4, v5, v6, v7, v8, va, v9, vt, vw⟩ := hV
  obtain ⟨i0, i1, i2, i3, i4⟩ := hI
  obtain ⟨l1, l2, l3⟩ := hL
  have c17 := i0 17 (by omega) (by omega)
  have c18 := i0 18 (by omega) (by omega)
  have c19 := i0 19 (by omega) (by omega)
  have c20 := i0 20 (by omega) (by omega)
  have c21 := i0 21 (by omega) (by omega)
  have c22 := i0 22 (by omega) (by omega)
  have c23 := i0 23 (by omega) (by omega)
  have c24 := i0 24 (by omega) (by omega)
  have c25 := i0 25 (by omega) (by omega)
  have c26 := i0 26 (by omega) (by omega)
  have c27 := i0 27 (by omega) (by omega)
  have c30 := i0 30 (by omega) (by omega)
  refine ⟨?_, ?_, ?_, ?_, ?_, ?_, ?_, ?_, ?_, ?_, ?_, ht, ?_⟩
  · unfold zB at v0 ⊢
    rw [i1, i2, i3]
    exact v0
  · unfold zV1 zvStr at v1 ⊢
    rw [i1, c17, c18, c19, c20, c21, l1, l2]
    exact v1
  · unfold zV2 at v2 ⊢
    rw [i1, c20, c21, l2]
    exact v2
  · unfold zV3 at v3 ⊢
    rw [i1, c20, l1, l2]
    exact v3
  · unfold zV4 zvPl at v4 ⊢
    rw [i1, c17, c20, c21, c22, c23, c24, c25]
    exact v4
  · unfold zV5 at v5 ⊢
    rw [i2, c22]
    exact v5
  · unfold zV6 at v6 ⊢
    rw [c22, c25]
    exact v6
  · unfold zV7 at v7 ⊢
    rw [c22]
    exact v7
  · unfold zV8 zvDr at v8 ⊢
    rw [i2, c22, c26, c27]
    exact v8
  · unfold zacy at va ⊢
    rw [i2, c26, c27]
    exact va
  · unfold zV9 at v9 ⊢
    rw [i2, i3, l3, c30]
    exact v9
  · unfold zVw at vw ⊢
    rw [c24]
    exact vw
theorem zVt_cg {I I' : zIT} {L L' : zLT} (h : zVt I L) (e1 : I' 14 27 = I 14 27) (e2 : L' 14 26 = L 14 26) : zVt I' L' := by
  unfold zVt at h ⊢
  rw [e1, e2]
  exact h
theorem zVA_th {I : zIT} {L : zLT} {B : Int} {rk : Nat → Nat} {t : Int} (hV : zVA I L B rk) : zVA (zu I 14 29 t) L B rk := zVA_cg hV zIe_th zLe_r (zVt_cg (zVA_t hV) rfl rfl)
theorem zRL_th {A A' : zIT} {K : zLT} {I : zIT} {L : zLT} {F : zFT} {dyn : zH} {rs rd : Nat → Nat} {fp : Nat → Option Nat} {t : Int} (hR : zRL A K I L F dyn rs rd fp) (hA : zAe A A') : zRL A' K (zu I 14 29 t) L F dyn rs rd fp := zRL_cg hR zIe_th zLe_r hA rfl hR.2.2.2.2.1
theorem zRL_app {A : zIT} {K : zLT} {I : zIT} {L : zLT} {F : zFT} {dyn : zH} {x : zCell} {rs rd : Nat → Nat} {fp : Nat → Option Nat} (hR : zRL A K I L F dyn rs rd fp) : zRL A K I L F (dyn ++ [x]) rs rd fp := ⟨zRS_app hR.1, zRD_app hR.2.1, zRP_app hR.2.2.1, hR.2.2.2⟩
theorem zVA_B2 {I : zIT} {L : zLT} {B B' : Int} {rk : Nat → Nat} (hV : zVA I L B rk) (h : B ≤ B') : zVA I L B' rk := by
  obtain ⟨v0, v1, v⟩ := hV
  refine ⟨v0, fun s hs => ?_, v⟩
  obtain ⟨a1, a2, a3, a4, a5, a6, a7, a8, a9⟩ := v1 s hs
  exact ⟨a1, a2, a3, a4, a5, a6, a7, a8, by omega⟩
theorem zdgn_0 {n : Nat} : zdgn 7 n = 0 ↔ n = 0 := by
  have e : zdgn 7 n = if n = 0 then 0 else zdgn 6 (n / 27) + 1 := rfl
  rw [e]
  by_cases c : n = 0
  · rw [if_pos c]
    exact ⟨fun _ => c, fun _ => rfl⟩
  · rw [if_neg c]
    exact ⟨fun y => by omega, fun y => absurd y c⟩
theorem zvn_z {x : Int64} (h : zvn x) : x = 0 ↔ x.toNatClampNeg = 0 := by
  have := zi_n h.1
  rw [← Int64.toInt_inj]
  show x.toInt = 0 ↔ _
  omega
theorem zVt_0 {I : zIT} {L : zLT} (h : zVt I L) : 0 < I 14 27 ↔ L 14 26 ≠ 0 := by
  have h1 := zvn_z h.1
  have h2 := zdgn_0 (n := (L 14 26).toNatClampNeg)
  rw [h.2]
  constructor
  · intro y z
    rw [h2.2 (h1.1 z)] at y
    omega
  · intro y
    have : zdgn 7 (L 14 26).toNatClampNeg ≠ 0 := fun z => y (h1.2 (h2.1 z))
    omega
theorem zVt_7 {I : zIT} {L : zLT} (h : zVt I L) : 0 ≤ I 14 27 ∧ I 14 27 ≤ 7 := by
  have := (zdgn_spec 7 _ (zvn_n h.1)).1
  have := h.2
  omega
theorem k_type_1 {A : zIT} {K : zLT} {I : zIT} {L : zLT} {F : zFT} {E : zET} {dyn : zH} {c : Int} (h : ¬ (97 ≤ c ∧ c ≤ 122)) : X7_type (zM A K I L F E dyn) (some 0) c = some (.inr 0, (zM A K I L F E dyn)) := by
  unfold X7_type
  by_cases c1 : c < 97
  · rw [if_pos c1]
  · rw [if_neg c1, if_neg (by omega)]
theorem k_type_2 {A : zIT} {K : zLT} {I : zIT} {L : zLT} {F : zFT} {E : zET} {dyn : zH} {c : Int} (h7 : K 0 7 = c5 (L 14 26)) (ht : zVt I L) (h : 97 ≤ c ∧ c ≤ 122) (h2 : 7 ≤ I 14 27) : X7_type (zM A K I L F E dyn) (some 0) c = some (.inr 1, (zM A K I L F E dyn)) := by
  unfold X7_type
  rw [if_neg (by omega), if_pos h.2, zg_0_7b, h7, k_lengthOf ht.1, zb, ← ht.2, if_neg (by omega)]
theorem k_type_0 {A : zIT} {K : zLT} {I : zIT} {L : zLT} {F : zFT} {E : zET} {dyn : zH} {c : Int} (h7 : K 0 7 = c5 (L 14 26)) (ht : zVt I L) (h : 97 ≤ c ∧ c ≤ 122) (h2 : ¬ 7 ≤ I 14 27) : X7_type (zM A K I L F E dyn) (some 0) c = some (.inl (I 14 27 + 1), zM A (zu K 0 7 (c5 (27 * L 14 26 + Int64.ofInt (c - 97 + 1)))) I L F E dyn) := by
  have := ht.2
  unfold X7_type
  rw [if_neg (by omega), if_pos h.2, zg_0_7b, h7, k_lengthOf ht.1, zb, ← ht.2, if_pos (by omega), zg_0_7b, h7, k_longer ht.1 (by omega) h, zb, zp_0_7b, zckb (by omega) (by omega)]
theorem w_type {I : zIT} {L : zLT} {B c : Int} {rk : Nat → Nat} (hV : zVA I L B rk) (h : 97 ≤ c ∧ c ≤ 122) (h2 : ¬ 7 ≤ I 14 27) : zVA (zu (zu I 14 29 0) 14 27 (I 14 27 + 1)) (zu L 14 26 (27 * L 14 26 + Int64.ofInt (c - 97 + 1))) B rk := by
  have ht := zVA_t hV
  have hd := ht.2
  obtain ⟨l, hl⟩ : ∃ l : Nat, (l : Int) = c - 97 + 1 := ⟨(c - 97 + 1).toNat, by omega⟩
  obtain ⟨e1, e2, e3⟩ := zty (l := l) ht.1 (by omega) (by omega)
  rw [← hl]
  refine zVA_cg hV ⟨fun c c1 c2 => by rw [zu_c (by omega), zu_c (by omega)], rfl, rfl, rfl, rfl⟩ ⟨zu_c (by omega), zu_c (by omega), zu_c (by omega)⟩ ?_
  unfold zVt
  rw [zu_eq, zu_eq]
  refine ⟨e2, ?_⟩
  rw [e1, zdgn_l e3 (by omega), hd]
  omega
theorem k_wipe {A : zIT} {K : zLT} {I : zIT} {L : zLT} {F : zFT} {E : zET} {dyn : zH} (h7 : K 0 7 = c5 (L 14 26)) (ht : zVt I L) : X7_wipe (zM A K I L F E dyn) (some 0) = some (I 14 27, zM A (zu K 0 7 0) I L F E dyn) := by
  unfold X7_wipe
  rw [zg_0_7b, h7, k_lengthOf ht.1, zb, ← ht.2, zp_0_7b]
theorem zVt_w {I : zIT} {L : zLT} (e1 : I 14 27 = 0) (e2 : L 14 26 = 0) : zVt I L := by
  unfold zVt
  rw [e1, e2]
  exact ⟨zvn_0, rfl⟩
theorem w_wipe {I : zIT} {L : zLT} {B : Int} {rk : Nat → Nat} (hV : zVA I L B rk) : zVA (zu I 14 27 0) (zu L 14 26 0) B rk :=
  zVA_cg hV ⟨fun c c1 c2 => zu_c (by omega), rfl, rfl, rfl, rfl⟩ ⟨zu_c (by omega), zu_c (by omega), zu_c (by omega)⟩ (zVt_w zu_eq zu_eq)
theorem k_isWay {hp : zH} (w : Int) : zbl (X7_isWay hp w) (zwy w) := by
  unfold X7_isWay zbl zwy
  repeat' split
  all_goals first | exact Or.inl ⟨rfl, by omega⟩ | exact Or.inr ⟨rfl, by omega⟩
theorem k_way_1 {A : zIT} {K : zLT} {I : zIT} {L : zLT} {F : zFT} {E : zET} {dyn : zH} {rs : Nat → Nat} {s w bk : Int} (hb : zB I) (hS : zRS I L F dyn rs) (h : ¬ zst I s) : X7_way (zM A K I L F E dyn) (some 0) s w bk = some (.inr 3, (zM A K I L F E dyn)) := by
  unfold X7_way
  rw [zo_0b]
  rcases k_standing (A := A) (K := K) (E := E) hb hS s with ⟨_, hx⟩ | ⟨e, _⟩
  · exact absurd hx h
  · rw [e, zb]
theorem k_way_2 {A : zIT} {K : zLT} {I : zIT} {L : zLT} {F : zFT} {E : zET} {dyn : zH} {rs : Nat → Nat} {s w bk : Int} (hb : zB I) (hS : zRS I L F dyn rs) (h : zst I s) (h2 : ¬ zwy w) : X7_way (zM A K I L F E dyn) (some 0) s w bk = some (.inr 0, (zM A K I L F E dyn)) := by
  unfold X7_way
  rw [zo_0b]
  rcases k_standing (A := A) (K := K) (E := E) hb hS s with ⟨e, _⟩ | ⟨_, hx⟩
  · rw [e, zb]
    simp only
    rw [zbl_0 (k_isWay w) h2, zb, if_pos rfl]
  · exact absurd h hx
theorem k_way_0 {A : zIT} {K : zLT} {I : zIT} {L : zLT} {F : zFT} {E : zET} {dyn : zH} {rs : Nat → Nat} {s : Nat} {w bk : Int} (hb : zB I) (hS : zRS I L F dyn rs) (h : zst I s) (h2 : zwy w) (hbk : bk = 0 ∨ bk = 1) (h18 : zwy (I 18 s)) : X7_way (zM A K I L F E dyn) (some 0) (s : Int) w bk = some (.inl (I 18 s), zM A K I L F E (dyn.set (rs s) (zStr s (c5 (L 15 s)) (c5 (L 16 s)) (I 17 s) w bk (I 20 s) (I 21 s)))) := by
  have hsc := (hS.1 s h.2.1).2
  have hc : ∀ {β : Type} {f : Int → Option β}, (zchkC (I 18 s)).bind f = f (I 18 s) := by
    intro β f
    have := zvwy h18
    unfold zchkC
    rw [if_pos this]
    rfl
  unfold X7_way
  rw [zo_0b]
  rcases k_standing (A := A) (K := K) (E := E) hb hS s with ⟨e, _⟩ | ⟨_, hx⟩
  · rw [e, zb]
    simp only
    rw [Int.toNat_natCast, zbl_1 (k_isWay w) h2, zb, if_neg (by omega), zgStr_4b hsc, zpStr_4b hsc (zvwy h2), zpStr_5b (zset_eq hsc) hbk, zset22, hc]
  · exact absurd h hx
theorem k_way_R {A : zIT} {K : zLT} {I : zIT} {L : zLT} {F : zFT} {dyn : zH} {rs rd : Nat → Nat} {fp : Nat → Option Nat} {s : Nat} {w bk : Int} (hR : zRL A K I L F dyn rs rd fp) (h : zst I s) :
    zRL A K (zu (zu (zu I 14 29 0) 18 s w) 19 s bk) L F (dyn.set (rs s) (zStr s (c5 (L 15 s)) (c5 (L 16 s)) (I 17 s) w bk (I 20 s) (I 21 s))) rs rd fp := by
  obtain ⟨hS, hD, hP, hO, hK7, h8, h5, h6⟩ := hR
  have hsc := (hS.1 s h.2.1).2
  have hS2 := zRS_set (I' := zu (zu (zu I 14 29 0) 18 s w) 19 s bk) (L' := L) (F' := F) hS h.2.1 rfl rfl (fun c t c1 c2 c3 => by
    by_cases c4 : c = 19
    · subst c4
      rw [zu_j, if_neg c3, zu_c (by omega), zu_c (by omega)]
    · by_cases c5 : c = 18
      · subst c5
        rw [zu_c (by omega), zu_j, if_neg c3, zu_c (by omega)]
      · rw [zu_c (by omega), zu_c (by omega), zu_c (by omega)]) (fun t _ => ⟨rfl, rfl⟩)
  have e18 : zu (zu (zu I 14 29 0) 18 s w) 19 s bk 18 s = w := by
    rw [zu_c (by omega), zu_eq]
  have e19 : zu (zu (zu I 14 29 0) 18 s w) 19 s bk 19 s = bk := zu_eq
  have eo : ∀ c, c ≠ 14 → c ≠ 18 → c ≠ 19 → zu (zu (zu I 14 29 0) 18 s w) 19 s bk c = I c := fun c c1 c2 c3 => by
    rw [zu_c c3, zu_c c2, zu_c c1]
  rw [e18, e19, eo 17 (by omega) (by omega) (by omega), eo 20 (by omega) (by omega) (by omega), eo 21 (by omega) (by omega) (by omega)] at hS2
  exact ⟨hS2, zRD_cg (zRD_setS hD hsc) rfl (eo 26 (by omega) (by omega) (by omega)) (eo 27 (by omega) (by omega) (by omega)) rfl, zRP_cg (zRP_setS hP hsc) rfl (fun c c1 c2 => eo c (by omega) (by omega) (by omega)), zRO_cg hO rfl rfl rfl rfl rfl rfl rfl (fun c c1 c2 => eo c (by omega) (by omega) (by omega)), hK7, h8, h5, h6⟩
theorem w_way {I : zIT} {L : zLT} {B : Int} {rk : Nat → Nat} {s : Nat} {w bk : Int} (hV : zVA I L B rk) (h2 : zwy w) (hbk : bk = 0 ∨ bk = 1) : zVA (zu (zu (zu I 14 29 0) 18 s w) 19 s bk) L B rk := by
  have eo : ∀ c, c ≠ 14 → c ≠ 18 → c ≠ 19 → zu (zu (zu I 14 29 0) 18 s w) 19 s bk c = I c := fun c c1 c2 c3 => by
    rw [zu_c c3, zu_c c2, zu_c c1]
  have e18 : ∀ t, zu (zu (zu I 14 29 0) 18 s w) 19 s bk 18 t = if t = s then w else I 18 t := fun t => by
    rw [zu_c (by omega), zu_j, zu_c (by omega)]
  have e19 : ∀ t, zu (zu (zu I 14 29 0) 18 s w) 19 s bk 19 t = if t = s then bk else I 19 t := fun t => by
    rw [zu_j, zu_c (by omega), zu_c (by omega)]
  have e14 : ∀ j, j ≠ 29 → zu (zu (zu I 14 29 0) 18 s w) 19 s bk 14 j = I 14 j := fun j hj => by
    rw [zu_c (by omega), zu_c (by omega), zu_j, if_neg hj]
  obtain ⟨v0, v1, v2, v3, v4, v5, v6, v7, v8, va, v9, vt, vw⟩ := hV
  refine ⟨v0, fun t ht => ?_, ?_, ?_, ?_, ?_, ?_, ?_, ?_, ?_, ?_, zVt_cg vt rfl rfl, ?_⟩
  · rw [e14 _ (by omega)] at ht
    obtain ⟨a1, a2, a3, a4, a5, a6, a7, a8, a9⟩ := v1 t ht
    unfold zvStr
    rw [eo 17 (by omega) (by omega) (by omega), eo 20 (by omega) (by omega) (by omega), eo 21 (by omega) (by omega) (by omega), e18, e19]
    refine ⟨a1, a2, a3, a4, a5, ?_, ?_, a8, a9⟩
    · split
      · exact h2
      · exact a6
    · split
      · exact hbk
      · exact a7
  · unfold zV2 at v2 ⊢
    rw [e14 _ (by omega), eo 20 (by omega) (by omega) (by omega), eo 21 (by omega) (by omega) (by omega)]
    exact v2
  · unfold zV3 at v3 ⊢
    rw [e14 _ (by omega), eo 20 (by omega) (by omega) (by omega)]
    exact v3
  · unfold zV4 zvPl at v4 ⊢
    rw [e14 _ (by omega), eo 17 (by omega) (by omega) (by omega), eo 20 (by omega) (by omega) (by omega), eo 21 (by omega) (by omega) (by omega), eo 22 (by omega) (by omega) (by omega), eo 23 (by omega) (by omega) (by omega), eo 24 (by omega) (by omega) (by omega), eo 25 (by omega) (by omega) (by omega)]
    exact v4
  · unfold zV5 at v5 ⊢
    rw [e14 _ (by omega), eo 22 (by omega) (by omega) (by omega)]
    exact v5
  · unfold zV6 at v6 ⊢
    rw [eo 22 (by omega) (by omega) (by omega), eo 25 (by omega) (by omega) (by omega)]
    exact v6
  · unfold zV7 at v7 ⊢
    rw [eo 22 (by omega) (by omega) (by omega)]
    exact v7
  · unfold zV8 zvDr at v8 ⊢
    rw [e14 _ (by omega), eo 22 (by omega) (by omega) (by omega), eo 26 (by omega) (by omega) (by omega), eo 27 (by omega) (by omega) (by omega)]
    exact v8
  · unfold zacy at va ⊢
    rw [e14 _ (by omega), eo 26 (by omega) (by omega) (by omega), eo 27 (by omega) (by omega) (by omega)]
    exact va
  · unfold zV9 at v9 ⊢
    rw [e14 _ (by omega), e14 _ (by omega), eo 30 (by omega) (by omega) (by omega)]
    exact v9
  · unfold zVw at vw ⊢
    rw [eo 24 (by omega) (by omega) (by omega)]
    exact vw
