-- ===== rename and translate of the class (by program: mk92.py) =====
theorem k_rename_1 {A : zIT} {K : zLT} {I : zIT} {L : zLT} {F : zFT} {E : zET} {dyn : zH} {rs : Nat → Nat} {s : Int} (hb : zB I) (hS : zRS I L F dyn rs) (h : ¬ zst I s) : X7_rename (zM A K I L F E dyn) (some 0) s = some (.inr 3, (zM A K I L F E dyn)) := by
  unfold X7_rename
  rw [zo_0b]
  rcases k_standing (A := A) (K := K) (E := E) hb hS s with ⟨_, hx⟩ | ⟨e, _⟩
  · exact absurd hx h
  · rw [e, zb]
theorem k_rename_s {A : zIT} {K : zLT} {I : zIT} {L : zLT} {F : zFT} {E : zET} {dyn : zH} {rs rd : Nat → Nat} {fp : Nat → Option Nat} {B : Int} {rk : Nat → Nat} {s : Nat} (hV : zVA I L B rk) (hR : zRL A K I L F dyn rs rd fp) (h : zst I s) :
    (¬ (0 < I 14 27 ∧ ¬ zus I L (L 14 26) (I 14 7).toNat) → X7_rename (zM A K I L F E dyn) (some 0) (s : Int) = some (.inr 2, (zM A K I L F E dyn))) ∧
    ((0 < I 14 27 ∧ ¬ zus I L (L 14 26) (I 14 7).toNat) → ∃ A' K' dyn', X7_rename (zM A K I L F E dyn) (some 0) (s : Int) = some (.inl ((zxr 15 I L s).1 14 19), zM A' K' I L F E dyn') ∧ zRL A' K' (zxr 15 I L s).1 (zxr 15 I L s).2 F dyn' rs rd fp) := by
  have hb := zVA_B hV
  have hb' := hb
  unfold zB at hb'
  have ht := zVA_t hV
  have h1 := zVA_1 hV
  obtain ⟨hS, hD, hP, hO, hK7, h8, h5, h6⟩ := hR
  have h0 := zVt_0 ht
  have hN : ∀ s : Nat, (s : Int) < I 14 7 → zvn (L 15 s) ∧ zvn (L 16 s) := fun s hs => ⟨(h1 s hs).1, (h1 s hs).2.1⟩
  have hsc := (hS.1 s h.2.1).2
  unfold X7_rename
  rw [zo_0b]
  rcases k_standing (A := A) (K := K) (E := E) hb hS s with ⟨e, _⟩ | ⟨_, hx⟩
  · rw [e, zb]
    simp only
    rw [Int.toNat_natCast]
    have hc : (zcmp (K 0 7) 0) = 0 ↔ L 14 26 = 0 := by
      rw [zcmp_0, hK7]
      exact c5_ne ht.1
    rw [zg_0_7b]
    constructor
    · intro hn
      by_cases c : L 14 26 = 0
      · rw [if_pos (hc.2 c)]
      · rw [if_neg (fun y => c (hc.1 y)), zg_0_7b, hK7, zo_0b]
        have hu : zus I L (L 14 26) (I 14 7).toNat := by
          by_cases y : zus I L (L 14 26) (I 14 7).toNat
          · exact y
          · exact absurd ⟨h0.2 c, y⟩ hn
        rw [zbl_1 (k_isInUse hb hS hN ht.1) hu, zb, if_neg (by omega)]
    · rintro ⟨c1, c2⟩
      have c := h0.1 c1
      rw [if_neg (fun y => c (hc.1 y)), zg_0_7b, hK7, zo_0b, zbl_0 (k_isInUse hb hS hN ht.1) c2, zb, if_pos rfl]
      have hs : (s : Int) < I 14 7 := h.2.1
      obtain ⟨A1, K1, e1, r1, f1, g1⟩ := k_rememberAll (A := A) (K := K) (E := E) (told := L 15 s) (x := (zu I 14 29 0, L)) hb hS hD hP (zVA_5 hV) hs (zRO2_0 hb hO) (hN s hs).1 h8
      rw [zgStr_1b hsc, zo_0b, e1, zb, zg_0_7b, g1 0 (by omega), hK7, zpStr_1b hsc, zp_0_7b, zg_0_2b, zg_3_4b]
      have ez : zngo (zu I 14 29 0) s (L 15 s) (I 14 14).toNat = zngo I s (L 15 s) (I 14 14).toNat := zngo_cg (zu_c (by omega)) (zu_c (by omega)) _
      have ec : ∀ c, c < 29 → c ≠ 14 → (zxr 15 I L s).1 c = I c := fun c c1 c2 => by
        unfold zxr
        simp only
        rw [zu_c c2, zlg_c (by omega) c2]
        simp only
        rw [zu_c c2]
      have e14 : ∀ j, j ≠ 19 → j ≠ 27 → j ≠ 29 → (zxr 15 I L s).1 14 j = I 14 j := fun j j1 j2 j3 => by
        unfold zxr
        simp only
        rw [zu_j, if_neg j2, zlg_14 j1]
        simp only
        rw [zu_j, if_neg j3]
      have eL : ∀ c, c ≠ 15 → c ≠ 14 → c ≠ 28 → (zxr 15 I L s).2 c = L c := fun c c1 c2 c3 => by
        unfold zxr
        simp only
        rw [zu_c c2, zu_c c1, zlg_L c3]
      have ek : ∀ t, (zxr 15 I L s).2 15 t = if t = s then L 14 26 else L 15 t := fun t => by
        unfold zxr
        simp only
        rw [zu_c (by omega), zu_j, zlg_L (by omega)]
      have hO2 : zRO A1 (zu K1 0 7 0) (zxr 15 I L s).1 (zxr 15 I L s).2 := by
        refine zRO_cg r1.1 rfl rfl rfl rfl (zu_c (by omega)) ?_ ?_ (fun c c1 c2 => ?_)
        · unfold zxr
          simp only
          rw [ez]
          rfl
        · unfold zxr
          simp only
          rw [zu_c (by omega), zu_c (by omega), ez]
        · unfold zxr
          simp only
          rw [zu_c (by omega), ez]
      refine ⟨A1, zu K1 0 7 0, dyn.set (rs s) (zStr s (c5 (L 14 26)) (c5 (L 16 s)) (I 17 s) (I 18 s) (I 19 s) (I 20 s) (I 21 s)), ?_, ?_, zRD_cg (zRD_setS hD hsc) (e14 14 (by omega) (by omega) (by omega)) (ec 26 (by omega) (by omega)) (ec 27 (by omega) (by omega)) rfl, zRP_cg (zRP_setS hP hsc) (e14 7 (by omega) (by omega) (by omega)) (fun c c1 c2 => ec c (by omega) (by omega)), hO2, ?_, ?_, ?_, ?_⟩
      · rw [hO2.1]
      · have hS2 := zRS_set (I' := (zxr 15 I L s).1) (L' := (zxr 15 I L s).2) (F' := F) hS hs (e14 7 (by omega) (by omega) (by omega)) rfl (fun c t c1 c2 c3 => by rw [ec c (by omega) (by omega)]) (fun t c3 => by
          rw [ek, if_neg c3, eL 16 (by omega) (by omega) (by omega)]
          exact ⟨rfl, rfl⟩)
        rw [ek, if_pos rfl, eL 16 (by omega) (by omega) (by omega), ec 17 (by omega) (by omega), ec 18 (by omega) (by omega), ec 19 (by omega) (by omega), ec 20 (by omega) (by omega), ec 21 (by omega) (by omega)] at hS2
        exact hS2
      · have : (zxr 15 I L s).2 14 26 = 0 := by
          unfold zxr
          simp only
          exact zu_eq
        rw [this, zu_eq]
        rfl
      · rw [f1 0 (by omega) (by omega) (by omega) (by omega), e14 28 (by omega) (by omega) (by omega)]
        exact h8
      · rw [f1 0 (by omega) (by omega) (by omega) (by omega), e14 7 (by omega) (by omega) (by omega)]
        exact h5
      · rw [f1 0 (by omega) (by omega) (by omega) (by omega), e14 14 (by omega) (by omega) (by omega)]
        exact h6
  · exact absurd h hx
theorem w_rename {I : zIT} {L : zLT} {B : Int} {rk : Nat → Nat} {s : Nat} (hV : zVA I L B rk) (h : zst I s) (h2 : (0 < I 14 27 ∧ ¬ zus I L (L 14 26) (I 14 7).toNat)) : zVA (zxr 15 I L s).1 (zxr 15 I L s).2 B rk := by
  have hb := zVA_B hV
  unfold zB at hb
  have ec : ∀ c, c < 29 → c ≠ 14 → (zxr 15 I L s).1 c = I c := fun c c1 c2 => by
    unfold zxr
    simp only
    rw [zu_c c2, zlg_c (by omega) c2]
    simp only
    rw [zu_c c2]
  have e14 : ∀ j, j ≠ 19 → j ≠ 27 → j ≠ 29 → (zxr 15 I L s).1 14 j = I 14 j := fun j j1 j2 j3 => by
    unfold zxr
    simp only
    rw [zu_j, if_neg j2, zlg_14 j1]
    simp only
    rw [zu_j, if_neg j3]
  have eL : ∀ c, c ≠ 15 → c ≠ 14 → c ≠ 28 → (zxr 15 I L s).2 c = L c := fun c c1 c2 c3 => by
    unfold zxr
    simp only
    rw [zu_c c2, zu_c c1, zlg_L c3]
  have ek : ∀ t, (zxr 15 I L s).2 15 t = if t = s then L 14 26 else L 15 t := fun t => by
    unfold zxr
    simp only
    rw [zu_c (by omega), zu_j, zlg_L (by omega)]
  have hs := h.2.1
  have hs20 : I 20 s = 0 := h.2.2
  obtain ⟨v0, v1, v2, v3, v4, v5, v6, v7, v8, va, v9, vt, vw⟩ := hV
  have h0 := zVt_0 vt
  have hvs := v1 s hs
  have g9 : zgd (zlg (zngo (zu I 14 29 0) s (L 15 s) (I 14 14).toNat) (zu I 14 29 0, L)) (I 14 14) := zgd_lg _ _ v9 hb.2.2 (fun r hr => by
    obtain ⟨r1, r2, r3⟩ := zngo_in _ r hr
    rw [r1]
    exact ⟨hvs.1, r2, by omega⟩)
  have i19 : (zxr 15 I L s).1 14 19 = (zlg (zngo (zu I 14 29 0) s (L 15 s) (I 14 14).toNat) (zu I 14 29 0, L)).1 14 19 := rfl
  have b19 := zlg_19 (zngo (zu I 14 29 0) s (L 15 s) (I 14 14).toNat) (zu I 14 29 0, L) hb.2.2
  refine ⟨?_, fun t ht => ?_, fun t ht => ?_, fun t u ht hu hne h20 h20u => ?_, ?_, ?_, ?_, ?_, ?_, ?_, ?_, zVt_w rfl rfl, ?_⟩
  · unfold zB
    rw [e14 7 (by omega) (by omega) (by omega), e14 14 (by omega) (by omega) (by omega), i19]
    exact ⟨hb.1, hb.2.1, b19⟩
  · rw [e14 7 (by omega) (by omega) (by omega)] at ht
    obtain ⟨a1, a2, a3, a4, a5, a6, a7, a8, a9⟩ := v1 t ht
    unfold zvStr
    rw [ec 17 (by omega) (by omega), ec 18 (by omega) (by omega), ec 19 (by omega) (by omega), ec 20 (by omega) (by omega), ec 21 (by omega) (by omega), ek, eL 16 (by omega) (by omega) (by omega)]
    by_cases c : t = s
    · subst c
      rw [if_pos rfl]
      exact ⟨vt.1, a2, h0.1 h2.1, fun y => h2.2 ⟨t, by omega, hs20, h0.1 h2.1, Or.inr y.symm⟩, a5, a6, a7, a8, a9⟩
    · rw [if_neg c]
      exact ⟨a1, a2, a3, a4, a5, a6, a7, a8, a9⟩
  · rw [e14 7 (by omega) (by omega) (by omega)] at ht
    rw [ec 20 (by omega) (by omega), ec 21 (by omega) (by omega)]
    rw [eL 16 (by omega) (by omega) (by omega)]
    exact v2 t ht
  · rw [e14 7 (by omega) (by omega) (by omega)] at ht hu
    rw [ec 20 (by omega) (by omega)] at h20 h20u
    rw [ek, ek, eL 16 (by omega) (by omega) (by omega)]
    by_cases c : t = s
    · have cu : u ≠ s := by omega
      rw [if_pos c, if_neg cu]
      have k1 : L 15 u ≠ L 14 26 := fun y => h2.2 ⟨u, by omega, h20u, h0.1 h2.1, Or.inl y⟩
      have k2 : L 16 u ≠ L 14 26 := fun y => h2.2 ⟨u, by omega, h20u, h0.1 h2.1, Or.inr y⟩
      exact ⟨fun y => k1 y.symm, fun y => k2 y.symm, (v3 t u ht hu hne h20 h20u).2.2⟩
    · rw [if_neg c]
      by_cases cu : u = s
      · rw [if_pos cu]
        have k1 : L 15 t ≠ L 14 26 := fun y => h2.2 ⟨t, by omega, h20, h0.1 h2.1, Or.inl y⟩
        have v := v3 t u ht hu hne h20 h20u
        exact ⟨k1, v.2.1, v.2.2⟩
      · rw [if_neg cu]
        exact v3 t u ht hu hne h20 h20u
  · unfold zV4 zvPl at v4 ⊢
    rw [e14 7 (by omega) (by omega) (by omega), ec 17 (by omega) (by omega), ec 20 (by omega) (by omega), ec 21 (by omega) (by omega), ec 22 (by omega) (by omega), ec 23 (by omega) (by omega), ec 24 (by omega) (by omega), ec 25 (by omega) (by omega)]
    exact v4
  · unfold zV5 at v5 ⊢
    rw [e14 14 (by omega) (by omega) (by omega), ec 22 (by omega) (by omega)]
    exact v5
  · unfold zV6 at v6 ⊢
    rw [ec 22 (by omega) (by omega), ec 25 (by omega) (by omega)]
    exact v6
  · unfold zV7 at v7 ⊢
    rw [ec 22 (by omega) (by omega)]
    exact v7
  · unfold zV8 zvDr at v8 ⊢
    rw [e14 14 (by omega) (by omega) (by omega), ec 22 (by omega) (by omega), ec 26 (by omega) (by omega), ec 27 (by omega) (by omega)]
    exact v8
  · unfold zacy at va ⊢
    rw [e14 14 (by omega) (by omega) (by omega), ec 26 (by omega) (by omega), ec 27 (by omega) (by omega)]
    exact va
  · intro k hk
    rw [e14 14 (by omega) (by omega) (by omega)]
    have e28 : (zxr 15 I L s).2 28 = (zlg (zngo (zu I 14 29 0) s (L 15 s) (I 14 14).toNat) (zu I 14 29 0, L)).2 28 := by
      unfold zxr
      simp only
      rw [zu_c (by omega), zu_c (by omega)]
    have e30 : (zxr 15 I L s).1 30 = (zlg (zngo (zu I 14 29 0) s (L 15 s) (I 14 14).toNat) (zu I 14 29 0, L)).1 30 := by
      unfold zxr
      simp only
      rw [zu_c (by omega)]
    rw [e28, e30]
    exact g9 k hk
  · unfold zVw at vw ⊢
    rw [ec 24 (by omega) (by omega)]
    exact vw
theorem k_translate_1 {A : zIT} {K : zLT} {I : zIT} {L : zLT} {F : zFT} {E : zET} {dyn : zH} {rs : Nat → Nat} {s : Int} (hb : zB I) (hS : zRS I L F dyn rs) (h : ¬ zst I s) : X7_translate (zM A K I L F E dyn) (some 0) s = some (.inr 3, (zM A K I L F E dyn)) := by
  unfold X7_translate
  rw [zo_0b]
  rcases k_standing (A := A) (K := K) (E := E) hb hS s with ⟨_, hx⟩ | ⟨e, _⟩
  · exact absurd hx h
  · rw [e, zb]
theorem k_translate_s {A : zIT} {K : zLT} {I : zIT} {L : zLT} {F : zFT} {E : zET} {dyn : zH} {rs rd : Nat → Nat} {fp : Nat → Option Nat} {B : Int} {rk : Nat → Nat} {s : Nat} (hV : zVA I L B rk) (hR : zRL A K I L F dyn rs rd fp) (h : zst I s) :
    (¬ (¬ zus I L (L 14 26) (I 14 7).toNat) → X7_translate (zM A K I L F E dyn) (some 0) (s : Int) = some (.inr 2, (zM A K I L F E dyn))) ∧
    ((¬ zus I L (L 14 26) (I 14 7).toNat) → ∃ A' K' dyn', X7_translate (zM A K I L F E dyn) (some 0) (s : Int) = some (.inl ((zxr 16 I L s).1 14 19), zM A' K' I L F E dyn') ∧ zRL A' K' (zxr 16 I L s).1 (zxr 16 I L s).2 F dyn' rs rd fp) := by
  have hb := zVA_B hV
  have hb' := hb
  unfold zB at hb'
  have ht := zVA_t hV
  have h1 := zVA_1 hV
  obtain ⟨hS, hD, hP, hO, hK7, h8, h5, h6⟩ := hR
  have h0 := zVt_0 ht
  have hN : ∀ s : Nat, (s : Int) < I 14 7 → zvn (L 15 s) ∧ zvn (L 16 s) := fun s hs => ⟨(h1 s hs).1, (h1 s hs).2.1⟩
  have hsc := (hS.1 s h.2.1).2
  unfold X7_translate
  rw [zo_0b]
  rcases k_standing (A := A) (K := K) (E := E) hb hS s with ⟨e, _⟩ | ⟨_, hx⟩
  · rw [e, zb]
    simp only
    rw [Int.toNat_natCast]
    rw [zg_0_7b, hK7, zo_0b]
    constructor
    · intro hn
      have hu : zus I L (L 14 26) (I 14 7).toNat := by
        by_cases y : zus I L (L 14 26) (I 14 7).toNat
        · exact y
        · exact absurd y hn
      rw [zbl_1 (k_isInUse hb hS hN ht.1) hu, zb, if_neg (by omega)]
    · intro c2
      rw [zbl_0 (k_isInUse hb hS hN ht.1) c2, zb, if_pos rfl]
      have hs : (s : Int) < I 14 7 := h.2.1
      obtain ⟨A1, K1, e1, r1, f1, g1⟩ := k_rememberAll (A := A) (K := K) (E := E) (told := L 16 s) (x := (zu I 14 29 0, L)) hb hS hD hP (zVA_5 hV) hs (zRO2_0 hb hO) (hN s hs).2 h8
      rw [zgStr_2b hsc, zo_0b, e1, zb, zg_0_7b, g1 0 (by omega), hK7, zpStr_2b hsc, zp_0_7b, zg_0_2b, zg_3_4b]
      have ez : zngo (zu I 14 29 0) s (L 16 s) (I 14 14).toNat = zngo I s (L 16 s) (I 14 14).toNat := zngo_cg (zu_c (by omega)) (zu_c (by omega)) _
      have ec : ∀ c, c < 29 → c ≠ 14 → (zxr 16 I L s).1 c = I c := fun c c1 c2 => by
        unfold zxr
        simp only
        rw [zu_c c2, zlg_c (by omega) c2]
        simp only
        rw [zu_c c2]
      have e14 : ∀ j, j ≠ 19 → j ≠ 27 → j ≠ 29 → (zxr 16 I L s).1 14 j = I 14 j := fun j j1 j2 j3 => by
        unfold zxr
        simp only
        rw [zu_j, if_neg j2, zlg_14 j1]
        simp only
        rw [zu_j, if_neg j3]
      have eL : ∀ c, c ≠ 16 → c ≠ 14 → c ≠ 28 → (zxr 16 I L s).2 c = L c := fun c c1 c2 c3 => by
        unfold zxr
        simp only
        rw [zu_c c2, zu_c c1, zlg_L c3]
      have ek : ∀ t, (zxr 16 I L s).2 16 t = if t = s then L 14 26 else L 16 t := fun t => by
        unfold zxr
        simp only
        rw [zu_c (by omega), zu_j, zlg_L (by omega)]
      have hO2 : zRO A1 (zu K1 0 7 0) (zxr 16 I L s).1 (zxr 16 I L s).2 := by
        refine zRO_cg r1.1 rfl rfl rfl rfl (zu_c (by omega)) ?_ ?_ (fun c c1 c2 => ?_)
        · unfold zxr
          simp only
          rw [ez]
          rfl
        · unfold zxr
          simp only
          rw [zu_c (by omega), zu_c (by omega), ez]
        · unfold zxr
          simp only
          rw [zu_c (by omega), ez]
      refine ⟨A1, zu K1 0 7 0, dyn.set (rs s) (zStr s (c5 (L 15 s)) (c5 (L 14 26)) (I 17 s) (I 18 s) (I 19 s) (I 20 s) (I 21 s)), ?_, ?_, zRD_cg (zRD_setS hD hsc) (e14 14 (by omega) (by omega) (by omega)) (ec 26 (by omega) (by omega)) (ec 27 (by omega) (by omega)) rfl, zRP_cg (zRP_setS hP hsc) (e14 7 (by omega) (by omega) (by omega)) (fun c c1 c2 => ec c (by omega) (by omega)), hO2, ?_, ?_, ?_, ?_⟩
      · rw [hO2.1]
      · have hS2 := zRS_set (I' := (zxr 16 I L s).1) (L' := (zxr 16 I L s).2) (F' := F) hS hs (e14 7 (by omega) (by omega) (by omega)) rfl (fun c t c1 c2 c3 => by rw [ec c (by omega) (by omega)]) (fun t c3 => by
          rw [ek, if_neg c3, eL 15 (by omega) (by omega) (by omega)]
          exact ⟨rfl, rfl⟩)
        rw [ek, if_pos rfl, eL 15 (by omega) (by omega) (by omega), ec 17 (by omega) (by omega), ec 18 (by omega) (by omega), ec 19 (by omega) (by omega), ec 20 (by omega) (by omega), ec 21 (by omega) (by omega)] at hS2
        exact hS2
      · have : (zxr 16 I L s).2 14 26 = 0 := by
          unfold zxr
          simp only
          exact zu_eq
        rw [this, zu_eq]
        rfl
      · rw [f1 0 (by omega) (by omega) (by omega) (by omega), e14 28 (by omega) (by omega) (by omega)]
        exact h8
      · rw [f1 0 (by omega) (by omega) (by omega) (by omega), e14 7 (by omega) (by omega) (by omega)]
        exact h5
      · rw [f1 0 (by omega) (by omega) (by omega) (by omega), e14 14 (by omega) (by omega) (by omega)]
        exact h6
  · exact absurd h hx
theorem w_translate {I : zIT} {L : zLT} {B : Int} {rk : Nat → Nat} {s : Nat} (hV : zVA I L B rk) (h : zst I s) (h2 : (¬ zus I L (L 14 26) (I 14 7).toNat)) : zVA (zxr 16 I L s).1 (zxr 16 I L s).2 B rk := by
  have hb := zVA_B hV
  unfold zB at hb
  have ec : ∀ c, c < 29 → c ≠ 14 → (zxr 16 I L s).1 c = I c := fun c c1 c2 => by
    unfold zxr
    simp only
    rw [zu_c c2, zlg_c (by omega) c2]
    simp only
    rw [zu_c c2]
  have e14 : ∀ j, j ≠ 19 → j ≠ 27 → j ≠ 29 → (zxr 16 I L s).1 14 j = I 14 j := fun j j1 j2 j3 => by
    unfold zxr
    simp only
    rw [zu_j, if_neg j2, zlg_14 j1]
    simp only
    rw [zu_j, if_neg j3]
  have eL : ∀ c, c ≠ 16 → c ≠ 14 → c ≠ 28 → (zxr 16 I L s).2 c = L c := fun c c1 c2 c3 => by
    unfold zxr
    simp only
    rw [zu_c c2, zu_c c1, zlg_L c3]
  have ek : ∀ t, (zxr 16 I L s).2 16 t = if t = s then L 14 26 else L 16 t := fun t => by
    unfold zxr
    simp only
    rw [zu_c (by omega), zu_j, zlg_L (by omega)]
  have hs := h.2.1
  have hs20 : I 20 s = 0 := h.2.2
  obtain ⟨v0, v1, v2, v3, v4, v5, v6, v7, v8, va, v9, vt, vw⟩ := hV
  have h0 := zVt_0 vt
  have hvs := v1 s hs
  have g9 : zgd (zlg (zngo (zu I 14 29 0) s (L 16 s) (I 14 14).toNat) (zu I 14 29 0, L)) (I 14 14) := zgd_lg _ _ v9 hb.2.2 (fun r hr => by
    obtain ⟨r1, r2, r3⟩ := zngo_in _ r hr
    rw [r1]
    exact ⟨hvs.2.1, r2, by omega⟩)
  have i19 : (zxr 16 I L s).1 14 19 = (zlg (zngo (zu I 14 29 0) s (L 16 s) (I 14 14).toNat) (zu I 14 29 0, L)).1 14 19 := rfl
  have b19 := zlg_19 (zngo (zu I 14 29 0) s (L 16 s) (I 14 14).toNat) (zu I 14 29 0, L) hb.2.2
  refine ⟨?_, fun t ht => ?_, fun t ht => ?_, fun t u ht hu hne h20 h20u => ?_, ?_, ?_, ?_, ?_, ?_, ?_, ?_, zVt_w rfl rfl, ?_⟩
  · unfold zB
    rw [e14 7 (by omega) (by omega) (by omega), e14 14 (by omega) (by omega) (by omega), i19]
    exact ⟨hb.1, hb.2.1, b19⟩
  · rw [e14 7 (by omega) (by omega) (by omega)] at ht
    obtain ⟨a1, a2, a3, a4, a5, a6, a7, a8, a9⟩ := v1 t ht
    unfold zvStr
    rw [ec 17 (by omega) (by omega), ec 18 (by omega) (by omega), ec 19 (by omega) (by omega), ec 20 (by omega) (by omega), ec 21 (by omega) (by omega), ek, eL 15 (by omega) (by omega) (by omega)]
    by_cases c : t = s
    · subst c
      rw [if_pos rfl]
      refine ⟨a1, vt.1, a3, fun y => ?_, a5, a6, a7, a8, a9⟩
      by_cases z : L 14 26 = 0
      · exact a3 (y.trans z)
      · exact h2 ⟨t, by omega, hs20, z, Or.inl y⟩
    · rw [if_neg c]
      exact ⟨a1, a2, a3, a4, a5, a6, a7, a8, a9⟩
  · rw [e14 7 (by omega) (by omega) (by omega)] at ht
    rw [ec 20 (by omega) (by omega), ec 21 (by omega) (by omega)]
    have v := v2 t ht
    rw [ek, if_neg (by omega)]
    exact v
  · rw [e14 7 (by omega) (by omega) (by omega)] at ht hu
    rw [ec 20 (by omega) (by omega)] at h20 h20u
    rw [ek, ek, eL 15 (by omega) (by omega) (by omega)]
    by_cases c : t = s
    · have cu : u ≠ s := by omega
      rw [if_pos c, if_neg cu]
      have v := v3 t u ht hu hne h20 h20u
      refine ⟨v.1, v.2.1, fun z y => ?_⟩
      exact h2 ⟨u, by omega, h20u, z, Or.inr y.symm⟩
    · rw [if_neg c]
      by_cases cu : u = s
      · rw [if_pos cu]
        have v := v3 t u ht hu hne h20 h20u
        refine ⟨v.1, fun y => ?_, fun z y => ?_⟩
        · by_cases z : L 14 26 = 0
          · exact (v1 t ht).2.2.1 (y.trans z)
          · exact h2 ⟨t, by omega, h20, z, Or.inl y⟩
        · exact h2 ⟨t, by omega, h20, fun z2 => z (y.trans z2), Or.inr y⟩
      · rw [if_neg cu]
        exact v3 t u ht hu hne h20 h20u
  · unfold zV4 zvPl at v4 ⊢
    rw [e14 7 (by omega) (by omega) (by omega), ec 17 (by omega) (by omega), ec 20 (by omega) (by omega), ec 21 (by omega) (by omega), ec 22 (by omega) (by omega), ec 23 (by omega) (by omega), ec 24 (by omega) (by omega), ec 25 (by omega) (by omega)]
    exact v4
  · unfold zV5 at v5 ⊢
    rw [e14 14 (by omega) (by omega) (by omega), ec 22 (by omega) (by omega)]
    exact v5
  · unfold zV6 at v6 ⊢
    rw [ec 22 (by omega) (by omega), ec 25 (by omega) (by omega)]
    exact v6
  · unfold zV7 at v7 ⊢
    rw [ec 22 (by omega) (by omega)]
    exact v7
  · unfold zV8 zvDr at v8 ⊢
    rw [e14 14 (by omega) (by omega) (by omega), ec 22 (by omega) (by omega), ec 26 (by omega) (by omega), ec 27 (by omega) (by omega)]
    exact v8
  · unfold zacy at va ⊢
    rw [e14 14 (by omega) (by omega) (by omega), ec 26 (by omega) (by omega), ec 27 (by omega) (by omega)]
    exact va
  · intro k hk
    rw [e14 14 (by omega) (by omega) (by omega)]
    have e28 : (zxr 16 I L s).2 28 = (zlg (zngo (zu I 14 29 0) s (L 16 s) (I 14 14).toNat) (zu I 14 29 0, L)).2 28 := by
      unfold zxr
      simp only
      rw [zu_c (by omega), zu_c (by omega)]
    have e30 : (zxr 16 I L s).1 30 = (zlg (zngo (zu I 14 29 0) s (L 16 s) (I 14 14).toNat) (zu I 14 29 0, L)).1 30 := by
      unfold zxr
      simp only
      rw [zu_c (by omega)]
    rw [e28, e30]
    exact g9 k hk
  · unfold zVw at vw ⊢
    rw [ec 24 (by omega) (by omega)]
    exact vw
