-- ===== isTrue of the class =====
theorem k_hasTwins {A : zIT} {K : zLT} {I : zIT} {L : zLT} {F : zFT} {E : zET} {dyn : zH} (h : ∀ i j : Nat, i < 40 → j < i → A 11 i ≠ 0 → A 11 i ≠ A 11 j) : X1_hasTwins (zM A K I L F E dyn) (some 8) = some 0 := by
  have inner : ∀ i : Nat, i < 40 → zloop (X1_hasTwins_b10 (some 8) (i : Int) (zM A K I L F E dyn)) zN 0 = some (.inl ()) := by
    intro i hi
    refine zloop_0 (body := X1_hasTwins_b10 (some 8) (i : Int) (zM A K I L F E dyn)) (fun j => (j : Int)) i ?_ ?_ (by omega)
    · intro j hj
      unfold X1_hasTwins_b10
      rw [if_neg (by omega), zg_8_2b, za_11b (by omega) (by omega), Int.toNat_natCast]
      by_cases c : A 11 i = 0
      · rw [if_pos c, zckb (by omega) (by omega)]
        rfl
      · rw [if_neg c, zg_8_2b, za_11b (by omega) (by omega), zg_8_2b, za_11b (by omega) (by omega), Int.toNat_natCast, Int.toNat_natCast, if_neg (h i j hi hj c), zckb (by omega) (by omega)]
        rfl
    · unfold X1_hasTwins_b10
      rw [if_pos (by omega)]
  have outer : zloop (X1_hasTwins_b2 (some 8) (zM A K I L F E dyn)) zN 0 = some (.inl ()) := by
    refine zloop_0 (body := X1_hasTwins_b2 (some 8) (zM A K I L F E dyn)) (fun j => (j : Int)) 40 ?_ rfl (by omega)
    intro i hi
    unfold X1_hasTwins_b2
    rw [if_neg (by omega), inner i hi, zb]
    simp only
    rw [zckb (by omega) (by omega)]
    rfl
  unfold X1_hasTwins
  rw [outer, zb]
theorem zLgr_tw {A I : zIT} {L : zLT} {B : Int} {rk : Nat → Nat} {s : Nat} (hV : zVA I L B rk) (hL : zLgr A I s) : ∀ i j : Nat, i < 40 → j < i → A 11 i ≠ 0 → A 11 i ≠ A 11 j := by
  intro i j hi hj hc hx
  obtain ⟨p, p1, p2, p3, p4, p5, _⟩ := zLgr_of hL hi hc
  obtain ⟨q, q1, q2, q3, q4, q5, _⟩ := zLgr_of hL (show j < 40 by omega) (by omega)
  exact zVA_6 hV p q p1 q1 (by omega) (by omega) (by omega) (by omega)
theorem k_single {A : zIT} {K : zLT} {I : zIT} {L : zLT} {F : zFT} {E : zET} {dyn : zH} {rs rd : Nat → Nat} {fp : Nat → Option Nat} {B : Int} {rk : Nat → Nat} (hV : zVA I L B rk) (hS : zRS I L F dyn rs) (hD : zRD I F dyn rd fp) (hP : zRP I dyn rs fp) :
    ∃ A', X7_areAddressesSingle (zM A K I L F E dyn) (some 0) = some (1, zM A' K I L F E dyn) ∧ (∀ c, c ≠ 8 → c ≠ 9 → c ≠ 10 → c ≠ 11 → A' c = A c) := by
  obtain ⟨e, he, hq⟩ := zloop_up (body := X7_areAddressesSingle_b10 (some 0) (some 1) 12) (fun i t => t.1 = (i : Int) ∧ ∃ A', t.2 = zM A' K I L F E dyn ∧ (∀ c, c ≠ 8 → c ≠ 9 → c ≠ 10 → c ≠ 11 → A' c = A c))
    (fun e => ∃ A', e = .inl (zM A' K I L F E dyn) ∧ (∀ c, c ≠ 8 → c ≠ 9 → c ≠ 10 → c ≠ 11 → A' c = A c)) 12 (by
    rintro i ⟨t1, t2⟩ hi ⟨ht1, A1, ht2, hf⟩
    simp only at ht1 ht2
    subst ht1 ht2
    refine Or.inl ?_
    unfold X7_areAddressesSingle_b10
    simp only
    rw [if_neg (by omega), za_1b (by omega) (by omega), Int.toNat_natCast]
    rcases k_isStanding (A := A1) (K := K) (E := E) hS i with ⟨e1, h⟩ | ⟨e1, h⟩
    · have hl := (zVA_LV hV h.1).2.2.2.1
      rw [e1, zb, if_neg (by omega), (hS.1 i h.1).1, zgStr_3b (hS.1 i h.1).2, zo_0b]
      obtain ⟨A2, e2, hL, hf2⟩ := k_openLedger (A := A1) (K := K) (E := E) (len := I 17 i) hV hS hD hP h.1 (by omega)
      rw [zu_id] at hL
      rw [e2, zb, zg_0_3b, zo_8b, k_hasTwins (zLgr_tw hV hL), zb, if_pos rfl, zckb (by omega) (by omega)]
      exact ⟨_, rfl, rfl, A2, rfl, fun c c1 c2 c3 c4 => (hf2 c c1 c2 c3 c4).trans (hf c c1 c2 c3 c4)⟩
    · rw [e1, zb, if_pos rfl, zckb (by omega) (by omega)]
      exact ⟨_, rfl, rfl, A1, rfl, hf⟩) (by
    rintro ⟨t1, t2⟩ ⟨ht1, A1, ht2, hf⟩
    simp only at ht1 ht2
    subst ht1 ht2
    unfold X7_areAddressesSingle_b10
    rw [if_pos (by omega)]
    exact ⟨_, rfl, A1, rfl, hf⟩) (0, (zM A K I L F E dyn)) ⟨rfl, A, rfl, fun _ _ _ _ _ => rfl⟩ (by omega)
  obtain ⟨A', rfl, h⟩ := hq
  unfold X7_areAddressesSingle
  rw [zg_0_0b, zl_1b, he, zb]
  exact ⟨A', rfl, h⟩
theorem k_there {A : zIT} {K : zLT} {I : zIT} {L : zLT} {F : zFT} {E : zET} {dyn : zH} {rs rd : Nat → Nat} {fp : Nat → Option Nat} {B : Int} {rk : Nat → Nat} (hV : zVA I L B rk) (hS : zRS I L F dyn rs) (hD : zRD I F dyn rd fp) (hP : zRP I dyn rs fp) : X7_areAddressesThere (zM A K I L F E dyn) (some 0) = some 1 := by
  have hb := zVA_B hV
  unfold zB at hb
  have h : zloop (X7_areAddressesThere_b10 (some 2) 40 (zM A K I L F E dyn)) zN 0 = some (.inl ()) := by
    refine zloop_0 (body := X7_areAddressesThere_b10 (some 2) 40 (zM A K I L F E dyn)) (fun j => (j : Int)) 40 ?_ rfl (by omega)
    intro i hi
    unfold X7_areAddressesThere_b10
    rw [if_neg (by omega), za_2b (by omega) (by omega), Int.toNat_natCast]
    by_cases c : (i : Int) < I 14 14
    · have hdc := (hD.1 i c).2
      obtain ⟨g1, g2, g3, g4⟩ := zVA_8 hV i hi
      rw [(hD.1 i c).1, if_neg (fun y => by cases y), zgDor_3b hdc]
      by_cases c2 : I 26 i = 0
      · have st : ∀ p : Nat, p < 80 → I 22 p ≠ -1 → 10 ≤ I 25 p ∧ X7_isStanding (zM A K I L F E dyn) (some (rs (I 22 p).toNat + 39)) = some 1 := by
          intro p hp hn
          obtain ⟨⟨w1, w2, w3⟩, _, _, w4, _⟩ := zVA_4 hV p hp hn
          have hs : ((I 22 p).toNat : Int) < I 14 7 := by omega
          rcases k_isStanding (A := A) (K := K) (E := E) hS (I 22 p).toNat with ⟨e1, _⟩ | ⟨_, h⟩
          · rw [(hS.1 _ hs).1] at e1
            exact ⟨w4, e1⟩
          · exact absurd ⟨hs, w3⟩ h
        have all : X0_hasAddressesAll (zM A K I L F E dyn) (some (rd i + 39)) = some 1 := by
          unfold X0_hasAddressesAll
          rw [zgDor_1b hdc]
          rcases hP (2 * i) (by omega) with ⟨k1, k2⟩ | ⟨k1, k2, r, k3, k4⟩
          · exact absurd k1 (g3 c c2).1
          · obtain ⟨s1, s2⟩ := st (2 * i) (by omega) (by omega)
            rw [k3, if_neg (fun y => by cases y), zgDor_1b hdc, k3, zgPlc_4b k4, if_neg (by omega), zgDor_1b hdc, k3, zgPlc_1b k4, s2, zb, if_neg (by omega), zgDor_2b hdc]
            rcases hP (2 * i + 1) (by omega) with ⟨m1, m2⟩ | ⟨m1, m2, r2, m3, m4⟩
            · rw [m2, if_pos rfl]
            · obtain ⟨t1, t2⟩ := st (2 * i + 1) (by omega) (by omega)
              rw [m3, if_neg (fun y => by cases y), zgDor_2b hdc, m3, zgPlc_4b m4, if_neg (by omega), zgDor_2b hdc, m3, zgPlc_1b m4, t2, zb, if_neg (by omega)]
        rw [if_pos c2, zoDorb hdc, all, zb, if_neg (by omega), zckb (by omega) (by omega)]
        rfl
      · rw [if_neg c2, zckb (by omega) (by omega)]
        rfl
    · rw [hD.2 i (by omega), if_pos rfl, zckb (by omega) (by omega)]
      rfl
  unfold X7_areAddressesThere
  rw [zg_0_1b, zl_2b, h, zb]
theorem k_taken {A : zIT} {K : zLT} {I : zIT} {L : zLT} {F : zFT} {E : zET} {dyn : zH} {rs : Nat → Nat} {B : Int} {rk : Nat → Nat} {s : Nat} (hV : zVA I L B rk) (hS : zRS I L F dyn rs) (hs : (s : Int) < I 14 7) (h20 : I 20 s = 0) : X7_isTakenByOther (zM A K I L F E dyn) (some 0) (some (rs s + 39)) = some 0 := by
  have h1 := zVA_1 hV
  have hsc := (hS.1 s hs).2
  have h : zloop (X7_isTakenByOther_b11 (some (rs s + 39)) (some 1) 12 (zM A K I L F E dyn)) zN 0 = some (.inl ()) := by
    refine zloop_0 (body := X7_isTakenByOther_b11 (some (rs s + 39)) (some 1) 12 (zM A K I L F E dyn)) (fun j => (j : Int)) 12 ?_ rfl (by omega)
    intro i hi
    unfold X7_isTakenByOther_b11
    rw [if_neg (by omega), za_1b (by omega) (by omega), Int.toNat_natCast]
    rcases k_isStanding (A := A) (K := K) (E := E) hS i with ⟨e1, h⟩ | ⟨e1, h⟩
    · have hic := (hS.1 i h.1).2
      rw [e1, zb, if_neg (by omega), (hS.1 i h.1).1]
      by_cases c : i = s
      · rw [if_pos (by rw [c]), zckb (by omega) (by omega)]
        rfl
      · have n1 := zVA_3 hV s i hs h.1 (fun y => c y.symm) h20 h.2
        have n2 := zVA_3 hV i s h.1 hs c h.2 h20
        rw [if_neg (fun y => c (zRS_inj hS h.1 hs (by injection y with y; omega))), zgStr_1b hsc, zoStrb hic,
          zbl_0 (k_hasName (A := A) (K := K) (I := I) (L := L) (F := F) (E := E) hic (h1 i h.1).1 (h1 i h.1).2.1 (h1 s hs).1) (fun y => y.2.elim n2.1 (fun z => n1.2.1 z.symm)), zb, if_pos rfl, zgStr_2b hsc, zoStrb hic,
          zbl_0 (k_hasName (A := A) (K := K) (I := I) (L := L) (F := F) (E := E) hic (h1 i h.1).1 (h1 i h.1).2.1 (h1 s hs).2.1) (fun y => y.2.elim n2.2.1 (fun z => n1.2.2 y.1 z.symm)), zb, if_pos rfl, zckb (by omega) (by omega)]
        rfl
    · rw [e1, zb, if_pos rfl, zckb (by omega) (by omega)]
      rfl
  unfold X7_isTakenByOther
  rw [zg_0_0b, zl_1b, h, zb]
theorem k_names {A : zIT} {K : zLT} {I : zIT} {L : zLT} {F : zFT} {E : zET} {dyn : zH} {rs : Nat → Nat} {B : Int} {rk : Nat → Nat} (hV : zVA I L B rk) (hS : zRS I L F dyn rs) : X7_areNamesSingle (zM A K I L F E dyn) (some 0) = some 1 := by
  have h1 := zVA_1 hV
  have h : zloop (X7_areNamesSingle_b10 (some 0) (some 1) 12 (zM A K I L F E dyn)) zN 0 = some (.inl ()) := by
    refine zloop_0 (body := X7_areNamesSingle_b10 (some 0) (some 1) 12 (zM A K I L F E dyn)) (fun j => (j : Int)) 12 ?_ rfl (by omega)
    intro i hi
    unfold X7_areNamesSingle_b10
    rw [if_neg (by omega), za_1b (by omega) (by omega), Int.toNat_natCast]
    rcases k_isStanding (A := A) (K := K) (E := E) hS i with ⟨e1, h⟩ | ⟨e1, h⟩
    · have hic := (hS.1 i h.1).2
      have hv := h1 i h.1
      rw [e1, zb, if_neg (by omega), (hS.1 i h.1).1, zgStr_1b hic, zgStr_2b hic, if_neg (fun y => hv.2.2.2.1 (c5_inj hv.1 hv.2.1 (zcmp_0.1 y))), zo_0b, k_taken hV hS h.1 h.2, zb, if_pos rfl, zckb (by omega) (by omega)]
      rfl
    · rw [e1, zb, if_pos rfl, zckb (by omega) (by omega)]
      rfl
  unfold X7_areNamesSingle
  rw [zg_0_0b, zl_1b, h, zb]
theorem zend_ok {I : zIT} {rk : Nat → Nat} (ha : zacy I rk) : ∀ (n : Nat) (x : Int), x < I 14 14 → (0 ≤ x → I 26 x.toNat ≠ 0 → 40 ≤ rk x.toNat + n) → 0 ≤ zend I n x → I 26 (zend I n x).toNat = 0
  | 0, x, hx, hr, h0 => by
    show I 26 x.toNat = 0
    by_cases c : I 26 x.toNat = 0
    · exact c
    · have h0' : 0 ≤ x := h0
      have := hr h0' c
      have := (ha x.toNat (by omega) c).1
      omega
  | n + 1, x, hx, hr, h0 => by
    by_cases c : 0 ≤ x ∧ I 26 x.toNat ≠ 0
    · have es : zstp I x = I 27 x.toNat := if_pos c
      have h5 := ha x.toNat (by omega) c.2
      have h4 := hr c.1 c.2
      have e : zend I (n + 1) x = zend I n (I 27 x.toNat) := by
        show zend I n (zstp I x) = _
        rw [es]
      rw [e] at h0 ⊢
      rcases h5.2 with h6 | h6
      · rw [h6, zend_fix (by omega)] at h0
        omega
      · refine zend_ok ha n _ h6.2.1 (fun h7 h8 => ?_) h0
        have := h6.2.2 h8
        omega
    · have e : zend I (n + 1) x = x := zend_fix c _
      rw [e] at h0 ⊢
      by_cases c2 : I 26 x.toNat = 0
      · exact c2
      · exact absurd ⟨h0, c2⟩ c
theorem k_leads {A : zIT} {K : zLT} {I : zIT} {L : zLT} {F : zFT} {E : zET} {dyn : zH} {rd : Nat → Nat} {fp : Nat → Option Nat} {B : Int} {rk : Nat → Nat} (hV : zVA I L B rk) (hD : zRD I F dyn rd fp) : X7_areLeadsEnding (zM A K I L F E dyn) (some 0) = some 1 := by
  have hb := zVA_B hV
  unfold zB at hb
  have hl : ∀ d : Nat, (d : Int) < I 14 14 → 0 ≤ I 27 d → I 27 d < I 14 14 := fun d h1 h2 => zld_lt hV h1 h2
  have h : zloop (X7_areLeadsEnding_b10 (some 2) 40 (zM A K I L F E dyn)) zN 0 = some (.inl ()) := by
    refine zloop_0 (body := X7_areLeadsEnding_b10 (some 2) 40 (zM A K I L F E dyn)) (fun j => (j : Int)) 40 ?_ rfl (by omega)
    intro i hi
    unfold X7_areLeadsEnding_b10
    rw [if_neg (by omega), za_2b (by omega) (by omega), Int.toNat_natCast]
    by_cases c : (i : Int) < I 14 14
    · have ez : zrf rd (i : Int) = some (rd i + 39) := by
        unfold zrf
        rw [if_pos (by omega), Int.toNat_natCast]
      have hlt := zend_lt hl (by omega) 40 (i : Int) c
      rw [(hD.1 i c).1, ← ez, k_endOf hD hl (by omega) c, zb]
      by_cases c2 : 0 ≤ zend I 40 i
      · have er : zrf rd (zend I 40 i) = some (rd (zend I 40 i).toNat + 39) := if_pos c2
        have ok := zend_ok (zVA_a hV) 40 (i : Int) c (fun _ _ => by omega) c2
        rw [er, if_neg (fun y => by cases y), zgDor_3b (hD.1 _ (by omega)).2, ok, if_pos rfl, zckb (by omega) (by omega)]
        rfl
      · have er : zrf rd (zend I 40 i) = none := if_neg c2
        rw [er, if_pos rfl, zckb (by omega) (by omega)]
        rfl
    · have em : zend I 40 (-1) = -1 := zend_fix (by omega) _
      have ke := k_endOf (A := A) (K := K) (I := I) (L := L) (E := E) (a := -1) hD hl (by omega) (by omega)
      rw [em] at ke
      have kn : X7_endOf (zM A K I L F E dyn) none = some none := ke
      rw [hD.2 i (by omega), kn, zb, if_pos rfl, zckb (by omega) (by omega)]
      rfl
  unfold X7_areLeadsEnding
  rw [zg_0_1b, zl_2b, h, zb]
theorem k_isTrue {A : zIT} {K : zLT} {I : zIT} {L : zLT} {F : zFT} {E : zET} {dyn : zH} {rs rd : Nat → Nat} {fp : Nat → Option Nat} {B : Int} {rk : Nat → Nat} (hV : zVA I L B rk) (hR : zRL A K I L F dyn rs rd fp) : ∃ A', X7_isTrue (zM A K I L F E dyn) (some 0) = some (1, zM A' K I L F E dyn) ∧ zAe A A' := by
  obtain ⟨hS, hD, hP, hO, hK7, h8, h5, h6⟩ := hR
  obtain ⟨A', e, hf⟩ := k_single (A := A) (K := K) (E := E) hV hS hD hP
  refine ⟨A', ?_, zAe_h hf⟩
  unfold X7_isTrue
  rw [zo_0b, e, zb]
  simp only
  rw [if_neg (by omega), zo_0b, k_there hV hS hD hP, zb, if_neg (by omega), zo_0b, k_names hV hS, zb, if_neg (by omega), zo_0b, k_leads hV hD, zb, if_neg (by omega)]
