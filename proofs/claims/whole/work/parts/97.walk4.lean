-- ===== walk and steps of the class =====
theorem zpo_eq {I : zIT} {s q : Nat} (h7 : zV7 I) (h : I 22 q = s) : zpo I (q / 2) s = (q : Int) := by
  unfold zpo
  by_cases c : q = 2 * (q / 2)
  · rw [← c, if_pos h]
    omega
  · have e : q = 2 * (q / 2) + 1 := by omega
    have hn : I 22 (2 * (q / 2)) ≠ s := by
      intro y
      exact h7 (2 * (q / 2)) q (by omega) (by omega) (by omega) (by rw [y, h])
    rw [if_neg hn, ← e, if_pos h]
    omega
theorem zso_OS {I : zIT} {s r : Nat} {R : Nat → Int} (hb : zB I) (h5 : zV5 I) (h7 : zV7 I) (h : zso I s (2 * I 14 14).toNat r R) : zOS (fun a => zwk I (R a).toNat) r (fun x => ∃ d : Nat, d < 40 ∧ zpo I d s ≠ -1 ∧ x = zwr I s d * 64 + d) := by
  unfold zB at hb
  obtain ⟨h1, h2, h3, _⟩ := h
  have hk : ∀ q : Nat, I 22 q = s → zwk I q = zwr I s (q / 2) * 64 + ((q / 2 : Nat) : Int) := by
    intro q hq
    unfold zwk zwr
    rw [zpo_eq h7 hq, Int.toNat_natCast]
  refine ⟨fun a b hab hb' => ?_, fun x => ⟨?_, ?_⟩⟩
  · obtain ⟨qa, e1, _⟩ := h1 a (by omega)
    obtain ⟨qb, e2, _⟩ := h1 b hb'
    simp only
    rw [e1, e2, Int.toNat_natCast, Int.toNat_natCast]
    exact h3 a b qa qb hab hb' e1 e2
  · rintro ⟨d, d1, d2, d3⟩
    obtain ⟨g1, g2, g3⟩ := zpo_at d2
    have hlt : (zpo I d s).toNat < (2 * I 14 14).toNat := by
      rcases Nat.lt_or_ge (zpo I d s).toNat (2 * I 14 14).toNat with y | y
      · exact y
      · have := h5 (zpo I d s).toNat (by omega)
        omega
    obtain ⟨a, a1, a2⟩ := h2 _ hlt g2
    refine ⟨a, a1, ?_⟩
    simp only
    rw [a2, Int.toNat_natCast, hk _ g2, g1, d3]
  · rintro ⟨a, a1, a2⟩
    obtain ⟨q, e1, e2, e3⟩ := h1 a a1
    simp only at a2
    rw [e1, Int.toNat_natCast, hk q e3] at a2
    exact ⟨q / 2, by omega, by rw [zpo_eq h7 e3]; omega, a2.symm⟩
theorem k_walk_1 {A : zIT} {K : zLT} {I : zIT} {L : zLT} {F : zFT} {E : zET} {dyn : zH} {rs : Nat → Nat} {s k : Int} (hb : zB I) (hS : zRS I L F dyn rs) (h : ¬ zst I s) : X7_walk (zM A K I L F E dyn) (some 0) s k = some (.inr 3, (zM A K I L F E dyn)) := by
  unfold X7_walk
  rw [zo_0b]
  rcases k_standing (A := A) (K := K) (E := E) hb hS s with ⟨_, hx⟩ | ⟨e, _⟩
  · exact absurd hx h
  · rw [e, zb]
theorem k_walk_0 {A : zIT} {K : zLT} {I : zIT} {L : zLT} {F : zFT} {E : zET} {dyn : zH} {rs rd : Nat → Nat} {fp : Nat → Option Nat} {B : Int} {rk : Nat → Nat} {s r : Nat} {k : Int} {R : Nat → Int} (hV : zVA I L B rk) (hR : zRL A K I L F dyn rs rd fp) (h : zst I s) (hso : zso I s (2 * I 14 14).toNat r R) :
    ∃ A', X7_walk (zM A K I L F E dyn) (some 0) (s : Int) k = some (if 0 ≤ k ∧ k < r then .inl (R k.toNat / 2) else .inr 4, zM A' K I L F E dyn) ∧ zAe A A' := by
  obtain ⟨hS, hD, hP, hO, hK7, h8, h5, h6⟩ := hR
  have hb := zVA_B hV
  obtain ⟨A', e, ⟨c, c1, c2, c3⟩, hf⟩ := k_orderForWalking (A := A) (K := K) (E := E) hV hS hD hP h.2.1
  have hos := zso_OS hb (zVA_5 hV) (zVA_7 hV) hso
  obtain ⟨ec, er⟩ := zOS_eq c3 hos (fun x => Iff.rfl)
  subst ec
  refine ⟨A', ?_, ⟨hf 0 (by omega) (by omega), hf 3 (by omega) (by omega), hf 5 (by omega) (by omega), hf 6 (by omega) (by omega), hf 7 (by omega) (by omega)⟩⟩
  unfold X7_walk
  rw [zo_0b]
  rcases k_standing (A := A) (K := K) (E := E) hb hS s with ⟨e1, _⟩ | ⟨_, hx⟩
  · rw [e1, zb]
    simp only
    rw [Int.toNat_natCast, zo_0b, e, zb]
    by_cases c0 : k < 0
    · rw [if_pos c0, if_neg (by omega)]
    · rw [if_neg c0, zg_0_4b, zg_12_1b, c2]
      by_cases c4 : k < c
      · have hk : 0 ≤ k ∧ k < (c : Int) := ⟨by omega, c4⟩
        obtain ⟨q, q1, q2, q3⟩ := hso.1 k.toNat (by omega)
        have hq8 : q < 80 := zLV_80 (zVA_LV hV h.2.1) q2
        have v := zV4_at (zVA_4 hV) hq8 q3
        have hz : A' 13 k.toNat = zwk I q := by
          rw [er k.toNat (by omega), q1, Int.toNat_natCast]
        have hl := (zVA_LV hV h.2.1).2.2.2.1
        have h0 : 0 ≤ zwk I q ∧ zwk I q % 64 = ((q / 2 : Nat) : Int) := by
          unfold zwk
          split <;> omega
        rw [if_pos c4, if_pos hk, zg_0_4b, zo_12b, k_doorIn c2 (by omega) hk (by rw [hz]; exact h0.1), zb, hz, h0.2, q1]
        rfl
      · rw [if_neg c4, if_neg (fun y => c4 y.2)]
  · exact absurd h hx
theorem k_steps_1 {A : zIT} {K : zLT} {I : zIT} {L : zLT} {F : zFT} {E : zET} {dyn : zH} {rs : Nat → Nat} {s : Int} (hb : zB I) (hS : zRS I L F dyn rs) (h : ¬ zst I s) : X7_steps (zM A K I L F E dyn) (some 0) s = some (.inr 3, (zM A K I L F E dyn)) := by
  unfold X7_steps
  rw [zo_0b]
  rcases k_standing (A := A) (K := K) (E := E) hb hS s with ⟨_, hx⟩ | ⟨e, _⟩
  · exact absurd hx h
  · rw [e, zb]
theorem k_steps_0 {A : zIT} {K : zLT} {I : zIT} {L : zLT} {F : zFT} {E : zET} {dyn : zH} {rs rd : Nat → Nat} {fp : Nat → Option Nat} {B : Int} {rk : Nat → Nat} {s r : Nat} {R : Nat → Int} (hV : zVA I L B rk) (hR : zRL A K I L F dyn rs rd fp) (h : zst I s) (hso : zso I s (2 * I 14 14).toNat r R) :
    ∃ A', X7_steps (zM A K I L F E dyn) (some 0) (s : Int) = some (.inl (zstp2 I R (r - 1)), zM A' K I L F E dyn) ∧ zAe A A' := by
  obtain ⟨hS, hD, hP, hO, hK7, h8, h5, h6⟩ := hR
  have hb := zVA_B hV
  obtain ⟨A', e, ⟨c, c1, c2, c3⟩, hf⟩ := k_orderForWalking (A := A) (K := K) (E := E) hV hS hD hP h.2.1
  have hos := zso_OS hb (zVA_5 hV) (zVA_7 hV) hso
  obtain ⟨ec, er⟩ := zOS_eq c3 hos (fun x => Iff.rfl)
  subst ec
  refine ⟨A', ?_, ⟨hf 0 (by omega) (by omega), hf 3 (by omega) (by omega), hf 5 (by omega) (by omega), hf 6 (by omega) (by omega), hf 7 (by omega) (by omega)⟩⟩
  have hl := (zVA_LV hV h.2.1).2.2.2.1
  have at' : ∀ a : Nat, a < c → ∃ q r1 : Nat, R a = q ∧ q < 80 ∧ I 22 q = s ∧ A' 13 a = zwk I q ∧ zwk I q % 64 = ((q / 2 : Nat) : Int) ∧ 0 ≤ zwk I q ∧ (0 ≤ I 23 q ∧ I 23 q ≤ 999) ∧ zsd (I 24 q) ∧ zpf I fp (q / 2) s = some (r1 + 39) ∧
      dyn[r1]? = some (zPlc ((q / 2 : Nat) : Int) (some (rs s + 39)) (I 23 q) (if I 24 q = 108 then 1 else 0) (I 25 q)) := by
    intro a ha
    obtain ⟨q, q1, q2, q3⟩ := hso.1 a ha
    have hq8 : q < 80 := zLV_80 (zVA_LV hV h.2.1) q2
    have v := zV4_at (zVA_4 hV) hq8 q3
    have hz : A' 13 a = zwk I q := by
      rw [er a ha, q1, Int.toNat_natCast]
    have h0 : 0 ≤ zwk I q ∧ zwk I q % 64 = ((q / 2 : Nat) : Int) := by
      unfold zwk
      split <;> omega
    have ez := zpo_eq (zVA_7 hV) q3
    rcases zpf_at (s := s) hP (show q / 2 < 40 by omega) with ⟨z1, z2⟩ | ⟨z1, r1, z2, z3⟩
    · omega
    · rw [ez, Int.toNat_natCast] at z3
      exact ⟨q, r1, q1, hq8, q3, hz, h0.2, h0.1, by omega, v.2.2.1, z2, z3⟩
  obtain ⟨e3, he3, hq⟩ := zloop_up (body := X7_steps_b19 (some 0) (some (rs s + 39)) (zM A' K I L F E dyn)) (fun i t => t.2.2 = (i : Int) ∧ t.1 = zstp2 I R (i - 1) ∧ ((i = 0 ∧ t.2.1 = none) ∨ (0 < i ∧ t.2.1 = zpf I fp ((R (i - 1)).toNat / 2) s)))
    (fun e => e = zstp2 I R (c - 1)) c (by
    rintro i ⟨m, lst, k⟩ hi ⟨hk, hm, hl'⟩
    simp only at hk hm hl'
    subst hk hm
    obtain ⟨q, r1, q1, q2, q3, q4, q5, q6, q7, q8, q9, q10⟩ := at' i hi
    have hzs := zstp2_in (I := I) (R := R) (i - 1)
    unfold X7_steps_b19
    simp only
    rw [zg_0_4b, zg_12_1b, c2, if_neg (by omega), zg_0_4b, zo_12b, k_doorIn c2 (by omega) ⟨by omega, by omega⟩ (by rw [Int.toNat_natCast, q4]; exact q6), zb, Int.toNat_natCast, q4, q5, zo_0b]
    rcases k_doorAt (A := A') (K := K) (L := L) (E := E) hb hD ((q / 2 : Nat) : Int) with ⟨e2, hd2⟩ | ⟨_, hx⟩
    · have e4 := (hD.1 (q / 2) hd2.2).1
      rw [e2, zb, Int.toNat_natCast, ← e4, k_placeOf hb hS hD hP (zVA_5 hV) (by omega) h.2.1, zb, q9]
      refine Or.inl ?_
      have eR : (R i).toNat / 2 = q / 2 := by rw [q1, Int.toNat_natCast]
      rcases hl' with ⟨i0, rfl⟩ | ⟨i0, rfl⟩
      · rw [if_pos rfl, zckb (by omega) (by omega)]
        subst i0
        exact ⟨_, rfl, rfl, rfl, Or.inr ⟨by omega, by show some (r1 + 39) = zpf I fp ((R 0).toNat / 2) s; rw [eR, q9]⟩⟩
      · obtain ⟨p, r2, p1, p2, p3, p4, p5, p6, p7, p8, p9, p10⟩ := at' (i - 1) (by omega)
        have eP : (R (i - 1)).toNat / 2 = p / 2 := by rw [p1, Int.toNat_natCast]
        rw [eP, p9, if_neg (fun y => by cases y), if_neg (fun y => by cases y), zgPlc_2b q10, zgPlc_2b p10, zckb (by omega) (by omega)]
        have eab : zabsO (I 23 q - I 23 p) = some (if 0 ≤ I 23 q - I 23 p then I 23 q - I 23 p else -(I 23 q - I 23 p)) := by
          unfold zabsO zabs
          rw [if_pos (by omega)]
          congr 1
          split <;> omega
        have hab : 0 ≤ (if 0 ≤ I 23 q - I 23 p then I 23 q - I 23 p else -(I 23 q - I 23 p)) ∧ (if 0 ≤ I 23 q - I 23 p then I 23 q - I 23 p else -(I 23 q - I 23 p)) ≤ 999 := by
          split <;> omega
        have es : zstp2 I R i = zstp2 I R (i - 1) + zgap I q p := by
          obtain ⟨j, rfl⟩ : ∃ j, i = j + 1 := ⟨i - 1, by omega⟩
          rw [show j + 1 - 1 = j by omega] at p1 ⊢
          show zstp2 I R j + _ = _
          simp only
          rw [q1, p1, Int.toNat_natCast, Int.toNat_natCast, if_pos ⟨q7.1, q7.2, p7.1, p7.2⟩]
        rw [eab, zb, zckb (by omega) (by omega), zgPlc_3b q10, zgPlc_3b p10]
        have hi1 : i + 1 - 1 = i := by omega
        by_cases cs : I 24 q = I 24 p
        · rw [if_pos ((zsd_e p8 q8).2 cs), zckb (by omega) (by omega), zckb (by omega) (by omega)]
          refine ⟨_, rfl, rfl, ?_, Or.inr ⟨by omega, by show some (r1 + 39) = _; rw [hi1, eR, q9]⟩⟩
          simp only
          rw [hi1, es]
          unfold zgap
          rw [if_pos cs]
          omega
        · rw [if_neg (fun y => cs ((zsd_e p8 q8).1 y)), zckb (by omega) (by omega), zckb (by omega) (by omega)]
          refine ⟨_, rfl, rfl, ?_, Or.inr ⟨by omega, by show some (r1 + 39) = _; rw [hi1, eR, q9]⟩⟩
          simp only
          rw [hi1, es]
          unfold zgap
          rw [if_neg cs]
          omega
    · have := zV4_at (zVA_4 hV) q2 q3
      have := zVA_5 hV q
      exact absurd ⟨by omega, by
        rcases Int.lt_or_le ((q / 2 : Nat) : Int) (I 14 14) with y | y
        · exact y
        · have := zVA_5 hV q (by omega)
          omega⟩ hx) (by
    rintro ⟨m, lst, k⟩ ⟨hk, hm, _⟩
    simp only at hk hm
    subst hk hm
    unfold X7_steps_b19
    simp only
    rw [zg_0_4b, zg_12_1b, c2, if_pos (by omega)]
    exact ⟨_, rfl, rfl⟩) (0, none, 0) ⟨rfl, rfl, Or.inl ⟨rfl, rfl⟩⟩ (by omega)
  unfold X7_steps
  rw [zo_0b]
  rcases k_standing (A := A) (K := K) (E := E) hb hS s with ⟨e1, _⟩ | ⟨_, hx⟩
  · rw [e1, zb]
    simp only
    rw [Int.toNat_natCast, zo_0b, e, zb, he3, zb, hq]
  · exact absurd h hx
