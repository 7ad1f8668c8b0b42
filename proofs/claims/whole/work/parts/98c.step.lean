-- ===== a new code is new; a step of entering in order; validity after door, corner, a door gone =====
theorem zcm_new {J : zIT} {s d : Nat} {m w r B : Int} (hV : zLV J s B) (hz : zcm J s d m w r) (hr : r ≠ -1) {p : Nat} (hp : p < 80) (h1 : J 22 p = s) : J 25 p ≠ r := by
  intro e
  have hn := zLV_n hV h1
  have hpv := (hV.2.2.2.2.2 p hp h1).2.2
  have lt : ∀ {n least : Int}, zltr (zgv J s (2 * J 14 14).toNat) n least r → False := by
    rintro n least (⟨k, _, _, g, _, g2⟩ | ⟨g, _⟩)
    · exact g ⟨p, hn, h1, by rw [e, g2]⟩
    · exact hr g
  rcases hz with ⟨_, z2⟩ | ⟨_, z2⟩ | ⟨_, _, a, b, num, _, _, zn, zr⟩
  · exact lt z2
  · omega
  · rcases zr with ⟨_, r2⟩ | ⟨_, _, r3⟩
    · have := zn.1
      exact zn.2.2.2.1 ⟨p, hn, h1, by omega, by omega⟩
    · exact lt r3
theorem k_placeOn_g {A : zIT} {K : zLT} {I : zIT} {L : zLT} {F : zFT} {E : zET} {dyn : zH} {J : zIT} {M : zLT} {rs rd : Nat → Nat} {fp : Nat → Option Nat} {d s : Nat} (hS : zRS J M F dyn rs) (hD : zRD J F dyn rd fp) (hP : zRP J dyn rs fp) (hd : (d : Int) < J 14 14) (hd2 : d < 40) (hs : (s : Int) < J 14 7) : X0_placeOn (zM A K I L F E dyn) (some (rd d + 39)) (some (rs s + 39)) = some (zpf J fp d s) := by
  have hc := (hD.1 d hd).2
  have ref : ∀ p : Nat, p < 80 → J 22 p ≠ -1 → ((some (rs (J 22 p).toNat + 39) : Option Nat) = some (rs s + 39) ↔ J 22 p = s) := by
    intro p hp hn
    rcases hP p hp with h | ⟨h1, h2, _⟩
    · exact absurd h.1 hn
    · constructor
      · intro e
        injection e with e
        have := zRS_inj hS (s := (J 22 p).toNat) (t := s) (by omega) hs (by omega)
        omega
      · intro e
        rw [e, Int.toNat_natCast]
  have second : X0_placeOn_j23 (zM A K I L F E dyn) (some (rd d + 39)) (some (rs s + 39)) = some (if J 22 (2 * d + 1) = s then fp (2 * d + 1) else none) := by
    unfold X0_placeOn_j23
    rw [zgDor_2b hc]
    rcases hP (2 * d + 1) (by omega) with ⟨h1, h2⟩ | ⟨h1, h2, r, h3, h4⟩
    · rw [h2, if_pos rfl, if_neg (by omega)]
    · rw [h3, if_neg (fun y => by cases y), zgDor_2b hc, h3, zgPlc_1b h4]
      by_cases c : J 22 (2 * d + 1) = s
      · rw [if_pos ((ref _ (by omega) (by omega)).2 c), if_pos c, zgDor_2b hc, h3]
      · rw [if_neg (fun y => c ((ref _ (by omega) (by omega)).1 y)), if_neg c]
  unfold X0_placeOn zpf
  rw [zgDor_1b hc]
  rcases hP (2 * d) (by omega) with ⟨h1, h2⟩ | ⟨h1, h2, r, h3, h4⟩
  · rw [h2, if_pos rfl, if_neg (by omega), second]
  · rw [h3, if_neg (fun y => by cases y), zgDor_1b hc, h3, zgPlc_1b h4]
    by_cases c : J 22 (2 * d) = s
    · rw [if_pos ((ref _ (by omega) (by omega)).2 c), if_pos c, zgDor_1b hc, h3]
    · rw [if_neg (fun y => c ((ref _ (by omega) (by omega)).1 y)), if_neg c, second]
theorem k_placeOf_g {A : zIT} {K : zLT} {I : zIT} {L : zLT} {F : zFT} {E : zET} {dyn : zH} {J : zIT} {M : zLT} {rs rd : Nat → Nat} {fp : Nat → Option Nat} {d s : Nat} (hS : zRS J M F dyn rs) (hD : zRD J F dyn rd fp) (hP : zRP J dyn rs fp) (hE : ∀ p : Nat, 2 * J 14 14 ≤ (p : Int) → J 22 p = -1) (hd : d < 40) (hs : (s : Int) < J 14 7) : X7_placeOf (zM A K I L F E dyn) (F 2 d) (some (rs s + 39)) = some (zpf J fp d s) := by
  unfold X7_placeOf
  by_cases c : (d : Int) < J 14 14
  · rw [(hD.1 d c).1, if_neg (fun y => by cases y), zoDorb (hD.1 d c).2, k_placeOn_g hS hD hP c hd hs]
    rfl
  · rw [hD.2 d (by omega), if_pos rfl]
    unfold zpf
    rw [hE (2 * d) (by omega), hE (2 * d + 1) (by omega), if_neg (by omega), if_neg (by omega)]
theorem k_enterStep {A : zIT} {K : zLT} {I : zIT} {L : zLT} {F : zFT} {E : zET} {dyn : zH} {J : zIT} {rs rd : Nat → Nat} {fp : Nat → Option Nat} {B more m w r : Int} {s t d i c : Nat} (hb : zB I) (hS : zRS I L F dyn rs) (hD : zRD I F dyn rd fp) (hP : zRP I dyn rs fp) (h5 : zV5 I) (ht : (t : Int) < I 14 7)
    (hc : A 12 1 = c) (hc4 : c ≤ 40) (hi : i < c) (h0 : 0 ≤ A 13 i) (hd : A 13 i % 64 = d) (hd4 : d < 40) (hpo : zpo I d t ≠ -1) (hm : m = I 23 (zpo I d t).toNat + more) (hw : w = I 24 (zpo I d t).toNat) (hr9 : 0 ≤ more ∧ more ≤ 999 ∧ 0 ≤ I 23 (zpo I d t).toNat ∧ I 23 (zpo I d t).toNat ≤ 999)
    (hL : zLgr A J s) (hV : zLV J s B) (hB : B ≤ 90000) (hsd : zsd w) (hf : ∀ p : Nat, p < 80 → J 22 p = s → 0 ≤ J 25 p → p / 2 ≠ d) (hm2 : 0 ≤ m ∧ m ≤ J 17 s) (hz : zcm J s d m w r) :
    X7_enterInOrder_b2 (some 0) (some (rs t + 39)) more ((i : Int), (zM A K I L F E dyn)) = if r = -1 then some (.inr (.inr (zM A K I L F E dyn))) else some (.inl (((i + 1 : Nat) : Int), zM (zLE A d (zfr J s m * 64 + d) (if w = 108 then 1 else 0) r) K I L F E dyn)) := by
  have hr := (zcm_in hV hm2 hz).1
  have hl := hV.2.2.2.1
  unfold X7_enterInOrder_b2
  simp only
  rw [zg_0_4b, zg_12_1b, hc, if_neg (by omega), zg_0_4b, zo_12b, k_doorIn hc hc4 ⟨by omega, by omega⟩ (by rw [Int.toNat_natCast]; exact h0), zb, Int.toNat_natCast, hd, zo_0b]
  rcases k_doorAt (A := A) (K := K) (L := L) (E := E) hb hD (d : Int) with ⟨e, hdr⟩ | ⟨_, hx⟩
  · have e4 := (hD.1 d hdr.2).1
    rw [e, zb, Int.toNat_natCast, ← e4, k_placeOf hb hS hD hP h5 hd4 ht, zb]
    rcases zpf_at (s := t) hP hd4 with ⟨_, z2⟩ | ⟨_, r1, z2, z3⟩
    · exact absurd z2 hpo
    · rw [z2, if_neg (fun y => by cases y), zgPlc_2b z3, ← hm, zckb (by omega) (by omega), zg_0_3b, zgPlc_0b z3, zgPlc_3b z3, ← hw, zo_8b, k_codeFor hL hV hB hsd hf hm2 (by omega) hz, zb]
      unfold zc0
      by_cases c1 : r = -1
      · rw [if_pos c1, if_pos rfl, if_pos c1]
      · rw [if_neg c1, if_neg (by omega), if_neg c1, zg_0_3b, zgPlc_0b z3, zgPlc_3b z3, ← hw, zo_8b, k_enter hL.2.1 hL.2.2.1 hl (by omega) hd4 (by split <;> omega) (by omega), zb, zckb (by omega) (by omega)]
        rfl
  · exfalso
    apply hx
    refine ⟨by omega, ?_⟩
    rcases Int.lt_or_le (d : Int) (I 14 14) with y | y
    · exact y
    · obtain ⟨q1, q2, q3⟩ := zpo_at hpo
      have := h5 (zpo I d t).toNat (by omega)
      omega
theorem w_puts {I J : zIT} {L : zLT} {B B' : Int} {rk : Nat → Nat} {s p d : Nat} {m w r : Int} (hV : zVA I L B rk) (hBB : B ≤ B') (hs : zst I s) (hp : p = 2 * d ∨ p = 2 * d + 1) (hd4 : d < 40) (h2 : (0 ≤ m ∧ m ≤ I 17 s) ∧ zsd w) (hr : 10 ≤ r) (hrB : r / 10 ≤ B') (hnew : ∀ q, q < 80 → I 22 q = s → I 25 q ≠ r)
    (hno : ∀ q : Nat, q / 2 = d → q ≠ p → I 22 q ≠ s) (hold : I 22 p = -1)
    (e22 : ∀ q, J 22 q = if q = p then (s : Int) else I 22 q) (e23 : ∀ q, J 23 q = if q = p then m else I 23 q) (e24 : ∀ q, J 24 q = if q = p then w else I 24 q) (e25 : ∀ q, J 25 q = if q = p then r else I 25 q) (e21 : ∀ t, J 21 t = if t = s then zmax (I 21 s) (r / 10) else I 21 t)
    (ec : ∀ c, 17 ≤ c → c ≤ 20 → J c = I c) (e7 : J 14 7 = I 14 7) :
    zV1 J L B' ∧ zV4 J ∧ zV6 J ∧ zV7 J ∧ zVw J ∧ (zV2 J L) ∧ zV3 J L := by
  have zm : I 21 s ≤ zmax (I 21 s) (r / 10) ∧ r / 10 ≤ zmax (I 21 s) (r / 10) ∧ (zmax (I 21 s) (r / 10) = I 21 s ∨ zmax (I 21 s) (r / 10) = r / 10) := by
    unfold zmax
    split <;> omega
  obtain ⟨v0, v1, v2, v3, v4, v5, v6, v7, v8, va, v9, vt, vw⟩ := hV
  refine ⟨fun t ht => ?_, fun q hq hn => ?_, fun q q' hq hq' hne hn heq => ?_, fun q q' hh hne hn heq => ?_, fun q hq => ?_, fun t ht => ?_, ?_⟩
  · rw [e7] at ht
    obtain ⟨a1, a2, a3, a4, a5, a6, a7, a8, a9⟩ := v1 t ht
    unfold zvStr
    rw [ec 17 (by omega) (by omega), ec 18 (by omega) (by omega), ec 19 (by omega) (by omega), ec 20 (by omega) (by omega), e21]
    refine ⟨a1, a2, a3, a4, a5, a6, a7, a8, ?_⟩
    by_cases c : t = s
    · rw [if_pos c]
      rw [c] at a9
      omega
    · rw [if_neg c]
      omega
  · unfold zvPl
    rw [e7, ec 17 (by omega) (by omega), ec 20 (by omega) (by omega), e22, e23, e24, e25]
    by_cases c : q = p
    · rw [if_pos c, if_pos c, if_pos c, if_pos c, Int.toNat_natCast, e21, if_pos rfl]
      exact ⟨⟨by omega, hs.2.1, hs.2.2⟩, h2.1, h2.2, hr, zm.2.1⟩
    · rw [e22, if_neg c] at hn
      rw [if_neg c, if_neg c, if_neg c, if_neg c]
      obtain ⟨g1, g2, g3, g4, g5⟩ := v4 q hq hn
      refine ⟨g1, g2, g3, g4, ?_⟩
      rw [e21]
      by_cases c2 : (I 22 q).toNat = s
      · rw [if_pos c2]
        rw [c2] at g5
        omega
      · rw [if_neg c2]
        exact g5
  · rw [e22] at hn heq
    rw [e25, e25]
    rw [e22] at heq
    by_cases c : q = p
    · have c' : q' ≠ p := by omega
      rw [if_pos c, if_neg c'] at heq
      rw [if_pos c, if_neg c']
      exact fun y => hnew q' hq' heq.symm y.symm
    · rw [if_neg c] at heq hn
      rw [if_neg c]
      by_cases c' : q' = p
      · rw [if_pos c'] at heq
        rw [if_pos c']
        exact hnew q hq heq
      · rw [if_neg c'] at heq
        rw [if_neg c']
        exact v6 q q' hq hq' hne hn heq
  · rw [e22] at hn heq
    rw [e22] at heq
    by_cases c : q = p
    · have c' : q' ≠ p := by omega
      rw [if_pos c, if_neg c'] at heq
      exact hno q' (by omega) c' heq.symm
    · rw [if_neg c] at heq hn
      by_cases c' : q' = p
      · rw [if_pos c'] at heq
        exact hno q (by omega) c heq
      · rw [if_neg c'] at heq
        exact v7 q q' hh hne hn heq
  · rw [e24]
    split
    · exact zvsd h2.2
    · exact vw q hq
  · rw [e7] at ht
    have hts : t ≠ s := by have := hs.2.1; omega
    rw [ec 20 (by omega) (by omega), e21, if_neg hts]
    exact v2 t ht
  · unfold zV3 at v3 ⊢
    rw [e7, ec 20 (by omega) (by omega)]
    exact v3
theorem w_door {I : zIT} {L : zLT} {B B' : Int} {rk : Nat → Nat} {s : Nat} {m w r : Int} (hV : zVA I L B rk) (hBB : B + 2 ≤ B') (hB2 : 200 ≤ B') (h : zst I s) (h2 : (0 ≤ m ∧ m ≤ I 17 s) ∧ zsd w) (h4 : I 14 14 < 40) (hz : zcm I s (I 14 14).toNat m w r) (hr : r ≠ -1) : zVA (zxd I s m w r) L B' rk := by
  have hLV := zVA_LV hV h.2.1
  obtain ⟨hr1, hr2⟩ := zcm_in hLV h2.1 hz
  have hb := zVA_B hV
  unfold zB at hb
  have hg := hLV.2.2.2.2.1
  have W := w_puts (J := zxd I s m w r) (B' := B') (p := 2 * (I 14 14).toNat) (d := (I 14 14).toNat) (m := m) (w := w) (r := r) hV (by omega) h (Or.inl rfl) (by omega) h2 (by omega) (by omega) (fun q hq h1 => zcm_new hLV hz hr hq h1)
    (fun q hq hne hx => by have := zVA_5 hV q (by omega); omega) (zVA_5 hV _ (by omega)) (fun q => zxd_22) (fun q => zxd_23) (fun q => zxd_24) (fun q => zxd_25) (fun t => zxd_21) (fun c c1 c2 => zxd_c (by omega) (by omega) (by omega)) (zxd_14 (by omega) (by omega))
  obtain ⟨w1, w4, w6, w7, ww, w2, w3⟩ := W
  obtain ⟨v0, v1, v2, v3, v4, v5, v6, v7, v8, va, v9, vt, vw⟩ := hV
  have c26 : zxd I s m w r 26 = I 26 := zxd_c (by omega) (by omega) (by omega)
  refine ⟨?_, w1, w2, w3, w4, fun p hp => ?_, w6, w7, fun d hd => ?_, fun d hd hg6 => ?_, ?_, zVt_cg vt (zxd_14 (by omega) (by omega)) rfl, ww⟩
  · unfold zB
    rw [zxd_1414, zxd_14 (by omega) (by omega), zxd_14 (by omega) (by omega)]
    omega
  · rw [zxd_1414] at hp
    rw [zxd_22, if_neg (by omega)]
    exact v5 p (by omega)
  · obtain ⟨g1, g2, g3, g4⟩ := v8 d hd
    unfold zvDr
    rw [zxd_1414, c26, zxd_22, zxd_22, zxd_27]
    refine ⟨g1, fun y => g2 (by omega), fun y z => ?_, fun y => ?_⟩
    · by_cases c : d = (I 14 14).toNat
      · rw [if_pos (by omega), if_pos c]
        exact ⟨by omega, rfl⟩
      · rw [if_neg (by omega), if_neg c]
        exact g3 (by omega) z
    · have hx := g4 y
      have hlt : (d : Int) < I 14 14 := by
        rcases Int.lt_or_le (d : Int) (I 14 14) with u | u
        · exact u
        · have := g2 u
          omega
      rw [if_neg (by omega), if_neg (by omega)]
      exact hx
  · rw [zxd_1414] at hd ⊢
    rw [c26] at hg6 ⊢
    rw [zxd_27]
    have hlt : (d : Int) < I 14 14 := by
      rcases Int.lt_or_le (d : Int) (I 14 14) with u | u
      · exact u
      · exact absurd ((v8 d (by omega)).2.1 u) hg6
    rw [if_neg (by omega)]
    have := va d hlt hg6
    refine ⟨this.1, ?_⟩
    rcases this.2 with u | u
    · exact Or.inl u
    · exact Or.inr ⟨u.1, by omega, u.2.2⟩
  · intro k hk
    rw [zxd_14 (by omega) (by omega)] at hk
    rw [zxd_1414, zxd_c (by omega) (by omega) (by omega)]
    have := v9 k hk
    exact ⟨this.1, this.2.1, this.2.2.1, by omega⟩
theorem w_corner {I : zIT} {L : zLT} {B B' : Int} {rk : Nat → Nat} {s d : Nat} {m w r : Int} (hV : zVA I L B rk) (hBB : B + 2 ≤ B') (hB2 : 200 ≤ B') (h : zdr I d ∧ zst I s) (h2 : (0 ≤ m ∧ m ≤ I 17 s) ∧ zsd w) (hc : zcan I d s) (hz : zcm I s d m w r) (hr : r ≠ -1) : zVA (zputs (zu I 14 29 0) (2 * d + 1) s m w r) L B' rk := by
  have hLV := zVA_LV hV h.2.2.1
  obtain ⟨hr1, hr2⟩ := zcm_in hLV h2.1 hz
  have hb := zVA_B hV
  unfold zB at hb
  have hd := h.1.2
  have hg := hLV.2.2.2.2.1
  have ec : ∀ c, c ≠ 14 → (c < 21 ∨ 25 < c) → zputs (zu I 14 29 0) (2 * d + 1) s m w r c = I c := fun c h1 h2 => by
    rw [zputs_c h2, zu_c h1]
  have e14 : ∀ j, j ≠ 29 → zputs (zu I 14 29 0) (2 * d + 1) s m w r 14 j = I 14 j := fun j hj => by
    rw [zputs_c (by omega), zu_j, if_neg hj]
  have W := w_puts (J := zputs (zu I 14 29 0) (2 * d + 1) s m w r) (B' := B') (p := 2 * d + 1) (d := d) (m := m) (w := w) (r := r) hV (by omega) h.2 (Or.inr rfl) (by omega) h2 (by omega) (by omega) (fun q hq h1 => zcm_new hLV hz hr hq h1)
    (fun q hq hne hx => by
      have e : q = 2 * d := by omega
      rw [e] at hx
      exact hc.2.2 hx) hc.2.1 (fun q => by rw [zputs_22, zu_c (by omega)]) (fun q => by rw [zputs_23, zu_c (by omega)]) (fun q => by rw [zputs_24, zu_c (by omega)]) (fun q => by rw [zputs_25, zu_c (by omega)]) (fun t => by rw [zputs_21, zu_c (by omega), zmax_e]) (fun c c1 c2 => ec c (by omega) (by omega)) (e14 7 (by omega))
  obtain ⟨w1, w4, w6, w7, ww, w2, w3⟩ := W
  obtain ⟨v0, v1, v2, v3, v4, v5, v6, v7, v8, va, v9, vt, vw⟩ := hV
  refine ⟨?_, w1, w2, w3, w4, fun p hp => ?_, w6, w7, fun d' hd' => ?_, ?_, ?_, zVt_cg vt (e14 27 (by omega)) rfl, ww⟩
  · unfold zB
    rw [e14 7 (by omega), e14 14 (by omega), e14 19 (by omega)]
    exact v0
  · rw [e14 14 (by omega)] at hp
    rw [zputs_22, if_neg (by omega), zu_c (by omega)]
    exact v5 p hp
  · obtain ⟨g1, g2, g3, g4⟩ := v8 d' hd'
    unfold zvDr
    rw [e14 14 (by omega), ec 26 (by omega) (by omega), ec 27 (by omega) (by omega), zputs_22, zputs_22, zu_c (by omega), if_neg (by omega)]
    refine ⟨g1, g2, g3, fun y => ?_⟩
    have hne : d' ≠ d := by
      rintro rfl
      have := hc.1
      omega
    rw [if_neg (by omega)]
    exact g4 y
  · unfold zacy at va ⊢
    rw [e14 14 (by omega), ec 26 (by omega) (by omega), ec 27 (by omega) (by omega)]
    exact va
  · unfold zV9 at v9 ⊢
    rw [e14 14 (by omega), e14 19 (by omega), ec 30 (by omega) (by omega)]
    exact v9
