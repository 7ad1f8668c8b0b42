-- ===== validity after a door is gone =====
def zrkb (I : zIT) (rk : Nat → Nat) : Prop := ∀ d : Nat, (d : Int) < I 14 14 → I 26 d ≠ 0 → (rk d : Int) < zgc I (I 14 14).toNat
theorem zsum_one {f g : Nat → Int} {k : Nat} : ∀ n, k < n → (∀ i, i < n → i ≠ k → f i = g i) → zsum f n = zsum g n + (f k - g k)
  | 0, h, _ => absurd h (Nat.not_lt_zero k)
  | n + 1, h, hh => by
    simp only [zsum]
    by_cases c : k = n
    · subst c
      rw [zsum_congr (fun i hi => hh i (by omega) (by omega))]
      omega
    · rw [zsum_one n (by omega) (fun i hi hne => hh i (by omega) hne), hh n (by omega) (fun y => c y.symm)]
      omega
theorem zgd_lv {x : zIT × zLT} {n : Int} {p : Nat} (h : zgd x n) (h19 : 0 ≤ x.1 14 19 ∧ x.1 14 19 ≤ 200) (hv : x.1 22 p ≠ -1 → zvn (x.2 15 (x.1 22 p).toNat) ∧ zvn (x.2 16 (x.1 22 p).toNat)) (hp : x.1 22 p ≠ -1 → ((p / 2 : Nat) : Int) < n) : zgd (zlv x p) n := by
  by_cases c : x.1 22 p = -1
  · unfold zlv
    rw [if_pos c]
    exact h
  · have g := zgd_lg [(x.2 15 (x.1 22 p).toNat, x.1 25 p, ((p / 2 : Nat) : Int)), (x.2 16 (x.1 22 p).toNat, x.1 25 p, ((p / 2 : Nat) : Int))] x h h19 (fun r hr => by
      have hn := hp c
      rcases List.mem_cons.1 hr with e | hr
      · rw [e]
        exact ⟨(hv c).1, by simp only; omega, hn⟩
      · rw [List.mem_singleton.1 hr]
        exact ⟨(hv c).2, by simp only; omega, hn⟩)
    intro k hk
    have := g k
    unfold zlv at hk ⊢
    rw [if_neg c] at hk ⊢
    simp only at hk ⊢
    rw [zu_c (by omega), zu_c (by omega)] at hk
    rw [zu_c (by omega), zu_c (by omega)]
    exact this hk
theorem w_go {I : zIT} {L : zLT} {B : Int} {rk : Nat → Nat} {d : Nat} {to : Int} (hV : zVA I L B rk) (hk : zrkb I rk) (hd : (d : Int) < I 14 14) (h0 : I 26 d = 0) (hto : to = -2 ∨ (0 ≤ to ∧ to < I 14 14 ∧ to ≠ d ∧ I 26 to.toNat = 0)) :
    zVA (zgo (zu I 14 29 0, L) d to).1 (zgo (zu I 14 29 0, L) d to).2 B (zup rk d (zgc I (I 14 14).toNat).toNat) ∧ zrkb (zgo (zu I 14 29 0, L) d to).1 (zup rk d (zgc I (I 14 14).toNat).toNat) := by
  have hb := zVA_B hV
  have hb0 := hb
  unfold zB at hb
  have ec : ∀ c, (c < 29 ∨ 31 < c) → c ≠ 14 → c ≠ 22 → c ≠ 25 → c ≠ 26 → c ≠ 27 → (zgo (zu I 14 29 0, L) d to).1 c = I c := fun c c1 c2 c3 c4 c5 c6 => by
    unfold zgo
    simp only
    rw [zu_c c6, zu_c c5, zlv_o c1 c2 c3 c4, zlv_o c1 c2 c3 c4]
    simp only
    rw [zu_c c2]
  have e14 : ∀ j, j ≠ 19 → j ≠ 29 → (zgo (zu I 14 29 0, L) d to).1 14 j = I 14 j := fun j j1 j2 => by
    rw [zgo_14 j1]
    simp only
    rw [zu_j, if_neg j2]
  have eL : ∀ c, c ≠ 28 → (zgo (zu I 14 29 0, L) d to).2 c = L c := fun c c1 => by
    unfold zgo
    simp only
    rw [zlv_L c1, zlv_L c1]
  have e26 : ∀ t, (zgo (zu I 14 29 0, L) d to).1 26 t = if t = d then 1 else I 26 t := fun t => by
    unfold zgo
    simp only
    rw [zu_c (by omega), zu_j, zlv_o (by omega) (by omega) (by omega) (by omega), zlv_o (by omega) (by omega) (by omega) (by omega)]
    simp only
    rw [zu_c (by omega)]
  have e27 : ∀ t, (zgo (zu I 14 29 0, L) d to).1 27 t = if t = d then to else I 27 t := fun t => by
    unfold zgo
    simp only
    rw [zu_j, zu_c (by omega), zlv_o (by omega) (by omega) (by omega) (by omega), zlv_o (by omega) (by omega) (by omega) (by omega)]
    simp only
    rw [zu_c (by omega)]
  have eq1 : ∀ p, p / 2 ≠ d → (zgo (zu I 14 29 0, L) d to).1 22 p = I 22 p ∧ (zgo (zu I 14 29 0, L) d to).1 25 p = I 25 p := fun p hp => by
    unfold zgo
    simp only
    have a1 := zlv_q (x := zlv (zu I 14 29 0, L) (2 * d)) (p := 2 * d + 1) (q := p) (by omega)
    have a2 := zlv_q (x := (zu I 14 29 0, L)) (p := 2 * d) (q := p) (by omega)
    simp only at a2
    rw [zu_c (by omega), zu_c (by omega), a1.1, a2.1, zu_c (by omega), zu_c (by omega), zu_c (by omega), a1.2, a2.2, zu_c (by omega)]
    exact ⟨rfl, rfl⟩
  have eq2 : ∀ p, p / 2 = d → (zgo (zu I 14 29 0, L) d to).1 22 p = -1 := fun p hp => by
    unfold zgo
    simp only
    rw [zu_c (by omega), zu_c (by omega)]
    rcases show p = 2 * d ∨ p = 2 * d + 1 by omega with rfl | rfl
    · rw [(zlv_q (by omega)).1]
      exact zlv_p
    · exact zlv_p
  have gl : zgd (zlv (zlv (zu I 14 29 0, L) (2 * d)) (2 * d + 1)) (I 14 14) := by
    have b19 : 0 ≤ (zu I 14 29 0, L).1 14 19 ∧ (zu I 14 29 0, L).1 14 19 ≤ 200 := hb.2.2
    have nv : ∀ p : Nat, p < 80 → I 22 p ≠ -1 → zvn (L 15 (I 22 p).toNat) ∧ zvn (L 16 (I 22 p).toNat) := fun p hp hn => by
      have g := (zVA_4 hV p hp hn).1
      have hv := zVA_1 hV (I 22 p).toNat (by omega)
      exact ⟨hv.1, hv.2.1⟩
    have e22 : zu I 14 29 0 22 = I 22 := zu_c (by omega)
    refine zgd_lv (zgd_lv (zVA_9 hV) b19 ?_ ?_) (zlv_19 b19) ?_ ?_
    · simp only
      rw [e22]
      exact nv (2 * d) (by omega)
    · exact fun _ => by omega
    · rw [(zlv_q (by omega)).1, zlv_L (by omega), zlv_L (by omega)]
      simp only
      rw [e22]
      exact nv (2 * d + 1) (by omega)
    · exact fun _ => by omega
  have egc : zgc (zgo (zu I 14 29 0, L) d to).1 (I 14 14).toNat = zgc I (I 14 14).toNat + 1 := by
    unfold zgc
    rw [zsum_one (k := d) (g := fun d => if I 26 d = 0 then 0 else 1) (I 14 14).toNat (by omega) (fun i hi hne => by rw [e26, if_neg hne])]
    rw [e26, if_pos rfl, h0]
    rfl
  have hgc := zgc_in (I := (zgo (zu I 14 29 0, L) d to).1) (I 14 14).toNat
  have hgc0 := zgc_in (I := I) (I 14 14).toNat
  obtain ⟨v0, v1, v2, v3, v4, v5, v6, v7, v8, va, v9, vt, vw⟩ := hV
  refine ⟨⟨zgo_B hb0, fun t ht => ?_, ?_, ?_, fun p hp hn => ?_, fun p hp => ?_, fun p q hp hq hne hn heq => ?_, fun p q hh hne hn heq => ?_, fun t ht => ?_, fun t ht hg => ?_, fun k hk' => ?_, ?_, ?_⟩, fun t ht hg => ?_⟩
  · rw [e14 7 (by omega) (by omega)] at ht
    unfold zvStr
    rw [ec 17 (by omega) (by omega) (by omega) (by omega) (by omega) (by omega), ec 18 (by omega) (by omega) (by omega) (by omega) (by omega) (by omega), ec 19 (by omega) (by omega) (by omega) (by omega) (by omega) (by omega), ec 20 (by omega) (by omega) (by omega) (by omega) (by omega) (by omega), ec 21 (by omega) (by omega) (by omega) (by omega) (by omega) (by omega), eL 15 (by omega), eL 16 (by omega)]
    exact v1 t ht
  · unfold zV2 at v2 ⊢
    rw [e14 7 (by omega) (by omega), ec 20 (by omega) (by omega) (by omega) (by omega) (by omega) (by omega), ec 21 (by omega) (by omega) (by omega) (by omega) (by omega) (by omega), eL 16 (by omega)]
    exact v2
  · unfold zV3 at v3 ⊢
    rw [e14 7 (by omega) (by omega), ec 20 (by omega) (by omega) (by omega) (by omega) (by omega) (by omega), eL 15 (by omega), eL 16 (by omega)]
    exact v3
  · by_cases c : p / 2 = d
    · exact absurd (eq2 p c) hn
    · rw [(eq1 p c).1] at hn
      unfold zvPl
      rw [(eq1 p c).1, (eq1 p c).2, e14 7 (by omega) (by omega), ec 17 (by omega) (by omega) (by omega) (by omega) (by omega) (by omega), ec 20 (by omega) (by omega) (by omega) (by omega) (by omega) (by omega), ec 21 (by omega) (by omega) (by omega) (by omega) (by omega) (by omega), ec 23 (by omega) (by omega) (by omega) (by omega) (by omega) (by omega), ec 24 (by omega) (by omega) (by omega) (by omega) (by omega) (by omega)]
      exact v4 p hp hn
  · rw [e14 14 (by omega) (by omega)] at hp
    by_cases c : p / 2 = d
    · exact eq2 p c
    · rw [(eq1 p c).1]
      exact v5 p hp
  · by_cases c : p / 2 = d
    · exact absurd (eq2 p c) hn
    · by_cases c' : q / 2 = d
      · rw [eq2 q c'] at heq
        exact absurd heq hn
      · rw [(eq1 p c).1] at hn heq
        rw [(eq1 q c').1] at heq
        rw [(eq1 p c).2, (eq1 q c').2]
        exact v6 p q hp hq hne hn heq
  · by_cases c : p / 2 = d
    · exact absurd (eq2 p c) hn
    · have c' : q / 2 ≠ d := by omega
      rw [(eq1 p c).1] at hn heq
      rw [(eq1 q c').1] at heq
      exact v7 p q hh hne hn heq
  · obtain ⟨g1, g2, g3, g4⟩ := v8 t ht
    unfold zvDr
    rw [e14 14 (by omega) (by omega), e26, e27]
    by_cases c : t = d
    · rw [if_pos c, if_pos c]
      exact ⟨Or.inr rfl, fun y => by omega, fun _ y => by omega, fun _ => ⟨eq2 _ (by omega), eq2 _ (by omega)⟩⟩
    · rw [if_neg c, if_neg c, (eq1 (2 * t) (by omega)).1, (eq1 (2 * t + 1) (by omega)).1]
      exact ⟨g1, g2, g3, g4⟩
  · rw [e14 14 (by omega) (by omega)] at ht ⊢
    rw [e26] at hg ⊢
    rw [e27]
    by_cases c : t = d
    · rw [if_pos c, zup_y c]
      refine ⟨by omega, ?_⟩
      rcases hto with y | ⟨y1, y2, y3, y4⟩
      · exact Or.inl y
      · refine Or.inr ⟨y1, y2, fun z => ?_⟩
        rw [if_neg (by omega)] at z
        exact absurd y4 z
    · rw [if_neg c] at hg ⊢
      rw [zup_n c]
      have h := va t ht hg
      refine ⟨h.1, ?_⟩
      rcases h.2 with y | ⟨y1, y2, y3⟩
      · exact Or.inl y
      · refine Or.inr ⟨y1, y2, fun z => ?_⟩
        by_cases c2 : (I 27 t).toNat = d
        · rw [zup_y c2]
          have := hk t ht hg
          omega
        · rw [zup_n c2]
          rw [if_neg c2] at z
          exact y3 z
  · rw [e14 14 (by omega) (by omega)]
    have hx : (k : Int) < (zlv (zlv (zu I 14 29 0, L) (2 * d)) (2 * d + 1)).1 14 19 := by
      have e : (zgo (zu I 14 29 0, L) d to).1 14 19 = (zlv (zlv (zu I 14 29 0, L) (2 * d)) (2 * d + 1)).1 14 19 := by
        unfold zgo
        simp only
        rw [zu_c (by omega), zu_c (by omega)]
      rw [← e]
      exact hk'
    have := gl k hx
    unfold zgo
    simp only
    rw [zu_c (by omega), zu_c (by omega)]
    exact this
  · exact zVt_cg vt (e14 27 (by omega) (by omega)) (by rw [eL 14 (by omega)])
  · unfold zVw at vw ⊢
    rw [ec 24 (by omega) (by omega) (by omega) (by omega) (by omega) (by omega)]
    exact vw
  · rw [e14 14 (by omega) (by omega)] at ht ⊢
    rw [e26] at hg
    rw [egc]
    by_cases c : t = d
    · rw [zup_y c]
      omega
    · rw [if_neg c] at hg
      rw [zup_n c]
      have := hk t ht hg
      omega
