-- ===== renumber, both =====
def zJ0 (I : zIT) (s : Nat) : zIT := znc 80 (zu (zkp 80 (zu I 14 29 0)) 21 s 0) s
theorem zkp_c {k c : Nat} {I : zIT} (h : c < 32 ∨ 35 < c) : zkp k I c = I c := by
  funext j
  exact if_neg (fun y => by omega)
theorem zJ0_c {I : zIT} {s c : Nat} (h : c < 32) (h1 : c ≠ 14) (h2 : c ≠ 21) (h3 : c ≠ 25) : zJ0 I s c = I c := by
  unfold zJ0
  rw [znc_c h3, zu_c h2, zkp_c (by omega), zu_c h1]
theorem zJ0_14 {I : zIT} {s j : Nat} : zJ0 I s 14 j = if j = 29 then 0 else I 14 j := by
  unfold zJ0
  rw [znc_c (by omega), zu_c (by omega), zkp_c (by omega), zu_j]
theorem zJ0_21 {I : zIT} {s t : Nat} : zJ0 I s 21 t = if t = s then 0 else I 21 t := by
  unfold zJ0
  rw [znc_c (by omega), zu_j, zkp_c (by omega), zu_c (by omega)]
theorem zJ0_25 {I : zIT} {s p : Nat} : zJ0 I s 25 p = if p < 80 ∧ I 22 p = s then -1 else I 25 p := by
  unfold zJ0
  have e22 : zu (zkp 80 (zu I 14 29 0)) 21 s 0 22 = I 22 := by
    rw [zu_c (by omega), zkp_c (by omega), zu_c (by omega)]
  have e25 : zu (zkp 80 (zu I 14 29 0)) 21 s 0 25 = I 25 := by
    rw [zu_c (by omega), zkp_c (by omega), zu_c (by omega)]
  show (if 25 = 25 ∧ p < 80 ∧ zu (zkp 80 (zu I 14 29 0)) 21 s 0 22 p = s then -1 else zu (zkp 80 (zu I 14 29 0)) 21 s 0 25 p) = _
  rw [e22, e25]
  by_cases c : p < 80 ∧ I 22 p = s
  · rw [if_pos ⟨rfl, c⟩, if_pos c]
  · rw [if_neg (fun y => c y.2), if_neg c]
theorem zJ0_k {I : zIT} {s k p : Nat} (h : 22 ≤ k ∧ k ≤ 25) (hp : p < 80) : zJ0 I s (k + 10) p = I k p := by
  unfold zJ0
  rw [znc_c (by omega), zu_c (by omega)]
  have e : zkp 80 (zu I 14 29 0) (k + 10) p = zu I 14 29 0 (k + 10 - 10) p := if_pos ⟨by omega, hp⟩
  rw [e, show k + 10 - 10 = k by omega, zu_c (by omega)]
theorem zrr_L {I J : zIT} {L L' : zLT} {s : Nat} (h1 : L' 15 = L 15) (h2 : L' 16 = L 16) : ∀ n, zrr I J L' s n = zrr I J L s n
  | 0 => rfl
  | n + 1 => by
    show zrr I J L' s n ++ (if zpo I n s = -1 then [] else if J 25 (zpo I n s).toNat = I 25 (zpo I n s).toNat then [] else [(L' 15 s, I 25 (zpo I n s).toNat, (n : Int)), (L' 16 s, I 25 (zpo I n s).toNat, (n : Int))]) = zrr I J L s n ++ (if zpo I n s = -1 then [] else if J 25 (zpo I n s).toNat = I 25 (zpo I n s).toNat then [] else [(L 15 s, I 25 (zpo I n s).toNat, (n : Int)), (L 16 s, I 25 (zpo I n s).toNat, (n : Int))])
    rw [zrr_L h1 h2 n, h1, h2]
def zrF (I : zIT) (s : Nat) : zIT := zu (zgb 80 (zu (zJ0 I s) 14 29 2)) 21 s (I 21 s)
theorem zgb_fix {I J0 J : zIT} {s : Nat} (h : zRJ J0 J s) (h0 : ∀ p, ¬ p < 80 → J0 22 p ≠ s) : zu (zgb 80 (zu J 14 29 2)) 21 s (I 21 s) = zu (zgb 80 (zu J0 14 29 2)) 21 s (I 21 s) := by
  obtain ⟨h1, h2, h3⟩ := h
  funext c p
  show (if c = 21 ∧ p = s then I 21 s else if (c = 22 ∨ c = 23 ∨ c = 24 ∨ c = 25) ∧ p < 80 then zu J 14 29 2 (c + 10) p else if c = 14 ∧ p = 29 then 2 else J c p) = (if c = 21 ∧ p = s then I 21 s else if (c = 22 ∨ c = 23 ∨ c = 24 ∨ c = 25) ∧ p < 80 then zu J0 14 29 2 (c + 10) p else if c = 14 ∧ p = 29 then 2 else J0 c p)
  by_cases c1 : c = 21 ∧ p = s
  · rw [if_pos c1, if_pos c1]
  · rw [if_neg c1, if_neg c1]
    by_cases c2 : (c = 22 ∨ c = 23 ∨ c = 24 ∨ c = 25) ∧ p < 80
    · rw [if_pos c2, if_pos c2, zu_c (by omega), zu_c (by omega), h1 (c + 10) (by omega) (by omega)]
    · rw [if_neg c2, if_neg c2]
      by_cases c3 : c = 14 ∧ p = 29
      · rw [if_pos c3, if_pos c3]
      · rw [if_neg c3, if_neg c3]
        by_cases c4 : c = 21
        · rw [c4]
          exact h2 p (fun y => c1 ⟨c4, y⟩)
        · by_cases c5 : c = 25
          · rw [c5]
            exact h3 p (h0 p (fun y => c2 ⟨Or.inr (Or.inr (Or.inr c5)), y⟩))
          · rw [h1 c c4 c5]
theorem zrF_e {I : zIT} {s : Nat} (h5 : zV5 I) (hb : zB I) : zIe I (zrF I s) ∧ zrF I s 14 29 = 2 ∧ zrF I s 14 27 = I 14 27 := by
  unfold zB at hb
  have e14 : ∀ j, j ≠ 29 → zrF I s 14 j = I 14 j := fun j hj => by
    unfold zrF
    rw [zu_c (by omega)]
    show (if (14 = 22 ∨ 14 = 23 ∨ 14 = 24 ∨ 14 = 25) ∧ j < 80 then _ else zu (zJ0 I s) 14 29 2 14 j) = _
    rw [if_neg (fun y => by omega), zu_j, if_neg hj, zJ0_14, if_neg hj]
  refine ⟨⟨fun c c1 c2 => ?_, e14 7 (by omega), e14 14 (by omega), e14 19 (by omega), e14 28 (by omega)⟩, rfl, e14 27 (by omega)⟩
  funext p
  unfold zrF
  by_cases c3 : c = 21
  · subst c3
    rw [zu_j]
    by_cases c4 : p = s
    · rw [if_pos c4, c4]
    · rw [if_neg c4]
      show (if (21 = 22 ∨ 21 = 23 ∨ 21 = 24 ∨ 21 = 25) ∧ p < 80 then _ else zu (zJ0 I s) 14 29 2 21 p) = _
      rw [if_neg (fun y => by omega), zu_c (by omega), zJ0_21, if_neg c4]
  · rw [zu_c c3]
    show (if (c = 22 ∨ c = 23 ∨ c = 24 ∨ c = 25) ∧ p < 80 then zu (zJ0 I s) 14 29 2 (c + 10) p else zu (zJ0 I s) 14 29 2 c p) = _
    by_cases c4 : (c = 22 ∨ c = 23 ∨ c = 24 ∨ c = 25) ∧ p < 80
    · rw [if_pos c4, zu_c (by omega), zJ0_k (by omega) c4.2]
    · rw [if_neg c4, zu_c (by omega)]
      by_cases c5 : c = 25
      · subst c5
        rw [zJ0_25, if_neg (fun y => c4 ⟨by omega, y.1⟩)]
      · rw [zJ0_c (by omega) (by omega) c3 c5]
theorem k_renumber_1 {A : zIT} {K : zLT} {I : zIT} {L : zLT} {F : zFT} {E : zET} {dyn : zH} {rs : Nat → Nat} {s : Int} (hb : zB I) (hS : zRS I L F dyn rs) (h : ¬ zst I s) : X7_renumber (zM A K I L F E dyn) (some 0) s = some (.inr 3, (zM A K I L F E dyn)) := by
  unfold X7_renumber
  rw [zo_0b]
  rcases k_standing (A := A) (K := K) (E := E) hb hS s with ⟨_, hx⟩ | ⟨e, _⟩
  · exact absurd hx h
  · rw [e, zb]
theorem m_renumber_1 {A : zIT} {K : zLT} {I : zIT} {L : zLT} {F : zFT} {E : zET} {dyn : zH} {s : Int} (hb : zB I) (h : ¬ zst I s) : X8_renumber (zM A K I L F E dyn) (some 14) s = some (0, zM A K (zu I 14 29 1) L F E dyn) := by
  unfold X8_renumber
  rw [zo_14b, zbl_0 (m_isStreet hb s) h, zb, zo_14b, m_nob0]
  simp only
  rw [if_neg (by omega)]
theorem m_renumber_s {A : zIT} {K : zLT} {I : zIT} {L : zLT} {F : zFT} {E : zET} {dyn : zH} {s : Nat} (hb : zB I) (h : zst I s) (h4 : zVw I) (hl : 0 ≤ I 17 s ∧ I 17 s ≤ 999) (hP : ∀ p, p < 80 → I 22 p = s → 0 ≤ I 23 p ∧ I 23 p ≤ 999) :
    ∃ p, znt (zJ0 I s) s (znu (zJ0 I s) s) (if I 18 s = 121 then 1 else 0) (2 * I 14 14).toNat p ∧ X8_renumber (zM A K I L F E dyn) (some 14) (s : Int) = (zloop (X8_renumber_b98 (some 14) (s : Int) (I 21 s)) zN (1, p, zM A K (zJ0 I s) L F E dyn)).bind fun e30 =>
      ((zobj e30.2 (some 14) 9).bind fun _ => X8_no e30.2 (some 14) e30.1 2).bind fun x48 =>
      if x48.1 = 0 then
        (zloop (X8_renumber_b225 (some 14) (s : Int)) zN (0, 0, x48.2)).bind fun e52 => some (e52.1, e52.2)
      else
        ((zobj x48.2 (some 14) 9).bind fun _ => X8_givesBack x48.2 (some 14)).bind fun x73 =>
        (zgR x73 (some 14) 9 6).bind fun v74 => (zsI x73 0 v74 (s : Int) (I 21 s)).bind fun h75 => some (0, h75) := by
  have h12 := zst_12 hb h
  have w0 : ∀ p, p < 80 → 0 ≤ (zu I 14 29 0) 24 p ∧ (zu I 14 29 0) 24 p ≤ 65535 := by
    rw [zu_c (by omega)]
    exact h4
  have e21 : zkp 80 (zu I 14 29 0) 21 = I 21 := by rw [zkp_c (by omega), zu_c (by omega)]
  have b0 : zB (zJ0 I s) := by
    unfold zB at hb ⊢
    rw [zJ0_14, zJ0_14, zJ0_14, if_neg (by omega), if_neg (by omega), if_neg (by omega)]
    exact hb
  have e17 : zJ0 I s 17 = I 17 := zJ0_c (by omega) (by omega) (by omega) (by omega)
  have e18 : zJ0 I s 18 = I 18 := zJ0_c (by omega) (by omega) (by omega) (by omega)
  have e22 : zJ0 I s 22 = I 22 := zJ0_c (by omega) (by omega) (by omega) (by omega)
  have e23 : zJ0 I s 23 = I 23 := zJ0_c (by omega) (by omega) (by omega) (by omega)
  have e14 : zJ0 I s 14 14 = I 14 14 := by rw [zJ0_14, if_neg (by omega)]
  have nx := fun b => m_next (A := A) (K := K) (I := zJ0 I s) (L := L) (F := F) (E := E) (dyn := dyn) (b := b) b0 h12 (by rw [e17]; exact hl) (by rw [e22, e23]; exact hP)
  unfold X8_renumber
  rw [zo_14b, zbl_1 (m_isStreet hb s) h, zb, zo_14b, m_nob1]
  simp only
  rw [if_pos trivial, zo_14b, m_keeps w0, zb, zg_14_6b, za_21b (by omega) (by omega), zg_14_6b, zs_21b (by omega) (by omega), Int.toNat_natCast, e21, m_ren35, zb]
  have hJ : znc 80 (zu (zkp 80 (zu I 14 29 0)) 21 s 0) s = zJ0 I s := rfl
  rw [hJ, zg_14_3b, za_18b (by omega) (by omega), Int.toNat_natCast, e18]
  by_cases c : I 18 s = 121
  · obtain ⟨p, e, hp⟩ := nx 1
    rw [e14] at hp
    rw [if_pos c, if_pos c]
    refine ⟨p, hp, ?_⟩
    unfold X8_renumber_j93
    rw [zo_14b, e, zb]
  · obtain ⟨p, e, hp⟩ := nx 0
    rw [e14] at hp
    rw [if_neg c, if_neg c]
    refine ⟨p, hp, ?_⟩
    unfold X8_renumber_j93
    rw [zo_14b, e, zb]
