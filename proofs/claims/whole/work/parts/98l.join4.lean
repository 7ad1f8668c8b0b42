-- ===== join, both: the parts around the loops =====
def zJ1 (I : zIT) (s : Nat) (len : Int) : zIT := zu (zkp 80 (zu I 14 29 0)) 17 s len
theorem zJ1_c {I : zIT} {s c : Nat} {len : Int} (h : c < 32) (h1 : c ≠ 14) (h2 : c ≠ 17) : zJ1 I s len c = I c := by
  unfold zJ1
  rw [zu_c h2, zkp_c (by omega), zu_c h1]
theorem zJ1_14 {I : zIT} {s j : Nat} {len : Int} : zJ1 I s len 14 j = if j = 29 then 0 else I 14 j := by
  unfold zJ1
  rw [zu_c (by omega), zkp_c (by omega), zu_j]
theorem zJ1_17 {I : zIT} {s t : Nat} {len : Int} : zJ1 I s len 17 t = if t = s then len else I 17 t := by
  unfold zJ1
  rw [zu_j, zkp_c (by omega), zu_c (by omega)]
theorem zJ1_k {I : zIT} {s k p : Nat} {len : Int} (h : 22 ≤ k ∧ k ≤ 25) (hp : p < 80) : zJ1 I s len (k + 10) p = I k p := by
  unfold zJ1
  rw [zu_c (by omega)]
  have e : zkp 80 (zu I 14 29 0) (k + 10) p = zu I 14 29 0 (k + 10 - 10) p := if_pos ⟨by omega, hp⟩
  rw [e, show k + 10 - 10 = k by omega, zu_c (by omega)]
def zjF (I : zIT) (s : Nat) (len : Int) : zIT := zu (zu (zgb 80 (zu (zJ1 I s len) 14 29 3)) 21 s (I 21 s)) 17 s (I 17 s)
theorem zgb_fix2 {I J0 J : zIT} {s : Nat} (h : zJW J0 J s) : zu (zu (zgb 80 (zu J 14 29 3)) 21 s (I 21 s)) 17 s (I 17 s) = zu (zu (zgb 80 (zu J0 14 29 3)) 21 s (I 21 s)) 17 s (I 17 s) := by
  obtain ⟨h1, h2, h3⟩ := h
  funext c p
  show (if c = 17 ∧ p = s then I 17 s else if c = 21 ∧ p = s then I 21 s else if (c = 22 ∨ c = 23 ∨ c = 24 ∨ c = 25) ∧ p < 80 then zu J 14 29 3 (c + 10) p else if c = 14 ∧ p = 29 then 3 else J c p) = (if c = 17 ∧ p = s then I 17 s else if c = 21 ∧ p = s then I 21 s else if (c = 22 ∨ c = 23 ∨ c = 24 ∨ c = 25) ∧ p < 80 then zu J0 14 29 3 (c + 10) p else if c = 14 ∧ p = 29 then 3 else J0 c p)
  by_cases c0 : c = 17 ∧ p = s
  · rw [if_pos c0, if_pos c0]
  · rw [if_neg c0, if_neg c0]
    by_cases c1 : c = 21 ∧ p = s
    · rw [if_pos c1, if_pos c1]
    · rw [if_neg c1, if_neg c1]
      by_cases c2 : (c = 22 ∨ c = 23 ∨ c = 24 ∨ c = 25) ∧ p < 80
      · rw [if_pos c2, if_pos c2, zu_c (by omega), zu_c (by omega), h1 (c + 10) (by omega)]
      · rw [if_neg c2, if_neg c2]
        by_cases c3 : c = 14 ∧ p = 29
        · rw [if_pos c3, if_pos c3]
        · rw [if_neg c3, if_neg c3]
          by_cases c4 : c = 21
          · rw [c4]
            exact h2 p (fun y => c1 ⟨c4, y⟩)
          · by_cases c5 : c < 21 ∨ 25 < c
            · rw [h1 c c5]
            · exact h3 c p (by omega) (by omega) (fun y => c2 ⟨by omega, y⟩)
theorem zjF_e {I : zIT} {s : Nat} {len : Int} : zIe I (zjF I s len) ∧ zjF I s len 14 29 = 3 ∧ zjF I s len 14 27 = I 14 27 := by
  have e14 : ∀ j, j ≠ 29 → zjF I s len 14 j = I 14 j := fun j hj => by
    unfold zjF
    rw [zu_c (by omega), zu_c (by omega)]
    show (if (14 = 22 ∨ 14 = 23 ∨ 14 = 24 ∨ 14 = 25) ∧ j < 80 then _ else zu (zJ1 I s len) 14 29 3 14 j) = _
    rw [if_neg (fun y => by omega), zu_j, if_neg hj, zJ1_14, if_neg hj]
  refine ⟨⟨fun c c1 c2 => ?_, e14 7 (by omega), e14 14 (by omega), e14 19 (by omega), e14 28 (by omega)⟩, rfl, e14 27 (by omega)⟩
  funext p
  show (if c = 17 ∧ p = s then I 17 s else if c = 21 ∧ p = s then I 21 s else if (c = 22 ∨ c = 23 ∨ c = 24 ∨ c = 25) ∧ p < 80 then zu (zJ1 I s len) 14 29 3 (c + 10) p else if c = 14 ∧ p = 29 then 3 else zJ1 I s len c p) = I c p
  by_cases c0 : c = 17 ∧ p = s
  · rw [if_pos c0, c0.1, c0.2]
  · rw [if_neg c0]
    by_cases c3 : c = 21 ∧ p = s
    · rw [if_pos c3, c3.1, c3.2]
    · rw [if_neg c3]
      by_cases c4 : (c = 22 ∨ c = 23 ∨ c = 24 ∨ c = 25) ∧ p < 80
      · rw [if_pos c4, zu_c (by omega), zJ1_k (by omega) c4.2]
      · rw [if_neg c4, if_neg (by omega)]
        by_cases c5 : c = 17
        · rw [c5, zJ1_17, if_neg (fun y => c0 ⟨c5, y⟩)]
        · rw [zJ1_c (by omega) (by omega) c5]
theorem k_join_1 {A : zIT} {K : zLT} {I : zIT} {L : zLT} {F : zFT} {E : zET} {dyn : zH} {rs : Nat → Nat} {s o : Int} (hb : zB I) (hS : zRS I L F dyn rs) (h : ¬ (zst I s ∧ zst I o)) : X7_join (zM A K I L F E dyn) (some 0) s o = some (.inr 3, (zM A K I L F E dyn)) := by
  unfold X7_join
  rw [zo_0b]
  rcases k_standing (A := A) (K := K) (E := E) hb hS s with ⟨e, hx⟩ | ⟨e, _⟩
  · rw [e, zb]
    simp only
    rw [zo_0b]
    rcases k_standing (A := A) (K := K) (E := E) hb hS o with ⟨e, hy⟩ | ⟨e, _⟩
    · exact absurd ⟨hx, hy⟩ h
    · rw [e, zb]
  · rw [e, zb]
theorem k_join_s {A : zIT} {K : zLT} {I : zIT} {L : zLT} {F : zFT} {E : zET} {dyn : zH} {rs : Nat → Nat} {s o : Nat} (hb : zB I) (hS : zRS I L F dyn rs) (h : zst I s ∧ zst I o) (hl : 0 ≤ I 17 s ∧ I 17 s ≤ 999 ∧ 0 ≤ I 17 o ∧ I 17 o ≤ 999) : X7_join (zM A K I L F E dyn) (some 0) (s : Int) (o : Int) = if s = o then some (.inr 0, (zM A K I L F E dyn)) else if I 17 s + I 17 o ≤ 999 then
      (X7_openLedger (zM A K I L F E dyn) (some 0) (some (rs s + 39)) (I 17 s + I 17 o)).bind fun x10 =>
          ((zobj x10 (some 0) 8).bind fun _ => X7_orderForJoining x10 (some 0) (some (rs s + 39)) (some (rs o + 39))).bind fun x11 =>
          (zgI x11 (some (rs s + 39)) 7 3).bind fun v12 =>
          ((zobj x11 (some 0) 8).bind fun _ => X7_enterInOrder x11 (some 0) (some (rs o + 39)) v12).bind fun x13 =>
          if x13.1 = 0 then
            some (Sum.inr 2, x13.2)
          else
            ((zobj x13.2 (some 0) 8).bind fun _ => X7_rememberAll_ x13.2 (some 0) (some (rs o + 39))).bind fun x14 =>
            ((zobj x14 (some 0) 8).bind fun _ => X7_moveDoors x14 (some 0) (some (rs s + 39)) (some (rs o + 39))).bind fun x15 =>
            (zgR x15 (some 0) 8 3).bind fun v16 =>
            (zgI x15 v16 3 6).bind fun v17 =>
            (zpI x15 (some (rs s + 39)) 7 7 v17).bind fun h18 =>
            (zpI h18 (some (rs s + 39)) 7 3 (I 17 s + I 17 o)).bind fun h19 =>
            (zpZ h19 (some (rs o + 39)) 7 6 1).bind fun h20 =>
            some (Sum.inl (I 17 s + I 17 o), h20) else some (.inr 0, (zM A K I L F E dyn)) := by
  have hsc := (hS.1 s h.1.2.1).2
  have hoc := (hS.1 o h.2.2.1).2
  unfold X7_join
  rw [zo_0b]
  rcases k_standing (A := A) (K := K) (E := E) hb hS s with ⟨e, _⟩ | ⟨_, hx⟩
  · rw [e, zb]
    simp only
    rw [zo_0b]
    rcases k_standing (A := A) (K := K) (E := E) hb hS o with ⟨e, _⟩ | ⟨_, hx⟩
    · rw [e, zb]
      simp only
      rw [Int.toNat_natCast, Int.toNat_natCast, zgStr_3b hsc, zgStr_3b hoc, zckb (by omega) (by omega)]
      by_cases c : s = o
      · rw [if_pos (by rw [c]), if_pos c]
      · rw [if_neg (fun y => c (zRS_inj hS h.1.2.1 h.2.2.1 (by injection y with y; omega))), if_neg c]
        by_cases c2 : I 17 s + I 17 o ≤ 999
        · rw [if_pos c2, if_pos c2, zo_0b]
        · rw [if_neg c2, if_neg c2]
    · exact absurd h.2 hx
  · exact absurd h.1 hx
theorem m_join_1 {A : zIT} {K : zLT} {I : zIT} {L : zLT} {F : zFT} {E : zET} {dyn : zH} {s o : Int} (hb : zB I) (h : ¬ (zst I s ∧ zst I o)) : X8_join (zM A K I L F E dyn) (some 14) s o = some (0, zM A K (zu I 14 29 1) L F E dyn) := by
  have bad : X8_join_j21 (zM A K I L F E dyn) (some 14) s o = some (0, zM A K (zu I 14 29 1) L F E dyn) := by
    unfold X8_join_j21 X8_join_j22
    rw [zo_14b, m_nob0]
    simp only
    rw [if_neg (by omega)]
  unfold X8_join
  rw [zo_14b]
  rcases m_isStreet (A := A) (K := K) (L := L) (F := F) (E := E) (dyn := dyn) hb s with ⟨e, hx⟩ | ⟨e, _⟩
  · rw [e, zb, if_neg (by omega), zo_14b]
    rcases m_isStreet (A := A) (K := K) (L := L) (F := F) (E := E) (dyn := dyn) hb o with ⟨e, hy⟩ | ⟨e, _⟩
    · exact absurd ⟨hx, hy⟩ h
    · rw [e, zb, if_pos rfl]
      exact bad
  · rw [e, zb, if_pos rfl]
    exact bad
theorem m_join_j {A : zIT} {K : zLT} {I : zIT} {L : zLT} {F : zFT} {E : zET} {dyn : zH} {s o : Nat} (hb : zB I) (h : zst I s ∧ zst I o) (hl : 0 ≤ I 17 s ∧ I 17 s ≤ 999 ∧ 0 ≤ I 17 o ∧ I 17 o ≤ 999) : X8_join (zM A K I L F E dyn) (some 14) (s : Int) (o : Int) = if s ≠ o ∧ I 17 s + I 17 o ≤ 999 then X8_join_j59 (some 14) (s : Int) (o : Int) (0, zM A K (zu I 14 29 0) L F E dyn) 1 else some (0, zM A K (zu I 14 29 2) L F E dyn) := by
  have hs12 := zst_12 hb h.1
  have ho12 := zst_12 hb h.2
  have e17 : zu I 14 29 0 17 = I 17 := zu_c (by omega)
  have bad : X8_join_j58 (some 14) (s : Int) (o : Int) (0, zM A K (zu I 14 29 0) L F E dyn) = some (0, zM A K (zu I 14 29 2) L F E dyn) := by
    unfold X8_join_j58 X8_join_j59
    simp only
    rw [zo_14b, m_nob0, zu_zu]
    simp only
    rw [if_neg (by omega)]
  unfold X8_join
  rw [zo_14b, zbl_1 (m_isStreet hb s) h.1, zb, if_neg (by omega), zo_14b, zbl_1 (m_isStreet hb o) h.2, zb, if_neg (by omega)]
  unfold X8_join_j22
  rw [zo_14b, m_nob1]
  simp only
  rw [if_pos trivial]
  by_cases c : s = o
  · rw [if_pos (by omega), if_neg (fun y => y.1 c)]
    exact bad
  · rw [if_neg (by omega), zg_14_2b, za_17b (by omega) (by omega), zg_14_2b, za_17b (by omega) (by omega), Int.toNat_natCast, Int.toNat_natCast, e17, zckb (by omega) (by omega)]
    by_cases c2 : I 17 s + I 17 o ≤ 999
    · rw [if_neg (by omega), if_pos ⟨c, c2⟩]
    · rw [if_pos (by omega), if_neg (fun y => c2 y.2)]
      exact bad
theorem m_join_59 {A : zIT} {K : zLT} {I : zIT} {L : zLT} {F : zFT} {E : zET} {dyn : zH} {s o : Nat} (hb : zB I) (h : zst I s ∧ zst I o) (hne : s ≠ o) (h4 : zVw I) (hl : 0 ≤ I 17 s ∧ I 17 s ≤ 999 ∧ 0 ≤ I 17 o ∧ I 17 o ≤ 999) (hP : ∀ p, p < 80 → I 22 p = o → 0 ≤ I 23 p ∧ I 23 p ≤ 999) :
    ∃ p, znt (zJ1 I s (I 17 s + I 17 o)) o (fun p => zJ1 I s (I 17 s + I 17 o) 22 p = o) 0 (2 * I 14 14).toNat p ∧ X8_join_j59 (some 14) (s : Int) (o : Int) (0, zM A K (zu I 14 29 0) L F E dyn) 1 = (zloop (X8_join_b112 (some 14) (s : Int) (o : Int) (I 21 s) (I 17 s)) zN (1, p, zM A K (zJ1 I s (I 17 s + I 17 o)) L F E dyn)).bind fun e24 =>
      ((zobj e24.2 (some 14) 9).bind fun _ => X8_no e24.2 (some 14) e24.1 3).bind fun x27 =>
      if x27.1 = 0 then
        (zloop (X8_join_b178 (some 14) (s : Int) (o : Int)) zN (0, x27.2)).bind fun e32 =>
        (zgR e32 (some 14) 9 5).bind fun v51 => (zsI e32 2 v51 (o : Int) 1).bind fun h52 => (zgR h52 (some 14) 9 2).bind fun v53 => (zaI h52 0 v53 (s : Int)).bind fun v54 => some (v54, h52)
      else
        ((zobj x27.2 (some 14) 9).bind fun _ => X8_givesBack x27.2 (some 14)).bind fun x55 =>
        (zgR x55 (some 14) 9 6).bind fun v56 => (zsI x55 0 v56 (s : Int) (I 21 s)).bind fun h57 => (zgR h57 (some 14) 9 2).bind fun v58 => (zsI h57 0 v58 (s : Int) (I 17 s)).bind fun h59 => some (0, h59) := by
  have hs12 := zst_12 hb h.1
  have ho12 := zst_12 hb h.2
  have w0 : ∀ p, p < 80 → 0 ≤ (zu I 14 29 0) 24 p ∧ (zu I 14 29 0) 24 p ≤ 65535 := by
    rw [zu_c (by omega)]
    exact h4
  have e21 : zkp 80 (zu I 14 29 0) 21 = I 21 := by rw [zkp_c (by omega), zu_c (by omega)]
  have e17 : zkp 80 (zu I 14 29 0) 17 = I 17 := by rw [zkp_c (by omega), zu_c (by omega)]
  have b0 : zB (zJ1 I s (I 17 s + I 17 o)) := by
    unfold zB at hb ⊢
    rw [zJ1_14, zJ1_14, zJ1_14, if_neg (by omega), if_neg (by omega), if_neg (by omega)]
    exact hb
  have f22 : zJ1 I s (I 17 s + I 17 o) 22 = I 22 := zJ1_c (by omega) (by omega) (by omega)
  have f23 : zJ1 I s (I 17 s + I 17 o) 23 = I 23 := zJ1_c (by omega) (by omega) (by omega)
  have f14 : zJ1 I s (I 17 s + I 17 o) 14 14 = I 14 14 := by rw [zJ1_14, if_neg (by omega)]
  obtain ⟨p, e, hp⟩ := m_least (A := A) (K := K) (I := zJ1 I s (I 17 s + I 17 o)) (L := L) (F := F) (E := E) (dyn := dyn) b0 ho12 (by rw [zJ1_17, if_neg (fun y => hne y.symm)]; omega) (by rw [f22, f23]; exact hP)
  rw [f14] at hp
  have hJ : zu (zkp 80 (zu I 14 29 0)) 17 s (I 17 s + I 17 o) = zJ1 I s (I 17 s + I 17 o) := rfl
  refine ⟨p, hp, ?_⟩
  unfold X8_join_j59
  simp only
  rw [zo_14b, m_nob1]
  have ezz : zu (zu I 14 29 0) 14 29 0 = zu I 14 29 0 := zu_zu
  simp only
  rw [ezz, if_pos trivial, zo_14b, m_keeps w0, zb, zg_14_6b, za_21b (by omega) (by omega), zg_14_2b, za_17b (by omega) (by omega), zg_14_2b, za_17b (by omega) (by omega), zg_14_2b, za_17b (by omega) (by omega), Int.toNat_natCast, Int.toNat_natCast, e17, e21, zckb (by omega) (by omega), zs_17b (by omega) (by omega), Int.toNat_natCast, hJ, zo_14b, e, zb]
def zjw (I : zIT) (L : zLT) (o : Nat) : Nat → List zRow
  | 0 => []
  | n + 1 => zjw I L o n ++ (if I 22 n = o then [(L 15 o, I 25 n, ((n / 2 : Nat) : Int)), (L 16 o, I 25 n, ((n / 2 : Nat) : Int))] else [])
theorem zjw_two {I : zIT} {L : zLT} {o : Nat} (h7 : zV7 I) : ∀ n, zjw I L o (2 * n) = zngb I L o n
  | 0 => rfl
  | n + 1 => by
    have e : zjw I L o (2 * (n + 1)) = (zjw I L o (2 * n) ++ (if I 22 (2 * n) = o then [(L 15 o, I 25 (2 * n), ((2 * n / 2 : Nat) : Int)), (L 16 o, I 25 (2 * n), ((2 * n / 2 : Nat) : Int))] else [])) ++ (if I 22 (2 * n + 1) = o then [(L 15 o, I 25 (2 * n + 1), (((2 * n + 1) / 2 : Nat) : Int)), (L 16 o, I 25 (2 * n + 1), (((2 * n + 1) / 2 : Nat) : Int))] else []) := rfl
    have e2 : zngb I L o (n + 1) = zngb I L o n ++ (if zpo I n o = -1 then [] else [(L 15 o, I 25 (zpo I n o).toNat, (n : Int)), (L 16 o, I 25 (zpo I n o).toNat, (n : Int))]) := rfl
    rw [e, e2, zjw_two h7 n, show 2 * n / 2 = n by omega, show (2 * n + 1) / 2 = n by omega, List.append_assoc]
    congr 1
    unfold zpo
    by_cases c : I 22 (2 * n) = o
    · have c2 : I 22 (2 * n + 1) ≠ o := fun y => h7 (2 * n) (2 * n + 1) (by omega) (by omega) (by omega) (by rw [c, y])
      rw [if_pos c, if_neg c2, if_pos c, if_neg (by omega), zn1, List.append_nil]
    · by_cases c2 : I 22 (2 * n + 1) = o
      · rw [if_neg c, if_pos c2, if_neg c, if_pos c2, if_neg (by omega), zn2, List.nil_append]
      · rw [if_neg c, if_neg c2, if_neg c, if_neg c2, if_pos rfl]
        rfl
theorem m_jn178 {A : zIT} {K : zLT} {I : zIT} {L : zLT} {F : zFT} {E : zET} {dyn : zH} {I0 : zIT} {s o : Nat} (hb : zB I) (ho : o < 12) (e32 : ∀ p, p < 80 → I 32 p = I0 22 p) (e35 : ∀ p, p < 80 → I 35 p = I0 25 p) : zloop (X8_join_b178 (some 14) (s : Int) (o : Int)) zN (0, (zM A K I L F E dyn)) = some (zM A K (zlg (zjw I0 L o (2 * I 14 14).toNat) (I, L)).1 (zlg (zjw I0 L o (2 * I 14 14).toNat) (I, L)).2 F E dyn) := by
  unfold zB at hb
  refine zloop_0 (body := X8_join_b178 (some 14) (s : Int) (o : Int)) (fun i => ((i : Int), zM A K (zlg (zjw I0 L o i) (I, L)).1 (zlg (zjw I0 L o i) (I, L)).2 F E dyn)) (2 * I 14 14).toNat ?_ ?_ (by omega)
  · intro i hi
    have f14 : (zlg (zjw I0 L o i) (I, L)).1 14 14 = I 14 14 := zlg_14 (by omega) _ _
    have f32 : (zlg (zjw I0 L o i) (I, L)).1 32 = I 32 := zlg_c (by omega) (by omega) _ _
    have f35 : (zlg (zjw I0 L o i) (I, L)).1 35 = I 35 := zlg_c (by omega) (by omega) _ _
    have g15 : (zlg (zjw I0 L o i) (I, L)).2 15 = L 15 := zlg_L (by omega) _ _
    have g16 : (zlg (zjw I0 L o i) (I, L)).2 16 = L 16 := zlg_L (by omega) _ _
    have b19 := zlg_19 (zjw I0 L o i) (I, L) hb.2.2
    have hx : zjw I0 L o (i + 1) = zjw I0 L o i ++ (if I0 22 i = o then [(L 15 o, I0 25 i, ((i / 2 : Nat) : Int)), (L 16 o, I0 25 i, ((i / 2 : Nat) : Int))] else []) := rfl
    have ed : (i : Int) / 2 = ((i / 2 : Nat) : Int) := rfl
    unfold X8_join_b178
    simp only
    rw [zg_14_14b, f14, zckb (by omega) (by omega), if_neg (by omega), zg_14_20b, za_32b (by omega) (by omega), Int.toNat_natCast, f32, e32 i (by omega), hx]
    by_cases c : I0 22 i = o
    · rw [if_pos c, if_pos c, zg_14_0b, za_15b (by omega) (by omega), zg_14_23b, za_35b (by omega) (by omega), zdvb (by omega) (by omega), zo_14b, Int.toNat_natCast, Int.toNat_natCast, g15, f35, e35 i (by omega), m_old b19, zb]
      have k16 : zoL (zlg (zjw I0 L o i) (I, L)).1 (zlg (zjw I0 L o i) (I, L)).2 (L 15 o) 16 = L 16 := (zoL_c (by omega)).trans g16
      have k35 : zoI (zlg (zjw I0 L o i) (I, L)).1 (L 15 o) (I0 25 i) ((i : Int) / 2) 35 = I 35 := (zoI_c (by omega) (by omega)).trans f35
      have b19' : 0 ≤ zoI (zlg (zjw I0 L o i) (I, L)).1 (L 15 o) (I0 25 i) ((i : Int) / 2) 14 19 ∧ zoI (zlg (zjw I0 L o i) (I, L)).1 (L 15 o) (I0 25 i) ((i : Int) / 2) 14 19 ≤ 200 := zlg_19 [(L 15 o, I0 25 i, (i : Int) / 2)] (zlg (zjw I0 L o i) (I, L)) b19
      rw [zg_14_1b, za_16b (by omega) (by omega), zg_14_23b, za_35b (by omega) (by omega), zdvb (by omega) (by omega), zo_14b, Int.toNat_natCast, Int.toNat_natCast, k16, k35, e35 i (by omega), m_old b19', zb, zckb (by omega) (by omega), zlg_app]
      rfl
    · rw [if_neg c, if_neg c, zckb (by omega) (by omega), List.append_nil]
      rfl
  · have f14 : (zlg (zjw I0 L o (2 * I 14 14).toNat) (I, L)).1 14 14 = I 14 14 := zlg_14 (by omega) _ _
    unfold X8_join_b178
    simp only
    rw [zg_14_14b, f14, zckb (by omega) (by omega), if_pos (by omega)]
theorem zngb_L {I : zIT} {L L' : zLT} {o : Nat} (h1 : L' 15 = L 15) (h2 : L' 16 = L 16) : ∀ n, zngb I L' o n = zngb I L o n
  | 0 => rfl
  | n + 1 => by
    show zngb I L' o n ++ (if zpo I n o = -1 then [] else [(L' 15 o, I 25 (zpo I n o).toNat, (n : Int)), (L' 16 o, I 25 (zpo I n o).toNat, (n : Int))]) = zngb I L o n ++ (if zpo I n o = -1 then [] else [(L 15 o, I 25 (zpo I n o).toNat, (n : Int)), (L 16 o, I 25 (zpo I n o).toNat, (n : Int))])
    rw [zngb_L h1 h2 n, h1, h2]
theorem zngb_in {I : zIT} {L : zLT} {o : Nat} : ∀ (n : Nat) (r : zRow), r ∈ zngb I L o n → (r.1 = L 15 o ∨ r.1 = L 16 o) ∧ 0 ≤ r.2.2 ∧ r.2.2 < n
  | 0, r, h => by cases h
  | n + 1, r, h => by
    have h' : r ∈ zngb I L o n ++ (if zpo I n o = -1 then [] else [(L 15 o, I 25 (zpo I n o).toNat, (n : Int)), (L 16 o, I 25 (zpo I n o).toNat, (n : Int))]) := h
    rcases List.mem_append.1 h' with h1 | h1
    · have := zngb_in n r h1
      exact ⟨this.1, this.2.1, by omega⟩
    · by_cases c : zpo I n o = -1
      · rw [if_pos c] at h1
        cases h1
      · rw [if_neg c] at h1
        rcases List.mem_cons.1 h1 with e | h1
        · rw [e]
          exact ⟨Or.inl rfl, by simp only; omega, by simp only; omega⟩
        · rw [List.mem_singleton.1 h1]
          exact ⟨Or.inr rfl, by simp only; omega, by simp only; omega⟩
