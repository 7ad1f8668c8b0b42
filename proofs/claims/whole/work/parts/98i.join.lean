-- ===== joining: the order, both loops in step =====
def zjr (I : zIT) (o : Nat) (d : Nat) : Int := zfr I o (I 23 (zpo I d o).toNat)
theorem k_orderForJoining {A : zIT} {K : zLT} {I : zIT} {L : zLT} {F : zFT} {E : zET} {dyn : zH} {rs rd : Nat → Nat} {fp : Nat → Option Nat} {B : Int} {rk : Nat → Nat} {s o : Nat} (hV : zVA I L B rk) (hS : zRS I L F dyn rs) (hD : zRD I F dyn rd fp) (hP : zRP I dyn rs fp) (hs : (s : Int) < I 14 7) (ho : (o : Int) < I 14 7) :
    ∃ A', X7_orderForJoining (zM A K I L F E dyn) (some 0) (some (rs s + 39)) (some (rs o + 39)) = some (zM A' K I L F E dyn) ∧ zOR A' 40 (zjr I o) (fun d => zpo I d o ≠ -1 ∧ zpo I d s = -1) ∧ (∀ j, j ≠ 12 → j ≠ 13 → A' j = A j) := by
  have hb := zVA_B hV
  have hLV := zVA_LV hV ho
  have hoc := (hS.1 o ho).2
  obtain ⟨e, he, hq⟩ := zloop_up (body := X7_orderForJoining_b19 (some 0) (some (rs s + 39)) (some (rs o + 39)) (some 2) 40)
    (fun i t => t.1 = (i : Int) ∧ ∃ A', t.2 = zM A' K I L F E dyn ∧ zOR A' i (zjr I o) (fun d => zpo I d o ≠ -1 ∧ zpo I d s = -1) ∧ (∀ j, j ≠ 12 → j ≠ 13 → A' j = A j))
    (fun e => ∃ A', e = zM A' K I L F E dyn ∧ zOR A' 40 (zjr I o) (fun d => zpo I d o ≠ -1 ∧ zpo I d s = -1) ∧ (∀ j, j ≠ 12 → j ≠ 13 → A' j = A j)) 40 (by
    rintro i ⟨t1, t2⟩ hi ⟨ht1, A1, ht2, hO, hf⟩
    simp only at ht1 ht2
    subst ht1 ht2
    unfold X7_orderForJoining_b19
    simp only
    rw [if_neg (by omega), za_2b (by omega) (by omega), Int.toNat_natCast, k_placeOf hb hS hD hP (zVA_5 hV) hi ho, zb]
    refine Or.inl ?_
    rcases zpf_at (s := o) hP hi with ⟨z1, z2⟩ | ⟨z1, r, z2, z3⟩
    · rw [z1, if_pos rfl, zckb (by omega) (by omega)]
      exact ⟨_, rfl, rfl, A1, rfl, zOR_skip hO (fun y => y.1 z2), hf⟩
    · rw [z2, if_neg (fun y => by cases y), k_placeOf hb hS hD hP (zVA_5 hV) hi hs, zb]
      rcases zpf_at (s := s) hP hi with ⟨y1, y2⟩ | ⟨y1, r', y2, y3⟩
      · obtain ⟨q1, q2, q3⟩ := zpo_at z1
        have q80 : (zpo I i o).toNat < 80 := by omega
        have p2 := (hLV.2.2.2.2.2 _ q80 q2).2.1
        have hl := hLV.2.2.2.1
        have hfr := zfr_in hl p2
        have hw : zjr I o i = zfr I o (I 23 (zpo I i o).toNat) := rfl
        unfold zfr at hw hfr
        rw [y1, if_pos rfl, zg_0_4b, zgPlc_2b z3, zoStrb hoc, k_farness hoc (by omega) (by omega), zb, zgPlc_0b z3, zo_12b]
        obtain ⟨A2, e2, o2, f2⟩ := zOR_put (A := A1) (K := K) (I := I) (L := L) (F := F) (E := E) (dyn := dyn) hO hi ⟨z1, y2⟩ hw.symm (by omega)
        rw [e2, zb, zckb (by omega) (by omega)]
        exact ⟨_, rfl, rfl, A2, rfl, o2, fun j j1 j2 => (f2 j j1 j2).trans (hf j j1 j2)⟩
      · rw [y2, if_neg (fun y => by cases y), zckb (by omega) (by omega)]
        exact ⟨_, rfl, rfl, A1, rfl, zOR_skip hO (fun y => y1 y.2), hf⟩) (by
    rintro ⟨t1, t2⟩ ⟨ht1, h⟩
    simp only at ht1
    subst ht1
    unfold X7_orderForJoining_b19
    rw [if_pos (by omega)]
    exact ⟨_, rfl, h⟩) (0, zM (zu A 12 1 0) K I L F E dyn) ⟨rfl, zu A 12 1 0, rfl, zOR_0 zu_eq, fun j j1 j2 => zu_c j1⟩ (by omega)
  obtain ⟨A', rfl, h⟩ := hq
  unfold X7_orderForJoining X4_clear
  rw [zg_0_4b, zo_12b, zp_12_1b, zb, zg_0_1b, zl_2b, he, zb]
  exact ⟨A', rfl, h⟩
def zun (I J : zIT) (d : Nat) : Prop := ∀ c p : Nat, 22 ≤ c → c ≤ 25 → p / 2 = d → J c p = I c p
def zmS (I J : zIT) (s o d : Nat) : Prop := (J 22 (zpo I d o).toNat = s ∧ J 23 (zpo I d o).toNat = I 17 s + I 23 (zpo I d o).toNat ∧ J 24 (zpo I d o).toNat = I 24 (zpo I d o).toNat ∧ 10 ≤ J 25 (zpo I d o).toNat) ∧
  ∀ c p : Nat, 22 ≤ c → c ≤ 25 → p / 2 = d → p ≠ (zpo I d o).toNat → J c p = I c p
def zmB (I J : zIT) (s d : Nat) : Prop := J 22 (2 * d) = s ∧ J 23 (2 * d) = I 23 (zpo I d s).toNat ∧ J 24 (2 * d) = I 24 (zpo I d s).toNat ∧ J 25 (2 * d) = I 25 (zpo I d s).toNat ∧ J 22 (2 * d + 1) = -1 ∧ J 24 (2 * d + 1) = I 24 (2 * d + 1)
def zJI (A I J0 J : zIT) (s o c i : Nat) (B0 : Int) : Prop := zLgr A J s ∧ zLV J s (B0 + 2 * i) ∧ (∀ c, c < 21 ∨ 25 < c → J c = J0 c) ∧ (∀ t, t ≠ s → J 21 t = I 21 t) ∧
  (∀ d, zpo I d o = -1 → zun I J d) ∧ (∀ d, zpo I d o ≠ -1 → zpo I d s ≠ -1 → zun I J d ∨ zmB I J s d) ∧
  (∀ d : Nat, d < 40 → zpo I d o ≠ -1 → zpo I d s = -1 → (zun I J d ∧ ∃ a, i ≤ a ∧ a < c ∧ A 13 a = zjr I o d * 64 + d) ∨ (zmS I J s o d ∧ ∀ a, i ≤ a → a < c → A 13 a ≠ zjr I o d * 64 + d)) ∧
  (∀ p q : Nat, p < 80 → q < 80 → p ≠ q → J 22 p = s → J 22 q = s → J 25 p ≠ J 25 q) ∧
  A 12 1 = c ∧ zOS (A 13) c (fun x => ∃ d : Nat, d < 40 ∧ (zpo I d o ≠ -1 ∧ zpo I d s = -1) ∧ x = zjr I o d * 64 + d)
def zJW (J0 J : zIT) (s : Nat) : Prop := (∀ c, c < 21 ∨ 25 < c → J c = J0 c) ∧ (∀ t, t ≠ s → J 21 t = J0 21 t) ∧ (∀ c p : Nat, 22 ≤ c → c ≤ 25 → ¬ p < 80 → J c p = J0 c p)
theorem zsum_pos {f : Nat → Int} {k : Nat} (h : ∀ i, 0 ≤ f i) : ∀ n, k < n → f k ≤ zsum f n
  | 0, hk => absurd hk (Nat.not_lt_zero k)
  | n + 1, hk => by
    have h0 : 0 ≤ zsum f n := by
      clear hk
      induction n with
      | zero => exact Int.le_refl 0
      | succ n ih =>
        have := h n
        simp only [zsum]
        omega
    simp only [zsum]
    rcases zlt_s hk with y | y
    · have := zsum_pos h n y
      have := h n
      omega
    · subst y
      omega
theorem zdo_pos {J : zIT} {o p : Nat} (hp : p < 80) (h : J 22 p = o) : 1 ≤ zdo J o 80 := by
  have := zsum_pos (f := fun p => if J 22 p = (o : Int) then 1 else 0) (k := p) (fun i => by split <;> omega) 80 hp
  rw [if_pos h] at this
  exact this
theorem zdo_lt {J J' : zIT} {o d : Nat} (hd : d < 40) (hq : ∀ q, q / 2 ≠ d → J' 22 q = J 22 q) (h1 : J' 22 (2 * d) ≠ o) (h2 : J' 22 (2 * d + 1) ≠ o) (h3 : J 22 (2 * d) = o ∨ J 22 (2 * d + 1) = o) : zdo J' o 80 + 1 ≤ zdo J o 80 := by
  unfold zdo
  rw [show (80 : Nat) = 2 * 40 from rfl, zsum_two, zsum_two]
  rw [zsum_one (k := d) (f := fun i => (if J' 22 (2 * i) = (o : Int) then (1 : Int) else 0) + (if J' 22 (2 * i + 1) = (o : Int) then 1 else 0)) (g := fun i => (if J 22 (2 * i) = (o : Int) then (1 : Int) else 0) + (if J 22 (2 * i + 1) = (o : Int) then 1 else 0)) 40 hd (fun i hi hne => by
    rw [hq (2 * i) (by omega), hq (2 * i + 1) (by omega)])]
  rw [if_neg h1, if_neg h2]
  rcases h3 with y | y
  · rw [if_pos y]
    split <;> omega
  · rw [if_pos y]
    split <;> omega
theorem zpo_un {I J : zIT} {d : Nat} {s : Int} (h : zun I J d) : zpo J d s = zpo I d s := by
  unfold zpo
  rw [h 22 (2 * d) (by omega) (by omega) (by omega), h 22 (2 * d + 1) (by omega) (by omega) (by omega)]
theorem zJI_o {A I J0 J : zIT} {L : zLT} {B B0 : Int} {rk : Nat → Nat} {s o c i p : Nat} (hV : zVA I L B rk) (hne : s ≠ o) (h : zJI A I J0 J s o c i B0) (hp : p < 80) (hpo : J 22 p = o) : zun I J (p / 2) ∧ I 22 p = o ∧ zpo I (p / 2) o = (p : Int) := by
  obtain ⟨_, _, _, _, i5, i6, i7, _⟩ := h
  have un : zun I J (p / 2) := by
    by_cases c1 : zpo I (p / 2) o = -1
    · exact i5 _ c1
    · by_cases c2 : zpo I (p / 2) s = -1
      · rcases i7 (p / 2) (by omega) c1 c2 with y | y
        · exact y.1
        · exfalso
          obtain ⟨q1, q2, q3⟩ := zpo_at c1
          by_cases c3 : p = (zpo I (p / 2) o).toNat
          · have := y.1.1.1
            rw [← c3, hpo] at this
            omega
          · have e := y.1.2 22 p (by omega) (by omega) rfl c3
            have := zpo_eq (zVA_7 hV) (show I 22 p = o by rw [← e]; exact hpo)
            omega
      · rcases i6 _ c1 c2 with y | y
        · exact y
        · exfalso
          rcases show p = 2 * (p / 2) ∨ p = 2 * (p / 2) + 1 by omega with w | w
          · have := y.1
            rw [← w, hpo] at this
            omega
          · have := y.2.2.2.2.1
            rw [← w, hpo] at this
            omega
  have e : I 22 p = o := by
    rw [← un 22 p (by omega) (by omega) rfl]
    exact hpo
  exact ⟨un, e, zpo_eq (zVA_7 hV) e⟩
theorem zLgr_cg {A A' J J' : zIT} {s : Nat} (h : zLgr A J s) (hJ : ∀ c, 17 ≤ c → c ≤ 25 → c ≠ 20 → J' c = J c) (hA : ∀ c, 8 ≤ c → c ≤ 11 → A' c = A c) : zLgr A' J' s := by
  unfold zLgr zLgrd zky zfr at h ⊢
  rw [hJ 17 (by omega) (by omega) (by omega), hJ 18 (by omega) (by omega) (by omega), hJ 19 (by omega) (by omega) (by omega), hJ 21 (by omega) (by omega) (by omega), hJ 22 (by omega) (by omega) (by omega), hJ 23 (by omega) (by omega) (by omega), hJ 24 (by omega) (by omega) (by omega), hJ 25 (by omega) (by omega) (by omega), hA 8 (by omega) (by omega), hA 9 (by omega) (by omega), hA 10 (by omega) (by omega), hA 11 (by omega) (by omega)]
  exact h
theorem m_moves_b {A : zIT} {K : zLT} {I : zIT} {L : zLT} {F : zFT} {E : zET} {dyn : zH} {s d p t : Nat} {far : Int} (hp : p / 2 = d) (hp8 : p < 80) (hs : s < 12) (ht : zpo I d s = (t : Int)) (ht8 : t < 80) (hw : 0 ≤ I 24 t ∧ I 24 t ≤ 65535) (h25 : 0 ≤ I 25 t) : X8_moves (zM A K I L F E dyn) (some 14) (p : Int) (s : Int) far = some (1, zM A K (zputs (zu (zu I 22 (2 * d + 1) (-1)) 25 (2 * d + 1) (-1)) (2 * d) s (I 23 t) (I 24 t) (I 25 t)) L F E dyn) := by
  unfold X8_moves
  rw [zdvb (by omega) (by omega), show (p : Int) / 2 = (d : Int) by omega, zo_14b, m_placeOn (by omega), zb, ht, if_neg (by omega), zg_14_9b, za_23b (by omega) (by omega), zg_14_10b, za_24b (by omega) (by omega), zg_14_11b, za_25b (by omega) (by omega), Int.toNat_natCast, zg_14_8b, zckb (by omega) (by omega), zckb (by omega) (by omega), zs_22b (by omega) (by omega), zg_14_11b, zckb (by omega) (by omega), zckb (by omega) (by omega), zs_25b (by omega) (by omega), zckb (by omega) (by omega), zo_14b, zn2,
    show (2 : Int) * (d : Int) = ((2 * d : Nat) : Int) by omega, m_puts (by omega) hs hw h25, zb]
theorem m_moves_s {A : zIT} {K : zLT} {I : zIT} {L : zLT} {F : zFT} {E : zET} {dyn : zH} {s d p : Nat} {far r : Int} (hp : p / 2 = d) (hp8 : p < 80) (hs : s < 12) (ht : zpo I d s = -1) (hw : 0 ≤ I 24 p ∧ I 24 p ≤ 65535) (hm : 0 ≤ far ∧ far ≤ 9999 ∧ 0 ≤ I 23 p ∧ I 23 p ≤ 9999) (hr : X8_comes (zM A K (zu I 22 p (-1)) L F E dyn) (some 14) (s : Int) (d : Int) (far + I 23 p) (I 24 p) = some r) :
    X8_moves (zM A K I L F E dyn) (some 14) (p : Int) (s : Int) far = if r < 0 then some (0, zM A K (zu I 22 p (-1)) L F E dyn) else some (1, zM A K (zputs (zu I 22 p (-1)) p s (far + I 23 p) (I 24 p) r) L F E dyn) := by
  have e24 : zu I 22 p (-1) 24 = I 24 := zu_c (by omega)
  unfold X8_moves
  rw [zdvb (by omega) (by omega), show (p : Int) / 2 = (d : Int) by omega, zo_14b, m_placeOn (by omega), zb, ht, if_pos rfl, zg_14_9b, za_23b (by omega) (by omega), Int.toNat_natCast, zckb (by omega) (by omega), zg_14_8b, zs_22b (by omega) (by omega), Int.toNat_natCast, zg_14_10b, za_24b (by omega) (by omega), Int.toNat_natCast, e24, zo_14b, hr, zb]
  by_cases c : r < 0
  · rw [if_pos c, if_pos c, if_pos c]
  · rw [if_neg c, if_neg c, zg_14_10b, za_24b (by omega) (by omega), Int.toNat_natCast, e24, zo_14b, m_puts hp8 hs hw (by omega), zb, if_neg c]
