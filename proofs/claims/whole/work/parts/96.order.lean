-- ===== the order of doors =====
def zOS (R : Nat → Int) (c : Nat) (S : Int → Prop) : Prop := (∀ a b, a < b → b < c → R a < R b) ∧ ∀ x, S x ↔ ∃ a, a < c ∧ R a = x
theorem zOS_le {R : Nat → Int} {c : Nat} {S : Int → Prop} (h : zOS R c S) {a b : Nat} (hab : a ≤ b) (hb : b < c) : R a ≤ R b := by
  rcases Nat.lt_or_eq_of_le hab with y | y
  · exact Int.le_of_lt (h.1 a b y hb)
  · rw [y]
    exact Int.le_refl _
theorem zOS_eq {R R' : Nat → Int} {c c' : Nat} {S S' : Int → Prop} (h : zOS R c S) (h' : zOS R' c' S') (hs : ∀ x, S x ↔ S' x) : c = c' ∧ ∀ a, a < c → R a = R' a := by
  have key : ∀ n a, a < n → a < c → a < c' → R a = R' a := by
    intro n
    induction n with
    | zero => exact fun a ha => absurd ha (Nat.not_lt_zero a)
    | succ n ih =>
      intro a ha hc hc'
      rcases zlt_s ha with y | y
      · exact ih a y hc hc'
      · subst y
        obtain ⟨b, hb, eb⟩ := (h'.2 (R a)).1 ((hs _).1 ((h.2 _).2 ⟨a, hc, rfl⟩))
        obtain ⟨d, hd, ed⟩ := (h.2 (R' a)).1 ((hs _).2 ((h'.2 _).2 ⟨a, hc', rfl⟩))
        have b1 : a ≤ b := by
          rcases Nat.lt_or_ge b a with z | z
          · have := ih b z (by omega) hb
            have := h.1 b a z hc
            omega
          · exact z
        have d1 : a ≤ d := by
          rcases Nat.lt_or_ge d a with z | z
          · have := ih d z hd (by omega)
            have := h'.1 d a z hc'
            omega
          · exact z
        have := zOS_le h' b1 hb
        have := zOS_le h d1 hd
        omega
  have ec : c = c' := by
    rcases Nat.lt_trichotomy c c' with y | y | y
    · obtain ⟨b, hb, eb⟩ := (h.2 (R' c)).1 ((hs _).2 ((h'.2 _).2 ⟨c, y, rfl⟩))
      have := key (b + 1) b (by omega) hb (by omega)
      have := h'.1 b c hb y
      omega
    · exact y
    · obtain ⟨b, hb, eb⟩ := (h'.2 (R c')).1 ((hs _).1 ((h.2 _).2 ⟨c', y, rfl⟩))
      have := key (b + 1) b (by omega) (by omega) hb
      have := h.1 b c' hb y
      omega
  exact ⟨ec, fun a ha => key (a + 1) a (by omega) ha (by omega)⟩
theorem k_put {A : zIT} {K : zLT} {I : zIT} {L : zLT} {F : zFT} {E : zET} {dyn : zH} {c : Nat} {S : Int → Prop} {rank d key : Int} (hc : A 12 1 = c) (hc4 : c < 40) (hS : zOS (A 13) c S) (hk : key = rank * 64 + d) (hr : 0 ≤ rank ∧ rank ≤ 5000) (hd : 0 ≤ d ∧ d ≤ 63) (hn : ¬ S key) :
    ∃ A', X4_put (zM A K I L F E dyn) (some 12) rank d = some (zM A' K I L F E dyn) ∧ A' 12 1 = ((c + 1 : Nat) : Int) ∧ zOS (A' 13) (c + 1) (fun x => S x ∨ x = key) ∧ (∀ j, j ≠ 12 → j ≠ 13 → A' j = A j) := by
  obtain ⟨e, he, hq⟩ := zloop_inv (body := X4_put_b27 (some 12) key) (fun n s => s.1 = (n : Int) ∧ n ≤ c ∧ ∃ R, s.2 = zM (zcol A 13 R) K I L F E dyn ∧ (∀ a, a < n → R a = A 13 a) ∧ (∀ a, n < a → a ≤ c → R a = A 13 (a - 1)) ∧ (∀ a, n ≤ a → a < c → key < A 13 a))
    (fun e => ∃ n R, e.1 = ((n : Nat) : Int) ∧ n ≤ c ∧ e.2 = zM (zcol A 13 R) K I L F E dyn ∧ (∀ a, a < n → R a = A 13 a) ∧ (∀ a, n < a → a ≤ c → R a = A 13 (a - 1)) ∧ (∀ a, n ≤ a → a < c → key < A 13 a) ∧ (0 < n → A 13 (n - 1) ≤ key)) (by
    rintro n ⟨k, h⟩ ⟨h1, h2, R, h3, r1, r2, r3⟩
    simp only at h1 h3
    subst h1 h3
    unfold X4_put_b27
    simp only
    by_cases c0 : (n : Int) ≤ 0
    · rw [if_pos c0]
      exact Or.inr ⟨_, rfl, n, R, rfl, h2, rfl, r1, r2, r3, fun y => by omega⟩
    · have e12 : (zcol A 13 R) 13 = R := zcol_e
      have en : ((n : Int) - 1).toNat = n - 1 := by omega
      rw [if_neg c0, zg_12_0b, zckb (by omega) (by omega), za_13b (by omega) (by omega), e12, en, r1 (n - 1) (by omega)]
      by_cases c1 : A 13 (n - 1) ≤ key
      · rw [if_pos c1]
        exact Or.inr ⟨_, rfl, n, R, rfl, h2, rfl, r1, r2, r3, fun _ => c1⟩
      · rw [if_neg c1, zg_12_0b, zg_12_0b, zckb (by omega) (by omega), za_13b (by omega) (by omega), zs_13b (by omega) (by omega), zckb (by omega) (by omega), e12, en, Int.toNat_natCast, zcol_u]
        refine Or.inl ⟨n - 1, _, by omega, rfl, by simp only; omega, by omega, _, rfl, fun a ha => ?_, fun a ha1 ha2 => ?_, fun a ha1 ha2 => ?_⟩
        · rw [zup_n (by omega), r1 a (by omega)]
        · by_cases ca : a = n
          · rw [zup_y ca, ca, r1 (n - 1) (by omega)]
          · rw [zup_n ca, r2 a (by omega) ha2]
        · by_cases ca : a = n - 1
          · rw [ca]
            omega
          · exact r3 a (by omega) ha2) zN c ((c : Int), (zM A K I L F E dyn)) ⟨rfl, Nat.le_refl c, A 13, by simp only; rw [zcol_id], fun a _ => rfl, fun a h1 h2 => absurd h1 (by omega), fun a h1 h2 => absurd h1 (by omega)⟩ (by unfold zN; omega)
  obtain ⟨n, R, q1, q2, q3, r1, r2, r3, r4⟩ := hq
  unfold X4_put
  rw [zg_12_1b, hc, if_neg (by omega), zg_12_0b, zl_13b, if_pos (by omega), zckb (by omega) (by omega), zckb (by omega) (by omega), ← hk, he, zb, q1, q3, zg_12_0b, zs_13b (by omega) (by omega), Int.toNat_natCast, zcol_u, zg_12_1b, zcol_o (by omega), hc, zckb (by omega) (by omega), zp_12_1b]
  have s1 : ∀ a, a < n → zup R n key a = A 13 a := fun a ha => by
    rw [zup_n (by omega), r1 a ha]
  have s2 : ∀ a, n < a → a ≤ c → zup R n key a = A 13 (a - 1) := fun a h1 h2 => by
    rw [zup_n (by omega), r2 a h1 h2]
  have s3 : zup R n key n = key := zup_y rfl
  refine ⟨_, rfl, zu_eq, ?_, fun j j1 j2 => ?_⟩
  · rw [zu_c (by omega), zcol_e]
    refine ⟨fun a b hab hbc => ?_, fun x => ⟨?_, ?_⟩⟩
    · rcases Nat.lt_trichotomy b n with y | y | y
      · rw [s1 a (by omega), s1 b y]
        exact hS.1 a b hab (by omega)
      · subst y
        rw [s1 a hab, s3]
        have h1 := zOS_le hS (show a ≤ b - 1 by omega) (by omega)
        have h2 := r4 (by omega)
        have h3 : A 13 a ≠ key := fun z => hn ((hS.2 key).2 ⟨a, by omega, z⟩)
        omega
      · rw [s2 b y (by omega)]
        rcases Nat.lt_trichotomy a n with z | z | z
        · rw [s1 a z]
          exact hS.1 a (b - 1) (by omega) (by omega)
        · subst z
          rw [s3]
          exact r3 (b - 1) (by omega) (by omega)
        · rw [s2 a z (by omega)]
          exact hS.1 (a - 1) (b - 1) (by omega) (by omega)
    · rintro (h | h)
      · obtain ⟨a, ha, ea⟩ := (hS.2 x).1 h
        rcases Nat.lt_or_ge a n with y | y
        · exact ⟨a, by omega, by rw [s1 a y]; exact ea⟩
        · exact ⟨a + 1, by omega, by rw [s2 (a + 1) (by omega) (by omega)]; exact ea⟩
      · exact ⟨n, by omega, by rw [s3, h]⟩
    · rintro ⟨a, ha, ea⟩
      rcases Nat.lt_trichotomy a n with y | y | y
      · exact Or.inl ((hS.2 x).2 ⟨a, by omega, by rw [← s1 a y]; exact ea⟩)
      · subst y
        exact Or.inr (by rw [← ea, s3])
      · exact Or.inl ((hS.2 x).2 ⟨a - 1, by omega, by rw [← s2 a y (by omega)]; exact ea⟩)
  · rw [zu_c j1, zcol_o j2]
def zOR (A : zIT) (i : Nat) (rho : Nat → Int) (sel : Nat → Prop) : Prop := ∃ c : Nat, c ≤ i ∧ A 12 1 = c ∧ zOS (A 13) c (fun x => ∃ d : Nat, d < i ∧ sel d ∧ x = rho d * 64 + d)
theorem zOR_0 {A : zIT} {rho : Nat → Int} {sel : Nat → Prop} (h : A 12 1 = 0) : zOR A 0 rho sel :=
  ⟨0, Nat.le_refl 0, h, fun a b _ hb => absurd hb (Nat.not_lt_zero b), fun x => ⟨fun ⟨d, hd, _⟩ => absurd hd (Nat.not_lt_zero d), fun ⟨a, ha, _⟩ => absurd ha (Nat.not_lt_zero a)⟩⟩
theorem zOR_skip {A : zIT} {i : Nat} {rho : Nat → Int} {sel : Nat → Prop} (h : zOR A i rho sel) (hn : ¬ sel i) : zOR A (i + 1) rho sel := by
  obtain ⟨c, h1, h2, h3, h4⟩ := h
  refine ⟨c, by omega, h2, h3, fun x => ?_⟩
  rw [← h4]
  constructor
  · rintro ⟨d, d1, d2, d3⟩
    rcases zlt_s d1 with y | y
    · exact ⟨d, y, d2, d3⟩
    · subst y
      exact absurd d2 hn
  · rintro ⟨d, d1, d2, d3⟩
    exact ⟨d, by omega, d2, d3⟩
theorem zOR_put {A : zIT} {K : zLT} {I : zIT} {L : zLT} {F : zFT} {E : zET} {dyn : zH} {i : Nat} {rho : Nat → Int} {sel : Nat → Prop} {rank : Int} (h : zOR A i rho sel) (hi : i < 40) (hs : sel i) (hr : rank = rho i) (hr2 : 0 ≤ rank ∧ rank ≤ 5000) :
    ∃ A', X4_put (zM A K I L F E dyn) (some 12) rank (i : Int) = some (zM A' K I L F E dyn) ∧ zOR A' (i + 1) rho sel ∧ (∀ j, j ≠ 12 → j ≠ 13 → A' j = A j) := by
  obtain ⟨c, h1, h2, h3⟩ := h
  obtain ⟨A', e, q1, q2, q3⟩ := k_put (A := A) (K := K) (I := I) (L := L) (F := F) (E := E) (dyn := dyn) (d := (i : Int)) h2 (by omega) h3 rfl hr2 (by omega) (by
    rintro ⟨d, d1, d2, d3⟩
    omega)
  refine ⟨A', e, ⟨c + 1, by omega, q1, q2.1, fun x => ?_⟩, q3⟩
  rw [← q2.2]
  constructor
  · rintro ⟨d, d1, d2, d3⟩
    rcases zlt_s d1 with y | y
    · exact Or.inl ⟨d, y, d2, d3⟩
    · subst y
      exact Or.inr (by rw [d3, hr])
  · rintro (⟨d, d1, d2, d3⟩ | h)
    · exact ⟨d, by omega, d2, d3⟩
    · exact ⟨i, by omega, hs, by rw [h, hr]⟩
theorem k_doorIn {A : zIT} {K : zLT} {I : zIT} {L : zLT} {F : zFT} {E : zET} {dyn : zH} {c : Nat} (h : A 12 1 = c) (hc : c ≤ 40) {k : Int} (hk : 0 ≤ k ∧ k < c) (h0 : 0 ≤ A 13 k.toNat) : X4_doorIn (zM A K I L F E dyn) (some 12) k = some (A 13 k.toNat % 64) := by
  unfold X4_doorIn
  rw [if_neg (by omega), zg_12_1b, h, if_neg (by omega), zg_12_0b, zl_13b, if_neg (by omega), zg_12_0b, za_13b (by omega) (by omega), zrmb h0 (by omega)]
def zwr (I : zIT) (s : Nat) (d : Nat) : Int := if I 24 (zpo I d s).toNat = 108 then I 23 (zpo I d s).toNat else 1999 - I 23 (zpo I d s).toNat
theorem k_orderForWalking {A : zIT} {K : zLT} {I : zIT} {L : zLT} {F : zFT} {E : zET} {dyn : zH} {rs rd : Nat → Nat} {fp : Nat → Option Nat} {B : Int} {rk : Nat → Nat} {s : Nat} (hV : zVA I L B rk) (hS : zRS I L F dyn rs) (hD : zRD I F dyn rd fp) (hP : zRP I dyn rs fp) (hs : (s : Int) < I 14 7) :
    ∃ A', X7_orderForWalking (zM A K I L F E dyn) (some 0) (some (rs s + 39)) = some (zM A' K I L F E dyn) ∧ zOR A' 40 (zwr I s) (fun d => zpo I d s ≠ -1) ∧ (∀ j, j ≠ 12 → j ≠ 13 → A' j = A j) := by
  have hb := zVA_B hV
  have hLV := zVA_LV hV hs
  obtain ⟨e, he, hq⟩ := zloop_up (body := X7_orderForWalking_b18 (some 0) (some (rs s + 39)) (some 2) 40)
    (fun i t => t.1 = (i : Int) ∧ ∃ A', t.2 = zM A' K I L F E dyn ∧ zOR A' i (zwr I s) (fun d => zpo I d s ≠ -1) ∧ (∀ j, j ≠ 12 → j ≠ 13 → A' j = A j))
    (fun e => ∃ A', e = zM A' K I L F E dyn ∧ zOR A' 40 (zwr I s) (fun d => zpo I d s ≠ -1) ∧ (∀ j, j ≠ 12 → j ≠ 13 → A' j = A j)) 40 (by
    rintro i ⟨t1, t2⟩ hi ⟨ht1, A1, ht2, hO, hf⟩
    simp only at ht1 ht2
    subst ht1 ht2
    unfold X7_orderForWalking_b18
    simp only
    rw [if_neg (by omega), za_2b (by omega) (by omega), Int.toNat_natCast, k_placeOf hb hS hD hP (zVA_5 hV) hi hs, zb]
    refine Or.inl ?_
    rcases zpf_at (s := s) hP hi with ⟨z1, z2⟩ | ⟨z1, r, z2, z3⟩
    · rw [z1, if_pos rfl, zckb (by omega) (by omega)]
      exact ⟨_, rfl, rfl, A1, rfl, zOR_skip hO (fun y => y z2), hf⟩
    · obtain ⟨q1, q2, q3⟩ := zpo_at z1
      have q80 : (zpo I i s).toNat < 80 := by omega
      have p2 := (hLV.2.2.2.2.2 _ q80 q2).2.1
      have hl := hLV.2.2.2.1
      rw [z2, if_neg (fun y => by cases y), zg_0_4b, zgPlc_3b z3]
      have hw : zwr I s i = if I 24 (zpo I i s).toNat = 108 then I 23 (zpo I i s).toNat else 1999 - I 23 (zpo I i s).toNat := rfl
      by_cases c : I 24 (zpo I i s).toNat = 108
      · rw [if_pos c, if_neg (by omega), zgPlc_2b z3, zgPlc_0b z3, zo_12b]
        rw [if_pos c] at hw
        obtain ⟨A2, e2, o2, f2⟩ := zOR_put (A := A1) (K := K) (I := I) (L := L) (F := F) (E := E) (dyn := dyn) hO hi z1 hw.symm (by omega)
        rw [e2, zb, zckb (by omega) (by omega)]
        exact ⟨_, rfl, rfl, A2, rfl, o2, fun j j1 j2 => (f2 j j1 j2).trans (hf j j1 j2)⟩
      · rw [if_neg c, if_pos rfl, zgPlc_2b z3, zckb (by omega) (by omega), zgPlc_0b z3, zo_12b]
        rw [if_neg c] at hw
        obtain ⟨A2, e2, o2, f2⟩ := zOR_put (A := A1) (K := K) (I := I) (L := L) (F := F) (E := E) (dyn := dyn) hO hi z1 hw.symm (by omega)
        rw [e2, zb, zckb (by omega) (by omega)]
        exact ⟨_, rfl, rfl, A2, rfl, o2, fun j j1 j2 => (f2 j j1 j2).trans (hf j j1 j2)⟩) (by
    rintro ⟨t1, t2⟩ ⟨ht1, h⟩
    simp only at ht1
    subst ht1
    unfold X7_orderForWalking_b18
    rw [if_pos (by omega)]
    exact ⟨_, rfl, h⟩) (0, zM (zu A 12 1 0) K I L F E dyn) ⟨rfl, zu A 12 1 0, rfl, zOR_0 zu_eq, fun j j1 j2 => zu_c j1⟩ (by omega)
  obtain ⟨A', rfl, h⟩ := hq
  unfold X7_orderForWalking X4_clear
  rw [zg_0_4b, zo_12b, zp_12_1b, zb, zg_0_1b, zl_2b, he, zb]
  exact ⟨A', rfl, h⟩
