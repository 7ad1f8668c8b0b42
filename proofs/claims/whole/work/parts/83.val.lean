-- ===== what holds between calls =====
def zvStr (I : zIT) (L : zLT) (B : Int) (s : Nat) : Prop := zvn (L 15 s) ∧ zvn (L 16 s) ∧ L 15 s ≠ 0 ∧ L 15 s ≠ L 16 s ∧ (10 ≤ I 17 s ∧ I 17 s ≤ 999) ∧ zwy (I 18 s) ∧ (I 19 s = 0 ∨ I 19 s = 1) ∧ (I 20 s = 0 ∨ I 20 s = 1) ∧ (0 ≤ I 21 s ∧ I 21 s ≤ B)
def zvPl (I : zIT) (p : Nat) : Prop := (0 ≤ I 22 p ∧ I 22 p < I 14 7 ∧ I 20 (I 22 p).toNat = 0) ∧ (0 ≤ I 23 p ∧ I 23 p ≤ I 17 (I 22 p).toNat) ∧ zsd (I 24 p) ∧ 10 ≤ I 25 p ∧ I 25 p / 10 ≤ I 21 (I 22 p).toNat
def zvDr (I : zIT) (d : Nat) : Prop := (I 26 d = 0 ∨ I 26 d = 1) ∧ (I 14 14 ≤ (d : Int) → I 26 d = 0) ∧ ((d : Int) < I 14 14 → I 26 d = 0 → I 22 (2 * d) ≠ -1 ∧ I 27 d = -1) ∧ (I 26 d = 1 → I 22 (2 * d) = -1 ∧ I 22 (2 * d + 1) = -1)
def zV1 (I : zIT) (L : zLT) (B : Int) : Prop := ∀ s : Nat, (s : Int) < I 14 7 → zvStr I L B s
def zV2 (I : zIT) (L : zLT) : Prop := ∀ s : Nat, I 14 7 ≤ (s : Int) → I 20 s = 0 ∧ I 21 s = 0 ∧ L 16 s = 0
def zV3 (I : zIT) (L : zLT) : Prop := ∀ s t : Nat, (s : Int) < I 14 7 → (t : Int) < I 14 7 → s ≠ t → I 20 s = 0 → I 20 t = 0 → L 15 s ≠ L 15 t ∧ L 15 s ≠ L 16 t ∧ (L 16 s ≠ 0 → L 16 s ≠ L 16 t)
def zV4 (I : zIT) : Prop := ∀ p : Nat, p < 80 → I 22 p ≠ -1 → zvPl I p
def zV5 (I : zIT) : Prop := ∀ p : Nat, 2 * I 14 14 ≤ (p : Int) → I 22 p = -1
def zV6 (I : zIT) : Prop := ∀ p q : Nat, p < 80 → q < 80 → p ≠ q → I 22 p ≠ -1 → I 22 p = I 22 q → I 25 p ≠ I 25 q
def zV7 (I : zIT) : Prop := ∀ p q : Nat, p / 2 = q / 2 → p ≠ q → I 22 p ≠ -1 → I 22 p ≠ I 22 q
def zV8 (I : zIT) : Prop := ∀ d : Nat, d < 40 → zvDr I d
def zV9 (I : zIT) (L : zLT) : Prop := ∀ k : Nat, (k : Int) < I 14 19 → zvn (L 28 k) ∧ L 28 k ≠ 0 ∧ 0 ≤ I 30 k ∧ I 30 k < I 14 14
def zdgn : Nat → Nat → Nat
  | 0, _ => 0
  | k + 1, n => if n = 0 then 0 else zdgn k (n / 27) + 1
def zVt (I : zIT) (L : zLT) : Prop := zvn (L 14 26) ∧ I 14 27 = (zdgn 7 (L 14 26).toNatClampNeg : Int)
def zVw (I : zIT) : Prop := ∀ p : Nat, p < 80 → 0 ≤ I 24 p ∧ I 24 p ≤ 65535
def zVA (I : zIT) (L : zLT) (B : Int) (rk : Nat → Nat) : Prop := zB I ∧ zV1 I L B ∧ zV2 I L ∧ zV3 I L ∧ zV4 I ∧ zV5 I ∧ zV6 I ∧ zV7 I ∧ zV8 I ∧ zacy I rk ∧ zV9 I L ∧ zVt I L ∧ zVw I
def zRL (A : zIT) (K : zLT) (I : zIT) (L : zLT) (F : zFT) (dyn : zH) (rs rd : Nat → Nat) (fp : Nat → Option Nat) : Prop := zRS I L F dyn rs ∧ zRD I F dyn rd fp ∧ zRP I dyn rs fp ∧ zRO A K I L ∧ K 0 7 = c5 (L 14 26) ∧ A 0 8 = I 14 28 ∧ A 0 5 = I 14 7 ∧ A 0 6 = I 14 14
theorem zVA_B {I : zIT} {L : zLT} {B : Int} {rk : Nat → Nat} (h : zVA I L B rk) : zB I := h.1
theorem zVA_1 {I : zIT} {L : zLT} {B : Int} {rk : Nat → Nat} (h : zVA I L B rk) : zV1 I L B := h.2.1
theorem zVA_2 {I : zIT} {L : zLT} {B : Int} {rk : Nat → Nat} (h : zVA I L B rk) : zV2 I L := h.2.2.1
theorem zVA_3 {I : zIT} {L : zLT} {B : Int} {rk : Nat → Nat} (h : zVA I L B rk) : zV3 I L := h.2.2.2.1
theorem zVA_4 {I : zIT} {L : zLT} {B : Int} {rk : Nat → Nat} (h : zVA I L B rk) : zV4 I := h.2.2.2.2.1
theorem zVA_5 {I : zIT} {L : zLT} {B : Int} {rk : Nat → Nat} (h : zVA I L B rk) : zV5 I := h.2.2.2.2.2.1
theorem zVA_6 {I : zIT} {L : zLT} {B : Int} {rk : Nat → Nat} (h : zVA I L B rk) : zV6 I := h.2.2.2.2.2.2.1
theorem zVA_7 {I : zIT} {L : zLT} {B : Int} {rk : Nat → Nat} (h : zVA I L B rk) : zV7 I := h.2.2.2.2.2.2.2.1
theorem zVA_8 {I : zIT} {L : zLT} {B : Int} {rk : Nat → Nat} (h : zVA I L B rk) : zV8 I := h.2.2.2.2.2.2.2.2.1
theorem zVA_a {I : zIT} {L : zLT} {B : Int} {rk : Nat → Nat} (h : zVA I L B rk) : zacy I rk := h.2.2.2.2.2.2.2.2.2.1
theorem zVA_9 {I : zIT} {L : zLT} {B : Int} {rk : Nat → Nat} (h : zVA I L B rk) : zV9 I L := h.2.2.2.2.2.2.2.2.2.2.1
theorem zVA_t {I : zIT} {L : zLT} {B : Int} {rk : Nat → Nat} (h : zVA I L B rk) : zVt I L := h.2.2.2.2.2.2.2.2.2.2.2.1
theorem zVA_w {I : zIT} {L : zLT} {B : Int} {rk : Nat → Nat} (h : zVA I L B rk) : zVw I := h.2.2.2.2.2.2.2.2.2.2.2.2
theorem zvsd {w : Int} (h : zsd w) : 0 ≤ w ∧ w ≤ 65535 := by
  unfold zsd at h
  omega
theorem zvwy {w : Int} (h : zwy w) : 0 ≤ w ∧ w ≤ 65535 := by
  unfold zwy at h
  omega
theorem zV7_d {I : zIT} {s : Nat} (h : zV7 I) : ∀ d, d < 40 → I 22 (2 * d) = s → I 22 (2 * d + 1) ≠ s := by
  intro d _ h1 h2
  exact h (2 * d) (2 * d + 1) (by omega) (by omega) (by omega) (by omega)
theorem zV4_s {I : zIT} (hb : zB I) (h : zV4 I) : ∀ p, p < 80 → I 22 p ≠ -1 → 0 ≤ I 22 p ∧ I 22 p < 12 := by
  intro p hp hn
  have := (h p hp hn).1
  unfold zB at hb
  omega
theorem zV4_at {I : zIT} {s p : Nat} (h : zV4 I) (hp : p < 80) (e : I 22 p = s) : ((s : Int) < I 14 7 ∧ I 20 s = 0) ∧ (0 ≤ I 23 p ∧ I 23 p ≤ I 17 s) ∧ zsd (I 24 p) ∧ 10 ≤ I 25 p ∧ I 25 p / 10 ≤ I 21 s := by
  have := h p hp (by omega)
  unfold zvPl at this
  rw [e, Int.toNat_natCast] at this
  exact ⟨⟨this.1.2.1, this.1.2.2⟩, this.2⟩
theorem zVA_LV {I : zIT} {L : zLT} {B : Int} {rk : Nat → Nat} {s : Nat} (h : zVA I L B rk) (hs : (s : Int) < I 14 7) : zLV I s B := by
  have h1 := zVA_1 h s hs
  obtain ⟨_, _, _, _, g1, _, _, _, g2⟩ := h1
  refine ⟨zVA_B h, zVA_5 h, fun p q e a b => ?_, by omega, g2, fun p hp e => ?_⟩
  · by_cases c : p = q
    · exact c
    · exact absurd (a.trans b.symm) (zVA_7 h p q e c (by omega))
  · obtain ⟨_, k1, k2, k3, k4⟩ := zV4_at (zVA_4 h) hp e
    exact ⟨k2, k1, Or.inr ⟨k3, k4⟩⟩
theorem zu_id {α : Type} {I : Nat → Nat → α} {c j : Nat} : zu I c j (I c j) = I := by
  funext c' j'
  unfold zu
  split
  · rename_i h
    rw [h.1, h.2]
  · rfl
theorem zLE_8 {A : zIT} {d j : Nat} {key lf a : Int} (hj : j ≠ 6) : zLE A d key lf a 8 j = A 8 j := by
  unfold zLE
  simp (disch := omega) only [zu_c, zu_j]
  rw [if_neg hj]
theorem zLE_86 {A : zIT} {d : Nat} {key lf a : Int} : zLE A d key lf a 8 6 = zmax (A 8 6) (a / 10) := zu_eq
theorem zLE_9 {A : zIT} {d j : Nat} {key lf a : Int} : zLE A d key lf a 9 j = if j = d then key else A 9 j := by
  unfold zLE
  simp (disch := omega) only [zu_c, zu_j]
theorem zLE_10 {A : zIT} {d j : Nat} {key lf a : Int} : zLE A d key lf a 10 j = if j = d then lf else A 10 j := by
  unfold zLE
  simp (disch := omega) only [zu_c, zu_j]
theorem zLE_11 {A : zIT} {d j : Nat} {key lf a : Int} : zLE A d key lf a 11 j = if j = d then a else A 11 j := by
  unfold zLE
  simp (disch := omega) only [zu_c, zu_j]
theorem zLgrd_o {A J : zIT} {s d d' : Nat} {key lf a : Int} (hd : d' ≠ d) (h : zLgrd A J s d') : zLgrd (zLE A d key lf a) J s d' := by
  unfold zLgrd at h ⊢
  rw [zLE_9, zLE_10, zLE_11, if_neg hd, if_neg hd, if_neg hd]
  exact h
theorem zpo_at {I : zIT} {d : Nat} {s : Int} (h : zpo I d s ≠ -1) : (zpo I d s).toNat / 2 = d ∧ I 22 (zpo I d s).toNat = s ∧ 0 ≤ zpo I d s := by
  have := zpo_in h
  omega
theorem zpo_no {I : zIT} {d p : Nat} {s : Int} (h : zpo I d s = -1) (hp : p / 2 = d) : I 22 p ≠ s := by
  unfold zpo at h
  split at h
  · omega
  · split at h
    · omega
    · rename_i h1 h2
      rcases show p = 2 * d ∨ p = 2 * d + 1 by omega with rfl | rfl
      · exact h1
      · exact h2
theorem k_openLedger {A : zIT} {K : zLT} {I : zIT} {L : zLT} {F : zFT} {E : zET} {dyn : zH} {rs rd : Nat → Nat} {fp : Nat → Option Nat} {B len : Int} {rk : Nat → Nat} {s : Nat} (hV : zVA I L B rk) (hS : zRS I L F dyn rs) (hD : zRD I F dyn rd fp) (hP : zRP I dyn rs fp) (hs : (s : Int) < I 14 7) (hlen : I 17 s ≤ len ∧ len ≤ 999) :
    ∃ A', X7_openLedger (zM A K I L F E dyn) (some 0) (some (rs s + 39)) len = some (zM A' K I L F E dyn) ∧ zLgr A' (zu I 17 s len) s ∧ (∀ c, c ≠ 8 → c ≠ 9 → c ≠ 10 → c ≠ 11 → A' c = A c) := by
  have hb := zVA_B hV
  have h1 := zVA_1 hV s hs
  have hLV := zVA_LV hV hs
  obtain ⟨_, _, _, _, g1, g2, g3, _, g4⟩ := h1
  have hl : 0 ≤ zu I 17 s len 17 s ∧ zu I 17 s len 17 s ≤ 999 := by
    rw [zu_eq]
    omega
  obtain ⟨A0, e0, a3, a4, a5, a6, a11, af⟩ := k_open (A := A) (K := K) (I := I) (L := L) (F := F) (E := E) (len := len) (gre := I 21 s) (hS.1 s hs).2 (zvwy g2) g3
  obtain ⟨e, he, hq⟩ := zloop_up (body := X7_openLedger_b25 (some 0) (some (rs s + 39)) (some 2) 40)
    (fun i t => t.1 = (i : Int) ∧ ∃ A', t.2 = zM A' K I L F E dyn ∧ A' 8 3 = I 18 s ∧ A' 8 4 = I 19 s ∧ A' 8 5 = len ∧ A' 8 6 = I 21 s ∧ (∀ d, d < i → zLgrd A' (zu I 17 s len) s d) ∧ (∀ d, i ≤ d → d < 40 → A' 11 d = 0) ∧ (∀ c, c ≠ 8 → c ≠ 9 → c ≠ 10 → c ≠ 11 → A' c = A c))
    (fun e => ∃ A', e = zM A' K I L F E dyn ∧ zLgr A' (zu I 17 s len) s ∧ (∀ c, c ≠ 8 → c ≠ 9 → c ≠ 10 → c ≠ 11 → A' c = A c)) 40 (by
    rintro i ⟨t1, t2⟩ hi ⟨ht1, A1, ht2, b3, b4, b5, b6, bd, b11, bf⟩
    simp only at ht1 ht2
    subst ht1 ht2
    unfold X7_openLedger_b25
    simp only
    rw [if_neg (by omega), za_2b (by omega) (by omega), Int.toNat_natCast, k_placeOf hb hS hD hP (zVA_5 hV) hi hs, zb]
    refine Or.inl ?_
    rcases zpf_at (s := s) hP hi with ⟨z1, z2⟩ | ⟨z1, r, z2, z3⟩
    · rw [z1, if_pos rfl, zckb (by omega) (by omega)]
      refine ⟨_, rfl, rfl, A1, rfl, b3, b4, b5, b6, fun d hd => ?_, fun d hd1 hd2 => b11 d (by omega) hd2, bf⟩
      rcases zlt_s hd with y | y
      · exact bd d y
      · subst y
        refine Or.inl ⟨b11 d (by omega) hi, fun p hp hps => ?_⟩
        rw [zu_c (by omega)] at hps
        exact absurd hps (zpo_no z2 hp)
    · obtain ⟨q1, q2, q3⟩ := zpo_at z1
      have q80 : (zpo I i s).toNat < 80 := by omega
      obtain ⟨p1, p2, p3⟩ := hLV.2.2.2.2.2 _ q80 q2
      have p4 : 10 ≤ I 25 (zpo I i s).toNat ∧ I 25 (zpo I i s).toNat / 10 ≤ I 21 s := (zV4_at (zVA_4 hV) q80 q2).2.2.2
      rw [z2, if_neg (fun y => by cases y), zg_0_3b, zgPlc_0b z3, zgPlc_2b z3, zgPlc_3b z3, zgPlc_4b z3, zo_8b]
      have ee := k_enter (A := A1) (K := K) (I := I) (L := L) (F := F) (E := E) (dyn := dyn) (J := zu I 17 s len) (s := s) (d := i) (m := I 23 (zpo I i s).toNat) (lf := if I 24 (zpo I i s).toNat = 108 then 1 else 0) (a := I 25 (zpo I i s).toNat) (by rw [b4, zu_c (by omega)]) (by rw [b5, zu_eq]) hl (by omega) hi (by split <;> omega) (by omega)
      rw [ee, zb, zckb (by omega) (by omega)]
      refine ⟨_, rfl, rfl, _, rfl, ?_, ?_, ?_, ?_, fun d hd => ?_, fun d hd1 hd2 => ?_, fun c c1 c2 c3 c4 => ?_⟩
      · rw [zLE_8 (by omega), b3]
      · rw [zLE_8 (by omega), b4]
      · rw [zLE_8 (by omega), b5]
      · rw [zLE_86, b6]
        unfold zmax
        split <;> omega
      · by_cases y : d = i
        · subst y
          refine Or.inr ⟨(zpo I d s).toNat, q1, ?_⟩
          rw [zLE_9, zLE_10, zLE_11, if_pos rfl, if_pos rfl, if_pos rfl, zu_c (by omega), zu_c (by omega), zu_c (by omega)]
          refine ⟨q2, p4.1, rfl, ?_, rfl⟩
          unfold zky
          rw [zu_c (by omega), q1]
        · exact zLgrd_o y (bd d (by omega))
      · rw [zLE_11, if_neg (by omega)]
        exact b11 d (by omega) hd2
      · rw [zLE_c (by omega)]
        exact bf c c1 c2 c3 c4) (by
    rintro ⟨t1, t2⟩ ⟨ht1, A1, ht2, b3, b4, b5, b6, bd, b11, bf⟩
    simp only at ht1 ht2
    subst ht1 ht2
    unfold X7_openLedger_b25
    rw [if_pos (by omega)]
    refine ⟨_, rfl, A1, rfl, ⟨?_, ?_, ?_, ?_, bd⟩, bf⟩
    · rw [b3, zu_c (by omega)]
    · rw [b4, zu_c (by omega)]
    · rw [b5, zu_eq]
    · rw [b6, zu_c (by omega)]) (0, zM A0 K I L F E dyn) ⟨rfl, A0, rfl, a3, a4, a5, a6, fun d hd => absurd hd (by omega), fun d _ hd => a11 d hd, af⟩ (by omega)
  obtain ⟨A', rfl, h2, h3⟩ := hq
  unfold X7_openLedger
  rw [zg_0_3b, zgStr_7b (hS.1 s hs).2, zo_8b, e0, zb, zg_0_1b, zl_2b, he, zb]
  exact ⟨A', rfl, h2, h3⟩
