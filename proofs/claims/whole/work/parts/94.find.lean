-- ===== find, send, until of the class =====
abbrev zmt (I : zIT) (L : zLT) (a : Int) (p : Nat) : Prop := I 22 p ≠ -1 ∧ L 14 26 ≠ 0 ∧ I 25 p = a ∧ (L 15 (I 22 p).toNat = L 14 26 ∨ L 16 (I 22 p).toNat = L 14 26)
theorem znw_spec {I : zIT} {L : zLT} {a : Int} : ∀ n : Nat, (znw I L a n = -1 ∧ ∀ p, p < n → ¬ zmt I L a p) ∨ (∃ p, p < n ∧ zmt I L a p ∧ znw I L a n = ((p / 2 : Nat) : Int))
  | 0 => Or.inl ⟨rfl, fun p hp => absurd hp (Nat.not_lt_zero p)⟩
  | n + 1 => by
    have e : znw I L a (n + 1) = if zmt I L a n then ((n / 2 : Nat) : Int) else znw I L a n := rfl
    rw [e]
    by_cases c : zmt I L a n
    · rw [if_pos c]
      exact Or.inr ⟨n, by omega, c, rfl⟩
    · rw [if_neg c]
      rcases znw_spec n with ⟨h1, h2⟩ | ⟨p, h1, h2, h3⟩
      · refine Or.inl ⟨h1, fun p hp => ?_⟩
        rcases zlt_s hp with y | y
        · exact h2 p y
        · subst y
          exact c
      · exact Or.inr ⟨p, by omega, h2, h3⟩
theorem zmt_one {I : zIT} {L : zLT} {B a : Int} {rk : Nat → Nat} {p q : Nat} (hV : zVA I L B rk) (hp : p < 80) (hq : q < 80) (h1 : zmt I L a p) (h2 : zmt I L a q) : p = q := by
  obtain ⟨a1, a2, a3, a4⟩ := h1
  obtain ⟨b1, b2, b3, b4⟩ := h2
  obtain ⟨⟨c1, c2, c3⟩, _⟩ := zVA_4 hV p hp a1
  obtain ⟨⟨d1, d2, d3⟩, _⟩ := zVA_4 hV q hq b1
  by_cases c : p = q
  · exact c
  · exfalso
    by_cases e : I 22 p = I 22 q
    · exact zVA_6 hV p q hp hq c a1 e (by omega)
    · have hne : (I 22 p).toNat ≠ (I 22 q).toNat := by omega
      have v := zVA_3 hV (I 22 p).toNat (I 22 q).toNat (by omega) (by omega) hne c3 d3
      have v' := zVA_3 hV (I 22 q).toNat (I 22 p).toNat (by omega) (by omega) hne.symm d3 c3
      rcases a4 with a4 | a4
      · rcases b4 with b4 | b4
        · exact v.1 (a4.trans b4.symm)
        · exact v.2.1 (a4.trans b4.symm)
      · rcases b4 with b4 | b4
        · exact v'.2.1 (b4.trans a4.symm)
        · exact v.2.2 (by rw [a4]; exact a2) (a4.trans b4.symm)
theorem k_isAddress {A : zIT} {K : zLT} {I : zIT} {L : zLT} {F : zFT} {E : zET} {dyn : zH} {rs : Nat → Nat} {fp : Nat → Option Nat} {p r : Nat} {a : Int} (hS : zRS I L F dyn rs) (hP : zRP I dyn rs fp) {B : Int} (h1 : zV1 I L B) (ht : zvn (L 14 26)) (hp : p < 80) (hr : fp p = some (r + 39)) : zbl ((zobj (zM A K I L F E dyn) (some (r + 39)) 6).bind fun _ => X5_isAddress (zM A K I L F E dyn) (some (r + 39)) (c5 (L 14 26)) a) (zmt I L a p) := by
  rcases hP p hp with ⟨g1, g2⟩ | ⟨g1, g2, r1, g3, g4⟩
  · rw [g2] at hr
    cases hr
  · rw [g3] at hr
    injection hr with hr
    have e : r1 = r := by omega
    subst e
    have hs : ((I 22 p).toNat : Int) < I 14 7 := by omega
    have hsc := (hS.1 (I 22 p).toNat hs).2
    have hv := h1 _ hs
    rw [zoPlcb g4]
    unfold X5_isAddress zmt
    rw [zgPlc_4b g4]
    by_cases c : a = I 25 p
    · rw [if_pos c, zgPlc_1b g4, if_neg (fun y => by cases y), zgPlc_1b g4, zoStrb hsc]
      rcases k_hasName (A := A) (K := K) (I := I) (L := L) (F := F) (E := E) hsc hv.1 hv.2.1 ht with ⟨e2, h2⟩ | ⟨e2, h2⟩
      · rw [e2, zb, if_neg (by omega)]
        exact Or.inl ⟨rfl, by omega, h2.1, c.symm, h2.2⟩
      · rw [e2, zb, if_pos rfl]
        exact Or.inr ⟨rfl, fun y => h2 ⟨y.2.1, y.2.2.2⟩⟩
    · rw [if_neg c]
      exact Or.inr ⟨rfl, fun y => c y.2.2.1.symm⟩
theorem k_hasAddress {A : zIT} {K : zLT} {I : zIT} {L : zLT} {F : zFT} {E : zET} {dyn : zH} {rs rd : Nat → Nat} {fp : Nat → Option Nat} {d : Nat} {a : Int} (hS : zRS I L F dyn rs) (hD : zRD I F dyn rd fp) (hP : zRP I dyn rs fp) {B : Int} (h1 : zV1 I L B) (ht : zvn (L 14 26)) (hd : (d : Int) < I 14 14) (hd4 : d < 40) : zbl (X0_hasAddress (zM A K I L F E dyn) (some (rd d + 39)) (c5 (L 14 26)) a) (zmt I L a (2 * d) ∨ zmt I L a (2 * d + 1)) := by
  have hdc := (hD.1 d hd).2
  have no : ∀ p, p < 80 → fp p = none → ¬ zmt I L a p := by
    intro p hp h h2
    rcases hP p hp with ⟨g1, g2⟩ | ⟨g1, g2, r1, g3, g4⟩
    · exact h2.1 g1
    · rw [h] at g3
      cases g3
  have j19 : zbl (X0_hasAddress_j19 (zM A K I L F E dyn) (some (rd d + 39)) (c5 (L 14 26)) a) (zmt I L a (2 * d + 1)) := by
    unfold X0_hasAddress_j19
    rw [zgDor_2b hdc]
    by_cases c : fp (2 * d + 1) = none
    · rw [if_pos c]
      exact Or.inr ⟨rfl, no _ (by omega) c⟩
    · rw [if_neg c, zgDor_2b hdc]
      obtain ⟨r, hr⟩ : ∃ r, fp (2 * d + 1) = some (r + 39) := by
        rcases hP (2 * d + 1) (by omega) with ⟨g1, g2⟩ | ⟨g1, g2, r1, g3, g4⟩
        · exact absurd g2 c
        · exact ⟨r1, g3⟩
      rw [hr]
      rcases k_isAddress (A := A) (K := K) (E := E) (a := a) hS hP h1 ht (by omega) hr with ⟨e2, h2⟩ | ⟨e2, h2⟩
      · rw [e2, zb, if_neg (by omega)]
        exact Or.inl ⟨rfl, h2⟩
      · rw [e2, zb, if_pos rfl]
        exact Or.inr ⟨rfl, h2⟩
  unfold X0_hasAddress
  rw [zgDor_1b hdc]
  by_cases c : fp (2 * d) = none
  · rw [if_pos c]
    rcases j19 with ⟨e, h⟩ | ⟨e, h⟩
    · exact Or.inl ⟨e, Or.inr h⟩
    · exact Or.inr ⟨e, fun y => y.elim (no _ (by omega) c) h⟩
  · rw [if_neg c, zgDor_1b hdc]
    obtain ⟨r, hr⟩ : ∃ r, fp (2 * d) = some (r + 39) := by
      rcases hP (2 * d) (by omega) with ⟨g1, g2⟩ | ⟨g1, g2, r1, g3, g4⟩
      · exact absurd g2 c
      · exact ⟨r1, g3⟩
    rw [hr]
    rcases k_isAddress (A := A) (K := K) (E := E) (a := a) hS hP h1 ht (by omega) hr with ⟨e2, h2⟩ | ⟨e2, h2⟩
    · rw [e2, zb, if_neg (by omega)]
      exact Or.inl ⟨rfl, Or.inl h2⟩
    · rw [e2, zb, if_pos rfl]
      rcases j19 with ⟨e, h⟩ | ⟨e, h⟩
      · exact Or.inl ⟨e, Or.inr h⟩
      · exact Or.inr ⟨e, fun y => y.elim h2 h⟩
theorem k_doorNow {A : zIT} {K : zLT} {I : zIT} {L : zLT} {F : zFT} {E : zET} {dyn : zH} {rs rd : Nat → Nat} {fp : Nat → Option Nat} {B a : Int} {rk : Nat → Nat} (hV : zVA I L B rk) (hS : zRS I L F dyn rs) (hD : zRD I F dyn rd fp) (hP : zRP I dyn rs fp) : X7_doorNow (zM A K I L F E dyn) (some 0) (c5 (L 14 26)) a = some (zrf rd (znw I L a (2 * I 14 14).toNat)) := by
  have hb := zVA_B hV
  unfold zB at hb
  have ht := (zVA_t hV).1
  have h1 := zVA_1 hV
  obtain ⟨e, he, hq⟩ := zloop_up (body := X7_doorNow_b14 (c5 (L 14 26)) a (some 2) 40 (zM A K I L F E dyn)) (fun i s => s = (i : Int) ∧ ∀ p : Nat, p < 80 → p / 2 < i → ¬ zmt I L a p)
    (fun e => (e = .inl () ∧ ∀ p : Nat, p < 80 → ¬ zmt I L a p) ∨ (∃ p : Nat, p < 80 ∧ zmt I L a p ∧ e = .inr (some (rd (p / 2) + 39)))) 40 (by
    rintro i s hi ⟨hs, hn⟩
    subst hs
    unfold X7_doorNow_b14
    rw [if_neg (by omega), za_2b (by omega) (by omega), Int.toNat_natCast]
    by_cases c : (i : Int) < I 14 14
    · rw [(hD.1 i c).1, if_neg (fun y => by cases y), zoDorb (hD.1 i c).2]
      rcases k_hasAddress (A := A) (K := K) (E := E) (a := a) hS hD hP h1 ht c hi with ⟨e2, h2⟩ | ⟨e2, h2⟩
      · rw [e2, zb, if_neg (by omega)]
        rcases h2 with h2 | h2
        · exact Or.inr ⟨_, rfl, Or.inr ⟨2 * i, by omega, h2, by rw [show 2 * i / 2 = i by omega]⟩⟩
        · exact Or.inr ⟨_, rfl, Or.inr ⟨2 * i + 1, by omega, h2, by rw [show (2 * i + 1) / 2 = i by omega]⟩⟩
      · rw [e2, zb, if_pos rfl, zckb (by omega) (by omega)]
        refine Or.inl ⟨_, rfl, rfl, fun p hp hp2 => ?_⟩
        by_cases c2 : p / 2 = i
        · rcases show p = 2 * i ∨ p = 2 * i + 1 by omega with rfl | rfl
          · exact fun y => h2 (Or.inl y)
          · exact fun y => h2 (Or.inr y)
        · exact hn p hp (by omega)
    · rw [hD.2 i (by omega), if_pos rfl, zckb (by omega) (by omega)]
      refine Or.inl ⟨_, rfl, rfl, fun p hp hp2 => ?_⟩
      by_cases c2 : p / 2 = i
      · exact fun y => y.1 (zVA_5 hV p (by omega))
      · exact hn p hp (by omega)) (by
    rintro s ⟨hs, hn⟩
    subst hs
    unfold X7_doorNow_b14
    rw [if_pos (by omega)]
    exact ⟨_, rfl, Or.inl ⟨rfl, fun p hp => hn p hp (by omega)⟩⟩) 0 ⟨rfl, fun p _ hp => absurd hp (by omega)⟩ (by omega)
  unfold X7_doorNow
  rw [zg_0_1b, zl_2b, he, zb]
  have hn8 : ∀ p : Nat, p < (2 * I 14 14).toNat → p < 80 := fun p hp => by omega
  rcases hq with ⟨rfl, h⟩ | ⟨p, hp, hm, rfl⟩
  · rcases znw_spec (I := I) (L := L) (a := a) (2 * I 14 14).toNat with ⟨g1, _⟩ | ⟨q, g1, g2, _⟩
    · rw [g1]
      rfl
    · exact absurd g2 (h q (hn8 q g1))
  · rcases znw_spec (I := I) (L := L) (a := a) (2 * I 14 14).toNat with ⟨_, g2⟩ | ⟨q, g1, g2, g3⟩
    · refine absurd hm (g2 p ?_)
      rcases Nat.lt_or_ge p (2 * I 14 14).toNat with y | y
      · exact y
      · exact absurd (zVA_5 hV p (by omega)) hm.1
    · have := zmt_one hV hp (hn8 q g1) hm g2
      subst this
      rw [g3]
      unfold zrf
      rw [if_pos (by omega), Int.toNat_natCast]
abbrev zml (I : zIT) (L : zLT) (a : Int) (k : Nat) : Prop := L 14 26 ≠ 0 ∧ L 28 k = L 14 26 ∧ I 29 k = a
theorem zla_skip {I : zIT} {L : zLT} {a : Int} {m : Nat} : ∀ n : Nat, m ≤ n → (∀ k, m ≤ k → k < n → ¬ zml I L a k) → zla I L a n = zla I L a m
  | 0, h, _ => by rw [show m = 0 by omega]
  | n + 1, h, hk => by
    by_cases c : m = n + 1
    · rw [c]
    · have e : zla I L a (n + 1) = if zml I L a n then (n : Int) else zla I L a n := rfl
      rw [e, if_neg (hk n (by omega) (by omega)), zla_skip n (by omega) (fun k k1 k2 => hk k k1 (by omega))]
theorem k_newest {A : zIT} {K : zLT} {I : zIT} {L : zLT} {F : zFT} {E : zET} {dyn : zH} {a : Int} (hb : zB I) (hO : zRO A K I L) (h9 : zV9 I L) (ht : zvn (L 14 26)) : X3_newest (zM A K I L F E dyn) (some 3) (c5 (L 14 26)) a = some (if zla I L a (I 14 19).toNat = -1 then -1 else (zix (A 3 4) (A 3 5) (zla I L a (I 14 19).toNat).toNat : Int)) := by
  obtain ⟨o1, o2, o3, o4, o5⟩ := hO
  unfold zB at hb
  have hm : ∀ k : Nat, (k : Int) < I 14 19 → ((K 4 (zix (A 3 4) (A 3 5) k) = c5 (L 14 26) ∧ A 5 (zix (A 3 4) (A 3 5) k) = a) ↔ zml I L a k) := by
    intro k hk
    obtain ⟨g1, g2, g3, g4⟩ := o5 k hk
    obtain ⟨v1, v2, _⟩ := h9 k hk
    rw [g1, g2]
    constructor
    · rintro ⟨e1, e2⟩
      have e := c5_inj v1 ht e1
      exact ⟨by rw [← e]; exact v2, e, e2⟩
    · rintro ⟨e0, e1, e2⟩
      exact ⟨by rw [e1], e2⟩
  have hrow : ∀ {hp : zH} {v : Int}, 0 ≤ v → v < 200 → X3_isRow hp v = some 1 := fun h1 h2 => k_isRow ⟨h1, h2⟩
  obtain ⟨e, he, hq⟩ := zloop_up (body := X3_newest_b3 (some 3) (c5 (L 14 26)) a (zM A K I L F E dyn)) (fun i s => s = (i : Int) + 1 ∧ ∀ k : Nat, I 14 19 - i ≤ (k : Int) → (k : Int) < I 14 19 → ¬ zml I L a k)
    (fun e => e = if zla I L a (I 14 19).toNat = -1 then Sum.inl () else Sum.inr (zix (A 3 4) (A 3 5) (zla I L a (I 14 19).toNat).toNat : Int)) (I 14 19).toNat (by
    rintro i s hi ⟨hs, hn⟩
    subst hs
    obtain ⟨k, hk⟩ : ∃ k : Nat, (k : Int) = I 14 19 - 1 - i := ⟨(I 14 19 - 1 - i).toNat, by omega⟩
    have j43 : ∀ row : Int, row = (zix (A 3 4) (A 3 5) k : Int) → (∃ s', X3_newest_j43 (some 3) (c5 (L 14 26)) a (zM A K I L F E dyn) ((i : Int) + 1) row = some (.inl s') ∧ s' = ((i + 1 : Nat) : Int) + 1 ∧ ∀ k : Nat, I 14 19 - ((i + 1 : Nat) : Int) ≤ (k : Int) → (k : Int) < I 14 19 → ¬ zml I L a k) ∨
        (∃ e, X3_newest_j43 (some 3) (c5 (L 14 26)) a (zM A K I L F E dyn) ((i : Int) + 1) row = some (.inr e) ∧ e = if zla I L a (I 14 19).toNat = -1 then Sum.inl () else Sum.inr (zix (A 3 4) (A 3 5) (zla I L a (I 14 19).toNat).toNat : Int)) := by
      rintro row rfl
      have hz : zix (A 3 4) (A 3 5) k < 200 := by
        unfold zix
        repeat' split
        all_goals omega
      have next : ¬ zml I L a k → ∀ k : Nat, I 14 19 - ((i + 1 : Nat) : Int) ≤ (k : Int) → (k : Int) < I 14 19 → ¬ zml I L a k := by
        intro hno k' k1 k2
        by_cases c : k' = k
        · rw [c]
          exact hno
        · exact hn k' (by omega) k2
      have h := hm k (by omega)
      unfold X3_newest_j43
      rw [hrow (by omega) (by omega), zb, if_neg (by omega), zg_3_0b, za_4b (by omega) (by omega), Int.toNat_natCast]
      by_cases c1 : K 4 (zix (A 3 4) (A 3 5) k) = c5 (L 14 26)
      · rw [if_pos (zcmp_0.2 c1), zg_3_1b, za_5b (by omega) (by omega), Int.toNat_natCast]
        by_cases c2 : A 5 (zix (A 3 4) (A 3 5) k) = a
        · rw [if_pos c2]
          have hk2 := h.1 ⟨c1, c2⟩
          have e1 : zla I L a (I 14 19).toNat = k := by
            rw [zla_skip (m := k + 1) (I 14 19).toNat (by omega) (fun k' k1 k2 => hn k' (by omega) (by omega))]
            have e : zla I L a (k + 1) = if zml I L a k then (k : Int) else zla I L a k := rfl
            rw [e, if_pos hk2]
          refine Or.inr ⟨_, rfl, ?_⟩
          rw [e1, if_neg (by omega), Int.toNat_natCast]
        · rw [if_neg c2, zckb (by omega) (by omega)]
          exact Or.inl ⟨_, rfl, by omega, next (fun y => c2 (h.2 y).2)⟩
      · rw [if_neg (fun y => c1 (zcmp_0.1 y)), zckb (by omega) (by omega)]
        exact Or.inl ⟨_, rfl, by omega, next (fun y => c1 (h.2 y).1)⟩
    have hzi : (zix (A 3 4) (A 3 5) k : Int) = if 0 ≤ A 3 5 - ((i : Int) + 1) then A 3 5 - ((i : Int) + 1) else A 3 5 - ((i : Int) + 1) + 200 := by
      unfold zix
      repeat' split
      all_goals omega
    unfold X3_newest_b3
    rw [zg_3_4b, if_neg (by omega), zg_3_5b, zckb (by omega) (by omega)]
    by_cases c : 0 ≤ A 3 5 - ((i : Int) + 1)
    · rw [if_pos c, zg_3_5b, zckb (by omega) (by omega)]
      rw [if_pos c] at hzi
      exact j43 _ hzi.symm
    · rw [if_neg c, zg_3_5b, zckb (by omega) (by omega), zckb (by omega) (by omega)]
      rw [if_neg c] at hzi
      exact j43 _ hzi.symm) (by
    rintro s ⟨hs, hn⟩
    subst hs
    unfold X3_newest_b3
    rw [zg_3_4b, if_pos (by omega)]
    have e1 : zla I L a (I 14 19).toNat = -1 := by
      rw [zla_skip (m := 0) (I 14 19).toNat (by omega) (fun k k1 k2 => hn k (by omega) (by omega))]
      rfl
    rw [e1]
    exact ⟨_, rfl, rfl⟩) 1 ⟨by omega, fun k k1 k2 => absurd k1 (by omega)⟩ (by omega)
  unfold X3_newest
  rw [he, zb, hq]
  by_cases c : zla I L a (I 14 19).toNat = -1
  · rw [if_pos c, if_pos c]
  · rw [if_neg c, if_neg c]
theorem k_find {A : zIT} {K : zLT} {I : zIT} {L : zLT} {F : zFT} {E : zET} {dyn : zH} {rs rd : Nat → Nat} {fp : Nat → Option Nat} {B a : Int} {rk : Nat → Nat} (hV : zVA I L B rk) (hR : zRL A K I L F dyn rs rd fp) : X7_find (zM A K I L F E dyn) (some 0) a = if znw I L a (2 * I 14 14).toNat = -1 then some (.inr 4) else some (.inl (znw I L a (2 * I 14 14).toNat)) := by
  obtain ⟨hS, hD, hP, hO, hK7, h8, h5, h6⟩ := hR
  have hb := zVA_B hV
  unfold zB at hb
  unfold X7_find
  rw [zg_0_7b, hK7, zo_0b, k_doorNow hV hS hD hP, zb]
  rcases znw_spec (I := I) (L := L) (a := a) (2 * I 14 14).toNat with ⟨g1, _⟩ | ⟨q, g1, g2, g3⟩
  · rw [g1, if_pos rfl]
    rfl
  · have ez : zrf rd (znw I L a (2 * I 14 14).toNat) = some (rd (q / 2) + 39) := by
      rw [g3]
      unfold zrf
      rw [if_pos (by omega), Int.toNat_natCast]
    rw [ez, if_neg (fun y => by cases y), zgDor_0b (hD.1 (q / 2) (by omega)).2, if_neg (by omega), g3]
theorem k_until {A : zIT} {K : zLT} {I : zIT} {L : zLT} {F : zFT} {E : zET} {dyn : zH} {rs rd : Nat → Nat} {fp : Nat → Option Nat} {B a : Int} {rk : Nat → Nat} (hV : zVA I L B rk) (hR : zRL A K I L F dyn rs rd fp) : X7_until (zM A K I L F E dyn) (some 0) a = if zla I L a (I 14 19).toNat = -1 then some (.inr 4) else some (.inl (I 31 (zla I L a (I 14 19).toNat).toNat)) := by
  obtain ⟨hS, hD, hP, hO, hK7, h8, h5, h6⟩ := hR
  have hb := zVA_B hV
  have hin := zla_in (I := I) (L := L) (a := a) (I 14 19).toNat
  have hb' := hb
  unfold zB at hb'
  unfold X7_until
  rw [zg_0_2b, zg_0_7b, hK7, zo_3b, k_newest hb hO (zVA_9 hV) (zVA_t hV).1, zb]
  by_cases c : zla I L a (I 14 19).toNat = -1
  · rw [if_pos c, if_pos c, if_neg (by omega)]
  · have hz : zix (A 3 4) (A 3 5) (zla I L a (I 14 19).toNat).toNat < 200 := by
      have := hO.2.1
      have := hO.2.2.1
      unfold zix
      repeat' split
      all_goals omega
    have g := (hO.2.2.2.2 (zla I L a (I 14 19).toNat).toNat (by omega)).2.2.2
    rw [if_neg c, if_neg c, if_pos (by omega), zg_0_2b, zo_3b]
    unfold X3_dayIn
    rw [k_isRow ⟨by omega, by omega⟩, zb, if_neg (by omega), zg_3_3b, za_7b (by omega) (by omega), Int.toNat_natCast, g, zb]
theorem k_send {A : zIT} {K : zLT} {I : zIT} {L : zLT} {F : zFT} {E : zET} {dyn : zH} {rs rd : Nat → Nat} {fp : Nat → Option Nat} {B a : Int} {rk : Nat → Nat} (hV : zVA I L B rk) (hR : zRL A K I L F dyn rs rd fp) : X7_send (zM A K I L F E dyn) (some 0) a = if znw I L a (2 * I 14 14).toNat ≠ -1 then some (.inl (znw I L a (2 * I 14 14).toNat)) else if zla I L a (I 14 19).toNat = -1 then some (.inr 4) else
    if zend I 40 (I 30 (zla I L a (I 14 19).toNat).toNat) < 0 then some (.inr 2) else some (.inl (zend I 40 (I 30 (zla I L a (I 14 19).toNat).toNat))) := by
  obtain ⟨hS, hD, hP, hO, hK7, h8, h5, h6⟩ := hR
  have hb := zVA_B hV
  have hin := zla_in (I := I) (L := L) (a := a) (I 14 19).toNat
  have hb' := hb
  unfold zB at hb'
  have hl : ∀ d : Nat, (d : Int) < I 14 14 → 0 ≤ I 27 d → I 27 d < I 14 14 := fun d h1 h2 => zld_lt hV h1 h2
  unfold X7_send
  rw [zg_0_7b, hK7, zo_0b, k_doorNow hV hS hD hP, zb]
  rcases znw_spec (I := I) (L := L) (a := a) (2 * I 14 14).toNat with ⟨g1, _⟩ | ⟨q, g1, g2, g3⟩
  · have ez : zrf rd (znw I L a (2 * I 14 14).toNat) = none := by
      rw [g1]
      rfl
    rw [ez, if_pos rfl, if_neg (fun y => y g1), zg_0_2b, zg_0_7b, hK7, zo_3b, k_newest hb hO (zVA_9 hV) (zVA_t hV).1, zb]
    by_cases c : zla I L a (I 14 19).toNat = -1
    · rw [if_pos c, if_pos c, if_neg (by omega)]
    · have hz : zix (A 3 4) (A 3 5) (zla I L a (I 14 19).toNat).toNat < 200 := by
        have := hO.2.1
        have := hO.2.2.1
        unfold zix
        repeat' split
        all_goals omega
      have g := (hO.2.2.2.2 (zla I L a (I 14 19).toNat).toNat (by omega)).2.2.1
      have g9 := (zVA_9 hV (zla I L a (I 14 19).toNat).toNat (by omega)).2.2
      rw [if_neg c, if_neg c, if_pos (by omega), zg_0_2b, zo_3b]
      unfold X3_doorIn
      rw [k_isRow ⟨by omega, by omega⟩, zb, if_neg (by omega), zg_3_2b, za_6b (by omega) (by omega), Int.toNat_natCast, g, zb, zo_0b]
      rcases k_doorAt (A := A) (K := K) (L := L) (E := E) hb hD (I 30 (zla I L a (I 14 19).toNat).toNat) with ⟨e, _⟩ | ⟨_, hx⟩
      · have er : zrf rd (I 30 (zla I L a (I 14 19).toNat).toNat) = some (rd (I 30 (zla I L a (I 14 19).toNat).toNat).toNat + 39) := if_pos g9.1
        rw [e, zb, ← er, k_endOf hD hl (by omega) g9.2, zb]
        have hlt := zend_lt hl (by omega) 40 _ g9.2
        by_cases c2 : zend I 40 (I 30 (zla I L a (I 14 19).toNat).toNat) < 0
        · have e2 : zrf rd (zend I 40 (I 30 (zla I L a (I 14 19).toNat).toNat)) = none := if_neg (by omega)
          rw [if_pos c2, e2, if_pos rfl]
        · rw [if_neg c2]
          have e2 : zrf rd (zend I 40 (I 30 (zla I L a (I 14 19).toNat).toNat)) = some (rd (zend I 40 (I 30 (zla I L a (I 14 19).toNat).toNat)).toNat + 39) := if_pos (by omega)
          have e3 : (((zend I 40 (I 30 (zla I L a (I 14 19).toNat).toNat)).toNat : Nat) : Int) = zend I 40 (I 30 (zla I L a (I 14 19).toNat).toNat) := Int.toNat_of_nonneg (by omega)
          rw [e2, if_neg (fun y => by cases y), zgDor_0b (hD.1 _ (by rw [e3]; exact hlt)).2, e3]
      · exact absurd ⟨g9.1, g9.2⟩ hx
  · have ez : zrf rd (znw I L a (2 * I 14 14).toNat) = some (rd (q / 2) + 39) := by
      rw [g3]
      unfold zrf
      rw [if_pos (by omega), Int.toNat_natCast]
    rw [ez, if_neg (fun y => by cases y), zgDor_0b (hD.1 (q / 2) (by omega)).2, if_pos (by omega), g3]
