-- ===== the ledger: before, after, the least free number =====
def zaC (A : zIT) (lf : Int) (j : Nat) : Prop := A 11 j ≠ 0 ∧ A 10 j = lf
def zbf (A : zIT) (lf key : Int) (i : Nat) (num near : Int) : Prop := (near = -1 ∧ num = 0 ∧ ∀ j : Nat, j < i → zaC A lf j → ¬ A 9 j < key) ∨
  (∃ j : Nat, j < i ∧ zaC A lf j ∧ A 9 j < key ∧ near = A 9 j ∧ num = A 11 j / 10 ∧ ∀ j' : Nat, j' < i → zaC A lf j' → A 9 j' < key → A 9 j' ≤ A 9 j)
def zaf (A : zIT) (lf key : Int) (i : Nat) (num near : Int) : Prop := (near = 64000 ∧ num = 0 ∧ ∀ j : Nat, j < i → zaC A lf j → A 9 j ≤ key) ∨
  (∃ j : Nat, j < i ∧ zaC A lf j ∧ ¬ A 9 j ≤ key ∧ near = A 9 j ∧ num = A 11 j / 10 ∧ ∀ j' : Nat, j' < i → zaC A lf j' → ¬ A 9 j' ≤ key → A 9 j ≤ A 9 j')
theorem zlt_s {j i : Nat} (h : j < i + 1) : j < i ∨ j = i := Nat.lt_or_eq_of_le (Nat.le_of_lt_succ h)
theorem zbf_skip {A : zIT} {lf key num near : Int} {i : Nat} (h : zbf A lf key i num near) (h0 : zaC A lf i → 0 ≤ A 9 i) (hn : zaC A lf i → A 9 i < key → A 9 i ≤ near) : zbf A lf key (i + 1) num near := by
  rcases h with ⟨h1, h2, h3⟩ | ⟨j, h1, h2, h3, h4, h5, h6⟩
  · refine Or.inl ⟨h1, h2, fun j hj hc hk => ?_⟩
    rcases zlt_s hj with y | y
    · exact h3 j y hc hk
    · subst y
      have := hn hc hk
      have := h0 hc
      omega
  · refine Or.inr ⟨j, by omega, h2, h3, h4, h5, fun j' hj hc hk => ?_⟩
    rcases zlt_s hj with y | y
    · exact h6 j' y hc hk
    · subst y
      have := hn hc hk
      omega
theorem zbf_take {A : zIT} {lf key num near : Int} {i : Nat} (h : zbf A lf key i num near) (hc : zaC A lf i) (hk : A 9 i < key) (hn : near < A 9 i) : zbf A lf key (i + 1) (A 11 i / 10) (A 9 i) := by
  refine Or.inr ⟨i, by omega, hc, hk, rfl, rfl, fun j' hj hc' hk' => ?_⟩
  rcases zlt_s hj with y | y
  · rcases h with ⟨h1, h2, h3⟩ | ⟨j, h1, h2, h3, h4, h5, h6⟩
    · exact absurd hk' (h3 j' y hc')
    · have := h6 j' y hc' hk'
      omega
  · subst y
    exact Int.le_refl _
theorem zaf_skip {A : zIT} {lf key num near : Int} {i : Nat} (h : zaf A lf key i num near) (h0 : zaC A lf i → A 9 i < 64000) (hn : zaC A lf i → ¬ A 9 i ≤ key → near ≤ A 9 i) : zaf A lf key (i + 1) num near := by
  rcases h with ⟨h1, h2, h3⟩ | ⟨j, h1, h2, h3, h4, h5, h6⟩
  · refine Or.inl ⟨h1, h2, fun j hj hc => ?_⟩
    rcases zlt_s hj with y | y
    · exact h3 j y hc
    · subst y
      have := h0 hc
      have := hn hc
      omega
  · refine Or.inr ⟨j, by omega, h2, h3, h4, h5, fun j' hj hc hk => ?_⟩
    rcases zlt_s hj with y | y
    · exact h6 j' y hc hk
    · subst y
      have := hn hc hk
      omega
theorem zaf_take {A : zIT} {lf key num near : Int} {i : Nat} (h : zaf A lf key i num near) (hc : zaC A lf i) (hk : ¬ A 9 i ≤ key) (hn : A 9 i < near) : zaf A lf key (i + 1) (A 11 i / 10) (A 9 i) := by
  refine Or.inr ⟨i, by omega, hc, hk, rfl, rfl, fun j' hj hc' hk' => ?_⟩
  rcases zlt_s hj with y | y
  · rcases h with ⟨h1, h2, h3⟩ | ⟨j, h1, h2, h3, h4, h5, h6⟩
    · exact absurd (h3 j' y hc') hk'
    · have := h6 j' y hc' hk'
      omega
  · subst y
    exact Int.le_refl _
theorem k_numberBefore {A : zIT} {K : zLT} {I : zIT} {L : zLT} {F : zFT} {E : zET} {dyn : zH} (key lf : Int) (h0 : ∀ d, d < 40 → 0 ≤ A 11 d) (h9 : ∀ d, d < 40 → zaC A lf d → 0 ≤ A 9 d) : ∃ num near, X1_numberBefore (zM A K I L F E dyn) (some 8) key lf = some num ∧ zbf A lf key 40 num near := by
  unfold X1_numberBefore
  obtain ⟨e, he, near, hq⟩ := zloop_up (body := X1_numberBefore_b8 (some 8) key lf (zM A K I L F E dyn)) (fun i t => t.2.2 = (i : Int) ∧ zbf A lf key i t.1 t.2.1) (fun e => ∃ near, zbf A lf key 40 e near) 40 (by
    rintro i ⟨num, near, k⟩ hi ⟨hk, hu⟩
    simp only at hk hu
    subst hk
    unfold X1_numberBefore_b8
    simp only
    rw [if_neg (by omega), zg_8_2b, za_11b (by omega) (by omega), Int.toNat_natCast]
    refine Or.inl ?_
    by_cases c1 : A 11 i = 0
    · rw [if_pos c1, zckb (by omega) (by omega)]
      exact ⟨_, rfl, rfl, zbf_skip hu (h9 i hi) (fun y => absurd c1 y.1)⟩
    · rw [if_neg c1, zg_8_1b, za_10b (by omega) (by omega), Int.toNat_natCast]
      by_cases c2 : A 10 i = lf
      · rw [if_pos c2, zg_8_0b, za_9b (by omega) (by omega), Int.toNat_natCast]
        by_cases c3 : key ≤ A 9 i
        · rw [if_pos c3, zckb (by omega) (by omega)]
          exact ⟨_, rfl, rfl, zbf_skip hu (h9 i hi) (fun _ y => by omega)⟩
        · rw [if_neg c3, zg_8_0b, za_9b (by omega) (by omega), Int.toNat_natCast]
          by_cases c4 : A 9 i ≤ near
          · rw [if_pos c4, zckb (by omega) (by omega)]
            exact ⟨_, rfl, rfl, zbf_skip hu (h9 i hi) (fun _ _ => c4)⟩
          · rw [if_neg c4, zg_8_0b, za_9b (by omega) (by omega), zg_8_2b, za_11b (by omega) (by omega), Int.toNat_natCast, zdvb (h0 i hi) (by omega), zckb (by omega) (by omega)]
            exact ⟨_, rfl, rfl, zbf_take hu ⟨c1, c2⟩ (by omega) (by omega)⟩
      · rw [if_neg c2, zckb (by omega) (by omega)]
        exact ⟨_, rfl, rfl, zbf_skip hu (h9 i hi) (fun y => absurd y.2 c2)⟩) (by
    rintro ⟨num, near, k⟩ ⟨hk, hu⟩
    simp only at hk hu
    subst hk
    unfold X1_numberBefore_b8
    simp only
    rw [if_pos (by omega)]
    exact ⟨_, rfl, near, hu⟩) (0, -1, 0) ⟨rfl, Or.inl ⟨rfl, rfl, fun j hj => absurd hj (by omega)⟩⟩ (by omega)
  rw [he, zb]
  exact ⟨_, near, rfl, hq⟩
theorem k_numberAfter {A : zIT} {K : zLT} {I : zIT} {L : zLT} {F : zFT} {E : zET} {dyn : zH} (key lf : Int) (h0 : ∀ d, d < 40 → 0 ≤ A 11 d) (h9 : ∀ d, d < 40 → zaC A lf d → A 9 d < 64000) : ∃ num near, X1_numberAfter (zM A K I L F E dyn) (some 8) key lf = some num ∧ zaf A lf key 40 num near := by
  unfold X1_numberAfter
  obtain ⟨e, he, near, hq⟩ := zloop_up (body := X1_numberAfter_b9 (some 8) key lf (zM A K I L F E dyn)) (fun i t => t.2.2 = (i : Int) ∧ zaf A lf key i t.1 t.2.1) (fun e => ∃ near, zaf A lf key 40 e near) 40 (by
    rintro i ⟨num, near, k⟩ hi ⟨hk, hu⟩
    simp only at hk hu
    subst hk
    unfold X1_numberAfter_b9
    simp only
    rw [if_neg (by omega), zg_8_2b, za_11b (by omega) (by omega), Int.toNat_natCast]
    refine Or.inl ?_
    by_cases c1 : A 11 i = 0
    · rw [if_pos c1, zckb (by omega) (by omega)]
      exact ⟨_, rfl, rfl, zaf_skip hu (h9 i hi) (fun y => absurd c1 y.1)⟩
    · rw [if_neg c1, zg_8_1b, za_10b (by omega) (by omega), Int.toNat_natCast]
      by_cases c2 : A 10 i = lf
      · rw [if_pos c2, zg_8_0b, za_9b (by omega) (by omega), Int.toNat_natCast]
        by_cases c3 : A 9 i ≤ key
        · rw [if_pos c3, zckb (by omega) (by omega)]
          exact ⟨_, rfl, rfl, zaf_skip hu (h9 i hi) (fun _ y => absurd c3 y)⟩
        · rw [if_neg c3, zg_8_0b, za_9b (by omega) (by omega), Int.toNat_natCast]
          by_cases c4 : near ≤ A 9 i
          · rw [if_pos c4, zckb (by omega) (by omega)]
            exact ⟨_, rfl, rfl, zaf_skip hu (h9 i hi) (fun _ _ => c4)⟩
          · rw [if_neg c4, zg_8_0b, za_9b (by omega) (by omega), zg_8_2b, za_11b (by omega) (by omega), Int.toNat_natCast, zdvb (h0 i hi) (by omega), zckb (by omega) (by omega)]
            exact ⟨_, rfl, rfl, zaf_take hu ⟨c1, c2⟩ c3 (by omega)⟩
      · rw [if_neg c2, zckb (by omega) (by omega)]
        exact ⟨_, rfl, rfl, zaf_skip hu (h9 i hi) (fun y => absurd y.2 c2)⟩) (by
    rintro ⟨num, near, k⟩ ⟨hk, hu⟩
    simp only at hk hu
    subst hk
    unfold X1_numberAfter_b9
    simp only
    rw [if_pos (by omega)]
    exact ⟨_, rfl, near, hu⟩) (0, 64000, 0) ⟨rfl, Or.inl ⟨rfl, rfl, fun j hj => absurd hj (by omega)⟩⟩ (by omega)
  rw [he, zb]
  exact ⟨_, near, rfl, hq⟩
theorem zpig : ∀ (n k : Nat) (R : Nat → Nat → Prop), (∀ u, u < k → ∃ d, d < n ∧ R u d) → (∀ u v d, R u d → R v d → u = v) → k ≤ n
  | 0, k, R, h, _ => by
    rcases Nat.eq_zero_or_pos k with h0 | h0
    · omega
    · obtain ⟨d, hd, _⟩ := h 0 h0
      omega
  | n + 1, k, R, h, hi => by
    by_cases c : ∃ u0, u0 < k ∧ R u0 n
    · obtain ⟨u0, hu0, hr0⟩ := c
      have := zpig n (k - 1) (fun u d => R (if u < u0 then u else u + 1) d) (fun u hu => by
        obtain ⟨d, hd, hr⟩ := h (if u < u0 then u else u + 1) (by split <;> omega)
        refine ⟨d, ?_, hr⟩
        rcases zlt_s hd with y | y
        · exact y
        · subst y
          have := hi _ _ _ hr hr0
          split at this <;> omega) (fun u v d a b => by
        have := hi _ _ _ a b
        split at this <;> split at this <;> omega)
      omega
    · exact Nat.le_succ_of_le (zpig n k R (fun u hu => by
        obtain ⟨d, hd, hr⟩ := h u hu
        rcases zlt_s hd with y | y
        · exact ⟨d, y, hr⟩
        · subst y
          exact absurd ⟨u, hu, hr⟩ c) hi)
theorem k_leastFree34 {A : zIT} {K : zLT} {I : zIT} {L : zLT} {F : zFT} {E : zET} {dyn : zH} {G : Int → Prop} {par before after start num : Int} (h0 : ∀ d, d < 40 → 0 ≤ A 11 d) (hG : ∀ a, 1 ≤ a → (zex (fun d => A 11 d ≠ 0 ∧ A 11 d / 10 = a) 40 ↔ G a)) (hz : zfn G par before num) (hb : 0 ≤ before ∧ before ≤ 100000) (hs : start = before + 1 ∨ start = before + 2) (hp : start % 2 = par) : X1_leastFree_j34 (zM A K I L F E dyn) (some 8) after start = some (if after = 0 ∨ num < after then num else 0) := by
  obtain ⟨z1, z2, z3, z4, z5⟩ := hz
  have key : ∀ t : Nat, (∀ u : Nat, u < t → G (start + 2 * u)) → start + 2 * (t : Int) ≤ num := by
    intro t
    induction t with
    | zero =>
      intro _
      omega
    | succ t ih =>
      intro h
      have h1 := ih (fun u hu => h u (by omega))
      have h2 := h t (by omega)
      have h3 : start + 2 * (t : Int) ≠ num := fun y => z4 (y ▸ h2)
      omega
  unfold X1_leastFree_j34
  obtain ⟨e, he, hq⟩ := zloop_up (body := X1_leastFree_b39 (some 8) after (zM A K I L F E dyn)) (fun i t => t.2 = (i : Int) ∧ t.1 = start + 2 * (i : Int) ∧ i ≤ 41 ∧ ∀ u : Nat, u < i → G (start + 2 * u))
    (fun e => (e = .inr (.inl ()) ∧ after ≠ 0 ∧ after ≤ num) ∨ (e = .inr (.inr num) ∧ (after = 0 ∨ num < after))) 41 (by
    rintro i ⟨k, t⟩ hi ⟨ht, hk, h41, hg⟩
    simp only at ht hk
    subst ht hk
    have hle := key i hg
    unfold X1_leastFree_b39
    simp only
    rw [if_neg (by omega)]
    have fin : (after = 0 ∨ start + 2 * (i : Int) < after) → (∃ s', ((zobj (zM A K I L F E dyn) (some 8) 3).bind fun _ => X1_isNumberGiven (zM A K I L F E dyn) (some 8) (start + 2 * (i : Int))).bind (fun x10 => if x10 = 0 then some (Sum.inr (Sum.inr (Sum.inr (start + 2 * (i : Int))))) else (zchk (start + 2 * (i : Int) + 2)).bind fun v11 => (zchk ((i : Int) + 1)).bind fun v12 => some (Sum.inl (v11, v12))) = (some (.inl s') : Option ((Int × Int) ⊕ (Unit ⊕ (Unit ⊕ Int)))) ∧ (s'.2 = ((i + 1 : Nat) : Int) ∧ s'.1 = start + 2 * ((i + 1 : Nat) : Int) ∧ i + 1 ≤ 41 ∧ ∀ u : Nat, u < i + 1 → G (start + 2 * u))) ∨
        (∃ e : Unit ⊕ (Unit ⊕ Int), ((zobj (zM A K I L F E dyn) (some 8) 3).bind fun _ => X1_isNumberGiven (zM A K I L F E dyn) (some 8) (start + 2 * (i : Int))).bind (fun x10 => if x10 = 0 then some (Sum.inr (Sum.inr (Sum.inr (start + 2 * (i : Int))))) else (zchk (start + 2 * (i : Int) + 2)).bind fun v11 => (zchk ((i : Int) + 1)).bind fun v12 => some (Sum.inl (v11, v12))) = (some (.inr e) : Option ((Int × Int) ⊕ (Unit ⊕ (Unit ⊕ Int)))) ∧ ((e = .inr (.inl ()) ∧ after ≠ 0 ∧ after ≤ num) ∨ (e = .inr (.inr num) ∧ (after = 0 ∨ num < after)))) := by
      intro ha
      rw [zo_8b]
      rcases k_isNumberGiven (A := A) (K := K) (I := I) (L := L) (F := F) (E := E) (dyn := dyn) (start + 2 * (i : Int)) h0 with ⟨e, hn⟩ | ⟨e, hn⟩
      · have hn2 := (hG _ (by omega)).1 hn
        rw [e, zb, if_neg (by omega), zckb (by omega) (by omega), zckb (by omega) (by omega)]
        refine Or.inl ⟨_, rfl, rfl, by simp only; omega, by omega, fun u hu => ?_⟩
        rcases zlt_s hu with y | y
        · exact hg u y
        · subst y
          exact hn2
      · have hn2 : ¬ G (start + 2 * (i : Int)) := fun y => hn ((hG _ (by omega)).2 y)
        rw [e, zb, if_pos rfl]
        have en : start + 2 * (i : Int) = num := by
          rcases Int.lt_or_eq_of_le hle with y | y
          · exact absurd (z5 _ (by omega) (by omega) (by omega) y) hn2
          · exact y
        exact Or.inr ⟨_, rfl, Or.inr ⟨by rw [en], by rw [← en]; exact ha⟩⟩
    by_cases c1 : after = 0
    · rw [if_pos c1]
      exact fin (Or.inl c1)
    · rw [if_neg c1]
      by_cases c2 : start + 2 * (i : Int) < after
      · rw [if_pos c2]
        exact fin (Or.inr c2)
      · rw [if_neg c2]
        exact Or.inr ⟨_, rfl, Or.inl ⟨rfl, c1, by omega⟩⟩) (by
    rintro ⟨k, t⟩ ⟨ht, hk, h41, hg⟩
    exfalso
    have := zpig 40 41 (fun u d => A 11 d ≠ 0 ∧ A 11 d / 10 = start + 2 * (u : Int)) (fun u hu => (hG _ (by omega)).2 (hg u hu)) (fun u v d a b => by omega)
    omega) (start, 0) ⟨rfl, by simp, by omega, fun u hu => absurd hu (by omega)⟩ (by omega)
  rw [he, zb]
  rcases hq with ⟨rfl, h1, h2⟩ | ⟨rfl, h1⟩
  · rw [if_neg (by omega)]
  · rw [if_pos h1]
theorem k_leastFree {A : zIT} {K : zLT} {I : zIT} {L : zLT} {F : zFT} {E : zET} {dyn : zH} {G : Int → Prop} {w before after num : Int} (h0 : ∀ d, d < 40 → 0 ≤ A 11 d) (hG : ∀ a, 1 ≤ a → (zex (fun d => A 11 d ≠ 0 ∧ A 11 d / 10 = a) 40 ↔ G a)) (hz : zfn G (if w = 108 then 1 else 0) before num) (hb : 0 ≤ before ∧ before ≤ 100000) : X1_leastFree (zM A K I L F E dyn) (some 8) before after (if w = 108 then 1 else 0) = some (if after = 0 ∨ num < after then num else 0) := by
  have ha : ∀ x : Int, zand x 1 = some (x % 2) := fun x => rfl
  have j9 : ∀ j : Int, (j = 0 ∨ j = 1) → zfn G j before num → X1_leastFree_j9 (zM A K I L F E dyn) (some 8) before after j = some (if after = 0 ∨ num < after then num else 0) := by
    intro j hj hz
    unfold X1_leastFree_j9
    rw [zckb (by omega) (by omega), ha, zb]
    by_cases c : (before + 1) % 2 = j
    · rw [if_pos c]
      exact k_leastFree34 h0 hG hz hb (Or.inl rfl) c
    · rw [if_neg c, zckb (by omega) (by omega)]
      exact k_leastFree34 h0 hG hz hb (Or.inr (by omega)) (by omega)
  unfold X1_leastFree
  by_cases c : w = 108
  · rw [if_pos c] at hz ⊢
    rw [if_neg (by omega)]
    exact j9 1 (Or.inr rfl) hz
  · rw [if_neg c] at hz ⊢
    rw [if_pos rfl]
    exact j9 0 (Or.inl rfl) hz
