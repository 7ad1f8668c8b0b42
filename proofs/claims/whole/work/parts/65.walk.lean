-- ===== walks =====
def zwk (I : zIT) (p : Nat) : Int := (if I 24 p = 108 then I 23 p else 1999 - I 23 p) * 64 + ((p / 2 : Nat) : Int)
theorem m_isAhead {A : zIT} {K : zLT} {I : zIT} {L : zLT} {F : zFT} {E : zET} {dyn : zH} {p q : Nat} (hp : p < 80) (hq : q < 80) (sp : zsd (I 24 p)) (sq : zsd (I 24 q)) (mp : 0 ≤ I 23 p ∧ I 23 p ≤ 999) (mq : 0 ≤ I 23 q ∧ I 23 q ≤ 999) : zbl (X8_isAhead (zM A K I L F E dyn) (some 14) (p : Int) (q : Int)) (zwk I p < zwk I q) := by
  have e1 : ((p : Int) / 2) = ((p / 2 : Nat) : Int) := rfl
  have e2 : ((q : Int) / 2) = ((q / 2 : Nat) : Int) := rfl
  unfold zsd at sp sq
  unfold X8_isAhead zwk
  simp (disch := first | omega | assumption) only [↓zdvb, ↓zb, ↓zckb, zu_j, zu_c, zu_eq, Int.toNat_natCast, ↓zo_14b, ↓zg_14_0b, ↓zg_14_1b, ↓zg_14_2b, ↓zg_14_3b, ↓zg_14_4b, ↓zg_14_5b, ↓zg_14_6b, ↓zg_14_7b, ↓zp_14_7b, ↓zg_14_8b, ↓zg_14_9b, ↓zg_14_10b, ↓zg_14_11b, ↓zg_14_12b, ↓zg_14_13b, ↓zg_14_14b, ↓zp_14_14b, ↓zg_14_15b, ↓zg_14_16b, ↓zg_14_17b, ↓zg_14_18b, ↓zg_14_19b, ↓zp_14_19b, ↓zg_14_20b, ↓zg_14_21b, ↓zg_14_22b, ↓zg_14_23b, ↓zg_14_24b, ↓zg_14_25b, ↓zp_14_25b, ↓zg_14_26b, ↓zp_14_26b, ↓zg_14_27b, ↓zp_14_27b, ↓zg_14_28b, ↓zp_14_28b, ↓zg_14_29b, ↓zp_14_29b, ↓za_15b, ↓zs_15b, ↓zl_15b, ↓za_16b, ↓zs_16b, ↓zl_16b, ↓za_17b, ↓zs_17b, ↓zl_17b, ↓za_18b, ↓zs_18b, ↓zl_18b, ↓za_19b, ↓zs_19b, ↓zl_19b, ↓za_20b, ↓zs_20b, ↓zl_20b, ↓za_21b, ↓zs_21b, ↓zl_21b, ↓za_22b, ↓zs_22b, ↓zl_22b, ↓za_23b, ↓zs_23b, ↓zl_23b, ↓za_24b, ↓zs_24b, ↓zl_24b, ↓za_25b, ↓zs_25b, ↓zl_25b, ↓za_26b, ↓zs_26b, ↓zl_26b, ↓za_27b, ↓zs_27b, ↓zl_27b, ↓za_28b, ↓zs_28b, ↓zl_28b, ↓za_29b, ↓zs_29b, ↓zl_29b, ↓za_30b, ↓zs_30b, ↓zl_30b, ↓za_31b, ↓zs_31b, ↓zl_31b, ↓za_32b, ↓zs_32b, ↓zl_32b, ↓za_33b, ↓zs_33b, ↓zl_33b, ↓za_34b, ↓zs_34b, ↓zl_34b, ↓za_35b, ↓zs_35b, ↓zl_35b, ↓za_36b, ↓zs_36b, ↓zl_36b, ↓za_37b, ↓zs_37b, ↓zl_37b, ↓za_38b, ↓zs_38b]
  rw [e1, e2]
  unfold zbl
  repeat' split
  all_goals first | exact Or.inl ⟨rfl, by omega⟩ | exact Or.inr ⟨rfl, by omega⟩
def zcol (I : zIT) (c : Nat) (R : Nat → Int) : zIT := fun c' j => if c' = c then R j else I c' j
theorem zcol_u {I : zIT} {c j : Nat} {R : Nat → Int} {v : Int} : zu (zcol I c R) c j v = zcol I c (zup R j v) := by
  funext c' j'
  unfold zu zcol zup
  by_cases h : c' = c
  · subst h
    by_cases h2 : j' = j
    · simp [h2]
    · simp [h2]
  · simp [h]
theorem zcol_o {I : zIT} {c c' : Nat} {R : Nat → Int} (h : c' ≠ c) : zcol I c R c' = I c' := by
  funext j
  exact if_neg h
theorem zcol_e {I : zIT} {c : Nat} {R : Nat → Int} : zcol I c R c = R := by
  funext j
  exact if_pos rfl
theorem zcol_id {I : zIT} {c : Nat} : zcol I c (I c) = I := by
  funext c' j
  unfold zcol
  split
  · rename_i h
    rw [h]
  · rfl
theorem m_walks35 {A : zIT} {K : zLT} {I : zIT} {L : zLT} {F : zFT} {E : zET} {dyn : zH} {s p r : Nat} {R0 : Nat → Int} (hp : p < 80) (hr : r < 40) (sp : zsd (I 24 p)) (mp : 0 ≤ I 23 p ∧ I 23 p ≤ 999)
    (hR : ∀ a, a < r → ∃ q : Nat, R0 a = q ∧ q < 80 ∧ zsd (I 24 q) ∧ 0 ≤ I 23 q ∧ I 23 q ≤ 999 ∧ zwk I q ≠ zwk I p) :
    ∃ (at1 : Nat) (R : Nat → Int), zloop (X8_walks_b35 (some 14) (s : Int) (p : Int)) zN ((r : Int), zM A K (zcol I 36 R0) L F E dyn) = some ((at1 : Int), zM A K (zcol I 36 R) L F E dyn) ∧ at1 ≤ r ∧ (∀ a, a < at1 → R a = R0 a) ∧ (∀ a, at1 < a → a ≤ r → R a = R0 (a - 1)) ∧
      (∀ a (q : Nat), at1 ≤ a → a < r → R0 a = q → zwk I p < zwk I q) ∧ (∀ q : Nat, 0 < at1 → R0 (at1 - 1) = q → zwk I q < zwk I p) := by
  obtain ⟨e, he, hq⟩ := zloop_inv (body := X8_walks_b35 (some 14) (s : Int) (p : Int))
    (fun n t => n ≤ r ∧ t.1 = (n : Int) ∧ ∃ R : Nat → Int, t.2 = zM A K (zcol I 36 R) L F E dyn ∧ (∀ a, a < n → R a = R0 a) ∧ (∀ a, n < a → a ≤ r → R a = R0 (a - 1)) ∧ (∀ a (q : Nat), n ≤ a → a < r → R0 a = q → zwk I p < zwk I q))
    (fun e => ∃ (at1 : Nat) (R : Nat → Int), e = ((at1 : Int), zM A K (zcol I 36 R) L F E dyn) ∧ at1 ≤ r ∧ (∀ a, a < at1 → R a = R0 a) ∧ (∀ a, at1 < a → a ≤ r → R a = R0 (a - 1)) ∧
      (∀ a (q : Nat), at1 ≤ a → a < r → R0 a = q → zwk I p < zwk I q) ∧ (∀ q : Nat, 0 < at1 → R0 (at1 - 1) = q → zwk I q < zwk I p)) (by
    rintro n ⟨t1, t2⟩ ⟨hn, h1, R, h2, h3, h4, h5⟩
    simp only at h1 h2
    subst h1 h2
    unfold X8_walks_b35
    simp only
    by_cases c : (n : Int) ≤ 0
    · rw [if_pos c]
      exact Or.inr ⟨_, rfl, n, R, rfl, hn, h3, h4, h5, fun q h => absurd h (by omega)⟩
    · rw [if_neg c]
      have hn1 : ((n : Int) - 1) = ((n - 1 : Nat) : Int) := by omega
      obtain ⟨q, hq0, hq1, hq2, hq3, hq4, hq5⟩ := hR (n - 1) (by omega)
      have hRq : R (n - 1) = q := (h3 (n - 1) (by omega)).trans hq0
      have c24 : zcol I 36 R 24 = I 24 := zcol_o (by omega)
      have c23 : zcol I 36 R 23 = I 23 := zcol_o (by omega)
      have hk : ∀ x, zwk (zcol I 36 R) x = zwk I x := fun x => by
        unfold zwk
        rw [c24, c23]
      rcases m_isAhead (A := A) (K := K) (L := L) (F := F) (E := E) (dyn := dyn) (I := zcol I 36 R) hp hq1 (by rw [c24]; exact sp) (by rw [c24]; exact hq2) (by rw [c23]; exact mp) (by rw [c23]; exact ⟨hq3, hq4⟩) with ⟨e, h⟩ | ⟨e, h⟩
      · rw [hk, hk] at h
        simp (disch := first | omega | assumption) only [hn1, zcol_e, hRq, e, zcol_u, ↓zb, ↓zckb, zu_j, zu_c, zu_eq, Int.toNat_natCast, ↓zo_14b, ↓zg_14_0b, ↓zg_14_1b, ↓zg_14_2b, ↓zg_14_3b, ↓zg_14_4b, ↓zg_14_5b, ↓zg_14_6b, ↓zg_14_7b, ↓zp_14_7b, ↓zg_14_8b, ↓zg_14_9b, ↓zg_14_10b, ↓zg_14_11b, ↓zg_14_12b, ↓zg_14_13b, ↓zg_14_14b, ↓zp_14_14b, ↓zg_14_15b, ↓zg_14_16b, ↓zg_14_17b, ↓zg_14_18b, ↓zg_14_19b, ↓zp_14_19b, ↓zg_14_20b, ↓zg_14_21b, ↓zg_14_22b, ↓zg_14_23b, ↓zg_14_24b, ↓zg_14_25b, ↓zp_14_25b, ↓zg_14_26b, ↓zp_14_26b, ↓zg_14_27b, ↓zp_14_27b, ↓zg_14_28b, ↓zp_14_28b, ↓zg_14_29b, ↓zp_14_29b, ↓za_15b, ↓zs_15b, ↓zl_15b, ↓za_16b, ↓zs_16b, ↓zl_16b, ↓za_17b, ↓zs_17b, ↓zl_17b, ↓za_18b, ↓zs_18b, ↓zl_18b, ↓za_19b, ↓zs_19b, ↓zl_19b, ↓za_20b, ↓zs_20b, ↓zl_20b, ↓za_21b, ↓zs_21b, ↓zl_21b, ↓za_22b, ↓zs_22b, ↓zl_22b, ↓za_23b, ↓zs_23b, ↓zl_23b, ↓za_24b, ↓zs_24b, ↓zl_24b, ↓za_25b, ↓zs_25b, ↓zl_25b, ↓za_26b, ↓zs_26b, ↓zl_26b, ↓za_27b, ↓zs_27b, ↓zl_27b, ↓za_28b, ↓zs_28b, ↓zl_28b, ↓za_29b, ↓zs_29b, ↓zl_29b, ↓za_30b, ↓zs_30b, ↓zl_30b, ↓za_31b, ↓zs_31b, ↓zl_31b, ↓za_32b, ↓zs_32b, ↓zl_32b, ↓za_33b, ↓zs_33b, ↓zl_33b, ↓za_34b, ↓zs_34b, ↓zl_34b, ↓za_35b, ↓zs_35b, ↓zl_35b, ↓za_36b, ↓zs_36b, ↓zl_36b, ↓za_37b, ↓zs_37b, ↓zl_37b, ↓za_38b, ↓zs_38b]
        rw [if_neg (by omega)]
        refine Or.inl ⟨n - 1, _, by omega, rfl, by omega, by simp only; omega, _, rfl, fun a ha => ?_, fun a ha hb => ?_, fun a q' ha hb hc => ?_⟩
        · show (if a = n then (q : Int) else R a) = R0 a
          rw [if_neg (by omega)]
          exact h3 a (by omega)
        · show (if a = n then (q : Int) else R a) = R0 (a - 1)
          by_cases ha2 : a = n
          · rw [if_pos ha2, ha2, hq0]
          · rw [if_neg ha2]
            exact h4 a (by omega) hb
        · by_cases ha2 : a = n - 1
          · rw [ha2, hq0] at hc
            rw [show q' = q by omega]
            exact h
          · exact h5 a q' (by omega) hb hc
      · rw [hk, hk] at h
        simp (disch := first | omega | assumption) only [hn1, zcol_e, hRq, e, ↓zb, ↓zckb, zu_j, zu_c, zu_eq, Int.toNat_natCast, ↓zo_14b, ↓zg_14_0b, ↓zg_14_1b, ↓zg_14_2b, ↓zg_14_3b, ↓zg_14_4b, ↓zg_14_5b, ↓zg_14_6b, ↓zg_14_7b, ↓zp_14_7b, ↓zg_14_8b, ↓zg_14_9b, ↓zg_14_10b, ↓zg_14_11b, ↓zg_14_12b, ↓zg_14_13b, ↓zg_14_14b, ↓zp_14_14b, ↓zg_14_15b, ↓zg_14_16b, ↓zg_14_17b, ↓zg_14_18b, ↓zg_14_19b, ↓zp_14_19b, ↓zg_14_20b, ↓zg_14_21b, ↓zg_14_22b, ↓zg_14_23b, ↓zg_14_24b, ↓zg_14_25b, ↓zp_14_25b, ↓zg_14_26b, ↓zp_14_26b, ↓zg_14_27b, ↓zp_14_27b, ↓zg_14_28b, ↓zp_14_28b, ↓zg_14_29b, ↓zp_14_29b, ↓za_15b, ↓zs_15b, ↓zl_15b, ↓za_16b, ↓zs_16b, ↓zl_16b, ↓za_17b, ↓zs_17b, ↓zl_17b, ↓za_18b, ↓zs_18b, ↓zl_18b, ↓za_19b, ↓zs_19b, ↓zl_19b, ↓za_20b, ↓zs_20b, ↓zl_20b, ↓za_21b, ↓zs_21b, ↓zl_21b, ↓za_22b, ↓zs_22b, ↓zl_22b, ↓za_23b, ↓zs_23b, ↓zl_23b, ↓za_24b, ↓zs_24b, ↓zl_24b, ↓za_25b, ↓zs_25b, ↓zl_25b, ↓za_26b, ↓zs_26b, ↓zl_26b, ↓za_27b, ↓zs_27b, ↓zl_27b, ↓za_28b, ↓zs_28b, ↓zl_28b, ↓za_29b, ↓zs_29b, ↓zl_29b, ↓za_30b, ↓zs_30b, ↓zl_30b, ↓za_31b, ↓zs_31b, ↓zl_31b, ↓za_32b, ↓zs_32b, ↓zl_32b, ↓za_33b, ↓zs_33b, ↓zl_33b, ↓za_34b, ↓zs_34b, ↓zl_34b, ↓za_35b, ↓zs_35b, ↓zl_35b, ↓za_36b, ↓zs_36b, ↓zl_36b, ↓za_37b, ↓zs_37b, ↓zl_37b, ↓za_38b, ↓zs_38b]
        rw [if_pos trivial]
        refine Or.inr ⟨_, rfl, n, R, rfl, hn, h3, h4, h5, fun q' _ hc => ?_⟩
        rw [hq0] at hc
        rw [show q' = q by omega]
        omega) zN r ((r : Int), zM A K (zcol I 36 R0) L F E dyn) ⟨Nat.le_refl r, rfl, R0, rfl, fun _ _ => rfl, fun a h1 h2 => absurd h1 (by omega), fun a q h1 h2 => absurd h1 (by omega)⟩ (by unfold zN; omega)
  obtain ⟨at1, R, rfl, h⟩ := hq
  exact ⟨at1, R, he, h⟩
