/-! THE CLASS against the tables -/
def c5n : Nat → Nat → Nat
  | 0, _ => 0
  | k + 1, n => 32 * c5n k (n / 27) + n % 27
def c5 (x : Int64) : Int64 := Int64.ofNat (c5n 7 x.toNatClampNeg)
theorem c5n_inj : ∀ k m n : Nat, m < 27 ^ k → n < 27 ^ k → c5n k m = c5n k n → m = n
  | 0, m, n, h1, h2, _ => by
    simp only [Nat.pow_zero] at h1 h2
    omega
  | k + 1, m, n, h1, h2, h => by
    rw [Nat.pow_succ] at h1 h2
    simp only [c5n] at h
    have e : c5n k (m / 27) = c5n k (n / 27) ∧ m % 27 = n % 27 := by omega
    have := c5n_inj k (m / 27) (n / 27) (by omega) (by omega) e.1
    omega
def zRS (I : zIT) (L : zLT) (F : zFT) (dyn : zH) (rs : Nat → Nat) : Prop :=
  (∀ s : Nat, (s : Int) < I 14 7 → F 1 s = some (rs s + 39) ∧ dyn[rs s]? = some (zStr s (c5 (L 15 s)) (c5 (L 16 s)) (I 17 s) (I 18 s) (I 19 s) (I 20 s) (I 21 s))) ∧ (∀ s : Nat, I 14 7 ≤ (s : Int) → F 1 s = none)
def zld (I : zIT) (rd : Nat → Nat) (d : Nat) : Option Nat := if 0 ≤ I 27 d then some (rd (I 27 d).toNat + 39) else none
def zRD (I : zIT) (F : zFT) (dyn : zH) (rd : Nat → Nat) (fp : Nat → Option Nat) : Prop :=
  (∀ d : Nat, (d : Int) < I 14 14 → F 2 d = some (rd d + 39) ∧ dyn[rd d]? = some (zDor d (fp (2 * d)) (fp (2 * d + 1)) (I 26 d) (zld I rd d))) ∧ (∀ d : Nat, I 14 14 ≤ (d : Int) → F 2 d = none)
def zRP (I : zIT) (dyn : zH) (rs : Nat → Nat) (fp : Nat → Option Nat) : Prop :=
  ∀ p : Nat, p < 80 → (I 22 p = -1 ∧ fp p = none) ∨ (0 ≤ I 22 p ∧ I 22 p < I 14 7 ∧ ∃ r, fp p = some (r + 39) ∧ dyn[r]? = some (zPlc ((p / 2 : Nat) : Int) (some (rs (I 22 p).toNat + 39)) (I 23 p) (if I 24 p = 108 then 1 else 0) (I 25 p)))
theorem zStr_n {n n' : Int} {a b a' b' : Int64} {l w bk g gr l' w' bk' g' gr' : Int} (h : (some (zStr n a b l w bk g gr) : Option zCell) = some (zStr n' a' b' l' w' bk' g' gr')) : n = n' := by
  unfold zStr at h
  injection h with h
  injection h with h
  injection h with h1 h
  injection h with h h2
  injection h
theorem zRS_inj {I : zIT} {L : zLT} {F : zFT} {dyn : zH} {rs : Nat → Nat} (h : zRS I L F dyn rs) {s t : Nat} (hs : (s : Int) < I 14 7) (ht : (t : Int) < I 14 7) (e : rs s = rs t) : s = t := by
  have h1 := (h.1 s hs).2
  have h2 := (h.1 t ht).2
  rw [e, h2] at h1
  have := zStr_n h1
  omega
theorem k_isStanding {A : zIT} {K : zLT} {I : zIT} {L : zLT} {F : zFT} {E : zET} {dyn : zH} {rs : Nat → Nat} (hS : zRS I L F dyn rs) (s : Nat) : zbl (X7_isStanding (zM A K I L F E dyn) (F 1 s)) ((s : Int) < I 14 7 ∧ I 20 s = 0) := by
  unfold X7_isStanding
  by_cases c : (s : Int) < I 14 7
  · obtain ⟨h1, h2⟩ := hS.1 s c
    rw [h1, if_neg (fun y => by cases y), zgStr_6b h2]
    by_cases c2 : I 20 s = 0
    · rw [if_pos c2]
      exact Or.inl ⟨rfl, c, c2⟩
    · rw [if_neg c2]
      exact Or.inr ⟨rfl, fun y => c2 y.2⟩
  · rw [hS.2 s (by omega), if_pos rfl]
    exact Or.inr ⟨rfl, fun y => c y.1⟩
theorem k_standing {A : zIT} {K : zLT} {I : zIT} {L : zLT} {F : zFT} {E : zET} {dyn : zH} {rs : Nat → Nat} (hb : zB I) (hS : zRS I L F dyn rs) (s : Int) : (X7_standing (zM A K I L F E dyn) (some 0) s = some (.inl (some (rs s.toNat + 39))) ∧ zst I s) ∨ (X7_standing (zM A K I L F E dyn) (some 0) s = some (.inr 3) ∧ ¬ zst I s) := by
  unfold zB at hb
  unfold X7_standing zst
  by_cases c : s < 0
  · rw [if_pos c]
    exact Or.inr ⟨rfl, fun y => by omega⟩
  · rw [if_neg c, zg_0_0b, zl_1b]
    by_cases c2 : 12 ≤ s
    · rw [if_pos c2]
      exact Or.inr ⟨rfl, fun y => by omega⟩
    · rw [if_neg c2, zg_0_0b, za_1b (by omega) (by omega)]
      have e : ((s.toNat : Nat) : Int) = s := by omega
      rcases k_isStanding (A := A) (K := K) (E := E) hS s.toNat with ⟨e1, h⟩ | ⟨e1, h⟩
      · rw [e1, zb, if_neg (by omega), zg_0_0b, za_1b (by omega) (by omega), (hS.1 s.toNat h.1).1]
        exact Or.inl ⟨rfl, by omega, by omega, h.2⟩
      · rw [e1, zb, if_pos rfl]
        exact Or.inr ⟨rfl, fun y => h ⟨by omega, y.2.2⟩⟩
def zpf (I : zIT) (fp : Nat → Option Nat) (d : Nat) (s : Int) : Option Nat := if I 22 (2 * d) = s then fp (2 * d) else if I 22 (2 * d + 1) = s then fp (2 * d + 1) else none
theorem k_placeOn {A : zIT} {K : zLT} {I : zIT} {L : zLT} {F : zFT} {E : zET} {dyn : zH} {rs rd : Nat → Nat} {fp : Nat → Option Nat} {d s : Nat} (hS : zRS I L F dyn rs) (hD : zRD I F dyn rd fp) (hP : zRP I dyn rs fp) (hd : (d : Int) < I 14 14) (hd2 : d < 40) (hs : (s : Int) < I 14 7) : X0_placeOn (zM A K I L F E dyn) (some (rd d + 39)) (some (rs s + 39)) = some (zpf I fp d s) := by
  have hc := (hD.1 d hd).2
  have ref : ∀ p : Nat, p < 80 → I 22 p ≠ -1 → ((some (rs (I 22 p).toNat + 39) : Option Nat) = some (rs s + 39) ↔ I 22 p = s) := by
    intro p hp hn
    rcases hP p hp with h | ⟨h1, h2, _⟩
    · exact absurd h.1 hn
    · constructor
      · intro e
        injection e with e
        have := zRS_inj hS (s := (I 22 p).toNat) (t := s) (by omega) hs (by omega)
        omega
      · intro e
        rw [e, Int.toNat_natCast]
  have second : X0_placeOn_j23 (zM A K I L F E dyn) (some (rd d + 39)) (some (rs s + 39)) = some (if I 22 (2 * d + 1) = s then fp (2 * d + 1) else none) := by
    unfold X0_placeOn_j23
    rw [zgDor_2b hc]
    rcases hP (2 * d + 1) (by omega) with ⟨h1, h2⟩ | ⟨h1, h2, r, h3, h4⟩
    · rw [h2, if_pos rfl, if_neg (by omega)]
    · rw [h3, if_neg (fun y => by cases y), zgDor_2b hc, h3, zgPlc_1b h4]
      by_cases c : I 22 (2 * d + 1) = s
      · rw [if_pos ((ref _ (by omega) (by omega)).2 c), if_pos c, zgDor_2b hc, h3]
      · rw [if_neg (fun y => c ((ref _ (by omega) (by omega)).1 y)), if_neg c]
  unfold X0_placeOn zpf
  rw [zgDor_1b hc]
  rcases hP (2 * d) (by omega) with ⟨h1, h2⟩ | ⟨h1, h2, r, h3, h4⟩
  · rw [h2, if_pos rfl, if_neg (by omega), second]
  · rw [h3, if_neg (fun y => by cases y), zgDor_1b hc, h3, zgPlc_1b h4]
    by_cases c : I 22 (2 * d) = s
    · rw [if_pos ((ref _ (by omega) (by omega)).2 c), if_pos c, zgDor_1b hc, h3]
    · rw [if_neg (fun y => c ((ref _ (by omega) (by omega)).1 y)), if_neg c, second]
