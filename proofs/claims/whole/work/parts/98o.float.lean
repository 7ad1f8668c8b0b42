-- ===== the two quotients =====
def zfok (a b : Nat) : Bool := match zfdiv (zi2f a) (zi2f b) with
  | none => false
  | some v => match zf2d v with
    | none => false
    | some w => decide ((Op.cmpValue (FP.dcmp w w) .l).toInt = 0)
def zdok (a b : Nat) : Bool := match zddiv (zi2d a) (zi2d b) with
  | none => false
  | some w => decide ((Op.cmpValue (FP.dcmp w w) .l).toInt = 0)
set_option maxRecDepth 100000 in
theorem zfok_1 : ∀ a : Nat, a < 41 → ∀ b : Nat, b < 41 → b ≠ 0 → zfok a b = true := by decide +kernel
set_option maxRecDepth 100000 in
theorem zdok_1 : ∀ a : Nat, a < 81 → ∀ b : Nat, b < 13 → b ≠ 0 → zdok a b = true := by decide +kernel
theorem zone_le (x : Int) : ∀ n : Nat, zsum (fun s => if x = (s : Int) then 1 else 0) n = if 0 ≤ x ∧ x < n then 1 else 0
  | 0 => by
    rw [if_neg (by omega)]
    rfl
  | n + 1 => by
    simp only [zsum]
    rw [zone_le x n]
    by_cases c : x = (n : Int)
    · rw [if_pos c, if_neg (by omega), if_pos (by omega)]
      rfl
    · rw [if_neg c]
      by_cases c2 : 0 ≤ x ∧ x < n
      · rw [if_pos c2, if_pos (by omega)]
        rfl
      · rw [if_neg c2, if_neg (by omega)]
        rfl
theorem zsum_mono {f g : Nat → Int} : ∀ n : Nat, (∀ i, f i ≤ g i) → zsum f n ≤ zsum g n
  | 0, _ => Int.le_refl _
  | n + 1, h => by
    simp only [zsum]
    have := zsum_mono n h
    have := h n
    omega
theorem zmd_80 {I : zIT} (n : Nat) : 0 ≤ zmd I n ∧ zmd I n ≤ 80 := by
  refine ⟨(zmd_in n).1, ?_⟩
  have h1 : zmd I n ≤ zsum (fun s => zsum (fun p => if I 22 p = ((s : Nat) : Int) then 1 else 0) 80) n := zsum_mono n (fun s => by
    have := zdo_in (I := I) (s := (s : Int)) 80
    split
    · exact Int.le_refl _
    · exact this.1)
  rw [zsum_swap] at h1
  have h2 := zsum_le (f := fun p => zsum (fun s => if I 22 p = ((s : Nat) : Int) then 1 else 0) n) (c := 1) (fun p => by
    rw [zone_le]
    split <;> omega) 80
  omega
