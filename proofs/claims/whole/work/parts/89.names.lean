-- ===== names: digits of base 27 and of base 32 =====
theorem zi_ofNat {n : Nat} (h : n < 9223372036854775808) : (Int64.ofNat n).toInt = n := Int64.toInt_ofNat_of_lt (by omega)
theorem zi_add {a b : Int64} (h : -9223372036854775808 ≤ a.toInt + b.toInt ∧ a.toInt + b.toInt < 9223372036854775808) : (a + b).toInt = a.toInt + b.toInt := by
  rw [Int64.toInt_add]
  exact Int.bmod_eq_of_le (by omega) (by omega)
theorem zi_mul {a b : Int64} (h : -9223372036854775808 ≤ a.toInt * b.toInt ∧ a.toInt * b.toInt < 9223372036854775808) : (a * b).toInt = a.toInt * b.toInt := by
  rw [Int64.toInt_mul]
  exact Int.bmod_eq_of_le (by omega) (by omega)
theorem zi_ofInt {n : Int} (h : -9223372036854775808 ≤ n ∧ n < 9223372036854775808) : (Int64.ofInt n).toInt = n := Int64.toInt_ofInt_of_le (by omega) (by omega)
theorem zi_n {x : Int64} (h : 0 ≤ x.toInt) : x.toInt = (x.toNatClampNeg : Int) := by
  have : x.toNatClampNeg = x.toInt.toNat := rfl
  omega
theorem c5_i (x : Int64) : (c5 x).toInt = (c5n 7 x.toNatClampNeg : Int) := by
  have := c5n_lt 7 x.toNatClampNeg
  exact zi_ofNat (by omega)
theorem zshr {a b : Int64} {k : Nat} (h : (b.toBitVec.smod 64).toNat = k) : (a >>> b).toInt = a.toInt >>> k := by
  show (BitVec.sshiftRight' a.toBitVec (b.toBitVec.smod 64)).toInt = _
  rw [BitVec.toInt_sshiftRight', h]
  rfl
theorem zsh5 : ∀ i : Nat, i < 7 → (((Int32.ofInt ((i : Int) * 5)).toInt64 &&& 63).toBitVec.smod 64).toNat = 5 * i := by decide +kernel
theorem c5n_div : ∀ i k n : Nat, c5n (k + i) n / 32 ^ i = c5n k (n / 27 ^ i)
  | 0, k, n => by simp
  | i + 1, k, n => by
    rw [show k + (i + 1) = (k + i) + 1 by omega, Nat.pow_succ, Nat.pow_succ, Nat.mul_comm (32 ^ i) 32, Nat.mul_comm (27 ^ i) 27, ← Nat.div_div_eq_div_mul, ← Nat.div_div_eq_div_mul]
    have : c5n (k + i + 1) n / 32 = c5n (k + i) (n / 27) := by
      simp only [c5n]
      omega
    rw [this]
    exact c5n_div i k (n / 27)
theorem c5n_z : ∀ k n : Nat, n < 27 ^ k → (c5n k n = 0 ↔ n = 0)
  | 0, n, h => by
    simp only [Nat.pow_zero] at h
    exact ⟨fun _ => by omega, fun _ => rfl⟩
  | k + 1, n, h => by
    rw [Nat.pow_succ] at h
    have := c5n_z k (n / 27) (by omega)
    simp only [c5n]
    omega
theorem c5n_sh (i n : Nat) (hi : i ≤ 7) (hn : n < 10460353203) : c5n 7 n / 32 ^ i = 0 ↔ n / 27 ^ i = 0 := by
  have h := c5n_div i (7 - i) n
  rw [show 7 - i + i = 7 by omega] at h
  rw [h]
  apply c5n_z
  rw [Nat.div_lt_iff_lt_mul (Nat.pow_pos (by omega)), ← Nat.pow_add, show 7 - i + i = 7 by omega]
  exact hn
theorem zdgn_spec : ∀ k n : Nat, n < 27 ^ k → zdgn k n ≤ k ∧ (∀ i, i < zdgn k n → n / 27 ^ i ≠ 0) ∧ n / 27 ^ zdgn k n = 0
  | 0, n, h => by
    simp only [Nat.pow_zero] at h
    simp only [zdgn]
    exact ⟨by omega, fun i hi => absurd hi (by omega), by simp; omega⟩
  | k + 1, n, h => by
    rw [Nat.pow_succ] at h
    obtain ⟨h1, h2, h3⟩ := zdgn_spec k (n / 27) (by omega)
    simp only [zdgn]
    by_cases c : n = 0
    · rw [if_pos c]
      exact ⟨by omega, fun i hi => absurd hi (by omega), by simp [c]⟩
    · rw [if_neg c]
      refine ⟨by omega, fun i hi => ?_, ?_⟩
      · rcases Nat.eq_zero_or_pos i with y | y
        · rw [y]
          simp
          exact c
        · obtain ⟨j, rfl⟩ : ∃ j, i = j + 1 := ⟨i - 1, by omega⟩
          rw [Nat.pow_succ, Nat.mul_comm, ← Nat.div_div_eq_div_mul]
          exact h2 j (by omega)
      · rw [Nat.pow_succ, Nat.mul_comm, ← Nat.div_div_eq_div_mul]
        exact h3
theorem zshr5 {x : Int64} {i : Nat} (hi : i < 7) : (c5 x >>> ((Int32.ofInt ((i : Int) * 5)).toInt64 &&& 63)).toInt = ((c5n 7 x.toNatClampNeg / 32 ^ i : Nat) : Int) := by
  rw [zshr (zsh5 i hi), c5_i, Int.shiftRight_eq_div_pow]
  rw [Nat.pow_mul]
  rfl
theorem zvn_n {x : Int64} (h : zvn x) : x.toNatClampNeg < 10460353203 := by
  unfold zvn at h
  have : x.toNatClampNeg = x.toInt.toNat := rfl
  omega
theorem k_lengthOf {hp : zH} {x : Int64} (h : zvn x) : X2_lengthOf hp (c5 x) = some (zdgn 7 x.toNatClampNeg : Int) := by
  have hn := zvn_n h
  obtain ⟨h1, h2, h3⟩ := zdgn_spec 7 x.toNatClampNeg hn
  have hz : ∀ i : Nat, i < 7 → ((zcmp (c5 x >>> ((Int32.ofInt ((i : Int) * 5)).toInt64 &&& 63)) 0) = 0 ↔ x.toNatClampNeg / 27 ^ i = 0) := by
    intro i hi
    rw [zcmp_0, ← c5n_sh i _ (by omega) hn, ← Int64.toInt_inj, zshr5 hi]
    show _ = (0 : Int) ↔ _
    omega
  unfold X2_lengthOf
  obtain ⟨e, he, hq⟩ := zloop_up (body := X2_lengthOf_b2 (c5 x) hp) (fun i s => s = (i : Int)) (fun e => e = (zdgn 7 x.toNatClampNeg : Int)) (zdgn 7 x.toNatClampNeg) (by
    rintro i s hi rfl
    unfold X2_lengthOf_b2
    rw [if_neg (by omega), zckb (by omega) (by omega), if_neg (fun y => h2 i hi ((hz i (by omega)).1 y)), zckb (by omega) (by omega)]
    exact Or.inl ⟨_, rfl, rfl⟩) (by
    rintro s rfl
    unfold X2_lengthOf_b2
    by_cases c : (7 : Int) ≤ (zdgn 7 x.toNatClampNeg : Int)
    · rw [if_pos c]
      exact ⟨_, rfl, rfl⟩
    · rw [if_neg c, zckb (by omega) (by omega), if_pos ((hz _ (by omega)).2 h3)]
      exact ⟨_, rfl, rfl⟩) 0 rfl (by omega)
  rw [he, hq]
  rfl
theorem c5n_up : ∀ k n : Nat, n < 27 ^ k → c5n (k + 1) n = c5n k n
  | 0, n, h => by
    simp only [Nat.pow_zero] at h
    simp only [c5n]
    omega
  | k + 1, n, h => by
    rw [Nat.pow_succ] at h
    have := c5n_up k (n / 27) (by omega)
    show 32 * c5n (k + 1) (n / 27) + n % 27 = 32 * c5n k (n / 27) + n % 27
    rw [this]
theorem zdgn_up : ∀ k n : Nat, n < 27 ^ k → zdgn (k + 1) n = zdgn k n
  | 0, n, h => by
    simp only [Nat.pow_zero] at h
    simp only [zdgn]
    rw [if_pos (by omega)]
  | k + 1, n, h => by
    rw [Nat.pow_succ] at h
    have := zdgn_up k (n / 27) (by omega)
    show (if n = 0 then 0 else zdgn (k + 1) (n / 27) + 1) = (if n = 0 then 0 else zdgn k (n / 27) + 1)
    rw [this]
theorem zdgn_lt : ∀ k n : Nat, n < 27 ^ (k + 1) → zdgn (k + 1) n ≤ k → n < 27 ^ k
  | 0, n, h, h2 => by
    simp only [zdgn] at h2
    simp only [Nat.pow_zero]
    by_cases c : n = 0
    · omega
    · rw [if_neg c] at h2
      omega
  | k + 1, n, h, h2 => by
    rw [Nat.pow_succ] at h ⊢
    have e : zdgn (k + 1 + 1) n = if n = 0 then 0 else zdgn (k + 1) (n / 27) + 1 := rfl
    rw [e] at h2
    by_cases c : n = 0
    · have : 0 < 27 ^ k := Nat.pow_pos (by omega)
      omega
    · rw [if_neg c] at h2
      have := zdgn_lt k (n / 27) (by omega) (by omega)
      omega
theorem zlonger {v l : Nat} (hv : v < 1073741824) (hl : l < 32) : ((Int64.ofNat v <<< ((Int32.ofInt 5).toInt64 &&& 63)) ||| Int64.ofInt (l : Int)) = Int64.ofNat (32 * v + l) := by
  have e1 : Int64.ofInt (l : Int) = Int64.ofNat l := rfl
  have e2 : ((Int32.ofInt 5).toInt64 &&& 63 : Int64) = 5 := by decide +kernel
  rw [e1, e2, ← Int64.toBitVec_inj]
  apply BitVec.eq_of_toNat_eq
  show ((Int64.ofNat v).toBitVec <<< ((5 : Int64).toBitVec.smod 64) ||| (Int64.ofNat l).toBitVec).toNat = (Int64.ofNat (32 * v + l)).toBitVec.toNat
  have e3 : ((5 : Int64).toBitVec.smod 64) = 5#64 := by decide +kernel
  rw [e3, BitVec.toNat_or]
  have t1 : ∀ n : Nat, n < 18446744073709551616 → (Int64.ofNat n).toBitVec.toNat = n := fun n hn => by
    show (BitVec.ofNat 64 n).toNat = n
    rw [BitVec.toNat_ofNat]
    exact Nat.mod_eq_of_lt (by omega)
  have e4 : ((Int64.ofNat v).toBitVec <<< (5#64)).toNat = v <<< 5 := by
    rw [BitVec.shiftLeft_eq', BitVec.toNat_shiftLeft, t1 v (by omega)]
    show v <<< 5 % 2 ^ 64 = _
    rw [Nat.mod_eq_of_lt]
    rw [Nat.shiftLeft_eq]
    omega
  rw [e4, t1 l (by omega), t1 (32 * v + l) (by omega), ← Nat.shiftLeft_add_eq_or_of_lt (by omega), Nat.shiftLeft_eq]
  omega
theorem zty {x : Int64} {l : Nat} (h : zvn x) (hd : zdgn 7 x.toNatClampNeg ≤ 6) (hl : 1 ≤ l ∧ l ≤ 26) : (27 * x + Int64.ofInt (l : Int)).toNatClampNeg = 27 * x.toNatClampNeg + l ∧ zvn (27 * x + Int64.ofInt (l : Int)) ∧ x.toNatClampNeg < 387420489 := by
  have hn := zvn_n h
  have h6 := zdgn_lt 6 x.toNatClampNeg hn hd
  have hx := zi_n h.1
  have e27 : (27 : Int64).toInt = 27 := rfl
  have em : ((27 : Int64) * x).toInt = 27 * x.toInt := by
    rw [zi_mul (by rw [e27]; omega), e27]
  have el : (Int64.ofInt (l : Int)).toInt = l := zi_ofInt (by omega)
  have ea : (27 * x + Int64.ofInt (l : Int)).toInt = 27 * x.toInt + l := by
    rw [zi_add (by omega), em, el]
  have e0 : (27 * x + Int64.ofInt (l : Int)).toNatClampNeg = (27 * x + Int64.ofInt (l : Int)).toInt.toNat := rfl
  refine ⟨by omega, ?_, by omega⟩
  unfold zvn
  omega
theorem k_longer {hp : zH} {x : Int64} {c : Int} (h : zvn x) (hd : zdgn 7 x.toNatClampNeg ≤ 6) (hc : 97 ≤ c ∧ c ≤ 122) : X2_longer hp (c5 x) c = some (c5 (27 * x + Int64.ofInt (c - 97 + 1))) := by
  obtain ⟨l, hl⟩ : ∃ l : Nat, (l : Int) = c - 97 + 1 := ⟨(c - 97 + 1).toNat, by omega⟩
  unfold X2_longer
  rw [zckb (by omega) (by omega), zckb (by omega) (by omega), ← hl]
  obtain ⟨e1, e2, e3⟩ := zty (l := l) h hd (by omega)
  have h7 : c5n 7 x.toNatClampNeg = c5n 6 x.toNatClampNeg := c5n_up 6 _ e3
  have hlt := c5n_lt 6 x.toNatClampNeg
  have e4 : c5 (27 * x + Int64.ofInt (l : Int)) = Int64.ofNat (32 * c5n 6 x.toNatClampNeg + l) := by
    unfold c5
    rw [e1]
    apply congrArg
    show 32 * c5n 6 ((27 * x.toNatClampNeg + l) / 27) + (27 * x.toNatClampNeg + l) % 27 = _
    rw [show (27 * x.toNatClampNeg + l) / 27 = x.toNatClampNeg by omega, show (27 * x.toNatClampNeg + l) % 27 = l by omega]
  rw [e4]
  unfold c5
  rw [h7, zlonger (by omega) (by omega)]
theorem zdgn_l {n l : Nat} (h : n < 387420489) (hl : 1 ≤ l ∧ l ≤ 26) : zdgn 7 (27 * n + l) = zdgn 7 n + 1 := by
  have e : zdgn 7 (27 * n + l) = if 27 * n + l = 0 then 0 else zdgn 6 ((27 * n + l) / 27) + 1 := rfl
  rw [e, if_neg (by omega), show (27 * n + l) / 27 = n by omega, zdgn_up 6 n h]
