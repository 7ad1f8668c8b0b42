-- ===== renumbering: the new codes are taken =====
def zrr (I J : zIT) (L : zLT) (s : Nat) : Nat → List zRow
  | 0 => []
  | n + 1 => zrr I J L s n ++ (if zpo I n s = -1 then [] else if J 25 (zpo I n s).toNat = I 25 (zpo I n s).toNat then [] else [(L 15 s, I 25 (zpo I n s).toNat, (n : Int)), (L 16 s, I 25 (zpo I n s).toNat, (n : Int))])
def zrc (I J : zIT) (s : Nat) (n : Nat) : Int := zsum (fun d => if zpo I d s = -1 then 0 else if J 25 (zpo I d s).toNat = I 25 (zpo I d s).toNat then 0 else 1) n
theorem zrc_in {I J : zIT} {s : Nat} (n : Nat) : 0 ≤ zrc I J s n ∧ zrc I J s n ≤ 1 * (n : Int) := zsum_le (fun k => by
  repeat' split
  all_goals omega) n
theorem zrr_in {I J : zIT} {L : zLT} {s : Nat} : ∀ (n : Nat) (r : zRow), r ∈ zrr I J L s n → (r.1 = L 15 s ∨ r.1 = L 16 s) ∧ 0 ≤ r.2.2 ∧ r.2.2 < n
  | 0, r, h => by cases h
  | n + 1, r, h => by
    have h' : r ∈ zrr I J L s n ++ (if zpo I n s = -1 then [] else if J 25 (zpo I n s).toNat = I 25 (zpo I n s).toNat then [] else [(L 15 s, I 25 (zpo I n s).toNat, (n : Int)), (L 16 s, I 25 (zpo I n s).toNat, (n : Int))]) := h
    rcases List.mem_append.1 h' with h1 | h1
    · have := zrr_in n r h1
      exact ⟨this.1, this.2.1, by omega⟩
    · by_cases c : zpo I n s = -1
      · rw [if_pos c] at h1
        cases h1
      · rw [if_neg c] at h1
        by_cases c2 : J 25 (zpo I n s).toNat = I 25 (zpo I n s).toNat
        · rw [if_pos c2] at h1
          cases h1
        · rw [if_neg c2] at h1
          rcases List.mem_cons.1 h1 with e | h1
          · rw [e]
            exact ⟨Or.inl rfl, by simp only; omega, by simp only; omega⟩
          · rw [List.mem_singleton.1 h1]
            exact ⟨Or.inr rfl, by simp only; omega, by simp only; omega⟩
theorem m_ren225 {A : zIT} {K : zLT} {I : zIT} {L : zLT} {F : zFT} {E : zET} {dyn : zH} {I0 : zIT} {s : Nat} (hb : zB I) (hs : s < 12) (e22 : I 22 = I0 22) (e35 : ∀ p, p < 80 → I 35 p = I0 25 p) : zloop (X8_renumber_b225 (some 14) (s : Int)) zN (0, 0, (zM A K I L F E dyn)) = some (zrc I0 I s (I 14 14).toNat, zM A K (zlg (zrr I0 I L s (I 14 14).toNat) (I, L)).1 (zlg (zrr I0 I L s (I 14 14).toNat) (I, L)).2 F E dyn) := by
  unfold zB at hb
  refine zloop_0 (body := X8_renumber_b225 (some 14) (s : Int)) (fun i => (zrc I0 I s i, (i : Int), zM A K (zlg (zrr I0 I L s i) (I, L)).1 (zlg (zrr I0 I L s i) (I, L)).2 F E dyn)) (I 14 14).toNat ?_ ?_ (by omega)
  · intro i hi
    have hz := zrc_in (I := I0) (J := I) (s := s) i
    have f14 : (zlg (zrr I0 I L s i) (I, L)).1 14 14 = I 14 14 := zlg_14 (by omega) _ _
    have f22 : (zlg (zrr I0 I L s i) (I, L)).1 22 = I 22 := zlg_c (by omega) (by omega) _ _
    have f25 : (zlg (zrr I0 I L s i) (I, L)).1 25 = I 25 := zlg_c (by omega) (by omega) _ _
    have f35 : (zlg (zrr I0 I L s i) (I, L)).1 35 = I 35 := zlg_c (by omega) (by omega) _ _
    have g15 : (zlg (zrr I0 I L s i) (I, L)).2 15 = L 15 := zlg_L (by omega) _ _
    have g16 : (zlg (zrr I0 I L s i) (I, L)).2 16 = L 16 := zlg_L (by omega) _ _
    have b19 := zlg_19 (zrr I0 I L s i) (I, L) hb.2.2
    have ep : zpo (zlg (zrr I0 I L s i) (I, L)).1 i s = zpo I0 i s := zpo_c (f22.trans e22) i s
    have hx : zrr I0 I L s (i + 1) = zrr I0 I L s i ++ (if zpo I0 i s = -1 then [] else if I 25 (zpo I0 i s).toNat = I0 25 (zpo I0 i s).toNat then [] else [(L 15 s, I0 25 (zpo I0 i s).toNat, (i : Int)), (L 16 s, I0 25 (zpo I0 i s).toNat, (i : Int))]) := rfl
    have hc : zrc I0 I s (i + 1) = zrc I0 I s i + (if zpo I0 i s = -1 then 0 else if I 25 (zpo I0 i s).toNat = I0 25 (zpo I0 i s).toNat then 0 else 1) := rfl
    unfold X8_renumber_b225
    simp only
    rw [zg_14_14b, f14, if_neg (by omega), zo_14b, m_placeOn (by omega), ep, zb, hx, hc]
    by_cases c : zpo I0 i s = -1
    · rw [if_pos c, if_pos c, if_pos c, zckb (by omega) (by omega), List.append_nil, Int.add_zero]
      rfl
    · obtain ⟨q1, q2, q3⟩ := zpo_at c
      have q80 : (zpo I0 i s).toNat < 80 := by omega
      rw [if_neg c, if_neg c, if_neg c, zg_14_11b, za_25b (by omega) (by omega), zg_14_23b, za_35b (by omega) (by omega), f25, f35, e35 _ q80]
      by_cases c2 : I 25 (zpo I0 i s).toNat = I0 25 (zpo I0 i s).toNat
      · rw [if_pos c2, if_pos c2, if_pos c2, zckb (by omega) (by omega), List.append_nil, Int.add_zero]
        rfl
      · rw [if_neg c2, if_neg c2, if_neg c2, zg_14_0b, za_15b (by omega) (by omega), zg_14_23b, za_35b (by omega) (by omega), zo_14b, Int.toNat_natCast, g15, f35, e35 _ q80, m_old b19, zb]
        have k16 : zoL (zlg (zrr I0 I L s i) (I, L)).1 (zlg (zrr I0 I L s i) (I, L)).2 (L 15 s) 16 = L 16 := (zoL_c (by omega)).trans g16
        have k35 : zoI (zlg (zrr I0 I L s i) (I, L)).1 (L 15 s) (I0 25 (zpo I0 i s).toNat) (i : Int) 35 = I 35 := (zoI_c (by omega) (by omega)).trans f35
        have b19' : 0 ≤ zoI (zlg (zrr I0 I L s i) (I, L)).1 (L 15 s) (I0 25 (zpo I0 i s).toNat) (i : Int) 14 19 ∧ zoI (zlg (zrr I0 I L s i) (I, L)).1 (L 15 s) (I0 25 (zpo I0 i s).toNat) (i : Int) 14 19 ≤ 200 := zlg_19 [(L 15 s, I0 25 (zpo I0 i s).toNat, (i : Int))] (zlg (zrr I0 I L s i) (I, L)) b19
        rw [zg_14_1b, za_16b (by omega) (by omega), zg_14_23b, za_35b (by omega) (by omega), zo_14b, Int.toNat_natCast, k16, k35, e35 _ q80, m_old b19', zb, zckb (by omega) (by omega), zckb (by omega) (by omega), zlg_app]
        rfl
  · have f14 : (zlg (zrr I0 I L s (I 14 14).toNat) (I, L)).1 14 14 = I 14 14 := zlg_14 (by omega) _ _
    unfold X8_renumber_b225
    simp only
    rw [zg_14_14b, f14, if_pos (by omega)]
theorem k_codeOf {A : zIT} {K : zLT} {I : zIT} {L : zLT} {F : zFT} {E : zET} {dyn : zH} {d : Nat} (hd : d < 40) : X1_codeOf (zM A K I L F E dyn) (some 8) (d : Int) = some (A 11 d) := by
  unfold X1_codeOf
  rw [k_isRow1 hd, zb, if_neg (by omega), zg_8_2b, za_11b (by omega) (by omega), Int.toNat_natCast]
def zhy (I J : zIT) (s i : Nat) : zIT := fun c p => if c = 25 ∧ p / 2 < i ∧ I 22 p = s then J 25 p else I c p
theorem zhy_c {I J : zIT} {s i c : Nat} (h : c ≠ 25) : zhy I J s i c = I c := by
  funext p
  exact if_neg (fun y => h y.1)
theorem zRP_cg8 {I I' : zIT} {dyn : zH} {rs : Nat → Nat} {fp : Nat → Option Nat} (h : zRP I dyn rs fp) (e7 : I' 14 7 = I 14 7) (ec : ∀ c p, 22 ≤ c → c ≤ 25 → p < 80 → I' c p = I c p) : zRP I' dyn rs fp := by
  intro p hp
  rw [e7, ec 22 p (by omega) (by omega) hp, ec 23 p (by omega) (by omega) hp, ec 24 p (by omega) (by omega) hp, ec 25 p (by omega) (by omega) hp]
  exact h p hp
theorem k_takeNew {A : zIT} {K : zLT} {I : zIT} {L : zLT} {F : zFT} {E : zET} {dyn : zH} {I1 J : zIT} {x : zIT × zLT} {rs rd : Nat → Nat} {fp : Nat → Option Nat} {s : Nat} (hb : zB I1) (hS : zRS I1 L F dyn rs) (hD : zRD I1 F dyn rd fp) (hP : zRP I1 dyn rs fp) (h5 : zV5 I1) (h7 : zV7 I1) (hs : (s : Int) < I1 14 7) (hn : zvn (L 15 s) ∧ zvn (L 16 s))
    (hL : ∀ d : Nat, d < 40 → zpo I1 d s ≠ -1 → A 11 d = J 25 (zpo I1 d s).toNat) (hR : zRO2 A K x) (h8 : A 0 8 = x.1 14 28) :
    ∃ A' K' dyn', X7_takeNewCodes (zM A K I L F E dyn) (some 0) (some (rs s + 39)) = some (zrc I1 J s (I1 14 14).toNat, zM A' K' I L F E dyn') ∧ zRO2 A' K' (zlg (zrr I1 J L s (I1 14 14).toNat) x) ∧ (∀ c, c ≠ 3 → c ≠ 5 → c ≠ 6 → c ≠ 7 → A' c = A c) ∧ (∀ c, c ≠ 4 → K' c = K c) ∧
      zRS I1 L F dyn' rs ∧ zRD I1 F dyn' rd fp ∧ zRP (zhy I1 J s 40) dyn' rs fp := by
  have hb' := hb
  unfold zB at hb'
  obtain ⟨e, he, hq⟩ := zloop_up (body := X7_takeNewCodes_b14 (some 0) (some (rs s + 39)) (some 2) 40)
    (fun i t => t.1 = zrc I1 J s i ∧ t.2.1 = (i : Int) ∧ ∃ A' K' dyn', t.2.2 = zM A' K' I L F E dyn' ∧ zRO2 A' K' (zlg (zrr I1 J L s i) x) ∧ (∀ c, c ≠ 3 → c ≠ 5 → c ≠ 6 → c ≠ 7 → A' c = A c) ∧ (∀ c, c ≠ 4 → K' c = K c) ∧ zRS I1 L F dyn' rs ∧ zRD I1 F dyn' rd fp ∧ zRP (zhy I1 J s i) dyn' rs fp)
    (fun e => e.1 = zrc I1 J s 40 ∧ ∃ A' K' dyn', e.2 = zM A' K' I L F E dyn' ∧ zRO2 A' K' (zlg (zrr I1 J L s 40) x) ∧ (∀ c, c ≠ 3 → c ≠ 5 → c ≠ 6 → c ≠ 7 → A' c = A c) ∧ (∀ c, c ≠ 4 → K' c = K c) ∧ zRS I1 L F dyn' rs ∧ zRD I1 F dyn' rd fp ∧ zRP (zhy I1 J s 40) dyn' rs fp) 40 (by
    rintro i ⟨t1, t2, t3⟩ hi ⟨ht1, ht2, A1, K1, dy, ht3, r1, f1, g1, rS, rD, rP⟩
    simp only at ht1 ht2 ht3
    subst ht1 ht2 ht3
    have hz := zrc_in (I := I1) (J := J) (s := s) i
    have y22 : zhy I1 J s i 22 = I1 22 := zhy_c (by omega)
    have rS' : zRS (zhy I1 J s i) L F dy rs := zRS_cg rS (by rw [zhy_c (by omega)]) (fun c c1 c2 => zhy_c (by omega)) rfl rfl rfl
    have rD' : zRD (zhy I1 J s i) F dy rd fp := zRD_cg rD (by rw [zhy_c (by omega)]) (zhy_c (by omega)) (zhy_c (by omega)) rfl
    have hE' : ∀ p : Nat, 2 * zhy I1 J s i 14 14 ≤ (p : Int) → zhy I1 J s i 22 p = -1 := by
      rw [zhy_c (by omega), y22]
      exact h5
    have hs' : (s : Int) < zhy I1 J s i 14 7 := by
      rw [zhy_c (by omega)]
      exact hs
    have hx : zrr I1 J L s (i + 1) = zrr I1 J L s i ++ (if zpo I1 i s = -1 then [] else if J 25 (zpo I1 i s).toNat = I1 25 (zpo I1 i s).toNat then [] else [(L 15 s, I1 25 (zpo I1 i s).toNat, (i : Int)), (L 16 s, I1 25 (zpo I1 i s).toNat, (i : Int))]) := rfl
    have hc : zrc I1 J s (i + 1) = zrc I1 J s i + (if zpo I1 i s = -1 then 0 else if J 25 (zpo I1 i s).toNat = I1 25 (zpo I1 i s).toNat then 0 else 1) := rfl
    have same : (∀ q : Nat, q / 2 = i → I1 22 q = s → J 25 q = I1 25 q) → zRP (zhy I1 J s (i + 1)) dy rs fp := by
      intro h
      refine zRP_cg8 rP (by rw [zhy_c (by omega), zhy_c (by omega)]) (fun c p c1 c2 hp => ?_)
      unfold zhy
      by_cases y : c = 25 ∧ p / 2 < i ∧ I1 22 p = s
      · rw [if_pos y, if_pos ⟨y.1, by omega, y.2.2⟩]
      · rw [if_neg y]
        by_cases y2 : c = 25 ∧ p / 2 < i + 1 ∧ I1 22 p = s
        · have y3 : p / 2 = i := by
            have : ¬ p / 2 < i := fun z => y ⟨y2.1, z, y2.2.2⟩
            omega
          rw [if_pos y2, y2.1]
          exact h p y3 y2.2.2
        · rw [if_neg y2]
    unfold X7_takeNewCodes_b14
    simp only
    rw [if_neg (by omega), za_2b (by omega) (by omega), Int.toNat_natCast, k_placeOf_g rS' rD' rP hE' hi hs', zb]
    refine Or.inl ?_
    have epo : zpo (zhy I1 J s i) i s = zpo I1 i s := zpo_c y22 i s
    rcases zpf_at (s := s) rP hi with ⟨z1, z2⟩ | ⟨z1, r, z2, z3⟩
    · rw [epo] at z2
      rw [z1, if_pos rfl, zckb (by omega) (by omega)]
      refine ⟨_, rfl, ?_, rfl, A1, K1, dy, rfl, ?_, f1, g1, rS, rD, same (fun q h1 h2 => absurd h2 (zpo_no z2 h1))⟩
      · simp only
        rw [hc, if_pos z2, Int.add_zero]
      · rw [hx, if_pos z2, List.append_nil]
        exact r1
    · rw [epo] at z1 z3
      obtain ⟨q1, q2, q3⟩ := zpo_at z1
      have q80 : (zpo I1 i s).toNat < 80 := by omega
      have e25 : zhy I1 J s i 25 (zpo I1 i s).toNat = I1 25 (zpo I1 i s).toNat := if_neg (fun y => by omega)
      have e23 : zhy I1 J s i 23 = I1 23 := zhy_c (by omega)
      have e24 : zhy I1 J s i 24 = I1 24 := zhy_c (by omega)
      rw [e25, e23, e24] at z3
      have uq : ∀ q : Nat, q / 2 = i → I1 22 q = s → q = (zpo I1 i s).toNat := by
        intro q h1 h2
        have := zpo_eq h7 h2
        rw [h1] at this
        omega
      have a11 : A1 11 i = J 25 (zpo I1 i s).toNat := by
        rw [f1 11 (by omega) (by omega) (by omega) (by omega)]
        exact hL i hi z1
      rw [z2, if_neg (fun y => by cases y), zgPlc_4b z3, zg_0_3b, zgPlc_0b z3, zo_8b, k_codeOf hi, zb, a11]
      by_cases c2 : I1 25 (zpo I1 i s).toNat = J 25 (zpo I1 i s).toNat
      · rw [if_pos c2, zckb (by omega) (by omega)]
        refine ⟨_, rfl, ?_, rfl, A1, K1, dy, rfl, ?_, f1, g1, rS, rD, same (fun q h1 h2 => by rw [uq q h1 h2]; exact c2.symm)⟩
        · simp only
          rw [hc, if_neg z1, if_pos c2.symm, Int.add_zero]
        · rw [hx, if_neg z1, if_pos c2.symm, List.append_nil]
          exact r1
      · obtain ⟨A2, K2, e2, r2, f2, g2⟩ := k_rememberBoth (I := I) (L := L) (F := F) (E := E) r1 hn.1 hn.2 (by rw [f1 0 (by omega) (by omega) (by omega) (by omega), zlg_28]; exact h8) z3 (rS.1 s hs).2
        have a11' : A2 11 i = J 25 (zpo I1 i s).toNat := by
          rw [f2 11 (by omega) (by omega) (by omega) (by omega)]
          exact a11
        rw [if_neg c2, zo_0b, e2, zb, zg_0_3b, zgPlc_0b z3, zo_8b, k_codeOf hi, zb, a11', zpPlc_4b z3, zckb (by omega) (by omega), zckb (by omega) (by omega)]
        have rP2 : zRP (zhy I1 J s (i + 1)) (dy.set r (zPlc (i : Int) (some (rs s + 39)) (I1 23 (zpo I1 i s).toNat) (if I1 24 (zpo I1 i s).toNat = 108 then 1 else 0) (J 25 (zpo I1 i s).toNat))) rs fp := by
          have hfp : fp (zpo I1 i s).toNat = some (r + 39) := by
            rw [← z2]
            unfold zpf
            rw [y22]
            by_cases y : I1 22 (2 * i) = s
            · rw [if_pos y, uq (2 * i) (by omega) y]
            · have e1 : (zpo I1 i s).toNat = 2 * i + 1 := by
                rcases show (zpo I1 i s).toNat = 2 * i ∨ (zpo I1 i s).toNat = 2 * i + 1 by omega with w | w
                · exact absurd (by rw [← w]; exact q2) y
                · exact w
              rw [if_neg y, if_pos (by rw [← e1]; exact q2), e1]
          have h7' : zV7 (zhy I1 J s i) := by
            unfold zV7
            rw [y22]
            exact h7
          have hset := zRP_set (I' := zhy I1 J s (i + 1)) (p := (zpo I1 i s).toNat) rS' rP h7' q80 hfp (by rw [zhy_c (by omega), zhy_c (by omega)]) (by rw [zhy_c (by omega), zhy_c (by omega), q2]; omega) (fun c q c1 c2 hne => by
            unfold zhy
            by_cases y : c = 25 ∧ q / 2 < i ∧ I1 22 q = s
            · rw [if_pos y, if_pos ⟨y.1, by omega, y.2.2⟩]
            · rw [if_neg y, if_neg]
              intro y2
              have y3 : q / 2 = i := by
                have : ¬ q / 2 < i := fun z => y ⟨y2.1, z, y2.2.2⟩
                omega
              exact hne (uq q y3 y2.2.2))
          have w22 : zhy I1 J s (i + 1) 22 = I1 22 := zhy_c (by omega)
          have w23 : zhy I1 J s (i + 1) 23 = I1 23 := zhy_c (by omega)
          have w24 : zhy I1 J s (i + 1) 24 = I1 24 := zhy_c (by omega)
          have w25 : zhy I1 J s (i + 1) 25 (zpo I1 i s).toNat = J 25 (zpo I1 i s).toNat := if_pos ⟨rfl, by omega, q2⟩
          rw [w22, w23, w24, w25, q2, Int.toNat_natCast, q1] at hset
          exact hset
        refine ⟨_, rfl, ?_, rfl, A2, K2, _, rfl, ?_, fun c c1 c2 c3 c4 => (f2 c c1 c2 c3 c4).trans (f1 c c1 c2 c3 c4), fun c c1 => (g2 c c1).trans (g1 c c1), zRS_setP rS z3, zRD_setP rD z3, rP2⟩
        · simp only
          rw [hc, if_neg z1, if_neg (fun y => c2 y.symm)]
        · rw [hx, if_neg z1, if_neg (fun y => c2 y.symm), zlg_app]
          exact r2) (by
    rintro ⟨t1, t2, t3⟩ ⟨ht1, ht2, h⟩
    simp only at ht1 ht2
    subst ht1 ht2
    unfold X7_takeNewCodes_b14
    simp only
    rw [if_pos (by omega)]
    exact ⟨_, rfl, rfl, h⟩) (0, 0, (zM A K I L F E dyn)) ⟨rfl, rfl, A, K, dyn, rfl, hR, fun _ _ _ _ _ => rfl, fun _ _ => rfl, hS, hD, zRP_cg8 hP (by rw [zhy_c (by omega)]) (fun c p c1 c2 hp => if_neg (fun y => absurd y.2.1 (Nat.not_lt_zero _)))⟩ (by omega)
  obtain ⟨q1, A', K', dyn', q2, q3, q4⟩ := hq
  have out : ∀ i : Nat, (I1 14 14).toNat ≤ i → zpo I1 i s = -1 := by
    intro i hi
    unfold zpo
    rw [h5 (2 * i) (by omega), h5 (2 * i + 1) (by omega), if_neg (by omega), if_neg (by omega)]
  have ec : zrc I1 J s 40 = zrc I1 J s (I1 14 14).toNat := zsum_ext (by omega) (fun i h1 _ => if_pos (out i h1))
  have er : ∀ k, zrr I1 J L s ((I1 14 14).toNat + k) = zrr I1 J L s (I1 14 14).toNat := by
    intro k
    induction k with
    | zero => rfl
    | succ k ih =>
      have hx : zrr I1 J L s ((I1 14 14).toNat + k + 1) = zrr I1 J L s ((I1 14 14).toNat + k) ++ (if zpo I1 ((I1 14 14).toNat + k) s = -1 then [] else if J 25 (zpo I1 ((I1 14 14).toNat + k) s).toNat = I1 25 (zpo I1 ((I1 14 14).toNat + k) s).toNat then [] else [(L 15 s, I1 25 (zpo I1 ((I1 14 14).toNat + k) s).toNat, (((I1 14 14).toNat + k : Nat) : Int)), (L 16 s, I1 25 (zpo I1 ((I1 14 14).toNat + k) s).toNat, (((I1 14 14).toNat + k : Nat) : Int))]) := rfl
      rw [← Nat.add_assoc, hx, if_pos (out _ (by omega)), List.append_nil, ih]
  have er40 := er (40 - (I1 14 14).toNat)
  rw [show (I1 14 14).toNat + (40 - (I1 14 14).toNat) = 40 by omega] at er40
  rw [er40] at q3
  refine ⟨A', K', dyn', ?_, q3, q4⟩
  unfold X7_takeNewCodes
  rw [zg_0_1b, zl_2b, he, zb, q1, q2, ec]
