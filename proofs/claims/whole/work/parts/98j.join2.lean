-- ===== joining: both loops in step =====
def zoff (J J2 : zIT) (d : Nat) : Prop := ∀ c q : Nat, 22 ≤ c → c ≤ 25 → q / 2 ≠ d → J2 c q = J c q
theorem zun_off {I J J2 : zIT} {d d' : Nat} (h : zoff J J2 d) (hd : d' ≠ d) (hu : zun I J d') : zun I J2 d' := fun c p c1 c2 hp => by
  rw [h c p c1 c2 (by omega)]
  exact hu c p c1 c2 hp
theorem zmS_off {I J J2 : zIT} {s o d d' : Nat} (h : zoff J J2 d) (hd : d' ≠ d) (hpo : zpo I d' o ≠ -1) (hu : zmS I J s o d') : zmS I J2 s o d' := by
  obtain ⟨q1, q2, q3⟩ := zpo_at hpo
  obtain ⟨⟨a1, a2, a3, a4⟩, a5⟩ := hu
  refine ⟨?_, fun c p c1 c2 hp hne => ?_⟩
  · rw [h 22 _ (by omega) (by omega) (by omega), h 23 _ (by omega) (by omega) (by omega), h 24 _ (by omega) (by omega) (by omega), h 25 _ (by omega) (by omega) (by omega)]
    exact ⟨a1, a2, a3, a4⟩
  · rw [h c p c1 c2 (by omega)]
    exact a5 c p c1 c2 hp hne
theorem zmB_off {I J J2 : zIT} {s d d' : Nat} (h : zoff J J2 d) (hd : d' ≠ d) (hu : zmB I J s d') : zmB I J2 s d' := by
  obtain ⟨a1, a2, a3, a4, a5, a6⟩ := hu
  unfold zmB
  rw [h 22 _ (by omega) (by omega) (by omega), h 23 _ (by omega) (by omega) (by omega), h 24 _ (by omega) (by omega) (by omega), h 25 _ (by omega) (by omega) (by omega), h 22 (2 * d' + 1) (by omega) (by omega) (by omega), h 24 (2 * d' + 1) (by omega) (by omega) (by omega)]
  exact ⟨a1, a2, a3, a4, a5, a6⟩
theorem zLgrd_off {A J J2 : zIT} {s d d' : Nat} (h : zoff J J2 d) (hd : d' ≠ d) (h17 : J2 17 = J 17) (h19 : J2 19 = J 19) (hL : zLgrd A J s d') : zLgrd A J2 s d' := by
  rcases hL with ⟨g1, g2⟩ | ⟨p, g1, g2, g3, g4, g5, g6⟩
  · refine Or.inl ⟨g1, fun p hp h2 => ?_⟩
    rw [h 22 p (by omega) (by omega) (by omega)] at h2
    rw [h 25 p (by omega) (by omega) (by omega)]
    exact g2 p hp h2
  · refine Or.inr ⟨p, g1, ?_⟩
    have e : zky J2 s p = zky J s p := by
      unfold zky zfr
      rw [h17, h19, h 23 p (by omega) (by omega) (by omega)]
    rw [h 22 p (by omega) (by omega) (by omega), h 25 p (by omega) (by omega) (by omega), h 24 p (by omega) (by omega) (by omega), e]
    exact ⟨g2, g3, g4, g5, g6⟩
theorem zJI_W {A I J0 J : zIT} {L : zLT} {B B0 : Int} {rk : Nat → Nat} {s o c i : Nat} (hV : zVA I L B rk) (h : zJI A I J0 J s o c i B0) (j21 : ∀ t, t ≠ s → J0 21 t = I 21 t) (j80 : ∀ c p : Nat, 22 ≤ c → c ≤ 25 → ¬ p < 80 → J0 c p = I c p) : zJW J0 J s := by
  have hb := zVA_B hV
  unfold zB at hb
  refine ⟨h.2.2.1, fun t ht => by rw [h.2.2.2.1 t ht, j21 t ht], fun c p c1 c2 hp => ?_⟩
  have ez : zpo I (p / 2) o = -1 := by
    unfold zpo
    rw [zVA_5 hV (2 * (p / 2)) (by omega), zVA_5 hV (2 * (p / 2) + 1) (by omega), if_neg (by omega), if_neg (by omega)]
  rw [h.2.2.2.2.1 _ ez c p c1 c2 rfl, j80 c p c1 c2 hp]
theorem z_jn {K : zLT} {I J0 : zIT} {L : zLT} {F : zFT} {E : zET} {dyn : zH} {rs rd : Nat → Nat} {fp : Nat → Option Nat} {B B0 g0 : Int} {rk : Nat → Nat} {s o c : Nat}
    (hV : zVA I L B rk) (hS : zRS I L F dyn rs) (hD : zRD I F dyn rd fp) (hP : zRP I dyn rs fp) (hs : zst I s) (ho : zst I o) (hne : s ≠ o) (hc4 : c ≤ 40) (hlen : I 17 s + I 17 o ≤ 999) (hB0 : 200 ≤ B0 ∧ B0 ≤ 80000)
    (j17 : ∀ t, J0 17 t = if t = s then I 17 s + I 17 o else I 17 t) (j14 : J0 14 14 = I 14 14) (jB : zB J0) (j18 : J0 18 = I 18) (j19 : J0 19 = I 19) (j21 : ∀ t, t ≠ s → J0 21 t = I 21 t) (j80 : ∀ c p : Nat, 22 ≤ c → c ≤ 25 → ¬ p < 80 → J0 c p = I c p) :
    ∀ (n i : Nat) (J A : zIT), i ≤ c → zJI A I J0 J s o c i B0 → zdo J o 80 ≤ n → ∀ f2 : Nat, c - i + 2 ≤ f2 →
      ∃ (can : Int) (J' A' : zIT), (can = 0 ∨ can = 1) ∧ (∀ (Ax : zIT) (Kx Lx : zLT) (Fx : zFT) (Ex : zET) (dx : zH) (p : Int) (f1 : Nat), znt J o (fun p => J 22 p = o) 0 (2 * I 14 14).toNat p → n + 2 ≤ f1 → zloop (X8_join_b112 (some 14) (s : Int) (o : Int) g0 (I 17 s)) f1 (1, p, zM Ax Kx J Lx Fx Ex dx) = some (can, zM Ax Kx J' Lx Fx Ex dx)) ∧
        zloop (X7_enterInOrder_b2 (some 0) (some (rs o + 39)) (I 17 s)) f2 ((i : Int), zM A K I L F E dyn) = some (if can = 1 then .inl (zM A' K I L F E dyn) else .inr (zM A' K I L F E dyn)) ∧ zJW J0 J' s ∧ (∀ j, j ≠ 8 → j ≠ 9 → j ≠ 10 → j ≠ 11 → A' j = A j) ∧ (can = 1 → zJI A' I J0 J' s o c c B0 ∧ ∀ q, q < 80 → J' 22 q ≠ o) := by
  have hb := zVA_B hV
  have hb' := hb
  unfold zB at hb'
  have hsn := hs.2.1
  have hon := ho.2.1
  have LVs := zVA_LV hV hsn
  have LVo := zVA_LV hV hon
  have stop : ∀ (n i : Nat) (J A : zIT), i ≤ c → zJI A I J0 J s o c i B0 → (∀ q, q < 80 → J 22 q ≠ o) → ∀ f2 : Nat, c - i + 2 ≤ f2 →
      ∃ (can : Int) (J' A' : zIT), (can = 0 ∨ can = 1) ∧ (∀ (Ax : zIT) (Kx Lx : zLT) (Fx : zFT) (Ex : zET) (dx : zH) (p : Int) (f1 : Nat), znt J o (fun p => J 22 p = o) 0 (2 * I 14 14).toNat p → n + 2 ≤ f1 → zloop (X8_join_b112 (some 14) (s : Int) (o : Int) g0 (I 17 s)) f1 (1, p, zM Ax Kx J Lx Fx Ex dx) = some (can, zM Ax Kx J' Lx Fx Ex dx)) ∧
        zloop (X7_enterInOrder_b2 (some 0) (some (rs o + 39)) (I 17 s)) f2 ((i : Int), zM A K I L F E dyn) = some (if can = 1 then .inl (zM A' K I L F E dyn) else .inr (zM A' K I L F E dyn)) ∧ zJW J0 J' s ∧ (∀ j, j ≠ 8 → j ≠ 9 → j ≠ 10 → j ≠ 11 → A' j = A j) ∧ (can = 1 → zJI A' I J0 J' s o c c B0 ∧ ∀ q, q < 80 → J' 22 q ≠ o) := by
    intro n i J A hic hI hno f2 hf2
    have hI' := hI
    obtain ⟨i1, i2, i3, i4, i5, i6, i7, i8, i9, i10⟩ := hI'
    have hi : i = c := by
      rcases Nat.lt_or_eq_of_le hic with y | y
      · exfalso
        obtain ⟨d, d1, d2, d3⟩ := (i10.2 (A 13 i)).2 ⟨i, y, rfl⟩
        rcases i7 d d1 d2.1 d2.2 with ⟨u, _⟩ | ⟨_, u⟩
        · obtain ⟨q1, q2, q3⟩ := zpo_at d2.1
          have e := u 22 (zpo I d o).toNat (by omega) (by omega) q1
          exact hno (zpo I d o).toNat (by omega) (by rw [e]; exact q2)
        · exact u i (Nat.le_refl i) y d3
      · exact y
    subst hi
    obtain ⟨f2, rfl⟩ : ∃ k, f2 = k + 1 := ⟨f2 - 1, by omega⟩
    refine ⟨1, J, A, Or.inr rfl, ?_, ?_, zJI_W hV hI j21 j80, fun _ _ _ _ _ => rfl, fun _ => ⟨hI, hno⟩⟩
    · intro Ax Kx Lx Fx Ex dx p f1 hp hf1
      obtain ⟨f1, rfl⟩ : ∃ k, f1 = k + 1 := ⟨f1 - 1, by omega⟩
      have hp1 : p = -1 := by
        by_cases y : p = -1
        · exact y
        · obtain ⟨q, q1, q2, q3⟩ := znt_at hp y
          exact absurd q3 (hno q (by omega))
      apply zloop_out
      unfold X8_join_b112
      simp only
      rw [if_neg (by omega), if_pos hp1]
    · rw [if_pos rfl]
      apply zloop_out
      unfold X7_enterInOrder_b2
      simp only
      rw [zg_0_4b, zg_12_1b, i9, if_pos (by omega)]
  intro n
  induction n with
  | zero =>
    intro i J A hic hI hz f2 hf2
    refine stop 0 i J A hic hI (fun q hq h => ?_) f2 hf2
    have := zdo_pos hq h
    omega
  | succ n ih =>
    intro i J A hic hI hz f2 hf2
    by_cases hex : ∀ q, q < 80 → J 22 q ≠ o
    · exact stop (n + 1) i J A hic hI hex f2 hf2
    · have hI' := hI
      obtain ⟨i1, i2, i3, i4, i5, i6, i7, i8, i9, i10⟩ := hI'
      have e14 : J 14 14 = I 14 14 := by rw [i3 14 (by omega), j14]
      have e17 : ∀ t, J 17 t = if t = s then I 17 s + I 17 o else I 17 t := fun t => by rw [i3 17 (by omega), j17]
      have e17o : J 17 o = I 17 o := by rw [e17, if_neg (fun y => hne y.symm)]
      have e17s : J 17 s = I 17 s + I 17 o := by rw [e17, if_pos rfl]
      have e19 : J 19 = I 19 := by rw [i3 19 (by omega), j19]
      have bJ : zB J := by
        unfold zB
        rw [i3 14 (by omega)]
        exact jB
      have leastOf : ∀ (J2 : zIT) (i2 : Nat) (A2 : zIT), zJI A2 I J0 J2 s o c i2 B0 → ∀ (Ax : zIT) (Kx Lx : zLT) (Fx : zFT) (Ex : zET) (dx : zH), ∃ r, X8_least (zM Ax Kx J2 Lx Fx Ex dx) (some 14) (o : Int) = some r ∧ znt J2 o (fun p => J2 22 p = o) 0 (2 * I 14 14).toNat r := by
        intro J2 i2 A2 hI2 Ax Kx Lx Fx Ex dx
        have k14 : J2 14 14 = I 14 14 := by rw [hI2.2.2.1 14 (by omega), j14]
        have k17 : J2 17 o = I 17 o := by rw [hI2.2.2.1 17 (by omega), j17, if_neg (fun y => hne y.symm)]
        obtain ⟨r, e, h⟩ := m_least (A := Ax) (K := Kx) (I := J2) (L := Lx) (F := Fx) (E := Ex) (dyn := dx) (s := o) (by unfold zB; rw [hI2.2.2.1 14 (by omega)]; exact jB) (by omega) (by rw [k17]; exact LVo.2.2.2.1) (fun p hp h => by
          obtain ⟨u, e22, _⟩ := zJI_o hV hne hI2 hp h
          rw [u 23 p (by omega) (by omega) rfl]
          have := (LVo.2.2.2.2.2 p hp e22).2.1
          have := LVo.2.2.2.1
          omega)
        rw [k14] at h
        exact ⟨r, e, h⟩
      obtain ⟨p0, _, hp0⟩ := leastOf J i A hI A K L F E dyn
      have hp0n : p0 ≠ -1 := by
        intro y
        apply hex
        intro q hq h
        rcases hp0 with ⟨_, h2⟩ | ⟨p1, h1, _⟩
        · obtain ⟨u, e22, _⟩ := zJI_o hV hne hI hq h
          exact h2 q (zLV_n LVo e22) h
        · omega
      obtain ⟨p1, rfl, hp1n, hp1o⟩ := znt_at hp0 hp0n
      have p80 : p1 < 80 := by omega
      have hp1i : (p1 : Int) < 2 * I 14 14 := by omega
      have hne' : (s : Int) ≠ (o : Int) := fun z => hne (Int.ofNat_inj.1 z)
      obtain ⟨un, e22, ez⟩ := zJI_o hV hne hI p80 hp1o
      obtain ⟨d, hd⟩ : ∃ d, d = p1 / 2 := ⟨_, rfl⟩
      rw [← hd] at un ez
      have d40 : d < 40 := by omega
      have vp := zV4_at (zVA_4 hV) p80 e22
      have zfo : ∀ m, zfr J o m = zfr I o m := fun m => by
        unfold zfr
        rw [e17o, e19]
      have pe : ∀ p : Int, znt J o (fun p => J 22 p = o) 0 (2 * I 14 14).toNat p → p = (p1 : Int) := by
        intro p hp
        rcases hp with ⟨_, h2⟩ | ⟨q, h1, h2, h3, h4⟩
        · exact absurd hp1o (h2 p1 hp1n)
        · rcases hp0 with ⟨h5, _⟩ | ⟨q', h5, h6, h7, h8⟩
          · omega
          · have eq' : q' = p1 := by omega
            subst eq'
            have a1 := (h4 q' hp1n hp1o).2 rfl
            have a2 := (h8 q h2 h3).2 rfl
            unfold zky at a1 a2
            obtain ⟨u2, f22, fz⟩ := zJI_o hV hne hI (show q < 80 by omega) h3
            have e : q / 2 = q' / 2 := by omega
            have := LVo.2.2.1 q q' e f22 e22
            omega
      have oth : ∀ q : Nat, q / 2 = d → q ≠ p1 → I 22 q ≠ o := fun q h1 h2 h3 => h2 (LVo.2.2.1 q p1 (by omega) h3 e22)
      by_cases cb : zpo I d s = -1
      · -- a door of the one that goes alone
        have hcd := i7 d d40 (by rw [ez]; omega) cb
        have hcd2 : ∃ a, i ≤ a ∧ a < c ∧ A 13 a = zjr I o d * 64 + d := by
          rcases hcd with y | y
          · exact y.2
          · exfalso
            have := y.1.1.1
            rw [ez, Int.toNat_natCast, hp1o] at this
            omega
        obtain ⟨a, a1, a2, a3⟩ := hcd2
        have hi : i < c := by omega
        have zj : zjr I o d = zfr I o (I 23 p1) := by
          unfold zjr
          rw [ez, Int.toNat_natCast]
        have ai : A 13 i = zjr I o d * 64 + d := by
          obtain ⟨d', d1, d2, d3⟩ := (i10.2 (A 13 i)).2 ⟨i, hi, rfl⟩
          have hle := zOS_le i10 a1 a2
          rcases i7 d' d1 d2.1 d2.2 with ⟨u, _⟩ | ⟨_, u⟩
          · obtain ⟨q1, q2, q3⟩ := zpo_at d2.1
            have f22 := u 22 (zpo I d' o).toNat (by omega) (by omega) q1
            have f23 := u 23 (zpo I d' o).toNat (by omega) (by omega) q1
            rcases hp0 with ⟨h5, _⟩ | ⟨q', h5, h6, h7, h8⟩
            · omega
            · have eq' : q' = p1 := by omega
              subst eq'
              have := (h8 (zpo I d' o).toNat (zLV_n LVo q2) (by show J 22 (zpo I d' o).toNat = (o : Int); rw [f22]; exact q2)).2 rfl
              unfold zky at this
              rw [zfo, zfo, f23, un 23 q' (by omega) (by omega) hd.symm] at this
              unfold zjr at d3
              omega
          · exact absurd d3 (u i (Nat.le_refl i) hi)
        have hl := LVo.2.2.2.1
        have hls := LVs.2.2.2.1
        have u23 := un 23 p1 (by omega) (by omega) hd.symm
        have u24 := un 24 p1 (by omega) (by omega) hd.symm
        have uo : ∀ q : Nat, q / 2 = d → J 22 q ≠ s := by
          intro q h1 h2
          rw [un 22 q (by omega) (by omega) h1] at h2
          have := zpo_eq (zVA_7 hV) h2
          rw [h1, cb] at this
          omega
        -- the tables without the place
        have c22 : ∀ q, zu J 22 p1 (-1) 22 q = if q = p1 then -1 else J 22 q := fun q => zu_j
        have cc : ∀ c, c ≠ 22 → zu J 22 p1 (-1) c = J c := fun c h => zu_c h
        have L1 : zLgr A (zu J 22 p1 (-1)) s := by
          refine ⟨by rw [cc 18 (by omega)]; exact i1.1, by rw [cc 19 (by omega)]; exact i1.2.1, by rw [cc 17 (by omega)]; exact i1.2.2.1, by rw [cc 21 (by omega)]; exact i1.2.2.2.1, fun d' hd' => ?_⟩
          by_cases y : d' = d
          · subst y
            rcases i1.2.2.2.2 d' hd' with ⟨g1, _⟩ | ⟨q, g1, g2, _⟩
            · refine Or.inl ⟨g1, fun q hq h2 => ?_⟩
              rw [c22] at h2
              by_cases z : q = p1
              · rw [if_pos z] at h2
                omega
              · rw [if_neg z] at h2
                exact absurd h2 (uo q hq)
            · exact absurd g2 (uo q g1)
          · exact zLgrd_off (fun c q c1 c2 hq => by
              by_cases z : c = 22
              · rw [z, c22, if_neg (by omega)]
              · rw [cc c z]) y (cc 17 (by omega)) (cc 19 (by omega)) (i1.2.2.2.2 d' hd')
        have V1 : zLV (zu J 22 p1 (-1)) s (B0 + 2 * i) := by
          refine ⟨bJ, fun q hq => ?_, fun q q' hh h1 h2 => ?_, by rw [cc 17 (by omega)]; exact i2.2.2.2.1, by rw [cc 21 (by omega)]; exact i2.2.2.2.2.1, fun q hq h => ?_⟩
          · rw [c22]
            by_cases y : q = p1
            · rw [if_pos y]
            · rw [if_neg y]
              exact i2.2.1 q hq
          · rw [c22] at h1 h2
            by_cases y : q = p1
            · rw [if_pos y] at h1
              omega
            · by_cases y' : q' = p1
              · rw [if_pos y'] at h2
                omega
              · rw [if_neg y] at h1
                rw [if_neg y'] at h2
                exact i2.2.2.1 q q' hh h1 h2
          · rw [c22] at h
            by_cases y : q = p1
            · rw [if_pos y] at h
              omega
            · rw [if_neg y] at h
              rw [cc 24 (by omega), cc 23 (by omega), cc 17 (by omega), cc 25 (by omega), cc 21 (by omega)]
              exact i2.2.2.2.2.2 q hq h
        have hmm : 0 ≤ I 17 s + I 23 p1 ∧ I 17 s + I 23 p1 ≤ zu J 22 p1 (-1) 17 s := by
          rw [cc 17 (by omega), e17s]
          omega
        have hf : ∀ q : Nat, q < 80 → zu J 22 p1 (-1) 22 q = s → 0 ≤ zu J 22 p1 (-1) 25 q → q / 2 ≠ d := by
          intro q hq h1 _ h3
          rw [c22] at h1
          by_cases y : q = p1
          · rw [if_pos y] at h1
            omega
          · rw [if_neg y] at h1
            exact uo q h3 h1
        have mc := fun (Ax : zIT) (Kx Lx : zLT) (Fx : zFT) (Ex : zET) (dx : zH) => m_comes (A := Ax) (K := Kx) (I := zu J 22 p1 (-1)) (L := Lx) (F := Fx) (E := Ex) (dyn := dx) (s := s) (d := d) (m := I 17 s + I 23 p1) (w := I 24 p1) (B := B0 + 2 * i) V1.1 (by omega) (by omega) V1.2.2.2.1 hmm (by omega) V1.2.2.2.2.1 (fun p hp h => by
          have := (V1.2.2.2.2.2 p hp h).2.1
          have := V1.2.2.2.1
          omega) (fun p hp h => by
          have := (V1.2.2.2.2.2 p hp h).2.2
          have := V1.2.2.2.2.1
          omega)
        obtain ⟨r, _, hzc, _, _⟩ := mc A K L F E dyn
        have hr := zcm_in V1 hmm hzc
        have hg := V1.2.2.2.2.1
        obtain ⟨f2, rfl⟩ : ∃ k, f2 = k + 1 := ⟨f2 - 1, by omega⟩
        have zj0 : 0 ≤ zjr I o d := by
          rw [zj]
          exact (zfr_in hl vp.2.1).1
        have kst := k_enterStep (A := A) (K := K) (E := E) (J := zu J 22 p1 (-1)) (more := I 17 s) (m := I 17 s + I 23 p1) (w := I 24 p1) (r := r) (s := s) (t := o) (d := d) (i := i) (c := c) hb hS hD hP (zVA_5 hV) hon i9 hc4 hi (by rw [ai]; omega) (by rw [ai]; omega) d40 (by rw [ez]; omega) (by rw [ez, Int.toNat_natCast]; omega) (by rw [ez, Int.toNat_natCast]) (by rw [ez, Int.toNat_natCast]; omega) L1 V1 (by omega) vp.2.2.1 hf hmm hzc
        have mst : ∀ (Ax : zIT) (Kx Lx : zLT) (Fx : zFT) (Ex : zET) (dx : zH), X8_moves (zM Ax Kx J Lx Fx Ex dx) (some 14) (p1 : Int) (s : Int) (I 17 s) = if r < 0 then some (0, zM Ax Kx (zu J 22 p1 (-1)) Lx Fx Ex dx) else some (1, zM Ax Kx (zputs (zu J 22 p1 (-1)) p1 s (I 17 s + I 23 p1) (I 24 p1) r) Lx Fx Ex dx) := by
          intro Ax Kx Lx Fx Ex dx
          obtain ⟨r2, ec, hz2, _, _⟩ := mc Ax Kx Lx Fx Ex dx
          have er := zcm_one L1 V1 (by omega) vp.2.2.1 hf hmm (by omega) hzc hz2
          rw [er] at ec
          have := m_moves_s (A := Ax) (K := Kx) (I := J) (L := Lx) (F := Fx) (E := Ex) (dyn := dx) (s := s) (d := d) (p := p1) (far := I 17 s) (r := r) hd.symm p80 (by omega) (by rw [zpo_un un]; exact cb) (by rw [u24]; exact zvsd vp.2.2.1) (by rw [u23]; omega) (by rw [u23, u24]; exact ec)
          rw [u23, u24] at this
          exact this
        have W1 : zJW J0 (zu J 22 p1 (-1)) s := by
          obtain ⟨w1, w2, w3⟩ := zJI_W hV hI j21 j80
          refine ⟨fun c hc => by rw [cc c (by omega)]; exact w1 c hc, fun t ht => by rw [cc 21 (by omega)]; exact w2 t ht, fun c q c1 c2 hq => ?_⟩
          by_cases y : c = 22
          · rw [y, c22, if_neg (by omega)]
            exact w3 22 q (by omega) (by omega) hq
          · rw [cc c y]
            exact w3 c q c1 c2 hq
        by_cases cr : r = -1
        · rw [if_pos cr] at kst
          refine ⟨0, zu J 22 p1 (-1), A, Or.inl rfl, ?_, ?_, W1, fun _ _ _ _ _ => rfl, fun y => by omega⟩
          · intro Ax Kx Lx Fx Ex dx p f1 hp hf1
            obtain ⟨f1, rfl⟩ : ∃ k, f1 = k + 2 := ⟨f1 - 2, by omega⟩
            have hpe := pe p hp
            have lst : ∃ r, X8_least (zM Ax Kx (zu J 22 p1 (-1)) Lx Fx Ex dx) (some 14) (o : Int) = some r := by
              obtain ⟨r, e, _⟩ := m_least (A := Ax) (K := Kx) (I := zu J 22 p1 (-1)) (L := Lx) (F := Fx) (E := Ex) (dyn := dx) (s := o) V1.1 (by omega) (by rw [cc 17 (by omega), e17o]; exact hl) (fun q hq h => by
                rw [c22] at h
                by_cases y : q = p1
                · rw [if_pos y] at h
                  omega
                · rw [if_neg y] at h
                  obtain ⟨u, f22, _⟩ := zJI_o hV hne hI hq h
                  rw [cc 23 (by omega), u 23 q (by omega) (by omega) rfl]
                  have := (LVo.2.2.2.2.2 q hq f22).2.1
                  omega)
              exact ⟨r, e⟩
            obtain ⟨p2, e2⟩ := lst
            have st2 : X8_join_b112 (some 14) (s : Int) (o : Int) g0 (I 17 s) (1, p, zM Ax Kx J Lx Fx Ex dx) = some (.inl (0, p2, zM Ax Kx (zu J 22 p1 (-1)) Lx Fx Ex dx)) := by
              unfold X8_join_b112
              simp only
              rw [if_neg (by omega), if_neg (by omega), zo_14b, hpe, mst, if_pos (by omega), zb, zo_14b, e2, zb]
            rw [zloop_in st2]
            apply zloop_out
            unfold X8_join_b112
            simp only
            rw [if_pos trivial]
          · rw [if_neg (by omega)]
            exact zloop_out kst
        · have hr10 : 10 ≤ r := by omega
          rw [if_neg cr] at kst
          have k22 : ∀ q, zputs (zu J 22 p1 (-1)) p1 s (I 17 s + I 23 p1) (I 24 p1) r 22 q = if q = p1 then (s : Int) else J 22 q := fun q => by
            rw [zputs_22]
            by_cases y : q = p1
            · rw [if_pos y, if_pos y]
            · rw [if_neg y, if_neg y, c22, if_neg y]
          have k23 : ∀ q, zputs (zu J 22 p1 (-1)) p1 s (I 17 s + I 23 p1) (I 24 p1) r 23 q = if q = p1 then I 17 s + I 23 p1 else J 23 q := fun q => by
            rw [zputs_23, cc 23 (by omega)]
          have k24 : ∀ q, zputs (zu J 22 p1 (-1)) p1 s (I 17 s + I 23 p1) (I 24 p1) r 24 q = if q = p1 then I 24 p1 else J 24 q := fun q => by
            rw [zputs_24, cc 24 (by omega)]
          have k25 : ∀ q, zputs (zu J 22 p1 (-1)) p1 s (I 17 s + I 23 p1) (I 24 p1) r 25 q = if q = p1 then r else J 25 q := fun q => by
            rw [zputs_25, cc 25 (by omega)]
          have k21 : ∀ t, zputs (zu J 22 p1 (-1)) p1 s (I 17 s + I 23 p1) (I 24 p1) r 21 t = if t = s then zmax (J 21 s) (r / 10) else J 21 t := fun t => by
            rw [zputs_21, cc 21 (by omega), zmax_e]
          have kc : ∀ c, c < 21 ∨ 25 < c → zputs (zu J 22 p1 (-1)) p1 s (I 17 s + I 23 p1) (I 24 p1) r c = J c := fun c hc => by
            rw [zputs_c hc, cc c (by omega)]
          have zm : J 21 s ≤ zmax (J 21 s) (r / 10) ∧ r / 10 ≤ zmax (J 21 s) (r / 10) ∧ (zmax (J 21 s) (r / 10) = J 21 s ∨ zmax (J 21 s) (r / 10) = r / 10) := by
            unfold zmax
            split <;> omega
          have hg2 := i2.2.2.2.2.1
          have hr2 := hr.2
          rw [cc 21 (by omega)] at hr2
          have off : zoff J (zputs (zu J 22 p1 (-1)) p1 s (I 17 s + I 23 p1) (I 24 p1) r) d := fun c q c1 c2 hq => by
            have y : q ≠ p1 := by omega
            rcases show c = 22 ∨ c = 23 ∨ c = 24 ∨ c = 25 by omega with rfl | rfl | rfl | rfl
            · rw [k22, if_neg y]
            · rw [k23, if_neg y]
            · rw [k24, if_neg y]
            · rw [k25, if_neg y]
          have at1 : ∀ c q : Nat, 22 ≤ c → c ≤ 25 → q ≠ p1 → zputs (zu J 22 p1 (-1)) p1 s (I 17 s + I 23 p1) (I 24 p1) r c q = J c q := fun c q c1 c2 y => by
            rcases show c = 22 ∨ c = 23 ∨ c = 24 ∨ c = 25 by omega with rfl | rfl | rfl | rfl
            · rw [k22, if_neg y]
            · rw [k23, if_neg y]
            · rw [k24, if_neg y]
            · rw [k25, if_neg y]
          have I2 : zJI (zLE A d (zfr (zu J 22 p1 (-1)) s (I 17 s + I 23 p1) * 64 + d) (if I 24 p1 = 108 then 1 else 0) r) I J0 (zputs (zu J 22 p1 (-1)) p1 s (I 17 s + I 23 p1) (I 24 p1) r) s o c (i + 1) B0 := by
            refine ⟨zLgr_put L1 hd.symm d40 (fun q h1 h2 h3 => ?_) hr10, ⟨?_, ?_, ?_, ?_, ?_, fun q hq h => ?_⟩, fun c hc => by rw [kc c hc]; exact i3 c hc, fun t ht => by rw [k21, if_neg ht]; exact i4 t ht, fun d' hd' => ?_, fun d' h1 h2 => ?_, fun d' hd' h1 h2 => ?_, fun q q' hq hq' hnn h h' => ?_, ?_, ?_⟩
            · rw [c22, if_neg h2] at h3
              exact uo q h1 h3
            · unfold zB
              rw [kc 14 (by omega)]
              exact bJ
            · rw [kc 14 (by omega)]
              intro q hq
              rw [k22, if_neg]
              · exact i2.2.1 q hq
              · intro y
                rw [e14, y] at hq
                exact absurd hq (Int.not_le.2 hp1i)
            · intro q q' hh h1 h2
              rw [k22] at h1 h2
              by_cases y : q = p1
              · by_cases y' : q' = p1
                · rw [y, y']
                · rw [if_neg y'] at h2
                  exact absurd h2 (uo q' (by omega))
              · rw [if_neg y] at h1
                by_cases y' : q' = p1
                · exact absurd h1 (uo q (by omega))
                · rw [if_neg y'] at h2
                  exact i2.2.2.1 q q' hh h1 h2
            · rw [kc 17 (by omega)]
              exact i2.2.2.2.1
            · rw [k21, if_pos rfl]
              omega
            · rw [k22] at h
              rw [k24, k23, k25, k21, if_pos rfl, kc 17 (by omega)]
              by_cases y : q = p1
              · rw [if_pos y, if_pos y, if_pos y, e17s]
                exact ⟨vp.2.2.1, by omega, Or.inr ⟨hr10, zm.2.1⟩⟩
              · rw [if_neg y] at h
                rw [if_neg y, if_neg y, if_neg y]
                have v := i2.2.2.2.2.2 q hq h
                refine ⟨v.1, v.2.1, ?_⟩
                have := v.2.2
                omega
            · have y : d' ≠ d := by
                rintro rfl
                rw [ez] at hd'
                omega
              exact zun_off off y (i5 d' hd')
            · have y : d' ≠ d := by
                rintro rfl
                exact h2 cb
              rcases i6 d' h1 h2 with u | u
              · exact Or.inl (zun_off off y u)
              · exact Or.inr (zmB_off off y u)
            · rw [zLE_c (by omega)]
              by_cases y : d' = d
              · subst y
                refine Or.inr ⟨⟨?_, fun c q c1 c2 hq hnp => ?_⟩, fun a' b1 b2 b3 => ?_⟩
                · rw [ez, Int.toNat_natCast, k22, k23, k24, k25, if_pos rfl, if_pos rfl, if_pos rfl, if_pos rfl]
                  exact ⟨rfl, rfl, rfl, hr10⟩
                · rw [ez, Int.toNat_natCast] at hnp
                  rw [at1 c q c1 c2 hnp]
                  exact un c q c1 c2 hq
                · rw [← ai] at b3
                  have := i10.1 i a' (by omega) b2
                  omega
              · rcases i7 d' hd' h1 h2 with ⟨u, a', b1, b2, b3⟩ | ⟨u, b⟩
                · refine Or.inl ⟨zun_off off y u, a', ?_, b2, b3⟩
                  rcases Nat.lt_or_eq_of_le b1 with z | z
                  · exact z
                  · subst z
                    rw [ai] at b3
                    exact absurd (by omega) y
                · exact Or.inr ⟨zmS_off off y h1 u, fun a' b1 b2 => b a' (by omega) b2⟩
            · rw [k22] at h h'
              rw [k25, k25]
              by_cases y : q = p1
              · have y' : q' ≠ p1 := fun z => hnn (y.trans z.symm)
                rw [if_neg y'] at h'
                rw [if_pos y, if_neg y']
                have := zcm_new V1 hzc cr hq' (by rw [c22, if_neg y']; exact h')
                rw [cc 25 (by omega)] at this
                exact fun z => this z.symm
              · rw [if_neg y] at h
                rw [if_neg y]
                by_cases y' : q' = p1
                · rw [if_pos y']
                  have := zcm_new V1 hzc cr hq (by rw [c22, if_neg y]; exact h)
                  rw [cc 25 (by omega)] at this
                  exact this
                · rw [if_neg y'] at h'
                  rw [if_neg y']
                  exact i8 q q' hq hq' hnn h h'
            · rw [zLE_c (by omega)]
              exact i9
            · rw [zLE_c (by omega)]
              exact i10
          have hz2 : zdo (zputs (zu J 22 p1 (-1)) p1 s (I 17 s + I 23 p1) (I 24 p1) r) o 80 ≤ n := by
            have no2 : ∀ q : Nat, q / 2 = d → zputs (zu J 22 p1 (-1)) p1 s (I 17 s + I 23 p1) (I 24 p1) r 22 q ≠ o := by
              intro q h1
              rw [k22]
              by_cases y : q = p1
              · rw [if_pos y]
                exact hne'
              · rw [if_neg y, un 22 q (by omega) (by omega) h1]
                exact oth q h1 y
            have := zdo_lt (J := J) (o := o) d40 (fun q hq => off 22 q (by omega) (by omega) hq) (no2 _ (by omega)) (no2 _ (by omega)) (by
              rcases show p1 = 2 * d ∨ p1 = 2 * d + 1 by omega with y | y
              · left
                rw [← y]
                exact hp1o
              · right
                rw [← y]
                exact hp1o)
            omega
          obtain ⟨can, J', A', r1, r2, r3, r4, r5, r6⟩ := ih (i + 1) _ _ (by omega) I2 hz2 f2 (by omega)
          refine ⟨can, J', A', r1, ?_, ?_, r4, fun j j1 j2 j3 j4 => ?_, r6⟩
          · intro Ax Kx Lx Fx Ex dx p f1 hp hf1
            obtain ⟨f1, rfl⟩ : ∃ k, f1 = k + 1 := ⟨f1 - 1, by omega⟩
            have hpe := pe p hp
            obtain ⟨p2, e2, hp2⟩ := leastOf _ _ _ I2 Ax Kx Lx Fx Ex dx
            have st2 : X8_join_b112 (some 14) (s : Int) (o : Int) g0 (I 17 s) (1, p, zM Ax Kx J Lx Fx Ex dx) = some (.inl (1, p2, zM Ax Kx (zputs (zu J 22 p1 (-1)) p1 s (I 17 s + I 23 p1) (I 24 p1) r) Lx Fx Ex dx)) := by
              unfold X8_join_b112
              simp only
              rw [if_neg (by omega), if_neg (by omega), zo_14b, hpe, mst, if_neg (by omega), zb, zo_14b, e2, zb]
            rw [zloop_in st2]
            exact r2 Ax Kx Lx Fx Ex dx p2 f1 hp2 (by omega)
          · rw [zloop_in kst]
            exact r3
          · rw [r5 j j1 j2 j3 j4, zLE_c (by omega)]
      · -- a door of both
        obtain ⟨q1, q2, q3⟩ := zpo_at cb
        obtain ⟨t, ht⟩ : ∃ t : Nat, zpo I d s = (t : Int) := ⟨(zpo I d s).toNat, by omega⟩
        rw [ht, Int.toNat_natCast] at q1 q2
        have t80 : t < 80 := by omega
        have vt := zV4_at (zVA_4 hV) t80 q2
        have u22 := un 22 t (by omega) (by omega) q1
        have u23 := un 23 t (by omega) (by omega) q1
        have u24 := un 24 t (by omega) (by omega) q1
        have u25 := un 25 t (by omega) (by omega) q1
        have jt : J 22 t = s := by rw [u22]; exact q2
        have vJ := i2.2.2.2.2.2 t t80 jt
        have k22 : ∀ q, zputs (zu (zu J 22 (2 * d + 1) (-1)) 25 (2 * d + 1) (-1)) (2 * d) s (J 23 t) (J 24 t) (J 25 t) 22 q = if q = 2 * d then (s : Int) else if q = 2 * d + 1 then -1 else J 22 q := fun q => by
          rw [zputs_22, zu_c (by omega), zu_j]
        have k23 : ∀ q, zputs (zu (zu J 22 (2 * d + 1) (-1)) 25 (2 * d + 1) (-1)) (2 * d) s (J 23 t) (J 24 t) (J 25 t) 23 q = if q = 2 * d then J 23 t else J 23 q := fun q => by
          rw [zputs_23, zu_c (by omega), zu_c (by omega)]
        have k24 : ∀ q, zputs (zu (zu J 22 (2 * d + 1) (-1)) 25 (2 * d + 1) (-1)) (2 * d) s (J 23 t) (J 24 t) (J 25 t) 24 q = if q = 2 * d then J 24 t else J 24 q := fun q => by
          rw [zputs_24, zu_c (by omega), zu_c (by omega)]
        have k25 : ∀ q, zputs (zu (zu J 22 (2 * d + 1) (-1)) 25 (2 * d + 1) (-1)) (2 * d) s (J 23 t) (J 24 t) (J 25 t) 25 q = if q = 2 * d then J 25 t else if q = 2 * d + 1 then -1 else J 25 q := fun q => by
          rw [zputs_25, zu_j, zu_c (by omega)]
        have k21 : ∀ u, zputs (zu (zu J 22 (2 * d + 1) (-1)) 25 (2 * d + 1) (-1)) (2 * d) s (J 23 t) (J 24 t) (J 25 t) 21 u = J 21 u := fun u => by
          rw [zputs_21, zu_c (by omega), zu_c (by omega)]
          by_cases y : u = s
          · rw [if_pos y, if_pos (by rw [u25] at vJ; rw [u25]; have := vt.2.2.2; omega), y]
          · rw [if_neg y]
        have kc : ∀ c, c < 21 ∨ 25 < c → zputs (zu (zu J 22 (2 * d + 1) (-1)) 25 (2 * d + 1) (-1)) (2 * d) s (J 23 t) (J 24 t) (J 25 t) c = J c := fun c hc => by
          rw [zputs_c hc, zu_c (by omega), zu_c (by omega)]
        have off : zoff J (zputs (zu (zu J 22 (2 * d + 1) (-1)) 25 (2 * d + 1) (-1)) (2 * d) s (J 23 t) (J 24 t) (J 25 t)) d := fun c q c1 c2 hq => by
          have y : q ≠ 2 * d := by omega
          have y' : q ≠ 2 * d + 1 := by omega
          rcases show c = 22 ∨ c = 23 ∨ c = 24 ∨ c = 25 by omega with rfl | rfl | rfl | rfl
          · rw [k22, if_neg y, if_neg y']
          · rw [k23, if_neg y]
          · rw [k24, if_neg y]
          · rw [k25, if_neg y, if_neg y']
        have I2 : zJI A I J0 (zputs (zu (zu J 22 (2 * d + 1) (-1)) 25 (2 * d + 1) (-1)) (2 * d) s (J 23 t) (J 24 t) (J 25 t)) s o c i B0 := by
          refine ⟨⟨by rw [kc 18 (by omega)]; exact i1.1, by rw [kc 19 (by omega)]; exact i1.2.1, by rw [kc 17 (by omega)]; exact i1.2.2.1, by rw [k21]; exact i1.2.2.2.1, fun d' hd' => ?_⟩, ⟨?_, ?_, ?_, ?_, ?_, fun q hq h => ?_⟩, fun c hc => by rw [kc c hc]; exact i3 c hc, fun u hu => by rw [k21]; exact i4 u hu, fun d' hd' => ?_, fun d' h1 h2 => ?_, fun d' hd' h1 h2 => ?_, fun q q' hq hq' hnn h h' => ?_, i9, i10⟩
          · by_cases y : d' = d
            · subst y
              obtain ⟨g1, g2, g3, g4⟩ := zLgr_at i1 i2 t80 jt (by rw [u25]; have := vt.2.2.2; omega)
              rw [q1] at g2 g3 g4
              refine Or.inr ⟨2 * d', by omega, ?_⟩
              have e : zky (zputs (zu (zu J 22 (2 * d' + 1) (-1)) 25 (2 * d' + 1) (-1)) (2 * d') s (J 23 t) (J 24 t) (J 25 t)) s (2 * d') = zky J s t := by
                unfold zky zfr
                rw [kc 17 (by omega), kc 19 (by omega), k23, if_pos rfl, q1, show 2 * d' / 2 = d' by omega]
              rw [k22, k24, k25, if_pos rfl, if_pos rfl, if_pos rfl, e]
              exact ⟨rfl, g1, g2, g3, g4⟩
            · exact zLgrd_off off y (kc 17 (by omega)) (kc 19 (by omega)) (i1.2.2.2.2 d' hd')
          · unfold zB
            rw [kc 14 (by omega)]
            exact bJ
          · rw [kc 14 (by omega)]
            intro q hq
            rw [e14] at hq
            rw [k22, if_neg (by omega), if_neg (by omega)]
            exact i2.2.1 q (by omega)
          · intro q q' hh h1 h2
            rw [k22] at h1 h2
            by_cases y : q / 2 = d
            · have z : q = 2 * d := by
                rcases show q = 2 * d ∨ q = 2 * d + 1 by omega with z | z
                · exact z
                · rw [if_neg (by omega), if_pos z] at h1
                  omega
              have z' : q' = 2 * d := by
                rcases show q' = 2 * d ∨ q' = 2 * d + 1 by omega with z | z
                · exact z
                · rw [if_neg (by omega), if_pos z] at h2
                  omega
              omega
            · rw [if_neg (by omega), if_neg (by omega)] at h1 h2
              exact i2.2.2.1 q q' hh h1 h2
          · rw [kc 17 (by omega)]
            exact i2.2.2.2.1
          · rw [k21]
            exact i2.2.2.2.2.1
          · rw [k22] at h
            rw [k24, k23, k25, k21, kc 17 (by omega)]
            by_cases y : q = 2 * d
            · rw [if_pos y, if_pos y, if_pos y]
              exact vJ
            · rw [if_neg y] at h
              rw [if_neg y, if_neg y, if_neg y]
              by_cases y' : q = 2 * d + 1
              · rw [if_pos y'] at h
                omega
              · rw [if_neg y'] at h
                rw [if_neg y']
                exact i2.2.2.2.2.2 q hq h
          · have y : d' ≠ d := by
              rintro rfl
              rw [ez] at hd'
              omega
            exact zun_off off y (i5 d' hd')
          · by_cases y : d' = d
            · subst y
              refine Or.inr ⟨by rw [k22, if_pos rfl], by rw [k23, if_pos rfl, u23, ht, Int.toNat_natCast], by rw [k24, if_pos rfl, u24, ht, Int.toNat_natCast], by rw [k25, if_pos rfl, u25, ht, Int.toNat_natCast], by rw [k22, if_neg (by omega), if_pos rfl], ?_⟩
              rw [k24, if_neg (by omega)]
              exact un 24 _ (by omega) (by omega) (by omega)
            · rcases i6 d' h1 h2 with u | u
              · exact Or.inl (zun_off off y u)
              · exact Or.inr (zmB_off off y u)
          · have y : d' ≠ d := by
              rintro rfl
              exact cb h2
            rcases i7 d' hd' h1 h2 with ⟨u, b⟩ | ⟨u, b⟩
            · exact Or.inl ⟨zun_off off y u, b⟩
            · exact Or.inr ⟨zmS_off off y h1 u, b⟩
          · have not1 : ∀ q, zputs (zu (zu J 22 (2 * d + 1) (-1)) 25 (2 * d + 1) (-1)) (2 * d) s (J 23 t) (J 24 t) (J 25 t) 22 q = s → q ≠ 2 * d → q / 2 ≠ d := by
              intro q h1 h2 h3
              rw [k22, if_neg h2, if_pos (by omega)] at h1
              omega
            by_cases y : q = 2 * d
            · have y' : q' ≠ 2 * d := fun z => hnn (y.trans z.symm)
              have n' := not1 q' h' y'
              rw [off 22 q' (by omega) (by omega) n'] at h'
              rw [off 25 q' (by omega) (by omega) n', k25, if_pos y]
              exact i8 t q' t80 hq' (by omega) jt h'
            · have n1 := not1 q h y
              rw [off 22 q (by omega) (by omega) n1] at h
              rw [off 25 q (by omega) (by omega) n1]
              by_cases y' : q' = 2 * d
              · rw [k25, if_pos y']
                exact i8 q t hq t80 (by omega) h jt
              · have n' := not1 q' h' y'
                rw [off 22 q' (by omega) (by omega) n'] at h'
                rw [off 25 q' (by omega) (by omega) n']
                exact i8 q q' hq hq' hnn h h'
        have hz2 : zdo (zputs (zu (zu J 22 (2 * d + 1) (-1)) 25 (2 * d + 1) (-1)) (2 * d) s (J 23 t) (J 24 t) (J 25 t)) o 80 ≤ n := by
          have := zdo_lt (J := J) (o := o) d40 (fun q hq => off 22 q (by omega) (by omega) hq) (by rw [k22, if_pos rfl]; omega) (by rw [k22, if_neg (by omega), if_pos rfl]; omega) (by
            rcases show p1 = 2 * d ∨ p1 = 2 * d + 1 by omega with y | y
            · left
              rw [← y]
              exact hp1o
            · right
              rw [← y]
              exact hp1o)
          omega
        obtain ⟨can, J', A', r1, r2, r3, r4, r5, r6⟩ := ih i _ _ hic I2 hz2 f2 hf2
        refine ⟨can, J', A', r1, ?_, r3, r4, r5, r6⟩
        intro Ax Kx Lx Fx Ex dx p f1 hp hf1
        obtain ⟨f1, rfl⟩ : ∃ k, f1 = k + 1 := ⟨f1 - 1, by omega⟩
        have hpe := pe p hp
        obtain ⟨p2, e2, hp2⟩ := leastOf _ _ _ I2 Ax Kx Lx Fx Ex dx
        have mst := m_moves_b (A := Ax) (K := Kx) (I := J) (L := Lx) (F := Fx) (E := Ex) (dyn := dx) (s := s) (d := d) (p := p1) (t := t) (far := I 17 s) hd.symm p80 (by omega) (by rw [zpo_un un]; exact ht) t80 (by rw [u24]; exact zvsd vt.2.2.1) (by rw [u25]; have := vt.2.2.2; omega)
        have st2 : X8_join_b112 (some 14) (s : Int) (o : Int) g0 (I 17 s) (1, p, zM Ax Kx J Lx Fx Ex dx) = some (.inl (1, p2, zM Ax Kx (zputs (zu (zu J 22 (2 * d + 1) (-1)) 25 (2 * d + 1) (-1)) (2 * d) s (J 23 t) (J 24 t) (J 25 t)) Lx Fx Ex dx)) := by
          unfold X8_join_b112
          simp only
          rw [if_neg (by omega), if_neg (by omega), zo_14b, hpe, mst, zb, zo_14b, e2, zb]
        rw [zloop_in st2]
        exact r2 Ax Kx Lx Fx Ex dx p2 f1 hp2 (by omega)
