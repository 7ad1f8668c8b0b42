-- ===== joining: doors are moved =====
def zJF (I J : zIT) (s o : Nat) : Prop := (∀ d, zpo I d o = -1 → zun I J d) ∧ (∀ d : Nat, d < 40 → zpo I d o ≠ -1 → zpo I d s ≠ -1 → zmB I J s d) ∧ (∀ d : Nat, d < 40 → zpo I d o ≠ -1 → zpo I d s = -1 → zmS I J s o d)
theorem zJI_F {A I J0 J : zIT} {s o c : Nat} {B0 : Int} (h : zJI A I J0 J s o c c B0) (hno : ∀ q, q < 80 → J 22 q ≠ o) : zJF I J s o := by
  obtain ⟨_, _, _, _, i5, i6, i7, _⟩ := h
  refine ⟨i5, fun d hd h1 h2 => ?_, fun d hd h1 h2 => ?_⟩
  · rcases i6 d h1 h2 with u | u
    · exfalso
      obtain ⟨q1, q2, q3⟩ := zpo_at h1
      exact hno (zpo I d o).toNat (by omega) (by rw [u 22 _ (by omega) (by omega) q1]; exact q2)
    · exact u
  · rcases i7 d hd h1 h2 with ⟨_, a, a1, a2, _⟩ | ⟨u, _⟩
    · omega
    · exact u
theorem zJF_7 {I J : zIT} {s o : Nat} (h7 : zV7 I) (h5 : zV5 I) (hb : zB I) (hso : (s : Int) ≠ o) (h : zJF I J s o) : zV7 J := by
  unfold zB at hb
  obtain ⟨F5, F6, F7⟩ := h
  intro p q hh hne hn heq
  have un : zun I J (p / 2) → False := by
    intro u
    rw [u 22 p (by omega) (by omega) rfl] at hn heq
    rw [u 22 q (by omega) (by omega) hh.symm] at heq
    exact h7 p q hh hne hn heq
  by_cases c1 : zpo I (p / 2) o = -1
  · exact un (F5 _ c1)
  · have d40 : p / 2 < 40 := by
      rcases Nat.lt_or_ge (p / 2) 40 with y | y
      · exact y
      · exfalso
        apply c1
        unfold zpo
        rw [h5 (2 * (p / 2)) (by omega), h5 (2 * (p / 2) + 1) (by omega), if_neg (by omega), if_neg (by omega)]
    by_cases c2 : zpo I (p / 2) s = -1
    · obtain ⟨⟨a1, a2, a3, a4⟩, a5⟩ := F7 _ d40 c1 c2
      obtain ⟨q1, q2, q3⟩ := zpo_at c1
      have no : ∀ q' : Nat, q' / 2 = p / 2 → I 22 q' ≠ s := fun q' h1 h2 => by
        have := zpo_eq h7 h2
        rw [h1, c2] at this
        omega
      by_cases y : p = (zpo I (p / 2) o).toNat
      · have y' : q ≠ (zpo I (p / 2) o).toNat := fun z => hne (y.trans z.symm)
        rw [← y] at a1
        rw [a1, a5 22 q (by omega) (by omega) hh.symm y'] at heq
        exact no q hh.symm heq.symm
      · rw [a5 22 p (by omega) (by omega) rfl y] at heq hn
        by_cases y' : q = (zpo I (p / 2) o).toNat
        · rw [← y'] at a1
          rw [a1] at heq
          exact no p rfl heq
        · rw [a5 22 q (by omega) (by omega) hh.symm y'] at heq
          exact h7 p q hh hne hn heq
    · obtain ⟨a1, a2, a3, a4, a5, a6⟩ := F6 _ d40 c1 c2
      rcases show p = 2 * (p / 2) ∨ p = 2 * (p / 2) + 1 by omega with y | y
      · have y' : q = 2 * (p / 2) + 1 := by omega
        rw [y', a5] at heq
        exact hn heq
      · rw [y, a5] at hn
        exact hn rfl
def zhj (I J : zIT) (i : Nat) : zIT := fun c p => if 22 ≤ c ∧ c ≤ 25 ∧ p / 2 < i then J c p else I c p
theorem zhj_c {I J : zIT} {i c : Nat} (h : c < 22 ∨ 25 < c) : zhj I J i c = I c := by
  funext p
  exact if_neg (fun y => by omega)
theorem zhj_o {I J : zIT} {i c p : Nat} (h : ¬ p / 2 < i) : zhj I J i c p = I c p := if_neg (fun y => h y.2.2)
theorem zhj_i {I J : zIT} {i c p : Nat} (h : 22 ≤ c ∧ c ≤ 25) (h2 : p / 2 < i) : zhj I J i c p = J c p := if_pos ⟨h.1, h.2, h2⟩
def zfj (I : zIT) (fp : Nat → Option Nat) (s o : Nat) (p : Nat) : Option Nat := if zpo I (p / 2) o ≠ -1 ∧ zpo I (p / 2) s ≠ -1 then (if p = 2 * (p / 2) then zpf I fp (p / 2) s else none) else fp p
def zfi (I : zIT) (fp : Nat → Option Nat) (s o i : Nat) : Nat → Option Nat := fun p => if p / 2 < i then zfj I fp s o p else fp p
theorem k_lose {A : zIT} {K : zLT} {I : zIT} {L : zLT} {F : zFT} {E : zET} {dyn : zH} {rs : Nat → Nat} {f g l : Option Nat} {n gn : Int} {j o r1 t1 : Nat} {d m lf c : Int} (h : dyn[j]? = some (zDor n f g gn l)) (hf : f = some (r1 + 39)) (hr : dyn[r1]? = some (zPlc d (some (t1 + 39)) m lf c)) : X0_losePlaceOn (zM A K I L F E dyn) (some (j + 39)) (some (rs o + 39)) = some (zM A K I L F E (dyn.set j (zDor n (if t1 = rs o then g else f) none gn l))) := by
  subst hf
  unfold X0_losePlaceOn
  rw [zgDor_1b h, if_neg (fun y => by cases y), zgDor_1b h, zgPlc_1b hr]
  by_cases y : t1 = rs o
  · rw [if_pos (by rw [y]), if_pos y, zgDor_2b h, zpDor_1b h, zpDor_2b (zset_eq h), zset22]
  · rw [if_neg (fun z => y (by injection z with z; omega)), if_neg y, zpDor_2b h]
theorem k_moveDoors {A : zIT} {K : zLT} {I : zIT} {L : zLT} {F : zFT} {E : zET} {dyn : zH} {J : zIT} {rs rd : Nat → Nat} {fp : Nat → Option Nat} {s o : Nat} (hb : zB I) (hS : zRS I L F dyn rs) (hD : zRD I F dyn rd fp) (hP : zRP I dyn rs fp) (h5 : zV5 I) (h7 : zV7 I) (hs : (s : Int) < I 14 7) (ho : (o : Int) < I 14 7) (hso : (s : Int) ≠ o) (hJ : zJF I J s o)
    (hl : 0 ≤ I 17 s ∧ I 17 s ≤ 999) (hm : ∀ p, p < 80 → I 22 p = o → 0 ≤ I 23 p ∧ I 23 p ≤ 999) (hL : ∀ d : Nat, d < 40 → zpo I d o ≠ -1 → zpo I d s = -1 → A 11 d = J 25 (zpo I d o).toNat) :
    ∃ dyn', X7_moveDoors (zM A K I L F E dyn) (some 0) (some (rs s + 39)) (some (rs o + 39)) = some (zM A K I L F E dyn') ∧ zRS I L F dyn' rs ∧ zRD I F dyn' rd (zfi I fp s o 40) ∧ zRP (zhj I J 40) dyn' rs (zfi I fp s o 40) := by
  have hb' := hb
  unfold zB at hb'
  have J7 := zJF_7 h7 h5 hb hso hJ
  obtain ⟨F5, F6, F7⟩ := hJ
  have hne : s ≠ o := fun z => hso (by rw [z])
  obtain ⟨e, he, hq⟩ := zloop_up (body := X7_moveDoors_b12 (some 0) (some (rs s + 39)) (some (rs o + 39)) (some 2) 40)
    (fun i t => t.1 = (i : Int) ∧ ∃ dyn', t.2 = zM A K I L F E dyn' ∧ zRS I L F dyn' rs ∧ zRD I F dyn' rd (zfi I fp s o i) ∧ zRP (zhj I J i) dyn' rs (zfi I fp s o i))
    (fun e => ∃ dyn', e = zM A K I L F E dyn' ∧ zRS I L F dyn' rs ∧ zRD I F dyn' rd (zfi I fp s o 40) ∧ zRP (zhj I J 40) dyn' rs (zfi I fp s o 40)) 40 (by
    rintro i ⟨t1, t2⟩ hi ⟨ht1, dy, ht2, rS, rD, rP⟩
    simp only at ht1 ht2
    subst ht1 ht2
    have y22 : ∀ p, ¬ p / 2 < i → zhj I J i 22 p = I 22 p := fun p hp => zhj_o hp
    have epo : ∀ u : Int, zpo (zhj I J i) i u = zpo I i u := fun u => by
      unfold zpo
      rw [y22 (2 * i) (by omega), y22 (2 * i + 1) (by omega)]
    have epf : ∀ u : Int, zpf (zhj I J i) (zfi I fp s o i) i u = zpf I fp i u := fun u => by
      have f1 : zfi I fp s o i (2 * i) = fp (2 * i) := if_neg (by omega)
      have f2 : zfi I fp s o i (2 * i + 1) = fp (2 * i + 1) := if_neg (by omega)
      unfold zpf
      rw [y22 (2 * i) (by omega), y22 (2 * i + 1) (by omega), f1, f2]
    have rS' : zRS (zhj I J i) L F dy rs := zRS_cg rS (by rw [zhj_c (by omega)]) (fun c c1 c2 => zhj_c (by omega)) rfl rfl rfl
    have rD' : zRD (zhj I J i) F dy rd (zfi I fp s o i) := zRD_cg rD (by rw [zhj_c (by omega)]) (zhj_c (by omega)) (zhj_c (by omega)) rfl
    have h14 : zhj I J i 14 = I 14 := zhj_c (by omega)
    have hE' : ∀ p : Nat, 2 * zhj I J i 14 14 ≤ (p : Int) → zhj I J i 22 p = -1 := by
      rw [h14]
      intro p hp
      by_cases y : p / 2 < i
      · have z : zpo I (p / 2) o = -1 := by
          unfold zpo
          rw [h5 (2 * (p / 2)) (by omega), h5 (2 * (p / 2) + 1) (by omega), if_neg (by omega), if_neg (by omega)]
        rw [zhj_i (by omega) y, F5 _ z 22 p (by omega) (by omega) rfl]
        exact h5 p hp
      · rw [zhj_o y]
        exact h5 p hp
    have same : zun I J i → ¬ (zpo I i o ≠ -1 ∧ zpo I i s ≠ -1) → zRD I F dy rd (zfi I fp s o (i + 1)) ∧ zRP (zhj I J (i + 1)) dy rs (zfi I fp s o (i + 1)) := by
      intro u nb
      have ef : zfi I fp s o (i + 1) = zfi I fp s o i := by
        funext p
        unfold zfi
        by_cases y : p / 2 < i
        · rw [if_pos y, if_pos (by omega)]
        · rw [if_neg y]
          by_cases y2 : p / 2 < i + 1
          · have y3 : p / 2 = i := by omega
            rw [if_pos y2]
            unfold zfj
            rw [y3, if_neg nb]
          · rw [if_neg y2]
      rw [ef]
      refine ⟨rD, zRP_cg8 rP (by rw [zhj_c (by omega), zhj_c (by omega)]) (fun c p c1 c2 hp => ?_)⟩
      by_cases y : p / 2 < i
      · rw [zhj_i ⟨c1, c2⟩ y, zhj_i ⟨c1, c2⟩ (by omega)]
      · rw [zhj_o y]
        by_cases y2 : p / 2 < i + 1
        · rw [zhj_i ⟨c1, c2⟩ y2]
          exact u c p c1 c2 (by omega)
        · rw [zhj_o y2]
    unfold X7_moveDoors_b12
    simp only
    rw [if_neg (by omega), za_2b (by omega) (by omega), Int.toNat_natCast, k_placeOf_g rS' rD' rP hE' hi (by rw [h14]; exact ho), zb, epf]
    refine Or.inl ?_
    by_cases cd : (i : Int) < I 14 14
    · have hdc := (rD.1 i cd).2
      have f1 : zfi I fp s o i (2 * i) = fp (2 * i) := if_neg (by omega)
      have f2 : zfi I fp s o i (2 * i + 1) = fp (2 * i + 1) := if_neg (by omega)
      rw [f1, f2] at hdc
      rw [(rD.1 i cd).1, if_neg (fun y => by cases y)]
      rcases zpf_at (s := o) rP hi with ⟨z1, z2⟩ | ⟨z1, r, z2, z3⟩
      · rw [epf] at z1
        rw [epo] at z2
        have sm := same (F5 i z2) (fun y => y.1 z2)
        rw [z1, if_pos rfl, zckb (by omega) (by omega)]
        exact ⟨_, rfl, rfl, dy, rfl, rS, sm.1, sm.2⟩
      · rw [epf] at z2
        rw [epo] at z1 z3
        obtain ⟨q1, q2, q3⟩ := zpo_at z1
        have q80 : (zpo I i o).toNat < 80 := by omega
        rw [zhj_o (by omega), zhj_o (by omega), zhj_o (by omega)] at z3
        rw [z2, if_neg (fun y => by cases y), zoDorb hdc, k_placeOn_g rS' rD' rP (by rw [h14]; exact cd) hi (by rw [h14]; exact hs), zb, epf]
        rcases zpf_at (s := s) rP hi with ⟨w1, w2⟩ | ⟨w1, r', w2, w3⟩
        · rw [epf] at w1
          rw [epo] at w2
          obtain ⟨⟨a1, a2, a3, a4⟩, a5⟩ := F7 i hi z1 w2
          have hsc := (rS.1 s hs).2
          have q4 := zne_SP hsc z3
          have mm := hm _ q80 q2
          have a11 := hL i hi z1 w2
          rw [w1, if_pos rfl, zpPlc_1b z3, zgPlc_2b (zset_eq z3), zgStr_3b ((zset_ne q4.symm).trans hsc), zckb (by omega) (by omega), zpPlc_2b (zset_eq z3), zset22, zg_0_3b, zgPlc_0b (zset_eq z3), zo_8b, k_codeOf hi, zb, a11, zpPlc_4b (zset_eq z3), zset22, zckb (by omega) (by omega)]
          have hfp : zfi I fp s o i (zpo I i o).toNat = some (r + 39) := by
            have e1 : zfi I fp s o i (zpo I i o).toNat = fp (zpo I i o).toNat := if_neg (by omega)
            rw [e1, ← z2]
            unfold zpf
            by_cases y : I 22 (2 * i) = o
            · have := zpo_eq h7 y
              rw [if_pos y, show 2 * i / 2 = i by omega] at *
              rw [this, Int.toNat_natCast]
            · have e2 : (zpo I i o).toNat = 2 * i + 1 := by
                rcases show (zpo I i o).toNat = 2 * i ∨ (zpo I i o).toNat = 2 * i + 1 by omega with w | w
                · rw [w] at q2
                  exact absurd q2 y
                · exact w
              rw [if_neg y, if_pos (by rw [← e2]; exact q2), e2]
          have h7' : zV7 (zhj I J i) := by
            intro p q hh hnn hn heq
            by_cases y : p / 2 < i
            · rw [zhj_i (by omega) y] at hn heq
              rw [zhj_i (by omega) (by omega)] at heq
              exact J7 p q hh hnn hn heq
            · rw [zhj_o y] at hn heq
              rw [zhj_o (by omega)] at heq
              exact h7 p q hh hnn hn heq
          have hset := zRP_set (I' := zhj I J (i + 1)) (p := (zpo I i o).toNat) rS' rP h7' q80 hfp (by rw [zhj_c (by omega), zhj_c (by omega)]) (by rw [zhj_i (by omega) (by omega), a1, h14]; omega) (fun c q c1 c2 hnp => by
            by_cases y : q / 2 < i
            · rw [zhj_i ⟨c1, c2⟩ y, zhj_i ⟨c1, c2⟩ (by omega)]
            · rw [zhj_o y]
              by_cases y2 : q / 2 < i + 1
              · rw [zhj_i ⟨c1, c2⟩ y2]
                exact a5 c q c1 c2 (by omega) hnp
              · rw [zhj_o y2])
          rw [zhj_i (by omega) (by omega), zhj_i (by omega) (by omega), zhj_i (by omega) (by omega), zhj_i (by omega) (by omega), a1, a2, a3, Int.toNat_natCast, q1] at hset
          have ef : zfi I fp s o (i + 1) = zfi I fp s o i := by
            funext p
            unfold zfi
            by_cases y : p / 2 < i
            · rw [if_pos y, if_pos (by omega)]
            · rw [if_neg y]
              by_cases y2 : p / 2 < i + 1
              · have y3 : p / 2 = i := by omega
                rw [if_pos y2]
                unfold zfj
                rw [y3, if_neg (fun y => y.2 w2)]
              · rw [if_neg y2]
          rw [ef, show I 23 (zpo I i o).toNat + I 17 s = I 17 s + I 23 (zpo I i o).toNat by omega]
          exact ⟨_, rfl, rfl, _, rfl, zRS_setP rS z3, zRD_setP rD z3, hset⟩
        · rw [epf] at w2
          rw [epo] at w1 w3
          obtain ⟨u1, u2, u3⟩ := zpo_at w1
          rw [zhj_o (by omega), zhj_o (by omega), zhj_o (by omega)] at w3
          obtain ⟨a1, a2, a3, a4, a5, a6⟩ := F6 i hi z1 w1
          have first : ∃ r1 t1 : Nat, ∃ d m lf c : Int, fp (2 * i) = some (r1 + 39) ∧ dy[r1]? = some (zPlc d (some (t1 + 39)) m lf c) ∧ (if t1 = rs o then fp (2 * i + 1) else fp (2 * i)) = zpf I fp i s := by
            rcases rP (2 * i) (by omega) with ⟨g1, _⟩ | ⟨g1, g2, r1, g3, g4⟩
            · rw [zhj_o (by omega)] at g1
              exfalso
              rcases show (zpo I i o).toNat = 2 * i + 1 ∨ (zpo I i o).toNat = 2 * i by omega with y | y
              · rcases show (zpo I i s).toNat = 2 * i + 1 ∨ (zpo I i s).toNat = 2 * i by omega with y' | y'
                · rw [y] at q2
                  rw [y'] at u2
                  omega
                · rw [y'] at u2
                  omega
              · rw [y] at q2
                omega
            · rw [zhj_o (by omega)] at g1 g2 g4
              rw [h14] at g2
              rw [f1] at g3
              refine ⟨r1, rs (I 22 (2 * i)).toNat, _, _, _, _, g3, g4, ?_⟩
              unfold zpf
              by_cases y : I 22 (2 * i) = o
              · have e : (zpo I i s).toNat = 2 * i + 1 := by
                  rcases show (zpo I i s).toNat = 2 * i + 1 ∨ (zpo I i s).toNat = 2 * i by omega with y' | y'
                  · exact y'
                  · rw [y'] at u2
                    omega
                rw [if_pos (by rw [y, Int.toNat_natCast]), if_neg (by rw [y]; exact hso.symm), if_pos (by rw [← e]; exact u2)]
              · have e : (zpo I i s).toNat = 2 * i := by
                  rcases show (zpo I i s).toNat = 2 * i + 1 ∨ (zpo I i s).toNat = 2 * i by omega with y' | y'
                  · exfalso
                    rcases show (zpo I i o).toNat = 2 * i + 1 ∨ (zpo I i o).toNat = 2 * i by omega with y2 | y2
                    · rw [y2] at q2
                      rw [y'] at u2
                      omega
                    · rw [y2] at q2
                      exact y q2
                  · exact y'
                rw [if_neg (fun z => y (by have := zRS_inj rS (s := (I 22 (2 * i)).toNat) (t := o) (by omega) ho z; omega)), if_pos (by rw [← e]; exact u2)]
          obtain ⟨r1, t1, dd, m1, lf1, cc1, e1, e2, e3⟩ := first
          rw [w2, if_neg (fun y => by cases y), zoDorb hdc, k_lose hdc e1 e2, e3, zb, zckb (by omega) (by omega)]
          have g1 : zfi I fp s o (i + 1) (2 * i) = zpf I fp i s := by
            have e : 2 * i / 2 = i := by omega
            unfold zfi zfj
            rw [e, if_pos (by omega), if_pos ⟨z1, w1⟩, if_pos rfl]
          have g2 : zfi I fp s o (i + 1) (2 * i + 1) = none := by
            have e : (2 * i + 1) / 2 = i := by omega
            unfold zfi zfj
            rw [e, if_pos (by omega), if_pos ⟨z1, w1⟩, if_neg (by omega)]
          have go : ∀ p, p / 2 ≠ i → zfi I fp s o (i + 1) p = zfi I fp s o i p := fun p hp => by
            unfold zfi
            by_cases y : p / 2 < i
            · rw [if_pos y, if_pos (by omega)]
            · rw [if_neg y, if_neg (by omega)]
          have D2 := zRD_set (I' := I) (F' := F) (fp' := zfi I fp s o (i + 1)) (d := i) rD cd rfl rfl (fun _ _ => rfl) (fun _ _ => rfl) go
          rw [g1, g2] at D2
          refine ⟨_, rfl, rfl, _, rfl, zRS_setD rS hdc, D2, fun p hp => ?_⟩
          by_cases y : p / 2 = i
          · rcases show p = 2 * i ∨ p = 2 * i + 1 by omega with y' | y'
            · have k22 : zhj I J (i + 1) 22 (2 * i) = J 22 (2 * i) := zhj_i (by omega) (by omega)
              have k23 : zhj I J (i + 1) 23 (2 * i) = J 23 (2 * i) := zhj_i (by omega) (by omega)
              have k24 : zhj I J (i + 1) 24 (2 * i) = J 24 (2 * i) := zhj_i (by omega) (by omega)
              have k25 : zhj I J (i + 1) 25 (2 * i) = J 25 (2 * i) := zhj_i (by omega) (by omega)
              have k14 : zhj I J (i + 1) 14 = I 14 := zhj_c (by omega)
              rw [y', g1, k22, k23, k24, k25, a1, a2, a3, a4, Int.toNat_natCast, k14, show 2 * i / 2 = i by omega]
              exact Or.inr ⟨by omega, hs, r', w2, (zset_ne (zne_DP hdc w3)).trans w3⟩
            · have k22 : zhj I J (i + 1) 22 (2 * i + 1) = J 22 (2 * i + 1) := zhj_i (by omega) (by omega)
              rw [y', g2, k22]
              exact Or.inl ⟨a5, rfl⟩
          · have hrP := rP p hp
            have eh : ∀ c, 22 ≤ c → c ≤ 25 → zhj I J (i + 1) c p = zhj I J i c p := fun c c1 c2 => by
              by_cases z : p / 2 < i
              · rw [zhj_i ⟨c1, c2⟩ z, zhj_i ⟨c1, c2⟩ (by omega)]
              · rw [zhj_o z, zhj_o (by omega)]
            rw [go p y, eh 22 (by omega) (by omega), eh 23 (by omega) (by omega), eh 24 (by omega) (by omega), eh 25 (by omega) (by omega)]
            have k14 : zhj I J (i + 1) 14 = I 14 := zhj_c (by omega)
            rw [h14] at hrP
            rw [k14]
            rcases hrP with g | ⟨k1, k2, r2, k3, k4⟩
            · exact Or.inl g
            · exact Or.inr ⟨k1, k2, r2, k3, (zset_ne (zne_DP hdc k4)).trans k4⟩
    · have z2 : zpo I i o = -1 := by
        unfold zpo
        rw [h5 (2 * i) (by omega), h5 (2 * i + 1) (by omega), if_neg (by omega), if_neg (by omega)]
      have sm := same (F5 i z2) (fun y => y.1 z2)
      rw [rD.2 i (by omega), if_pos rfl, zckb (by omega) (by omega)]
      exact ⟨_, rfl, rfl, dy, rfl, rS, sm.1, sm.2⟩) (by
    rintro ⟨t1, t2⟩ ⟨ht1, h⟩
    simp only at ht1
    subst ht1
    unfold X7_moveDoors_b12
    rw [if_pos (by omega)]
    exact ⟨_, rfl, h⟩) (0, (zM A K I L F E dyn)) ⟨rfl, dyn, rfl, hS, by
      have e : zfi I fp s o 0 = fp := by
        funext p
        exact if_neg (by omega)
      rw [e]
      exact hD, by
      have e : zfi I fp s o 0 = fp := by
        funext p
        exact if_neg (by omega)
      rw [e]
      exact zRP_cg8 hP (by rw [zhj_c (by omega)]) (fun c p c1 c2 hp => zhj_o (by omega))⟩ (by omega)
  obtain ⟨dyn', rfl, h⟩ := hq
  unfold X7_moveDoors
  rw [zg_0_1b, zl_2b, he, zb]
  exact ⟨dyn', rfl, h⟩
