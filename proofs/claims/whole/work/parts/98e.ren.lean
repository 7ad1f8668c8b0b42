-- ===== renumbering: the order, the reference's first loop, both loops in step =====
theorem zloop_in {σ ε : Type} {body : σ → Option (σ ⊕ ε)} {f : Nat} {s s' : σ} (h : body s = some (.inl s')) : zloop body (f + 1) s = zloop body f s' := by
  rw [zloop, h]
  rfl
theorem zloop_out {σ ε : Type} {body : σ → Option (σ ⊕ ε)} {f : Nat} {s : σ} {e : ε} (h : body s = some (.inr e)) : zloop body (f + 1) s = some e := by
  rw [zloop, h]
  rfl
theorem k_farness {A : zIT} {K : zLT} {I : zIT} {L : zLT} {F : zFT} {E : zET} {dyn : zH} {t : Nat} {n l bk g gr wy m : Int} {a b : Int64} (h : dyn[t]? = some (zStr n a b l wy bk g gr)) (hl : 0 ≤ l ∧ l ≤ 2000) (hm : 0 ≤ m ∧ m ≤ 2000) : X6_farness (zM A K I L F E dyn) (some (t + 39)) m = some (if bk = 0 then m else l - m) := by
  unfold X6_farness
  rw [zgStr_5b h]
  by_cases c : bk = 0
  · rw [if_pos c, if_pos c]
  · rw [if_neg c, if_neg c, zgStr_3b h, zckb (by omega) (by omega)]
def zrn (I : zIT) (s : Nat) (d : Nat) : Int := if I 18 s = 121 then 0 else zfr I s (I 23 (zpo I d s).toNat)
theorem k_orderForRenumbering {A : zIT} {K : zLT} {I : zIT} {L : zLT} {F : zFT} {E : zET} {dyn : zH} {rs rd : Nat → Nat} {fp : Nat → Option Nat} {B : Int} {rk : Nat → Nat} {s : Nat} (hV : zVA I L B rk) (hS : zRS I L F dyn rs) (hD : zRD I F dyn rd fp) (hP : zRP I dyn rs fp) (hs : (s : Int) < I 14 7) :
    ∃ A', X7_orderForRenumbering (zM A K I L F E dyn) (some 0) (some (rs s + 39)) = some (zM A' K I L F E dyn) ∧ zOR A' 40 (zrn I s) (fun d => zpo I d s ≠ -1) ∧ (∀ j, j ≠ 12 → j ≠ 13 → A' j = A j) := by
  have hb := zVA_B hV
  have hLV := zVA_LV hV hs
  have hsc := (hS.1 s hs).2
  obtain ⟨e, he, hq⟩ := zloop_up (body := X7_orderForRenumbering_b18 (some 0) (some (rs s + 39)) (some 2) 40)
    (fun i t => t.1 = (i : Int) ∧ ∃ A', t.2 = zM A' K I L F E dyn ∧ zOR A' i (zrn I s) (fun d => zpo I d s ≠ -1) ∧ (∀ j, j ≠ 12 → j ≠ 13 → A' j = A j))
    (fun e => ∃ A', e = zM A' K I L F E dyn ∧ zOR A' 40 (zrn I s) (fun d => zpo I d s ≠ -1) ∧ (∀ j, j ≠ 12 → j ≠ 13 → A' j = A j)) 40 (by
    rintro i ⟨t1, t2⟩ hi ⟨ht1, A1, ht2, hO, hf⟩
    simp only at ht1 ht2
    subst ht1 ht2
    unfold X7_orderForRenumbering_b18
    simp only
    rw [if_neg (by omega), za_2b (by omega) (by omega), Int.toNat_natCast, k_placeOf hb hS hD hP (zVA_5 hV) hi hs, zb]
    refine Or.inl ?_
    rcases zpf_at (s := s) hP hi with ⟨z1, z2⟩ | ⟨z1, r, z2, z3⟩
    · rw [z1, if_pos rfl, zckb (by omega) (by omega)]
      exact ⟨_, rfl, rfl, A1, rfl, zOR_skip hO (fun y => y z2), hf⟩
    · obtain ⟨q1, q2, q3⟩ := zpo_at z1
      have q80 : (zpo I i s).toNat < 80 := by omega
      have p2 := (hLV.2.2.2.2.2 _ q80 q2).2.1
      have hl := hLV.2.2.2.1
      have hfr := zfr_in hl p2
      rw [z2, if_neg (fun y => by cases y), zg_0_4b, zgStr_4b hsc]
      have hw : zrn I s i = if I 18 s = 121 then 0 else zfr I s (I 23 (zpo I i s).toNat) := rfl
      by_cases c : I 18 s = 121
      · rw [if_pos c, zgPlc_0b z3, zo_12b]
        rw [if_pos c] at hw
        obtain ⟨A2, e2, o2, f2⟩ := zOR_put (A := A1) (K := K) (I := I) (L := L) (F := F) (E := E) (dyn := dyn) hO hi z1 hw.symm (by omega)
        rw [e2, zb, zckb (by omega) (by omega)]
        exact ⟨_, rfl, rfl, A2, rfl, o2, fun j j1 j2 => (f2 j j1 j2).trans (hf j j1 j2)⟩
      · rw [if_neg c, zgPlc_2b z3, zoStrb hsc, k_farness hsc (by omega) (by omega), zb, zgPlc_0b z3, zo_12b]
        rw [if_neg c] at hw
        unfold zfr at hw hfr
        obtain ⟨A2, e2, o2, f2⟩ := zOR_put (A := A1) (K := K) (I := I) (L := L) (F := F) (E := E) (dyn := dyn) hO hi z1 hw.symm (by omega)
        rw [e2, zb, zckb (by omega) (by omega)]
        exact ⟨_, rfl, rfl, A2, rfl, o2, fun j j1 j2 => (f2 j j1 j2).trans (hf j j1 j2)⟩) (by
    rintro ⟨t1, t2⟩ ⟨ht1, h⟩
    simp only at ht1
    subst ht1
    unfold X7_orderForRenumbering_b18
    rw [if_pos (by omega)]
    exact ⟨_, rfl, h⟩) (0, zM (zu A 12 1 0) K I L F E dyn) ⟨rfl, zu A 12 1 0, rfl, zOR_0 zu_eq, fun j j1 j2 => zu_c j1⟩ (by omega)
  obtain ⟨A', rfl, h⟩ := hq
  unfold X7_orderForRenumbering X4_clear
  rw [zg_0_4b, zo_12b, zp_12_1b, zb, zg_0_1b, zl_2b, he, zb]
  exact ⟨A', rfl, h⟩
def znc (k : Nat) (I : zIT) (s : Nat) : zIT := fun c p => if c = 25 ∧ p < k ∧ I 22 p = s then -1 else I c p
theorem znc_c {k c s : Nat} {I : zIT} (h : c ≠ 25) : znc k I s c = I c := by
  funext p
  exact if_neg (fun y => h y.1)
theorem m_ren35 {A : zIT} {K : zLT} {I : zIT} {L : zLT} {F : zFT} {E : zET} {dyn : zH} {s : Nat} {g : Int} : zloop (X8_renumber_b35 (some 14) (s : Int) g) zN (0, (zM A K I L F E dyn)) = some (zM A K (znc 80 I s) L F E dyn) := by
  have h0 : znc 0 I s = I := by
    funext c p
    exact if_neg (fun y => absurd y.2.1 (Nat.not_lt_zero p))
  have h := zloop_0 (body := X8_renumber_b35 (some 14) (s : Int) g) (fun i => ((i : Int), zM A K (znc i I s) L F E dyn)) (e := zM A K (znc 80 I s) L F E dyn) 80 ?_ ?_ (by omega)
  · simp only [h0] at h
    exact h
  · intro i hi
    have e22 : znc i I s 22 = I 22 := znc_c (by omega)
    unfold X8_renumber_b35
    simp only
    rw [if_neg (by omega), zg_14_11b, zg_14_8b, za_22b (by omega) (by omega), Int.toNat_natCast, e22]
    by_cases c : I 22 i = s
    · rw [if_pos c, zs_25b (by omega) (by omega), zckb (by omega) (by omega), Int.toNat_natCast]
      have e : zu (znc i I s) 25 i (-1) = znc (i + 1) I s := by
        funext c' p
        unfold zu znc
        by_cases h1 : c' = 25 ∧ p = i
        · rw [if_pos h1, if_pos ⟨h1.1, by omega, by rw [h1.2]; exact c⟩]
        · rw [if_neg h1]
          by_cases h2 : c' = 25 ∧ p < i ∧ I 22 p = s
          · rw [if_pos h2, if_pos ⟨h2.1, by omega, h2.2.2⟩]
          · rw [if_neg h2, if_neg (fun y => h2 ⟨y.1, by
              have : p ≠ i := fun z => h1 ⟨y.1, z⟩
              omega, y.2.2⟩)]
      rw [e]
      rfl
    · rw [if_neg c, zg_14_11b, za_25b (by omega) (by omega), zs_25b (by omega) (by omega), zckb (by omega) (by omega), Int.toNat_natCast, zu_id]
      have e : znc i I s = znc (i + 1) I s := by
        funext c' p
        unfold znc
        by_cases h2 : c' = 25 ∧ p < i ∧ I 22 p = s
        · rw [if_pos h2, if_pos ⟨h2.1, by omega, h2.2.2⟩]
        · rw [if_neg h2, if_neg (fun y => h2 ⟨y.1, by
            have : p ≠ i := fun z => c (z ▸ y.2.2)
            omega, y.2.2⟩)]
      rw [e]
      rfl
  · unfold X8_renumber_b35
    rw [if_pos (by omega)]
def zRJ (J0 J : zIT) (s : Nat) : Prop := (∀ c, c ≠ 21 → c ≠ 25 → J c = J0 c) ∧ (∀ t, t ≠ s → J 21 t = J0 21 t) ∧ (∀ p, J0 22 p ≠ s → J 25 p = J0 25 p)
def zRI (A I J0 J : zIT) (s c i : Nat) : Prop := zLgr A J s ∧ zLV J s (200 + 2 * i) ∧ zRJ J0 J s ∧
  (∀ p : Nat, p < 80 → I 22 p = s → (J 25 p < 0 ↔ ∃ a, i ≤ a ∧ a < c ∧ A 13 a = zrn I s (p / 2) * 64 + ((p / 2 : Nat) : Int))) ∧
  (∀ p q : Nat, p < 80 → q < 80 → p ≠ q → I 22 p = s → I 22 q = s → 0 ≤ J 25 p → J 25 p ≠ J 25 q) ∧
  A 12 1 = c ∧ zOS (A 13) c (fun x => ∃ d : Nat, d < 40 ∧ zpo I d s ≠ -1 ∧ x = zrn I s d * 64 + d)
theorem m_ren171 {A : zIT} {K : zLT} {I : zIT} {L : zLT} {F : zFT} {E : zET} {dyn : zH} {s : Nat} {j : Int} (hb : zB I) (hs : s < 12) (hl : 0 ≤ I 17 s ∧ I 17 s ≤ 999) (hP : ∀ p, p < 80 → I 22 p = s → 0 ≤ I 23 p ∧ I 23 p ≤ 999) : ∃ r, X8_renumber_j171 (some 14) (s : Int) j (zM A K I L F E dyn) = some (.inl (j, r, (zM A K I L F E dyn))) ∧ znt I s (znu I s) (if I 18 s = 121 then 1 else 0) (2 * I 14 14).toNat r := by
  unfold X8_renumber_j171
  rw [zg_14_3b, za_18b (by omega) (by omega), Int.toNat_natCast]
  by_cases c : I 18 s = 121
  · obtain ⟨r, e, h⟩ := m_next (A := A) (K := K) (L := L) (F := F) (E := E) (dyn := dyn) (b := 1) hb hs hl hP
    rw [if_pos c, if_pos c, zo_14b, e, zb]
    exact ⟨r, rfl, h⟩
  · obtain ⟨r, e, h⟩ := m_next (A := A) (K := K) (L := L) (F := F) (E := E) (dyn := dyn) (b := 0) hb hs hl hP
    rw [if_neg c, if_neg c, zo_14b, e, zb]
    exact ⟨r, rfl, h⟩
theorem zc0_i {r r2 : Int} (h1 : r = -1 ∨ 10 ≤ r) (h2 : r2 = -1 ∨ 10 ≤ r2) (h : zc0 r = zc0 r2) : r = r2 := by
  unfold zc0 at h
  split at h <;> split at h <;> omega
theorem zcm_one {A J : zIT} {s d : Nat} {m w r r2 B : Int} (h : zLgr A J s) (hV : zLV J s B) (hB : B ≤ 90000) (hw : zsd w) (hf : ∀ p : Nat, p < 80 → J 22 p = s → 0 ≤ J 25 p → p / 2 ≠ d) (hm : 0 ≤ m ∧ m ≤ J 17 s) (hd : d ≤ 40) (hz : zcm J s d m w r) (hz2 : zcm J s d m w r2) : r2 = r := by
  have k1 := k_codeFor (A := A) (K := fun _ _ => 0) (I := J) (L := fun _ _ => 0) (F := fun _ _ => none) (E := fun _ _ => 0) (dyn := []) h hV hB hw hf hm hd hz
  have k2 := k_codeFor (A := A) (K := fun _ _ => 0) (I := J) (L := fun _ _ => 0) (F := fun _ _ => none) (E := fun _ _ => 0) (dyn := []) h hV hB hw hf hm hd hz2
  rw [k1] at k2
  injection k2 with k2
  exact (zc0_i (zcm_in hV hm hz).1 (zcm_in hV hm hz2).1 k2).symm
theorem z_ren {K : zLT} {I J0 : zIT} {L : zLT} {F : zFT} {E : zET} {dyn : zH} {rs rd : Nat → Nat} {fp : Nat → Option Nat} {B g0 : Int} {rk : Nat → Nat} {s c : Nat}
    (hV : zVA I L B rk) (hS : zRS I L F dyn rs) (hD : zRD I F dyn rd fp) (hP : zRP I dyn rs fp) (hs : (s : Int) < I 14 7) (hc4 : c ≤ 40) (hJ0 : ∀ c, 17 ≤ c → c ≤ 24 → c ≠ 21 → J0 c = I c) (hJ14 : J0 14 14 = I 14 14) :
    ∀ (n i : Nat) (J A : zIT), n = c - i → i ≤ c → zRI A I J0 J s c i → ∀ f2 : Nat, n + 2 ≤ f2 →
      ∃ (can : Int) (J' A' : zIT), (can = 0 ∨ can = 1) ∧ (∀ (Ax : zIT) (Kx Lx : zLT) (Fx : zFT) (Ex : zET) (dx : zH) (p : Int) (f1 : Nat), znt J s (znu J s) (if I 18 s = 121 then 1 else 0) (2 * I 14 14).toNat p → n + 2 ≤ f1 → zloop (X8_renumber_b98 (some 14) (s : Int) g0) f1 (1, p, zM Ax Kx J Lx Fx Ex dx) = some (can, zM Ax Kx J' Lx Fx Ex dx)) ∧
        zloop (X7_enterInOrder_b2 (some 0) (some (rs s + 39)) 0) f2 ((i : Int), zM A K I L F E dyn) = some (if can = 1 then .inl (zM A' K I L F E dyn) else .inr (zM A' K I L F E dyn)) ∧ zRJ J0 J' s ∧ (∀ j, j ≠ 8 → j ≠ 9 → j ≠ 10 → j ≠ 11 → A' j = A j) ∧ (can = 1 → zRI A' I J0 J' s c c) := by
  have hb := zVA_B hV
  have hb' := hb
  unfold zB at hb'
  intro n
  induction n with
  | zero =>
    intro i J A hn hic hI f2 hf2
    have hi : i = c := by omega
    subst hi
    obtain ⟨f2, rfl⟩ : ∃ k, f2 = k + 1 := ⟨f2 - 1, by omega⟩
    have hI' := hI
    obtain ⟨iL, iV, iJ, iP, iU, iC, iO⟩ := hI
    have e22 : J 22 = I 22 := by rw [iJ.1 22 (by omega) (by omega), hJ0 22 (by omega) (by omega) (by omega)]
    have hp1 : ∀ p : Int, znt J s (znu J s) (if I 18 s = 121 then 1 else 0) (2 * I 14 14).toNat p → p = -1 := by
      intro p hp
      by_cases y : p = -1
      · exact y
      · obtain ⟨q, q1, q2, q3⟩ := znt_at hp y
        unfold znu at q3
        rw [e22] at q3
        obtain ⟨a, a1, a2, _⟩ := (iP q (by omega) q3.1).1 q3.2
        omega
    refine ⟨1, J, A, Or.inr rfl, ?_, ?_, iJ, fun _ _ _ _ _ => rfl, fun _ => hI'⟩
    · intro Ax Kx Lx Fx Ex dx p f1 hp hf1
      obtain ⟨f1, rfl⟩ : ∃ k, f1 = k + 1 := ⟨f1 - 1, by omega⟩
      apply zloop_out
      unfold X8_renumber_b98
      simp only
      rw [if_neg (by omega), if_pos (hp1 p hp)]
    · rw [if_pos rfl]
      apply zloop_out
      unfold X7_enterInOrder_b2
      simp only
      rw [zg_0_4b, zg_12_1b, iC, if_pos (by omega)]
  | succ n ih =>
    intro i J A hn hic hI f2 hf2
    obtain ⟨f2, rfl⟩ : ∃ k, f2 = k + 1 := ⟨f2 - 1, by omega⟩
    obtain ⟨iL, iV, iJ, iP, iU, iC, iO⟩ := hI
    have hi : i < c := by omega
    have ej : ∀ c, 17 ≤ c → c ≤ 24 → c ≠ 21 → J c = I c := fun c c1 c2 c3 => by rw [iJ.1 c c3 (by omega), hJ0 c c1 c2 c3]
    have e22 := ej 22 (by omega) (by omega) (by omega)
    have e23 := ej 23 (by omega) (by omega) (by omega)
    have e24 := ej 24 (by omega) (by omega) (by omega)
    have e17 := ej 17 (by omega) (by omega) (by omega)
    have e18 := ej 18 (by omega) (by omega) (by omega)
    have e19 := ej 19 (by omega) (by omega) (by omega)
    have e14 : J 14 14 = I 14 14 := by rw [iJ.1 14 (by omega) (by omega), hJ14]
    obtain ⟨d, d1, d2, d3⟩ := (iO.2 (A 13 i)).2 ⟨i, hi, rfl⟩
    obtain ⟨q1, q2, q3⟩ := zpo_at d2
    have q80 : (zpo I d s).toNat < 80 := by omega
    have vq := zV4_at (zVA_4 hV) q80 q2
    have hsd := vq.2.2.1
    have hl := (zVA_LV hV hs).2.2.2.1
    have un : J 25 (zpo I d s).toNat < 0 := (iP _ q80 q2).2 ⟨i, Nat.le_refl i, hi, by rw [q1]; exact d3⟩
    have qn : (zpo I d s).toNat < (2 * I 14 14).toNat := zLV_n (zVA_LV hV hs) q2
    have zfe : ∀ m, zfr J s m = zfr I s m := fun m => by
      unfold zfr
      rw [e17, e19]
    have pe : ∀ p : Int, znt J s (znu J s) (if I 18 s = 121 then 1 else 0) (2 * I 14 14).toNat p → p = ((zpo I d s).toNat : Int) := by
      intro p hp
      rcases hp with ⟨_, h2⟩ | ⟨p0, h1, h2, h3, h4⟩
      · exact absurd ⟨by rw [e22]; exact q2, un⟩ (h2 _ qn)
      · have hu : znu J s (zpo I d s).toNat := ⟨by rw [e22]; exact q2, un⟩
        have h3' : I 22 p0 = s := by
          have := h3.1
          rw [e22] at this
          exact this
        obtain ⟨a, a1, a2, a3⟩ := (iP p0 (by omega) h3').1 h3.2
        have hle := zOS_le iO a1 a2
        have h5 := h4 _ qn hu
        have hz : zpo I (p0 / 2) s = (p0 : Int) := zpo_eq (zVA_7 hV) h3'
        have key : p0 / 2 = d := by
          by_cases c : I 18 s = 121
          · rw [if_pos c] at h5
            have := h5.1 (by omega)
            unfold zrn at a3 d3
            rw [if_pos c] at a3 d3
            omega
          · rw [if_neg c] at h5
            have := h5.2 rfl
            unfold zky at this
            rw [zfe, zfe, e23] at this
            unfold zrn at a3 d3
            rw [if_neg c] at a3 d3
            rw [hz, Int.toNat_natCast] at a3
            omega
        rw [h1, ← key, hz]
        omega
    have hlj : 0 ≤ J 17 s ∧ J 17 s ≤ 999 := iV.2.2.2.1
    have hmm : 0 ≤ I 23 (zpo I d s).toNat ∧ I 23 (zpo I d s).toNat ≤ J 17 s := by
      rw [e17]
      exact vq.2.1
    have hPj : ∀ p, p < 80 → J 22 p = s → 0 ≤ J 23 p ∧ J 23 p ≤ 999 := fun p hp h => by
      have := (iV.2.2.2.2.2 p hp h).2.1
      omega
    have hg := iV.2.2.2.2.1
    have mc := fun (Ax : zIT) (Kx Lx : zLT) (Fx : zFT) (Ex : zET) (dx : zH) => m_comes (A := Ax) (K := Kx) (I := J) (L := Lx) (F := Fx) (E := Ex) (dyn := dx) (s := s) (d := d) (m := I 23 (zpo I d s).toNat) (w := I 24 (zpo I d s).toNat) (B := 200 + 2 * i) iV.1 (by omega) (by omega) hlj hmm (by omega) hg hPj (fun p hp h => by
      have := (iV.2.2.2.2.2 p hp h).2.2
      omega)
    obtain ⟨r, _, hz, _, _⟩ := mc A K L F E dyn
    have hr := (zcm_in iV hmm hz)
    have uq : ∀ q : Nat, q / 2 = d → q ≠ (zpo I d s).toNat → J 22 q ≠ s := by
      intro q h1 h2 h3
      rw [e22] at h3
      exact h2 ((zVA_LV hV hs).2.2.1 q _ (by omega) h3 q2)
    have hf : ∀ p : Nat, p < 80 → J 22 p = s → 0 ≤ J 25 p → p / 2 ≠ d := by
      intro p hp h1 h2 h3
      by_cases c : p = (zpo I d s).toNat
      · rw [c] at h2
        omega
      · exact uq p h3 c h1
    have kst := k_enterStep (A := A) (K := K) (E := E) (J := J) (more := 0) (m := I 23 (zpo I d s).toNat) (w := I 24 (zpo I d s).toNat) (r := r) (s := s) (t := s) (d := d) (i := i) (c := c) hb hS hD hP (zVA_5 hV) hs iC hc4 hi (by
      rw [d3]
      have : 0 ≤ zrn I s d := by
        have := zfr_in hl vq.2.1
        unfold zrn
        split <;> omega
      omega) (by rw [d3]; omega) d1 d2 (by omega) rfl (by omega) iL iV (by omega) hsd hf hmm hz
    have rst : ∀ (Ax : zIT) (Kx Lx : zLT) (Fx : zFT) (Ex : zET) (dx : zH) (p : Int), znt J s (znu J s) (if I 18 s = 121 then 1 else 0) (2 * I 14 14).toNat p → X8_renumber_b98 (some 14) (s : Int) g0 (1, p, zM Ax Kx J Lx Fx Ex dx) = if r < 0 then X8_renumber_j143 (some 14) (s : Int) (1, p, zM Ax Kx J Lx Fx Ex dx) r 0 else X8_renumber_j143 (some 14) (s : Int) (1, p, zM Ax Kx J Lx Fx Ex dx) r 1 := by
      intro Ax Kx Lx Fx Ex dx p hp
      have pe := pe p hp
      obtain ⟨r2, ec, hz2, _, _⟩ := mc Ax Kx Lx Fx Ex dx
      have er := zcm_one iL iV (by omega) hsd hf hmm (by omega) hz hz2
      rw [er] at ec
      unfold X8_renumber_b98
      simp only
      rw [if_neg (by omega), if_neg (by omega), zdvb (by omega) (by omega), zg_14_9b, za_23b (by omega) (by omega), zg_14_10b, za_24b (by omega) (by omega), zo_14b, pe, Int.toNat_natCast, e23, e24]
      rw [show (((zpo I d s).toNat : Nat) : Int) / 2 = (d : Int) by omega, ec, zb]
    by_cases c1 : r = -1
    · rw [if_pos c1] at kst
      refine ⟨0, J, A, Or.inl rfl, ?_, ?_, iJ, fun _ _ _ _ _ => rfl, fun y => by omega⟩
      · intro Ax Kx Lx Fx Ex dx p f1 hp hf1
        obtain ⟨f1, rfl⟩ : ∃ k, f1 = k + 1 := ⟨f1 - 1, by omega⟩
        have rst := rst Ax Kx Lx Fx Ex dx p hp
        rw [if_pos (by omega)] at rst
        obtain ⟨p2, e2, _⟩ := m_ren171 (A := Ax) (K := Kx) (L := Lx) (F := Fx) (E := Ex) (dyn := dx) (j := 0) iV.1 (show s < 12 by omega) hlj hPj
        have rst2 : X8_renumber_b98 (some 14) (s : Int) g0 (1, p, zM Ax Kx J Lx Fx Ex dx) = some (.inl (0, p2, zM Ax Kx J Lx Fx Ex dx)) := by
          rw [rst]
          unfold X8_renumber_j143
          rw [if_pos rfl]
          exact e2
        obtain ⟨f1, rfl⟩ : ∃ k, f1 = k + 1 := ⟨f1 - 1, by omega⟩
        rw [zloop_in rst2]
        apply zloop_out
        unfold X8_renumber_b98
        simp only
        rw [if_pos trivial]
      · rw [if_neg (by omega)]
        exact zloop_out kst
    · have hr10 : 10 ≤ r := by omega
      rw [if_neg c1] at kst
      have j22 : zputs J (zpo I d s).toNat s (I 23 (zpo I d s).toNat) (I 24 (zpo I d s).toNat) r 22 = J 22 := by
        funext q
        rw [zputs_22]
        by_cases y : q = (zpo I d s).toNat
        · rw [if_pos y, y, e22, q2]
        · rw [if_neg y]
      have j23 : zputs J (zpo I d s).toNat s (I 23 (zpo I d s).toNat) (I 24 (zpo I d s).toNat) r 23 = J 23 := by
        funext q
        rw [zputs_23]
        by_cases y : q = (zpo I d s).toNat
        · rw [if_pos y, y, e23]
        · rw [if_neg y]
      have j24 : zputs J (zpo I d s).toNat s (I 23 (zpo I d s).toNat) (I 24 (zpo I d s).toNat) r 24 = J 24 := by
        funext q
        rw [zputs_24]
        by_cases y : q = (zpo I d s).toNat
        · rw [if_pos y, y, e24]
        · rw [if_neg y]
      have jc : ∀ c, c ≠ 21 → c ≠ 25 → zputs J (zpo I d s).toNat s (I 23 (zpo I d s).toNat) (I 24 (zpo I d s).toNat) r c = J c := by
        intro c c1 c2
        by_cases y : c < 21 ∨ 25 < c
        · exact zputs_c y
        · rcases show c = 22 ∨ c = 23 ∨ c = 24 by omega with rfl | rfl | rfl
          · exact j22
          · exact j23
          · exact j24
      have j21 : zputs J (zpo I d s).toNat s (I 23 (zpo I d s).toNat) (I 24 (zpo I d s).toNat) r 21 s = zmax (J 21 s) (r / 10) := by
        rw [zputs_21, if_pos rfl, zmax_e]
      have zm : J 21 s ≤ zmax (J 21 s) (r / 10) ∧ r / 10 ≤ zmax (J 21 s) (r / 10) ∧ (zmax (J 21 s) (r / 10) = J 21 s ∨ zmax (J 21 s) (r / 10) = r / 10) := by
        unfold zmax
        split <;> omega
      have V2 : zLV (zputs J (zpo I d s).toNat s (I 23 (zpo I d s).toNat) (I 24 (zpo I d s).toNat) r) s (200 + 2 * ((i + 1 : Nat) : Int)) := by
        refine ⟨?_, ?_, ?_, ?_, ?_, fun q hq h => ?_⟩
        · unfold zB
          rw [jc 14 (by omega) (by omega)]
          exact iV.1
        · rw [jc 14 (by omega) (by omega), j22]
          exact iV.2.1
        · rw [j22]
          exact iV.2.2.1
        · rw [jc 17 (by omega) (by omega)]
          exact hlj
        · rw [j21]
          omega
        · rw [j22] at h
          rw [j24, j23, jc 17 (by omega) (by omega), j21, zputs_25]
          have v := iV.2.2.2.2.2 q hq h
          refine ⟨v.1, v.2.1, ?_⟩
          by_cases y : q = (zpo I d s).toNat
          · rw [if_pos y]
            omega
          · rw [if_neg y]
            have := v.2.2
            omega
      have I2 : zRI (zLE A d (zfr J s (I 23 (zpo I d s).toNat) * 64 + d) (if I 24 (zpo I d s).toNat = 108 then 1 else 0) r) I J0 (zputs J (zpo I d s).toNat s (I 23 (zpo I d s).toNat) (I 24 (zpo I d s).toNat) r) s c (i + 1) := by
        refine ⟨zLgr_put iL q1 d1 uq hr10, V2, ⟨fun c c1 c2 => by rw [jc c c1 c2]; exact iJ.1 c c1 c2, fun t ht => ?_, fun q hq => ?_⟩, fun q hq h => ?_, fun q q' hq hq' hne h h' h0 => ?_, ?_, ?_⟩
        · rw [zputs_21, if_neg ht]
          exact iJ.2.1 t ht
        · rw [zputs_25, if_neg]
          · exact iJ.2.2 q hq
          · intro y
            rw [y, hJ0 22 (by omega) (by omega) (by omega)] at hq
            exact hq q2
        · rw [zputs_25, zLE_c (by omega)]
          by_cases y : q = (zpo I d s).toNat
          · rw [if_pos y]
            constructor
            · intro y2
              omega
            · rintro ⟨a, a1, a2, a3⟩
              rw [y, q1, ← d3] at a3
              have := iO.1 i a (by omega) a2
              omega
          · rw [if_neg y, iP q hq h]
            constructor
            · rintro ⟨a, a1, a2, a3⟩
              refine ⟨a, ?_, a2, a3⟩
              rcases Nat.lt_or_eq_of_le a1 with z | z
              · exact z
              · exfalso
                subst z
                rw [d3] at a3
                have e : q / 2 = d := by omega
                exact uq q e y (by rw [e22]; exact h)
            · rintro ⟨a, a1, a2, a3⟩
              exact ⟨a, by omega, a2, a3⟩
        · rw [zputs_25] at h0 ⊢
          rw [zputs_25]
          by_cases y : q = (zpo I d s).toNat
          · have y' : q' ≠ (zpo I d s).toNat := fun z => hne (y.trans z.symm)
            rw [if_pos y, if_neg y']
            exact fun z => zcm_new iV hz c1 hq' (by rw [e22]; exact h') z.symm
          · rw [if_neg y] at h0 ⊢
            by_cases y' : q' = (zpo I d s).toNat
            · rw [if_pos y']
              exact zcm_new iV hz c1 hq (by rw [e22]; exact h)
            · rw [if_neg y']
              exact iU q q' hq hq' hne h h' h0
        · rw [zLE_c (by omega)]
          exact iC
        · rw [zLE_c (by omega)]
          exact iO
      have hPj2 : ∀ p, p < 80 → zputs J (zpo I d s).toNat s (I 23 (zpo I d s).toNat) (I 24 (zpo I d s).toNat) r 22 p = s → 0 ≤ zputs J (zpo I d s).toNat s (I 23 (zpo I d s).toNat) (I 24 (zpo I d s).toNat) r 23 p ∧ zputs J (zpo I d s).toNat s (I 23 (zpo I d s).toNat) (I 24 (zpo I d s).toNat) r 23 p ≤ 999 := by
        rw [j22, j23]
        exact hPj
      obtain ⟨can, J', A', r1, r2, r3, r4, r5, r6⟩ := ih (i + 1) _ _ (by omega) (by omega) I2 f2 (by omega)
      refine ⟨can, J', A', r1, ?_, ?_, r4, fun j j1 j2 j3 j4 => ?_, r6⟩
      · intro Ax Kx Lx Fx Ex dx p f1 hp hf1
        obtain ⟨f1, rfl⟩ : ∃ k, f1 = k + 1 := ⟨f1 - 1, by omega⟩
        have pe := pe p hp
        have rst := rst Ax Kx Lx Fx Ex dx p hp
        rw [if_neg (by omega)] at rst
        obtain ⟨p2, e2, hp2⟩ := m_ren171 (A := Ax) (K := Kx) (I := zputs J (zpo I d s).toNat s (I 23 (zpo I d s).toNat) (I 24 (zpo I d s).toNat) r) (L := Lx) (F := Fx) (E := Ex) (dyn := dx) (j := 1) V2.1 (show s < 12 by omega) V2.2.2.2.1 hPj2
        rw [jc 18 (by omega) (by omega), jc 14 (by omega) (by omega), e18, e14] at hp2
        have rst2 : X8_renumber_b98 (some 14) (s : Int) g0 (1, p, zM Ax Kx J Lx Fx Ex dx) = some (.inl (1, p2, zM Ax Kx (zputs J (zpo I d s).toNat s (I 23 (zpo I d s).toNat) (I 24 (zpo I d s).toNat) r) Lx Fx Ex dx)) := by
          rw [rst]
          unfold X8_renumber_j143
          rw [if_neg (by omega)]
          simp only
          rw [zg_14_9b, za_23b (by omega) (by omega), zg_14_10b, za_24b (by omega) (by omega), zo_14b, pe, Int.toNat_natCast, e23, e24, m_puts q80 (by omega) (zvsd hsd) (by omega), zb]
          exact e2
        rw [zloop_in rst2]
        exact r2 Ax Kx Lx Fx Ex dx p2 f1 hp2 (by omega)
      · rw [zloop_in kst]
        exact r3
      · rw [r5 j j1 j2 j3 j4, zLE_c (by omega)]
