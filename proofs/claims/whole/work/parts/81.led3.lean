-- ===== the ledger against the reference's tables =====
def zLgrd (A J : zIT) (s d : Nat) : Prop := (A 11 d = 0 ∧ ∀ p : Nat, p / 2 = d → J 22 p = s → J 25 p < 0) ∨
  (∃ p : Nat, p / 2 = d ∧ J 22 p = s ∧ 10 ≤ J 25 p ∧ A 11 d = J 25 p ∧ A 9 d = zky J s p ∧ A 10 d = (if J 24 p = 108 then 1 else 0))
def zLgr (A J : zIT) (s : Nat) : Prop := A 8 3 = J 18 s ∧ A 8 4 = J 19 s ∧ A 8 5 = J 17 s ∧ A 8 6 = J 21 s ∧ ∀ d : Nat, d < 40 → zLgrd A J s d
def zLV (J : zIT) (s : Nat) (B : Int) : Prop := zB J ∧ (∀ p : Nat, 2 * J 14 14 ≤ (p : Int) → J 22 p = -1) ∧ (∀ p q : Nat, p / 2 = q / 2 → J 22 p = s → J 22 q = s → p = q) ∧
  (0 ≤ J 17 s ∧ J 17 s ≤ 999) ∧ (0 ≤ J 21 s ∧ J 21 s ≤ B) ∧ (∀ p : Nat, p < 80 → J 22 p = s → zsd (J 24 p) ∧ (0 ≤ J 23 p ∧ J 23 p ≤ J 17 s) ∧ (J 25 p = -1 ∨ (10 ≤ J 25 p ∧ J 25 p / 10 ≤ J 21 s)))
theorem zLgr_at {A J : zIT} {s : Nat} {B : Int} (h : zLgr A J s) (hV : zLV J s B) {p : Nat} (hp : p < 80) (h1 : J 22 p = s) (h2 : 0 ≤ J 25 p) : 10 ≤ J 25 p ∧ A 11 (p / 2) = J 25 p ∧ A 9 (p / 2) = zky J s p ∧ A 10 (p / 2) = (if J 24 p = 108 then 1 else 0) := by
  rcases h.2.2.2.2 (p / 2) (by omega) with ⟨_, g⟩ | ⟨q, g1, g2, g3, g4, g5, g6⟩
  · have := g p rfl h1
    omega
  · have e := hV.2.2.1 q p g1 g2 h1
    subst e
    exact ⟨g3, g4, g5, g6⟩
theorem zLgr_of {A J : zIT} {s d : Nat} (h : zLgr A J s) (hd : d < 40) (hc : A 11 d ≠ 0) : ∃ p : Nat, p < 80 ∧ p / 2 = d ∧ J 22 p = s ∧ 10 ≤ J 25 p ∧ A 11 d = J 25 p ∧ A 9 d = zky J s p ∧ A 10 d = (if J 24 p = 108 then 1 else 0) := by
  rcases h.2.2.2.2 d hd with ⟨g, _⟩ | ⟨q, g1, g⟩
  · exact absurd g hc
  · exact ⟨q, by omega, g1, g⟩
theorem zLgr_0 {A J : zIT} {s d : Nat} (h : zLgr A J s) (hd : d < 40) : 0 ≤ A 11 d := by
  rcases h.2.2.2.2 d hd with ⟨g, _⟩ | ⟨q, g1, g2, g3, g4, _⟩
  · omega
  · omega
theorem zLV_n {J : zIT} {s : Nat} {B : Int} (hV : zLV J s B) {p : Nat} (h1 : J 22 p = s) : p < (2 * J 14 14).toNat := by
  rcases Nat.lt_or_ge p (2 * J 14 14).toNat with y | y
  · exact y
  · have := hV.2.1 p (by omega)
    omega
theorem zLV_80 {J : zIT} {s : Nat} {B : Int} (hV : zLV J s B) {p : Nat} (h1 : p < (2 * J 14 14).toNat) : p < 80 := by
  have := hV.1
  unfold zB at this
  omega
theorem zLgr_given {A J : zIT} {s : Nat} {B : Int} (h : zLgr A J s) (hV : zLV J s B) (a : Int) (ha : 1 ≤ a) : zex (fun d => A 11 d = a) 40 ↔ zgv J s (2 * J 14 14).toNat a := by
  constructor
  · rintro ⟨d, hd, hc⟩
    obtain ⟨p, h1, h2, h3, h4, h5, _⟩ := zLgr_of h hd (by omega)
    exact ⟨p, zLV_n hV h3, h3, by omega⟩
  · rintro ⟨p, hp, h1, h2⟩
    have hp8 := zLV_80 hV hp
    have := zLgr_at h hV hp8 h1 (by omega)
    exact ⟨p / 2, by omega, by simp only; omega⟩
theorem zLgr_num {A J : zIT} {s : Nat} {B : Int} (h : zLgr A J s) (hV : zLV J s B) (a : Int) (_ : 1 ≤ a) : zex (fun d => A 11 d ≠ 0 ∧ A 11 d / 10 = a) 40 ↔ zng2 J s (2 * J 14 14).toNat a := by
  constructor
  · rintro ⟨d, hd, hc, h0⟩
    obtain ⟨p, h1, h2, h3, h4, h5, _⟩ := zLgr_of h hd hc
    exact ⟨p, zLV_n hV h3, h3, by omega, by omega⟩
  · rintro ⟨p, hp, h1, h2, h3⟩
    have hp8 := zLV_80 hV hp
    obtain ⟨g1, g2, _⟩ := zLgr_at h hV hp8 h1 h2
    exact ⟨p / 2, by omega, by omega, by rw [g2]; exact h3⟩
theorem zfr_in {J : zIT} {s : Nat} {m : Int} (hl : 0 ≤ J 17 s ∧ J 17 s ≤ 999) (hm : 0 ≤ m ∧ m ≤ J 17 s) : 0 ≤ zfr J s m ∧ zfr J s m ≤ 999 := by
  unfold zfr
  split <;> omega
theorem zky_in {J : zIT} {s p : Nat} {B : Int} (hV : zLV J s B) (hp : p < 80) (h1 : J 22 p = s) : 0 ≤ zky J s p ∧ zky J s p < 64000 := by
  have := zfr_in hV.2.2.2.1 (hV.2.2.2.2.2 p hp h1).2.1
  unfold zky
  omega
theorem zsd_e {w v : Int} (hw : zsd w) (hv : zsd v) : ((if v = 108 then (1 : Int) else 0) = (if w = 108 then 1 else 0)) ↔ v = w := by
  unfold zsd at hw hv
  rcases hw with rfl | rfl <;> rcases hv with rfl | rfl <;> simp
theorem zaC_of {A J : zIT} {s d : Nat} {B w : Int} (h : zLgr A J s) (hV : zLV J s B) (hw : zsd w) (hd : d < 40) (hc : zaC A (if w = 108 then 1 else 0) d) : ∃ p : Nat, p < 80 ∧ p / 2 = d ∧ zcd J s w p ∧ 10 ≤ J 25 p ∧ A 11 d = J 25 p ∧ A 9 d = zky J s p := by
  obtain ⟨p, h1, h2, h3, h4, h5, h6, h7⟩ := zLgr_of h hd hc.1
  refine ⟨p, h1, h2, ⟨h3, by omega, ?_⟩, h4, h5, h6⟩
  have := hc.2
  rw [h7] at this
  exact (zsd_e hw (hV.2.2.2.2.2 p h1 h3).1).1 this
theorem zaC_at {A J : zIT} {s p : Nat} {B w : Int} (h : zLgr A J s) (hV : zLV J s B) (hp : p < 80) (hc : zcd J s w p) : zaC A (if w = 108 then 1 else 0) (p / 2) ∧ A 9 (p / 2) = zky J s p ∧ A 11 (p / 2) = J 25 p ∧ 10 ≤ J 25 p := by
  obtain ⟨g1, g2, g3, g4⟩ := zLgr_at h hV hp hc.1 hc.2.1
  refine ⟨⟨by omega, ?_⟩, g3, g2, g1⟩
  rw [g4, hc.2.2]
theorem zky_ne {J : zIT} {s p q : Nat} {B : Int} (hV : zLV J s B) (hp : p < 80) (hq : q < 80) (h1 : J 22 p = s) (h2 : J 22 q = s) (h : zky J s p = zky J s q) : p = q := by
  unfold zky at h
  exact hV.2.2.1 p q (by omega) h1 h2
theorem zbf_lo {A J : zIT} {s : Nat} {B w key num near a : Int} (h : zLgr A J s) (hV : zLV J s B) (hw : zsd w) (hz : zbf A (if w = 108 then 1 else 0) key 40 num near) (ha : zlo J s w key (2 * J 14 14).toNat a) : num = zlw J a ∧ (num = 0 ↔ a = -1) ∧ 0 ≤ num ∧ num ≤ J 21 s := by
  have hg := hV.2.2.2.2.1
  unfold zlw
  rcases hz with ⟨z1, z2, z3⟩ | ⟨j, z1, z2, z3, z4, z5, z6⟩
  · rcases ha with ⟨a1, a2⟩ | ⟨q, a1, a2, a3, a4, a5⟩
    · rw [if_pos a1]
      omega
    · exfalso
      obtain ⟨g1, g2, g3, g4⟩ := zaC_at h hV (zLV_80 hV a2) a3
      have := zLV_80 hV a2
      have := z3 (q / 2) (by omega) g1
      omega
  · obtain ⟨p, p1, p2, p3, p4, p5, p6⟩ := zaC_of h hV hw z1 z2
    have hpv := hV.2.2.2.2.2 p p1 p3.1
    rcases ha with ⟨a1, a2⟩ | ⟨q, a1, a2, a3, a4, a5⟩
    · exfalso
      exact a2 p (zLV_n hV p3.1) p3 (by omega)
    · have q8 := zLV_80 hV a2
      obtain ⟨g1, g2, g3, g4⟩ := zaC_at h hV q8 a3
      have e1 := z6 (q / 2) (by omega) g1 (by omega)
      have e2 := a5 p (zLV_n hV p3.1) p3 (by omega)
      have e := zky_ne hV p1 q8 p3.1 a3.1 (by omega)
      subst e
      rw [if_neg (by omega), a1, Int.toNat_natCast]
      omega
theorem zaf_nx {A J : zIT} {s : Nat} {B w key num near b : Int} (h : zLgr A J s) (hV : zLV J s B) (hw : zsd w) (hf : ∀ p : Nat, p < 80 → zcd J s w p → zky J s p ≠ key) (hz : zaf A (if w = 108 then 1 else 0) key 40 num near) (hb : znx J s w key (2 * J 14 14).toNat b) : num = zlw J b ∧ (num = 0 ↔ b = -1) ∧ 0 ≤ num ∧ num ≤ J 21 s := by
  have hg := hV.2.2.2.2.1
  unfold zlw
  rcases hz with ⟨z1, z2, z3⟩ | ⟨j, z1, z2, z3, z4, z5, z6⟩
  · rcases hb with ⟨a1, a2⟩ | ⟨q, a1, a2, a3, a4, a5⟩
    · rw [if_pos a1]
      omega
    · exfalso
      have q8 := zLV_80 hV a2
      obtain ⟨g1, g2, g3, g4⟩ := zaC_at h hV q8 a3
      have := z3 (q / 2) (by omega) g1
      have := hf q q8 a3
      omega
  · obtain ⟨p, p1, p2, p3, p4, p5, p6⟩ := zaC_of h hV hw z1 z2
    have hpv := hV.2.2.2.2.2 p p1 p3.1
    rcases hb with ⟨a1, a2⟩ | ⟨q, a1, a2, a3, a4, a5⟩
    · exfalso
      have := a2 p (zLV_n hV p3.1) p3
      omega
    · have q8 := zLV_80 hV a2
      obtain ⟨g1, g2, g3, g4⟩ := zaC_at h hV q8 a3
      have hq := hf q q8 a3
      have e1 := z6 (q / 2) (by omega) g1 (by omega)
      have e2 := a5 p (zLV_n hV p3.1) p3 (by omega)
      have e := zky_ne hV p1 q8 p3.1 a3.1 (by omega)
      subst e
      rw [if_neg (by omega), a1, Int.toNat_natCast]
      omega
theorem k_metresOn {A : zIT} {K : zLT} {I : zIT} {L : zLT} {F : zFT} {E : zET} {dyn : zH} {J : zIT} {s : Nat} {m : Int} (h4 : A 8 4 = J 19 s) (h5 : A 8 5 = J 17 s) (hl : 0 ≤ J 17 s ∧ J 17 s ≤ 999) (hm : 0 ≤ m ∧ m ≤ 999) : X1_metresOn (zM A K I L F E dyn) (some 8) m = some (zfr J s m) := by
  unfold X1_metresOn zfr
  rw [zg_8_4b, h4]
  by_cases c : J 19 s = 0
  · rw [if_pos c, if_pos c]
  · rw [if_neg c, if_neg c, zg_8_5b, h5, zckb (by omega) (by omega)]
theorem k_keyOf {A : zIT} {K : zLT} {I : zIT} {L : zLT} {F : zFT} {E : zET} {dyn : zH} {J : zIT} {s : Nat} {d : Nat} {m : Int} (h4 : A 8 4 = J 19 s) (h5 : A 8 5 = J 17 s) (hl : 0 ≤ J 17 s ∧ J 17 s ≤ 999) (hm : 0 ≤ m ∧ m ≤ 999) (hd : d ≤ 40) : X1_keyOf (zM A K I L F E dyn) (some 8) (d : Int) m = some (zfr J s m * 64 + d) := by
  unfold X1_keyOf
  have : -999 ≤ zfr J s m ∧ zfr J s m ≤ 999 := by
    unfold zfr
    split <;> omega
  rw [zo_8b, k_metresOn h4 h5 hl hm, zb, zckb (by omega) (by omega), zckb (by omega) (by omega)]
theorem zfn_le {J : zIT} {s : Nat} {B par low num : Int} (hV : zLV J s B) (hp : par = 0 ∨ par = 1) (hl : 0 ≤ low ∧ low ≤ J 21 s) (hz : zfn (zng2 J s (2 * J 14 14).toNat) par low num) : num ≤ J 21 s + 2 := by
  obtain ⟨z1, z2, z3, z4, z5⟩ := hz
  rcases Int.lt_or_le (J 21 s + 2) num with y | y
  · exfalso
    have no : ∀ j, J 21 s < j → zng2 J s (2 * J 14 14).toNat j → False := by
      rintro j hj ⟨p, hp, h1, h2, h3⟩
      have := (hV.2.2.2.2.2 p (zLV_80 hV hp) h1).2.2
      omega
    by_cases c : (J 21 s + 1) % 2 = par
    · exact no _ (by omega) (z5 (J 21 s + 1) (by omega) c (by omega) (by omega))
    · exact no _ (by omega) (z5 (J 21 s + 2) (by omega) (by omega) (by omega) (by omega))
  · exact y
theorem k_codeFor {A : zIT} {K : zLT} {I : zIT} {L : zLT} {F : zFT} {E : zET} {dyn : zH} {J : zIT} {s d : Nat} {m w r B : Int} (h : zLgr A J s) (hV : zLV J s B) (hB : B ≤ 90000) (hw : zsd w) (hf : ∀ p : Nat, p < 80 → J 22 p = s → 0 ≤ J 25 p → p / 2 ≠ d) (hm : 0 ≤ m ∧ m ≤ J 17 s) (hd : d ≤ 40) (hz : zcm J s d m w r) : X1_codeFor (zM A K I L F E dyn) (some 8) (d : Int) m (if w = 108 then 1 else 0) = some (zc0 r) := by
  have hl := hV.2.2.2.1
  have hg := hV.2.2.2.2.1
  have hfr := zfr_in hl hm
  obtain ⟨h3, h4, h5, h6, hd5⟩ := h
  have h : zLgr A J s := ⟨h3, h4, h5, h6, hd5⟩
  unfold X1_codeFor
  rw [zg_8_3b, h3]
  rcases hz with ⟨z1, z2⟩ | ⟨z1, z2⟩ | ⟨z1, z2, a, b, num, za, zbb, zn, zr⟩
  · rw [if_pos z1, zo_8b, k_metresOn h4 h5 hl (by omega), zb, zo_8b, k_codeByMetres hfr (zLgr_given h hV) z2]
    rfl
  · rw [if_neg (by omega), zg_8_3b, h3, if_pos z1, zg_8_6b, h6, zckb (by omega) (by omega), zckb (by omega) (by omega), z2]
    unfold zc0
    rw [if_neg (by omega)]
    congr 1
    omega
  · rw [if_neg z1, zg_8_3b, h3, if_neg z2, zo_8b, k_keyOf h4 h5 hl (by omega) hd, zb, zo_8b]
    have c0 : ∀ d, d < 40 → 0 ≤ A 11 d := fun d hd => zLgr_0 h hd
    have ck : ∀ d', d' < 40 → zaC A (if w = 108 then 1 else 0) d' → 0 ≤ A 9 d' ∧ A 9 d' < 64000 := by
      intro d' hd' hc
      obtain ⟨p, p1, p2, p3, p4, p5, p6⟩ := zaC_of h hV hw hd' hc
      have := zky_in hV p1 p3.1
      omega
    obtain ⟨nb, nearb, eb, hbf⟩ := k_numberBefore (A := A) (K := K) (I := I) (L := L) (F := F) (E := E) (dyn := dyn) (zfr J s m * 64 + d) (if w = 108 then 1 else 0) c0 (fun d hd hc => (ck d hd hc).1)
    obtain ⟨na, neara, ea, haf⟩ := k_numberAfter (A := A) (K := K) (I := I) (L := L) (F := F) (E := E) (dyn := dyn) (zfr J s m * 64 + d) (if w = 108 then 1 else 0) c0 (fun d hd hc => (ck d hd hc).2)
    obtain ⟨nb1, nb2, nb3, nb4⟩ := zbf_lo h hV hw hbf za
    have hf2 : ∀ p : Nat, p < 80 → zcd J s w p → zky J s p ≠ zfr J s m * 64 + d := by
      intro p hp hc hk
      have := hf p hp hc.1 hc.2.1
      unfold zky at hk
      omega
    obtain ⟨na1, na2, na3, na4⟩ := zaf_nx h hV hw hf2 haf zbb
    rw [← nb1] at zn
    unfold X1_codeBySteps
    rw [zo_8b, eb, zb, zo_8b, ea, zb, zo_8b, k_leastFree c0 (zLgr_num h hV) zn (by omega), zb]
    have zn1 := zn.1
    have hzb : b ≠ -1 → J 25 b.toNat / 10 = na := by
      intro y
      rw [na1]
      unfold zlw
      rw [if_neg y]
    have hza : a ≠ -1 → J 25 a.toNat / 10 = nb := by
      intro y
      rw [nb1]
      unfold zlw
      rw [if_neg y]
    rcases zr with ⟨r1, r2⟩ | ⟨r1, r2, r3⟩
    · have hc : na = 0 ∨ num < na := by
        by_cases y : b = -1
        · exact Or.inl (na2.2 y)
        · rcases r1 with r1 | r1
          · exact absurd r1 y
          · rw [hzb y] at r1
            exact Or.inr r1
      have hq := zfn_le hV (by split <;> omega) ⟨nb3, nb4⟩ zn
      rw [if_pos hc, if_neg (by omega), zckb (by omega) (by omega), zb]
      unfold zc0
      rw [if_neg (by omega), r2]
      congr 1
      omega
    · rw [hzb r1] at r2 r3
      rw [if_neg (show ¬ (na = 0 ∨ num < na) by omega), if_pos rfl]
      by_cases c : a = -1
      · rw [if_pos c] at r3
        rw [if_pos (nb2.2 c), zo_8b, k_codeWithLetter (by omega) (zLgr_given h hV) r3]
        rfl
      · rw [if_neg c, hza c] at r3
        rw [if_neg (fun y => c (nb2.1 y)), zo_8b, k_codeWithLetter (by omega) (zLgr_given h hV) r3]
        rfl
