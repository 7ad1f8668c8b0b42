-- ===== entering, opening =====
theorem zcm_in {J : zIT} {s d : Nat} {m w r B : Int} (hV : zLV J s B) (hm : 0 ≤ m ∧ m ≤ J 17 s) (hz : zcm J s d m w r) : (r = -1 ∨ 10 ≤ r) ∧ (r / 10 ≤ J 21 s + 2 ∨ r / 10 ≤ 200) := by
  have hfr := zfr_in hV.2.2.2.1 hm
  have hg := hV.2.2.2.2.1
  have lt : ∀ {G : Int → Prop} {n least r : Int}, 1 ≤ n → 0 ≤ least → zltr G n least r → (r = -1 ∨ 10 ≤ r) ∧ r / 10 ≤ n := by
    rintro G n least r h0 h1 (⟨k, a1, a2, _, _, a3⟩ | ⟨a3, _⟩)
    · omega
    · omega
  rcases hz with ⟨z1, z2⟩ | ⟨z1, z2⟩ | ⟨z1, z2, a, b, num, za, zbb, zn, zr⟩
  · have := lt (by split <;> omega) (by omega) z2
    refine ⟨this.1, Or.inr ?_⟩
    have := this.2
    split at this <;> omega
  · omega
  · have al : ∀ x : Int, x ≠ -1 → (∃ q : Nat, x = q ∧ q < (2 * J 14 14).toNat ∧ zcd J s w q) → 1 ≤ J 25 x.toNat / 10 ∧ J 25 x.toNat / 10 ≤ J 21 s := by
      rintro x hx ⟨q, rfl, h2, h3⟩
      rw [Int.toNat_natCast]
      have := hV.2.2.2.2.2 q (zLV_80 hV h2) h3.1
      have := h3.2.1
      omega
    have ax : a ≠ -1 → 1 ≤ J 25 a.toNat / 10 ∧ J 25 a.toNat / 10 ≤ J 21 s := by
      intro hx
      rcases za with ⟨h1, _⟩ | ⟨q, h1, h2, h3, _⟩
      · exact absurd h1 hx
      · exact al a hx ⟨q, h1, h2, h3⟩
    have bx : b ≠ -1 → 1 ≤ J 25 b.toNat / 10 ∧ J 25 b.toNat / 10 ≤ J 21 s := by
      intro hx
      rcases zbb with ⟨h1, _⟩ | ⟨q, h1, h2, h3, _⟩
      · exact absurd h1 hx
      · exact al b hx ⟨q, h1, h2, h3⟩
    have hlw : 0 ≤ zlw J a ∧ zlw J a ≤ J 21 s := by
      unfold zlw
      by_cases c : a = -1
      · rw [if_pos c]
        omega
      · rw [if_neg c]
        have := ax c
        omega
    have hq := zfn_le hV (by split <;> omega) hlw zn
    have zn1 := zn.1
    rcases zr with ⟨r1, r2⟩ | ⟨r1, r2, r3⟩
    · omega
    · have := bx r1
      by_cases c : a = -1
      · rw [if_pos c] at r3
        have := lt (by omega) (by omega) r3
        omega
      · rw [if_neg c] at r3
        have := ax c
        have := lt (by omega) (by omega) r3
        omega
theorem zputs_22 {J : zIT} {p s q : Nat} {m w a : Int} : zputs J p s m w a 22 q = if q = p then (s : Int) else J 22 q := by
  unfold zputs
  simp (disch := omega) only [zu_c, zu_j]
theorem zputs_23 {J : zIT} {p s q : Nat} {m w a : Int} : zputs J p s m w a 23 q = if q = p then m else J 23 q := by
  unfold zputs
  simp (disch := omega) only [zu_c, zu_j]
theorem zputs_24 {J : zIT} {p s q : Nat} {m w a : Int} : zputs J p s m w a 24 q = if q = p then w else J 24 q := by
  unfold zputs
  simp (disch := omega) only [zu_c, zu_j]
theorem zputs_25 {J : zIT} {p s q : Nat} {m w a : Int} : zputs J p s m w a 25 q = if q = p then a else J 25 q := by
  unfold zputs
  simp (disch := omega) only [zu_c, zu_j]
theorem zputs_21 {J : zIT} {p s q : Nat} {m w a : Int} : zputs J p s m w a 21 q = if q = s then (if a / 10 ≤ J 21 s then J 21 s else a / 10) else J 21 q := by
  unfold zputs
  simp (disch := omega) only [zu_c, zu_j]
theorem zputs_c {J : zIT} {p s c : Nat} {m w a : Int} (h : c < 21 ∨ 25 < c) : zputs J p s m w a c = J c := by
  unfold zputs
  simp (disch := omega) only [zu_c]
theorem zfr_puts {J : zIT} {p s t : Nat} {m w a x : Int} : zfr (zputs J p s m w a) t x = zfr J t x := by
  unfold zfr
  rw [zputs_c (by omega), zputs_c (by omega)]
theorem zky_puts {J : zIT} {p s t q : Nat} {m w a : Int} (h : q ≠ p) : zky (zputs J p s m w a) t q = zky J t q := by
  unfold zky
  rw [zfr_puts, zputs_23, if_neg h]
def zLE (A : zIT) (d : Nat) (key lf a : Int) : zIT := zu (zu (zu (zu A 9 d key) 10 d lf) 11 d a) 8 6 (zmax (A 8 6) (a / 10))
theorem zLE_c {A : zIT} {d c : Nat} {key lf a : Int} (h : c < 8 ∨ 11 < c) : zLE A d key lf a c = A c := by
  unfold zLE
  simp (disch := omega) only [zu_c]
theorem k_isRow1 {hp : zH} {d : Nat} (hd : d < 40) : X1_isRow hp (d : Int) = some 1 := by
  unfold X1_isRow
  rw [if_neg (by omega), if_neg (by omega)]
theorem k_enter {A : zIT} {K : zLT} {I : zIT} {L : zLT} {F : zFT} {E : zET} {dyn : zH} {J : zIT} {s d : Nat} {m lf a : Int} (h4 : A 8 4 = J 19 s) (h5 : A 8 5 = J 17 s) (hl : 0 ≤ J 17 s ∧ J 17 s ≤ 999) (hm : 0 ≤ m ∧ m ≤ 999) (hd : d < 40) (hf : lf = 0 ∨ lf = 1) (ha : 0 ≤ a) : X1_enter (zM A K I L F E dyn) (some 8) (d : Int) m lf a = some (zM (zLE A d (zfr J s m * 64 + d) lf a) K I L F E dyn) := by
  unfold X1_enter
  rw [k_isRow1 hd, zb, if_neg (by omega), zg_8_0b, zo_8b, k_keyOf h4 h5 hl hm (by omega), zb, zs_9b (by omega) (by omega), zg_8_1b, zs_10b (by omega) (by omega) hf, zg_8_2b, zs_11b (by omega) (by omega), zg_8_6b, zdvb ha (by omega), zp_8_6b, Int.toNat_natCast]
  unfold zLE
  simp (disch := omega) only [zu_c]
theorem zLgr_put {A J : zIT} {s d p : Nat} {m w a : Int} (h : zLgr A J s) (hp : p / 2 = d) (hd : d < 40) (hu : ∀ q : Nat, q / 2 = d → q ≠ p → J 22 q ≠ s) (ha : 10 ≤ a) : zLgr (zLE A d (zfr J s m * 64 + d) (if w = 108 then 1 else 0) a) (zputs J p s m w a) s := by
  obtain ⟨h3, h4, h5, h6, hd5⟩ := h
  have e8 : ∀ j, j ≠ 6 → zLE A d (zfr J s m * 64 + d) (if w = 108 then 1 else 0) a 8 j = A 8 j := fun j hj => by
    unfold zLE
    simp (disch := omega) only [zu_c, zu_j]
    rw [if_neg hj]
  have e9 : ∀ j, zLE A d (zfr J s m * 64 + d) (if w = 108 then 1 else 0) a 9 j = if j = d then zfr J s m * 64 + d else A 9 j := fun j => by
    unfold zLE
    simp (disch := omega) only [zu_c, zu_j]
  have e10 : ∀ j, zLE A d (zfr J s m * 64 + d) (if w = 108 then 1 else 0) a 10 j = if j = d then (if w = 108 then 1 else 0) else A 10 j := fun j => by
    unfold zLE
    simp (disch := omega) only [zu_c, zu_j]
  have e11 : ∀ j, zLE A d (zfr J s m * 64 + d) (if w = 108 then 1 else 0) a 11 j = if j = d then a else A 11 j := fun j => by
    unfold zLE
    simp (disch := omega) only [zu_c, zu_j]
  refine ⟨?_, ?_, ?_, ?_, fun d' hd' => ?_⟩
  · rw [e8 _ (by omega), zputs_c (by omega), h3]
  · rw [e8 _ (by omega), zputs_c (by omega), h4]
  · rw [e8 _ (by omega), zputs_c (by omega), h5]
  · rw [zputs_21, if_pos rfl]
    show zu _ 8 6 _ 8 6 = _
    rw [zu_eq, h6]
    unfold zmax
    repeat' split
    all_goals omega
  · unfold zLgrd
    rw [e9, e10, e11]
    by_cases c : d' = d
    · rw [if_pos c, if_pos c, if_pos c]
      refine Or.inr ⟨p, by omega, ?_⟩
      rw [zputs_22, zputs_25, zputs_24, if_pos rfl, if_pos rfl, if_pos rfl]
      refine ⟨rfl, ha, rfl, ?_, rfl⟩
      unfold zky
      rw [zfr_puts, zputs_23, if_pos rfl, hp]
    · rw [if_neg c, if_neg c, if_neg c]
      rcases hd5 d' hd' with ⟨g1, g2⟩ | ⟨q, g1, g2, g3, g4, g5, g6⟩
      · refine Or.inl ⟨g1, fun q hq hs => ?_⟩
        have hne : q ≠ p := fun y => c (by rw [← hq, y, hp])
        rw [zputs_22, if_neg hne] at hs
        rw [zputs_25, if_neg hne]
        exact g2 q hq hs
      · have hne : q ≠ p := fun y => c (by rw [← g1, y, hp])
        refine Or.inr ⟨q, g1, ?_⟩
        rw [zputs_22, zputs_25, zputs_24, zky_puts hne, if_neg hne, if_neg hne, if_neg hne]
        exact ⟨g2, g3, g4, g5, g6⟩
def zfl (k : Nat) (A : zIT) : zIT := fun c j => if c = 11 ∧ j < k then 0 else A c j
theorem zfl_c {k c : Nat} {A : zIT} (h : c ≠ 11) : zfl k A c = A c := by
  funext j
  exact if_neg (fun y => h y.1)
theorem zfl_s {A : zIT} {i : Nat} : zu (zfl i A) 11 i 0 = zfl (i + 1) A := by
  funext c j
  unfold zu zfl
  by_cases h1 : c = 11 ∧ j = i
  · rw [if_pos h1, if_pos ⟨h1.1, by omega⟩]
  · rw [if_neg h1]
    by_cases h2 : c = 11 ∧ j < i
    · rw [if_pos h2, if_pos ⟨h2.1, by omega⟩]
    · rw [if_neg h2, if_neg (fun y => h2 ⟨y.1, by omega⟩)]
theorem k_fill {A : zIT} {K : zLT} {I : zIT} {L : zLT} {F : zFT} {E : zET} {dyn : zH} : J7_fill_53178 (zM A K I L F E dyn) (some 11) 0 = some (zM (zfl 40 A) K I L F E dyn) := by
  have h0 : zfl 0 A = A := by
    funext c j
    exact if_neg (fun y => absurd y.2 (by omega))
  have h : zloop (J7_fill_53178_b5 (some 11) 0 40) zN (0, (zM A K I L F E dyn)) = some (zM (zfl 40 A) K I L F E dyn) := by
    have := zloop_0 (body := J7_fill_53178_b5 (some 11) 0 40) (fun i => ((i : Int), zM (zfl i A) K I L F E dyn)) (e := zM (zfl 40 A) K I L F E dyn) 40 (fun i hi => by
      unfold J7_fill_53178_b5
      simp only
      rw [if_neg (by omega), zs_11b (by omega) (by omega), zckb (by omega) (by omega), Int.toNat_natCast, zfl_s]
      rfl) rfl (by omega)
    simp only [h0] at this
    exact this
  unfold J7_fill_53178
  rw [zl_11b, h]
  rfl
theorem k_open {A : zIT} {K : zLT} {I : zIT} {L : zLT} {F : zFT} {E : zET} {dyn : zH} {t : Nat} {n l w bk g gr len gre : Int} {a b : Int64} (h : dyn[t]? = some (zStr n a b l w bk g gr)) (hw : 0 ≤ w ∧ w ≤ 65535) (hbk : bk = 0 ∨ bk = 1) : ∃ A', X1_open (zM A K I L F E dyn) (some 8) (some (t + 39)) len gre = some (zM A' K I L F E dyn) ∧ A' 8 3 = w ∧ A' 8 4 = bk ∧ A' 8 5 = len ∧ A' 8 6 = gre ∧ (∀ d, d < 40 → A' 11 d = 0) ∧ (∀ c, c ≠ 8 → c ≠ 9 → c ≠ 10 → c ≠ 11 → A' c = A c) := by
  unfold X1_open
  rw [zg_8_2b, k_fill, zb, zgStr_4b h, zp_8_3b hw, zgStr_5b h, zp_8_4b hbk, zp_8_5b, zp_8_6b]
  refine ⟨_, rfl, rfl, rfl, rfl, rfl, fun d hd => ?_, fun c h1 h2 h3 h4 => ?_⟩
  · simp (disch := omega) only [zu_c]
    exact if_pos ⟨rfl, hd⟩
  · simp (disch := omega) only [zu_c]
    exact zfl_c h4
