-- ===== the class: door, corner =====
theorem k_isPlace {A : zIT} {K : zLT} {I : zIT} {L : zLT} {F : zFT} {E : zET} {dyn : zH} {t : Nat} {n l bk g gr wy m w : Int} {a b : Int64} (h : dyn[t]? = some (zStr n a b l wy bk g gr)) : zbl (X7_isPlace (zM A K I L F E dyn) (some (t + 39)) m w) ((0 ≤ m ∧ m ≤ l) ∧ zsd w) := by
  unfold X7_isPlace zsd
  by_cases c1 : m < 0
  · rw [if_pos c1]
    exact Or.inr ⟨rfl, fun y => by omega⟩
  · rw [if_neg c1, zgStr_3b h]
    by_cases c2 : l < m
    · rw [if_pos c2]
      exact Or.inr ⟨rfl, fun y => by omega⟩
    · rw [if_neg c2]
      by_cases c3 : w = 108
      · rw [if_pos c3]
        exact Or.inl ⟨rfl, by omega, Or.inl c3⟩
      · rw [if_neg c3]
        by_cases c4 : w = 114
        · rw [if_pos c4]
          exact Or.inl ⟨rfl, by omega, Or.inr c4⟩
        · rw [if_neg c4]
          exact Or.inr ⟨rfl, fun y => y.2.elim c3 c4⟩
theorem k_notice {A : zIT} {K : zLT} {I : zIT} {L : zLT} {F : zFT} {E : zET} {dyn : zH} {t : Nat} {n l bk g gr wy c : Int} {a b : Int64} (h : dyn[t]? = some (zStr n a b l wy bk g gr)) (hc : 0 ≤ c) : X6_notice (zM A K I L F E dyn) (some (t + 39)) c = some (zM A K I L F E (dyn.set t (zStr n a b l wy bk g (zmax gr (c / 10))))) := by
  unfold X6_notice
  rw [zgStr_7b h, zdvb hc (by omega), zpStr_7b h]
theorem zmax_e {a b : Int} : zmax a b = if b ≤ a then a else b := by
  unfold zmax
  repeat' split
  all_goals omega
theorem k_newPlace {A : zIT} {K : zLT} {I : zIT} {L : zLT} {F : zFT} {E : zET} {dyn : zH} {β : Type} {ff : zH → Option β} : (znew (zM A K I L F E dyn) 6 nf_X5).bind ff = ff (zM A K I L F E (dyn ++ [zPlc 0 none 0 0 0])) := rfl
theorem k_initPlace {A : zIT} {K : zLT} {I : zIT} {L : zLT} {F : zFT} {E : zET} {dyn : zH} {d m lf c : Int} {st : Option Nat} (hf : lf = 0 ∨ lf = 1) : X5_init (zM A K I L F E (dyn ++ [zPlc 0 none 0 0 0])) (some (dyn.length + 39)) d st m lf c = some (zM A K I L F E (dyn ++ [zPlc d st m lf c])) := by
  unfold X5_init
  rw [zb, zpPlc_0b zapp_l, zapp_s, zpPlc_1b zapp_l, zapp_s, zpPlc_2b zapp_l, zapp_s, zpPlc_3b zapp_l hf, zapp_s, zpPlc_4b zapp_l, zapp_s]
theorem k_newDoor {A : zIT} {K : zLT} {I : zIT} {L : zLT} {F : zFT} {E : zET} {dyn : zH} {β : Type} {ff : zH → Option β} : (znew (zM A K I L F E dyn) 2 nf_X0).bind ff = ff (zM A K I L F E (dyn ++ [zDor 0 none none 0 none])) := rfl
theorem k_initDoor {A : zIT} {K : zLT} {I : zIT} {L : zLT} {F : zFT} {E : zET} {dyn : zH} {d : Int} {f : Option Nat} : X0_init (zM A K I L F E (dyn ++ [zDor 0 none none 0 none])) (some (dyn.length + 39)) d f = some (zM A K I L F E (dyn ++ [zDor d f none 0 none])) := by
  unfold X0_init
  rw [zb, zpDor_0b zapp_l, zapp_s, zpDor_1b zapp_l, zapp_s, zpDor_2b zapp_l, zapp_s, zpDor_3b zapp_l (Or.inl rfl), zapp_s, zpDor_4b zapp_l, zapp_s]
def zar (A : zIT) (K : zLT) (I : zIT) (L : zLT) (F : zFT) (E : zET) (dyn : zH) (d : Int) (st : Option Nat) (m w r : Int) : Option Nat × zH := if r = -1 then (none, zM A K I L F E dyn) else (some (dyn.length + 39), zM A K I L F E (dyn ++ [zPlc d st m (if w = 108 then 1 else 0) r]))
theorem k_arrival {A : zIT} {K : zLT} {I : zIT} {L : zLT} {F : zFT} {E : zET} {dyn : zH} {rs rd : Nat → Nat} {fp : Nat → Option Nat} {B m w r : Int} {rk : Nat → Nat} {s d : Nat} (hV : zVA I L B rk) (hB : B ≤ 90000) (hS : zRS I L F dyn rs) (hD : zRD I F dyn rd fp) (hP : zRP I dyn rs fp) (hs : (s : Int) < I 14 7) (hw : zsd w) (hm : 0 ≤ m ∧ m ≤ I 17 s) (hd : d ≤ 40) (hf : ∀ p : Nat, p < 80 → I 22 p = s → p / 2 ≠ d) (hz : zcm I s d m w r) :
    ∃ A', X7_arrival (zM A K I L F E dyn) (some 0) (d : Int) (some (rs s + 39)) m w = some (zar A' K I L F E dyn d (some (rs s + 39)) m w r) ∧ (∀ c, c ≠ 8 → c ≠ 9 → c ≠ 10 → c ≠ 11 → A' c = A c) := by
  have hLV := zVA_LV hV hs
  obtain ⟨A', e, hL, hfr⟩ := k_openLedger (A := A) (K := K) (E := E) (len := I 17 s) hV hS hD hP hs (by have := hLV.2.2.2.1; omega)
  rw [zu_id] at hL
  have hr := (zcm_in hLV hm hz).1
  refine ⟨A', ?_, hfr⟩
  have j21 : X7_arrival_j21 (some 0) (d : Int) (some (rs s + 39)) m (zM A' K I L F E dyn) (if w = 108 then 1 else 0) = some (zar A' K I L F E dyn d (some (rs s + 39)) m w r) := by
    unfold X7_arrival_j21 zar
    rw [zg_0_3b, zo_8b, k_codeFor hL hLV hB hw (fun p hp h1 _ => hf p hp h1) hm hd hz, zb]
    unfold zc0
    by_cases c : r = -1
    · rw [if_pos c, if_pos rfl, if_pos c]
    · rw [if_neg c, if_neg (by omega), k_newPlace, zM_len, zoPlcb zapp_l, k_initPlace (by split <;> omega), zb, if_neg c]
  unfold X7_arrival
  rw [zgStr_3b (hS.1 s hs).2, zo_0b, e, zb, ← j21]
  by_cases c : w = 108
  · rw [if_pos c, if_pos c]
  · rw [if_neg c, if_neg c]
theorem k_door_1 {A : zIT} {K : zLT} {I : zIT} {L : zLT} {F : zFT} {E : zET} {dyn : zH} {rs : Nat → Nat} {s m w : Int} (hb : zB I) (hS : zRS I L F dyn rs) (h : ¬ zst I s) : X7_door (zM A K I L F E dyn) (some 0) s m w = some (.inr 3, (zM A K I L F E dyn)) := by
  unfold X7_door
  rw [zo_0b]
  rcases k_standing (A := A) (K := K) (E := E) hb hS s with ⟨_, hx⟩ | ⟨e, _⟩
  · exact absurd hx h
  · rw [e, zb]
theorem k_door_2 {A : zIT} {K : zLT} {I : zIT} {L : zLT} {F : zFT} {E : zET} {dyn : zH} {rs : Nat → Nat} {s m w : Int} (hb : zB I) (hS : zRS I L F dyn rs) (h : zst I s) (h2 : ¬ ((0 ≤ m ∧ m ≤ I 17 s.toNat) ∧ zsd w)) : X7_door (zM A K I L F E dyn) (some 0) s m w = some (.inr 0, (zM A K I L F E dyn)) := by
  have h' := h
  unfold zst at h'
  unfold X7_door
  rw [zo_0b]
  rcases k_standing (A := A) (K := K) (E := E) hb hS s with ⟨e, _⟩ | ⟨_, hx⟩
  · rw [e, zb]
    simp only
    rw [zbl_0 (k_isPlace (hS.1 s.toNat (by omega)).2) h2, zb, if_pos rfl]
  · exact absurd h hx
theorem k_door_a {A : zIT} {K : zLT} {I : zIT} {L : zLT} {F : zFT} {E : zET} {dyn : zH} {rs rd : Nat → Nat} {fp : Nat → Option Nat} {B m w r : Int} {rk : Nat → Nat} {s : Nat} (hV : zVA I L B rk) (hB : B ≤ 90000) (hS : zRS I L F dyn rs) (hD : zRD I F dyn rd fp) (hP : zRP I dyn rs fp) (hA6 : A 0 6 = I 14 14) (h : zst I s) (h2 : (0 ≤ m ∧ m ≤ I 17 s) ∧ zsd w) (hz : zcm I s (I 14 14).toNat m w r) :
    ∃ A', (∀ c, c ≠ 8 → c ≠ 9 → c ≠ 10 → c ≠ 11 → A' c = A c) ∧
    X7_door (zM A K I L F E dyn) (some 0) (s : Int) m w = if r = -1 then some (.inr 2, zM A' K I L F E dyn) else if 40 ≤ I 14 14 then some (.inr 1, zM A' K I L F E (dyn ++ [zPlc (I 14 14) (some (rs s + 39)) m (if w = 108 then 1 else 0) r])) else
      some (.inl (I 14 14), zM (zu A' 0 6 (I 14 14 + 1)) K I L (zu F 2 (I 14 14).toNat (some (dyn.length + 1 + 39))) E ((dyn ++ [zPlc (I 14 14) (some (rs s + 39)) m (if w = 108 then 1 else 0) r] ++ [zDor (I 14 14) (some (dyn.length + 39)) none 0 none]).set (rs s) (zStr s (c5 (L 15 s)) (c5 (L 16 s)) (I 17 s) (I 18 s) (I 19 s) (I 20 s) (zmax (I 21 s) (r / 10))))) := by
  have hb := zVA_B hV
  have hb' := hb
  unfold zB at hb'
  have hs : (s : Int) < I 14 7 := h.2.1
  have hLV := zVA_LV hV hs
  have ed : (((I 14 14).toNat : Nat) : Int) = I 14 14 := by omega
  obtain ⟨A', e, hfr⟩ := k_arrival (A := A) (K := K) (E := E) hV hB hS hD hP hs h2.2 h2.1 (show (I 14 14).toNat ≤ 40 by omega) (fun p hp h1 h3 => by
    have := zVA_5 hV p (by omega)
    omega) hz
  rw [ed] at e
  have hr := (zcm_in hLV h2.1 hz).1
  refine ⟨A', hfr, ?_⟩
  unfold X7_door
  rw [zo_0b]
  rcases k_standing (A := A) (K := K) (E := E) hb hS s with ⟨e1, _⟩ | ⟨_, hx⟩
  · rw [e1, zb]
    simp only
    rw [Int.toNat_natCast, zbl_1 (k_isPlace (hS.1 s hs).2) h2, zb, if_neg (by omega), zg_0_6b, hA6, zo_0b, e, zb]
    unfold zar
    by_cases c : r = -1
    · rw [if_pos c, if_pos c, if_pos rfl]
    · rw [if_neg c, if_neg c, if_neg (fun y => by cases y), if_neg (by omega)]
      simp only
      rw [zg_0_1b, zl_2b]
      by_cases c2 : 40 ≤ I 14 14
      · rw [if_pos c2, if_neg (by omega)]
      · rw [if_neg c2, if_pos (by omega), zg_0_1b, k_newDoor, zM_len, zoDorb zapp_l, k_initDoor, zb, zs_2b (by omega) (by omega) (zoDor zapp_l), zckb (by omega) (by omega), zp_0_6b, zgPlc_4b (zapp_o zapp_l), zoStrb (zapp_o (zapp_o (hS.1 s hs).2)), k_notice (zapp_o (zapp_o (hS.1 s hs).2)) (by omega), zb]
        simp only [List.length_append, List.length_singleton]
  · exact absurd h hx
