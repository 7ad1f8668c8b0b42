-- ===== street of the class; the log's rows stay good =====
theorem k_newStreet {A : zIT} {K : zLT} {I : zIT} {L : zLT} {F : zFT} {E : zET} {dyn : zH} {β : Type} {ff : zH → Option β} : (znew (zM A K I L F E dyn) 7 nf_X6).bind ff = ff (zM A K I L F E (dyn ++ [zStr 0 0 0 0 0 0 0 0])) := rfl
theorem k_initStreet {A : zIT} {K : zLT} {I : zIT} {L : zLT} {F : zFT} {E : zET} {dyn : zH} {n l w bk : Int} {a : Int64} (hw : 0 ≤ w ∧ w ≤ 65535) (hbk : bk = 0 ∨ bk = 1) : X6_init (zM A K I L F E (dyn ++ [zStr 0 0 0 0 0 0 0 0])) (some (dyn.length + 39)) n a l w bk = some (zM A K I L F E (dyn ++ [zStr n a 0 l w bk 0 0])) := by
  unfold X6_init
  rw [zb, zpStr_0b zapp_l, zapp_s, zpStr_1b zapp_l, zapp_s, zpStr_2b zapp_l, zapp_s, zpStr_3b zapp_l, zapp_s, zpStr_4b zapp_l hw, zapp_s, zpStr_5b zapp_l hbk, zapp_s, zpStr_6b zapp_l (Or.inl rfl), zapp_s, zpStr_7b zapp_l, zapp_s]
theorem k_street_1 {A : zIT} {K : zLT} {I : zIT} {L : zLT} {F : zFT} {E : zET} {dyn : zH} {l w bk : Int} (h : ¬ (zwy w ∧ 10 ≤ l ∧ l ≤ 999)) : X7_street (zM A K I L F E dyn) (some 0) l w bk = some (.inr 0, (zM A K I L F E dyn)) := by
  unfold X7_street
  rcases k_isWay (hp := (zM A K I L F E dyn)) w with ⟨e, hw⟩ | ⟨e, hw⟩
  · rw [e, zb, if_neg (by omega)]
    by_cases c : l < 10
    · rw [if_pos c]
    · rw [if_neg c, if_neg (fun y => h ⟨hw, by omega, y⟩)]
  · rw [e, zb, if_pos rfl]
theorem k_street_s {A : zIT} {K : zLT} {I : zIT} {L : zLT} {F : zFT} {E : zET} {dyn : zH} {rs : Nat → Nat} {B l w bk : Int} (hb : zB I) (hS : zRS I L F dyn rs) (h1 : zV1 I L B) (h7 : K 0 7 = c5 (L 14 26)) (ht : zVt I L) (h5 : A 0 5 = I 14 7) (h : zwy w ∧ 10 ≤ l ∧ l ≤ 999) (hbk : bk = 0 ∨ bk = 1) :
    (¬ (0 < I 14 27 ∧ ¬ zus I L (L 14 26) (I 14 7).toNat) → X7_street (zM A K I L F E dyn) (some 0) l w bk = some (.inr 2, (zM A K I L F E dyn))) ∧
    ((0 < I 14 27 ∧ ¬ zus I L (L 14 26) (I 14 7).toNat) → X7_street (zM A K I L F E dyn) (some 0) l w bk = if 12 ≤ I 14 7 then some (.inr 1, (zM A K I L F E dyn)) else
      some (.inl (I 14 7), zM (zu A 0 5 (I 14 7 + 1)) (zu K 0 7 0) I L (zu F 1 (I 14 7).toNat (some (dyn.length + 39))) E (dyn ++ [zStr (I 14 7) (c5 (L 14 26)) 0 l w bk 0 0]))) := by
  have hb' := hb
  unfold zB at hb'
  have h0 := zVt_0 ht
  have hN : ∀ s : Nat, (s : Int) < I 14 7 → zvn (L 15 s) ∧ zvn (L 16 s) := fun s hs => ⟨(h1 s hs).1, (h1 s hs).2.1⟩
  have hc : (zcmp (K 0 7) 0) = 0 ↔ L 14 26 = 0 := by
    rw [zcmp_0, h7]
    exact c5_ne ht.1
  unfold X7_street
  rw [zbl_1 (k_isWay w) h.1, zb, if_neg (by omega), if_neg (by omega), if_pos h.2.2, zg_0_7b]
  constructor
  · intro hn
    by_cases c : L 14 26 = 0
    · rw [if_pos (hc.2 c)]
    · rw [if_neg (fun y => c (hc.1 y)), zg_0_7b, h7, zo_0b]
      have hu : zus I L (L 14 26) (I 14 7).toNat := by
        by_cases y : zus I L (L 14 26) (I 14 7).toNat
        · exact y
        · exact absurd ⟨h0.2 c, y⟩ hn
      rw [zbl_1 (k_isInUse hb hS hN ht.1) hu, zb, if_neg (by omega)]
  · rintro ⟨c1, c2⟩
    have c := h0.1 c1
    rw [if_neg (fun y => c (hc.1 y)), zg_0_7b, h7, zo_0b, zbl_0 (k_isInUse hb hS hN ht.1) c2, zb, if_pos rfl, zg_0_5b, h5, if_neg (by omega), zg_0_0b, zl_1b]
    by_cases c3 : 12 ≤ I 14 7
    · rw [if_neg (by omega), if_pos c3]
    · rw [if_pos (by omega), if_neg c3, zg_0_0b, k_newStreet, zg_0_7b, h7, zM_len, zoStrb zapp_l, k_initStreet (zvwy h.1) hbk, zb, zs_1b (by omega) (by omega) (zoStr zapp_l), zckb (by omega) (by omega), zp_0_5b, zp_0_7b]
theorem zxsI_c {I : zIT} {l w bk : Int} {c : Nat} (h : c ≠ 14) (h2 : c ≠ 17) (h3 : c ≠ 18) (h4 : c ≠ 19) : zxsI I l w bk c = I c := by
  unfold zxsI
  rw [zu_c h, zu_c h, zu_c h4, zu_c h3, zu_c h2, zu_c h]
theorem zxsI_17 {I : zIT} {l w bk : Int} {t : Nat} : zxsI I l w bk 17 t = if t = (I 14 7).toNat then l else I 17 t := by
  unfold zxsI
  rw [zu_c (by omega), zu_c (by omega), zu_c (by omega), zu_c (by omega), zu_j, zu_c (by omega)]
theorem zxsI_18 {I : zIT} {l w bk : Int} {t : Nat} : zxsI I l w bk 18 t = if t = (I 14 7).toNat then w else I 18 t := by
  unfold zxsI
  rw [zu_c (by omega), zu_c (by omega), zu_c (by omega), zu_j, zu_c (by omega), zu_c (by omega)]
theorem zxsI_19 {I : zIT} {l w bk : Int} {t : Nat} : zxsI I l w bk 19 t = if t = (I 14 7).toNat then bk else I 19 t := by
  unfold zxsI
  rw [zu_c (by omega), zu_c (by omega), zu_j, zu_c (by omega), zu_c (by omega), zu_c (by omega)]
theorem zxsI_14 {I : zIT} {l w bk : Int} {j : Nat} (h1 : j ≠ 7) (h2 : j ≠ 27) (h3 : j ≠ 29) : zxsI I l w bk 14 j = I 14 j := by
  unfold zxsI
  rw [zu_j, if_neg h2, zu_j, if_neg h1, zu_c (by omega), zu_c (by omega), zu_c (by omega), zu_j, if_neg h3]
theorem zxsI_7 {I : zIT} {l w bk : Int} : zxsI I l w bk 14 7 = I 14 7 + 1 := rfl
theorem k_street_R {A : zIT} {K : zLT} {I : zIT} {L : zLT} {F : zFT} {dyn : zH} {rs rd : Nat → Nat} {fp : Nat → Option Nat} {B : Int} {rk : Nat → Nat} {l w bk : Int} (hV : zVA I L B rk) (hR : zRL A K I L F dyn rs rd fp) :
    zRL (zu A 0 5 (I 14 7 + 1)) (zu K 0 7 0) (zxsI I l w bk) (zxsL I L) (zu F 1 (I 14 7).toNat (some (dyn.length + 39))) (dyn ++ [zStr (I 14 7) (c5 (L 14 26)) 0 l w bk 0 0]) (zup rs (I 14 7).toNat dyn.length) rd fp := by
  have hb := zVA_B hV
  unfold zB at hb
  obtain ⟨hS, hD, hP, hO, hK7, h8, h5, h6⟩ := hR
  have l15 : ∀ t, zxsL I L 15 t = if t = (I 14 7).toNat then L 14 26 else L 15 t := fun t => by
    unfold zxsL
    rw [zu_c (by omega), zu_j]
  have l16 : zxsL I L 16 = L 16 := by
    unfold zxsL
    rw [zu_c (by omega), zu_c (by omega)]
  refine ⟨⟨fun s hs => ?_, fun s hs => ?_⟩, ?_, fun p hp => ?_, ?_, ?_, ?_, ?_, ?_⟩
  · rw [zxsI_7] at hs
    rw [zu_j, zxsI_17, zxsI_18, zxsI_19, zxsI_c (by omega) (by omega) (by omega) (by omega), zxsI_c (by omega) (by omega) (by omega) (by omega), l15, l16]
    by_cases c : s = (I 14 7).toNat
    · obtain ⟨g1, g2, g3⟩ := zVA_2 hV s (by omega)
      rw [if_pos c, if_pos c, if_pos c, if_pos c, if_pos c, zup_y c, g1, g2, g3, c5_0]
      refine ⟨rfl, ?_⟩
      rw [zapp_l, show ((s : Int)) = I 14 7 by omega]
    · rw [if_neg c, if_neg c, if_neg c, if_neg c, if_neg c, zup_n c]
      exact ⟨(hS.1 s (by omega)).1, zapp_o (hS.1 s (by omega)).2⟩
  · rw [zxsI_7] at hs
    rw [zu_j, if_neg (by omega)]
    exact hS.2 s (by omega)
  · exact zRD_cg (zRD_app hD) (zxsI_14 (by omega) (by omega) (by omega)) (zxsI_c (by omega) (by omega) (by omega) (by omega)) (zxsI_c (by omega) (by omega) (by omega) (by omega)) (zu_c (by omega))
  · rw [zxsI_7, zxsI_c (by omega) (by omega) (by omega) (by omega), zxsI_c (by omega) (by omega) (by omega) (by omega), zxsI_c (by omega) (by omega) (by omega) (by omega), zxsI_c (by omega) (by omega) (by omega) (by omega)]
    rcases hP p hp with g | ⟨g1, g2, r1, g3, g4⟩
    · exact Or.inl g
    · exact Or.inr ⟨g1, by omega, r1, g3, by rw [zup_n (by omega)]; exact zapp_o g4⟩
  · exact zRO_cg hO (zu_c (by omega)) (zu_c (by omega)) (zu_c (by omega)) (zu_c (by omega)) (zu_c (by omega)) (zxsI_14 (by omega) (by omega) (by omega)) (by unfold zxsL; rw [zu_c (by omega), zu_c (by omega)]) (fun c c1 c2 => zxsI_c (by omega) (by omega) (by omega) (by omega))
  · unfold zxsL
    rw [zu_eq, zu_eq]
    rfl
  · rw [zxsI_14 (by omega) (by omega) (by omega)]
    exact h8
  · rw [zxsI_7]
    exact zu_eq
  · rw [zxsI_14 (by omega) (by omega) (by omega)]
    exact h6
theorem w_street {I : zIT} {L : zLT} {B : Int} {rk : Nat → Nat} {l w bk : Int} (hV : zVA I L B rk) (hB : 0 ≤ B) (h : zwy w ∧ 10 ≤ l ∧ l ≤ 999) (hbk : bk = 0 ∨ bk = 1) (h2 : 0 < I 14 27 ∧ ¬ zus I L (L 14 26) (I 14 7).toNat) (h3 : ¬ 12 ≤ I 14 7) : zVA (zxsI I l w bk) (zxsL I L) B rk := by
  have hb := zVA_B hV
  unfold zB at hb
  have ht0 := (zVt_0 (zVA_t hV)).1 h2.1
  have hu : ∀ k : Nat, (k : Int) < I 14 7 → I 20 k = 0 → L 15 k ≠ L 14 26 ∧ L 16 k ≠ L 14 26 := fun k hk h20 =>
    ⟨fun y => h2.2 ⟨k, by omega, h20, ht0, Or.inl y⟩, fun y => h2.2 ⟨k, by omega, h20, ht0, Or.inr y⟩⟩
  have l15 : ∀ t, zxsL I L 15 t = if t = (I 14 7).toNat then L 14 26 else L 15 t := fun t => by
    unfold zxsL
    rw [zu_c (by omega), zu_j]
  have l16 : zxsL I L 16 = L 16 := by
    unfold zxsL
    rw [zu_c (by omega), zu_c (by omega)]
  have l28 : zxsL I L 28 = L 28 := by
    unfold zxsL
    rw [zu_c (by omega), zu_c (by omega)]
  have ec : ∀ c, c ≠ 14 → c ≠ 17 → c ≠ 18 → c ≠ 19 → zxsI I l w bk c = I c := fun c c1 c2 c3 c4 => zxsI_c c1 c2 c3 c4
  obtain ⟨v0, v1, v2, v3, v4, v5, v6, v7, v8, va, v9, vt, vw⟩ := hV
  refine ⟨?_, fun s hs => ?_, fun s hs => ?_, fun s t hs ht hne h20 h20t => ?_, fun p hp hn => ?_, ?_, ?_, ?_, ?_, ?_, ?_, zVt_w rfl rfl, ?_⟩
  · unfold zB
    rw [zxsI_7, zxsI_14 (by omega) (by omega) (by omega), zxsI_14 (by omega) (by omega) (by omega)]
    omega
  · rw [zxsI_7] at hs
    unfold zvStr
    rw [zxsI_17, zxsI_18, zxsI_19, ec 20 (by omega) (by omega) (by omega) (by omega), ec 21 (by omega) (by omega) (by omega) (by omega), l15, l16]
    by_cases c : s = (I 14 7).toNat
    · obtain ⟨g1, g2, g3⟩ := v2 s (by omega)
      rw [if_pos c, if_pos c, if_pos c, if_pos c, g1, g2, g3]
      exact ⟨vt.1, zvn_0, ht0, ht0, ⟨h.2.1, h.2.2⟩, h.1, hbk, Or.inl rfl, by omega, hB⟩
    · rw [if_neg c, if_neg c, if_neg c, if_neg c]
      exact v1 s (by omega)
  · rw [zxsI_7] at hs
    rw [ec 20 (by omega) (by omega) (by omega) (by omega), ec 21 (by omega) (by omega) (by omega) (by omega), l16]
    exact v2 s (by omega)
  · rw [zxsI_7] at hs ht
    rw [ec 20 (by omega) (by omega) (by omega) (by omega)] at h20 h20t
    rw [l15, l15, l16]
    by_cases c : s = (I 14 7).toNat
    · have ct : t ≠ (I 14 7).toNat := by omega
      obtain ⟨g1, g2, g3⟩ := v2 s (by omega)
      obtain ⟨k1, k2⟩ := hu t (by omega) h20t
      rw [if_pos c, if_neg ct]
      exact ⟨fun y => k1 y.symm, fun y => k2 y.symm, fun y => absurd g3 y⟩
    · rw [if_neg c]
      by_cases ct : t = (I 14 7).toNat
      · obtain ⟨g1, g2, g3⟩ := v2 t (by omega)
        obtain ⟨k1, k2⟩ := hu s (by omega) h20
        rw [if_pos ct, g3]
        exact ⟨k1, (v1 s (by omega)).2.2.1, fun y => y⟩
      · rw [if_neg ct]
        exact v3 s t (by omega) (by omega) hne h20 h20t
  · rw [ec 22 (by omega) (by omega) (by omega) (by omega)] at hn
    obtain ⟨⟨g1, g2, g3⟩, g4⟩ := v4 p hp hn
    unfold zvPl
    rw [zxsI_7, zxsI_17, ec 20 (by omega) (by omega) (by omega) (by omega), ec 21 (by omega) (by omega) (by omega) (by omega), ec 22 (by omega) (by omega) (by omega) (by omega), ec 23 (by omega) (by omega) (by omega) (by omega), ec 24 (by omega) (by omega) (by omega) (by omega), ec 25 (by omega) (by omega) (by omega) (by omega), if_neg (by omega)]
    exact ⟨⟨g1, by omega, g3⟩, g4⟩
  · unfold zV5 at v5 ⊢
    rw [zxsI_14 (by omega) (by omega) (by omega), ec 22 (by omega) (by omega) (by omega) (by omega)]
    exact v5
  · unfold zV6 at v6 ⊢
    rw [ec 22 (by omega) (by omega) (by omega) (by omega), ec 25 (by omega) (by omega) (by omega) (by omega)]
    exact v6
  · unfold zV7 at v7 ⊢
    rw [ec 22 (by omega) (by omega) (by omega) (by omega)]
    exact v7
  · unfold zV8 zvDr at v8 ⊢
    rw [zxsI_14 (by omega) (by omega) (by omega), ec 22 (by omega) (by omega) (by omega) (by omega), ec 26 (by omega) (by omega) (by omega) (by omega), ec 27 (by omega) (by omega) (by omega) (by omega)]
    exact v8
  · unfold zacy at va ⊢
    rw [zxsI_14 (by omega) (by omega) (by omega), ec 26 (by omega) (by omega) (by omega) (by omega), ec 27 (by omega) (by omega) (by omega) (by omega)]
    exact va
  · unfold zV9 at v9 ⊢
    rw [zxsI_14 (by omega) (by omega) (by omega), zxsI_14 (by omega) (by omega) (by omega), l28, ec 30 (by omega) (by omega) (by omega) (by omega)]
    exact v9
  · unfold zVw at vw ⊢
    rw [ec 24 (by omega) (by omega) (by omega) (by omega)]
    exact vw
def zgd (x : zIT × zLT) (n : Int) : Prop := ∀ k : Nat, (k : Int) < x.1 14 19 → zvn (x.2 28 k) ∧ x.2 28 k ≠ 0 ∧ 0 ≤ x.1 30 k ∧ x.1 30 k < n
theorem zgd_o {x : zIT × zLT} {n a d : Int} {told : Int64} (h : zgd x n) (h19 : 0 ≤ x.1 14 19 ∧ x.1 14 19 ≤ 200) (ht : zvn told) (hd : 0 ≤ d ∧ d < n) : zgd (zoI x.1 told a d, zoL x.1 x.2 told) n := by
  obtain ⟨I, L⟩ := x
  simp only at h19
  by_cases c : told = 0
  · unfold zoI zoL
    simp only
    rw [if_pos c, if_pos c]
    exact h
  · intro k hk
    simp only at hk ⊢
    rw [zoI_19 h19, if_neg c] at hk
    by_cases cf : I 14 19 = 200
    · rw [if_pos cf] at hk
      have e30 : zoI I told a d 30 k = if k = 199 then d else I 30 (k + 1) := by
        unfold zoI zoP
        rw [if_neg c, if_pos cf]
        have z1 : zu (zsh 200 I) 14 19 199 14 19 = 199 := zu_eq
        rw [z1]
        simp (disch := omega) only [zu_c, zu_j]
        unfold zsh
        by_cases ck : k = 199
        · rw [if_pos (show k = (199 : Int).toNat from ck), if_pos ck]
        · rw [if_neg (show ¬ k = (199 : Int).toNat from ck), if_neg ck, if_pos ⟨by omega, by omega⟩]
      have eL : zoL I L told 28 k = if k = 199 then told else L 28 (k + 1) := by
        unfold zoL
        rw [if_neg c, if_pos cf, zu_j]
        unfold zsL
        by_cases ck : k = 199
        · rw [if_pos ck, if_pos ck]
        · rw [if_neg ck, if_neg ck, if_pos ⟨rfl, by omega⟩]
      rw [e30, eL]
      by_cases ck : k = 199
      · rw [if_pos ck, if_pos ck]
        exact ⟨ht, c, hd⟩
      · rw [if_neg ck, if_neg ck]
        exact h (k + 1) (by simp only; omega)
    · rw [if_neg cf] at hk
      have e30 : zoI I told a d 30 k = if k = (I 14 19).toNat then d else I 30 k := by
        unfold zoI zoP
        rw [if_neg c, if_neg cf]
        simp (disch := omega) only [zu_c, zu_j]
      have eL : zoL I L told 28 k = if k = (I 14 19).toNat then told else L 28 k := by
        unfold zoL
        rw [if_neg c, if_neg cf, zu_j]
      rw [e30, eL]
      by_cases ck : k = (I 14 19).toNat
      · rw [if_pos ck, if_pos ck]
        exact ⟨ht, c, hd⟩
      · rw [if_neg ck, if_neg ck]
        exact h k (by simp only; omega)
theorem zgd_lg {n : Int} : ∀ (q : List zRow) (x : zIT × zLT), zgd x n → (0 ≤ x.1 14 19 ∧ x.1 14 19 ≤ 200) → (∀ r, r ∈ q → zvn r.1 ∧ 0 ≤ r.2.2 ∧ r.2.2 < n) → zgd (zlg q x) n
  | [], x, h, _, _ => h
  | r :: q, x, h, h19, hr => by
    have h1 := hr r (List.mem_cons_self ..)
    exact zgd_lg q _ (zgd_o h h19 h1.1 h1.2) (zlg_19 [r] x h19) (fun r' hr' => hr r' (List.mem_cons_of_mem _ hr'))
theorem zngo_in {I : zIT} {s : Int} {told : Int64} : ∀ (n : Nat) (r : zRow), r ∈ zngo I s told n → r.1 = told ∧ 0 ≤ r.2.2 ∧ r.2.2 < n
  | 0, r, h => by cases h
  | n + 1, r, h => by
    have h' : r ∈ zngo I s told n ++ (if zpo I n s = -1 then [] else [(told, I 25 (zpo I n s).toNat, (n : Int))]) := h
    rcases List.mem_append.1 h' with h1 | h1
    · have := zngo_in n r h1
      exact ⟨this.1, this.2.1, by omega⟩
    · by_cases c : zpo I n s = -1
      · rw [if_pos c] at h1
        cases h1
      · rw [if_neg c] at h1
        rw [List.mem_singleton.1 h1]
        exact ⟨rfl, by simp only; omega, by simp only; omega⟩
theorem zngo_cg {I J : zIT} {s : Int} {told : Int64} (e22 : J 22 = I 22) (e25 : J 25 = I 25) : ∀ n, zngo J s told n = zngo I s told n
  | 0 => rfl
  | n + 1 => by
    show zngo J s told n ++ (if zpo J n s = -1 then [] else [(told, J 25 (zpo J n s).toNat, (n : Int))]) = zngo I s told n ++ (if zpo I n s = -1 then [] else [(told, I 25 (zpo I n s).toNat, (n : Int))])
    rw [zngo_cg e22 e25 n, e25, zpo_c e22]
