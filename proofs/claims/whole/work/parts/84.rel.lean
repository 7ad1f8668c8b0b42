-- ===== the relation under new cells and changed ones =====
theorem zset_eq {dyn : zH} {j : Nat} {x y : zCell} (h : dyn[j]? = some y) : (dyn.set j x)[j]? = some x := by
  have hj : j < dyn.length := by
    rcases Nat.lt_or_ge j dyn.length with c | c
    · exact c
    · rw [List.getElem?_eq_none c] at h
      cases h
  rw [List.getElem?_set, if_pos rfl, if_pos hj]
theorem zset_ne {dyn : zH} {j k : Nat} {x : zCell} (h : j ≠ k) : (dyn.set j x)[k]? = dyn[k]? := by
  rw [List.getElem?_set, if_neg h]
theorem zapp_o {dyn : zH} {j : Nat} {x y : zCell} (h : dyn[j]? = some y) : (dyn ++ [x])[j]? = some y := by
  have hj : j < dyn.length := by
    rcases Nat.lt_or_ge j dyn.length with c | c
    · exact c
    · rw [List.getElem?_eq_none c] at h
      cases h
  rw [List.getElem?_append_left hj]
  exact h
theorem zapp_l {dyn : zH} {x : zCell} : (dyn ++ [x])[dyn.length]? = some x := by
  simp
theorem zapp_s {dyn : zH} {x y : zCell} : (dyn ++ [x]).set dyn.length y = dyn ++ [y] := by
  simp
theorem zne_SD {dyn : zH} {j k : Nat} {n : Int} {a b : Int64} {l w bk g gr : Int} {n' : Int} {f s : Option Nat} {g' : Int} {l' : Option Nat} (h1 : dyn[j]? = some (zStr n a b l w bk g gr)) (h2 : dyn[k]? = some (zDor n' f s g' l')) : j ≠ k := by
  rintro rfl
  rw [h1] at h2
  unfold zStr zDor at h2
  injection h2 with h2
  injection h2 with h2
  injection h2 with h2
  omega
theorem zne_SP {dyn : zH} {j k : Nat} {n : Int} {a b : Int64} {l w bk g gr : Int} {d : Int} {s : Option Nat} {m lf c : Int} (h1 : dyn[j]? = some (zStr n a b l w bk g gr)) (h2 : dyn[k]? = some (zPlc d s m lf c)) : j ≠ k := by
  rintro rfl
  rw [h1] at h2
  unfold zStr zPlc at h2
  injection h2 with h2
  injection h2 with h2
  injection h2 with h2
  omega
theorem zne_DP {dyn : zH} {j k : Nat} {n' : Int} {f s' : Option Nat} {g' : Int} {l' : Option Nat} {d : Int} {s : Option Nat} {m lf c : Int} (h1 : dyn[j]? = some (zDor n' f s' g' l')) (h2 : dyn[k]? = some (zPlc d s m lf c)) : j ≠ k := by
  rintro rfl
  rw [h1] at h2
  unfold zDor zPlc at h2
  injection h2 with h2
  injection h2 with h2
  injection h2 with h2
  omega
theorem zDor_n {n n' : Int} {f s f' s' : Option Nat} {g g' : Int} {l l' : Option Nat} (h : (some (zDor n f s g l) : Option zCell) = some (zDor n' f' s' g' l')) : n = n' := by
  unfold zDor at h
  injection h with h
  injection h with h
  injection h with h1 h
  injection h with h h2
  injection h
theorem zPlc_n {d d' : Int} {s s' : Option Nat} {m m' lf lf' c c' : Int} (h : (some (zPlc d s m lf c) : Option zCell) = some (zPlc d' s' m' lf' c')) : d = d' ∧ s = s' := by
  unfold zPlc at h
  injection h with h
  injection h with h
  injection h with h1 h
  injection h with h h2
  injection h2 with h3 h4
  injection h with h5
  injection h3 with h6
  injection h6 with h7
  injection h7 with h8
  exact ⟨h5, h8⟩
theorem zRS_app {I : zIT} {L : zLT} {F : zFT} {dyn : zH} {rs : Nat → Nat} {x : zCell} (h : zRS I L F dyn rs) : zRS I L F (dyn ++ [x]) rs :=
  ⟨fun s hs => ⟨(h.1 s hs).1, zapp_o (h.1 s hs).2⟩, h.2⟩
theorem zRD_app {I : zIT} {F : zFT} {dyn : zH} {rd : Nat → Nat} {fp : Nat → Option Nat} {x : zCell} (h : zRD I F dyn rd fp) : zRD I F (dyn ++ [x]) rd fp :=
  ⟨fun s hs => ⟨(h.1 s hs).1, zapp_o (h.1 s hs).2⟩, h.2⟩
theorem zRP_app {I : zIT} {dyn : zH} {rs : Nat → Nat} {fp : Nat → Option Nat} {x : zCell} (h : zRP I dyn rs fp) : zRP I (dyn ++ [x]) rs fp := by
  intro p hp
  rcases h p hp with h1 | ⟨h1, h2, r, h3, h4⟩
  · exact Or.inl h1
  · exact Or.inr ⟨h1, h2, r, h3, zapp_o h4⟩
theorem zRS_cg {I I' : zIT} {L L' : zLT} {F F' : zFT} {dyn : zH} {rs : Nat → Nat} (h : zRS I L F dyn rs) (e7 : I' 14 7 = I 14 7) (ec : ∀ c, 17 ≤ c → c ≤ 21 → I' c = I c) (e15 : L' 15 = L 15) (e16 : L' 16 = L 16) (ef : F' 1 = F 1) : zRS I' L' F' dyn rs := by
  unfold zRS
  rw [e7, e15, e16, ef, ec 17 (by omega) (by omega), ec 18 (by omega) (by omega), ec 19 (by omega) (by omega), ec 20 (by omega) (by omega), ec 21 (by omega) (by omega)]
  exact h
theorem zRD_cg {I I' : zIT} {F F' : zFT} {dyn : zH} {rd : Nat → Nat} {fp : Nat → Option Nat} (h : zRD I F dyn rd fp) (e : I' 14 14 = I 14 14) (e6 : I' 26 = I 26) (e7 : I' 27 = I 27) (ef : F' 2 = F 2) : zRD I' F' dyn rd fp := by
  unfold zRD zld
  rw [e, e6, e7, ef]
  exact h
theorem zRP_cg {I I' : zIT} {dyn : zH} {rs : Nat → Nat} {fp : Nat → Option Nat} (h : zRP I dyn rs fp) (e7 : I' 14 7 = I 14 7) (ec : ∀ c, 22 ≤ c → c ≤ 25 → I' c = I c) : zRP I' dyn rs fp := by
  unfold zRP
  rw [e7, ec 22 (by omega) (by omega), ec 23 (by omega) (by omega), ec 24 (by omega) (by omega), ec 25 (by omega) (by omega)]
  exact h
theorem zRO_cg {A A' : zIT} {K K' : zLT} {I I' : zIT} {L L' : zLT} (h : zRO A K I L) (a3 : A' 3 = A 3) (a5 : A' 5 = A 5) (a6 : A' 6 = A 6) (a7 : A' 7 = A 7) (k4 : K' 4 = K 4) (e19 : I' 14 19 = I 14 19) (e28 : L' 28 = L 28) (ec : ∀ c, 29 ≤ c → c ≤ 31 → I' c = I c) : zRO A' K' I' L' := by
  unfold zRO
  rw [a3, a5, a6, a7, k4, e19, e28, ec 29 (by omega) (by omega), ec 30 (by omega) (by omega), ec 31 (by omega) (by omega)]
  exact h
theorem zRS_set {I I' : zIT} {L L' : zLT} {F F' : zFT} {dyn : zH} {rs : Nat → Nat} {s : Nat} (h : zRS I L F dyn rs) (hs : (s : Int) < I 14 7) (e7 : I' 14 7 = I 14 7) (ef : F' 1 = F 1)
    (ec : ∀ c t, 17 ≤ c → c ≤ 21 → t ≠ s → I' c t = I c t) (eL : ∀ t, t ≠ s → L' 15 t = L 15 t ∧ L' 16 t = L 16 t) : zRS I' L' F' (dyn.set (rs s) (zStr s (c5 (L' 15 s)) (c5 (L' 16 s)) (I' 17 s) (I' 18 s) (I' 19 s) (I' 20 s) (I' 21 s))) rs := by
  refine ⟨fun t ht => ?_, fun t ht => ?_⟩
  · rw [e7] at ht
    rw [ef]
    refine ⟨(h.1 t ht).1, ?_⟩
    by_cases c : t = s
    · subst c
      rw [zset_eq (h.1 t hs).2]
    · rw [zset_ne (fun y => c (zRS_inj h ht hs y.symm)), (h.1 t ht).2, (eL t c).1, (eL t c).2, ec 17 t (by omega) (by omega) c, ec 18 t (by omega) (by omega) c, ec 19 t (by omega) (by omega) c, ec 20 t (by omega) (by omega) c, ec 21 t (by omega) (by omega) c]
  · rw [ef]
    exact h.2 t (by omega)
theorem zRD_setS {I : zIT} {F : zFT} {dyn : zH} {rd : Nat → Nat} {fp : Nat → Option Nat} {j : Nat} {x : zCell} {n : Int} {a b : Int64} {l w bk g gr : Int} (h : zRD I F dyn rd fp) (hj : dyn[j]? = some (zStr n a b l w bk g gr)) : zRD I F (dyn.set j x) rd fp :=
  ⟨fun d hd => ⟨(h.1 d hd).1, by rw [zset_ne (zne_SD hj (h.1 d hd).2)]; exact (h.1 d hd).2⟩, h.2⟩
theorem zRP_setS {I : zIT} {dyn : zH} {rs : Nat → Nat} {fp : Nat → Option Nat} {j : Nat} {x : zCell} {n : Int} {a b : Int64} {l w bk g gr : Int} (h : zRP I dyn rs fp) (hj : dyn[j]? = some (zStr n a b l w bk g gr)) : zRP I (dyn.set j x) rs fp := by
  intro p hp
  rcases h p hp with h1 | ⟨h1, h2, r, h3, h4⟩
  · exact Or.inl h1
  · exact Or.inr ⟨h1, h2, r, h3, by rw [zset_ne (zne_SP hj h4)]; exact h4⟩
theorem zRS_setD {I : zIT} {L : zLT} {F : zFT} {dyn : zH} {rs : Nat → Nat} {j : Nat} {x : zCell} {n : Int} {f s : Option Nat} {g : Int} {l : Option Nat} (h : zRS I L F dyn rs) (hj : dyn[j]? = some (zDor n f s g l)) : zRS I L F (dyn.set j x) rs :=
  ⟨fun t ht => ⟨(h.1 t ht).1, by rw [zset_ne (zne_SD (h.1 t ht).2 hj).symm]; exact (h.1 t ht).2⟩, h.2⟩
theorem zRP_setD {I : zIT} {dyn : zH} {rs : Nat → Nat} {fp : Nat → Option Nat} {j : Nat} {x : zCell} {n : Int} {f s : Option Nat} {g : Int} {l : Option Nat} (h : zRP I dyn rs fp) (hj : dyn[j]? = some (zDor n f s g l)) : zRP I (dyn.set j x) rs fp := by
  intro p hp
  rcases h p hp with h1 | ⟨h1, h2, r, h3, h4⟩
  · exact Or.inl h1
  · exact Or.inr ⟨h1, h2, r, h3, by rw [zset_ne (zne_DP hj h4)]; exact h4⟩
theorem zRS_setP {I : zIT} {L : zLT} {F : zFT} {dyn : zH} {rs : Nat → Nat} {j : Nat} {x : zCell} {d : Int} {s : Option Nat} {m lf c : Int} (h : zRS I L F dyn rs) (hj : dyn[j]? = some (zPlc d s m lf c)) : zRS I L F (dyn.set j x) rs :=
  ⟨fun t ht => ⟨(h.1 t ht).1, by rw [zset_ne (zne_SP (h.1 t ht).2 hj).symm]; exact (h.1 t ht).2⟩, h.2⟩
theorem zRD_setP {I : zIT} {F : zFT} {dyn : zH} {rd : Nat → Nat} {fp : Nat → Option Nat} {j : Nat} {x : zCell} {d : Int} {s : Option Nat} {m lf c : Int} (h : zRD I F dyn rd fp) (hj : dyn[j]? = some (zPlc d s m lf c)) : zRD I F (dyn.set j x) rd fp :=
  ⟨fun t ht => ⟨(h.1 t ht).1, by rw [zset_ne (zne_DP (h.1 t ht).2 hj).symm]; exact (h.1 t ht).2⟩, h.2⟩
theorem zRD_inj {I : zIT} {F : zFT} {dyn : zH} {rd : Nat → Nat} {fp : Nat → Option Nat} (h : zRD I F dyn rd fp) {s t : Nat} (hs : (s : Int) < I 14 14) (ht : (t : Int) < I 14 14) (e : rd s = rd t) : s = t := by
  have h1 := (h.1 s hs).2
  have h2 := (h.1 t ht).2
  rw [e, h2] at h1
  have := zDor_n h1
  omega
theorem zRD_set {I I' : zIT} {F F' : zFT} {dyn : zH} {rd : Nat → Nat} {fp fp' : Nat → Option Nat} {d : Nat} (h : zRD I F dyn rd fp) (hd : (d : Int) < I 14 14) (e14 : I' 14 14 = I 14 14) (ef : F' 2 = F 2)
    (e26 : ∀ t, t ≠ d → I' 26 t = I 26 t) (e27 : ∀ t, t ≠ d → I' 27 t = I 27 t) (ep : ∀ p, p / 2 ≠ d → fp' p = fp p) : zRD I' F' (dyn.set (rd d) (zDor d (fp' (2 * d)) (fp' (2 * d + 1)) (I' 26 d) (zld I' rd d))) rd fp' := by
  refine ⟨fun t ht => ?_, fun t ht => ?_⟩
  · rw [e14] at ht
    rw [ef]
    refine ⟨(h.1 t ht).1, ?_⟩
    by_cases c : t = d
    · subst c
      rw [zset_eq (h.1 t hd).2]
    · have e : zld I' rd t = zld I rd t := by
        unfold zld
        rw [e27 t c]
      rw [zset_ne (fun y => c (zRD_inj h ht hd y.symm)), (h.1 t ht).2, ep (2 * t) (by omega), ep (2 * t + 1) (by omega), e26 t c, e]
  · rw [ef]
    exact h.2 t (by omega)
theorem zRP_inj {I : zIT} {L : zLT} {F : zFT} {dyn : zH} {rs : Nat → Nat} {fp : Nat → Option Nat} (hS : zRS I L F dyn rs) (h : zRP I dyn rs fp) (h7 : zV7 I) {p q r : Nat} (hp : p < 80) (hq : q < 80) (e1 : fp p = some (r + 39)) (e2 : fp q = some (r + 39)) : p = q := by
  rcases h p hp with ⟨_, h1⟩ | ⟨h1, h2, r1, h3, h4⟩
  · rw [h1] at e1
    cases e1
  · rcases h q hq with ⟨_, g1⟩ | ⟨g1, g2, r2, g3, g4⟩
    · rw [g1] at e2
      cases e2
    · rw [h3] at e1
      rw [g3] at e2
      injection e1 with e1
      injection e2 with e2
      have e3 : r1 = r := by omega
      have e4 : r2 = r := by omega
      subst e3
      subst e4
      rw [h4] at g4
      obtain ⟨k1, k2⟩ := zPlc_n g4
      injection k2 with k2
      have := zRS_inj hS (s := (I 22 p).toNat) (t := (I 22 q).toNat) (by omega) (by omega) (by omega)
      by_cases c : p = q
      · exact c
      · exact absurd (show I 22 p = I 22 q by omega) (h7 p q (by omega) c (by omega))
theorem zRP_set {I I' : zIT} {L : zLT} {F : zFT} {dyn : zH} {rs : Nat → Nat} {fp : Nat → Option Nat} {p r : Nat} (hS : zRS I L F dyn rs) (h : zRP I dyn rs fp) (h7 : zV7 I) (hp : p < 80) (e1 : fp p = some (r + 39)) (e7 : I' 14 7 = I 14 7) (hin : 0 ≤ I' 22 p ∧ I' 22 p < I 14 7)
    (ec : ∀ c q, 22 ≤ c → c ≤ 25 → q ≠ p → I' c q = I c q) : zRP I' (dyn.set r (zPlc ((p / 2 : Nat) : Int) (some (rs (I' 22 p).toNat + 39)) (I' 23 p) (if I' 24 p = 108 then 1 else 0) (I' 25 p))) rs fp := by
  have hr : ∃ y, dyn[r]? = some y := by
    rcases h p hp with ⟨_, h1⟩ | ⟨h1, h2, r1, h3, h4⟩
    · rw [h1] at e1
      cases e1
    · rw [h3] at e1
      injection e1 with e1
      have e3 : r1 = r := by omega
      subst e3
      exact ⟨_, h4⟩
  obtain ⟨y, hy⟩ := hr
  intro q hq
  by_cases c : q = p
  · subst c
    exact Or.inr ⟨hin.1, by omega, r, e1, zset_eq hy⟩
  · rw [ec 22 q (by omega) (by omega) c, ec 23 q (by omega) (by omega) c, ec 24 q (by omega) (by omega) c, ec 25 q (by omega) (by omega) c, e7]
    rcases h q hq with h1 | ⟨h1, h2, r1, h3, h4⟩
    · exact Or.inl h1
    · refine Or.inr ⟨h1, h2, r1, h3, ?_⟩
      rw [zset_ne]
      · exact h4
      · rintro rfl
        exact c (zRP_inj hS h h7 hq hp h3 e1)
