-- ===== between two calls; one call of both =====
def zWc (n : Nat) (A : zIT) (K : zLT) (I : zIT) (L : zLT) (F : zFT) (dyn : zH) (rs rd : Nat → Nat) (fp : Nat → Option Nat) (rk : Nat → Nat) : Prop := zRL A K I L F dyn rs rd fp ∧ zVA I L (200 + 82 * (n : Int)) rk ∧ zrkb I rk ∧ 0 ≤ I 14 28 ∧ I 14 28 ≤ 9999 * (n : Int)
def zWw (n : Nat) (A : zIT) (K : zLT) (I : zIT) (L : zLT) (F : zFT) (dyn : zH) : Prop := ∃ rs rd fp rk, zWc n A K I L F dyn rs rd fp rk
def zNX (n : Nat) (i : Int) (o : Option ((Int × zH) ⊕ zH)) : Prop := ∃ (A : zIT) (K : zLT) (I : zIT) (L : zLT) (F : zFT) (E : zET) (dyn : zH), o = some (.inl (i + 5, zM A K I L F E dyn)) ∧ zWw (n + 1) A K I L F dyn
def zDO (n : Nat) (I : zIT) (E : zET) (lw : Option (Int × zH)) (rf : zH → Option (Int × zH)) : Prop := ∃ (k : Int) (A' : zIT) (K' L1 : zLT) (F' : zFT) (dyn' : zH) (b : Int) (I' : zIT) (L' : zLT), lw = some (k, zM A' K' I L1 F' E dyn') ∧ rf (zM A' K' I L1 F' E dyn') = some (b, zM A' K' I' L' F' E dyn') ∧ I' 14 29 = k ∧ (k = 0 → L' 37 0 = Int64.ofInt b) ∧ zWw (n + 1) A' K' I' L' F' dyn'
theorem m_thrown {A : zIT} {K : zLT} {I : zIT} {L : zLT} {F : zFT} {E : zET} {dyn : zH} : X8_thrown (zM A K I L F E dyn) (some 14) = some (I 14 29) := by
  unfold X8_thrown
  rw [zg_14_29b]
theorem zscb {xs : Nat → Int32} {N : Nat} {i : Int} {β : Type} {f : Int → Option β} (h0 : 0 ≤ i) (h1 : i < N) : (zsc xs N i).bind f = f (xs i.toNat).toInt := by
  unfold zsc
  rw [if_pos ⟨h0, h1⟩]
  rfl
theorem z_tail {A : zIT} {K : zLT} {I : zIT} {L : zLT} {F : zFT} {E : zET} {dyn : zH} {k b i : Int} (ht : I 14 29 = k) (hk : k = 0 → L 37 0 = Int64.ofInt b) (hi : 0 ≤ i ∧ i ≤ 100000) : (((zobj (zM A K I L F E dyn) (some 14) 9).bind fun _ => X8_thrown (zM A K I L F E dyn) (some 14)).bind fun t => if t = k then
    if k = 0 then
      (zaJ (zM A K I L F E dyn) (some 37) 0).bind fun v =>
      if (zcmp v ((Int64.ofInt b))) = 0 then
        (zchk (i + 5)).bind fun w =>
        some (Sum.inl (w, (zM A K I L F E dyn)))
      else
        none
    else
      (zchk (i + 5)).bind fun w =>
      some (Sum.inl (w, (zM A K I L F E dyn)))
  else
    none) = (some (.inl (i + 5, (zM A K I L F E dyn))) : Option ((Int × zH) ⊕ zH)) := by
  rw [zo_14b, m_thrown, zb, if_pos ht]
  by_cases c : k = 0
  · have e : L 37 (0 : Int).toNat = Int64.ofInt b := hk c
    rw [if_pos c, za_37b (by omega) (by omega), e, if_pos (zcmp_0.2 rfl), zckb (by omega) (by omega)]
  · rw [if_neg c, zckb (by omega) (by omega)]
theorem zIe_r {I : zIT} : zIe I I := ⟨fun _ _ _ => rfl, rfl, rfl, rfl, rfl⟩
theorem zrkb_cg {I I' : zIT} {rk : Nat → Nat} (h : zrkb I rk) (e1 : I' 14 14 = I 14 14) (e2 : I' 26 = I 26) : zrkb I' rk := by
  unfold zrkb zgc at h ⊢
  rw [e1, e2]
  exact h
theorem zWc_up {n : Nat} {A : zIT} {K : zLT} {I : zIT} {L : zLT} {F : zFT} {dyn : zH} {rs rd : Nat → Nat} {fp : Nat → Option Nat} {rk : Nat → Nat} (h : zWc n A K I L F dyn rs rd fp rk) : zWc (n + 1) A K I L F dyn rs rd fp rk :=
  ⟨h.1, zVA_B2 h.2.1 (by omega), h.2.2.1, h.2.2.2.1, by have := h.2.2.2.2; omega⟩
theorem zWc_cg {n : Nat} {A A' : zIT} {K K' : zLT} {I I' : zIT} {L L' : zLT} {F : zFT} {dyn : zH} {rs rd : Nat → Nat} {fp : Nat → Option Nat} {rk : Nat → Nat} (h : zWc n A K I L F dyn rs rd fp rk) (hI : zIe I I') (hL : zLe L L') (hA : zAe A A') (hK4 : K' 4 = K 4) (hK : K' 0 7 = K 0 7) (h27 : I' 14 27 = I 14 27) (h26 : L' 14 26 = L 14 26) : zWc n A' K' I' L' F dyn rs rd fp rk := by
  obtain ⟨h1, h2, h3, h4, h5⟩ := h
  refine ⟨zRL_cg h1 hI hL hA hK4 (by rw [hK, h26]; exact h1.2.2.2.2.1), zVA_cg h2 hI hL (zVt_cg (zVA_t h2) h27 h26), zrkb_cg h3 hI.2.2.1 (hI.1 26 (by omega) (by omega)), ?_, ?_⟩
  · rw [hI.2.2.2.2]
    exact h4
  · rw [hI.2.2.2.2]
    exact h5
theorem zLe_37 {L : zLT} {v : Int64} : zLe L (zu L 37 0 v) := ⟨zu_c (by omega), zu_c (by omega), zu_c (by omega)⟩
/-- nothing is changed, and something is thrown -/
theorem zDO_f {n : Nat} {A A' : zIT} {K : zLT} {I : zIT} {L : zLT} {F : zFT} {E : zET} {dyn : zH} {rs rd : Nat → Nat} {fp : Nat → Option Nat} {rk : Nat → Nat} {k b : Int} {I' : zIT} {lw : Option (Int × zH)} {rf : zH → Option (Int × zH)} (h : zWc n A K I L F dyn rs rd fp rk) (e1 : lw = some (k, zM A' K I L F E dyn)) (hA : zAe A A') (e2 : rf (zM A' K I L F E dyn) = some (b, zM A' K I' L F E dyn)) (hk : k ≠ 0) (h29 : I' 14 29 = k) (hI : zIe I I') (h27 : I' 14 27 = I 14 27) : zDO n I E lw rf :=
  ⟨k, A', K, L, F, dyn, b, I', L, e1, e2, h29, fun y => absurd y hk, rs, rd, fp, rk, zWc_up (zWc_cg h hI zLe_r hA rfl rfl h27 rfl)⟩
/-- an answer, and nothing is changed -/
theorem zDO_q {n : Nat} {A A' : zIT} {K : zLT} {I : zIT} {L : zLT} {F : zFT} {E : zET} {dyn : zH} {rs rd : Nat → Nat} {fp : Nat → Option Nat} {rk : Nat → Nat} {v : Int} {I' : zIT} {lw : Option (Int × zH)} {rf : zH → Option (Int × zH)} (h : zWc n A K I L F dyn rs rd fp rk) (e1 : lw = some (0, zM A' K I (zu L 37 0 (Int64.ofInt v)) F E dyn)) (hA : zAe A A') (e2 : rf (zM A' K I (zu L 37 0 (Int64.ofInt v)) F E dyn) = some (v, zM A' K I' (zu L 37 0 (Int64.ofInt v)) F E dyn)) (h29 : I' 14 29 = 0) (hI : zIe I I') (h27 : I' 14 27 = I 14 27) : zDO n I E lw rf :=
  ⟨0, A', K, _, F, dyn, v, I', _, e1, e2, h29, fun _ => zu_eq, rs, rd, fp, rk, zWc_up (zWc_cg h hI zLe_37 hA rfl rfl h27 rfl)⟩
/-- an answer, and the tables are new ones -/
theorem zDO_n {n : Nat} {A' : zIT} {K' : zLT} {I : zIT} {L : zLT} {F' : zFT} {E : zET} {dyn' : zH} {rs rd : Nat → Nat} {fp : Nat → Option Nat} {rk : Nat → Nat} {v : Int} {I' : zIT} {L' L0 : zLT} {lw : Option (Int × zH)} {rf : zH → Option (Int × zH)} (h : zWc (n + 1) A' K' I' L0 F' dyn' rs rd fp rk) (e1 : lw = some (0, zM A' K' I (zu L 37 0 (Int64.ofInt v)) F' E dyn')) (e2 : rf (zM A' K' I (zu L 37 0 (Int64.ofInt v)) F' E dyn') = some (v, zM A' K' I' L' F' E dyn')) (h29 : I' 14 29 = 0) (hL : zLe L0 L') (h26 : L' 14 26 = L0 14 26) (h37 : L' 37 0 = Int64.ofInt v) : zDO n I E lw rf :=
  ⟨0, A', K', _, F', dyn', v, I', L', e1, e2, h29, fun _ => h37, rs, rd, fp, rk, zWc_cg h zIe_r hL zAe_r rfl rfl rfl h26⟩
theorem zoL_37 {I : zIT} {L : zLT} {told : Int64} {v : Int64} : zoL I (zu L 37 0 v) told = zu (zoL I L told) 37 0 v := by
  unfold zoL
  by_cases c : told = 0
  · rw [if_pos c, if_pos c]
  · rw [if_neg c, if_neg c]
    by_cases c2 : I 14 19 = 200
    · rw [if_pos c2, if_pos c2]
      funext a b
      unfold zu zsL
      by_cases h1 : a = 28
      · subst h1
        have n1 : ¬ (28 = 37 ∧ b = 0) := by omega
        have n2 : ¬ (28 = 37 ∧ b + 1 = 0) := by omega
        simp only [n1, n2, if_false]
      · have n1 : ¬ (a = 28 ∧ b = 199) := fun y => h1 y.1
        have n2 : ¬ (a = 28 ∧ b + 1 < 200) := fun y => h1 y.1
        simp only [n1, n2, if_false]
    · rw [if_neg c2, if_neg c2]
      funext a b
      unfold zu
      by_cases h1 : a = 28
      · subst h1
        have n1 : ¬ (28 = 37 ∧ b = 0) := by omega
        simp only [n1, if_false]
      · have n1 : ¬ (a = 28 ∧ b = (I 14 19).toNat) := fun y => h1 y.1
        simp only [n1, if_false]
theorem zlg_37 {v : Int64} : ∀ (q : List zRow) (I : zIT) (L : zLT), zlg q (I, zu L 37 0 v) = ((zlg q (I, L)).1, zu (zlg q (I, L)).2 37 0 v)
  | [], _, _ => rfl
  | r :: q, I, L => by
    show zlg q (zoI I r.1 r.2.1 r.2.2, zoL I (zu L 37 0 v) r.1) = _
    rw [zoL_37, zlg_37 q]
    rfl
theorem zlv_37 {I : zIT} {L : zLT} {v : Int64} {p : Nat} : zlv (I, zu L 37 0 v) p = ((zlv (I, L) p).1, zu (zlv (I, L) p).2 37 0 v) := by
  have e15 : zu L 37 0 v 15 = L 15 := zu_c (by omega)
  have e16 : zu L 37 0 v 16 = L 16 := zu_c (by omega)
  unfold zlv
  simp only
  by_cases c : I 22 p = -1
  · rw [if_pos c, if_pos c]
  · rw [if_neg c, if_neg c, e15, e16, zlg_37]
theorem zgo_37 {I : zIT} {L : zLT} {v : Int64} {d : Nat} {to : Int} : zgo (I, zu L 37 0 v) d to = ((zgo (I, L) d to).1, zu (zgo (I, L) d to).2 37 0 v) := by
  have e : zlv (zlv (I, zu L 37 0 v) (2 * d)) (2 * d + 1) = ((zlv (zlv (I, L) (2 * d)) (2 * d + 1)).1, zu (zlv (zlv (I, L) (2 * d)) (2 * d + 1)).2 37 0 v) := by
    rw [zlv_37, zlv_37]
  unfold zgo
  rw [e]
theorem zus_37 {I : zIT} {L : zLT} {v : Int64} {t : Int64} {n : Nat} : zus I (zu L 37 0 v) t n ↔ zus I L t n := by
  have e15 : zu L 37 0 v 15 = L 15 := zu_c (by omega)
  have e16 : zu L 37 0 v 16 = L 16 := zu_c (by omega)
  unfold zus
  rw [e15, e16]
