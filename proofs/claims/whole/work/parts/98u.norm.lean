-- ===== what lies beyond an array's end may be named anew =====
theorem z_nmJ {K : zK} {cells slots pc : Nat} {lv : List (Nat × zPV)} {st : List zPV} {hp : zH} {a n t : Nat} {f f' : Nat → Int} (hi : hp[a]? = some (.inl (t, n, .inl f))) (he : ∀ j, j < n → f j = f' j) (hr : ∀ j, f' j = f j ∨ inR (f' j)) (h : zJ K cells slots pc lv st (hp.set a (.inl (t, n, .inl f')))) : zJ K cells slots pc lv st hp := by
  obtain ⟨p, l, e, R, s, m, args, below, meth, c, D, cA, A, Q, nL, ad0, n0⟩ := K
  intro ad H locs ls e1 e2 e3 e4 e5 e6 e7 e8 e9
  have hlen : (hp.set a (.inl (t, n, .inl f'))).length = hp.length := List.length_set
  have hW : zW ad cA (hp.set a (.inl (t, n, .inl f'))) = (zW ad cA hp).set a (ad a, zTC ad cA (.inl (t, n, .inl f'))) := zW_set
  have hat : va_at D vwCl (ad a, zTC ad cA (.inl (t, n, .inl f))) H := e6 a _ (zW_at hi)
  have hat2 : va_at D vwCl (ad a, zTC ad cA (.inl (t, n, .inl f'))) H := by
    have h1 : H[ad a]? = some (arrV (cA t) n (fun j => .int (Int32.ofInt (f j)))) := hat
    show H[ad a]? = some (arrV (cA t) n (fun j => .int (Int32.ofInt (f' j))))
    rw [h1]
    apply congrArg some
    unfold arrV
    have : (fun j : Fin n => Value.int (Int32.ofInt (f j.val))) = fun j : Fin n => Value.int (Int32.ofInt (f' j.val)) := by
      funext j
      rw [he j.val j.isLt]
    rw [this]
  refine h ad H locs ls e1 (by rw [hlen]; exact e2) (zset_ok e3 ?_) (by rw [hlen]; exact e4) (by rw [hlen]; exact e5) ?_ ?_ e8 e9
  · have h0 : ∀ j, inR (f j) := e3 _ (zmem hi)
    intro j
    rcases hr j with g | g
    · rw [g]
      exact h0 j
    · exact g
  · rw [hW]
    exact va_P.set e6 e7 (zW_at hi) hat2 (fun _ _ => rfl)
  · rw [hW]
    exact va_D.set e7 (zW_at hi)
/-- the heap with another name for what lies beyond the end of the cell 22, where that is an array of 80 ints -/
def znm (hp : zH) : zH := match (hp[22]? : Option zCell) with
  | some (Sum.inl (0, 80, Sum.inl f)) => hp.set 22 (.inl (0, 80, .inl (fun j => if j < 80 then f j else -1)))
  | _ => hp
theorem z_nm {ρ : Type} {G : ρ → Prop} {K : zK} {cells slots pc : Nat} {lv : List (Nat × zPV)} {st : List zPV} {hp : zH} {ff : zH → Option ρ} (kk : ∀ y, zS (ff y) G (zJ K cells slots pc lv st y)) : zS ((some (znm hp)).bind ff) G (zJ K cells slots pc lv st hp) := by
  intro r h1 h2
  have h3 := kk (znm hp) r h1 h2
  unfold znm at h3
  split at h3
  next f hf =>
    refine z_nmJ hf (f' := fun j => if j < 80 then f j else -1) (fun j hj => ?_) (fun j => ?_) h3
    · exact (if_pos hj).symm
    · by_cases c : j < 80
      · exact Or.inl (if_pos c)
      · exact Or.inr (by rw [if_neg c]; unfold inR; omega)
  next => exact h3
