/-! THE ROWS over the pure picture: each is the kit's own row, said of zJ -/
section zRows
variable {ρ : Type} {o : Option ρ} {G : ρ → Prop} {K : zK} {cc : ByteArray} {own : String} {Ts : List Cond} {R0 : Room} {cells slots pc : Nat} {lv : List (Nat × zPV)} {st : List zPV} {hp : zH}
theorem zOk_cons {n : Nat} {v : zPV} {st : List zPV} (h1 : zOk n v) (h2 : ∀ w ∈ st, zOk n w) : ∀ w ∈ v :: st, zOk n w := List.forall_mem_cons.2 ⟨h1, h2⟩
theorem zOk_tl {n : Nat} {v : zPV} {st : List zPV} (h : ∀ w ∈ v :: st, zOk n w) : ∀ w ∈ st, zOk n w := fun w hw => h w (List.mem_cons_of_mem _ hw)
theorem zOk_hd {n : Nat} {v : zPV} {st : List zPV} (h : ∀ w ∈ v :: st, zOk n w) : zOk n v := h v List.mem_cons_self
theorem zlv_at {ad : Nat → Nat} {ls : Array Slot} {nL : Nat} {lv : List (Nat × zPV)} (h : lv_has ls nL (lv.map (fun q => (q.1, zT ad q.2)))) (k : Nat) {i : Nat} {v : zPV} (hk : lv[k]? = some (i, v)) : ls[i]? = some (.val (zT ad v)) := lv_at h k (by rw [List.getElem?_map, hk]; rfl)
def zcat : zPV → Nat
  | .inr (.inl _) => 2
  | .inr (.inr (.inr (.inr (.inl _)))) => 2
  | _ => 1
theorem va_rf_cat (r : Option Nat) : (va_rf r).category = 1 := by cases r <;> rfl
theorem zcat_T (ad : Nat → Nat) (v : zPV) : (zT ad v).category = zcat v := by
  match v with
  | .inl _ => rfl
  | .inr (.inl _) => rfl
  | .inr (.inr (.inl r)) => exact va_rf_cat _
  | .inr (.inr (.inr (.inl _))) => rfl
  | .inr (.inr (.inr (.inr (.inl _)))) => rfl
  | .inr (.inr (.inr (.inr (.inr _)))) => rfl
def zset1 (i : Nat) (v : zPV) (lv : List (Nat × zPV)) : List (Nat × zPV) := (i, v) :: lv.filter (fun q => !(q.1 == i) && !(q.1 + 1 == i && zcat q.2 == 2))
def zset2 (i : Nat) (v : zPV) (lv : List (Nat × zPV)) : List (Nat × zPV) := (i, v) :: lv.filter (fun q => !(q.1 == i) && (!(q.1 == i + 1) && !(q.1 + 1 == i && zcat q.2 == 2)))
theorem zset1_map (ad : Nat → Nat) (i : Nat) (v : zPV) (lv : List (Nat × zPV)) : (i, zT ad v) :: (lv.map (fun q => (q.1, zT ad q.2))).filter (fun q => !(q.1 == i) && !(q.1 + 1 == i && q.2.category == 2)) = (zset1 i v lv).map (fun q => (q.1, zT ad q.2)) := by
  unfold zset1
  rw [List.map_cons, List.filter_map]
  congr 2
  apply List.filter_congr
  intro q _
  simp only [Function.comp_apply, zcat_T]
theorem zset2_map (ad : Nat → Nat) (i : Nat) (v : zPV) (lv : List (Nat × zPV)) : (i, zT ad v) :: (lv.map (fun q => (q.1, zT ad q.2))).filter (fun q => !(q.1 == i) && (!(q.1 == i + 1) && !(q.1 + 1 == i && q.2.category == 2))) = (zset2 i v lv).map (fun q => (q.1, zT ad q.2)) := by
  unfold zset2
  rw [List.map_cons, List.filter_map]
  congr 2
  apply List.filter_congr
  intro q _
  simp only [Function.comp_apply, zcat_T]
theorem zset1_ok {n i : Nat} {v : zPV} {lv : List (Nat × zPV)} (h1 : zOk n v) (h2 : ∀ q ∈ lv, zOk n q.2) : ∀ q ∈ zset1 i v lv, zOk n q.2 := by
  intro q hq
  rcases List.mem_cons.1 hq with rfl | hq
  · exact h1
  · exact h2 q (List.mem_filter.1 hq).1
theorem zset2_ok {n i : Nat} {v : zPV} {lv : List (Nat × zPV)} (h1 : zOk n v) (h2 : ∀ q ∈ lv, zOk n q.2) : ∀ q ∈ zset2 i v lv, zOk n q.2 := by
  intro q hq
  rcases List.mem_cons.1 hq with rfl | hq
  · exact h1
  · exact h2 q (List.mem_filter.1 hq).1
theorem zchk_some {z v : Int} (h : zchk z = some v) : inR v ∧ v = z := by
  unfold zchk at h
  split at h
  · rename_i hz
    cases h
    exact ⟨hz, rfl⟩
  · cases h
theorem z_bind {ε : Type} {o1 : Option ε} {f : ε → Option ρ} {E : ε → Prop} {C : Prop} (hl : zS o1 E C) (hk : ∀ e, zS (f e) G (E e)) : zS (o1.bind f) G C := by
  intro r h1 h2
  obtain ⟨e, he, h1⟩ := Option.bind_eq_some_iff.mp h1
  exact hl e he (hk e r h1 h2)
def zloop {σ ε : Type} (body : σ → Option (σ ⊕ ε)) : Nat → σ → Option ε
  | 0, _ => none
  | n + 1, s => (body s).bind (fun x => match x with
    | .inl s' => zloop body n s'
    | .inr r => some r)
def zLG {σ ε : Type} (C : σ → Prop) (E : ε → Prop) : σ ⊕ ε → Prop
  | .inl s' => C s'
  | .inr e => E e
theorem z_loop {σ ε : Type} {body : σ → Option (σ ⊕ ε)} (C : σ → Prop) (E : ε → Prop) (hb : ∀ s, zS (body s) (zLG C E) (C s)) : ∀ n s, zS (zloop body n s) E (C s) := by
  intro n
  induction n with
  | zero =>
    intro s r h1 _
    cases h1
  | succ n ih =>
    intro s r h1 h2
    obtain ⟨x, hx, h1⟩ := Option.bind_eq_some_iff.mp h1
    cases x with
    | inl s' => exact hb s _ hx (ih s' r h1 h2)
    | inr e =>
      cases h1
      exact hb s _ hx h2
def zN : Nat := 100000
theorem z_pick (ks : List Nat) {lv' : List (Nat × zPV)} (hl : ks.filterMap (fun k => lv[k]?) = lv') (kk : zS o G (zJ K cells slots pc lv' st hp)) : zS o G (zJ K cells slots pc lv st hp) := by
  obtain ⟨p, l, e, R, s, m, args, below, meth, c, D, cA, A, Q, nL, ad0, n0⟩ := K
  subst hl
  intro r h1 h2 ad H locs ls e1 e2 e3 e4 e5 e6 e7 e8 e9
  refine kk r h1 h2 ad H locs ls e1 e2 e3 (fun q hq => ?_) e5 e6 e7 e8 (lv_sub e9 ks ?_)
  · obtain ⟨i, -, hi⟩ := List.mem_filterMap.mp hq
    exact e4 q (List.mem_of_getElem? hi)
  · unfold lv_pick
    rw [List.map_filterMap]
    apply congrArg (fun f => List.filterMap f ks)
    funext k
    rw [List.getElem?_map]
theorem z_widen {c1 s1 : Nat} (h1 : cells ≤ c1) (h2 : slots ≤ s1) (kk : zS o G (zJ K c1 s1 pc lv st hp)) : zS o G (zJ K cells slots pc lv st hp) := by
  obtain ⟨p, l, e, R, s, m, args, below, meth, c, D, cA, A, Q, nL, ad0, n0⟩ := K
  intro r q1 q2 ad H locs ls e1 e2 e3 e4 e5 e6 e7 e8 e9
  exact W.widen h1 h2 (kk r q1 q2 ad H locs ls e1 e2 e3 e4 e5 e6 e7 e8 e9)

theorem z_iload (k : Nat) {i : Nat} {v : Int} (X : zX K cc own Ts R0) (hd : decode cc pc = .ok (.iload i, 2)) (hl : lv[k]? = some (i, zI v)) (kk : zS o G (zJ K cells slots (pc + 2) lv (zI v :: st) hp)) : zS o G (zJ K cells slots pc lv st hp) := by
  obtain ⟨p, l, e, R, s, m, args, below, meth, c, D, cA, A, Q, nL, ad0, n0⟩ := K
  obtain ⟨hx, hb, hml, hown, hts, hK, hA, hR, hlk⟩ := X
  intro r h1 h2 ad H locs ls e1 e2 e3 e4 e5 e6 e7 e8 e9
  refine lv_iload hx hb hd (zlv_at e9 k hl) ?_
  exact kk r h1 h2 ad H locs ls e1 e2 e3 e4 (zOk_cons (e4 _ (List.mem_of_getElem? hl)) e5) e6 e7 e8 e9
theorem z_lload (k : Nat) {i : Nat} {v : Int64} (X : zX K cc own Ts R0) (hd : decode cc pc = .ok (.lload i, 2)) (hl : lv[k]? = some (i, zL v)) (kk : zS o G (zJ K cells slots (pc + 2) lv (zL v :: st) hp)) : zS o G (zJ K cells slots pc lv st hp) := by
  obtain ⟨p, l, e, R, s, m, args, below, meth, c, D, cA, A, Q, nL, ad0, n0⟩ := K
  obtain ⟨hx, hb, hml, hown, hts, hK, hA, hR, hlk⟩ := X
  intro r h1 h2 ad H locs ls e1 e2 e3 e4 e5 e6 e7 e8 e9
  refine lv_lload hx hb hd (zlv_at e9 k hl) ?_
  exact kk r h1 h2 ad H locs ls e1 e2 e3 e4 (zOk_cons (e4 _ (List.mem_of_getElem? hl)) e5) e6 e7 e8 e9
theorem z_fload (k : Nat) {i : Nat} {v : UInt32} (X : zX K cc own Ts R0) (hd : decode cc pc = .ok (.fload i, 2)) (hl : lv[k]? = some (i, zF v)) (kk : zS o G (zJ K cells slots (pc + 2) lv (zF v :: st) hp)) : zS o G (zJ K cells slots pc lv st hp) := by
  obtain ⟨p, l, e, R, s, m, args, below, meth, c, D, cA, A, Q, nL, ad0, n0⟩ := K
  obtain ⟨hx, hb, hml, hown, hts, hK, hA, hR, hlk⟩ := X
  intro r h1 h2 ad H locs ls e1 e2 e3 e4 e5 e6 e7 e8 e9
  refine lv_fload hx hb hd (zlv_at e9 k hl) ?_
  exact kk r h1 h2 ad H locs ls e1 e2 e3 e4 (zOk_cons (e4 _ (List.mem_of_getElem? hl)) e5) e6 e7 e8 e9
theorem z_dload (k : Nat) {i : Nat} {v : UInt64} (X : zX K cc own Ts R0) (hd : decode cc pc = .ok (.dload i, 2)) (hl : lv[k]? = some (i, zD v)) (kk : zS o G (zJ K cells slots (pc + 2) lv (zD v :: st) hp)) : zS o G (zJ K cells slots pc lv st hp) := by
  obtain ⟨p, l, e, R, s, m, args, below, meth, c, D, cA, A, Q, nL, ad0, n0⟩ := K
  obtain ⟨hx, hb, hml, hown, hts, hK, hA, hR, hlk⟩ := X
  intro r h1 h2 ad H locs ls e1 e2 e3 e4 e5 e6 e7 e8 e9
  refine lv_dload hx hb hd (zlv_at e9 k hl) ?_
  exact kk r h1 h2 ad H locs ls e1 e2 e3 e4 (zOk_cons (e4 _ (List.mem_of_getElem? hl)) e5) e6 e7 e8 e9
theorem z_aloadA (k : Nat) {i : Nat} {v : Nat} (X : zX K cc own Ts R0) (hd : decode cc pc = .ok (.aload i, 2)) (hl : lv[k]? = some (i, zA v)) (kk : zS o G (zJ K cells slots (pc + 2) lv (zA v :: st) hp)) : zS o G (zJ K cells slots pc lv st hp) := by
  obtain ⟨p, l, e, R, s, m, args, below, meth, c, D, cA, A, Q, nL, ad0, n0⟩ := K
  obtain ⟨hx, hb, hml, hown, hts, hK, hA, hR, hlk⟩ := X
  intro r h1 h2 ad H locs ls e1 e2 e3 e4 e5 e6 e7 e8 e9
  refine lv_aload hx hb hd (zlv_at e9 k hl) ?_
  exact kk r h1 h2 ad H locs ls e1 e2 e3 e4 (zOk_cons (e4 _ (List.mem_of_getElem? hl)) e5) e6 e7 e8 e9
theorem z_iload_n (k : Nat) {j : Fin 4} {i : Nat} {v : Int} (X : zX K cc own Ts R0) (hd : decode cc pc = .ok (.iload_n j, 1)) (hi : (j : Nat) = i) (hl : lv[k]? = some (i, zI v)) (kk : zS o G (zJ K cells slots (pc + 1) lv (zI v :: st) hp)) : zS o G (zJ K cells slots pc lv st hp) := by
  obtain ⟨p, l, e, R, s, m, args, below, meth, c, D, cA, A, Q, nL, ad0, n0⟩ := K
  obtain ⟨hx, hb, hml, hown, hts, hK, hA, hR, hlk⟩ := X
  intro r h1 h2 ad H locs ls e1 e2 e3 e4 e5 e6 e7 e8 e9
  refine lv_iload_n hx hb hd hi (zlv_at e9 k hl) ?_
  exact kk r h1 h2 ad H locs ls e1 e2 e3 e4 (zOk_cons (e4 _ (List.mem_of_getElem? hl)) e5) e6 e7 e8 e9
theorem z_lload_n (k : Nat) {j : Fin 4} {i : Nat} {v : Int64} (X : zX K cc own Ts R0) (hd : decode cc pc = .ok (.lload_n j, 1)) (hi : (j : Nat) = i) (hl : lv[k]? = some (i, zL v)) (kk : zS o G (zJ K cells slots (pc + 1) lv (zL v :: st) hp)) : zS o G (zJ K cells slots pc lv st hp) := by
  obtain ⟨p, l, e, R, s, m, args, below, meth, c, D, cA, A, Q, nL, ad0, n0⟩ := K
  obtain ⟨hx, hb, hml, hown, hts, hK, hA, hR, hlk⟩ := X
  intro r h1 h2 ad H locs ls e1 e2 e3 e4 e5 e6 e7 e8 e9
  refine lv_lload_n hx hb hd hi (zlv_at e9 k hl) ?_
  exact kk r h1 h2 ad H locs ls e1 e2 e3 e4 (zOk_cons (e4 _ (List.mem_of_getElem? hl)) e5) e6 e7 e8 e9
theorem z_aload_nA (k : Nat) {j : Fin 4} {i : Nat} {v : Nat} (X : zX K cc own Ts R0) (hd : decode cc pc = .ok (.aload_n j, 1)) (hi : (j : Nat) = i) (hl : lv[k]? = some (i, zA v)) (kk : zS o G (zJ K cells slots (pc + 1) lv (zA v :: st) hp)) : zS o G (zJ K cells slots pc lv st hp) := by
  obtain ⟨p, l, e, R, s, m, args, below, meth, c, D, cA, A, Q, nL, ad0, n0⟩ := K
  obtain ⟨hx, hb, hml, hown, hts, hK, hA, hR, hlk⟩ := X
  intro r h1 h2 ad H locs ls e1 e2 e3 e4 e5 e6 e7 e8 e9
  refine lv_aload_n hx hb hd hi (zlv_at e9 k hl) ?_
  exact kk r h1 h2 ad H locs ls e1 e2 e3 e4 (zOk_cons (e4 _ (List.mem_of_getElem? hl)) e5) e6 e7 e8 e9
theorem z_aload (k : Nat) {i : Nat} {v : Option Nat} (X : zX K cc own Ts R0) (hd : decode cc pc = .ok (.aload i, 2)) (hl : lv[k]? = some (i, zR v)) (kk : zS o G (zJ K cells slots (pc + 2) lv (zR v :: st) hp)) : zS o G (zJ K cells slots pc lv st hp) := by
  obtain ⟨p, l, e, R, s, m, args, below, meth, c, D, cA, A, Q, nL, ad0, n0⟩ := K
  obtain ⟨hx, hb, hml, hown, hts, hK, hA, hR, hlk⟩ := X
  intro r h1 h2 ad H locs ls e1 e2 e3 e4 e5 e6 e7 e8 e9
  have hk := kk r h1 h2 ad H locs ls e1 e2 e3 e4 (zOk_cons (e4 _ (List.mem_of_getElem? hl)) e5) e6 e7 e8 e9
  have h9 := zlv_at e9 k hl
  cases v with
  | none => exact lv_aloadN hx hb hd h9 hk
  | some a => exact lv_aload hx hb hd h9 hk
theorem z_aload_n (k : Nat) {j : Fin 4} {i : Nat} {v : Option Nat} (X : zX K cc own Ts R0) (hd : decode cc pc = .ok (.aload_n j, 1)) (hi : (j : Nat) = i) (hl : lv[k]? = some (i, zR v)) (kk : zS o G (zJ K cells slots (pc + 1) lv (zR v :: st) hp)) : zS o G (zJ K cells slots pc lv st hp) := by
  obtain ⟨p, l, e, R, s, m, args, below, meth, c, D, cA, A, Q, nL, ad0, n0⟩ := K
  obtain ⟨hx, hb, hml, hown, hts, hK, hA, hR, hlk⟩ := X
  intro r h1 h2 ad H locs ls e1 e2 e3 e4 e5 e6 e7 e8 e9
  have hk := kk r h1 h2 ad H locs ls e1 e2 e3 e4 (zOk_cons (e4 _ (List.mem_of_getElem? hl)) e5) e6 e7 e8 e9
  have h9 := zlv_at e9 k hl
  cases v with
  | none => exact lv_aload_nN hx hb hd hi h9 hk
  | some a => exact lv_aload_n hx hb hd hi h9 hk
theorem z_istore {i : Nat} {v : Int} {lv' : List (Nat × zPV)} (X : zX K cc own Ts R0) (hd : decode cc pc = .ok (.istore i, 2)) (hn : i < K.2.2.2.2.2.2.2.2.2.2.2.2.2.2.1) (hl : zset1 i (zI v) lv = lv') (kk : zS o G (zJ K cells slots (pc + 2) lv' st hp)) : zS o G (zJ K cells slots pc lv (zI v :: st) hp) := by
  obtain ⟨p, l, e, R, s, m, args, below, meth, c, D, cA, A, Q, nL, ad0, n0⟩ := K
  obtain ⟨hx, hb, hml, hown, hts, hK, hA, hR, hlk⟩ := X
  intro r h1 h2 ad H locs ls e1 e2 e3 e4 e5 e6 e7 e8 e9
  subst hl
  refine lv_istore hx hb hd e9 hn (zset1_map ad i (zI v) lv) (fun ls' e9' => ?_)
  exact kk r h1 h2 ad H locs ls' e1 e2 e3 (zset1_ok (zOk_hd e5) e4) (zOk_tl e5) e6 e7 e8 e9'
theorem z_fstore {i : Nat} {v : UInt32} {lv' : List (Nat × zPV)} (X : zX K cc own Ts R0) (hd : decode cc pc = .ok (.fstore i, 2)) (hn : i < K.2.2.2.2.2.2.2.2.2.2.2.2.2.2.1) (hl : zset1 i (zF v) lv = lv') (kk : zS o G (zJ K cells slots (pc + 2) lv' st hp)) : zS o G (zJ K cells slots pc lv (zF v :: st) hp) := by
  obtain ⟨p, l, e, R, s, m, args, below, meth, c, D, cA, A, Q, nL, ad0, n0⟩ := K
  obtain ⟨hx, hb, hml, hown, hts, hK, hA, hR, hlk⟩ := X
  intro r h1 h2 ad H locs ls e1 e2 e3 e4 e5 e6 e7 e8 e9
  subst hl
  refine lv_fstore hx hb hd e9 hn (zset1_map ad i (zF v) lv) (fun ls' e9' => ?_)
  exact kk r h1 h2 ad H locs ls' e1 e2 e3 (zset1_ok (zOk_hd e5) e4) (zOk_tl e5) e6 e7 e8 e9'
theorem z_lstore {i : Nat} {v : Int64} {lv' : List (Nat × zPV)} (X : zX K cc own Ts R0) (hd : decode cc pc = .ok (.lstore i, 2)) (hn : i + 1 < K.2.2.2.2.2.2.2.2.2.2.2.2.2.2.1) (hl : zset2 i (zL v) lv = lv') (kk : zS o G (zJ K cells slots (pc + 2) lv' st hp)) : zS o G (zJ K cells slots pc lv (zL v :: st) hp) := by
  obtain ⟨p, l, e, R, s, m, args, below, meth, c, D, cA, A, Q, nL, ad0, n0⟩ := K
  obtain ⟨hx, hb, hml, hown, hts, hK, hA, hR, hlk⟩ := X
  intro r h1 h2 ad H locs ls e1 e2 e3 e4 e5 e6 e7 e8 e9
  subst hl
  refine lv_lstore hx hb hd e9 hn (zset2_map ad i (zL v) lv) (fun ls' e9' => ?_)
  exact kk r h1 h2 ad H locs ls' e1 e2 e3 (zset2_ok (zOk_hd e5) e4) (zOk_tl e5) e6 e7 e8 e9'
theorem z_dstore {i : Nat} {v : UInt64} {lv' : List (Nat × zPV)} (X : zX K cc own Ts R0) (hd : decode cc pc = .ok (.dstore i, 2)) (hn : i + 1 < K.2.2.2.2.2.2.2.2.2.2.2.2.2.2.1) (hl : zset2 i (zD v) lv = lv') (kk : zS o G (zJ K cells slots (pc + 2) lv' st hp)) : zS o G (zJ K cells slots pc lv (zD v :: st) hp) := by
  obtain ⟨p, l, e, R, s, m, args, below, meth, c, D, cA, A, Q, nL, ad0, n0⟩ := K
  obtain ⟨hx, hb, hml, hown, hts, hK, hA, hR, hlk⟩ := X
  intro r h1 h2 ad H locs ls e1 e2 e3 e4 e5 e6 e7 e8 e9
  subst hl
  refine lv_dstore hx hb hd e9 hn (zset2_map ad i (zD v) lv) (fun ls' e9' => ?_)
  exact kk r h1 h2 ad H locs ls' e1 e2 e3 (zset2_ok (zOk_hd e5) e4) (zOk_tl e5) e6 e7 e8 e9'
theorem z_astoreA {i : Nat} {v : Nat} {lv' : List (Nat × zPV)} (X : zX K cc own Ts R0) (hd : decode cc pc = .ok (.astore i, 2)) (hn : i < K.2.2.2.2.2.2.2.2.2.2.2.2.2.2.1) (hl : zset1 i (zA v) lv = lv') (kk : zS o G (zJ K cells slots (pc + 2) lv' st hp)) : zS o G (zJ K cells slots pc lv (zA v :: st) hp) := by
  obtain ⟨p, l, e, R, s, m, args, below, meth, c, D, cA, A, Q, nL, ad0, n0⟩ := K
  obtain ⟨hx, hb, hml, hown, hts, hK, hA, hR, hlk⟩ := X
  intro r h1 h2 ad H locs ls e1 e2 e3 e4 e5 e6 e7 e8 e9
  subst hl
  refine lv_astore hx hb hd e9 hn (zset1_map ad i (zA v) lv) (fun ls' e9' => ?_)
  exact kk r h1 h2 ad H locs ls' e1 e2 e3 (zset1_ok (zOk_hd e5) e4) (zOk_tl e5) e6 e7 e8 e9'
theorem z_istore_n {j : Fin 4} {i : Nat} {v : Int} {lv' : List (Nat × zPV)} (X : zX K cc own Ts R0) (hd : decode cc pc = .ok (.istore_n j, 1)) (hi : (j : Nat) = i) (hn : i < K.2.2.2.2.2.2.2.2.2.2.2.2.2.2.1) (hl : zset1 i (zI v) lv = lv') (kk : zS o G (zJ K cells slots (pc + 1) lv' st hp)) : zS o G (zJ K cells slots pc lv (zI v :: st) hp) := by
  obtain ⟨p, l, e, R, s, m, args, below, meth, c, D, cA, A, Q, nL, ad0, n0⟩ := K
  obtain ⟨hx, hb, hml, hown, hts, hK, hA, hR, hlk⟩ := X
  intro r h1 h2 ad H locs ls e1 e2 e3 e4 e5 e6 e7 e8 e9
  subst hl
  refine lv_istore_n hx hb hd hi e9 hn (zset1_map ad i (zI v) lv) (fun ls' e9' => ?_)
  exact kk r h1 h2 ad H locs ls' e1 e2 e3 (zset1_ok (zOk_hd e5) e4) (zOk_tl e5) e6 e7 e8 e9'
theorem z_lstore_n {j : Fin 4} {i : Nat} {v : Int64} {lv' : List (Nat × zPV)} (X : zX K cc own Ts R0) (hd : decode cc pc = .ok (.lstore_n j, 1)) (hi : (j : Nat) = i) (hn : i + 1 < K.2.2.2.2.2.2.2.2.2.2.2.2.2.2.1) (hl : zset2 i (zL v) lv = lv') (kk : zS o G (zJ K cells slots (pc + 1) lv' st hp)) : zS o G (zJ K cells slots pc lv (zL v :: st) hp) := by
  obtain ⟨p, l, e, R, s, m, args, below, meth, c, D, cA, A, Q, nL, ad0, n0⟩ := K
  obtain ⟨hx, hb, hml, hown, hts, hK, hA, hR, hlk⟩ := X
  intro r h1 h2 ad H locs ls e1 e2 e3 e4 e5 e6 e7 e8 e9
  subst hl
  refine lv_lstore_n hx hb hd hi e9 hn (zset2_map ad i (zL v) lv) (fun ls' e9' => ?_)
  exact kk r h1 h2 ad H locs ls' e1 e2 e3 (zset2_ok (zOk_hd e5) e4) (zOk_tl e5) e6 e7 e8 e9'
theorem z_astore_nA {j : Fin 4} {i : Nat} {v : Nat} {lv' : List (Nat × zPV)} (X : zX K cc own Ts R0) (hd : decode cc pc = .ok (.astore_n j, 1)) (hi : (j : Nat) = i) (hn : i < K.2.2.2.2.2.2.2.2.2.2.2.2.2.2.1) (hl : zset1 i (zA v) lv = lv') (kk : zS o G (zJ K cells slots (pc + 1) lv' st hp)) : zS o G (zJ K cells slots pc lv (zA v :: st) hp) := by
  obtain ⟨p, l, e, R, s, m, args, below, meth, c, D, cA, A, Q, nL, ad0, n0⟩ := K
  obtain ⟨hx, hb, hml, hown, hts, hK, hA, hR, hlk⟩ := X
  intro r h1 h2 ad H locs ls e1 e2 e3 e4 e5 e6 e7 e8 e9
  subst hl
  refine lv_astore_n hx hb hd hi e9 hn (zset1_map ad i (zA v) lv) (fun ls' e9' => ?_)
  exact kk r h1 h2 ad H locs ls' e1 e2 e3 (zset1_ok (zOk_hd e5) e4) (zOk_tl e5) e6 e7 e8 e9'
theorem z_astore {i : Nat} {v : Option Nat} {lv' : List (Nat × zPV)} (X : zX K cc own Ts R0) (hd : decode cc pc = .ok (.astore i, 2)) (hn : i < K.2.2.2.2.2.2.2.2.2.2.2.2.2.2.1) (hl : zset1 i (zR v) lv = lv') (kk : zS o G (zJ K cells slots (pc + 2) lv' st hp)) : zS o G (zJ K cells slots pc lv (zR v :: st) hp) := by
  obtain ⟨p, l, e, R, s, m, args, below, meth, c, D, cA, A, Q, nL, ad0, n0⟩ := K
  obtain ⟨hx, hb, hml, hown, hts, hK, hA, hR, hlk⟩ := X
  intro r h1 h2 ad H locs ls e1 e2 e3 e4 e5 e6 e7 e8 e9
  subst hl
  have hk := fun ls' e9' => kk r h1 h2 ad H locs ls' e1 e2 e3 (zset1_ok (zOk_hd e5) e4) (zOk_tl e5) e6 e7 e8 e9'
  cases v with
  | none => exact lv_astoreN hx hb hd e9 hn (zset1_map ad i (zR none) lv) hk
  | some a => exact lv_astore hx hb hd e9 hn (zset1_map ad i (zR (some a)) lv) hk
theorem z_astore_n {j : Fin 4} {i : Nat} {v : Option Nat} {lv' : List (Nat × zPV)} (X : zX K cc own Ts R0) (hd : decode cc pc = .ok (.astore_n j, 1)) (hi : (j : Nat) = i) (hn : i < K.2.2.2.2.2.2.2.2.2.2.2.2.2.2.1) (hl : zset1 i (zR v) lv = lv') (kk : zS o G (zJ K cells slots (pc + 1) lv' st hp)) : zS o G (zJ K cells slots pc lv (zR v :: st) hp) := by
  obtain ⟨p, l, e, R, s, m, args, below, meth, c, D, cA, A, Q, nL, ad0, n0⟩ := K
  obtain ⟨hx, hb, hml, hown, hts, hK, hA, hR, hlk⟩ := X
  intro r h1 h2 ad H locs ls e1 e2 e3 e4 e5 e6 e7 e8 e9
  subst hl
  have hk := fun ls' e9' => kk r h1 h2 ad H locs ls' e1 e2 e3 (zset1_ok (zOk_hd e5) e4) (zOk_tl e5) e6 e7 e8 e9'
  cases v with
  | none => exact lv_astore_nN hx hb hd hi e9 hn (zset1_map ad i (zR none) lv) hk
  | some a => exact lv_astore_n hx hb hd hi e9 hn (zset1_map ad i (zR (some a)) lv) hk
theorem z_iinc {i : Nat} {n a : Int} {lv' : Int → List (Nat × zPV)} {f : Int → Option ρ} (k : Nat) (X : zX K cc own Ts R0) (hd : decode cc pc = .ok (.iinc i n, 3)) (hk : lv[k]? = some (i, zI a)) (hn : i < K.2.2.2.2.2.2.2.2.2.2.2.2.2.2.1) (hl : ∀ v, zset1 i (zI v) lv = lv' v) (kk : ∀ v, inR v → v = a + n → zS (f v) G (zJ K cells slots (pc + 3) (lv' v) st hp)) : zS ((zchk (a + n)).bind f) G (zJ K cells slots pc lv st hp) := by
  obtain ⟨p, l, e, R, s, m, args, below, meth, c, D, cA, A, Q, nL, ad0, n0⟩ := K
  obtain ⟨hx, hb, hml, hown, hts, hK, hA, hR, hlk⟩ := X
  intro r h1 h2 ad H locs ls e1 e2 e3 e4 e5 e6 e7 e8 e9
  obtain ⟨v, hv, h1⟩ := Option.bind_eq_some_iff.mp h1
  obtain ⟨hr, rfl⟩ := zchk_some hv
  refine lv_iinc hx hb hd e9 (k := k) (x := Int32.ofInt a) (by rw [List.getElem?_map, hk]; rfl) (Int32.ofInt_add a n).symm hn (zset1_map ad i (zI (a + n)) lv) (fun ls' e9' => ?_)
  rw [hl] at e9'
  exact kk _ hr rfl r h1 h2 ad H locs ls' e1 e2 e3 (by rw [← hl]; exact zset1_ok hr e4) e5 e6 e7 e8 e9'
theorem z_iconst {n z : Int} (X : zX K cc own Ts R0) (hd : decode cc pc = .ok (.iconst n, 1)) (hv : n = z) (hz : inR z) (kk : zS o G (zJ K cells slots (pc + 1) lv (zI z :: st) hp)) : zS o G (zJ K cells slots pc lv st hp) := by
  obtain ⟨p, l, e, R, s, m, args, below, meth, c, D, cA, A, Q, nL, ad0, n0⟩ := K
  obtain ⟨hx, hb, hml, hown, hts, hK, hA, hR, hlk⟩ := X
  intro r h1 h2 ad H locs ls e1 e2 e3 e4 e5 e6 e7 e8 e9
  refine lv_iconst hx hb hd (by rw [hv]) ?_
  exact kk r h1 h2 ad H locs ls e1 e2 e3 e4 (zOk_cons hz e5) e6 e7 e8 e9
theorem z_bipush {n z : Int} (X : zX K cc own Ts R0) (hd : decode cc pc = .ok (.bipush n, 2)) (hv : (Int8.ofInt n).toInt32 = Int32.ofInt z) (hz : inR z) (kk : zS o G (zJ K cells slots (pc + 2) lv (zI z :: st) hp)) : zS o G (zJ K cells slots pc lv st hp) := by
  obtain ⟨p, l, e, R, s, m, args, below, meth, c, D, cA, A, Q, nL, ad0, n0⟩ := K
  obtain ⟨hx, hb, hml, hown, hts, hK, hA, hR, hlk⟩ := X
  intro r h1 h2 ad H locs ls e1 e2 e3 e4 e5 e6 e7 e8 e9
  refine lv_bipush hx hb hd hv ?_
  exact kk r h1 h2 ad H locs ls e1 e2 e3 e4 (zOk_cons hz e5) e6 e7 e8 e9
theorem z_sipush {n z : Int} (X : zX K cc own Ts R0) (hd : decode cc pc = .ok (.sipush n, 3)) (hv : (Int16.ofInt n).toInt32 = Int32.ofInt z) (hz : inR z) (kk : zS o G (zJ K cells slots (pc + 3) lv (zI z :: st) hp)) : zS o G (zJ K cells slots pc lv st hp) := by
  obtain ⟨p, l, e, R, s, m, args, below, meth, c, D, cA, A, Q, nL, ad0, n0⟩ := K
  obtain ⟨hx, hb, hml, hown, hts, hK, hA, hR, hlk⟩ := X
  intro r h1 h2 ad H locs ls e1 e2 e3 e4 e5 e6 e7 e8 e9
  refine lv_sipush hx hb hd hv ?_
  exact kk r h1 h2 ad H locs ls e1 e2 e3 e4 (zOk_cons hz e5) e6 e7 e8 e9
theorem z_ldc {idx : Nat} {z : Int} (X : zX K cc own Ts R0) (hd : decode cc pc = .ok (.ldc idx, 2)) (hw : Cond.constant own idx (Int32.ofInt z) ∈ Ts) (hz : inR z) (kk : zS o G (zJ K cells slots (pc + 2) lv (zI z :: st) hp)) : zS o G (zJ K cells slots pc lv st hp) := by
  obtain ⟨p, l, e, R, s, m, args, below, meth, c, D, cA, A, Q, nL, ad0, n0⟩ := K
  obtain ⟨hx, hb, hml, hown, hts, hK, hA, hR, hlk⟩ := X
  intro r h1 h2 ad H locs ls e1 e2 e3 e4 e5 e6 e7 e8 e9
  refine lv_ldc hx hb hown (hts _ hw) hd ?_
  exact kk r h1 h2 ad H locs ls e1 e2 e3 e4 (zOk_cons hz e5) e6 e7 e8 e9
theorem z_ldc2 {idx : Nat} {z : Int64} (X : zX K cc own Ts R0) (hd : decode cc pc = .ok (.ldc2_w idx, 3)) (hw : Cond.constantLong own idx z ∈ Ts) (kk : zS o G (zJ K cells slots (pc + 3) lv (zL z :: st) hp)) : zS o G (zJ K cells slots pc lv st hp) := by
  obtain ⟨p, l, e, R, s, m, args, below, meth, c, D, cA, A, Q, nL, ad0, n0⟩ := K
  obtain ⟨hx, hb, hml, hown, hts, hK, hA, hR, hlk⟩ := X
  intro r h1 h2 ad H locs ls e1 e2 e3 e4 e5 e6 e7 e8 e9
  refine lv_ldc2 hx hb hown (hts _ hw) hd ?_
  exact kk r h1 h2 ad H locs ls e1 e2 e3 e4 (zOk_cons trivial e5) e6 e7 e8 e9
theorem z_lconst {n : Fin 2} {z : Int64} (X : zX K cc own Ts R0) (hd : decode cc pc = .ok (.lconst n, 1)) (hv : Int64.ofNat (n : Nat) = z) (kk : zS o G (zJ K cells slots (pc + 1) lv (zL z :: st) hp)) : zS o G (zJ K cells slots pc lv st hp) := by
  obtain ⟨p, l, e, R, s, m, args, below, meth, c, D, cA, A, Q, nL, ad0, n0⟩ := K
  obtain ⟨hx, hb, hml, hown, hts, hK, hA, hR, hlk⟩ := X
  intro r h1 h2 ad H locs ls e1 e2 e3 e4 e5 e6 e7 e8 e9
  refine lv_lconst hx hb hd hv ?_
  exact kk r h1 h2 ad H locs ls e1 e2 e3 e4 (zOk_cons trivial e5) e6 e7 e8 e9
theorem z_null (X : zX K cc own Ts R0) (hd : decode cc pc = .ok (.aconst_null, 1)) (kk : zS o G (zJ K cells slots (pc + 1) lv (zR none :: st) hp)) : zS o G (zJ K cells slots pc lv st hp) := by
  obtain ⟨p, l, e, R, s, m, args, below, meth, c, D, cA, A, Q, nL, ad0, n0⟩ := K
  obtain ⟨hx, hb, hml, hown, hts, hK, hA, hR, hlk⟩ := X
  intro r h1 h2 ad H locs ls e1 e2 e3 e4 e5 e6 e7 e8 e9
  refine lv_null hx hb hd ?_
  exact kk r h1 h2 ad H locs ls e1 e2 e3 e4 (zOk_cons (fun _ h => by cases h) e5) e6 e7 e8 e9
theorem z_dup {v : zPV} (X : zX K cc own Ts R0) (hd : decode cc pc = .ok (.dup, 1)) (hc : zcat v = 1) (kk : zS o G (zJ K cells slots (pc + 1) lv (v :: v :: st) hp)) : zS o G (zJ K cells slots pc lv (v :: st) hp) := by
  obtain ⟨p, l, e, R, s, m, args, below, meth, c, D, cA, A, Q, nL, ad0, n0⟩ := K
  obtain ⟨hx, hb, hml, hown, hts, hK, hA, hR, hlk⟩ := X
  intro r h1 h2 ad H locs ls e1 e2 e3 e4 e5 e6 e7 e8 e9
  refine lv_dup hx hb hd (by rw [zcat_T]; exact hc) ?_
  exact kk r h1 h2 ad H locs ls e1 e2 e3 e4 (zOk_cons (zOk_hd e5) e5) e6 e7 e8 e9
theorem z_dup2 {v u : zPV} (X : zX K cc own Ts R0) (hd : decode cc pc = .ok (.dup2, 1)) (hc : zcat v = 1) (hc2 : zcat u = 1) (kk : zS o G (zJ K cells slots (pc + 1) lv (v :: u :: v :: u :: st) hp)) : zS o G (zJ K cells slots pc lv (v :: u :: st) hp) := by
  obtain ⟨p, l, e, R, s, m, args, below, meth, c, D, cA, A, Q, nL, ad0, n0⟩ := K
  obtain ⟨hx, hb, hml, hown, hts, hK, hA, hR, hlk⟩ := X
  intro r h1 h2 ad H locs ls e1 e2 e3 e4 e5 e6 e7 e8 e9
  refine lv_dup2_11 hx hb hd (by rw [zcat_T]; exact hc) (by rw [zcat_T]; exact hc2) ?_
  exact kk r h1 h2 ad H locs ls e1 e2 e3 e4 (zOk_cons (zOk_hd e5) (zOk_cons (zOk_hd (zOk_tl e5)) e5)) e6 e7 e8 e9
theorem z_pop {v : zPV} (X : zX K cc own Ts R0) (hd : decode cc pc = .ok (.pop, 1)) (hc : zcat v = 1) (kk : zS o G (zJ K cells slots (pc + 1) lv st hp)) : zS o G (zJ K cells slots pc lv (v :: st) hp) := by
  obtain ⟨p, l, e, R, s, m, args, below, meth, c, D, cA, A, Q, nL, ad0, n0⟩ := K
  obtain ⟨hx, hb, hml, hown, hts, hK, hA, hR, hlk⟩ := X
  intro r h1 h2 ad H locs ls e1 e2 e3 e4 e5 e6 e7 e8 e9
  refine lv_pop hx hb hd (by rw [zcat_T]; exact hc) ?_
  exact kk r h1 h2 ad H locs ls e1 e2 e3 e4 (zOk_tl e5) e6 e7 e8 e9
theorem z_goto {off : Int} (tgt : Nat) (X : zX K cc own Ts R0) (hd : decode cc pc = .ok (.goto off, 3)) (ht : (pc : Int) + off = (tgt : Int)) (kk : zS o G (zJ K cells slots tgt lv st hp)) : zS o G (zJ K cells slots pc lv st hp) := by
  obtain ⟨p, l, e, R, s, m, args, below, meth, c, D, cA, A, Q, nL, ad0, n0⟩ := K
  obtain ⟨hx, hb, hml, hown, hts, hK, hA, hR, hlk⟩ := X
  intro r h1 h2 ad H locs ls e1 e2 e3 e4 e5 e6 e7 e8 e9
  refine lv_goto hx hb hd ht ?_
  exact kk r h1 h2 ad H locs ls e1 e2 e3 e4 e5 e6 e7 e8 e9
theorem z_iadd {a b : Int} {f : Int → Option ρ} (X : zX K cc own Ts R0) (hd : decode cc pc = .ok (.iadd, 1)) (kk : ∀ v, inR v → v = a + b → zS (f v) G (zJ K cells slots (pc + 1) lv (zI v :: st) hp)) : zS ((zchk (a + b)).bind f) G (zJ K cells slots pc lv (zI b :: zI a :: st) hp) := by
  obtain ⟨p, l, e, R, s, m, args, below, meth, c, D, cA, A, Q, nL, ad0, n0⟩ := K
  obtain ⟨hx, hb, hml, hown, hts, hK, hA, hR, hlk⟩ := X
  intro r h1 h2 ad H locs ls e1 e2 e3 e4 e5 e6 e7 e8 e9
  obtain ⟨v, hv, h1⟩ := Option.bind_eq_some_iff.mp h1
  obtain ⟨hr, rfl⟩ := zchk_some hv
  refine lv_iadd hx hb hd ?_
  rw [← Int32.ofInt_add]
  exact kk _ hr rfl r h1 h2 ad H locs ls e1 e2 e3 e4 (zOk_cons hr (zOk_tl (zOk_tl e5))) e6 e7 e8 e9
theorem z_isub {a b : Int} {f : Int → Option ρ} (X : zX K cc own Ts R0) (hd : decode cc pc = .ok (.isub, 1)) (kk : ∀ v, inR v → v = a - b → zS (f v) G (zJ K cells slots (pc + 1) lv (zI v :: st) hp)) : zS ((zchk (a - b)).bind f) G (zJ K cells slots pc lv (zI b :: zI a :: st) hp) := by
  obtain ⟨p, l, e, R, s, m, args, below, meth, c, D, cA, A, Q, nL, ad0, n0⟩ := K
  obtain ⟨hx, hb, hml, hown, hts, hK, hA, hR, hlk⟩ := X
  intro r h1 h2 ad H locs ls e1 e2 e3 e4 e5 e6 e7 e8 e9
  obtain ⟨v, hv, h1⟩ := Option.bind_eq_some_iff.mp h1
  obtain ⟨hr, rfl⟩ := zchk_some hv
  refine lv_isub hx hb hd ?_
  rw [← Int32.ofInt_sub]
  exact kk _ hr rfl r h1 h2 ad H locs ls e1 e2 e3 e4 (zOk_cons hr (zOk_tl (zOk_tl e5))) e6 e7 e8 e9
theorem z_imul {a b : Int} {f : Int → Option ρ} (X : zX K cc own Ts R0) (hd : decode cc pc = .ok (.imul, 1)) (kk : ∀ v, inR v → v = a * b → zS (f v) G (zJ K cells slots (pc + 1) lv (zI v :: st) hp)) : zS ((zchk (a * b)).bind f) G (zJ K cells slots pc lv (zI b :: zI a :: st) hp) := by
  obtain ⟨p, l, e, R, s, m, args, below, meth, c, D, cA, A, Q, nL, ad0, n0⟩ := K
  obtain ⟨hx, hb, hml, hown, hts, hK, hA, hR, hlk⟩ := X
  intro r h1 h2 ad H locs ls e1 e2 e3 e4 e5 e6 e7 e8 e9
  obtain ⟨v, hv, h1⟩ := Option.bind_eq_some_iff.mp h1
  obtain ⟨hr, rfl⟩ := zchk_some hv
  refine lv_imul hx hb hd ?_
  rw [← Int32.ofInt_mul]
  exact kk _ hr rfl r h1 h2 ad H locs ls e1 e2 e3 e4 (zOk_cons hr (zOk_tl (zOk_tl e5))) e6 e7 e8 e9
theorem z_ineg {a : Int} {f : Int → Option ρ} (X : zX K cc own Ts R0) (hd : decode cc pc = .ok (.ineg, 1)) (kk : ∀ v, inR v → v = -a → zS (f v) G (zJ K cells slots (pc + 1) lv (zI v :: st) hp)) : zS ((zchk (-a)).bind f) G (zJ K cells slots pc lv (zI a :: st) hp) := by
  obtain ⟨p, l, e, R, s, m, args, below, meth, c, D, cA, A, Q, nL, ad0, n0⟩ := K
  obtain ⟨hx, hb, hml, hown, hts, hK, hA, hR, hlk⟩ := X
  intro r h1 h2 ad H locs ls e1 e2 e3 e4 e5 e6 e7 e8 e9
  obtain ⟨v, hv, h1⟩ := Option.bind_eq_some_iff.mp h1
  obtain ⟨hr, rfl⟩ := zchk_some hv
  refine lv_ineg hx hb hd ?_
  rw [← Int32.ofInt_neg]
  exact kk _ hr rfl r h1 h2 ad H locs ls e1 e2 e3 e4 (zOk_cons hr (zOk_tl e5)) e6 e7 e8 e9
theorem z_idiv {a b : Int} {f : Int → Option ρ} (X : zX K cc own Ts R0) (hd : decode cc pc = .ok (.idiv, 1)) (kk : ∀ v, zS (f v) G (zJ K cells slots (pc + 1) lv (zI v :: st) hp)) : zS ((zdiv a b).bind f) G (zJ K cells slots pc lv (zI b :: zI a :: st) hp) := by
  obtain ⟨p, l, e, R, s, m, args, below, meth, c, D, cA, A, Q, nL, ad0, n0⟩ := K
  obtain ⟨hx, hb, hml, hown, hts, hK, hA, hR, hlk⟩ := X
  intro r h1 h2 ad H locs ls e1 e2 e3 e4 e5 e6 e7 e8 e9
  obtain ⟨v, hv, h1⟩ := Option.bind_eq_some_iff.mp h1
  unfold zdiv at hv
  split at hv
  · rename_i hz
    cases hv
    have hbR : inR b := zOk_hd e5
    have haR : inR a := zOk_hd (zOk_tl e5)
    refine lv_idiv hx hb hd (fun h0 => ?_) ?_
    · rw [z32_0, z32_eq hbR inR_0] at h0
      omega
    · rw [z32_div haR hbR hz.1 hz.2]
      refine kk _ r h1 h2 ad H locs ls e1 e2 e3 e4 (zOk_cons ?_ (zOk_tl (zOk_tl e5))) e6 e7 e8 e9
      have := Int.ediv_le_self b hz.1
      have := Int.ediv_nonneg hz.1 (Int.le_of_lt hz.2)
      exact ⟨by have := haR.2; omega, by have := haR.2; have := hbR.2; omega⟩
  · cases hv
theorem z_irem {a b : Int} {f : Int → Option ρ} (X : zX K cc own Ts R0) (hd : decode cc pc = .ok (.irem, 1)) (kk : ∀ v, zS (f v) G (zJ K cells slots (pc + 1) lv (zI v :: st) hp)) : zS ((zrem a b).bind f) G (zJ K cells slots pc lv (zI b :: zI a :: st) hp) := by
  obtain ⟨p, l, e, R, s, m, args, below, meth, c, D, cA, A, Q, nL, ad0, n0⟩ := K
  obtain ⟨hx, hb, hml, hown, hts, hK, hA, hR, hlk⟩ := X
  intro r h1 h2 ad H locs ls e1 e2 e3 e4 e5 e6 e7 e8 e9
  obtain ⟨v, hv, h1⟩ := Option.bind_eq_some_iff.mp h1
  unfold zrem at hv
  split at hv
  · rename_i hz
    cases hv
    have hbR : inR b := zOk_hd e5
    have haR : inR a := zOk_hd (zOk_tl e5)
    refine lv_irem hx hb hd (fun h0 => ?_) ?_
    · rw [z32_0, z32_eq hbR inR_0] at h0
      omega
    · rw [z32_rem haR hbR hz.1 hz.2]
      refine kk _ r h1 h2 ad H locs ls e1 e2 e3 e4 (zOk_cons ?_ (zOk_tl (zOk_tl e5))) e6 e7 e8 e9
      have := Int.emod_nonneg a (b := b) (by omega)
      have := Int.emod_lt_of_pos a hz.2
      exact ⟨by have := haR.2; omega, by have := haR.2; have := hbR.2; omega⟩
  · cases hv
theorem z_ior {a b : Int} {f : Int → Option ρ} (X : zX K cc own Ts R0) (hd : decode cc pc = .ok (.ior, 1)) (kk : ∀ v, zS (f v) G (zJ K cells slots (pc + 1) lv (zI v :: st) hp)) : zS ((zor a b).bind f) G (zJ K cells slots pc lv (zI b :: zI a :: st) hp) := by
  obtain ⟨p, l, e, R, s, m, args, below, meth, c, D, cA, A, Q, nL, ad0, n0⟩ := K
  obtain ⟨hx, hb, hml, hown, hts, hK, hA, hR, hlk⟩ := X
  intro r h1 h2 ad H locs ls e1 e2 e3 e4 e5 e6 e7 e8 e9
  obtain ⟨v, hv, h1⟩ := Option.bind_eq_some_iff.mp h1
  unfold zor at hv
  split at hv
  · rename_i hz
    refine lv_ior hx hb hd ?_
    obtain ⟨ha | ha, hb9 | hb9⟩ := hz <;> subst ha <;> subst hb9 <;> cases hv <;> exact kk _ r h1 h2 ad H locs ls e1 e2 e3 e4 (zOk_cons (by decide : (-2147483648 : Int) ≤ _ ∧ _ ≤ (2147483647 : Int)) (zOk_tl (zOk_tl e5))) e6 e7 e8 e9
  · cases hv
theorem z_iand {a b : Int} {f : Int → Option ρ} (X : zX K cc own Ts R0) (hd : decode cc pc = .ok (.iand, 1)) (kk : ∀ v, zS (f v) G (zJ K cells slots (pc + 1) lv (zI v :: st) hp)) : zS ((zand a b).bind f) G (zJ K cells slots pc lv (zI b :: zI a :: st) hp) := by
  obtain ⟨p, l, e, R, s, m, args, below, meth, c, D, cA, A, Q, nL, ad0, n0⟩ := K
  obtain ⟨hx, hb, hml, hown, hts, hK, hA, hR, hlk⟩ := X
  intro r h1 h2 ad H locs ls e1 e2 e3 e4 e5 e6 e7 e8 e9
  obtain ⟨v, hv, h1⟩ := Option.bind_eq_some_iff.mp h1
  unfold zand at hv
  split at hv
  · rename_i hz
    have haR : inR a := zOk_hd (zOk_tl e5)
    refine lv_iand hx hb hd ?_
    cases hv
    have key : ∀ k : Nat, k ≤ 5 → ∀ mm : Int32, mm.toBitVec.toNat = 2 ^ k - 1 → Int32.ofInt a &&& mm = Int32.ofInt (a % (2 ^ k : Nat)) := by
      intro k hk mm hm
      rw [pk_and _ k hm]
      have e0 : ((Int32.ofInt a).toBitVec.toNat : Int) = a % 4294967296 := by
        show ((BitVec.ofInt 32 a).toNat : Int) = _
        rw [BitVec.toNat_ofInt]
        have := Int.emod_nonneg a (show (4294967296 : Int) ≠ 0 by decide)
        show ((a % 4294967296).toNat : Int) = _
        omega
      have e1 : (((Int32.ofInt a).toBitVec.toNat % 2 ^ k : Nat) : Int) = a % (2 ^ k : Nat) := by
        rw [Int.natCast_emod, e0]
        have : k = 0 ∨ k = 1 ∨ k = 2 ∨ k = 3 ∨ k = 4 ∨ k = 5 := by omega
        rcases this with rfl | rfl | rfl | rfl | rfl | rfl <;> simp <;> omega
      refine (z32_natI _).symm.trans ?_
      exact congrArg Int32.ofInt e1
    rcases hz with rfl | rfl
    · rw [key 1 (by decide) (Int32.ofInt 1) rfl]
      refine kk _ r h1 h2 ad H locs ls e1 e2 e3 e4 (zOk_cons ?_ (zOk_tl (zOk_tl e5))) e6 e7 e8 e9
      exact ⟨by omega, by omega⟩
    · rw [key 5 (by decide) (Int32.ofInt 31) rfl]
      refine kk _ r h1 h2 ad H locs ls e1 e2 e3 e4 (zOk_cons ?_ (zOk_tl (zOk_tl e5))) e6 e7 e8 e9
      exact ⟨by omega, by omega⟩
  · cases hv
theorem z_icmp_eq {a b off : Int} {o1 o2 : Option ρ} (tgt : Nat) (X : zX K cc own Ts R0) (hd : decode cc pc = .ok (.if_icmp .eq off, 3)) (ht : (pc : Int) + off = (tgt : Int)) (k1 : a = b → zS o1 G (zJ K cells slots tgt lv st hp)) (k2 : ¬ a = b → zS o2 G (zJ K cells slots (pc + 3) lv st hp)) : zS (if a = b then o1 else o2) G (zJ K cells slots pc lv (zI b :: zI a :: st) hp) := by
  obtain ⟨p, l, e, R, s, m, args, below, meth, c, D, cA, A, Q, nL, ad0, n0⟩ := K
  obtain ⟨hx, hb, hml, hown, hts, hK, hA, hR, hlk⟩ := X
  intro r h1 h2 ad H locs ls e1 e2 e3 e4 e5 e6 e7 e8 e9
  have hbR : inR b := zOk_hd e5
  have haR : inR a := zOk_hd (zOk_tl e5)
  refine lv_icmp_eq (tgt := tgt) hx hb hd ht (fun hc => ?_) (fun hc => ?_)
  · rw [z32_eq haR hbR] at hc
    rw [if_pos hc] at h1
    exact k1 hc r h1 h2 ad H locs ls e1 e2 e3 e4 (zOk_tl (zOk_tl e5)) e6 e7 e8 e9
  · rw [z32_eq haR hbR] at hc
    rw [if_neg hc] at h1
    exact k2 hc r h1 h2 ad H locs ls e1 e2 e3 e4 (zOk_tl (zOk_tl e5)) e6 e7 e8 e9
theorem z_if_eq {a off : Int} {o1 o2 : Option ρ} (tgt : Nat) (X : zX K cc own Ts R0) (hd : decode cc pc = .ok (.ifCond .eq off, 3)) (ht : (pc : Int) + off = (tgt : Int)) (k1 : a = 0 → zS o1 G (zJ K cells slots tgt lv st hp)) (k2 : ¬ a = 0 → zS o2 G (zJ K cells slots (pc + 3) lv st hp)) : zS (if a = 0 then o1 else o2) G (zJ K cells slots pc lv (zI a :: st) hp) := by
  obtain ⟨p, l, e, R, s, m, args, below, meth, c, D, cA, A, Q, nL, ad0, n0⟩ := K
  obtain ⟨hx, hb, hml, hown, hts, hK, hA, hR, hlk⟩ := X
  intro r h1 h2 ad H locs ls e1 e2 e3 e4 e5 e6 e7 e8 e9
  have haR : inR a := zOk_hd e5
  refine lv_if_eq (tgt := tgt) hx hb hd ht (fun hc => ?_) (fun hc => ?_)
  · rw [z32_0, z32_eq haR inR_0] at hc
    rw [if_pos hc] at h1
    exact k1 hc r h1 h2 ad H locs ls e1 e2 e3 e4 (zOk_tl e5) e6 e7 e8 e9
  · rw [z32_0, z32_eq haR inR_0] at hc
    rw [if_neg hc] at h1
    exact k2 hc r h1 h2 ad H locs ls e1 e2 e3 e4 (zOk_tl e5) e6 e7 e8 e9
theorem z_icmp_ne {a b off : Int} {o1 o2 : Option ρ} (tgt : Nat) (X : zX K cc own Ts R0) (hd : decode cc pc = .ok (.if_icmp .ne off, 3)) (ht : (pc : Int) + off = (tgt : Int)) (k1 : ¬ a = b → zS o1 G (zJ K cells slots tgt lv st hp)) (k2 : a = b → zS o2 G (zJ K cells slots (pc + 3) lv st hp)) : zS (if a = b then o2 else o1) G (zJ K cells slots pc lv (zI b :: zI a :: st) hp) := by
  obtain ⟨p, l, e, R, s, m, args, below, meth, c, D, cA, A, Q, nL, ad0, n0⟩ := K
  obtain ⟨hx, hb, hml, hown, hts, hK, hA, hR, hlk⟩ := X
  intro r h1 h2 ad H locs ls e1 e2 e3 e4 e5 e6 e7 e8 e9
  have hbR : inR b := zOk_hd e5
  have haR : inR a := zOk_hd (zOk_tl e5)
  refine lv_icmp_ne (tgt := tgt) hx hb hd ht (fun hc => ?_) (fun hc => ?_)
  · rw [z32_eq haR hbR] at hc
    rw [if_neg hc] at h1
    exact k1 hc r h1 h2 ad H locs ls e1 e2 e3 e4 (zOk_tl (zOk_tl e5)) e6 e7 e8 e9
  · rw [z32_eq haR hbR] at hc
    rw [if_pos hc] at h1
    exact k2 hc r h1 h2 ad H locs ls e1 e2 e3 e4 (zOk_tl (zOk_tl e5)) e6 e7 e8 e9
theorem z_if_ne {a off : Int} {o1 o2 : Option ρ} (tgt : Nat) (X : zX K cc own Ts R0) (hd : decode cc pc = .ok (.ifCond .ne off, 3)) (ht : (pc : Int) + off = (tgt : Int)) (k1 : ¬ a = 0 → zS o1 G (zJ K cells slots tgt lv st hp)) (k2 : a = 0 → zS o2 G (zJ K cells slots (pc + 3) lv st hp)) : zS (if a = 0 then o2 else o1) G (zJ K cells slots pc lv (zI a :: st) hp) := by
  obtain ⟨p, l, e, R, s, m, args, below, meth, c, D, cA, A, Q, nL, ad0, n0⟩ := K
  obtain ⟨hx, hb, hml, hown, hts, hK, hA, hR, hlk⟩ := X
  intro r h1 h2 ad H locs ls e1 e2 e3 e4 e5 e6 e7 e8 e9
  have haR : inR a := zOk_hd e5
  refine lv_if_ne (tgt := tgt) hx hb hd ht (fun hc => ?_) (fun hc => ?_)
  · rw [z32_0, z32_eq haR inR_0] at hc
    rw [if_neg hc] at h1
    exact k1 hc r h1 h2 ad H locs ls e1 e2 e3 e4 (zOk_tl e5) e6 e7 e8 e9
  · rw [z32_0, z32_eq haR inR_0] at hc
    rw [if_pos hc] at h1
    exact k2 hc r h1 h2 ad H locs ls e1 e2 e3 e4 (zOk_tl e5) e6 e7 e8 e9
theorem z_icmp_lt {a b off : Int} {o1 o2 : Option ρ} (tgt : Nat) (X : zX K cc own Ts R0) (hd : decode cc pc = .ok (.if_icmp .lt off, 3)) (ht : (pc : Int) + off = (tgt : Int)) (k1 : a < b → zS o1 G (zJ K cells slots tgt lv st hp)) (k2 : ¬ a < b → zS o2 G (zJ K cells slots (pc + 3) lv st hp)) : zS (if a < b then o1 else o2) G (zJ K cells slots pc lv (zI b :: zI a :: st) hp) := by
  obtain ⟨p, l, e, R, s, m, args, below, meth, c, D, cA, A, Q, nL, ad0, n0⟩ := K
  obtain ⟨hx, hb, hml, hown, hts, hK, hA, hR, hlk⟩ := X
  intro r h1 h2 ad H locs ls e1 e2 e3 e4 e5 e6 e7 e8 e9
  have hbR : inR b := zOk_hd e5
  have haR : inR a := zOk_hd (zOk_tl e5)
  refine lv_icmp_lt (tgt := tgt) hx hb hd ht (fun hc => ?_) (fun hc => ?_)
  · rw [z32_lt haR hbR] at hc
    rw [if_pos hc] at h1
    exact k1 hc r h1 h2 ad H locs ls e1 e2 e3 e4 (zOk_tl (zOk_tl e5)) e6 e7 e8 e9
  · rw [z32_lt haR hbR] at hc
    rw [if_neg hc] at h1
    exact k2 hc r h1 h2 ad H locs ls e1 e2 e3 e4 (zOk_tl (zOk_tl e5)) e6 e7 e8 e9
theorem z_if_lt {a off : Int} {o1 o2 : Option ρ} (tgt : Nat) (X : zX K cc own Ts R0) (hd : decode cc pc = .ok (.ifCond .lt off, 3)) (ht : (pc : Int) + off = (tgt : Int)) (k1 : a < 0 → zS o1 G (zJ K cells slots tgt lv st hp)) (k2 : ¬ a < 0 → zS o2 G (zJ K cells slots (pc + 3) lv st hp)) : zS (if a < 0 then o1 else o2) G (zJ K cells slots pc lv (zI a :: st) hp) := by
  obtain ⟨p, l, e, R, s, m, args, below, meth, c, D, cA, A, Q, nL, ad0, n0⟩ := K
  obtain ⟨hx, hb, hml, hown, hts, hK, hA, hR, hlk⟩ := X
  intro r h1 h2 ad H locs ls e1 e2 e3 e4 e5 e6 e7 e8 e9
  have haR : inR a := zOk_hd e5
  refine lv_if_lt (tgt := tgt) hx hb hd ht (fun hc => ?_) (fun hc => ?_)
  · rw [z32_0, z32_lt haR inR_0] at hc
    rw [if_pos hc] at h1
    exact k1 hc r h1 h2 ad H locs ls e1 e2 e3 e4 (zOk_tl e5) e6 e7 e8 e9
  · rw [z32_0, z32_lt haR inR_0] at hc
    rw [if_neg hc] at h1
    exact k2 hc r h1 h2 ad H locs ls e1 e2 e3 e4 (zOk_tl e5) e6 e7 e8 e9
theorem z_icmp_ge {a b off : Int} {o1 o2 : Option ρ} (tgt : Nat) (X : zX K cc own Ts R0) (hd : decode cc pc = .ok (.if_icmp .ge off, 3)) (ht : (pc : Int) + off = (tgt : Int)) (k1 : b ≤ a → zS o1 G (zJ K cells slots tgt lv st hp)) (k2 : ¬ b ≤ a → zS o2 G (zJ K cells slots (pc + 3) lv st hp)) : zS (if b ≤ a then o1 else o2) G (zJ K cells slots pc lv (zI b :: zI a :: st) hp) := by
  obtain ⟨p, l, e, R, s, m, args, below, meth, c, D, cA, A, Q, nL, ad0, n0⟩ := K
  obtain ⟨hx, hb, hml, hown, hts, hK, hA, hR, hlk⟩ := X
  intro r h1 h2 ad H locs ls e1 e2 e3 e4 e5 e6 e7 e8 e9
  have hbR : inR b := zOk_hd e5
  have haR : inR a := zOk_hd (zOk_tl e5)
  refine lv_icmp_ge (tgt := tgt) hx hb hd ht (fun hc => ?_) (fun hc => ?_)
  · rw [z32_le hbR haR] at hc
    rw [if_pos hc] at h1
    exact k1 hc r h1 h2 ad H locs ls e1 e2 e3 e4 (zOk_tl (zOk_tl e5)) e6 e7 e8 e9
  · rw [z32_le hbR haR] at hc
    rw [if_neg hc] at h1
    exact k2 hc r h1 h2 ad H locs ls e1 e2 e3 e4 (zOk_tl (zOk_tl e5)) e6 e7 e8 e9
theorem z_if_ge {a off : Int} {o1 o2 : Option ρ} (tgt : Nat) (X : zX K cc own Ts R0) (hd : decode cc pc = .ok (.ifCond .ge off, 3)) (ht : (pc : Int) + off = (tgt : Int)) (k1 : 0 ≤ a → zS o1 G (zJ K cells slots tgt lv st hp)) (k2 : ¬ 0 ≤ a → zS o2 G (zJ K cells slots (pc + 3) lv st hp)) : zS (if 0 ≤ a then o1 else o2) G (zJ K cells slots pc lv (zI a :: st) hp) := by
  obtain ⟨p, l, e, R, s, m, args, below, meth, c, D, cA, A, Q, nL, ad0, n0⟩ := K
  obtain ⟨hx, hb, hml, hown, hts, hK, hA, hR, hlk⟩ := X
  intro r h1 h2 ad H locs ls e1 e2 e3 e4 e5 e6 e7 e8 e9
  have haR : inR a := zOk_hd e5
  refine lv_if_ge (tgt := tgt) hx hb hd ht (fun hc => ?_) (fun hc => ?_)
  · rw [z32_0, z32_le inR_0 haR] at hc
    rw [if_pos hc] at h1
    exact k1 hc r h1 h2 ad H locs ls e1 e2 e3 e4 (zOk_tl e5) e6 e7 e8 e9
  · rw [z32_0, z32_le inR_0 haR] at hc
    rw [if_neg hc] at h1
    exact k2 hc r h1 h2 ad H locs ls e1 e2 e3 e4 (zOk_tl e5) e6 e7 e8 e9
theorem z_icmp_gt {a b off : Int} {o1 o2 : Option ρ} (tgt : Nat) (X : zX K cc own Ts R0) (hd : decode cc pc = .ok (.if_icmp .gt off, 3)) (ht : (pc : Int) + off = (tgt : Int)) (k1 : b < a → zS o1 G (zJ K cells slots tgt lv st hp)) (k2 : ¬ b < a → zS o2 G (zJ K cells slots (pc + 3) lv st hp)) : zS (if b < a then o1 else o2) G (zJ K cells slots pc lv (zI b :: zI a :: st) hp) := by
  obtain ⟨p, l, e, R, s, m, args, below, meth, c, D, cA, A, Q, nL, ad0, n0⟩ := K
  obtain ⟨hx, hb, hml, hown, hts, hK, hA, hR, hlk⟩ := X
  intro r h1 h2 ad H locs ls e1 e2 e3 e4 e5 e6 e7 e8 e9
  have hbR : inR b := zOk_hd e5
  have haR : inR a := zOk_hd (zOk_tl e5)
  refine lv_icmp_gt (tgt := tgt) hx hb hd ht (fun hc => ?_) (fun hc => ?_)
  · rw [z32_lt hbR haR] at hc
    rw [if_pos hc] at h1
    exact k1 hc r h1 h2 ad H locs ls e1 e2 e3 e4 (zOk_tl (zOk_tl e5)) e6 e7 e8 e9
  · rw [z32_lt hbR haR] at hc
    rw [if_neg hc] at h1
    exact k2 hc r h1 h2 ad H locs ls e1 e2 e3 e4 (zOk_tl (zOk_tl e5)) e6 e7 e8 e9
theorem z_if_gt {a off : Int} {o1 o2 : Option ρ} (tgt : Nat) (X : zX K cc own Ts R0) (hd : decode cc pc = .ok (.ifCond .gt off, 3)) (ht : (pc : Int) + off = (tgt : Int)) (k1 : 0 < a → zS o1 G (zJ K cells slots tgt lv st hp)) (k2 : ¬ 0 < a → zS o2 G (zJ K cells slots (pc + 3) lv st hp)) : zS (if 0 < a then o1 else o2) G (zJ K cells slots pc lv (zI a :: st) hp) := by
  obtain ⟨p, l, e, R, s, m, args, below, meth, c, D, cA, A, Q, nL, ad0, n0⟩ := K
  obtain ⟨hx, hb, hml, hown, hts, hK, hA, hR, hlk⟩ := X
  intro r h1 h2 ad H locs ls e1 e2 e3 e4 e5 e6 e7 e8 e9
  have haR : inR a := zOk_hd e5
  refine lv_if_gt (tgt := tgt) hx hb hd ht (fun hc => ?_) (fun hc => ?_)
  · rw [z32_0, z32_lt inR_0 haR] at hc
    rw [if_pos hc] at h1
    exact k1 hc r h1 h2 ad H locs ls e1 e2 e3 e4 (zOk_tl e5) e6 e7 e8 e9
  · rw [z32_0, z32_lt inR_0 haR] at hc
    rw [if_neg hc] at h1
    exact k2 hc r h1 h2 ad H locs ls e1 e2 e3 e4 (zOk_tl e5) e6 e7 e8 e9
theorem z_icmp_le {a b off : Int} {o1 o2 : Option ρ} (tgt : Nat) (X : zX K cc own Ts R0) (hd : decode cc pc = .ok (.if_icmp .le off, 3)) (ht : (pc : Int) + off = (tgt : Int)) (k1 : a ≤ b → zS o1 G (zJ K cells slots tgt lv st hp)) (k2 : ¬ a ≤ b → zS o2 G (zJ K cells slots (pc + 3) lv st hp)) : zS (if a ≤ b then o1 else o2) G (zJ K cells slots pc lv (zI b :: zI a :: st) hp) := by
  obtain ⟨p, l, e, R, s, m, args, below, meth, c, D, cA, A, Q, nL, ad0, n0⟩ := K
  obtain ⟨hx, hb, hml, hown, hts, hK, hA, hR, hlk⟩ := X
  intro r h1 h2 ad H locs ls e1 e2 e3 e4 e5 e6 e7 e8 e9
  have hbR : inR b := zOk_hd e5
  have haR : inR a := zOk_hd (zOk_tl e5)
  refine lv_icmp_le (tgt := tgt) hx hb hd ht (fun hc => ?_) (fun hc => ?_)
  · rw [z32_le haR hbR] at hc
    rw [if_pos hc] at h1
    exact k1 hc r h1 h2 ad H locs ls e1 e2 e3 e4 (zOk_tl (zOk_tl e5)) e6 e7 e8 e9
  · rw [z32_le haR hbR] at hc
    rw [if_neg hc] at h1
    exact k2 hc r h1 h2 ad H locs ls e1 e2 e3 e4 (zOk_tl (zOk_tl e5)) e6 e7 e8 e9
theorem z_if_le {a off : Int} {o1 o2 : Option ρ} (tgt : Nat) (X : zX K cc own Ts R0) (hd : decode cc pc = .ok (.ifCond .le off, 3)) (ht : (pc : Int) + off = (tgt : Int)) (k1 : a ≤ 0 → zS o1 G (zJ K cells slots tgt lv st hp)) (k2 : ¬ a ≤ 0 → zS o2 G (zJ K cells slots (pc + 3) lv st hp)) : zS (if a ≤ 0 then o1 else o2) G (zJ K cells slots pc lv (zI a :: st) hp) := by
  obtain ⟨p, l, e, R, s, m, args, below, meth, c, D, cA, A, Q, nL, ad0, n0⟩ := K
  obtain ⟨hx, hb, hml, hown, hts, hK, hA, hR, hlk⟩ := X
  intro r h1 h2 ad H locs ls e1 e2 e3 e4 e5 e6 e7 e8 e9
  have haR : inR a := zOk_hd e5
  refine lv_if_le (tgt := tgt) hx hb hd ht (fun hc => ?_) (fun hc => ?_)
  · rw [z32_0, z32_le haR inR_0] at hc
    rw [if_pos hc] at h1
    exact k1 hc r h1 h2 ad H locs ls e1 e2 e3 e4 (zOk_tl e5) e6 e7 e8 e9
  · rw [z32_0, z32_le haR inR_0] at hc
    rw [if_neg hc] at h1
    exact k2 hc r h1 h2 ad H locs ls e1 e2 e3 e4 (zOk_tl e5) e6 e7 e8 e9
theorem z_ifnull {v : Option Nat} {off : Int} {o1 o2 : Option ρ} (tgt : Nat) (X : zX K cc own Ts R0) (hd : decode cc pc = .ok (.ifnull off, 3)) (ht : (pc : Int) + off = (tgt : Int)) (k1 : v = none → zS o1 G (zJ K cells slots tgt lv st hp)) (k2 : ¬ v = none → zS o2 G (zJ K cells slots (pc + 3) lv st hp)) : zS (if v = none then o1 else o2) G (zJ K cells slots pc lv (zR v :: st) hp) := by
  obtain ⟨p, l, e, R, s, m, args, below, meth, c, D, cA, A, Q, nL, ad0, n0⟩ := K
  obtain ⟨hx, hb, hml, hown, hts, hK, hA, hR, hlk⟩ := X
  intro r h1 h2 ad H locs ls e1 e2 e3 e4 e5 e6 e7 e8 e9
  cases v with
  | none =>
    rw [if_pos rfl] at h1
    exact lv_ifnullN hx hb hd ht (k1 rfl r h1 h2 ad H locs ls e1 e2 e3 e4 (zOk_tl e5) e6 e7 e8 e9)
  | some a =>
    rw [if_neg (fun h => by cases h)] at h1
    exact lv_ifnull hx hb hd (k2 (fun h => by cases h) r h1 h2 ad H locs ls e1 e2 e3 e4 (zOk_tl e5) e6 e7 e8 e9)
theorem z_ifnonnull {v : Option Nat} {off : Int} {o1 o2 : Option ρ} (tgt : Nat) (X : zX K cc own Ts R0) (hd : decode cc pc = .ok (.ifnonnull off, 3)) (ht : (pc : Int) + off = (tgt : Int)) (k1 : ¬ v = none → zS o1 G (zJ K cells slots tgt lv st hp)) (k2 : v = none → zS o2 G (zJ K cells slots (pc + 3) lv st hp)) : zS (if v = none then o2 else o1) G (zJ K cells slots pc lv (zR v :: st) hp) := by
  obtain ⟨p, l, e, R, s, m, args, below, meth, c, D, cA, A, Q, nL, ad0, n0⟩ := K
  obtain ⟨hx, hb, hml, hown, hts, hK, hA, hR, hlk⟩ := X
  intro r h1 h2 ad H locs ls e1 e2 e3 e4 e5 e6 e7 e8 e9
  cases v with
  | none =>
    rw [if_pos rfl] at h1
    exact lv_ifnonnullN hx hb hd (k2 rfl r h1 h2 ad H locs ls e1 e2 e3 e4 (zOk_tl e5) e6 e7 e8 e9)
  | some a =>
    rw [if_neg (fun h => by cases h)] at h1
    exact lv_ifnonnull hx hb hd ht (k1 (fun h => by cases h) r h1 h2 ad H locs ls e1 e2 e3 e4 (zOk_tl e5) e6 e7 e8 e9)
theorem zW_at {ad : Nat → Nat} {cA : Nat → ClassId} {hp : zH} {i : Nat} {x : zCell} (h : hp[i]? = some x) : (zW ad cA hp)[i]? = some (ad i, zTC ad cA x) := by
  unfold zW
  rw [List.getElem?_mapIdx, h]
  rfl
theorem zW_len {ad : Nat → Nat} {cA : Nat → ClassId} {hp : zH} : (zW ad cA hp).length = hp.length := by
  unfold zW
  exact List.length_mapIdx
theorem zW_inj {ad : Nat → Nat} {cA : Nat → ClassId} {hp : zH} {A : Nat → Prop} (h : va_D A (zW ad cA hp)) {i j : Nat} (hi : i < hp.length) (hj : j < hp.length) (he : ad i = ad j) : i = j := by
  have a1 := zW_at (ad := ad) (cA := cA) (List.getElem?_eq_getElem hi)
  have a2 := zW_at (ad := ad) (cA := cA) (List.getElem?_eq_getElem hj)
  exact h.1 i j _ _ a1 a2 he
theorem zW_set {ad : Nat → Nat} {cA : Nat → ClassId} {hp : zH} {i : Nat} {x : zCell} : zW ad cA (hp.set i x) = (zW ad cA hp).set i (ad i, zTC ad cA x) := by
  unfold zW
  apply List.ext_getElem?
  intro k
  rw [List.getElem?_mapIdx, List.getElem?_set, List.getElem?_set, List.getElem?_mapIdx, List.length_mapIdx]
  by_cases hk : i = k
  · subst hk
    by_cases hl : i < hp.length
    · simp [hl]
    · simp [hl]
  · simp [hk]
theorem z_acmp_eq {v w : Option Nat} {off : Int} {o1 o2 : Option ρ} (tgt : Nat) (X : zX K cc own Ts R0) (hd : decode cc pc = .ok (.if_acmp .eq off, 3)) (ht : (pc : Int) + off = (tgt : Int)) (k1 : v = w → zS o1 G (zJ K cells slots tgt lv st hp)) (k2 : ¬ v = w → zS o2 G (zJ K cells slots (pc + 3) lv st hp)) : zS (if v = w then o1 else o2) G (zJ K cells slots pc lv (zR w :: zR v :: st) hp) := by
  obtain ⟨p, l, e, R, s, m, args, below, meth, c, D, cA, A, Q, nL, ad0, n0⟩ := K
  obtain ⟨hx, hb, hml, hown, hts, hK, hA, hR, hlk⟩ := X
  intro r h1 h2 ad H locs ls e1 e2 e3 e4 e5 e6 e7 e8 e9
  have hw : ∀ i, w = some i → i < hp.length := zOk_hd e5
  have hv : ∀ i, v = some i → i < hp.length := zOk_hd (zOk_tl e5)
  have key : v.map ad = w.map ad ↔ v = w := by
    constructor
    · intro h
      cases v with
      | none => cases w with
        | none => rfl
        | some j => cases h
      | some i => cases w with
        | none => cases h
        | some j => exact congrArg some (zW_inj e7 (hv i rfl) (hw j rfl) (Option.some.inj h))
    · intro h
      rw [h]
  refine lv_acmp_eq (tgt := tgt) hx hb hd ht (fun hc => ?_) (fun hc => ?_)
  · rw [key] at hc
    rw [if_pos hc] at h1
    exact k1 hc r h1 h2 ad H locs ls e1 e2 e3 e4 (zOk_tl (zOk_tl e5)) e6 e7 e8 e9
  · rw [key] at hc
    rw [if_neg hc] at h1
    exact k2 hc r h1 h2 ad H locs ls e1 e2 e3 e4 (zOk_tl (zOk_tl e5)) e6 e7 e8 e9
theorem z_acmp_ne {v w : Option Nat} {off : Int} {o1 o2 : Option ρ} (tgt : Nat) (X : zX K cc own Ts R0) (hd : decode cc pc = .ok (.if_acmp .ne off, 3)) (ht : (pc : Int) + off = (tgt : Int)) (k1 : ¬ v = w → zS o1 G (zJ K cells slots tgt lv st hp)) (k2 : v = w → zS o2 G (zJ K cells slots (pc + 3) lv st hp)) : zS (if v = w then o2 else o1) G (zJ K cells slots pc lv (zR w :: zR v :: st) hp) := by
  obtain ⟨p, l, e, R, s, m, args, below, meth, c, D, cA, A, Q, nL, ad0, n0⟩ := K
  obtain ⟨hx, hb, hml, hown, hts, hK, hA, hR, hlk⟩ := X
  intro r h1 h2 ad H locs ls e1 e2 e3 e4 e5 e6 e7 e8 e9
  have hw : ∀ i, w = some i → i < hp.length := zOk_hd e5
  have hv : ∀ i, v = some i → i < hp.length := zOk_hd (zOk_tl e5)
  have key : v.map ad = w.map ad ↔ v = w := by
    constructor
    · intro h
      cases v with
      | none => cases w with
        | none => rfl
        | some j => cases h
      | some i => cases w with
        | none => cases h
        | some j => exact congrArg some (zW_inj e7 (hv i rfl) (hw j rfl) (Option.some.inj h))
    · intro h
      rw [h]
  refine lv_acmp_ne (tgt := tgt) hx hb hd ht (fun hc => ?_) (fun hc => ?_)
  · rw [key] at hc
    rw [if_neg hc] at h1
    exact k1 hc r h1 h2 ad H locs ls e1 e2 e3 e4 (zOk_tl (zOk_tl e5)) e6 e7 e8 e9
  · rw [key] at hc
    rw [if_pos hc] at h1
    exact k2 hc r h1 h2 ad H locs ls e1 e2 e3 e4 (zOk_tl (zOk_tl e5)) e6 e7 e8 e9
theorem z_ladd {x y : Int64} (X : zX K cc own Ts R0) (hd : decode cc pc = .ok (.ladd, 1)) (kk : zS o G (zJ K cells slots (pc + 1) lv (zL (x + y) :: st) hp)) : zS o G (zJ K cells slots pc lv (zL y :: zL x :: st) hp) := by
  obtain ⟨p, l, e, R, s, m, args, below, meth, c, D, cA, A, Q, nL, ad0, n0⟩ := K
  obtain ⟨hx, hb, hml, hown, hts, hK, hA, hR, hlk⟩ := X
  intro r h1 h2 ad H locs ls e1 e2 e3 e4 e5 e6 e7 e8 e9
  refine lv_ladd hx hb hd ?_
  exact kk r h1 h2 ad H locs ls e1 e2 e3 e4 (zOk_cons trivial (zOk_tl (zOk_tl e5))) e6 e7 e8 e9
theorem z_lmul {x y : Int64} (X : zX K cc own Ts R0) (hd : decode cc pc = .ok (.lmul, 1)) (kk : zS o G (zJ K cells slots (pc + 1) lv (zL (x * y) :: st) hp)) : zS o G (zJ K cells slots pc lv (zL y :: zL x :: st) hp) := by
  obtain ⟨p, l, e, R, s, m, args, below, meth, c, D, cA, A, Q, nL, ad0, n0⟩ := K
  obtain ⟨hx, hb, hml, hown, hts, hK, hA, hR, hlk⟩ := X
  intro r h1 h2 ad H locs ls e1 e2 e3 e4 e5 e6 e7 e8 e9
  refine lv_lmul hx hb hd ?_
  exact kk r h1 h2 ad H locs ls e1 e2 e3 e4 (zOk_cons trivial (zOk_tl (zOk_tl e5))) e6 e7 e8 e9
theorem z_lor {x y : Int64} (X : zX K cc own Ts R0) (hd : decode cc pc = .ok (.lor, 1)) (kk : zS o G (zJ K cells slots (pc + 1) lv (zL (x ||| y) :: st) hp)) : zS o G (zJ K cells slots pc lv (zL y :: zL x :: st) hp) := by
  obtain ⟨p, l, e, R, s, m, args, below, meth, c, D, cA, A, Q, nL, ad0, n0⟩ := K
  obtain ⟨hx, hb, hml, hown, hts, hK, hA, hR, hlk⟩ := X
  intro r h1 h2 ad H locs ls e1 e2 e3 e4 e5 e6 e7 e8 e9
  refine lv_lor hx hb hd ?_
  exact kk r h1 h2 ad H locs ls e1 e2 e3 e4 (zOk_cons trivial (zOk_tl (zOk_tl e5))) e6 e7 e8 e9
theorem z_lshl {x : Int64} {b : Int} (X : zX K cc own Ts R0) (hd : decode cc pc = .ok (.lshl, 1)) (kk : zS o G (zJ K cells slots (pc + 1) lv (zL (x <<< ((Int32.ofInt b).toInt64 &&& 63)) :: st) hp)) : zS o G (zJ K cells slots pc lv (zI b :: zL x :: st) hp) := by
  obtain ⟨p, l, e, R, s, m, args, below, meth, c, D, cA, A, Q, nL, ad0, n0⟩ := K
  obtain ⟨hx, hb, hml, hown, hts, hK, hA, hR, hlk⟩ := X
  intro r h1 h2 ad H locs ls e1 e2 e3 e4 e5 e6 e7 e8 e9
  refine lv_lshl hx hb hd rfl ?_
  exact kk r h1 h2 ad H locs ls e1 e2 e3 e4 (zOk_cons trivial (zOk_tl (zOk_tl e5))) e6 e7 e8 e9
theorem z_lshr {x : Int64} {b : Int} (X : zX K cc own Ts R0) (hd : decode cc pc = .ok (.lshr, 1)) (kk : zS o G (zJ K cells slots (pc + 1) lv (zL (x >>> ((Int32.ofInt b).toInt64 &&& 63)) :: st) hp)) : zS o G (zJ K cells slots pc lv (zI b :: zL x :: st) hp) := by
  obtain ⟨p, l, e, R, s, m, args, below, meth, c, D, cA, A, Q, nL, ad0, n0⟩ := K
  obtain ⟨hx, hb, hml, hown, hts, hK, hA, hR, hlk⟩ := X
  intro r h1 h2 ad H locs ls e1 e2 e3 e4 e5 e6 e7 e8 e9
  refine lv_lshr hx hb hd rfl ?_
  exact kk r h1 h2 ad H locs ls e1 e2 e3 e4 (zOk_cons trivial (zOk_tl (zOk_tl e5))) e6 e7 e8 e9
def zldiv (x y : Int64) : Option Int64 := if y = 0 then none else some (x / y)
theorem z_ldiv {x y : Int64} {f : Int64 → Option ρ} (X : zX K cc own Ts R0) (hd : decode cc pc = .ok (.ldiv, 1)) (kk : ∀ v, zS (f v) G (zJ K cells slots (pc + 1) lv (zL v :: st) hp)) : zS ((zldiv x y).bind f) G (zJ K cells slots pc lv (zL y :: zL x :: st) hp) := by
  obtain ⟨p, l, e, R, s, m, args, below, meth, c, D, cA, A, Q, nL, ad0, n0⟩ := K
  obtain ⟨hx, hb, hml, hown, hts, hK, hA, hR, hlk⟩ := X
  intro r h1 h2 ad H locs ls e1 e2 e3 e4 e5 e6 e7 e8 e9
  obtain ⟨v, hv, h1⟩ := Option.bind_eq_some_iff.mp h1
  unfold zldiv at hv
  split at hv
  · cases hv
  · rename_i hz
    cases hv
    refine lv_ldiv hx hb hd hz ?_
    exact kk _ r h1 h2 ad H locs ls e1 e2 e3 e4 (zOk_cons trivial (zOk_tl (zOk_tl e5))) e6 e7 e8 e9
def zlrem (x y : Int64) : Option Int64 := if y = 0 then none else some (x - x / y * y)
theorem z_lrem {x y : Int64} {f : Int64 → Option ρ} (X : zX K cc own Ts R0) (hd : decode cc pc = .ok (.lrem, 1)) (kk : ∀ v, zS (f v) G (zJ K cells slots (pc + 1) lv (zL v :: st) hp)) : zS ((zlrem x y).bind f) G (zJ K cells slots pc lv (zL y :: zL x :: st) hp) := by
  obtain ⟨p, l, e, R, s, m, args, below, meth, c, D, cA, A, Q, nL, ad0, n0⟩ := K
  obtain ⟨hx, hb, hml, hown, hts, hK, hA, hR, hlk⟩ := X
  intro r h1 h2 ad H locs ls e1 e2 e3 e4 e5 e6 e7 e8 e9
  obtain ⟨v, hv, h1⟩ := Option.bind_eq_some_iff.mp h1
  unfold zlrem at hv
  split at hv
  · cases hv
  · rename_i hz
    cases hv
    refine lv_lrem hx hb hd hz ?_
    exact kk _ r h1 h2 ad H locs ls e1 e2 e3 e4 (zOk_cons trivial (zOk_tl (zOk_tl e5))) e6 e7 e8 e9
theorem zcmp_eq (x y : Int64) : lg_cmp x y = Int32.ofInt (zcmp x y) := by
  unfold lg_cmp zcmp
  split
  · rfl
  · split <;> rfl
theorem zcmp_R (x y : Int64) : inR (zcmp x y) := by
  unfold zcmp inR
  split
  · decide
  · split <;> decide
theorem z_lcmp {x y : Int64} (X : zX K cc own Ts R0) (hd : decode cc pc = .ok (.lcmp, 1)) (kk : zS o G (zJ K cells slots (pc + 1) lv (zI (zcmp x y) :: st) hp)) : zS o G (zJ K cells slots pc lv (zL y :: zL x :: st) hp) := by
  obtain ⟨p, l, e, R, s, m, args, below, meth, c, D, cA, A, Q, nL, ad0, n0⟩ := K
  obtain ⟨hx, hb, hml, hown, hts, hK, hA, hR, hlk⟩ := X
  intro r h1 h2 ad H locs ls e1 e2 e3 e4 e5 e6 e7 e8 e9
  refine W.lcmp hx hb hd ?_
  rw [zcmp_eq]
  exact kk r h1 h2 ad H locs ls e1 e2 e3 e4 (zOk_cons (zcmp_R x y) (zOk_tl (zOk_tl e5))) e6 e7 e8 e9
theorem z_i2l {a : Int} (X : zX K cc own Ts R0) (hd : decode cc pc = .ok (.i2l, 1)) (kk : zS o G (zJ K cells slots (pc + 1) lv (zL (Int64.ofInt a) :: st) hp)) : zS o G (zJ K cells slots pc lv (zI a :: st) hp) := by
  obtain ⟨p, l, e, R, s, m, args, below, meth, c, D, cA, A, Q, nL, ad0, n0⟩ := K
  obtain ⟨hx, hb, hml, hown, hts, hK, hA, hR, hlk⟩ := X
  intro r h1 h2 ad H locs ls e1 e2 e3 e4 e5 e6 e7 e8 e9
  have haR : inR a := zOk_hd e5
  refine lv_i2l hx hb hd (v := Int64.ofInt a) ?_ ?_
  · apply Int64.toInt_inj.mp
    rw [Int32.toInt_toInt64, z32_toInt haR, Int64.toInt_ofInt_of_le (by have := haR.1; omega) (by have := haR.2; omega)]
  · exact kk r h1 h2 ad H locs ls e1 e2 e3 e4 (zOk_cons trivial (zOk_tl e5)) e6 e7 e8 e9
theorem z_l2i {x : Int64} (X : zX K cc own Ts R0) (hd : decode cc pc = .ok (.l2i, 1)) (kk : zS o G (zJ K cells slots (pc + 1) lv (zI x.toInt32.toInt :: st) hp)) : zS o G (zJ K cells slots pc lv (zL x :: st) hp) := by
  obtain ⟨p, l, e, R, s, m, args, below, meth, c, D, cA, A, Q, nL, ad0, n0⟩ := K
  obtain ⟨hx, hb, hml, hown, hts, hK, hA, hR, hlk⟩ := X
  intro r h1 h2 ad H locs ls e1 e2 e3 e4 e5 e6 e7 e8 e9
  refine lv_l2i hx hb hd (v := Int32.ofInt x.toInt32.toInt) (by rw [Int32.ofInt_toInt]) ?_
  exact kk r h1 h2 ad H locs ls e1 e2 e3 e4 (zOk_cons ⟨by have := Int32.le_toInt x.toInt32; omega, by have := Int32.toInt_lt x.toInt32; omega⟩ (zOk_tl e5)) e6 e7 e8 e9
theorem z_i2c {a : Int} (X : zX K cc own Ts R0) (hd : decode cc pc = .ok (.i2c, 1)) (kk : zS o G (zJ K cells slots (pc + 1) lv (zI (a % 65536) :: st) hp)) : zS o G (zJ K cells slots pc lv (zI a :: st) hp) := by
  obtain ⟨p, l, e, R, s, m, args, below, meth, c, D, cA, A, Q, nL, ad0, n0⟩ := K
  obtain ⟨hx, hb, hml, hown, hts, hK, hA, hR, hlk⟩ := X
  intro r h1 h2 ad H locs ls e1 e2 e3 e4 e5 e6 e7 e8 e9
  have e0 : ((Int32.ofInt a).toBitVec.toNat : Int) = a % 4294967296 := by
    show ((BitVec.ofInt 32 a).toNat : Int) = _
    rw [BitVec.toNat_ofInt]
    have := Int.emod_nonneg a (show (4294967296 : Int) ≠ 0 by decide)
    show ((a % 4294967296).toNat : Int) = _
    omega
  refine lv_i2c hx hb hd (v := Int32.ofInt (a % 65536)) ?_ ?_
  · rw [pk_char]
    refine (z32_natI _).symm.trans ?_
    apply congrArg Int32.ofInt
    rw [Int.natCast_emod, e0]
    omega
  · exact kk r h1 h2 ad H locs ls e1 e2 e3 e4 (zOk_cons ⟨by omega, by omega⟩ (zOk_tl e5)) e6 e7 e8 e9
end zRows
