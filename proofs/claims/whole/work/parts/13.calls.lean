/-! ===== BEGIN .. of methods that hand back an object of the pool ===== -/
section
variable {p : Program} {l : Launch} {e : Env} {R : Room} {s : State} {m : MethodId} {args : Array Value} {below : List Frame} {meth : Method} {c : Code} {H : Heap} {locs : List Loc} {cells slots : Nat} {Q : State → Prop}
variable {mc ms : Nat} {free : Addr → Prop} {A0 A1 : Nat → Prop} {H0 : Heap} {a : Array Value} {pc : Nat} {ls : Array Slot} {st0 rest : List Value}
theorem vx_callq {S SX : Type} {post : Option Nat → S → Prop} {px : SX → Prop} {B : S → State → Prop} {BX : String → SX → State → Prop} {AX : Nat → Prop} (hr : vx_Run p l e R s m args below meth c H locs cells slots mc ms (F0 m pc ls st0) rest (va_Qq post B A1 a) (vx_X px BX AX) free) (hS : va_S A0 H0 H locs) (hA : ∀ q, q < H.size → A1 q → A0 q) (hf : ∀ q, free q → A0 q) (hAX : ∀ q, q < H.size → AX q → A0 q)
    (kx : ∀ (E : String) (ce : Cell) (q9 : Addr) (u : SX) (t : State) (H1 : Heap) (locs1 : List Loc), t.heap = H1 → s.vm.Alike t.vm → px u → BX E u t → H.size ≤ H1.size → (∀ q : Nat, q < H.size → ¬ AX q → H1[q]? = H[q]?) → va_S A0 H0 H1 locs1 → H1[q9]? = some ce → ce.vm = .none → s.vm.findClass E = some ce.cls → vx_W p l e R s m args below meth c H1 locs1 (cells + mc) (slots + ms) Q (F0 m pc ls rest) q9)
    (kk : ∀ (r : Option Nat) (u : S) (t : State) (H1 : Heap) (locs1 : List Loc), t.heap = H1 → s.vm.Alike t.vm → post r u → B u t → H.size ≤ H1.size → (∀ q : Nat, q < H.size → ¬ A1 q → H1[q]? = H[q]?) → va_S A0 H0 H1 locs1 → W p l e R s m args below meth c H1 locs1 (cells + mc) (slots + ms) Q (F0 m (pc + 3) ls (va_rf r :: rest))) : W p l e R s m args below meth c H locs cells slots Q (F0 m pc ls st0) := by
  intro T hT X
  rcases hr T hT X with ⟨v, st₀, t, T', L, h0, X', hL, e1, e2, ⟨⟨r, u, hv, hp, hb⟩, hF⟩, st⟩ | ⟨q, st₀, t, T', L, E, ce, h0, X', hL, e1, e2, ⟨u, hp, hb, hF⟩, hce, hcv, hcl, st⟩
  · cases hv
    obtain ⟨k1, k2, k3⟩ := vx_keep h0 e1 hS hA hf hL hF
    obtain ⟨t2, a1, b1⟩ := kk r u t T'.heap (locs ++ L) e1.symm (by rw [← e2]; exact X'.warmed.alike) hp hb k1 k2 k3 T' rfl X'
    exact ⟨t2, st t2 a1, b1⟩
  · obtain ⟨k1, k2, k3⟩ := vx_keep h0 e1 hS hAX hf hL hF
    obtain ⟨t2, a1, b1⟩ := kx E ce q u t T'.heap (locs ++ L) e1.symm (by rw [← e2]; exact X'.warmed.alike) hp hb k1 k2 k3 (by rw [e1]; exact hce) hcv hcl T' rfl X'
    exact ⟨t2, st.trans a1, b1⟩
end
/-! NEW OBJECTS, CALLS, ENDS over the pure picture -/
section zCalls
variable {ρ : Type} {o : Option ρ} {G : ρ → Prop} {K : zK} {cc : ByteArray} {own : String} {Ts : List Cond} {R0 : Room} {cells slots pc : Nat} {lv : List (Nat × zPV)} {st : List zPV} {hp : zH}
theorem zOk_up {n n' : Nat} {v : zPV} (h : zOk n v) (hn : n ≤ n') : zOk n' v := by
  rcases v with v | v | v | v | v | v
  · exact h
  · trivial
  · exact fun i hi => Nat.lt_of_lt_of_le (h i hi) hn
  · trivial
  · trivial
  · trivial
theorem zOkC_up {n n' : Nat} {x : zCell} (h : zOkC n x) (hn : n ≤ n') : zOkC n' x := by
  rcases x with ⟨t, k, f | f | f | f⟩ | ⟨c, fs⟩
  · exact h
  · trivial
  · trivial
  · exact fun j i hi => Nat.lt_of_lt_of_le (h j i hi) hn
  · exact fun v hv => zOk_up (h v hv) hn
theorem zT_ext {n : Nat} {v : zPV} {ad ad' : Nat → Nat} (h : zOk n v) (he : ∀ i, i < n → ad' i = ad i) : zT ad' v = zT ad v := by
  rcases v with v | v | v | v | v | v
  · rfl
  · rfl
  · cases v with
    | none => rfl
    | some i => exact congrArg Value.ref (he i (h i rfl))
  · rfl
  · rfl
  · rfl
theorem zTC_ext {n : Nat} {x : zCell} {ad ad' : Nat → Nat} {cA : Nat → ClassId} (h : zOkC n x) (he : ∀ i, i < n → ad' i = ad i) : zTC ad' cA x = zTC ad cA x := by
  rcases x with ⟨t, k, f | f | f | f⟩ | ⟨c, fs⟩
  · rfl
  · rfl
  · rfl
  · have : (fun j => (f j).map ad') = (fun j => (f j).map ad) := by
      funext j
      cases hj : f j with
      | none => rfl
      | some i => exact congrArg some (he i (h j i hj))
    exact congrArg (fun g => (Sum.inl (cA t, k, Sum.inr (Sum.inr (Sum.inr (Sum.inr g)))) : va_E)) this
  · have : fs.map (zT ad') = fs.map (zT ad) := List.map_congr_left fun v hv => zT_ext (h v hv) he
    exact congrArg (fun g => (Sum.inr (c, g) : va_E)) this
theorem zW_ext {n : Nat} {hp : zH} {ad ad' : Nat → Nat} {cA : Nat → ClassId} (h : ∀ c ∈ hp, zOkC n c) (hn : hp.length ≤ n) (he : ∀ i, i < n → ad' i = ad i) : zW ad' cA hp = zW ad cA hp := by
  unfold zW
  apply List.ext_getElem?
  intro k
  rw [List.getElem?_mapIdx, List.getElem?_mapIdx]
  cases hk : hp[k]? with
  | none => rfl
  | some x =>
    show some (ad' k, zTC ad' cA x) = some (ad k, zTC ad cA x)
    rw [he k (Nat.lt_of_lt_of_le (zlt hk) hn), zTC_ext (h x (zmem hk)) he]
theorem zW_push {hp : zH} {x : zCell} {ad ad' : Nat → Nat} {cA : Nat → ClassId} (h : ∀ c ∈ hp, zOkC hp.length c) (he : ∀ i, i < hp.length → ad' i = ad i) : zW ad' cA (hp ++ [x]) = zW ad cA hp ++ [(ad' hp.length, zTC ad' cA x)] := by
  rw [← zW_ext h (Nat.le_refl _) he]
  unfold zW
  rw [List.mapIdx_concat]
theorem zlv_ext {n : Nat} {lv : List (Nat × zPV)} {ad ad' : Nat → Nat} (h : ∀ q ∈ lv, zOk n q.2) (he : ∀ i, i < n → ad' i = ad i) : lv.map (fun q => (q.1, zT ad' q.2)) = lv.map (fun q => (q.1, zT ad q.2)) :=
  List.map_congr_left fun q hq => by rw [zT_ext (h q hq) he]
theorem zst_ext {n : Nat} {st : List zPV} {ad ad' : Nat → Nat} (h : ∀ v ∈ st, zOk n v) (he : ∀ i, i < n → ad' i = ad i) : st.map (zT ad') = st.map (zT ad) :=
  List.map_congr_left fun v hv => zT_ext (h v hv) he
/-- a cell more: the picture goes on with it -/
theorem zj_alloc {p : Program} {l : Launch} {e : Env} {R : Room} {s : State} {m : MethodId} {args : Array Value} {below : List Frame} {meth : Method} {c : Code} {D : va_G} {cA : Nat → ClassId} {A : Nat → Prop} {Q : State → Prop} {nL : Nat} {ad0 : Nat → Nat} {n0 : Nat} {x : zCell} {q : Nat} {ad : Nat → Nat} {H1 : Heap} {locs : List Loc} {ls : Array Slot}
    (kk : zJ (p, l, e, R, s, m, args, below, meth, c, D, cA, A, Q, nL, ad0, n0) cells slots pc lv (zR (some hp.length) :: st) (hp ++ [x]))
    (e1 : ∀ i, i < n0 → ad i = ad0 i) (e2 : n0 ≤ hp.length) (e3 : ∀ c ∈ hp, zOkC hp.length c) (e4 : ∀ q ∈ lv, zOk hp.length q.2) (e5 : ∀ v ∈ st, zOk hp.length v)
    (e9 : lv_has ls nL (lv.map (fun q => (q.1, zT ad q.2)))) (hx0 : zOkC 0 x) (q6 : va_P D vwCl (zW ad cA hp ++ [(q, zTC ad cA x)]) H1) (q7 : va_D A (zW ad cA hp ++ [(q, zTC ad cA x)])) (q8 : va_S A s.heap H1 locs) :
    W p l e R s m args below meth c H1 locs cells slots Q (F0 m pc ls (.ref q :: st.map (zT ad))) := by
  obtain ⟨ad', hE, hq⟩ : ∃ ad' : Nat → Nat, (∀ i, i < hp.length → ad' i = ad i) ∧ ad' hp.length = q := ⟨fun i => if i = hp.length then q else ad i, fun i hi => if_neg (Nat.ne_of_lt hi), if_pos rfl⟩
  have hxT : zTC ad' cA x = zTC ad cA x := zTC_ext hx0 (fun i hi => absurd hi (Nat.not_lt_zero _))
  have hw : zW ad' cA (hp ++ [x]) = zW ad cA hp ++ [(q, zTC ad cA x)] := by
    rw [zW_push e3 hE, hq, hxT]
  rw [← hw] at q6 q7
  have hlen : (hp ++ [x]).length = hp.length + 1 := by rw [List.length_append]; rfl
  have hup : hp.length ≤ (hp ++ [x]).length := by omega
  have k9 := kk ad' H1 locs ls (fun i hi => (hE i (Nat.lt_of_lt_of_le hi e2)).trans (e1 i hi)) (Nat.le_trans e2 hup)
    (by
      intro y hy
      rcases List.mem_append.1 hy with hy | hy
      · exact zOkC_up (e3 y hy) hup
      · rw [List.mem_singleton.1 hy]
        exact zOkC_up hx0 (Nat.zero_le _))
    (fun q hq => zOk_up (e4 q hq) hup)
    (zOk_cons (fun i hi => by cases hi; omega) (fun v hv => zOk_up (e5 v hv) hup)) q6 q7 q8 (by rw [zlv_ext e4 hE]; exact e9)
  have hs : (zR (some hp.length) :: st).map (zT ad') = .ref q :: st.map (zT ad) := by
    show Value.ref (ad' hp.length) :: st.map (zT ad') = _
    rw [hq, zst_ext e5 hE]
  rw [hs] at k9
  exact k9
theorem z_new {idx ci N : Nat} {C : String} {T : u_T} {ty0 : Nat → FieldType} {fs : List zPV} (X : zX K cc own Ts R0) (hd : decode cc pc = .ok (.new idx, 3)) (hin : ∀ w ∈ u_ws C T N, w ∈ Ts) (hty : ∀ k, k < N → parseFieldDescriptor (T k).2.2.1 = some (ty0 k)) (hcl : Cond.classLink own idx C ∈ Ts) (hinst : Cond.instantiable C N ∈ Ts) (hini : Cond.initialized C ∈ Ts) (hc : vwCl[ci]? = some (C, T, N)) (hfs : ∀ ad, ∀ j, j < N → defaultValue (ty0 j) = vp_V (fs.map (zT ad)) j) (hok : ∀ v ∈ fs, zOk 0 v) (hcells : cells + 1 ≤ R0.cells) (hslots : slots + N ≤ R0.slots)
    (kk : zS o G (zJ K (cells + 1) (slots + N) (pc + 3) lv (zR (some hp.length) :: st) (hp ++ [.inr (ci, fs)]))) : zS o G (zJ K cells slots pc lv st hp) := by
  obtain ⟨p, l, e, R, s, m, args, below, meth, c, D, cA, A, Q, nL, ad0, n0⟩ := K
  obtain ⟨hx, hb, hml, hown, hts, hK, hA, hR, hlk, hst9, hEnv⟩ := X
  intro r h1 h2 ad H locs ls e1 e2 e3 e4 e5 e6 e7 e8 e9
  subst hR
  refine va_new (c0 := c) (D := D) (cl := vwCl) (ci := ci) (C := C) (T := T) (N := N) (fs := fs.map (zT ad)) hx hb hts hin ty0 hty hown (hts _ hcl) (hts _ hinst) (hts _ hini) hK e6 e7 e8 hA hc (hfs ad) hcells hslots hd (fun q H1 q6 q7 q8 => ?_)
  exact zj_alloc (kk r h1 h2) e1 e2 e3 e4 e5 e9 (x := .inr (ci, fs)) hok q6 q7 q8
theorem zTY_uniq {s : State} {D : va_G} {cA : Nat → ClassId} {cA' : ClassId} {ty : FieldType} (h : va_K D vwCl (zTY cA) s) (h' : va_K D vwCl (zTY cA ++ [(cA', ty)]) s) (t : Nat) (ht : (zTY cA)[t]? = some (cA t, ty)) : cA' = cA t := by
  have a := (h.2 t _ ht).2
  have b := (h'.2 7 (cA', ty) rfl).2
  cases ty with
  | object C =>
    obtain ⟨_, _, _, _, _, a4⟩ := a
    obtain ⟨_, _, _, _, _, b4⟩ := b
    exact Option.some.inj (b4.symm.trans a4)
  | _ => exact Option.some.inj (b.symm.trans a)
theorem z_newI {z : Int} (n : Nat) (X : zX K cc own Ts R0) (hd : decode cc pc = .ok (.newarray .int, 2)) (harr : Cond.arrayClass .int ∈ Ts) (hz : z = (n : Int)) (hn9 : n ≤ 60000) (hcells : cells + 1 ≤ R0.cells) (hslots : slots + n ≤ R0.slots)
    (kk : zS o G (zJ K (cells + 1) (slots + n) (pc + 2) lv (zR (some hp.length) :: st) (hp ++ [.inl (0, n, .inl (fun _ => 0))]))) : zS o G (zJ K cells slots pc lv (zI z :: st) hp) := by
  obtain ⟨p, l, e, R, s, m, args, below, meth, c, D, cA, A, Q, nL, ad0, n0⟩ := K
  obtain ⟨hx, hb, hml, hown, hts, hK, hA, hR, hlk, hst9, hEnv⟩ := X
  intro r h1 h2 ad H locs ls e1 e2 e3 e4 e5 e6 e7 e8 e9
  subst hR
  subst hz
  have hiR : inR (n : Int) := ⟨by omega, by omega⟩
  refine va_newa (D := D) (cl := vwCl) (atype := .int) (ty := .int) (n := Int32.ofInt (n : Int)) (N' := n) (a0 := (n, .inl (fun _ => 0))) hx hb (hts _ harr) rfl hK e6 e7 e8 hA (fun cA => rfl) ?_ (by rw [z32_nat hiR]; rfl) ?_ hcells hslots hd (fun q cA' H1 hK' q6 q7 q8 => ?_)
  · rw [z32_0, z32_lt hiR inR_0]
    omega
  · refine Nat.le_trans (Nat.mul_le_mul hn9 (show componentBytes .int ≤ 8 by decide)) (by decide)
  · have hu : cA' = cA 0 := zTY_uniq hK hK' 0 rfl
    subst hu
    exact zj_alloc (kk r h1 h2) e1 e2 e3 e4 (zOk_tl e5) e9 (x := .inl (0, n, .inl (fun _ => 0))) (fun _ => inR_0) q6 q7 q8
theorem z_newZ {z : Int} (n : Nat) (X : zX K cc own Ts R0) (hd : decode cc pc = .ok (.newarray .boolean, 2)) (harr : Cond.arrayClass .boolean ∈ Ts) (hz : z = (n : Int)) (hn9 : n ≤ 60000) (hcells : cells + 1 ≤ R0.cells) (hslots : slots + n ≤ R0.slots)
    (kk : zS o G (zJ K (cells + 1) (slots + n) (pc + 2) lv (zR (some hp.length) :: st) (hp ++ [.inl (2, n, .inl (fun _ => 0))]))) : zS o G (zJ K cells slots pc lv (zI z :: st) hp) := by
  obtain ⟨p, l, e, R, s, m, args, below, meth, c, D, cA, A, Q, nL, ad0, n0⟩ := K
  obtain ⟨hx, hb, hml, hown, hts, hK, hA, hR, hlk, hst9, hEnv⟩ := X
  intro r h1 h2 ad H locs ls e1 e2 e3 e4 e5 e6 e7 e8 e9
  subst hR
  subst hz
  have hiR : inR (n : Int) := ⟨by omega, by omega⟩
  refine va_newa (D := D) (cl := vwCl) (atype := .boolean) (ty := .boolean) (n := Int32.ofInt (n : Int)) (N' := n) (a0 := (n, .inl (fun _ => 0))) hx hb (hts _ harr) rfl hK e6 e7 e8 hA (fun cA => rfl) ?_ (by rw [z32_nat hiR]; rfl) ?_ hcells hslots hd (fun q cA' H1 hK' q6 q7 q8 => ?_)
  · rw [z32_0, z32_lt hiR inR_0]
    omega
  · refine Nat.le_trans (Nat.mul_le_mul hn9 (show componentBytes .boolean ≤ 8 by decide)) (by decide)
  · have hu : cA' = cA 2 := zTY_uniq hK hK' 2 rfl
    subst hu
    exact zj_alloc (kk r h1 h2) e1 e2 e3 e4 (zOk_tl e5) e9 (x := .inl (2, n, .inl (fun _ => 0))) (fun _ => inR_0) q6 q7 q8
theorem z_newC {z : Int} (n : Nat) (X : zX K cc own Ts R0) (hd : decode cc pc = .ok (.newarray .char, 2)) (harr : Cond.arrayClass .char ∈ Ts) (hz : z = (n : Int)) (hn9 : n ≤ 60000) (hcells : cells + 1 ≤ R0.cells) (hslots : slots + n ≤ R0.slots)
    (kk : zS o G (zJ K (cells + 1) (slots + n) (pc + 2) lv (zR (some hp.length) :: st) (hp ++ [.inl (3, n, .inl (fun _ => 0))]))) : zS o G (zJ K cells slots pc lv (zI z :: st) hp) := by
  obtain ⟨p, l, e, R, s, m, args, below, meth, c, D, cA, A, Q, nL, ad0, n0⟩ := K
  obtain ⟨hx, hb, hml, hown, hts, hK, hA, hR, hlk, hst9, hEnv⟩ := X
  intro r h1 h2 ad H locs ls e1 e2 e3 e4 e5 e6 e7 e8 e9
  subst hR
  subst hz
  have hiR : inR (n : Int) := ⟨by omega, by omega⟩
  refine va_newa (D := D) (cl := vwCl) (atype := .char) (ty := .char) (n := Int32.ofInt (n : Int)) (N' := n) (a0 := (n, .inl (fun _ => 0))) hx hb (hts _ harr) rfl hK e6 e7 e8 hA (fun cA => rfl) ?_ (by rw [z32_nat hiR]; rfl) ?_ hcells hslots hd (fun q cA' H1 hK' q6 q7 q8 => ?_)
  · rw [z32_0, z32_lt hiR inR_0]
    omega
  · refine Nat.le_trans (Nat.mul_le_mul hn9 (show componentBytes .char ≤ 8 by decide)) (by decide)
  · have hu : cA' = cA 3 := zTY_uniq hK hK' 3 rfl
    subst hu
    exact zj_alloc (kk r h1 h2) e1 e2 e3 e4 (zOk_tl e5) e9 (x := .inl (3, n, .inl (fun _ => 0))) (fun _ => inR_0) q6 q7 q8
theorem z_newJ {z : Int} (n : Nat) (X : zX K cc own Ts R0) (hd : decode cc pc = .ok (.newarray .long, 2)) (harr : Cond.arrayClass .long ∈ Ts) (hz : z = (n : Int)) (hn9 : n ≤ 60000) (hcells : cells + 1 ≤ R0.cells) (hslots : slots + n ≤ R0.slots)
    (kk : zS o G (zJ K (cells + 1) (slots + n) (pc + 2) lv (zR (some hp.length) :: st) (hp ++ [.inl (1, n, .inr (.inl (fun _ => 0)))]))) : zS o G (zJ K cells slots pc lv (zI z :: st) hp) := by
  obtain ⟨p, l, e, R, s, m, args, below, meth, c, D, cA, A, Q, nL, ad0, n0⟩ := K
  obtain ⟨hx, hb, hml, hown, hts, hK, hA, hR, hlk, hst9, hEnv⟩ := X
  intro r h1 h2 ad H locs ls e1 e2 e3 e4 e5 e6 e7 e8 e9
  subst hR
  subst hz
  have hiR : inR (n : Int) := ⟨by omega, by omega⟩
  refine va_newa (D := D) (cl := vwCl) (atype := .long) (ty := .long) (n := Int32.ofInt (n : Int)) (N' := n) (a0 := (n, .inr (.inl (fun _ => 0)))) hx hb (hts _ harr) rfl hK e6 e7 e8 hA (fun cA => rfl) ?_ (by rw [z32_nat hiR]; rfl) ?_ hcells hslots hd (fun q cA' H1 hK' q6 q7 q8 => ?_)
  · rw [z32_0, z32_lt hiR inR_0]
    omega
  · refine Nat.le_trans (Nat.mul_le_mul hn9 (show componentBytes .long ≤ 8 by decide)) (by decide)
  · have hu : cA' = cA 1 := zTY_uniq hK hK' 1 rfl
    subst hu
    exact zj_alloc (kk r h1 h2) e1 e2 e3 e4 (zOk_tl e5) e9 (x := .inl (1, n, .inr (.inl (fun _ => 0)))) trivial q6 q7 q8
theorem z_newD {z : Int} (n : Nat) (X : zX K cc own Ts R0) (hd : decode cc pc = .ok (.newarray .double, 2)) (harr : Cond.arrayClass .double ∈ Ts) (hz : z = (n : Int)) (hn9 : n ≤ 60000) (hcells : cells + 1 ≤ R0.cells) (hslots : slots + n ≤ R0.slots)
    (kk : zS o G (zJ K (cells + 1) (slots + n) (pc + 2) lv (zR (some hp.length) :: st) (hp ++ [.inl (4, n, .inr (.inr (.inl (fun _ => 0))))]))) : zS o G (zJ K cells slots pc lv (zI z :: st) hp) := by
  obtain ⟨p, l, e, R, s, m, args, below, meth, c, D, cA, A, Q, nL, ad0, n0⟩ := K
  obtain ⟨hx, hb, hml, hown, hts, hK, hA, hR, hlk, hst9, hEnv⟩ := X
  intro r h1 h2 ad H locs ls e1 e2 e3 e4 e5 e6 e7 e8 e9
  subst hR
  subst hz
  have hiR : inR (n : Int) := ⟨by omega, by omega⟩
  refine va_newa (D := D) (cl := vwCl) (atype := .double) (ty := .double) (n := Int32.ofInt (n : Int)) (N' := n) (a0 := (n, .inr (.inr (.inr (.inl (fun _ => 0)))))) hx hb (hts _ harr) rfl hK e6 e7 e8 hA (fun cA => rfl) ?_ (by rw [z32_nat hiR]; rfl) ?_ hcells hslots hd (fun q cA' H1 hK' q6 q7 q8 => ?_)
  · rw [z32_0, z32_lt hiR inR_0]
    omega
  · refine Nat.le_trans (Nat.mul_le_mul hn9 (show componentBytes .double ≤ 8 by decide)) (by decide)
  · have hu : cA' = cA 4 := zTY_uniq hK hK' 4 rfl
    subst hu
    exact zj_alloc (kk r h1 h2) e1 e2 e3 e4 (zOk_tl e5) e9 (x := .inl (4, n, .inr (.inr (.inl (fun _ => 0))))) trivial q6 q7 q8
theorem z_newR5 {z : Int} {idx : Nat} (n : Nat) (X : zX K cc own Ts R0) (hd : decode cc pc = .ok (.anewarray idx, 3)) (hcl : Cond.classLink own idx "StreetNamer$Street" ∈ Ts) (hz : z = (n : Int)) (hn9 : n ≤ 60000) (hcells : cells + 1 ≤ R0.cells) (hslots : slots + n ≤ R0.slots)
    (kk : zS o G (zJ K (cells + 1) (slots + n) (pc + 3) lv (zR (some hp.length) :: st) (hp ++ [.inl (5, n, .inr (.inr (.inr (fun _ => none))))]))) : zS o G (zJ K cells slots pc lv (zI z :: st) hp) := by
  obtain ⟨p, l, e, R, s, m, args, below, meth, c, D, cA, A, Q, nL, ad0, n0⟩ := K
  obtain ⟨hx, hb, hml, hown, hts, hK, hA, hR, hlk, hst9, hEnv⟩ := X
  intro r h1 h2 ad H locs ls e1 e2 e3 e4 e5 e6 e7 e8 e9
  subst hR
  subst hz
  have hiR : inR (n : Int) := ⟨by omega, by omega⟩
  refine va_newq (D := D) (cl := vwCl) (C := "StreetNamer$Street") (n := Int32.ofInt (n : Int)) (N' := n) hx hb hown (hts _ hcl) hEnv.2.2.2.2.1 hK e6 e7 e8 hA ?_ (by rw [z32_nat hiR]; rfl) ?_ hcells hslots hd (fun q cA' H1 hK' q6 q7 q8 => ?_)
  · rw [z32_0, z32_lt hiR inR_0]
    omega
  · refine Nat.le_trans (Nat.mul_le_mul hn9 (Nat.le_refl 4)) (by decide)
  · have hu : cA' = cA 5 := zTY_uniq hK hK' 5 rfl
    subst hu
    exact zj_alloc (kk r h1 h2) e1 e2 e3 e4 (zOk_tl e5) e9 (x := .inl (5, n, .inr (.inr (.inr (fun _ => none))))) (fun _ _ h => by cases h) q6 q7 q8
theorem z_newR6 {z : Int} {idx : Nat} (n : Nat) (X : zX K cc own Ts R0) (hd : decode cc pc = .ok (.anewarray idx, 3)) (hcl : Cond.classLink own idx "StreetNamer$Door" ∈ Ts) (hz : z = (n : Int)) (hn9 : n ≤ 60000) (hcells : cells + 1 ≤ R0.cells) (hslots : slots + n ≤ R0.slots)
    (kk : zS o G (zJ K (cells + 1) (slots + n) (pc + 3) lv (zR (some hp.length) :: st) (hp ++ [.inl (6, n, .inr (.inr (.inr (fun _ => none))))]))) : zS o G (zJ K cells slots pc lv (zI z :: st) hp) := by
  obtain ⟨p, l, e, R, s, m, args, below, meth, c, D, cA, A, Q, nL, ad0, n0⟩ := K
  obtain ⟨hx, hb, hml, hown, hts, hK, hA, hR, hlk, hst9, hEnv⟩ := X
  intro r h1 h2 ad H locs ls e1 e2 e3 e4 e5 e6 e7 e8 e9
  subst hR
  subst hz
  have hiR : inR (n : Int) := ⟨by omega, by omega⟩
  refine va_newq (D := D) (cl := vwCl) (C := "StreetNamer$Door") (n := Int32.ofInt (n : Int)) (N' := n) hx hb hown (hts _ hcl) hEnv.2.2.2.2.2.1 hK e6 e7 e8 hA ?_ (by rw [z32_nat hiR]; rfl) ?_ hcells hslots hd (fun q cA' H1 hK' q6 q7 q8 => ?_)
  · rw [z32_0, z32_lt hiR inR_0]
    omega
  · refine Nat.le_trans (Nat.mul_le_mul hn9 (Nat.le_refl 4)) (by decide)
  · have hu : cA' = cA 6 := zTY_uniq hK hK' 6 rfl
    subst hu
    exact zj_alloc (kk r h1 h2) e1 e2 e3 e4 (zOk_tl e5) e9 (x := .inl (6, n, .inr (.inr (.inr (fun _ => none))))) (fun _ _ h => by cases h) q6 q7 q8
theorem zcat_sum (ad : Nat → Nat) (st : List zPV) : ((st.map (zT ad)).map fun v => v.category).sum = (st.map zcat).sum := by
  rw [List.map_map]
  congr 1
  apply List.map_congr_left
  intro v _
  exact zcat_T ad v
theorem z_objInit {idx : Nat} {r0 : Option Nat} {a : Nat} (hr0 : r0 = some a) (X : zX K cc own Ts R0) (hd : decode cc pc = .ok (.invokespecial idx, 3)) (hlink : Cond.methodLink own idx Lib.objectInit ∈ Ts) (hinst : Cond.instanceMethod Lib.objectInit ∈ Ts) (hcode : Cond.code Lib.objectInit ⟨#[0xb1]⟩ 1 none ∈ Ts) (hfr : 1 ≤ R0.frames) (hlo : (st.map zcat).sum + 12 ≤ R0.locals) (kk : zS o G (zJ K cells slots (pc + 3) lv st hp)) : zS o G (zJ K cells slots pc lv (zR r0 :: st) hp) := by
  obtain ⟨p, l, e, R, s, m, args, below, meth, c, D, cA, A, Q, nL, ad0, n0⟩ := K
  obtain ⟨hx, hb, hml, hown, hts, hK, hA, hR, hlk, hst9, hEnv⟩ := X
  intro r h1 h2 ad H locs ls e1 e2 e3 e4 e5 e6 e7 e8 e9
  subst hR
  subst hr0
  refine W.objInit hx hb hown (hts _ hlink) (hts _ hinst) (hts _ hcode) rfl (by rw [hml]; exact e9.1) (a := ad a) (rest := st.map (zT ad)) rfl hd hfr ?_ ?_
  · show 2 * 0 + _ + 12 ≤ _
    rw [zcat_sum]
    omega
  · exact kk r h1 h2 ad H locs ls e1 e2 e3 e4 (zOk_tl e5) e6 e7 e8 e9
def zmax (a b : Int) : Int := if a < b then b else a
def zmin (a b : Int) : Int := if b < a then b else a
def zabs (a : Int) : Int := if 0 ≤ a then a else 0 - a
theorem z_max {idx : Nat} {a b : Int} (X : zX K cc own Ts R0) (hd : decode cc pc = .ok (.invokestatic idx, 3)) (hlink : Cond.methodLink own idx Lib.Math.max.name ∈ Ts) (hstat : Cond.static Lib.Math.max.name ∈ Ts) (hini : Cond.initialized "java/lang/Math" ∈ Ts) (hcode : Cond.code Lib.Math.max.name Lib.Math.max.code 2 (some .int) ∈ Ts) (hfr : 1 ≤ R0.frames) (hlo : (st.map zcat).sum + 13 ≤ R0.locals) (hcs : cells ≤ R0.cells) (hss : slots ≤ R0.slots) (kk : zS o G (zJ K cells slots (pc + 3) lv (zI (zmax a b) :: st) hp)) : zS o G (zJ K cells slots pc lv (zI b :: zI a :: st) hp) := by
  obtain ⟨p, l, e, R, s, m, args, below, meth, c, D, cA, A, Q, nL, ad0, n0⟩ := K
  obtain ⟨hx, hb, hml, hown, hts, hK, hA, hR, hlk, hst9, hEnv⟩ := X
  intro r h1 h2 ad H locs ls e1 e2 e3 e4 e5 e6 e7 e8 e9
  subst hR
  have hbR : inR b := zOk_hd e5
  have haR : inR a := zOk_hd (zOk_tl e5)
  refine va_mmax hx hb (by rw [hml]; exact e9.1.symm) hown (hts _ hlink) (hts _ hstat) (hts _ hini) (hts _ hcode) hfr (by rw [zcat_sum]; exact hlo) hcs hss hd ?_
  have he : (if Int32.ofInt a < Int32.ofInt b then Int32.ofInt b else Int32.ofInt a) = Int32.ofInt (zmax a b) := by
    unfold zmax
    by_cases hc : a < b
    · rw [if_pos hc, if_pos ((z32_lt haR hbR).2 hc)]
    · rw [if_neg hc, if_neg (fun h => hc ((z32_lt haR hbR).1 h))]
  rw [he]
  exact kk r h1 h2 ad H locs ls e1 e2 e3 e4 (zOk_cons (by show inR (zmax a b); unfold zmax; split <;> assumption) (zOk_tl (zOk_tl e5))) e6 e7 e8 e9
theorem z_min {idx : Nat} {a b : Int} (X : zX K cc own Ts R0) (hd : decode cc pc = .ok (.invokestatic idx, 3)) (hlink : Cond.methodLink own idx Lib.Math.min.name ∈ Ts) (hstat : Cond.static Lib.Math.min.name ∈ Ts) (hini : Cond.initialized "java/lang/Math" ∈ Ts) (hcode : Cond.code Lib.Math.min.name Lib.Math.min.code 2 (some .int) ∈ Ts) (hfr : 1 ≤ R0.frames) (hlo : (st.map zcat).sum + 13 ≤ R0.locals) (hcs : cells ≤ R0.cells) (hss : slots ≤ R0.slots) (kk : zS o G (zJ K cells slots (pc + 3) lv (zI (zmin a b) :: st) hp)) : zS o G (zJ K cells slots pc lv (zI b :: zI a :: st) hp) := by
  obtain ⟨p, l, e, R, s, m, args, below, meth, c, D, cA, A, Q, nL, ad0, n0⟩ := K
  obtain ⟨hx, hb, hml, hown, hts, hK, hA, hR, hlk, hst9, hEnv⟩ := X
  intro r h1 h2 ad H locs ls e1 e2 e3 e4 e5 e6 e7 e8 e9
  subst hR
  have hbR : inR b := zOk_hd e5
  have haR : inR a := zOk_hd (zOk_tl e5)
  refine va_mmin hx hb (by rw [hml]; exact e9.1.symm) hown (hts _ hlink) (hts _ hstat) (hts _ hini) (hts _ hcode) hfr (by rw [zcat_sum]; exact hlo) hcs hss hd ?_
  have he : (if Int32.ofInt b < Int32.ofInt a then Int32.ofInt b else Int32.ofInt a) = Int32.ofInt (zmin a b) := by
    unfold zmin
    by_cases hc : b < a
    · rw [if_pos hc, if_pos ((z32_lt hbR haR).2 hc)]
    · rw [if_neg hc, if_neg (fun h => hc ((z32_lt hbR haR).1 h))]
  rw [he]
  exact kk r h1 h2 ad H locs ls e1 e2 e3 e4 (zOk_cons (by show inR (zmin a b); unfold zmin; split <;> assumption) (zOk_tl (zOk_tl e5))) e6 e7 e8 e9
theorem z_abs {idx : Nat} {a : Int} (ha9 : -2147483648 < a) (X : zX K cc own Ts R0) (hd : decode cc pc = .ok (.invokestatic idx, 3)) (hlink : Cond.methodLink own idx Lib.Math.abs.name ∈ Ts) (hstat : Cond.static Lib.Math.abs.name ∈ Ts) (hini : Cond.initialized "java/lang/Math" ∈ Ts) (hcode : Cond.code Lib.Math.abs.name Lib.Math.abs.code 1 (some .int) ∈ Ts) (hfr : 1 ≤ R0.frames) (hlo : (st.map zcat).sum + 13 ≤ R0.locals) (hcs : cells ≤ R0.cells) (hss : slots ≤ R0.slots) (kk : zS o G (zJ K cells slots (pc + 3) lv (zI (zabs a) :: st) hp)) : zS o G (zJ K cells slots pc lv (zI a :: st) hp) := by
  obtain ⟨p, l, e, R, s, m, args, below, meth, c, D, cA, A, Q, nL, ad0, n0⟩ := K
  obtain ⟨hx, hb, hml, hown, hts, hK, hA, hR, hlk, hst9, hEnv⟩ := X
  intro r h1 h2 ad H locs ls e1 e2 e3 e4 e5 e6 e7 e8 e9
  subst hR
  have haR : inR a := zOk_hd e5
  refine va_mabs hx hb (by rw [hml]; exact e9.1.symm) hown (hts _ hlink) (hts _ hstat) (hts _ hini) (hts _ hcode) hfr (by rw [zcat_sum]; exact hlo) hcs hss hd ?_
  have he : (if 0 ≤ Int32.ofInt a then Int32.ofInt a else 0 - Int32.ofInt a) = Int32.ofInt (zabs a) := by
    unfold zabs
    by_cases hc : 0 ≤ a
    · rw [if_pos hc, if_pos (show (0 : Int32) ≤ Int32.ofInt a from (z32_le inR_0 haR).2 hc)]
    · rw [if_neg hc, if_neg (show ¬ (0 : Int32) ≤ Int32.ofInt a from fun h => hc ((z32_le inR_0 haR).1 h)), Int32.ofInt_sub]
      rfl
  rw [he]
  refine kk r h1 h2 ad H locs ls e1 e2 e3 e4 (zOk_cons ?_ (zOk_tl e5)) e6 e7 e8 e9
  show inR (zabs a)
  unfold zabs
  have := haR.1
  have := haR.2
  split
  · exact haR
  · exact ⟨by omega, by omega⟩
def zi2f (a : Int) : UInt32 := FP.i2f (Int32.ofInt a)
def zi2d (a : Int) : UInt64 := FP.i2d (Int32.ofInt a)
def zfdiv (x y : UInt32) : Option UInt32 := if FP.fdiv x y &&& 0x7fffffff ≤ 0x7f800000 then some (FP.fdiv x y) else none
def zddiv (x y : UInt64) : Option UInt64 := if FP.ddiv x y &&& 0x7fffffffffffffff ≤ 0x7ff0000000000000 then some (FP.ddiv x y) else none
def zf2d (x : UInt32) : Option UInt64 := if FP.f2d x &&& 0x7fffffffffffffff ≤ 0x7ff0000000000000 then some (FP.f2d x) else none
theorem z_i2f {a : Int} (X : zX K cc own Ts R0) (hd : decode cc pc = .ok (.i2f, 1)) (kk : zS o G (zJ K cells slots (pc + 1) lv (zF (zi2f a) :: st) hp)) : zS o G (zJ K cells slots pc lv (zI a :: st) hp) := by
  obtain ⟨p, l, e, R, s, m, args, below, meth, c, D, cA, A, Q, nL, ad0, n0⟩ := K
  obtain ⟨hx, hb, hml, hown, hts, hK, hA, hR, hlk, hst9, hEnv⟩ := X
  intro r h1 h2 ad H locs ls e1 e2 e3 e4 e5 e6 e7 e8 e9
  refine lv_i2f hx hb hd ?_
  exact kk r h1 h2 ad H locs ls e1 e2 e3 e4 (zOk_cons trivial (zOk_tl e5)) e6 e7 e8 e9
theorem z_i2d {a : Int} (X : zX K cc own Ts R0) (hd : decode cc pc = .ok (.i2d, 1)) (kk : zS o G (zJ K cells slots (pc + 1) lv (zD (zi2d a) :: st) hp)) : zS o G (zJ K cells slots pc lv (zI a :: st) hp) := by
  obtain ⟨p, l, e, R, s, m, args, below, meth, c, D, cA, A, Q, nL, ad0, n0⟩ := K
  obtain ⟨hx, hb, hml, hown, hts, hK, hA, hR, hlk, hst9, hEnv⟩ := X
  intro r h1 h2 ad H locs ls e1 e2 e3 e4 e5 e6 e7 e8 e9
  refine lv_i2d hx hb hd ?_
  exact kk r h1 h2 ad H locs ls e1 e2 e3 e4 (zOk_cons trivial (zOk_tl e5)) e6 e7 e8 e9
theorem z_fdiv {x y : UInt32} {f : UInt32 → Option ρ} (X : zX K cc own Ts R0) (hd : decode cc pc = .ok (.fdiv, 1)) (kk : ∀ v, zS (f v) G (zJ K cells slots (pc + 1) lv (zF v :: st) hp)) : zS ((zfdiv x y).bind f) G (zJ K cells slots pc lv (zF y :: zF x :: st) hp) := by
  obtain ⟨p, l, e, R, s, m, args, below, meth, c, D, cA, A, Q, nL, ad0, n0⟩ := K
  obtain ⟨hx, hb, hml, hown, hts, hK, hA, hR, hlk, hst9, hEnv⟩ := X
  intro r h1 h2 ad H locs ls e1 e2 e3 e4 e5 e6 e7 e8 e9
  obtain ⟨v, hv, h3⟩ := Option.bind_eq_some_iff.mp h1
  unfold zfdiv at hv
  split at hv
  · rename_i hz
    cases hv
    refine lv_fdiv hx hb hd hz ?_
    exact kk _ r h3 h2 ad H locs ls e1 e2 e3 e4 (zOk_cons trivial (zOk_tl (zOk_tl e5))) e6 e7 e8 e9
  · cases hv
theorem z_ddiv {x y : UInt64} {f : UInt64 → Option ρ} (X : zX K cc own Ts R0) (hd : decode cc pc = .ok (.ddiv, 1)) (kk : ∀ v, zS (f v) G (zJ K cells slots (pc + 1) lv (zD v :: st) hp)) : zS ((zddiv x y).bind f) G (zJ K cells slots pc lv (zD y :: zD x :: st) hp) := by
  obtain ⟨p, l, e, R, s, m, args, below, meth, c, D, cA, A, Q, nL, ad0, n0⟩ := K
  obtain ⟨hx, hb, hml, hown, hts, hK, hA, hR, hlk, hst9, hEnv⟩ := X
  intro r h1 h2 ad H locs ls e1 e2 e3 e4 e5 e6 e7 e8 e9
  obtain ⟨v, hv, h3⟩ := Option.bind_eq_some_iff.mp h1
  unfold zddiv at hv
  split at hv
  · rename_i hz
    cases hv
    refine lv_ddiv hx hb hd hz ?_
    exact kk _ r h3 h2 ad H locs ls e1 e2 e3 e4 (zOk_cons trivial (zOk_tl (zOk_tl e5))) e6 e7 e8 e9
  · cases hv
theorem z_f2d {x : UInt32} {f : UInt64 → Option ρ} (X : zX K cc own Ts R0) (hd : decode cc pc = .ok (.f2d, 1)) (kk : ∀ v, zS (f v) G (zJ K cells slots (pc + 1) lv (zD v :: st) hp)) : zS ((zf2d x).bind f) G (zJ K cells slots pc lv (zF x :: st) hp) := by
  obtain ⟨p, l, e, R, s, m, args, below, meth, c, D, cA, A, Q, nL, ad0, n0⟩ := K
  obtain ⟨hx, hb, hml, hown, hts, hK, hA, hR, hlk, hst9, hEnv⟩ := X
  intro r h1 h2 ad H locs ls e1 e2 e3 e4 e5 e6 e7 e8 e9
  obtain ⟨v, hv, h3⟩ := Option.bind_eq_some_iff.mp h1
  unfold zf2d at hv
  split at hv
  · rename_i hz
    cases hv
    refine lv_f2d hx hb hd hz ?_
    exact kk _ r h3 h2 ad H locs ls e1 e2 e3 e4 (zOk_cons trivial (zOk_tl e5)) e6 e7 e8 e9
  · cases hv
end zCalls
