/-! THE ROWS over the heap: fields, arrays, new objects -/
section zHeap
variable {ρ : Type} {o : Option ρ} {G : ρ → Prop} {K : zK} {cc : ByteArray} {own : String} {Ts : List Cond} {R0 : Room} {cells slots pc : Nat} {lv : List (Nat × zPV)} {st : List zPV} {hp : zH}
theorem zobj_some {hp : zH} {r : Option Nat} {ci i : Nat} {fs : List zPV} (h : zobj hp r ci = some (i, fs)) : r = some i ∧ hp[i]? = some (.inr (ci, fs)) := by
  unfold zobj at h
  obtain ⟨i', hi, h⟩ := Option.bind_eq_some_iff.mp h
  obtain ⟨x, hx, h⟩ := Option.bind_eq_some_iff.mp h
  obtain ⟨fs', hfs, h⟩ := Option.bind_eq_some_iff.mp h
  cases h
  rcases x with x | ⟨c', fs'⟩
  · cases hfs
  · have hfs : (if c' = ci then some fs' else none) = some fs := hfs
    by_cases he : c' = ci
    · subst he
      rw [if_pos rfl] at hfs
      cases hfs
      exact ⟨hi, hx⟩
    · rw [if_neg he] at hfs
      cases hfs
theorem zfld_some {hp : zH} {r : Option Nat} {ci k : Nat} {v : zPV} (h : zfld hp r ci k = some v) : ∃ i fs, r = some i ∧ hp[i]? = some (.inr (ci, fs)) ∧ fs[k]? = some v := by
  unfold zfld at h
  obtain ⟨⟨i, fs⟩, hi, h⟩ := Option.bind_eq_some_iff.mp h
  obtain ⟨h1, h2⟩ := zobj_some hi
  exact ⟨i, fs, h1, h2, h⟩
theorem zput_some {hp h' : zH} {r : Option Nat} {ci k : Nat} {v : zPV} (h : zput hp r ci k v = some h') : ∃ i fs, r = some i ∧ hp[i]? = some (.inr (ci, fs)) ∧ k < fs.length ∧ h' = hp.set i (.inr (ci, fs.set k v)) := by
  unfold zput at h
  obtain ⟨⟨i, fs⟩, hi, h⟩ := Option.bind_eq_some_iff.mp h
  obtain ⟨h1, h2⟩ := zobj_some hi
  by_cases hk : k < fs.length
  · rw [if_pos hk] at h
    cases h
    exact ⟨i, fs, h1, h2, hk, rfl⟩
  · rw [if_neg hk] at h
    cases h
theorem zarr_some {hp : zH} {r : Option Nat} {t : Nat} {i : Int} {a n : Nat} {f : zC} (h : zarr hp r t i = some (a, n, f)) : r = some a ∧ hp[a]? = some (.inl (t, n, f)) ∧ 0 ≤ i ∧ i < n := by
  unfold zarr at h
  obtain ⟨a', hi, h⟩ := Option.bind_eq_some_iff.mp h
  obtain ⟨x, hx, h⟩ := Option.bind_eq_some_iff.mp h
  obtain ⟨q, hq, h⟩ := Option.bind_eq_some_iff.mp h
  cases h
  rcases x with ⟨t', n', f'⟩ | x
  · have hq : (if t' = t ∧ 0 ≤ i ∧ i < n' then some (n', f') else none) = some (n, f) := hq
    by_cases he : t' = t ∧ 0 ≤ i ∧ i < n'
    · rw [if_pos he] at hq
      cases hq
      obtain ⟨rfl, h0, h1⟩ := he
      exact ⟨hi, hx, h0, h1⟩
    · rw [if_neg he] at hq
      cases hq
  · cases hq
theorem zasI_some {v : zPV} {z : Int} (h : zasI v = some z) : v = zI z := by
  rcases v with v | v
  · cases h; rfl
  · cases h
theorem zasJ_some {v : zPV} {z : Int64} (h : zasJ v = some z) : v = zL z := by
  rcases v with v | v | v
  · cases h
  · cases h; rfl
  · cases h
theorem zasR_some {v : zPV} {z : Option Nat} (h : zasR v = some z) : v = zR z := by
  rcases v with v | v | v | v
  · cases h
  · cases h
  · cases h; rfl
  · cases h
theorem zcI_some {c : zC} {f : Nat → Int} (h : zcI c = some f) : c = .inl f := by
  rcases c with c | c
  · cases h; rfl
  · cases h
theorem zcJ_some {c : zC} {f : Nat → Int64} (h : zcJ c = some f) : c = .inr (.inl f) := by
  rcases c with c | c | c
  · cases h
  · cases h; rfl
  · cases h
theorem zcD_some {c : zC} {f : Nat → UInt64} (h : zcD c = some f) : c = .inr (.inr (.inl f)) := by
  rcases c with c | c | c | c
  · cases h
  · cases h
  · cases h; rfl
  · cases h
theorem zcR_some {c : zC} {f : Nat → Option Nat} (h : zcR c = some f) : c = .inr (.inr (.inr f)) := by
  rcases c with c | c | c | c
  · cases h
  · cases h
  · cases h
  · cases h; rfl
theorem zmem {hp : zH} {i : Nat} {x : zCell} (h : hp[i]? = some x) : x ∈ hp := List.mem_of_getElem? h
theorem zlt {hp : zH} {i : Nat} {x : zCell} (h : hp[i]? = some x) : i < hp.length := (List.getElem?_eq_some_iff.mp h).1
/-- a cell is changed: the picture stays in order -/
theorem zset_ok {hp : zH} {i : Nat} {x : zCell} (h : ∀ c ∈ hp, zOkC hp.length c) (hx : zOkC hp.length x) : ∀ c ∈ hp.set i x, zOkC (hp.set i x).length c := by
  rw [List.length_set]
  intro c hc
  rcases List.mem_or_eq_of_mem_set hc with h' | rfl
  · exact h c h'
  · exact hx
theorem zj_get {idx ci N : Nat} {C : String} {T : u_T} (k : Nat) {r0 : Option Nat} {v : zPV} (X : zX K cc own Ts R0) (hd : decode cc pc = .ok (.getfield idx, 3)) (hin : ∀ w ∈ u_ws C T N, w ∈ Ts) (hc : vwCl[ci]? = some (C, T, N)) (hk : k < N) (hlink : Cond.fieldLink own idx (T k).1 (T k).2.1 (T k).2.2.1 ∈ Ts) (hv : zfld hp r0 ci k = some v) (kk : zS o G (zJ K cells slots (pc + 3) lv (v :: st) hp)) : zS o G (zJ K cells slots pc lv (zR r0 :: st) hp) := by
  obtain ⟨p, l, e, R, s, m, args, below, meth, c, D, cA, A, Q, nL, ad0, n0⟩ := K
  obtain ⟨hx, hb, hml, hown, hts, hK, hA, hR, hlk⟩ := X
  intro r h1 h2 ad H locs ls e1 e2 e3 e4 e5 e6 e7 e8 e9
  obtain ⟨i, fs, rfl, hi, hfs⟩ := zfld_some hv
  refine va_get (D := D) (cl := vwCl) (ci := ci) (C := C) (T := T) (N := N) hx hb hts hin hown hK e6 i (fs := fs.map (zT ad)) (zW_at hi) hc k hk (hts _ hlink) (fun _ h9 => h9) (v := zT ad v) (by rw [List.getElem?_map, hfs]; rfl) hd ?_
  exact kk r h1 h2 ad H locs ls e1 e2 e3 e4 (zOk_cons (e3 _ (zmem hi) v (List.mem_of_getElem? hfs)) (zOk_tl e5)) e6 e7 e8 e9
theorem z_getI {idx ci N : Nat} {C : String} {T : u_T} (k : Nat) {r0 : Option Nat} {f : Int → Option ρ} (X : zX K cc own Ts R0) (hd : decode cc pc = .ok (.getfield idx, 3)) (hin : ∀ w ∈ u_ws C T N, w ∈ Ts) (hc : vwCl[ci]? = some (C, T, N)) (hk : k < N) (hlink : Cond.fieldLink own idx (T k).1 (T k).2.1 (T k).2.2.1 ∈ Ts) (kk : ∀ v, zS (f v) G (zJ K cells slots (pc + 3) lv (zI v :: st) hp)) : zS ((zgI hp r0 ci k).bind f) G (zJ K cells slots pc lv (zR r0 :: st) hp) := by
  intro r h1 h2
  obtain ⟨v, hv, h3⟩ := Option.bind_eq_some_iff.mp h1
  clear h1
  unfold zgI at hv
  obtain ⟨u, hz, hv⟩ := Option.bind_eq_some_iff.mp hv
  rw [zasI_some hv] at hz
  exact zj_get k X hd hin hc hk hlink hz (kk v) r h3 h2
theorem z_getJ {idx ci N : Nat} {C : String} {T : u_T} (k : Nat) {r0 : Option Nat} {f : Int64 → Option ρ} (X : zX K cc own Ts R0) (hd : decode cc pc = .ok (.getfield idx, 3)) (hin : ∀ w ∈ u_ws C T N, w ∈ Ts) (hc : vwCl[ci]? = some (C, T, N)) (hk : k < N) (hlink : Cond.fieldLink own idx (T k).1 (T k).2.1 (T k).2.2.1 ∈ Ts) (kk : ∀ v, zS (f v) G (zJ K cells slots (pc + 3) lv (zL v :: st) hp)) : zS ((zgJ hp r0 ci k).bind f) G (zJ K cells slots pc lv (zR r0 :: st) hp) := by
  intro r h1 h2
  obtain ⟨v, hv, h3⟩ := Option.bind_eq_some_iff.mp h1
  clear h1
  unfold zgJ at hv
  obtain ⟨u, hz, hv⟩ := Option.bind_eq_some_iff.mp hv
  rw [zasJ_some hv] at hz
  exact zj_get k X hd hin hc hk hlink hz (kk v) r h3 h2
theorem z_getR {idx ci N : Nat} {C : String} {T : u_T} (k : Nat) {r0 : Option Nat} {f : Option Nat → Option ρ} (X : zX K cc own Ts R0) (hd : decode cc pc = .ok (.getfield idx, 3)) (hin : ∀ w ∈ u_ws C T N, w ∈ Ts) (hc : vwCl[ci]? = some (C, T, N)) (hk : k < N) (hlink : Cond.fieldLink own idx (T k).1 (T k).2.1 (T k).2.2.1 ∈ Ts) (kk : ∀ v, zS (f v) G (zJ K cells slots (pc + 3) lv (zR v :: st) hp)) : zS ((zgR hp r0 ci k).bind f) G (zJ K cells slots pc lv (zR r0 :: st) hp) := by
  intro r h1 h2
  obtain ⟨v, hv, h3⟩ := Option.bind_eq_some_iff.mp h1
  clear h1
  unfold zgR at hv
  obtain ⟨u, hz, hv⟩ := Option.bind_eq_some_iff.mp hv
  rw [zasR_some hv] at hz
  exact zj_get k X hd hin hc hk hlink hz (kk v) r h3 h2
theorem zj_put {idx ci N : Nat} {C : String} {T : u_T} {ty0 : Nat → FieldType} (k : Nat) {r0 : Option Nat} {v : zPV} {h' : zH} (X : zX K cc own Ts R0) (hd : decode cc pc = .ok (.putfield idx, 3)) (hin : ∀ w ∈ u_ws C T N, w ∈ Ts) (hty : ∀ k, k < N → parseFieldDescriptor (T k).2.2.1 = some (ty0 k)) (hnm : ∀ a, a < N → ∀ b, b < N → a ≠ b → (T a).2.1 ≠ (T b).2.1) (hc : vwCl[ci]? = some (C, T, N)) (hk : k < N) (hlink : Cond.fieldLink own idx (T k).1 (T k).2.1 (T k).2.2.1 ∈ Ts) (hfin : (T k).2.2.2 = false) (hnar : ∀ ad, narrow (ty0 k) (zT ad v) = zT ad v ∧ fits (ty0 k) (zT ad v) = true) (hv : zput hp r0 ci k v = some h') (kk : zS o G (zJ K cells slots (pc + 3) lv st h')) : zS o G (zJ K cells slots pc lv (v :: zR r0 :: st) hp) := by
  obtain ⟨p, l, e, R, s, m, args, below, meth, c, D, cA, A, Q, nL, ad0, n0⟩ := K
  obtain ⟨hx, hb, hml, hown, hts, hK, hA, hR, hlk⟩ := X
  intro r h1 h2 ad H locs ls e1 e2 e3 e4 e5 e6 e7 e8 e9
  obtain ⟨i, fs, rfl, hi, hl, rfl⟩ := zput_some hv
  refine va_put (D := D) (cl := vwCl) (ci := ci) (C := C) (T := T) (N := N) hx hb hts hin ty0 hty hnm hown hK e6 e7 e8 i (fs := fs.map (zT ad)) (zW_at hi) hc k hk (hts _ hlink) (fun _ h9 => h9) hfin (ty := ty0 k) (v := zT ad v) (hty k hk) (hnar ad).1 (hnar ad).2 (by rw [List.length_map]; exact hl) hd (fun H1 locs1 q6 q7 q8 => ?_)
  have he : zW ad cA (hp.set i (.inr (ci, fs.set k v))) = (zW ad cA hp).set i (ad i, .inr (ci, (fs.map (zT ad)).set k (zT ad v))) := by
    rw [zW_set]
    show (zW ad cA hp).set i (ad i, .inr (ci, (fs.set k v).map (zT ad))) = _
    rw [List.map_set]
  rw [← he] at q6 q7
  have hlen : (hp.set i (.inr (ci, fs.set k v))).length = hp.length := List.length_set
  have hok : zOkC hp.length (.inr (ci, fs.set k v)) := by
    intro u hu
    rcases List.mem_or_eq_of_mem_set hu with h' | rfl
    · exact e3 _ (zmem hi) u h'
    · exact zOk_hd e5
  exact kk r h1 h2 ad H1 locs1 ls e1 (by rw [hlen]; exact e2) (zset_ok e3 hok) (by rw [hlen]; exact e4) (by rw [hlen]; exact zOk_tl (zOk_tl e5)) q6 q7 q8 e9
theorem zZ_fit {z : Int} {ad : Nat → Nat} (h : z = 0 ∨ z = 1) : narrow .boolean (zT ad (zI z)) = zT ad (zI z) ∧ fits .boolean (zT ad (zI z)) = true := by
  rcases h with rfl | rfl <;> exact ⟨rfl, rfl⟩
theorem zC_fit {z : Int} {ad : Nat → Nat} (h : 0 ≤ z ∧ z ≤ 65535) : narrow .char (zT ad (zI z)) = zT ad (zI z) ∧ fits .char (zT ad (zI z)) = true := by
  obtain ⟨n, rfl⟩ := Int.eq_ofNat_of_zero_le h.1
  exact pk_charN (q := n) (by omega)
theorem z_putI {idx ci N : Nat} {C : String} {T : u_T} {ty0 : Nat → FieldType} (k : Nat) {r0 : Option Nat} {v : Int} {f : zH → Option ρ} (X : zX K cc own Ts R0) (hd : decode cc pc = .ok (.putfield idx, 3)) (hin : ∀ w ∈ u_ws C T N, w ∈ Ts) (hty : ∀ k, k < N → parseFieldDescriptor (T k).2.2.1 = some (ty0 k)) (hnm : ∀ a, a < N → ∀ b, b < N → a ≠ b → (T a).2.1 ≠ (T b).2.1) (hc : vwCl[ci]? = some (C, T, N)) (hk : k < N) (hlink : Cond.fieldLink own idx (T k).1 (T k).2.1 (T k).2.2.1 ∈ Ts) (hfin : (T k).2.2.2 = false) (hyt : ty0 k = .int) (kk : ∀ h', zS (f h') G (zJ K cells slots (pc + 3) lv st h')) : zS ((zpI hp r0 ci k v).bind f) G (zJ K cells slots pc lv (zI v :: zR r0 :: st) hp) := by
    intro r h1 h2
    obtain ⟨h', hv, h1⟩ := Option.bind_eq_some_iff.mp h1
    unfold zpI at hv
    exact zj_put k X hd hin hty hnm hc hk hlink hfin (fun ad => by rw [hyt]; exact ⟨rfl, rfl⟩) hv (kk h') r h1 h2
theorem z_putJ {idx ci N : Nat} {C : String} {T : u_T} {ty0 : Nat → FieldType} (k : Nat) {r0 : Option Nat} {v : Int64} {f : zH → Option ρ} (X : zX K cc own Ts R0) (hd : decode cc pc = .ok (.putfield idx, 3)) (hin : ∀ w ∈ u_ws C T N, w ∈ Ts) (hty : ∀ k, k < N → parseFieldDescriptor (T k).2.2.1 = some (ty0 k)) (hnm : ∀ a, a < N → ∀ b, b < N → a ≠ b → (T a).2.1 ≠ (T b).2.1) (hc : vwCl[ci]? = some (C, T, N)) (hk : k < N) (hlink : Cond.fieldLink own idx (T k).1 (T k).2.1 (T k).2.2.1 ∈ Ts) (hfin : (T k).2.2.2 = false) (hyt : ty0 k = .long) (kk : ∀ h', zS (f h') G (zJ K cells slots (pc + 3) lv st h')) : zS ((zpJ hp r0 ci k v).bind f) G (zJ K cells slots pc lv (zL v :: zR r0 :: st) hp) := by
    intro r h1 h2
    obtain ⟨h', hv, h1⟩ := Option.bind_eq_some_iff.mp h1
    unfold zpJ at hv
    exact zj_put k X hd hin hty hnm hc hk hlink hfin (fun ad => by rw [hyt]; exact ⟨rfl, rfl⟩) hv (kk h') r h1 h2
theorem z_putR {idx ci N : Nat} {C : String} {T : u_T} {ty0 : Nat → FieldType} (k : Nat) {r0 : Option Nat} {v : Option Nat} {f : zH → Option ρ} (X : zX K cc own Ts R0) (hd : decode cc pc = .ok (.putfield idx, 3)) (hin : ∀ w ∈ u_ws C T N, w ∈ Ts) (hty : ∀ k, k < N → parseFieldDescriptor (T k).2.2.1 = some (ty0 k)) (hnm : ∀ a, a < N → ∀ b, b < N → a ≠ b → (T a).2.1 ≠ (T b).2.1) (hc : vwCl[ci]? = some (C, T, N)) (hk : k < N) (hlink : Cond.fieldLink own idx (T k).1 (T k).2.1 (T k).2.2.1 ∈ Ts) (hfin : (T k).2.2.2 = false) (hyt : ∃ cn, ty0 k = .object cn ∨ ∃ t9, ty0 k = .array t9) (kk : ∀ h', zS (f h') G (zJ K cells slots (pc + 3) lv st h')) : zS ((zpR hp r0 ci k v).bind f) G (zJ K cells slots pc lv (zR v :: zR r0 :: st) hp) := by
    intro r h1 h2
    obtain ⟨h', hv, h1⟩ := Option.bind_eq_some_iff.mp h1
    unfold zpR at hv
    exact zj_put k X hd hin hty hnm hc hk hlink hfin (fun ad => by obtain ⟨cn, h9 | ⟨t9, h9⟩⟩ := hyt <;> rw [h9] <;> cases v <;> exact ⟨rfl, rfl⟩) hv (kk h') r h1 h2
theorem z_putZ {idx ci N : Nat} {C : String} {T : u_T} {ty0 : Nat → FieldType} (k : Nat) {r0 : Option Nat} {v : Int} {f : zH → Option ρ} (X : zX K cc own Ts R0) (hd : decode cc pc = .ok (.putfield idx, 3)) (hin : ∀ w ∈ u_ws C T N, w ∈ Ts) (hty : ∀ k, k < N → parseFieldDescriptor (T k).2.2.1 = some (ty0 k)) (hnm : ∀ a, a < N → ∀ b, b < N → a ≠ b → (T a).2.1 ≠ (T b).2.1) (hc : vwCl[ci]? = some (C, T, N)) (hk : k < N) (hlink : Cond.fieldLink own idx (T k).1 (T k).2.1 (T k).2.2.1 ∈ Ts) (hfin : (T k).2.2.2 = false) (hyt : ty0 k = .boolean) (kk : ∀ h', zS (f h') G (zJ K cells slots (pc + 3) lv st h')) : zS ((zpZ hp r0 ci k v).bind f) G (zJ K cells slots pc lv (zI v :: zR r0 :: st) hp) := by
    intro r h1 h2
    obtain ⟨h', hv, h1⟩ := Option.bind_eq_some_iff.mp h1
    unfold zpZ at hv
    by_cases hz : v = 0 ∨ v = 1
    · rw [if_pos hz] at hv
      exact zj_put k X hd hin hty hnm hc hk hlink hfin (fun ad => by rw [hyt]; exact zZ_fit hz) hv (kk h') r h1 h2
    · rw [if_neg hz] at hv
      cases hv
theorem z_putC {idx ci N : Nat} {C : String} {T : u_T} {ty0 : Nat → FieldType} (k : Nat) {r0 : Option Nat} {v : Int} {f : zH → Option ρ} (X : zX K cc own Ts R0) (hd : decode cc pc = .ok (.putfield idx, 3)) (hin : ∀ w ∈ u_ws C T N, w ∈ Ts) (hty : ∀ k, k < N → parseFieldDescriptor (T k).2.2.1 = some (ty0 k)) (hnm : ∀ a, a < N → ∀ b, b < N → a ≠ b → (T a).2.1 ≠ (T b).2.1) (hc : vwCl[ci]? = some (C, T, N)) (hk : k < N) (hlink : Cond.fieldLink own idx (T k).1 (T k).2.1 (T k).2.2.1 ∈ Ts) (hfin : (T k).2.2.2 = false) (hyt : ty0 k = .char) (kk : ∀ h', zS (f h') G (zJ K cells slots (pc + 3) lv st h')) : zS ((zpC hp r0 ci k v).bind f) G (zJ K cells slots pc lv (zI v :: zR r0 :: st) hp) := by
    intro r h1 h2
    obtain ⟨h', hv, h1⟩ := Option.bind_eq_some_iff.mp h1
    unfold zpC at hv
    by_cases hz : 0 ≤ v ∧ v ≤ 65535
    · rw [if_pos hz] at hv
      exact zj_put k X hd hin hty hnm hc hk hlink hfin (fun ad => by rw [hyt]; exact zC_fit hz) hv (kk h') r h1 h2
    · rw [if_neg hz] at hv
      cases hv
theorem zj_putF {idx ci N : Nat} {C : String} {T : u_T} {ty0 : Nat → FieldType} (k : Nat) {r0 : Option Nat} {v : zPV} {h' : zH} (X : zX K cc own Ts R0) (hd : decode cc pc = .ok (.putfield idx, 3)) (hin : ∀ w ∈ u_ws C T N, w ∈ Ts) (hty : ∀ k, k < N → parseFieldDescriptor (T k).2.2.1 = some (ty0 k)) (hnm : ∀ a, a < N → ∀ b, b < N → a ≠ b → (T a).2.1 ≠ (T b).2.1) (hc : vwCl[ci]? = some (C, T, N)) (hk : k < N) (hlink : Cond.fieldLink own idx (T k).1 (T k).2.1 (T k).2.2.1 ∈ Ts) (hfin : (T k).2.2.2 = true) (hin9 : K.2.2.2.2.2.2.2.2.1.name = "<init>") (hdc9 : (T k).1 = own) (hnar : ∀ ad, narrow (ty0 k) (zT ad v) = zT ad v ∧ fits (ty0 k) (zT ad v) = true) (hv : zput hp r0 ci k v = some h') (kk : zS o G (zJ K cells slots (pc + 3) lv st h')) : zS o G (zJ K cells slots pc lv (v :: zR r0 :: st) hp) := by
  obtain ⟨p, l, e, R, s, m, args, below, meth, c, D, cA, A, Q, nL, ad0, n0⟩ := K
  obtain ⟨hx, hb, hml, hown, hts, hK, hA, hR, hlk⟩ := X
  intro r h1 h2 ad H locs ls e1 e2 e3 e4 e5 e6 e7 e8 e9
  obtain ⟨i, fs, rfl, hi, hl, rfl⟩ := zput_some hv
  refine va_putF (D := D) (cl := vwCl) (ci := ci) (C := C) (T := T) (N := N) hx hb hts hin ty0 hty hnm hown hK e6 e7 e8 i (fs := fs.map (zT ad)) (zW_at hi) hc k hk (hts _ hlink) (fun _ h9 => h9) hfin hin9 hdc9 (ty := ty0 k) (v := zT ad v) (hty k hk) (hnar ad).1 (hnar ad).2 (by rw [List.length_map]; exact hl) hd (fun H1 locs1 q6 q7 q8 => ?_)
  have he : zW ad cA (hp.set i (.inr (ci, fs.set k v))) = (zW ad cA hp).set i (ad i, .inr (ci, (fs.map (zT ad)).set k (zT ad v))) := by
    rw [zW_set]
    show (zW ad cA hp).set i (ad i, .inr (ci, (fs.set k v).map (zT ad))) = _
    rw [List.map_set]
  rw [← he] at q6 q7
  have hlen : (hp.set i (.inr (ci, fs.set k v))).length = hp.length := List.length_set
  have hok : zOkC hp.length (.inr (ci, fs.set k v)) := by
    intro u hu
    rcases List.mem_or_eq_of_mem_set hu with h' | rfl
    · exact e3 _ (zmem hi) u h'
    · exact zOk_hd e5
  exact kk r h1 h2 ad H1 locs1 ls e1 (by rw [hlen]; exact e2) (zset_ok e3 hok) (by rw [hlen]; exact e4) (by rw [hlen]; exact zOk_tl (zOk_tl e5)) q6 q7 q8 e9
theorem z_putFI {idx ci N : Nat} {C : String} {T : u_T} {ty0 : Nat → FieldType} (k : Nat) {r0 : Option Nat} {v : Int} {f : zH → Option ρ} (X : zX K cc own Ts R0) (hd : decode cc pc = .ok (.putfield idx, 3)) (hin : ∀ w ∈ u_ws C T N, w ∈ Ts) (hty : ∀ k, k < N → parseFieldDescriptor (T k).2.2.1 = some (ty0 k)) (hnm : ∀ a, a < N → ∀ b, b < N → a ≠ b → (T a).2.1 ≠ (T b).2.1) (hc : vwCl[ci]? = some (C, T, N)) (hk : k < N) (hlink : Cond.fieldLink own idx (T k).1 (T k).2.1 (T k).2.2.1 ∈ Ts) (hfin : (T k).2.2.2 = true) (hin9 : K.2.2.2.2.2.2.2.2.1.name = "<init>") (hdc9 : (T k).1 = own) (hyt : ty0 k = .int) (kk : ∀ h', zS (f h') G (zJ K cells slots (pc + 3) lv st h')) : zS ((zpI hp r0 ci k v).bind f) G (zJ K cells slots pc lv (zI v :: zR r0 :: st) hp) := by
    intro r h1 h2
    obtain ⟨h', hv, h1⟩ := Option.bind_eq_some_iff.mp h1
    unfold zpI at hv
    exact zj_putF k X hd hin hty hnm hc hk hlink hfin hin9 hdc9 (fun ad => by rw [hyt]; exact ⟨rfl, rfl⟩) hv (kk h') r h1 h2
theorem z_putFJ {idx ci N : Nat} {C : String} {T : u_T} {ty0 : Nat → FieldType} (k : Nat) {r0 : Option Nat} {v : Int64} {f : zH → Option ρ} (X : zX K cc own Ts R0) (hd : decode cc pc = .ok (.putfield idx, 3)) (hin : ∀ w ∈ u_ws C T N, w ∈ Ts) (hty : ∀ k, k < N → parseFieldDescriptor (T k).2.2.1 = some (ty0 k)) (hnm : ∀ a, a < N → ∀ b, b < N → a ≠ b → (T a).2.1 ≠ (T b).2.1) (hc : vwCl[ci]? = some (C, T, N)) (hk : k < N) (hlink : Cond.fieldLink own idx (T k).1 (T k).2.1 (T k).2.2.1 ∈ Ts) (hfin : (T k).2.2.2 = true) (hin9 : K.2.2.2.2.2.2.2.2.1.name = "<init>") (hdc9 : (T k).1 = own) (hyt : ty0 k = .long) (kk : ∀ h', zS (f h') G (zJ K cells slots (pc + 3) lv st h')) : zS ((zpJ hp r0 ci k v).bind f) G (zJ K cells slots pc lv (zL v :: zR r0 :: st) hp) := by
    intro r h1 h2
    obtain ⟨h', hv, h1⟩ := Option.bind_eq_some_iff.mp h1
    unfold zpJ at hv
    exact zj_putF k X hd hin hty hnm hc hk hlink hfin hin9 hdc9 (fun ad => by rw [hyt]; exact ⟨rfl, rfl⟩) hv (kk h') r h1 h2
theorem z_putFR {idx ci N : Nat} {C : String} {T : u_T} {ty0 : Nat → FieldType} (k : Nat) {r0 : Option Nat} {v : Option Nat} {f : zH → Option ρ} (X : zX K cc own Ts R0) (hd : decode cc pc = .ok (.putfield idx, 3)) (hin : ∀ w ∈ u_ws C T N, w ∈ Ts) (hty : ∀ k, k < N → parseFieldDescriptor (T k).2.2.1 = some (ty0 k)) (hnm : ∀ a, a < N → ∀ b, b < N → a ≠ b → (T a).2.1 ≠ (T b).2.1) (hc : vwCl[ci]? = some (C, T, N)) (hk : k < N) (hlink : Cond.fieldLink own idx (T k).1 (T k).2.1 (T k).2.2.1 ∈ Ts) (hfin : (T k).2.2.2 = true) (hin9 : K.2.2.2.2.2.2.2.2.1.name = "<init>") (hdc9 : (T k).1 = own) (hyt : ∃ cn, ty0 k = .object cn ∨ ∃ t9, ty0 k = .array t9) (kk : ∀ h', zS (f h') G (zJ K cells slots (pc + 3) lv st h')) : zS ((zpR hp r0 ci k v).bind f) G (zJ K cells slots pc lv (zR v :: zR r0 :: st) hp) := by
    intro r h1 h2
    obtain ⟨h', hv, h1⟩ := Option.bind_eq_some_iff.mp h1
    unfold zpR at hv
    exact zj_putF k X hd hin hty hnm hc hk hlink hfin hin9 hdc9 (fun ad => by obtain ⟨cn, h9 | ⟨t9, h9⟩⟩ := hyt <;> rw [h9] <;> cases v <;> exact ⟨rfl, rfl⟩) hv (kk h') r h1 h2
theorem z_putFZ {idx ci N : Nat} {C : String} {T : u_T} {ty0 : Nat → FieldType} (k : Nat) {r0 : Option Nat} {v : Int} {f : zH → Option ρ} (X : zX K cc own Ts R0) (hd : decode cc pc = .ok (.putfield idx, 3)) (hin : ∀ w ∈ u_ws C T N, w ∈ Ts) (hty : ∀ k, k < N → parseFieldDescriptor (T k).2.2.1 = some (ty0 k)) (hnm : ∀ a, a < N → ∀ b, b < N → a ≠ b → (T a).2.1 ≠ (T b).2.1) (hc : vwCl[ci]? = some (C, T, N)) (hk : k < N) (hlink : Cond.fieldLink own idx (T k).1 (T k).2.1 (T k).2.2.1 ∈ Ts) (hfin : (T k).2.2.2 = true) (hin9 : K.2.2.2.2.2.2.2.2.1.name = "<init>") (hdc9 : (T k).1 = own) (hyt : ty0 k = .boolean) (kk : ∀ h', zS (f h') G (zJ K cells slots (pc + 3) lv st h')) : zS ((zpZ hp r0 ci k v).bind f) G (zJ K cells slots pc lv (zI v :: zR r0 :: st) hp) := by
    intro r h1 h2
    obtain ⟨h', hv, h1⟩ := Option.bind_eq_some_iff.mp h1
    unfold zpZ at hv
    by_cases hz : v = 0 ∨ v = 1
    · rw [if_pos hz] at hv
      exact zj_putF k X hd hin hty hnm hc hk hlink hfin hin9 hdc9 (fun ad => by rw [hyt]; exact zZ_fit hz) hv (kk h') r h1 h2
    · rw [if_neg hz] at hv
      cases hv
theorem z_putFC {idx ci N : Nat} {C : String} {T : u_T} {ty0 : Nat → FieldType} (k : Nat) {r0 : Option Nat} {v : Int} {f : zH → Option ρ} (X : zX K cc own Ts R0) (hd : decode cc pc = .ok (.putfield idx, 3)) (hin : ∀ w ∈ u_ws C T N, w ∈ Ts) (hty : ∀ k, k < N → parseFieldDescriptor (T k).2.2.1 = some (ty0 k)) (hnm : ∀ a, a < N → ∀ b, b < N → a ≠ b → (T a).2.1 ≠ (T b).2.1) (hc : vwCl[ci]? = some (C, T, N)) (hk : k < N) (hlink : Cond.fieldLink own idx (T k).1 (T k).2.1 (T k).2.2.1 ∈ Ts) (hfin : (T k).2.2.2 = true) (hin9 : K.2.2.2.2.2.2.2.2.1.name = "<init>") (hdc9 : (T k).1 = own) (hyt : ty0 k = .char) (kk : ∀ h', zS (f h') G (zJ K cells slots (pc + 3) lv st h')) : zS ((zpC hp r0 ci k v).bind f) G (zJ K cells slots pc lv (zI v :: zR r0 :: st) hp) := by
    intro r h1 h2
    obtain ⟨h', hv, h1⟩ := Option.bind_eq_some_iff.mp h1
    unfold zpC at hv
    by_cases hz : 0 ≤ v ∧ v ≤ 65535
    · rw [if_pos hz] at hv
      exact zj_putF k X hd hin hty hnm hc hk hlink hfin hin9 hdc9 (fun ad => by rw [hyt]; exact zC_fit hz) hv (kk h') r h1 h2
    · rw [if_neg hz] at hv
      cases hv
theorem z_iaload {r0 : Option Nat} {i : Int} {g : Int → Option ρ} (X : zX K cc own Ts R0) (hd : decode cc pc = .ok (.iaload, 1)) (kk : ∀ v, zS (g v) G (zJ K cells slots (pc + 1) lv (zI v :: st) hp)) : zS ((zaI hp 0 r0 i).bind g) G (zJ K cells slots pc lv (zI i :: zR r0 :: st) hp) := by
  obtain ⟨p, l, e, R, s, m, args, below, meth, c, D, cA, A, Q, nL, ad0, n0⟩ := K
  obtain ⟨hx, hb, hml, hown, hts, hK, hA, hR, hlk⟩ := X
  intro r h1 h2 ad H locs ls e1 e2 e3 e4 e5 e6 e7 e8 e9
  obtain ⟨v, hv, h3⟩ := Option.bind_eq_some_iff.mp h1
  clear h1
  unfold zaI at hv
  obtain ⟨⟨a, n, cf⟩, hz, hv⟩ := Option.bind_eq_some_iff.mp hv
  obtain ⟨f, hf, hv⟩ := Option.bind_eq_some_iff.mp hv
  cases hv
  have hf : cf = _ := zcI_some hf
  subst hf
  obtain ⟨rfl, hi, h0, hn⟩ := zarr_some hz
  have hiR : inR i := zOk_hd e5
  refine va_iald (D := D) (cl := vwCl) hx hb hK e6 a 0 (zW_at hi) rfl ((z32_in hiR).2 ⟨h0, hn⟩) hd ?_
  rw [z32_nat hiR]
  exact kk _ r h3 h2 ad H locs ls e1 e2 e3 e4 (zOk_cons (e3 _ (zmem hi) _) (zOk_tl (zOk_tl e5))) e6 e7 e8 e9
theorem z_zaload {r0 : Option Nat} {i : Int} {g : Int → Option ρ} (X : zX K cc own Ts R0) (hd : decode cc pc = .ok (.baload, 1)) (kk : ∀ v, zS (g v) G (zJ K cells slots (pc + 1) lv (zI v :: st) hp)) : zS ((zaI hp 2 r0 i).bind g) G (zJ K cells slots pc lv (zI i :: zR r0 :: st) hp) := by
  obtain ⟨p, l, e, R, s, m, args, below, meth, c, D, cA, A, Q, nL, ad0, n0⟩ := K
  obtain ⟨hx, hb, hml, hown, hts, hK, hA, hR, hlk⟩ := X
  intro r h1 h2 ad H locs ls e1 e2 e3 e4 e5 e6 e7 e8 e9
  obtain ⟨v, hv, h3⟩ := Option.bind_eq_some_iff.mp h1
  clear h1
  unfold zaI at hv
  obtain ⟨⟨a, n, cf⟩, hz, hv⟩ := Option.bind_eq_some_iff.mp hv
  obtain ⟨f, hf, hv⟩ := Option.bind_eq_some_iff.mp hv
  cases hv
  have hf : cf = _ := zcI_some hf
  subst hf
  obtain ⟨rfl, hi, h0, hn⟩ := zarr_some hz
  have hiR : inR i := zOk_hd e5
  refine va_zald (D := D) (cl := vwCl) hx hb hK e6 a 2 (zW_at hi) rfl ((z32_in hiR).2 ⟨h0, hn⟩) hd ?_
  rw [z32_nat hiR]
  exact kk _ r h3 h2 ad H locs ls e1 e2 e3 e4 (zOk_cons (e3 _ (zmem hi) _) (zOk_tl (zOk_tl e5))) e6 e7 e8 e9
theorem z_caload {r0 : Option Nat} {i : Int} {g : Int → Option ρ} (X : zX K cc own Ts R0) (hd : decode cc pc = .ok (.caload, 1)) (kk : ∀ v, zS (g v) G (zJ K cells slots (pc + 1) lv (zI v :: st) hp)) : zS ((zaI hp 3 r0 i).bind g) G (zJ K cells slots pc lv (zI i :: zR r0 :: st) hp) := by
  obtain ⟨p, l, e, R, s, m, args, below, meth, c, D, cA, A, Q, nL, ad0, n0⟩ := K
  obtain ⟨hx, hb, hml, hown, hts, hK, hA, hR, hlk⟩ := X
  intro r h1 h2 ad H locs ls e1 e2 e3 e4 e5 e6 e7 e8 e9
  obtain ⟨v, hv, h3⟩ := Option.bind_eq_some_iff.mp h1
  clear h1
  unfold zaI at hv
  obtain ⟨⟨a, n, cf⟩, hz, hv⟩ := Option.bind_eq_some_iff.mp hv
  obtain ⟨f, hf, hv⟩ := Option.bind_eq_some_iff.mp hv
  cases hv
  have hf : cf = _ := zcI_some hf
  subst hf
  obtain ⟨rfl, hi, h0, hn⟩ := zarr_some hz
  have hiR : inR i := zOk_hd e5
  refine va_cald (D := D) (cl := vwCl) hx hb hK e6 a 3 (zW_at hi) rfl ((z32_in hiR).2 ⟨h0, hn⟩) hd ?_
  rw [z32_nat hiR]
  exact kk _ r h3 h2 ad H locs ls e1 e2 e3 e4 (zOk_cons (e3 _ (zmem hi) _) (zOk_tl (zOk_tl e5))) e6 e7 e8 e9
theorem z_laload {r0 : Option Nat} {i : Int} {g : Int64 → Option ρ} (X : zX K cc own Ts R0) (hd : decode cc pc = .ok (.laload, 1)) (kk : ∀ v, zS (g v) G (zJ K cells slots (pc + 1) lv (zL v :: st) hp)) : zS ((zaJ hp r0 i).bind g) G (zJ K cells slots pc lv (zI i :: zR r0 :: st) hp) := by
  obtain ⟨p, l, e, R, s, m, args, below, meth, c, D, cA, A, Q, nL, ad0, n0⟩ := K
  obtain ⟨hx, hb, hml, hown, hts, hK, hA, hR, hlk⟩ := X
  intro r h1 h2 ad H locs ls e1 e2 e3 e4 e5 e6 e7 e8 e9
  obtain ⟨v, hv, h3⟩ := Option.bind_eq_some_iff.mp h1
  clear h1
  unfold zaJ at hv
  obtain ⟨⟨a, n, cf⟩, hz, hv⟩ := Option.bind_eq_some_iff.mp hv
  obtain ⟨f, hf, hv⟩ := Option.bind_eq_some_iff.mp hv
  cases hv
  have hf : cf = _ := zcJ_some hf
  subst hf
  obtain ⟨rfl, hi, h0, hn⟩ := zarr_some hz
  have hiR : inR i := zOk_hd e5
  refine va_lald (D := D) (cl := vwCl) hx hb hK e6 a 1 (zW_at hi) rfl ((z32_in hiR).2 ⟨h0, hn⟩) hd ?_
  rw [z32_nat hiR]
  exact kk _ r h3 h2 ad H locs ls e1 e2 e3 e4 (zOk_cons trivial (zOk_tl (zOk_tl e5))) e6 e7 e8 e9
theorem z_daload {r0 : Option Nat} {i : Int} {g : UInt64 → Option ρ} (X : zX K cc own Ts R0) (hd : decode cc pc = .ok (.daload, 1)) (kk : ∀ v, zS (g v) G (zJ K cells slots (pc + 1) lv (zD v :: st) hp)) : zS ((zaD hp r0 i).bind g) G (zJ K cells slots pc lv (zI i :: zR r0 :: st) hp) := by
  obtain ⟨p, l, e, R, s, m, args, below, meth, c, D, cA, A, Q, nL, ad0, n0⟩ := K
  obtain ⟨hx, hb, hml, hown, hts, hK, hA, hR, hlk⟩ := X
  intro r h1 h2 ad H locs ls e1 e2 e3 e4 e5 e6 e7 e8 e9
  obtain ⟨v, hv, h3⟩ := Option.bind_eq_some_iff.mp h1
  clear h1
  unfold zaD at hv
  obtain ⟨⟨a, n, cf⟩, hz, hv⟩ := Option.bind_eq_some_iff.mp hv
  obtain ⟨f, hf, hv⟩ := Option.bind_eq_some_iff.mp hv
  cases hv
  have hf : cf = _ := zcD_some hf
  subst hf
  obtain ⟨rfl, hi, h0, hn⟩ := zarr_some hz
  have hiR : inR i := zOk_hd e5
  refine va_dald (D := D) (cl := vwCl) hx hb hK e6 a 4 (zW_at hi) rfl ((z32_in hiR).2 ⟨h0, hn⟩) hd ?_
  rw [z32_nat hiR]
  exact kk _ r h3 h2 ad H locs ls e1 e2 e3 e4 (zOk_cons trivial (zOk_tl (zOk_tl e5))) e6 e7 e8 e9
theorem z_aaload5 {r0 : Option Nat} {i : Int} {g : Option Nat → Option ρ} (X : zX K cc own Ts R0) (hd : decode cc pc = .ok (.aaload, 1)) (kk : ∀ v, zS (g v) G (zJ K cells slots (pc + 1) lv (zR v :: st) hp)) : zS ((zaR hp 5 r0 i).bind g) G (zJ K cells slots pc lv (zI i :: zR r0 :: st) hp) := by
  obtain ⟨p, l, e, R, s, m, args, below, meth, c, D, cA, A, Q, nL, ad0, n0⟩ := K
  obtain ⟨hx, hb, hml, hown, hts, hK, hA, hR, hlk⟩ := X
  intro r h1 h2 ad H locs ls e1 e2 e3 e4 e5 e6 e7 e8 e9
  obtain ⟨v, hv, h3⟩ := Option.bind_eq_some_iff.mp h1
  clear h1
  unfold zaR at hv
  obtain ⟨⟨a, n, cf⟩, hz, hv⟩ := Option.bind_eq_some_iff.mp hv
  obtain ⟨f, hf, hv⟩ := Option.bind_eq_some_iff.mp hv
  cases hv
  have hf : cf = _ := zcR_some hf
  subst hf
  obtain ⟨rfl, hi, h0, hn⟩ := zarr_some hz
  have hiR : inR i := zOk_hd e5
  refine va_aldq (D := D) (cl := vwCl) hx hb hK e6 a 5 (zW_at hi) rfl ((z32_in hiR).2 ⟨h0, hn⟩) hd ?_
  rw [z32_nat hiR]
  exact kk _ r h3 h2 ad H locs ls e1 e2 e3 e4 (zOk_cons (fun j hj => e3 _ (zmem hi) i.toNat j hj) (zOk_tl (zOk_tl e5))) e6 e7 e8 e9
theorem z_aaload6 {r0 : Option Nat} {i : Int} {g : Option Nat → Option ρ} (X : zX K cc own Ts R0) (hd : decode cc pc = .ok (.aaload, 1)) (kk : ∀ v, zS (g v) G (zJ K cells slots (pc + 1) lv (zR v :: st) hp)) : zS ((zaR hp 6 r0 i).bind g) G (zJ K cells slots pc lv (zI i :: zR r0 :: st) hp) := by
  obtain ⟨p, l, e, R, s, m, args, below, meth, c, D, cA, A, Q, nL, ad0, n0⟩ := K
  obtain ⟨hx, hb, hml, hown, hts, hK, hA, hR, hlk⟩ := X
  intro r h1 h2 ad H locs ls e1 e2 e3 e4 e5 e6 e7 e8 e9
  obtain ⟨v, hv, h3⟩ := Option.bind_eq_some_iff.mp h1
  clear h1
  unfold zaR at hv
  obtain ⟨⟨a, n, cf⟩, hz, hv⟩ := Option.bind_eq_some_iff.mp hv
  obtain ⟨f, hf, hv⟩ := Option.bind_eq_some_iff.mp hv
  cases hv
  have hf : cf = _ := zcR_some hf
  subst hf
  obtain ⟨rfl, hi, h0, hn⟩ := zarr_some hz
  have hiR : inR i := zOk_hd e5
  refine va_aldq (D := D) (cl := vwCl) hx hb hK e6 a 6 (zW_at hi) rfl ((z32_in hiR).2 ⟨h0, hn⟩) hd ?_
  rw [z32_nat hiR]
  exact kk _ r h3 h2 ad H locs ls e1 e2 e3 e4 (zOk_cons (fun j hj => e3 _ (zmem hi) i.toNat j hj) (zOk_tl (zOk_tl e5))) e6 e7 e8 e9
theorem zup_T {f : Nat → Int} {k : Nat} {x : Int} : (fun j => Int32.ofInt (zup f k x j)) = upd (fun j => Int32.ofInt (f j)) k (Int32.ofInt x) := by
  funext j
  unfold zup upd
  split <;> rfl
theorem zup_R {f : Nat → Int} {k : Nat} {x : Int} (h : ∀ j, inR (f j)) (hx : inR x) : ∀ j, inR (zup f k x j) := by
  intro j
  unfold zup
  split
  · exact hx
  · exact h j
theorem znar_int (x : Int32) : narrow .int (.int x) = .int x := rfl
theorem znar2 {z : Int} (h : z = 0 ∨ z = 1) : vp_nar .boolean (Int32.ofInt z) = Int32.ofInt z := by
  rcases h with rfl | rfl <;> decide
theorem znar3 {z : Int} (h : 0 ≤ z ∧ z ≤ 65535) : vp_nar .char (Int32.ofInt z) = Int32.ofInt z := by
  obtain ⟨n, rfl⟩ := Int.eq_ofNat_of_zero_le h.1
  have := (pk_charN (q := n) (by omega)).1
  unfold vp_nar
  show (match narrow .char (.int (nI n)) with | .int y => y | _ => (nI n)) = nI n
  rw [this]
theorem z_iastore {r0 : Option Nat} {i x : Int} {g : zH → Option ρ} (X : zX K cc own Ts R0) (hd : decode cc pc = .ok (.iastore, 1)) (kk : ∀ h', zS (g h') G (zJ K cells slots (pc + 1) lv st h')) : zS ((zsI hp 0 r0 i x).bind g) G (zJ K cells slots pc lv (zI x :: zI i :: zR r0 :: st) hp) := by
  obtain ⟨p, l, e, R, s, m, args, below, meth, c, D, cA, A, Q, nL, ad0, n0⟩ := K
  obtain ⟨hx, hb, hml, hown, hts, hK, hA, hR, hlk⟩ := X
  intro r h1 h2 ad H locs ls e1 e2 e3 e4 e5 e6 e7 e8 e9
  obtain ⟨v, hv, h3⟩ := Option.bind_eq_some_iff.mp h1
  clear h1
  unfold zsI at hv
  obtain ⟨⟨a, n, cf⟩, hz, hv⟩ := Option.bind_eq_some_iff.mp hv
  obtain ⟨f, hf, hv⟩ := Option.bind_eq_some_iff.mp hv
  have hf : cf = _ := zcI_some hf
  subst hf
  · by_cases hz9 : (0 = 2 → x = 0 ∨ x = 1) ∧ (0 = 3 → 0 ≤ x ∧ x ≤ 65535)
    · rw [if_pos hz9] at hv
      cases hv
      obtain ⟨rfl, hi, h0, hn⟩ := zarr_some hz
      have hiR : inR i := zOk_hd (zOk_tl e5)
      have hxR : inR x := zOk_hd e5
      refine va_iast (D := D) (cl := vwCl) hx hb hK e6 e7 e8 a 0 (x := Int32.ofInt x) (i := Int32.ofInt i) (zW_at hi) rfl ((z32_in hiR).2 ⟨h0, hn⟩) hd (fun H1 locs1 q6 q7 q8 => ?_)
      rw [z32_nat hiR] at q6 q7
      have he : zW ad cA (hp.set a (.inl (0, n, .inl (zup f i.toNat x)))) = (zW ad cA hp).set a (ad a, .inl (cA 0, n, .inl (upd (fun j => Int32.ofInt (f j)) i.toNat (Int32.ofInt x)))) := by
        rw [zW_set, ← zup_T]
        rfl
      rw [← he] at q6 q7
      have hlen : (hp.set a (.inl (0, n, .inl (zup f i.toNat x)))).length = hp.length := List.length_set
      exact kk _ r h3 h2 ad H1 locs1 ls e1 (by rw [hlen]; exact e2) (zset_ok e3 (zup_R (e3 _ (zmem hi)) hxR)) (by rw [hlen]; exact e4) (by rw [hlen]; exact zOk_tl (zOk_tl (zOk_tl e5))) q6 q7 q8 e9
    · rw [if_neg hz9] at hv
      cases hv
theorem z_zastore {r0 : Option Nat} {i x : Int} {g : zH → Option ρ} (X : zX K cc own Ts R0) (hd : decode cc pc = .ok (.bastore, 1)) (kk : ∀ h', zS (g h') G (zJ K cells slots (pc + 1) lv st h')) : zS ((zsI hp 2 r0 i x).bind g) G (zJ K cells slots pc lv (zI x :: zI i :: zR r0 :: st) hp) := by
  obtain ⟨p, l, e, R, s, m, args, below, meth, c, D, cA, A, Q, nL, ad0, n0⟩ := K
  obtain ⟨hx, hb, hml, hown, hts, hK, hA, hR, hlk⟩ := X
  intro r h1 h2 ad H locs ls e1 e2 e3 e4 e5 e6 e7 e8 e9
  obtain ⟨v, hv, h3⟩ := Option.bind_eq_some_iff.mp h1
  clear h1
  unfold zsI at hv
  obtain ⟨⟨a, n, cf⟩, hz, hv⟩ := Option.bind_eq_some_iff.mp hv
  obtain ⟨f, hf, hv⟩ := Option.bind_eq_some_iff.mp hv
  have hf : cf = _ := zcI_some hf
  subst hf
  · by_cases hz9 : (2 = 2 → x = 0 ∨ x = 1) ∧ (2 = 3 → 0 ≤ x ∧ x ≤ 65535)
    · rw [if_pos hz9] at hv
      cases hv
      obtain ⟨rfl, hi, h0, hn⟩ := zarr_some hz
      have hiR : inR i := zOk_hd (zOk_tl e5)
      have hxR : inR x := zOk_hd e5
      refine va_zast (D := D) (cl := vwCl) hx hb hK e6 e7 e8 a 2 (x := Int32.ofInt x) (i := Int32.ofInt i) (zW_at hi) rfl ((z32_in hiR).2 ⟨h0, hn⟩) hd (fun H1 locs1 q6 q7 q8 => ?_)
      rw [z32_nat hiR] at q6 q7
      rw [znar2 (hz9.1 rfl)] at q6 q7
      have he : zW ad cA (hp.set a (.inl (2, n, .inl (zup f i.toNat x)))) = (zW ad cA hp).set a (ad a, .inl (cA 2, n, .inl (upd (fun j => Int32.ofInt (f j)) i.toNat (Int32.ofInt x)))) := by
        rw [zW_set, ← zup_T]
        rfl
      rw [← he] at q6 q7
      have hlen : (hp.set a (.inl (2, n, .inl (zup f i.toNat x)))).length = hp.length := List.length_set
      exact kk _ r h3 h2 ad H1 locs1 ls e1 (by rw [hlen]; exact e2) (zset_ok e3 (zup_R (e3 _ (zmem hi)) hxR)) (by rw [hlen]; exact e4) (by rw [hlen]; exact zOk_tl (zOk_tl (zOk_tl e5))) q6 q7 q8 e9
    · rw [if_neg hz9] at hv
      cases hv
theorem z_castore {r0 : Option Nat} {i x : Int} {g : zH → Option ρ} (X : zX K cc own Ts R0) (hd : decode cc pc = .ok (.castore, 1)) (kk : ∀ h', zS (g h') G (zJ K cells slots (pc + 1) lv st h')) : zS ((zsI hp 3 r0 i x).bind g) G (zJ K cells slots pc lv (zI x :: zI i :: zR r0 :: st) hp) := by
  obtain ⟨p, l, e, R, s, m, args, below, meth, c, D, cA, A, Q, nL, ad0, n0⟩ := K
  obtain ⟨hx, hb, hml, hown, hts, hK, hA, hR, hlk⟩ := X
  intro r h1 h2 ad H locs ls e1 e2 e3 e4 e5 e6 e7 e8 e9
  obtain ⟨v, hv, h3⟩ := Option.bind_eq_some_iff.mp h1
  clear h1
  unfold zsI at hv
  obtain ⟨⟨a, n, cf⟩, hz, hv⟩ := Option.bind_eq_some_iff.mp hv
  obtain ⟨f, hf, hv⟩ := Option.bind_eq_some_iff.mp hv
  have hf : cf = _ := zcI_some hf
  subst hf
  · by_cases hz9 : (3 = 2 → x = 0 ∨ x = 1) ∧ (3 = 3 → 0 ≤ x ∧ x ≤ 65535)
    · rw [if_pos hz9] at hv
      cases hv
      obtain ⟨rfl, hi, h0, hn⟩ := zarr_some hz
      have hiR : inR i := zOk_hd (zOk_tl e5)
      have hxR : inR x := zOk_hd e5
      refine va_cast (D := D) (cl := vwCl) hx hb hK e6 e7 e8 a 3 (x := Int32.ofInt x) (i := Int32.ofInt i) (zW_at hi) rfl ((z32_in hiR).2 ⟨h0, hn⟩) hd (fun H1 locs1 q6 q7 q8 => ?_)
      rw [z32_nat hiR] at q6 q7
      rw [znar3 (hz9.2 rfl)] at q6 q7
      have he : zW ad cA (hp.set a (.inl (3, n, .inl (zup f i.toNat x)))) = (zW ad cA hp).set a (ad a, .inl (cA 3, n, .inl (upd (fun j => Int32.ofInt (f j)) i.toNat (Int32.ofInt x)))) := by
        rw [zW_set, ← zup_T]
        rfl
      rw [← he] at q6 q7
      have hlen : (hp.set a (.inl (3, n, .inl (zup f i.toNat x)))).length = hp.length := List.length_set
      exact kk _ r h3 h2 ad H1 locs1 ls e1 (by rw [hlen]; exact e2) (zset_ok e3 (zup_R (e3 _ (zmem hi)) hxR)) (by rw [hlen]; exact e4) (by rw [hlen]; exact zOk_tl (zOk_tl (zOk_tl e5))) q6 q7 q8 e9
    · rw [if_neg hz9] at hv
      cases hv
theorem z_lastore {r0 : Option Nat} {i : Int} {x : Int64} {g : zH → Option ρ} (X : zX K cc own Ts R0) (hd : decode cc pc = .ok (.lastore, 1)) (kk : ∀ h', zS (g h') G (zJ K cells slots (pc + 1) lv st h')) : zS ((zsJ hp r0 i x).bind g) G (zJ K cells slots pc lv (zL x :: zI i :: zR r0 :: st) hp) := by
  obtain ⟨p, l, e, R, s, m, args, below, meth, c, D, cA, A, Q, nL, ad0, n0⟩ := K
  obtain ⟨hx, hb, hml, hown, hts, hK, hA, hR, hlk⟩ := X
  intro r h1 h2 ad H locs ls e1 e2 e3 e4 e5 e6 e7 e8 e9
  obtain ⟨v, hv, h3⟩ := Option.bind_eq_some_iff.mp h1
  clear h1
  unfold zsJ at hv
  obtain ⟨⟨a, n, cf⟩, hz, hv⟩ := Option.bind_eq_some_iff.mp hv
  obtain ⟨f, hf, hv⟩ := Option.bind_eq_some_iff.mp hv
  have hf : cf = _ := zcJ_some hf
  subst hf
  · cases hv
    obtain ⟨rfl, hi, h0, hn⟩ := zarr_some hz
    have hiR : inR i := zOk_hd (zOk_tl e5)
    refine va_last (D := D) (cl := vwCl) hx hb hK e6 e7 e8 a 1 (x := x) (i := Int32.ofInt i) (zW_at hi) rfl ((z32_in hiR).2 ⟨h0, hn⟩) hd (fun H1 locs1 q6 q7 q8 => ?_)
    rw [z32_nat hiR] at q6 q7
    have he : zW ad cA (hp.set a (.inl (1, n, .inr (.inl (zup f i.toNat x))))) = (zW ad cA hp).set a (ad a, .inl (cA 1, n, .inr (.inl (vp_updL f i.toNat x)))) := by
      rw [zW_set]
      rfl
    rw [← he] at q6 q7
    have hlen : (hp.set a (.inl (1, n, .inr (.inl (zup f i.toNat x))))).length = hp.length := List.length_set
    exact kk _ r h3 h2 ad H1 locs1 ls e1 (by rw [hlen]; exact e2) (zset_ok e3 trivial) (by rw [hlen]; exact e4) (by rw [hlen]; exact zOk_tl (zOk_tl (zOk_tl e5))) q6 q7 q8 e9
theorem z_dastore {r0 : Option Nat} {i : Int} {x : UInt64} {g : zH → Option ρ} (X : zX K cc own Ts R0) (hd : decode cc pc = .ok (.dastore, 1)) (kk : ∀ h', zS (g h') G (zJ K cells slots (pc + 1) lv st h')) : zS ((zsD hp r0 i x).bind g) G (zJ K cells slots pc lv (zD x :: zI i :: zR r0 :: st) hp) := by
  obtain ⟨p, l, e, R, s, m, args, below, meth, c, D, cA, A, Q, nL, ad0, n0⟩ := K
  obtain ⟨hx, hb, hml, hown, hts, hK, hA, hR, hlk⟩ := X
  intro r h1 h2 ad H locs ls e1 e2 e3 e4 e5 e6 e7 e8 e9
  obtain ⟨v, hv, h3⟩ := Option.bind_eq_some_iff.mp h1
  clear h1
  unfold zsD at hv
  obtain ⟨⟨a, n, cf⟩, hz, hv⟩ := Option.bind_eq_some_iff.mp hv
  obtain ⟨f, hf, hv⟩ := Option.bind_eq_some_iff.mp hv
  have hf : cf = _ := zcD_some hf
  subst hf
  · cases hv
    obtain ⟨rfl, hi, h0, hn⟩ := zarr_some hz
    have hiR : inR i := zOk_hd (zOk_tl e5)
    refine va_dast (D := D) (cl := vwCl) hx hb hK e6 e7 e8 a 4 (x := x) (i := Int32.ofInt i) (zW_at hi) rfl ((z32_in hiR).2 ⟨h0, hn⟩) hd (fun H1 locs1 q6 q7 q8 => ?_)
    rw [z32_nat hiR] at q6 q7
    have he : zW ad cA (hp.set a (.inl (4, n, .inr (.inr (.inl (zup f i.toNat x)))))) = (zW ad cA hp).set a (ad a, .inl (cA 4, n, .inr (.inr (.inr (.inl (vf_upd f i.toNat x)))))) := by
      rw [zW_set]
      rfl
    rw [← he] at q6 q7
    have hlen : (hp.set a (.inl (4, n, .inr (.inr (.inl (zup f i.toNat x)))))).length = hp.length := List.length_set
    exact kk _ r h3 h2 ad H1 locs1 ls e1 (by rw [hlen]; exact e2) (zset_ok e3 trivial) (by rw [hlen]; exact e4) (by rw [hlen]; exact zOk_tl (zOk_tl (zOk_tl e5))) q6 q7 q8 e9
theorem z_aastore5 {r0 z0 : Option Nat} {i : Int} {g : zH → Option ρ} (X : zX K cc own Ts R0) (hd : decode cc pc = .ok (.aastore, 1)) (kk : ∀ h', zS (g h') G (zJ K cells slots (pc + 1) lv st h')) : zS ((zsR hp 5 r0 i z0 7).bind g) G (zJ K cells slots pc lv (zR z0 :: zI i :: zR r0 :: st) hp) := by
  obtain ⟨p, l, e, R, s, m, args, below, meth, c, D, cA, A, Q, nL, ad0, n0⟩ := K
  obtain ⟨hx, hb, hml, hown, hts, hK, hA, hR, hlk⟩ := X
  intro r h1 h2 ad H locs ls e1 e2 e3 e4 e5 e6 e7 e8 e9
  obtain ⟨v, hv, h3⟩ := Option.bind_eq_some_iff.mp h1
  clear h1
  unfold zsR at hv
  obtain ⟨⟨a, n, cf⟩, hz, hv⟩ := Option.bind_eq_some_iff.mp hv
  obtain ⟨f, hf, hv⟩ := Option.bind_eq_some_iff.mp hv
  obtain ⟨⟨q, fs0⟩, hq, hv⟩ := Option.bind_eq_some_iff.mp hv
  have hf : cf = _ := zcR_some hf
  subst hf
  obtain ⟨hq8, hq9⟩ := zobj_some hq
  clear hq
  subst hq8
  · · cases hv
      obtain ⟨rfl, hi, h0, hn⟩ := zarr_some hz
      have hiR : inR i := zOk_hd (zOk_tl e5)
      refine va_astq (D := D) (cl := vwCl) hx hb hK e6 e7 e8 a 5 q 7 (r := (RX6, TX6, 8)) (i := Int32.ofInt i) (v := ad q) (vs := fs0.map (zT ad)) (zW_at hi) rfl (zW_at hq9) rfl ((z32_in hiR).2 ⟨h0, hn⟩) hd (fun H1 locs1 q6 q7 q8 => ?_)
      rw [z32_nat hiR] at q6 q7
      have he : zW ad cA (hp.set a (.inl (5, n, .inr (.inr (.inr (zup f i.toNat (some q))))))) = (zW ad cA hp).set a (ad a, .inl (cA 5, n, .inr (.inr (.inr (.inr (va_up (fun j => (f j).map ad) i.toNat (some (ad q)))))))) := by
        rw [zW_set]
        show (zW ad cA hp).set a (ad a, .inl (cA 5, n, .inr (.inr (.inr (.inr (fun j => (zup f i.toNat (some q) j).map ad)))))) = _
        have : (fun j => (zup f i.toNat (some q) j).map ad) = va_up (fun j => (f j).map ad) i.toNat (some (ad q)) := by
          funext j
          unfold zup va_up
          split <;> rfl
        rw [this]
      rw [← he] at q6 q7
      have hlen : (hp.set a (.inl (5, n, .inr (.inr (.inr (zup f i.toNat (some q))))))).length = hp.length := List.length_set
      have hok : zOkC hp.length (.inl (5, n, .inr (.inr (.inr (zup f i.toNat (some q)))))) := by
        intro j k hk
        unfold zup at hk
        split at hk
        · cases hk
          exact zlt hq9
        · exact e3 _ (zmem hi) j k hk
      exact kk _ r h3 h2 ad H1 locs1 ls e1 (by rw [hlen]; exact e2) (zset_ok e3 hok) (by rw [hlen]; exact e4) (by rw [hlen]; exact zOk_tl (zOk_tl (zOk_tl e5))) q6 q7 q8 e9
theorem z_aastore6 {r0 z0 : Option Nat} {i : Int} {g : zH → Option ρ} (X : zX K cc own Ts R0) (hd : decode cc pc = .ok (.aastore, 1)) (kk : ∀ h', zS (g h') G (zJ K cells slots (pc + 1) lv st h')) : zS ((zsR hp 6 r0 i z0 2).bind g) G (zJ K cells slots pc lv (zR z0 :: zI i :: zR r0 :: st) hp) := by
  obtain ⟨p, l, e, R, s, m, args, below, meth, c, D, cA, A, Q, nL, ad0, n0⟩ := K
  obtain ⟨hx, hb, hml, hown, hts, hK, hA, hR, hlk⟩ := X
  intro r h1 h2 ad H locs ls e1 e2 e3 e4 e5 e6 e7 e8 e9
  obtain ⟨v, hv, h3⟩ := Option.bind_eq_some_iff.mp h1
  clear h1
  unfold zsR at hv
  obtain ⟨⟨a, n, cf⟩, hz, hv⟩ := Option.bind_eq_some_iff.mp hv
  obtain ⟨f, hf, hv⟩ := Option.bind_eq_some_iff.mp hv
  obtain ⟨⟨q, fs0⟩, hq, hv⟩ := Option.bind_eq_some_iff.mp hv
  have hf : cf = _ := zcR_some hf
  subst hf
  obtain ⟨hq8, hq9⟩ := zobj_some hq
  clear hq
  subst hq8
  · · cases hv
      obtain ⟨rfl, hi, h0, hn⟩ := zarr_some hz
      have hiR : inR i := zOk_hd (zOk_tl e5)
      refine va_astq (D := D) (cl := vwCl) hx hb hK e6 e7 e8 a 6 q 2 (r := (RX0, TX0, 5)) (i := Int32.ofInt i) (v := ad q) (vs := fs0.map (zT ad)) (zW_at hi) rfl (zW_at hq9) rfl ((z32_in hiR).2 ⟨h0, hn⟩) hd (fun H1 locs1 q6 q7 q8 => ?_)
      rw [z32_nat hiR] at q6 q7
      have he : zW ad cA (hp.set a (.inl (6, n, .inr (.inr (.inr (zup f i.toNat (some q))))))) = (zW ad cA hp).set a (ad a, .inl (cA 6, n, .inr (.inr (.inr (.inr (va_up (fun j => (f j).map ad) i.toNat (some (ad q)))))))) := by
        rw [zW_set]
        show (zW ad cA hp).set a (ad a, .inl (cA 6, n, .inr (.inr (.inr (.inr (fun j => (zup f i.toNat (some q) j).map ad)))))) = _
        have : (fun j => (zup f i.toNat (some q) j).map ad) = va_up (fun j => (f j).map ad) i.toNat (some (ad q)) := by
          funext j
          unfold zup va_up
          split <;> rfl
        rw [this]
      rw [← he] at q6 q7
      have hlen : (hp.set a (.inl (6, n, .inr (.inr (.inr (zup f i.toNat (some q))))))).length = hp.length := List.length_set
      have hok : zOkC hp.length (.inl (6, n, .inr (.inr (.inr (zup f i.toNat (some q)))))) := by
        intro j k hk
        unfold zup at hk
        split at hk
        · cases hk
          exact zlt hq9
        · exact e3 _ (zmem hi) j k hk
      exact kk _ r h3 h2 ad H1 locs1 ls e1 (by rw [hlen]; exact e2) (zset_ok e3 hok) (by rw [hlen]; exact e4) (by rw [hlen]; exact zOk_tl (zOk_tl (zOk_tl e5))) q6 q7 q8 e9
theorem z_alen {r0 : Option Nat} {g : Int → Option ρ} (X : zX K cc own Ts R0) (hd : decode cc pc = .ok (.arraylength, 1)) (kk : ∀ v, zS (g v) G (zJ K cells slots (pc + 1) lv (zI v :: st) hp)) : zS ((zlen hp r0).bind g) G (zJ K cells slots pc lv (zR r0 :: st) hp) := by
  obtain ⟨p, l, e, R, s, m, args, below, meth, c, D, cA, A, Q, nL, ad0, n0⟩ := K
  obtain ⟨hx, hb, hml, hown, hts, hK, hA, hR, hlk⟩ := X
  intro r h1 h2 ad H locs ls e1 e2 e3 e4 e5 e6 e7 e8 e9
  obtain ⟨v, hv, h3⟩ := Option.bind_eq_some_iff.mp h1
  clear h1
  unfold zlen at hv
  obtain ⟨a, ha9, hw9⟩ := Option.bind_eq_some_iff.mp hv
  clear hv
  subst ha9
  obtain ⟨x9, hi, hv⟩ := Option.bind_eq_some_iff.mp hw9
  clear hw9
  rcases x9 with ⟨t, n, f⟩ | x9
  · have hv : (if t < 7 ∧ n ≤ 2147483647 then some (n : Int) else none) = some v := hv
    by_cases ht : t < 7 ∧ n ≤ 2147483647
    · rw [if_pos ht] at hv
      cases hv
      obtain ⟨ht, hn⟩ := ht
      have hty : ∃ ty, (zTY cA)[t]? = some (cA t, ty) := by
        have : t = 0 ∨ t = 1 ∨ t = 2 ∨ t = 3 ∨ t = 4 ∨ t = 5 ∨ t = 6 := by omega
        rcases this with rfl | rfl | rfl | rfl | rfl | rfl | rfl <;> exact ⟨_, rfl⟩
      obtain ⟨ty, hty⟩ := hty
      have hc : ∃ x : vp_A, zTC ad cA (.inl (t, n, f)) = .inl (cA t, x) ∧ x.1 = n := by
        match f with
        | .inl f => exact ⟨_, rfl, rfl⟩
        | .inr (.inl f) => exact ⟨_, rfl, rfl⟩
        | .inr (.inr (.inl f)) => exact ⟨_, rfl, rfl⟩
        | .inr (.inr (.inr f)) => exact ⟨_, rfl, rfl⟩
      obtain ⟨x, hc, hxn⟩ := hc
      refine va_alen (D := D) (cl := vwCl) hx hb hK e6 a t (x := x) (by rw [zW_at hi, hc]) hty (v := Int32.ofInt n) (by rw [hxn]; rfl) hd ?_
      exact kk _ r h3 h2 ad H locs ls e1 e2 e3 e4 (zOk_cons ⟨by omega, by omega⟩ (zOk_tl e5)) e6 e7 e8 e9
    · rw [if_neg ht] at hv
      cases hv
  · cases hv
end zHeap
