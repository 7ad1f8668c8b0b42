/-! THE CLAIM OUT OF ONE WALK OF THE LAW'S BODY. Your part is whole_start (and what it stands on); all else here is the same for every law, but numbers. -/
def R_law : String := "StreetNamerLaw"
def lw_P (b : Addr) (xs : List Int32) (args : Array Value) (s : State) : Prop := args = #[.ref b] ∧ s.IntsAt b xs ∧ xs.length ≤ 2560 ∧ (Jvm.Cond.and given_1 narrow_1).before args s = true
/-- what a walk over the start with the record d0 says of its end, said of the start itself -/
theorem lw_closed {s t : State} {o : Outcome} {d0 : Drawn} {L : List Loc} {k n : Nat} (hd0 : s.drawn.sameBut d0 lw_cs) (hv : ∃ v, o = .returned v) (hW : (s.setDrawn d0).WarmedH t.vm) (hs : (s.setDrawn d0).sameButNew ({ t with vm := s.vm } : State) L k n) : State.butDraws s t lw_cs (fun t1 => Framed s o t1 L k n) := by
  have h2 : t.drawn = d0 := congrArg State.drawn hs.1
  refine ⟨⟨hv, hW, State.sameButNew.setDrawn hs s.drawn⟩, ?_, by decide⟩
  rw [h2]
  exact hd0
def lw_Q (_ : Array Value) (s : State) (o : Outcome) (t : State) : Prop := o = .returned (some (.int 1)) ∧ State.butDraws s t lw_cs (fun t1 => Framed s o t1 [] 603072 7190634)
def lw_Z (below : List Frame) (a : Array Value) (s : State) : State → Prop := fun t => ∃ o, t.status = .running ∧ Ended t below o ∧ lw_Q a s o t
/-- the law's own end, with 1 on the stack, nothing written that was there before, its room as the claim has it; d0: the record of draws at this point (at the entry s.drawn: begin with 'refine W.base ?_' and 'have hd0 := Drawn.sameBut.refl s.drawn lw_cs') -/
theorem lw_ret {p : Program} {l : Launch} {e : Env} {s : State} {m : MethodId} {below : List Frame} {meth : Method} {c : Code} {b : Nat} {d0 : Drawn} (hd0 : s.drawn.sameBut d0 lw_cs) (hx : p.tables.exec = Jvm.exec) (hb : c.code = code) (hr : meth.sig.returnType = ret) (hlocks : meth.locks = false) {pc : Nat} {H : Heap} {ls : Array Slot} (hdg : decode code pc = .ok (.ireturn, 1)) : W p l e room_1 (s.setDrawn d0) m #[Value.ref b] below meth c H [] 603072 7190634 (lw_Z below #[Value.ref b] s) (F0 m pc ls [.int 1]) := by
  intro T hT X
  obtain ⟨fs, hret, hrun, hended, hW, hframe⟩ := X.leave (v := some (.int 1)) (hlocks := hlocks) (fun h => by rw [hr] at h; cases h)
  have hmeth' : T.vm.method? m = some meth := X.method'
  refine ⟨T.setFrames fs, ?_, .returned (some (.int 1)), hrun, hended, rfl, lw_closed hd0 ⟨_, rfl⟩ hW hframe⟩
  jvm_step X.here [X.here.top, hx, hb, hdg, hmeth', hr, ret, narrow_b1]
  (try refine ⟨rfl, ?_⟩); (try refine ⟨rfl, ?_⟩)
  first | (intro acts; rw [hret _ acts rfl rfl rfl]) | rw [hret _ _ rfl rfl rfl]
  exact Steps.refl _
/-- what holds at the law's entry: the machine, the code, the tables' words (any of lw_tbl by 'hts w (by decide +kernel)'), the script of L ints xs at the cell b, what the Statement gives of the start (any of its parts by flat_of_before) -/
def lw_At (p : Program) (s : State) (m : MethodId) (meth : Method) (c : Code) (b L : Nat) (xs : Nat → Int32) : Prop :=
  p.tables.exec = Jvm.exec ∧ c.code = code ∧ meth.sig.returnType = ret ∧ c.maxLocals = 9 ∧ s.vm.findClass R_law = some m.cls ∧ (∀ w ∈ lw_tbl, w.before #[Value.ref b] s = true) ∧ va_X b L xs s s.heap ∧ b < s.heap.size ∧ meth.locks = false ∧ (Jvm.Cond.and given_1 narrow_1).before #[Value.ref b] s = true
theorem lz_RJ0 : ∀ w ∈ u_ws RJ0 TJ0 2, w ∈ lw_tbl := by
  intro w hw
  obtain ⟨k, hk, rfl⟩ := List.mem_map.1 hw
  have hk := List.mem_range.1 hk
  rcases (show k = 0 ∨ k = 1 by omega) with rfl | rfl
  · exact zt2 195 (by decide +kernel)
  · exact zt2 197 (by decide +kernel)
theorem lz_RJx00060 : ∀ w ∈ u_ws RJx00060 TJx00060 6, w ∈ lw_tbl := by
  intro w hw
  obtain ⟨k, hk, rfl⟩ := List.mem_map.1 hw
  have hk := List.mem_range.1 hk
  rcases (show k = 0 ∨ k = 1 ∨ k = 2 ∨ k = 3 ∨ k = 4 ∨ k = 5 by omega) with rfl | rfl | rfl | rfl | rfl | rfl
  · exact zt2 183 (by decide +kernel)
  · exact zt2 184 (by decide +kernel)
  · exact zt2 185 (by decide +kernel)
  · exact zt2 186 (by decide +kernel)
  · exact zt2 187 (by decide +kernel)
  · exact zt2 188 (by decide +kernel)
theorem lz_RX0 : ∀ w ∈ u_ws RX0 TX0 5, w ∈ lw_tbl := by
  intro w hw
  obtain ⟨k, hk, rfl⟩ := List.mem_map.1 hw
  have hk := List.mem_range.1 hk
  rcases (show k = 0 ∨ k = 1 ∨ k = 2 ∨ k = 3 ∨ k = 4 by omega) with rfl | rfl | rfl | rfl | rfl
  · exact zt3 140 (by decide +kernel)
  · exact zt3 142 (by decide +kernel)
  · exact zt3 144 (by decide +kernel)
  · exact zt3 146 (by decide +kernel)
  · exact zt3 148 (by decide +kernel)
theorem lz_RX1 : ∀ w ∈ u_ws RX1 TX1 7, w ∈ lw_tbl := by
  intro w hw
  obtain ⟨k, hk, rfl⟩ := List.mem_map.1 hw
  have hk := List.mem_range.1 hk
  rcases (show k = 0 ∨ k = 1 ∨ k = 2 ∨ k = 3 ∨ k = 4 ∨ k = 5 ∨ k = 6 by omega) with rfl | rfl | rfl | rfl | rfl | rfl | rfl
  · exact zt1 77 (by decide +kernel)
  · exact zt1 79 (by decide +kernel)
  · exact zt1 81 (by decide +kernel)
  · exact zt1 83 (by decide +kernel)
  · exact zt1 85 (by decide +kernel)
  · exact zt1 87 (by decide +kernel)
  · exact zt1 89 (by decide +kernel)
theorem lz_RX3 : ∀ w ∈ u_ws RX3 TX3 6, w ∈ lw_tbl := by
  intro w hw
  obtain ⟨k, hk, rfl⟩ := List.mem_map.1 hw
  have hk := List.mem_range.1 hk
  rcases (show k = 0 ∨ k = 1 ∨ k = 2 ∨ k = 3 ∨ k = 4 ∨ k = 5 by omega) with rfl | rfl | rfl | rfl | rfl | rfl
  · exact zt1 48 (by decide +kernel)
  · exact zt1 50 (by decide +kernel)
  · exact zt1 52 (by decide +kernel)
  · exact zt1 54 (by decide +kernel)
  · exact zt1 56 (by decide +kernel)
  · exact zt1 58 (by decide +kernel)
theorem lz_RX4 : ∀ w ∈ u_ws RX4 TX4 2, w ∈ lw_tbl := by
  intro w hw
  obtain ⟨k, hk, rfl⟩ := List.mem_map.1 hw
  have hk := List.mem_range.1 hk
  rcases (show k = 0 ∨ k = 1 by omega) with rfl | rfl
  · exact zt1 102 (by decide +kernel)
  · exact zt1 104 (by decide +kernel)
theorem lz_RX5 : ∀ w ∈ u_ws RX5 TX5 5, w ∈ lw_tbl := by
  intro w hw
  obtain ⟨k, hk, rfl⟩ := List.mem_map.1 hw
  have hk := List.mem_range.1 hk
  rcases (show k = 0 ∨ k = 1 ∨ k = 2 ∨ k = 3 ∨ k = 4 by omega) with rfl | rfl | rfl | rfl | rfl
  · exact zt3 112 (by decide +kernel)
  · exact zt3 114 (by decide +kernel)
  · exact zt3 116 (by decide +kernel)
  · exact zt3 118 (by decide +kernel)
  · exact zt3 120 (by decide +kernel)
theorem lz_RX6 : ∀ w ∈ u_ws RX6 TX6 8, w ∈ lw_tbl := by
  intro w hw
  obtain ⟨k, hk, rfl⟩ := List.mem_map.1 hw
  have hk := List.mem_range.1 hk
  rcases (show k = 0 ∨ k = 1 ∨ k = 2 ∨ k = 3 ∨ k = 4 ∨ k = 5 ∨ k = 6 ∨ k = 7 by omega) with rfl | rfl | rfl | rfl | rfl | rfl | rfl | rfl
  · exact zt2 155 (by decide +kernel)
  · exact zt2 157 (by decide +kernel)
  · exact zt2 159 (by decide +kernel)
  · exact zt2 161 (by decide +kernel)
  · exact zt2 163 (by decide +kernel)
  · exact zt2 165 (by decide +kernel)
  · exact zt2 167 (by decide +kernel)
  · exact zt2 169 (by decide +kernel)
theorem lz_RX7 : ∀ w ∈ u_ws RX7 TX7 9, w ∈ lw_tbl := by
  intro w hw
  obtain ⟨k, hk, rfl⟩ := List.mem_map.1 hw
  have hk := List.mem_range.1 hk
  rcases (show k = 0 ∨ k = 1 ∨ k = 2 ∨ k = 3 ∨ k = 4 ∨ k = 5 ∨ k = 6 ∨ k = 7 ∨ k = 8 by omega) with rfl | rfl | rfl | rfl | rfl | rfl | rfl | rfl | rfl
  · exact zt1 116 (by decide +kernel)
  · exact zt1 118 (by decide +kernel)
  · exact zt1 120 (by decide +kernel)
  · exact zt1 122 (by decide +kernel)
  · exact zt1 124 (by decide +kernel)
  · exact zt1 126 (by decide +kernel)
  · exact zt1 128 (by decide +kernel)
  · exact zt1 130 (by decide +kernel)
  · exact zt1 132 (by decide +kernel)
theorem lz_RX8 : ∀ w ∈ u_ws RX8 TX8 30, w ∈ lw_tbl := by
  intro w hw
  obtain ⟨k, hk, rfl⟩ := List.mem_map.1 hw
  have hk := List.mem_range.1 hk
  rcases (show k = 0 ∨ k = 1 ∨ k = 2 ∨ k = 3 ∨ k = 4 ∨ k = 5 ∨ k = 6 ∨ k = 7 ∨ k = 8 ∨ k = 9 ∨ k = 10 ∨ k = 11 ∨ k = 12 ∨ k = 13 ∨ k = 14 ∨ k = 15 ∨ k = 16 ∨ k = 17 ∨ k = 18 ∨ k = 19 ∨ k = 20 ∨ k = 21 ∨ k = 22 ∨ k = 23 ∨ k = 24 ∨ k = 25 ∨ k = 26 ∨ k = 27 ∨ k = 28 ∨ k = 29 by omega) with rfl | rfl | rfl | rfl | rfl | rfl | rfl | rfl | rfl | rfl | rfl | rfl | rfl | rfl | rfl | rfl | rfl | rfl | rfl | rfl | rfl | rfl | rfl | rfl | rfl | rfl | rfl | rfl | rfl | rfl
  · exact zt4 215 (by decide +kernel)
  · exact zt4 217 (by decide +kernel)
  · exact zt4 219 (by decide +kernel)
  · exact zt4 221 (by decide +kernel)
  · exact zt4 223 (by decide +kernel)
  · exact zt4 225 (by decide +kernel)
  · exact zt4 227 (by decide +kernel)
  · exact zt4 229 (by decide +kernel)
  · exact zt4 231 (by decide +kernel)
  · exact zt4 233 (by decide +kernel)
  · exact zt4 235 (by decide +kernel)
  · exact zt4 237 (by decide +kernel)
  · exact zt4 239 (by decide +kernel)
  · exact zt5 1 (by decide +kernel)
  · exact zt5 3 (by decide +kernel)
  · exact zt5 5 (by decide +kernel)
  · exact zt5 7 (by decide +kernel)
  · exact zt5 9 (by decide +kernel)
  · exact zt5 11 (by decide +kernel)
  · exact zt5 13 (by decide +kernel)
  · exact zt5 15 (by decide +kernel)
  · exact zt5 17 (by decide +kernel)
  · exact zt5 19 (by decide +kernel)
  · exact zt5 21 (by decide +kernel)
  · exact zt5 23 (by decide +kernel)
  · exact zt5 25 (by decide +kernel)
  · exact zt5 27 (by decide +kernel)
  · exact zt5 29 (by decide +kernel)
  · exact zt5 31 (by decide +kernel)
  · exact zt5 33 (by decide +kernel)
theorem zarK {args : Array Value} {s : State} {ty : FieldType} (hty : ∀ C, ty ≠ .object C) (h : (Cond.arrayClass ty).before args s = true) : ∃ cA : ClassId, ArrOfT s cA ty ∧ va_RA s cA ty := by
  obtain ⟨cA, kA, comp, h1, h2, h3⟩ := Cond.arrayClass_spec (args := args) (first := s) (o := none) (idx := []) h
  refine ⟨cA, fun n z => ⟨fun k h => (by cases h), kA, h2, comp, h3⟩, ?_⟩
  cases ty with
  | object C => exact absurd rfl (hty C)
  | _ => exact h1
theorem zarR {args : Array Value} {s : State} {C : String} (h : (Cond.arrayOver (.object C)).before args s = true) : ∃ cA : ClassId, ArrOfT s cA (.object C) ∧ va_RA s cA (.object C) := by
  obtain ⟨comp, cA, kA, h1, h2, h3, h4, h5⟩ := Cond.arrayOver_spec (args := args) (first := s) (o := none) (idx := []) h
  exact ⟨cA, fun n z => ⟨fun k h => (by cases h), kA, h3, comp, h4⟩, kA, comp, h3, h4, h1, h5⟩
theorem zNC_flat : ∀ q ∈ zNC, Cond.not (.castable q.1 q.2) ∈ flatC (Jvm.Cond.and given_1 narrow_1) := by decide +kernel
set_option maxRecDepth 100000 in
set_option maxHeartbeats 4000000 in
theorem whole_start {p : Program} {e : Env} {s : State} {m : MethodId} {below : List Frame} {meth : Method} {c : Code} (l : Launch) (hflags : l.flags = flags0) {b L : Nat} {xs : Nat → Int32} (hL : L ≤ 2560) (C0 : lw_At p s m meth c b L xs) : W p l e room_1 s m #[Value.ref b] below meth c s.heap [] 0 0 (lw_Z below #[Value.ref b] s) (entryFrame m ([Value.ref b] : List Value).toArray 9) := by
  obtain ⟨hx, hb, hr, hml, hown, hts, hX, hbl, hlocks, hgv⟩ := C0
  have hst : l.stackTraces = false := by
    unfold Launch.stackTraces
    rw [hflags]
    decide
  have hA : ∀ q : Nat, s.heap.size ≤ q → (fun q : Nat => s.heap.size ≤ q) q := fun _ h => h
  obtain ⟨c0, iS0, hKn0⟩ := u_known (C := RJ0) (T := TJ0) (N := 2) (n := 4) hts lz_RJ0 (hts (.instantiable RJ0 4) (zt2 194 (by decide +kernel)))
  obtain ⟨c1, iS1, hKn1⟩ := u_known (C := RJx00060) (T := TJx00060) (N := 6) (n := 6) hts lz_RJx00060 (hts (.instantiable RJx00060 6) (zt2 176 (by decide +kernel)))
  obtain ⟨c2, iS2, hKn2⟩ := u_known (C := RX0) (T := TX0) (N := 5) (n := 5) hts lz_RX0 (hts (.instantiable RX0 5) (zt3 125 (by decide +kernel)))
  obtain ⟨c3, iS3, hKn3⟩ := u_known (C := RX1) (T := TX1) (N := 7) (n := 7) hts lz_RX1 (hts (.instantiable RX1 7) (zt1 64 (by decide +kernel)))
  obtain ⟨c4, iS4, hKn4⟩ := u_known (C := RX3) (T := TX3) (N := 6) (n := 6) hts lz_RX3 (hts (.instantiable RX3 6) (zt1 36 (by decide +kernel)))
  obtain ⟨c5, iS5, hKn5⟩ := u_known (C := RX4) (T := TX4) (N := 2) (n := 2) hts lz_RX4 (hts (.instantiable RX4 2) (zt1 94 (by decide +kernel)))
  obtain ⟨c6, iS6, hKn6⟩ := u_known (C := RX5) (T := TX5) (N := 5) (n := 5) hts lz_RX5 (hts (.instantiable RX5 5) (zt3 95 (by decide +kernel)))
  obtain ⟨c7, iS7, hKn7⟩ := u_known (C := RX6) (T := TX6) (N := 8) (n := 8) hts lz_RX6 (hts (.instantiable RX6 8) (zt2 132 (by decide +kernel)))
  obtain ⟨c8, iS8, hKn8⟩ := u_known (C := RX7) (T := TX7) (N := 9) (n := 9) hts lz_RX7 (hts (.instantiable RX7 9) (zt1 24 (by decide +kernel)))
  obtain ⟨c9, iS9, hKn9⟩ := u_known (C := RX8) (T := TX8) (N := 30) (n := 30) hts lz_RX8 (hts (.instantiable RX8 30) (zt4 180 (by decide +kernel)))
  obtain ⟨t0, hA0, hB0⟩ := zarK (ty := .int) (fun _ h => by cases h) (hts (.arrayClass .int) (zt1 62 (by decide +kernel)))
  obtain ⟨t1, hA1, hB1⟩ := zarK (ty := .long) (fun _ h => by cases h) (hts (.arrayClass .long) (zt1 61 (by decide +kernel)))
  obtain ⟨t2, hA2, hB2⟩ := zarK (ty := .boolean) (fun _ h => by cases h) (hts (.arrayClass .boolean) (zt1 92 (by decide +kernel)))
  obtain ⟨t3, hA3, hB3⟩ := zarK (ty := .char) (fun _ h => by cases h) (hts (.arrayClass .char) (zt5 36 (by decide +kernel)))
  obtain ⟨t4, hA4, hB4⟩ := zarK (ty := .double) (fun _ h => by cases h) (hts (.arrayClass .double) (zt6 48 (by decide +kernel)))
  have hO5 := hts (.arrayOver (.object "StreetNamer$Street")) (zt1 32 (by decide +kernel))
  obtain ⟨t5, hA5, hB5⟩ := zarR hO5
  have hO6 := hts (.arrayOver (.object "StreetNamer$Door")) (zt1 34 (by decide +kernel))
  obtain ⟨t6, hA6, hB6⟩ := zarR hO6
  have hK : va_K (fun k => ([c0, c1, c2, c3, c4, c5, c6, c7, c8, c9] : List ClassId).getD k c0, fun k => ([iS0, iS1, iS2, iS3, iS4, iS5, iS6, iS7, iS8, iS9] : List (Nat → Nat)).getD k iS0) vwCl (zTY (fun k => [t0, t1, t2, t3, t4, t5, t6].getD k t0)) s := by
    refine ⟨?_, ?_⟩
    · intro k q hq
      match k, hq with
      | 0, hq => cases hq; exact hKn0
      | 1, hq => cases hq; exact hKn1
      | 2, hq => cases hq; exact hKn2
      | 3, hq => cases hq; exact hKn3
      | 4, hq => cases hq; exact hKn4
      | 5, hq => cases hq; exact hKn5
      | 6, hq => cases hq; exact hKn6
      | 7, hq => cases hq; exact hKn7
      | 8, hq => cases hq; exact hKn8
      | 9, hq => cases hq; exact hKn9
      | k + 10, hq => cases hq
    · intro k q hq
      match k, hq with
      | 0, hq => cases hq; exact ⟨hA0, hB0⟩
      | 1, hq => cases hq; exact ⟨hA1, hB1⟩
      | 2, hq => cases hq; exact ⟨hA2, hB2⟩
      | 3, hq => cases hq; exact ⟨hA3, hB3⟩
      | 4, hq => cases hq; exact ⟨hA4, hB4⟩
      | 5, hq => cases hq; exact ⟨hA5, hB5⟩
      | 6, hq => cases hq; exact ⟨hA6, hB6⟩
      | k + 7, hq => cases hq
  have hEnv : zEnv (fun q : Nat => s.heap.size ≤ q) s s.heap := by
    have hflat := flat_of_before _ hgv
    refine ⟨vx_Zqof (hts _ (zt2 35 (by decide +kernel))) (hts _ (zt1 6 (by decide +kernel))) (hflat _ (by decide +kernel)) (fun a ha h => absurd ha (Nat.not_lt.mpr h)), vx_Zqof (hts _ (zt2 37 (by decide +kernel))) (hts _ (zt1 6 (by decide +kernel))) (hflat _ (by decide +kernel)) (fun a ha h => absurd ha (Nat.not_lt.mpr h)), ?_, ?_, va_AO.of hO5, va_AO.of hO6, ?_⟩
    · intro w hw hz
      cases w <;> first | exact va_Nw.of rfl (hts _ hw) | cases hz
    · intro k tx hk
      have h9 := hts _ hk
      obtain ⟨_, _, _, a, _, _, _, _, _, h5⟩ := Cond.stringRef_spec (args := #[Value.ref b]) (first := s) (o := none) (idx := []) (s := s) hKn8.2.1 h9
      exact ⟨a, vk_R.of h9 h5⟩
    · intro q hq
      exact va_Nc.of (hflat _ (zNC_flat q hq))
  have hts9 : ∀ w ∈ zALL, w.before #[Value.ref b] s = true := fun w hw => hts w (List.mem_filter.1 hw).1
  have hl := lv_entry ([.ref b]) (n := 9) (Nat.le_of_ble_eq_true rfl)
  rw [lg_entry_eq]
  have hZ : zS (L_lawN b xs L) (fun _ => True) (zJ (p, l, e, room_1, s, m, #[Value.ref b], below, meth, c, (fun k => ([c0, c1, c2, c3, c4, c5, c6, c7, c8, c9] : List ClassId).getD k c0, fun k => ([iS0, iS1, iS2, iS3, iS4, iS5, iS6, iS7, iS8, iS9] : List (Nat → Nat)).getD k iS0), (fun k => [t0, t1, t2, t3, t4, t5, t6].getD k t0), (fun q : Nat => s.heap.size ≤ q), lw_Z below #[Value.ref b] s, 9, id, 0) 0 0 0 [(0, zA b)] [] []) := by
    refine c_L_lawN _ b L xs ⟨hx, hb, hml, hown, hts9, hK, hA, rfl, hlocks, hst, hEnv⟩ rfl ⟨hX, hbl, Nat.not_le.mpr hbl⟩ hL ?_
    intro cells slots pc lv hp hc hs hdg ad H locs ls e1 e2 e3 e4 e5 e6 e7 e8 e9
    refine va_forget (fun q hq => e8.2.2 q hq) ?_
    refine W.widen hc hs ?_
    exact lw_ret (d0 := s.drawn) (Drawn.sameBut.refl s.drawn lw_cs) hx hb hr hlocks hdg
  refine hZ () (law_totalN b xs L hL) trivial id s.heap [] _ (fun _ _ => rfl) (Nat.le_refl _) (fun _ h => by cases h) (fun q hq => by rw [List.mem_singleton.1 hq]; trivial) (fun _ h => by cases h) (fun k q h => by cases h) ⟨fun i j p q h _ _ => (by cases h), fun k q h => (by cases h)⟩ va_S.rf hl
set_option maxHeartbeats 4000000 in
theorem lw_walk (l : Launch) (hflags : l.flags = flags0) (b : Addr) (xs : List Int32) : MetFree l x (headSpec (Jvm.Cond.code x code maxLocals ret :: tables_1) room_1) (lw_P b xs) (fun _ _ _ _ _ => True) lw_Q := by
  refine MetFree.of_bodyS (code := code) (maxLocals := maxLocals) (ret := ret) (by decide) ?_ ?_
  · intro args s m h hn
    obtain ⟨meth, c, h1, h2, h3, h4, h5, h6, -, -⟩ := Cond.code_spec hn (atoms_spec (ws := Jvm.Cond.code x code maxLocals ret :: tables_1) h _ List.mem_cons_self)
    exact ⟨meth, c, h1, h2, h3, h4, h5, h6⟩
  · intro p e s m args below meth c s₁ B hml0 hP _
    obtain ⟨rfl, hx, hbd, hgv⟩ := hP
    obtain ⟨scr, harrAt, hlist, hof, hsmall⟩ := hx
    obtain ⟨hcb, hkn, -, -⟩ := State.arrayAt?_spec harrAt
    have hown : s.vm.findClass R_law = some m.cls := findClass_of_methodNamed B.named
    have hts0 : ∀ c ∈ (Jvm.Cond.code x code maxLocals ret :: tables_1), c.before #[Value.ref b] s = true := atoms_spec (ws := Jvm.Cond.code x code maxLocals ret :: tables_1) B.pre
    have hts : ∀ w ∈ lw_tbl, w.before #[Value.ref b] s = true := k2_hts_sels lw_privs (fun w hw => hts0 w (List.mem_cons_of_mem _ hw)) lw_privs_ok
    have hml : c.maxLocals = 9 := B.maxLocals_eq (hts0 _ List.mem_cons_self)
    have X₀ : Stand p l e room_1 s m #[Value.ref b] below meth c s₁ [] 0 0 := Stand.of_body B
    have hh0 : s₁.heap = s.heap := by rw [B.state]; rfl
    have hsz : scr.slots.size = xs.length := by rw [← Array.length_toList, hlist, List.length_map]
    have hval : ∀ j : Nat, j < xs.length → scr.slots[j]? = some (.int (xs.getD j 0)) := fun j hj => by
      rw [← Array.getElem?_toList, hlist]
      simp [hj]
    have hbl : b < s.heap.size := (Array.getElem?_eq_some_iff.mp hcb).1
    have hX : va_X b xs.length (fun j => xs.getD j 0) s s.heap := ⟨scr, hcb, hof, hkn, hsz, hval⟩
    have K : W p l e room_1 s m #[Value.ref b] below meth c s₁.heap [] 0 0 (lw_Z below #[Value.ref b] s) (entryFrame m ([Value.ref b] : List Value).toArray 9) := by
      rw [hh0]
      exact whole_start l hflags hbd ⟨B.exec, B.bytes, B.returns, hml, hown, hts, hX, hbl, B.notSynchronized, hgv⟩
    obtain ⟨t, a1, o, b1, b2, b3⟩ := K s₁ rfl X₀
    exact ⟨t, o, a1, b1, b2, b3⟩
theorem lw_pre_spec {args : Array Value} {s : State} (h : (Jvm.Cond.and given_1 narrow_1).before args s = true) (hr : rest_1_c.before args s = true) : ∃ (b : Addr) (xs : List Int32), lw_P b xs args s := by
  have hs := flat_of_before _ h
  have hq := flat_of_before _ hr
  have hc : (Cond.count 1).before args s = true := hs _ (by decide +kernel)
  have harr : (Cond.arrayOf (.arg 0) .int).before args s = true := hs _ (by decide +kernel)
  have hle : (Cond.le (.length (.arg 0)) (.int 2560)).before args s = true := hs _ (by decide +kernel)
  have hlen : (Cond.isInt (.length (.arg 0))).before args s = true := hq _ (by decide +kernel)
  have hall : (Cond.all (.arg 0) (.isInt (.elem (.arg 0) (.index 0)))).before args s = true := hq _ (by decide +kernel)
  obtain ⟨b, xs, hb, hx⟩ := State.ints_of_pre rfl harr hlen hall
  have hsm : xs.length < 2 ^ 31 := hx.choose_spec.2.2.2
  have hev : (Term.length (.arg 0)).eval args s none [] s = some (.int xs.length.toInt32) := hx.length_eval hb
  have hv := Cond.le_ints hev (show (Term.int 2560).eval args s none [] s = some (.int 2560) from rfl)
  have hd : xs.length.toInt32 ≤ 2560 := by
    simpa [Cond.before, Cond.holds, hv] using hle
  have hN : xs.length ≤ 2560 := (Int32.ofNat_le_ofNat hsm (by decide)).mp (show Int32.ofNat xs.length ≤ Int32.ofNat 2560 from hd)
  exact ⟨b, xs, Cond.one_arg hc (show args[0]? = some (.ref b) from hb), hx, hN, h⟩
theorem lw_comes (l : Launch) (hflags : l.flags = flags0) : Comes l x (Jvm.Cond.code x code maxLocals ret :: tables_1) room_1 (fun tb e args s => Calls_1 tb e args s ∧ rest_1 tb e args s ∧ Pre_1 tb e args s)
    (fun _ _ args s o t => lw_Q args s o t) := by
  intro p e ha hc hk s m args below hf hfit hheap happ hpre
  obtain ⟨b, xs, hP⟩ := lw_pre_spec hpre.2.2 hpre.2.1
  obtain ⟨k, o, h1, h2, h3, hQ⟩ := lw_walk l hflags b xs p e ha hc hk s m args below hf ((Spec.applies_iff_loose hf).mp happ).1 hP trivial
  exact ⟨k, o, h1, h2, h3, hQ⟩
theorem lw_frame {s t : State} {o : Outcome} {args : Array Value} (h : State.butDraws s t lw_cs (fun t1 => Framed s o t1 [] 603072 7190634)) :
    State.butDraws s t [Jvm.Choice.named "NaN.bits"] (fun t1 => Framed s o t1 (fieldLocs frame_1_writes args s ++ arrayLocs frame_1_arrays args s ++ staticLocs frame_1_statics s) 603072 7190634) := h
theorem lw_limb (L : Cond) (hL : ∀ (args : Array Value) (s t : State), L.after args s (.returned (some (.int 1))) t = true) :
    ArmFor flags0 classFile x code maxLocals ret World_1 tables_1 room_1 Calls_1 rest_1 Pre_1
      (fun tb e a s o t => postC L tb e a s o t ∧ State.butDraws s t [Jvm.Choice.named "NaN.bits"] (fun t1 => Framed s o t1 (fieldLocs frame_1_writes a s ++ arrayLocs frame_1_arrays a s ++ staticLocs frame_1_statics s) 603072 7190634)) := by
  intro l hflags _ _ p e ha hc hk s m args below hf hfit hheap happ hpre
  obtain ⟨k, o, h1, h2, h3, rfl, hF⟩ := lw_comes l hflags p e ha hc hk s m args below hf hfit hheap happ hpre
  exact ⟨k, _, h1, h2, h3, hL args s _, lw_frame hF⟩
theorem i_vc : Claimed_1_1 ∧ Claimed_1_2 := ⟨lw_limb limb_1_1 (fun args s t => by simp [limb_1_1, Cond.after, Cond.holds, Cond.value]), lw_limb limb_1_2 (fun args s t => Cond.after_iff.mpr (by
  first | (rw [show limb_1_2 = Cond.eq .result (.int 1) from rfl, Cond.eq_ints (x := 1) (y := 1) rfl rfl]; simp; done) | (simp [limb_1_2, Cond.value, Term.eval]; done)))⟩

