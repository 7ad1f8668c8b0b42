/-! CONTRACTS over the pure picture, and calls by them -/
section zMet
variable {ρ : Type} {o : Option ρ} {G : ρ → Prop} {K : zK} {cc : ByteArray} {own : String} {R0 : Room} {cells slots pc : Nat} {lv : List (Nat × zPV)} {st : List zPV} {hp : zH}
def zfit (ty : FieldType) (z : Int) : Prop := match ty with
  | .boolean => z = 0 ∨ z = 1
  | .char => 0 ≤ z ∧ z ≤ 65535
  | _ => True
theorem zfit_nar {ty : FieldType} {z : Int} (hty : ty = .int ∨ ty = .boolean ∨ ty = .char) (h : zfit ty z) : narrow ty (.int (Int32.ofInt z)) = .int (Int32.ofInt z) := by
  rcases hty with rfl | rfl | rfl
  · rfl
  · exact (zZ_fit (ad := id) h).1
  · exact (zC_fit (ad := id) h).1
def zargs : Nat → List zPV → List (Nat × zPV)
  | _, [] => []
  | i, v :: vs => (i, v) :: zargs (if zcat v = 2 then i + 2 else i + 1) vs
theorem zargs_map (ad : Nat → Nat) (pvs : List zPV) : ∀ i, lv_args i (pvs.map (zT ad)) = (zargs i pvs).map (fun q => (q.1, zT ad q.2)) := by
  induction pvs with
  | nil => intro i; rfl
  | cons v vs ih =>
    intro i
    show (i, zT ad v) :: lv_args (if (zT ad v).category = 2 then i + 2 else i + 1) (vs.map (zT ad)) = (i, zT ad v) :: _
    rw [zcat_T, ih]
theorem zcat_12 (v : zPV) : zcat v = 1 ∨ zcat v = 2 := by
  rcases v with v | v | v | v | v | v
  · exact Or.inl rfl
  · exact Or.inr rfl
  · exact Or.inl rfl
  · exact Or.inl rfl
  · exact Or.inr rfl
  · exact Or.inl rfl
theorem zlen_sl (ad : Nat → Nat) (pvs : List zPV) : (lg_sl (pvs.map (zT ad))).length = (pvs.map zcat).sum := by
  induction pvs with
  | nil => rfl
  | cons v vs ih =>
    have e : lg_sl ((v :: vs).map (zT ad)) = (if (zT ad v).category = 2 then [.val (zT ad v), .second] else [.val (zT ad v)]) ++ lg_sl (vs.map (zT ad)) := rfl
    rw [e, List.length_append, ih, zcat_T, List.map_cons, List.sum_cons]
    rcases zcat_12 v with h | h <;> rw [h] <;> rfl
theorem zargs_ok {n : Nat} {pvs : List zPV} (h : ∀ v ∈ pvs, zOk n v) : ∀ i, ∀ q ∈ zargs i pvs, zOk n q.2 := by
  induction pvs with
  | nil => intro i q hq; cases hq
  | cons v vs ih =>
    intro i q hq
    rcases List.mem_cons.1 hq with rfl | hq
    · exact h v List.mem_cons_self
    · exact ih (fun u hu => h u (List.mem_cons_of_mem _ hu)) _ q hq
def zexn : Nat → String
  | 0 => "java/lang/IllegalArgumentException"
  | 1 => "java/lang/IllegalStateException"
  | 2 => "java/lang/UnsupportedOperationException"
  | 3 => "java/lang/IndexOutOfBoundsException"
  | 4 => "java/util/NoSuchElementException"
  | _ => "java/lang/ArithmeticException"
def zthr (own : String) (ic k : Nat) : Prop := (∀ w ∈ vx_atS own ic (zexn k) ["java/lang/RuntimeException", "java/lang/Exception"], w ∈ lw_tbl ∧ (goodWord w || zng w) = true ∧ vx_ot w = true) ∨ ∃ (ix : Nat) (rx : ByteArray), zrx ix rx ∧ ∀ w ∈ zoW own ic (zexn k) ix rx "java/lang/RuntimeException" ["java/lang/Exception"], w ∈ lw_tbl ∧ (goodWord w || zng w) = true ∧ vx_ot w = true
def zPc (D : va_G) (cA : Nat → ClassId) (ad : Nat → Nat) (sz : Nat) (pvs : List zPV) (hp : zH) : Array Value → State → Prop := va_Pc (pvs.map (zT ad)) (fun U => U.heap.size = sz ∧ va_P D vwCl (zW ad cA hp) U.heap ∧ va_K D vwCl (zTY cA) U ∧ va_D (fun _ => True) (zW ad cA hp) ∧ zEnv (va_A (zW ad cA hp) sz) U U.heap)
def zPost (D : va_G) (cA : Nat → ClassId) (ad : Nat → Nat) (hp hp' : zH) (A : Nat → Prop) (ad' : Nat → Nat) (t : State) : Prop := (∀ i, i < hp.length → ad' i = ad i) ∧ hp.length ≤ hp'.length ∧ (∀ c ∈ hp', zOkC hp'.length c) ∧ va_P D vwCl (zW ad' cA hp') t.heap ∧ va_K D vwCl (zTY cA) t ∧ va_D A (zW ad' cA hp')
def zE (K : zK) (cells slots pc : Nat) (lv : List (Nat × zPV)) (k : Nat) (hp : zH) : Prop := match K with
  | (p, l, e, R, s, m, args, below, meth, c, D, cA, A, Q, nL, ad0, n0) =>
    ∀ (ad : Nat → Nat) (H : Heap) (locs : List Loc) (ls : Array Slot) (rest : List Value) (q : Addr) (ce : Cell), (∀ i, i < n0 → ad i = ad0 i) → n0 ≤ hp.length → (∀ c ∈ hp, zOkC hp.length c) → (∀ q ∈ lv, zOk hp.length q.2) →
      va_P D vwCl (zW ad cA hp) H → va_D A (zW ad cA hp) → va_S A s.heap H locs → lv_has ls nL (lv.map (fun q => (q.1, zT ad q.2))) → H[q]? = some ce → ce.vm = .none → s.vm.findClass (zexn k) = some ce.cls →
      vx_W p l e R s m args below meth c H locs cells slots Q (F0 m pc ls rest) q
theorem zNw_same {w : Cond} (hw : zng w = true) {u U : State} (h : u.vm = U.vm) (hZ : va_Nw w u) : va_Nw w U := by
  cases w <;> first | exact va_Nw.same rfl h hZ | cases hw
theorem zNw_warm {w : Cond} (hw : zng w = true) {s U : State} (hW : s.WarmedH U.vm) (hZ : va_Nw w s) : va_Nw w U := by
  cases w <;> first | exact va_Nw.warmC hW hZ | exact va_Nw.warmD hW hZ | exact va_Nw.warmM hW hZ | cases hw
theorem zEnv_blind {A : Nat → Prop} {U : State} {g : JFrame} {mk : MethodId} {a : Array Value} (h : zEnv A U U.heap) : zEnv A (U.calling g mk a) (U.calling g mk a).heap :=
  ⟨vx_Zq.moved (u := U) (Vm.Alike.refl U.vm) h.1, vx_Zq.moved (u := U) (Vm.Alike.refl U.vm) h.2.1, fun w h1 h2 => zNw_same (u := U) h2 rfl (h.2.2.1 w h1 h2), fun k tx hk => (h.2.2.2.1 k tx hk).imp fun a ha => vk_R.same (u := U) rfl ha, va_AO.moved (u := U) (Vm.Alike.refl U.vm) h.2.2.2.2.1, va_AO.moved (u := U) (Vm.Alike.refl U.vm) h.2.2.2.2.2.1, fun q hq => va_Nc.moved (u := U) (Vm.Alike.refl U.vm) (h.2.2.2.2.2.2 q hq)⟩
theorem zEnv_call {A B : Nat → Prop} {s U : State} {H : Heap} {locs : List Loc} (h : zEnv A s s.heap) (hS : va_S A s.heap H locs) (hU : U.heap = H) (hW : s.WarmedH U.vm) (hF : ∀ q, B q → A q) : zEnv B U U.heap := by
  rw [hU]
  exact ⟨((vx_Zq.moved hW.alike h.1).kept hS.2.1).narrow hF, ((vx_Zq.moved hW.alike h.2.1).kept hS.2.1).narrow hF, fun w h1 h2 => zNw_warm h2 hW (h.2.2.1 w h1 h2), fun k tx hk => (h.2.2.2.1 k tx hk).imp fun a ha => vk_R.warm hW ha, va_AO.moved hW.alike h.2.2.2.2.1, va_AO.moved hW.alike h.2.2.2.2.2.1, fun q hq => (h.2.2.2.2.2.2 q hq).moved hW.alike⟩
theorem zPc_blind {D : va_G} {cA : Nat → ClassId} {ad : Nat → Nat} {sz : Nat} {pvs : List zPV} {hp : zH} : FrameBlind (zPc D cA ad sz pvs hp) := by
  intro a U g mk q
  obtain ⟨h0, h1, h2, h3, h4, h5⟩ := q
  exact ⟨h0, h1, h2, va_K.moved (u := U) (U := U.calling g mk a) (Vm.Alike.refl U.vm) h3, h4, zEnv_blind h5⟩
theorem zPc_pre {D : va_G} {cA : Nat → ClassId} {ad : Nat → Nat} {pvs : List zPV} {hp : zH} {A : Nat → Prop} {s U : State} {H : Heap} {locs : List Loc} (hP : va_P D vwCl (zW ad cA hp) H) (hK : va_K D vwCl (zTY cA) s) (hD : va_D A (zW ad cA hp)) (hE : zEnv A s s.heap) (hS : va_S A s.heap H locs) (hF : ∀ q, va_A (zW ad cA hp) H.size q → A q) (hU : U.heap = H) (hW : s.WarmedH U.vm) : zPc D cA ad H.size pvs hp (pvs.map (zT ad)).toArray U :=
  ⟨rfl, by rw [hU], by rw [hU]; exact hP, va_K.moved hW.alike hK, ⟨hD.1, fun _ _ _ => trivial⟩, zEnv_call hE hS hU hW hF⟩
theorem zfree {ad : Nat → Nat} {cA : Nat → ClassId} {hp : zH} {A : Nat → Prop} {s : State} {H : Heap} {locs : List Loc} (hD : va_D A (zW ad cA hp)) (hS : va_S A s.heap H locs) (hA : ∀ q, s.heap.size ≤ q → A q) : ∀ q, va_A (zW ad cA hp) H.size q → A q := by
  intro q h
  rcases h with ⟨k, e, h⟩ | h
  · exact hD.2 k (q, e) h
  · exact hA q (Nat.le_trans hS.1 h)
theorem zgood {w0 : Cond} (hw : w0 ∈ zALL) : GoodIn zALL (w0 :: zALL) := by
  intro w h
  rcases List.mem_cons.1 h with rfl | h
  · exact ⟨hw, good_of_word (List.mem_filter.1 hw).2⟩
  · exact ⟨h, good_of_word (List.mem_filter.1 h).2⟩
def zkB (own : String) (idx : Nat) (y : MethodName) (bytes : ByteArray) (maxL : Nat) (ret : Option FieldType) (n : Nat) : Prop := Cond.methodLink own idx y ∈ zALL ∧ Cond.code y bytes maxL ret ∈ zALL ∧ Cond.initialized y.cls ∈ zALL ∧ (y.cls ≠ "java/lang/invoke/MethodHandle" ∧ y.cls ≠ "java/lang/invoke/VarHandle" ∧ (parseMethodDescriptor y.desc).map (fun d => d.parameters.length) = some n)
def zkV (own : String) (idx : Nat) (C : String) (y : MethodName) (bytes : ByteArray) (maxL : Nat) (ret : Option FieldType) (n : Nat) : Prop := zkB own idx y bytes maxL ret n ∧ Cond.instanceMethod y ∈ zALL ∧ Cond.selects C y y ∈ zALL
def zkS (own : String) (idx : Nat) (y : MethodName) (bytes : ByteArray) (maxL : Nat) (ret : Option FieldType) (n : Nat) : Prop := zkB own idx y bytes maxL ret n ∧ Cond.static y ∈ zALL
def zkI (own : String) (idx : Nat) (y : MethodName) (bytes : ByteArray) (maxL : Nat) (n : Nat) : Prop := zkB own idx y bytes maxL none n ∧ y.name = "<init>" ∧ Cond.instanceMethod y ∈ zALL
def zkN (own : String) (idx : Nat) (y : MethodName) (host : String) (bytes : ByteArray) (maxL : Nat) (ret : Option FieldType) (n : Nat) : Prop := Cond.methodLinkNest own idx y host ∈ lw_tbl ∧ Cond.code y bytes maxL ret ∈ zALL ∧ Cond.initialized y.cls ∈ zALL ∧ (y.cls ≠ "java/lang/invoke/MethodHandle" ∧ y.cls ≠ "java/lang/invoke/VarHandle" ∧ (parseMethodDescriptor y.desc).map (fun d => d.parameters.length) = some n) ∧ Cond.static y ∈ zALL
def zrm (rm R0 : Room) (mc ms maxL cells slots : Nat) : Prop := rm.cells = mc ∧ rm.slots = ms ∧ (rm.frames + 1 ≤ R0.frames ∧ 8 + (maxL + 11) + rm.locals ≤ R0.locals) ∧ (cells + mc ≤ R0.cells ∧ slots + ms ≤ R0.slots)
theorem zCallB {R : Room} {s : State} {args : Array Value} {idx : Nat} {y : MethodName} {bytes : ByteArray} {maxL : Nat} {ret : Option FieldType} {n mc ms : Nat} {rm : Room} (hts : ∀ w ∈ zALL, w.before args s = true) (h : zkB own idx y bytes maxL ret n) (hr : zrm rm R mc ms maxL cells slots) : CallB R s args own idx y bytes maxL ret (Cond.code y bytes maxL ret :: zALL) rm mc ms n :=
  callB_of n hts (zgood h.2.1) rfl hr.1 hr.2.1 (hts _ h.2.2.1) (hts _ h.1) h.2.2.2 hr.2.2.1

def zMi (y : MethodName) (ws : List Cond) (rm : Room) (mc ms : Nat) (pvs : List zPV) (hp : zH) (z : Int) (hp' : zH) : Prop := ∀ (l : Launch), l.stackTraces = false → ∀ (D : va_G) (cA : Nat → ClassId) (ad : Nat → Nat) (sz : Nat), (∀ c ∈ hp, zOkC hp.length c) → (∀ v ∈ pvs, zOk hp.length v) →
  Met l y ws rm (zPc D cA ad sz pvs hp) (va_Qi (fun (r : Int32) (_ : Nat → Nat) => r = Int32.ofInt z ∧ inR z) (zPost D cA ad hp hp' (va_A (zW ad cA hp) sz)) (va_A (zW ad cA hp) sz)) mc ms (va_A (zW ad cA hp) sz)
def zXi (y : MethodName) (ws : List Cond) (rm : Room) (mc ms : Nat) (pvs : List zPV) (hp : zH) (res : Int ⊕ Nat) (hp' : zH) : Prop := ∀ (l : Launch), l.stackTraces = false → ∀ (D : va_G) (cA : Nat → ClassId) (ad : Nat → Nat) (sz : Nat), (∀ c ∈ hp, zOkC hp.length c) → (∀ v ∈ pvs, zOk hp.length v) →
  vx_Met l y ws rm (zPc D cA ad sz pvs hp) (va_Qi (fun (r : Int32) (_ : Nat → Nat) => ∃ z, res = .inl z ∧ r = Int32.ofInt z ∧ inR z) (zPost D cA ad hp hp' (va_A (zW ad cA hp) sz)) (va_A (zW ad cA hp) sz)) (vx_X (fun (_ : Nat → Nat) => True) (fun E ad' t => (∃ k, res = .inr k ∧ E = zexn k) ∧ zPost D cA ad hp hp' (va_A (zW ad cA hp) sz) ad' t) (va_A (zW ad cA hp) sz)) mc ms (va_A (zW ad cA hp) sz)
def zMl (y : MethodName) (ws : List Cond) (rm : Room) (mc ms : Nat) (pvs : List zPV) (hp : zH) (z : Int64) (hp' : zH) : Prop := ∀ (l : Launch), l.stackTraces = false → ∀ (D : va_G) (cA : Nat → ClassId) (ad : Nat → Nat) (sz : Nat), (∀ c ∈ hp, zOkC hp.length c) → (∀ v ∈ pvs, zOk hp.length v) →
  Met l y ws rm (zPc D cA ad sz pvs hp) (va_Ql (fun (r : Int64) (_ : Nat → Nat) => r = z) (zPost D cA ad hp hp' (va_A (zW ad cA hp) sz)) (va_A (zW ad cA hp) sz)) mc ms (va_A (zW ad cA hp) sz)
def zMf (y : MethodName) (ws : List Cond) (rm : Room) (mc ms : Nat) (pvs : List zPV) (hp : zH) (z : UInt32) (hp' : zH) : Prop := ∀ (l : Launch), l.stackTraces = false → ∀ (D : va_G) (cA : Nat → ClassId) (ad : Nat → Nat) (sz : Nat), (∀ c ∈ hp, zOkC hp.length c) → (∀ v ∈ pvs, zOk hp.length v) →
  Met l y ws rm (zPc D cA ad sz pvs hp) (va_Qf (fun (r : UInt32) (_ : Nat → Nat) => r = z) (zPost D cA ad hp hp' (va_A (zW ad cA hp) sz)) (va_A (zW ad cA hp) sz)) mc ms (va_A (zW ad cA hp) sz)
def zXf (y : MethodName) (ws : List Cond) (rm : Room) (mc ms : Nat) (pvs : List zPV) (hp : zH) (res : UInt32 ⊕ Nat) (hp' : zH) : Prop := ∀ (l : Launch), l.stackTraces = false → ∀ (D : va_G) (cA : Nat → ClassId) (ad : Nat → Nat) (sz : Nat), (∀ c ∈ hp, zOkC hp.length c) → (∀ v ∈ pvs, zOk hp.length v) →
  vx_Met l y ws rm (zPc D cA ad sz pvs hp) (va_Qf (fun (r : UInt32) (_ : Nat → Nat) => res = .inl r) (zPost D cA ad hp hp' (va_A (zW ad cA hp) sz)) (va_A (zW ad cA hp) sz)) (vx_X (fun (_ : Nat → Nat) => True) (fun E ad' t => (∃ k, res = .inr k ∧ E = zexn k) ∧ zPost D cA ad hp hp' (va_A (zW ad cA hp) sz) ad' t) (va_A (zW ad cA hp) sz)) mc ms (va_A (zW ad cA hp) sz)
def zMd (y : MethodName) (ws : List Cond) (rm : Room) (mc ms : Nat) (pvs : List zPV) (hp : zH) (z : UInt64) (hp' : zH) : Prop := ∀ (l : Launch), l.stackTraces = false → ∀ (D : va_G) (cA : Nat → ClassId) (ad : Nat → Nat) (sz : Nat), (∀ c ∈ hp, zOkC hp.length c) → (∀ v ∈ pvs, zOk hp.length v) →
  Met l y ws rm (zPc D cA ad sz pvs hp) (va_Qd (fun (r : UInt64) (_ : Nat → Nat) => r = z) (zPost D cA ad hp hp' (va_A (zW ad cA hp) sz)) (va_A (zW ad cA hp) sz)) mc ms (va_A (zW ad cA hp) sz)
def zXd (y : MethodName) (ws : List Cond) (rm : Room) (mc ms : Nat) (pvs : List zPV) (hp : zH) (res : UInt64 ⊕ Nat) (hp' : zH) : Prop := ∀ (l : Launch), l.stackTraces = false → ∀ (D : va_G) (cA : Nat → ClassId) (ad : Nat → Nat) (sz : Nat), (∀ c ∈ hp, zOkC hp.length c) → (∀ v ∈ pvs, zOk hp.length v) →
  vx_Met l y ws rm (zPc D cA ad sz pvs hp) (va_Qd (fun (r : UInt64) (_ : Nat → Nat) => res = .inl r) (zPost D cA ad hp hp' (va_A (zW ad cA hp) sz)) (va_A (zW ad cA hp) sz)) (vx_X (fun (_ : Nat → Nat) => True) (fun E ad' t => (∃ k, res = .inr k ∧ E = zexn k) ∧ zPost D cA ad hp hp' (va_A (zW ad cA hp) sz) ad' t) (va_A (zW ad cA hp) sz)) mc ms (va_A (zW ad cA hp) sz)
def zMq (y : MethodName) (ws : List Cond) (rm : Room) (mc ms : Nat) (pvs : List zPV) (hp : zH) (z : Option Nat) (hp' : zH) : Prop := ∀ (l : Launch), l.stackTraces = false → ∀ (D : va_G) (cA : Nat → ClassId) (ad : Nat → Nat) (sz : Nat), (∀ c ∈ hp, zOkC hp.length c) → (∀ v ∈ pvs, zOk hp.length v) →
  Met l y ws rm (zPc D cA ad sz pvs hp) (va_Qq (fun (r : Option Nat) (ad' : Nat → Nat) => r = z.map ad' ∧ ∀ i, z = some i → i < hp'.length) (zPost D cA ad hp hp' (va_A (zW ad cA hp) sz)) (va_A (zW ad cA hp) sz)) mc ms (va_A (zW ad cA hp) sz)
def zXq (y : MethodName) (ws : List Cond) (rm : Room) (mc ms : Nat) (pvs : List zPV) (hp : zH) (res : Option Nat ⊕ Nat) (hp' : zH) : Prop := ∀ (l : Launch), l.stackTraces = false → ∀ (D : va_G) (cA : Nat → ClassId) (ad : Nat → Nat) (sz : Nat), (∀ c ∈ hp, zOkC hp.length c) → (∀ v ∈ pvs, zOk hp.length v) →
  vx_Met l y ws rm (zPc D cA ad sz pvs hp) (va_Qq (fun (r : Option Nat) (ad' : Nat → Nat) => ∃ z, res = .inl z ∧ r = z.map ad' ∧ ∀ i, z = some i → i < hp'.length) (zPost D cA ad hp hp' (va_A (zW ad cA hp) sz)) (va_A (zW ad cA hp) sz)) (vx_X (fun (_ : Nat → Nat) => True) (fun E ad' t => (∃ k, res = .inr k ∧ E = zexn k) ∧ zPost D cA ad hp hp' (va_A (zW ad cA hp) sz) ad' t) (va_A (zW ad cA hp) sz)) mc ms (va_A (zW ad cA hp) sz)
def zMv (y : MethodName) (ws : List Cond) (rm : Room) (mc ms : Nat) (pvs : List zPV) (hp : zH) (hp' : zH) : Prop := ∀ (l : Launch), l.stackTraces = false → ∀ (D : va_G) (cA : Nat → ClassId) (ad : Nat → Nat) (sz : Nat), (∀ c ∈ hp, zOkC hp.length c) → (∀ v ∈ pvs, zOk hp.length v) →
  Met l y ws rm (zPc D cA ad sz pvs hp) (va_Qv (fun (_ : Nat → Nat) => True) (zPost D cA ad hp hp' (va_A (zW ad cA hp) sz)) (va_A (zW ad cA hp) sz)) mc ms (va_A (zW ad cA hp) sz)
theorem zMi_of {y : MethodName} {maxL : Nat} {ty : FieldType} {rm : Room} {mc ms : Nat} {pvs : List zPV} {ε : Type} {o : Option ε} {res : ε → Int} {hp2 : ε → zH} (hy : plainName y.cls = true) (hown : y.cls = own) (hty : ty = .int ∨ ty = .boolean ∨ ty = .char) (hsl : (pvs.map zcat).sum ≤ maxL)
    (body : ∀ (K : zK) (r0 : ε), zX K cc own zALL rm → K.2.2.2.2.2.2.2.2.2.2.2.2.2.2.1 = maxL → (∀ cells slots pc lv, cells ≤ mc → slots ≤ ms → decode cc pc = .ok (.ireturn, 1) → zfit ty (res r0) → zJ K cells slots pc lv [zI (res r0)] (hp2 r0)) → zS o (fun r => r = r0) (zJ K 0 0 0 (zargs 0 pvs) [] hp)) :
    ∀ r, o = some r → zMi y (Cond.code y cc maxL (some ty) :: zALL) rm mc ms pvs hp (res r) (hp2 r) := by
  intro r hr l hl D cA ad sz hok hpv
  refine Met.ofW (cc := cc) (maxL := maxL) (ret := some ty) hy rfl ?_
  intro p e s m args below meth c s₁ B hml hv
  obtain ⟨rfl, hsz, hP, hK, hD0, hEnv⟩ := hv
  subst hsz
  have hx := B.exec
  have hb := B.bytes
  have hr9 := B.returns
  have hts0 := atoms_spec (ws := Cond.code y cc maxL (some ty) :: zALL) B.pre
  have hts : ∀ w ∈ zALL, w.before (pvs.map (zT ad)).toArray s = true := fun w hw => hts0 w (List.mem_cons_of_mem _ hw)
  have hown9 : s.vm.findClass own = some m.cls := by rw [← hown]; exact findClass_of_methodNamed B.named
  have hlk := B.notSynchronized
  have hD := hD0.self (sz := s.heap.size)
  have hA : ∀ q, s.heap.size ≤ q → va_A (zW ad cA hp) s.heap.size q := fun q h => Or.inr h
  have hl0 := lv_entry (pvs.map (zT ad)) (n := maxL) (by rw [zlen_sl]; exact hsl)
  rw [lg_entry_eq]
  rw [zargs_map] at hl0
  refine body (p, l, e, (headSpec (Cond.code y cc maxL (some ty) :: zALL) rm).room, s, m, (pvs.map (zT ad)).toArray, below, meth, c, D, cA, va_A (zW ad cA hp) s.heap.size, _, maxL, ad, hp.length) r ⟨hx, hb, hml, hown9, hts, hK, hA, rfl, hlk, hl, hEnv⟩ rfl ?_ r hr rfl ad s.heap [] _ (fun _ _ => rfl) (Nat.le_refl _) hok (zargs_ok hpv 0) (fun _ h => by cases h) hP hD va_S.rf hl0
  intro cells slots pc lv hc hs hdg hfit ad' H locs ls e1 e2 e3 e4 e5 e6 e7 e8 e9
  refine W.widen hc hs ?_
  exact W.zret (ty := ty) hx hb hr9 (zfit_nar hty hfit) (fun t ht hW => ⟨⟨_, ad', rfl, ⟨rfl, zOk_hd e5⟩, e1, e2, e3, by rw [ht]; exact e6, va_K.moved hW.alike hK, e7⟩, e8.F ht⟩) e8.2.2 hdg hlk
theorem zMl_of {y : MethodName} {maxL : Nat} {rm : Room} {mc ms : Nat} {pvs : List zPV} {ε : Type} {o : Option ε} {res : ε → Int64} {hp2 : ε → zH} (hy : plainName y.cls = true) (hown : y.cls = own) (hsl : (pvs.map zcat).sum ≤ maxL)
    (body : ∀ (K : zK) (r0 : ε), zX K cc own zALL rm → K.2.2.2.2.2.2.2.2.2.2.2.2.2.2.1 = maxL → (∀ cells slots pc lv, cells ≤ mc → slots ≤ ms → decode cc pc = .ok (.lreturn, 1) → zJ K cells slots pc lv [zL (res r0)] (hp2 r0)) → zS o (fun r => r = r0) (zJ K 0 0 0 (zargs 0 pvs) [] hp)) :
    ∀ r, o = some r → zMl y (Cond.code y cc maxL (some .long) :: zALL) rm mc ms pvs hp (res r) (hp2 r) := by
  intro r hr l hl D cA ad sz hok hpv
  refine Met.ofW (cc := cc) (maxL := maxL) (ret := some .long) hy rfl ?_
  intro p e s m args below meth c s₁ B hml hv
  obtain ⟨rfl, hsz, hP, hK, hD0, hEnv⟩ := hv
  subst hsz
  have hx := B.exec
  have hb := B.bytes
  have hr9 := B.returns
  have hts0 := atoms_spec (ws := Cond.code y cc maxL (some .long) :: zALL) B.pre
  have hts : ∀ w ∈ zALL, w.before (pvs.map (zT ad)).toArray s = true := fun w hw => hts0 w (List.mem_cons_of_mem _ hw)
  have hown9 : s.vm.findClass own = some m.cls := by rw [← hown]; exact findClass_of_methodNamed B.named
  have hlk := B.notSynchronized
  have hD := hD0.self (sz := s.heap.size)
  have hA : ∀ q, s.heap.size ≤ q → va_A (zW ad cA hp) s.heap.size q := fun q h => Or.inr h
  have hl0 := lv_entry (pvs.map (zT ad)) (n := maxL) (by rw [zlen_sl]; exact hsl)
  rw [lg_entry_eq]
  rw [zargs_map] at hl0
  refine body (p, l, e, (headSpec (Cond.code y cc maxL (some .long) :: zALL) rm).room, s, m, (pvs.map (zT ad)).toArray, below, meth, c, D, cA, va_A (zW ad cA hp) s.heap.size, _, maxL, ad, hp.length) r ⟨hx, hb, hml, hown9, hts, hK, hA, rfl, hlk, hl, hEnv⟩ rfl ?_ r hr rfl ad s.heap [] _ (fun _ _ => rfl) (Nat.le_refl _) hok (zargs_ok hpv 0) (fun _ h => by cases h) hP hD va_S.rf hl0
  intro cells slots pc lv hc hs hdg ad' H locs ls e1 e2 e3 e4 e5 e6 e7 e8 e9
  refine W.widen hc hs ?_
  exact W.lret hx hb hr9 (fun t ht hW => ⟨⟨_, ad', rfl, rfl, e1, e2, e3, by rw [ht]; exact e6, va_K.moved hW.alike hK, e7⟩, e8.F ht⟩) e8.2.2 hdg hlk
theorem zMf_of {y : MethodName} {maxL : Nat} {rm : Room} {mc ms : Nat} {pvs : List zPV} {ε : Type} {o : Option ε} {res : ε → UInt32} {hp2 : ε → zH} (hy : plainName y.cls = true) (hown : y.cls = own) (hsl : (pvs.map zcat).sum ≤ maxL)
    (body : ∀ (K : zK) (r0 : ε), zX K cc own zALL rm → K.2.2.2.2.2.2.2.2.2.2.2.2.2.2.1 = maxL → (∀ cells slots pc lv, cells ≤ mc → slots ≤ ms → decode cc pc = .ok (.freturn, 1) → zJ K cells slots pc lv [zF (res r0)] (hp2 r0)) → zS o (fun r => r = r0) (zJ K 0 0 0 (zargs 0 pvs) [] hp)) :
    ∀ r, o = some r → zMf y (Cond.code y cc maxL (some .float) :: zALL) rm mc ms pvs hp (res r) (hp2 r) := by
  intro r hr l hl D cA ad sz hok hpv
  refine Met.ofW (cc := cc) (maxL := maxL) (ret := some .float) hy rfl ?_
  intro p e s m args below meth c s₁ B hml hv
  obtain ⟨rfl, hsz, hP, hK, hD0, hEnv⟩ := hv
  subst hsz
  have hx := B.exec
  have hb := B.bytes
  have hr9 := B.returns
  have hts0 := atoms_spec (ws := Cond.code y cc maxL (some .float) :: zALL) B.pre
  have hts : ∀ w ∈ zALL, w.before (pvs.map (zT ad)).toArray s = true := fun w hw => hts0 w (List.mem_cons_of_mem _ hw)
  have hown9 : s.vm.findClass own = some m.cls := by rw [← hown]; exact findClass_of_methodNamed B.named
  have hlk := B.notSynchronized
  have hD := hD0.self (sz := s.heap.size)
  have hA : ∀ q, s.heap.size ≤ q → va_A (zW ad cA hp) s.heap.size q := fun q h => Or.inr h
  have hl0 := lv_entry (pvs.map (zT ad)) (n := maxL) (by rw [zlen_sl]; exact hsl)
  rw [lg_entry_eq]
  rw [zargs_map] at hl0
  refine body (p, l, e, (headSpec (Cond.code y cc maxL (some .float) :: zALL) rm).room, s, m, (pvs.map (zT ad)).toArray, below, meth, c, D, cA, va_A (zW ad cA hp) s.heap.size, _, maxL, ad, hp.length) r ⟨hx, hb, hml, hown9, hts, hK, hA, rfl, hlk, hl, hEnv⟩ rfl ?_ r hr rfl ad s.heap [] _ (fun _ _ => rfl) (Nat.le_refl _) hok (zargs_ok hpv 0) (fun _ h => by cases h) hP hD va_S.rf hl0
  intro cells slots pc lv hc hs hdg ad' H locs ls e1 e2 e3 e4 e5 e6 e7 e8 e9
  refine W.widen hc hs ?_
  exact W.fret hx hb hr9 (fun t ht hW => ⟨⟨_, ad', rfl, rfl, e1, e2, e3, by rw [ht]; exact e6, va_K.moved hW.alike hK, e7⟩, e8.F ht⟩) e8.2.2 hdg hlk
theorem zMd_of {y : MethodName} {maxL : Nat} {rm : Room} {mc ms : Nat} {pvs : List zPV} {ε : Type} {o : Option ε} {res : ε → UInt64} {hp2 : ε → zH} (hy : plainName y.cls = true) (hown : y.cls = own) (hsl : (pvs.map zcat).sum ≤ maxL)
    (body : ∀ (K : zK) (r0 : ε), zX K cc own zALL rm → K.2.2.2.2.2.2.2.2.2.2.2.2.2.2.1 = maxL → (∀ cells slots pc lv, cells ≤ mc → slots ≤ ms → decode cc pc = .ok (.dreturn, 1) → zJ K cells slots pc lv [zD (res r0)] (hp2 r0)) → zS o (fun r => r = r0) (zJ K 0 0 0 (zargs 0 pvs) [] hp)) :
    ∀ r, o = some r → zMd y (Cond.code y cc maxL (some .double) :: zALL) rm mc ms pvs hp (res r) (hp2 r) := by
  intro r hr l hl D cA ad sz hok hpv
  refine Met.ofW (cc := cc) (maxL := maxL) (ret := some .double) hy rfl ?_
  intro p e s m args below meth c s₁ B hml hv
  obtain ⟨rfl, hsz, hP, hK, hD0, hEnv⟩ := hv
  subst hsz
  have hx := B.exec
  have hb := B.bytes
  have hr9 := B.returns
  have hts0 := atoms_spec (ws := Cond.code y cc maxL (some .double) :: zALL) B.pre
  have hts : ∀ w ∈ zALL, w.before (pvs.map (zT ad)).toArray s = true := fun w hw => hts0 w (List.mem_cons_of_mem _ hw)
  have hown9 : s.vm.findClass own = some m.cls := by rw [← hown]; exact findClass_of_methodNamed B.named
  have hlk := B.notSynchronized
  have hD := hD0.self (sz := s.heap.size)
  have hA : ∀ q, s.heap.size ≤ q → va_A (zW ad cA hp) s.heap.size q := fun q h => Or.inr h
  have hl0 := lv_entry (pvs.map (zT ad)) (n := maxL) (by rw [zlen_sl]; exact hsl)
  rw [lg_entry_eq]
  rw [zargs_map] at hl0
  refine body (p, l, e, (headSpec (Cond.code y cc maxL (some .double) :: zALL) rm).room, s, m, (pvs.map (zT ad)).toArray, below, meth, c, D, cA, va_A (zW ad cA hp) s.heap.size, _, maxL, ad, hp.length) r ⟨hx, hb, hml, hown9, hts, hK, hA, rfl, hlk, hl, hEnv⟩ rfl ?_ r hr rfl ad s.heap [] _ (fun _ _ => rfl) (Nat.le_refl _) hok (zargs_ok hpv 0) (fun _ h => by cases h) hP hD va_S.rf hl0
  intro cells slots pc lv hc hs hdg ad' H locs ls e1 e2 e3 e4 e5 e6 e7 e8 e9
  refine W.widen hc hs ?_
  exact W.dret hx hb hr9 (fun t ht hW => ⟨⟨_, ad', rfl, rfl, e1, e2, e3, by rw [ht]; exact e6, va_K.moved hW.alike hK, e7⟩, e8.F ht⟩) e8.2.2 hdg hlk
theorem zMq_of {y : MethodName} {maxL : Nat} {ty : FieldType} {rm : Room} {mc ms : Nat} {pvs : List zPV} {ε : Type} {o : Option ε} {res : ε → Option Nat} {hp2 : ε → zH} (hy : plainName y.cls = true) (hown : y.cls = own) (hty : (∃ n, ty = .object n) ∨ ∃ t, ty = .array t) (hsl : (pvs.map zcat).sum ≤ maxL)
    (body : ∀ (K : zK) (r0 : ε), zX K cc own zALL rm → K.2.2.2.2.2.2.2.2.2.2.2.2.2.2.1 = maxL → (∀ cells slots pc lv, cells ≤ mc → slots ≤ ms → decode cc pc = .ok (.areturn, 1) → zJ K cells slots pc lv [zR (res r0)] (hp2 r0)) → zS o (fun r => r = r0) (zJ K 0 0 0 (zargs 0 pvs) [] hp)) :
    ∀ r, o = some r → zMq y (Cond.code y cc maxL (some ty) :: zALL) rm mc ms pvs hp (res r) (hp2 r) := by
  intro r hr l hl D cA ad sz hok hpv
  refine Met.ofW (cc := cc) (maxL := maxL) (ret := some ty) hy rfl ?_
  intro p e s m args below meth c s₁ B hml hv
  obtain ⟨rfl, hsz, hP, hK, hD0, hEnv⟩ := hv
  subst hsz
  have hx := B.exec
  have hb := B.bytes
  have hr9 := B.returns
  have hts0 := atoms_spec (ws := Cond.code y cc maxL (some ty) :: zALL) B.pre
  have hts : ∀ w ∈ zALL, w.before (pvs.map (zT ad)).toArray s = true := fun w hw => hts0 w (List.mem_cons_of_mem _ hw)
  have hown9 : s.vm.findClass own = some m.cls := by rw [← hown]; exact findClass_of_methodNamed B.named
  have hlk := B.notSynchronized
  have hD := hD0.self (sz := s.heap.size)
  have hA : ∀ q, s.heap.size ≤ q → va_A (zW ad cA hp) s.heap.size q := fun q h => Or.inr h
  have hl0 := lv_entry (pvs.map (zT ad)) (n := maxL) (by rw [zlen_sl]; exact hsl)
  rw [lg_entry_eq]
  rw [zargs_map] at hl0
  refine body (p, l, e, (headSpec (Cond.code y cc maxL (some ty) :: zALL) rm).room, s, m, (pvs.map (zT ad)).toArray, below, meth, c, D, cA, va_A (zW ad cA hp) s.heap.size, _, maxL, ad, hp.length) r ⟨hx, hb, hml, hown9, hts, hK, hA, rfl, hlk, hl, hEnv⟩ rfl ?_ r hr rfl ad s.heap [] _ (fun _ _ => rfl) (Nat.le_refl _) hok (zargs_ok hpv 0) (fun _ h => by cases h) hP hD va_S.rf hl0
  intro cells slots pc lv hc hs hdg ad' H locs ls e1 e2 e3 e4 e5 e6 e7 e8 e9
  refine W.widen hc hs ?_
  exact W.aret hx hb hr9 hty (va_rf_or _) (fun t ht hW => ⟨⟨_, ad', rfl, ⟨rfl, zOk_hd e5⟩, e1, e2, e3, by rw [ht]; exact e6, va_K.moved hW.alike hK, e7⟩, e8.F ht⟩) e8.2.2 hdg hlk
theorem zMv_of {y : MethodName} {maxL : Nat} {rm : Room} {mc ms : Nat} {pvs : List zPV} {ε : Type} {o : Option ε} {hp2 : ε → zH} (hy : plainName y.cls = true) (hown : y.cls = own) (hsl : (pvs.map zcat).sum ≤ maxL)
    (body : ∀ (K : zK) (r0 : ε), zX K cc own zALL rm → K.2.2.2.2.2.2.2.2.2.2.2.2.2.2.1 = maxL → K.2.2.2.2.2.2.2.2.1.name = y.name → (∀ cells slots pc lv, cells ≤ mc → slots ≤ ms → decode cc pc = .ok (.return_, 1) → zJ K cells slots pc lv [] (hp2 r0)) → zS o (fun r => r = r0) (zJ K 0 0 0 (zargs 0 pvs) [] hp)) :
    ∀ r, o = some r → zMv y (Cond.code y cc maxL (none) :: zALL) rm mc ms pvs hp (hp2 r) := by
  intro r hr l hl D cA ad sz hok hpv
  refine Met.ofW (cc := cc) (maxL := maxL) (ret := none) hy rfl ?_
  intro p e s m args below meth c s₁ B hml hv
  obtain ⟨rfl, hsz, hP, hK, hD0, hEnv⟩ := hv
  subst hsz
  have hx := B.exec
  have hb := B.bytes
  have hr9 := B.returns
  have hts0 := atoms_spec (ws := Cond.code y cc maxL (none) :: zALL) B.pre
  have hts : ∀ w ∈ zALL, w.before (pvs.map (zT ad)).toArray s = true := fun w hw => hts0 w (List.mem_cons_of_mem _ hw)
  have hown9 : s.vm.findClass own = some m.cls := by rw [← hown]; exact findClass_of_methodNamed B.named
  have hlk := B.notSynchronized
  have hD := hD0.self (sz := s.heap.size)
  have hA : ∀ q, s.heap.size ≤ q → va_A (zW ad cA hp) s.heap.size q := fun q h => Or.inr h
  have hl0 := lv_entry (pvs.map (zT ad)) (n := maxL) (by rw [zlen_sl]; exact hsl)
  rw [lg_entry_eq]
  rw [zargs_map] at hl0
  refine body (p, l, e, (headSpec (Cond.code y cc maxL (none) :: zALL) rm).room, s, m, (pvs.map (zT ad)).toArray, below, meth, c, D, cA, va_A (zW ad cA hp) s.heap.size, _, maxL, ad, hp.length) r ⟨hx, hb, hml, hown9, hts, hK, hA, rfl, hlk, hl, hEnv⟩ rfl (name_of_methodNamed B.named B.method).1 ?_ r hr rfl ad s.heap [] _ (fun _ _ => rfl) (Nat.le_refl _) hok (zargs_ok hpv 0) (fun _ h => by cases h) hP hD va_S.rf hl0
  intro cells slots pc lv hc hs hdg ad' H locs ls e1 e2 e3 e4 e5 e6 e7 e8 e9
  refine W.widen hc hs ?_
  exact W.vret hx hb hr9 (fun t ht hW => ⟨⟨ad', rfl, trivial, e1, e2, e3, by rw [ht]; exact e6, va_K.moved hW.alike hK, e7⟩, e8.F ht⟩) e8.2.2 hdg hlk
theorem zXi_of {y : MethodName} {maxL : Nat} {ty : FieldType} {rm : Room} {mc ms : Nat} {pvs : List zPV} {ε : Type} {o : Option ε} {res : ε → Int ⊕ Nat} {hp2 : ε → zH} (hy : plainName y.cls = true) (hown : y.cls = own) (hty : ty = .int ∨ ty = .boolean ∨ ty = .char) (hsl : (pvs.map zcat).sum ≤ maxL)
    (body : ∀ (K : zK) (r0 : ε), zX K cc own zALL rm → K.2.2.2.2.2.2.2.2.2.2.2.2.2.2.1 = maxL → (∀ cells slots pc lv z, res r0 = .inl z → cells ≤ mc → slots ≤ ms → decode cc pc = .ok (.ireturn, 1) → zfit ty z → zJ K cells slots pc lv [zI z] (hp2 r0)) →
      (∀ cells slots pc lv k, res r0 = .inr k → cells ≤ mc → slots ≤ ms → zE K cells slots pc lv k (hp2 r0)) →
      (∀ cells slots pc lv k ik is ic text d9 dl, res r0 = .inr k → decode cc pc = .ok (.new ik, 3) → decode cc (pc + 3) = .ok (.dup, 1) → (decode cc (pc + 4) = .ok (.ldc is, 2) ∧ dl = 6 ∨ decode cc (pc + 4) = .ok (.ldc_w is, 3) ∧ dl = 7) → decode cc (pc + dl) = .ok (.invokespecial ic, 3) → d9 = dl + 3 → decode cc (pc + d9) = .ok (.athrow, 1) → Cond.classLink own ik (zexn k) ∈ zALL → Cond.initialized (zexn k) ∈ zALL → own = RX7 → Cond.stringRef RX7 is text ∈ lw_tbl →
        zthr own ic k → Bundle.fit (zexn k) = true → 5 < rm.frames → 82 ≤ rm.locals → cells + 1 ≤ mc ∧ mc ≤ rm.cells → slots + 6 ≤ ms ∧ ms ≤ rm.slots → zJ K cells slots pc lv [] (hp2 r0)) →
      zS o (fun r => r = r0) (zJ K 0 0 0 (zargs 0 pvs) [] hp)) :
    ∀ r, o = some r → zXi y (Cond.code y cc maxL (some ty) :: zALL) rm mc ms pvs hp (res r) (hp2 r) := by
  intro r hr l hl D cA ad sz hok hpv
  refine vx_ofW (cc := cc) (maxL := maxL) (ret := some ty) hy rfl ?_
  intro p e s m args below meth c s₁ B hml hnoex hv
  obtain ⟨rfl, hsz, hP, hK, hD0, hEnv⟩ := hv
  subst hsz
  have hx := B.exec
  have hb := B.bytes
  have hr9 := B.returns
  have hts0 := atoms_spec (ws := Cond.code y cc maxL (some ty) :: zALL) B.pre
  have hts : ∀ w ∈ zALL, w.before (pvs.map (zT ad)).toArray s = true := fun w hw => hts0 w (List.mem_cons_of_mem _ hw)
  have hown9 : s.vm.findClass own = some m.cls := by rw [← hown]; exact findClass_of_methodNamed B.named
  have hlk := B.notSynchronized
  have hD := hD0.self (sz := s.heap.size)
  have hA : ∀ q, s.heap.size ≤ q → va_A (zW ad cA hp) s.heap.size q := fun q h => Or.inr h
  have hl0 := lv_entry (pvs.map (zT ad)) (n := maxL) (by rw [zlen_sl]; exact hsl)
  rw [lg_entry_eq]
  rw [zargs_map] at hl0
  refine body (p, l, e, (headSpec (Cond.code y cc maxL (some ty) :: zALL) rm).room, s, m, (pvs.map (zT ad)).toArray, below, meth, c, D, cA, va_A (zW ad cA hp) s.heap.size, _, maxL, ad, hp.length) r ⟨hx, hb, hml, hown9, hts, hK, hA, rfl, hlk, hl, hEnv⟩ rfl ?_ ?_ ?_ r hr rfl ad s.heap [] _ (fun _ _ => rfl) (Nat.le_refl _) hok (zargs_ok hpv 0) (fun _ h => by cases h) hP hD va_S.rf hl0
  · intro cells slots pc lv z hz hc hs hdg hfit ad' H locs ls e1 e2 e3 e4 e5 e6 e7 e8 e9
    refine vx_ret (W.widen hc hs ?_)
    exact W.zret (ty := ty) hx hb hr9 (zfit_nar hty hfit) (fun t ht hW => ⟨⟨_, ad', rfl, ⟨_, hz, rfl, zOk_hd e5⟩, e1, e2, e3, by rw [ht]; exact e6, va_K.moved hW.alike hK, e7⟩, e8.F ht⟩) e8.2.2 hdg hlk
  · intro cells slots pc lv k hk hc hs ad' H locs ls rest q ce e1 e2 e3 e4 e6 e7 e8 e9 c1 c2 c3
    refine vx_out (fun x hx9 => (hnoex x hx9).elim) hlk c1 c2 c3 (fun t ht hvm => ⟨ad', trivial, ⟨⟨k, hk, rfl⟩, e1, e2, e3, by rw [ht]; exact e6, va_K.moved hvm hK, e7⟩, e8.F ht⟩) e8.2.2 hc hs
  · intro cells slots pc lv k ik is ic text d9 dl hk q0 q3 q4 q6 hd9 q9 w1 w2 hown7 w3 w4 hfit9 hfr hlo hc hs ad' H locs ls e1 e2 e3 e4 e5 e6 e7 e8 e9
    subst hd9
    obtain ⟨sa, hsa⟩ := hEnv.2.2.2.1 is text w3
    have hatP : ∀ L : List Cond, (∀ w ∈ L, w ∈ lw_tbl ∧ (goodWord w || zng w) = true ∧ vx_ot w = true) → ∀ w ∈ L, w.before (pvs.map (zT ad)).toArray s = true := by
      intro L w4 w hw
      obtain ⟨a1, a2, a3⟩ := w4 w hw
      rcases Bool.or_eq_true_iff.mp a2 with a2 | a2
      · exact hts w (zin a1 a2)
      · have a4 := hEnv.2.2.1 w a1 a2
        exact vx_ot_at (State.WarmedH.refl s) rfl a3 a4
    have hgdP : ∀ L : List Cond, (∀ w ∈ L, w ∈ lw_tbl ∧ (goodWord w || zng w) = true ∧ vx_ot w = true) → ∀ w ∈ Cond.classLink own ik (zexn k) :: Cond.initialized (zexn k) :: L, vx_ot w = true := by
      intro L w4 w hw
      rcases List.mem_cons.1 hw with rfl | hw
      · rfl
      · rcases List.mem_cons.1 hw with rfl | hw
        · rfl
        · exact (w4 w hw).2.2
    have hX : ∀ t : State, s.vm.Alike t.vm → H.size ≤ t.heap.size → (∀ q : Nat, q < H.size → t.heap[q]? = H[q]?) → vx_X (fun (_ : Nat → Nat) => True) (fun E ad' t => (∃ k, res r = .inr k ∧ E = zexn k) ∧ zPost D cA ad hp (hp2 r) (va_A (zW ad cA hp) s.heap.size) ad' t) (va_A (zW ad cA hp) s.heap.size) (zexn k) s t := by
      intro t hvm hsz hq
      refine ⟨ad', trivial, ⟨⟨k, hk, rfl⟩, e1, e2, e3, fun i x hx9 => (e6 i x hx9).kept (hq _ (e6 i x hx9).lt), va_K.moved hvm hK, e7⟩, ⟨Nat.le_trans e8.1 hsz, fun q hq1 hq2 => ?_⟩⟩
      rw [hq q (Nat.lt_of_lt_of_le hq1 e8.1)]
      exact e8.2.1 q hq1 hq2
    have hnm : ∀ n ∈ ["java/lang/RuntimeException", "java/lang/Exception"], Bundle.fit n = true := by
      intro n hn
      simp only [List.mem_cons, List.not_mem_nil, or_false] at hn
      rcases hn with rfl | rfl <;> decide
    rw [← hown7] at hsa
    rcases w4 with w4 | ⟨ix, rx, hrx, w4⟩
    · have hat := hatP _ w4
      have hgd := hgdP _ w4
      rcases q4 with ⟨q4, rfl⟩ | ⟨q4, rfl⟩
      · exact vx_throwS hx hb hl hown9 hfit9 hnm (hts _ w1) (hts _ w2) hsa hat hgd hEnv.1 hEnv.2.1 e8 (by rw [hml]; exact e9.1) q0 q3 q4 q6 q9 (fun x hx9 => (hnoex x hx9).elim) hfr hlo (Nat.le_trans hc.1 hc.2) (Nat.le_trans hs.1 hs.2) hlk hX e8.2.2 hc.1 hs.1
      · exact vx_throwSW hx hb hl hown9 hfit9 hnm (hts _ w1) (hts _ w2) hsa hat hgd hEnv.1 hEnv.2.1 e8 (by rw [hml]; exact e9.1) q0 q3 q4 q6 q9 (fun x hx9 => (hnoex x hx9).elim) hfr hlo (Nat.le_trans hc.1 hc.2) (Nat.le_trans hs.1 hs.2) hlk hX e8.2.2 hc.1 hs.1
    · have hat := hatP _ w4
      have hgd := hgdP _ w4
      rcases q4 with ⟨q4, rfl⟩ | ⟨q4, rfl⟩
      · exact zx_throwS (r0 := ["java/lang/Exception"]) hx hb hl hrx hown9 hfit9 (hnm _ List.mem_cons_self) (fun n hn => hnm n (List.mem_cons_of_mem _ hn)) (hts _ w1) (hts _ w2) hsa hat hgd hEnv.1 hEnv.2.1 e8 (by rw [hml]; exact e9.1) q0 q3 q4 q6 q9 (fun x hx9 => (hnoex x hx9).elim) hfr hlo (Nat.le_trans hc.1 hc.2) (Nat.le_trans hs.1 hs.2) hlk hX e8.2.2 hc.1 hs.1
      · exact zx_throwSW (r0 := ["java/lang/Exception"]) hx hb hl hrx hown9 hfit9 (hnm _ List.mem_cons_self) (fun n hn => hnm n (List.mem_cons_of_mem _ hn)) (hts _ w1) (hts _ w2) hsa hat hgd hEnv.1 hEnv.2.1 e8 (by rw [hml]; exact e9.1) q0 q3 q4 q6 q9 (fun x hx9 => (hnoex x hx9).elim) hfr hlo (Nat.le_trans hc.1 hc.2) (Nat.le_trans hs.1 hs.2) hlk hX e8.2.2 hc.1 hs.1
theorem zXq_of {y : MethodName} {maxL : Nat} {ty : FieldType} {rm : Room} {mc ms : Nat} {pvs : List zPV} {ε : Type} {o : Option ε} {res : ε → Option Nat ⊕ Nat} {hp2 : ε → zH} (hy : plainName y.cls = true) (hown : y.cls = own) (hty : (∃ n, ty = .object n) ∨ ∃ t, ty = .array t) (hsl : (pvs.map zcat).sum ≤ maxL)
    (body : ∀ (K : zK) (r0 : ε), zX K cc own zALL rm → K.2.2.2.2.2.2.2.2.2.2.2.2.2.2.1 = maxL → (∀ cells slots pc lv z, res r0 = .inl z → cells ≤ mc → slots ≤ ms → decode cc pc = .ok (.areturn, 1) → zJ K cells slots pc lv [zR z] (hp2 r0)) →
      (∀ cells slots pc lv k, res r0 = .inr k → cells ≤ mc → slots ≤ ms → zE K cells slots pc lv k (hp2 r0)) →
      (∀ cells slots pc lv k ik is ic text d9 dl, res r0 = .inr k → decode cc pc = .ok (.new ik, 3) → decode cc (pc + 3) = .ok (.dup, 1) → (decode cc (pc + 4) = .ok (.ldc is, 2) ∧ dl = 6 ∨ decode cc (pc + 4) = .ok (.ldc_w is, 3) ∧ dl = 7) → decode cc (pc + dl) = .ok (.invokespecial ic, 3) → d9 = dl + 3 → decode cc (pc + d9) = .ok (.athrow, 1) → Cond.classLink own ik (zexn k) ∈ zALL → Cond.initialized (zexn k) ∈ zALL → own = RX7 → Cond.stringRef RX7 is text ∈ lw_tbl →
        zthr own ic k → Bundle.fit (zexn k) = true → 5 < rm.frames → 82 ≤ rm.locals → cells + 1 ≤ mc ∧ mc ≤ rm.cells → slots + 6 ≤ ms ∧ ms ≤ rm.slots → zJ K cells slots pc lv [] (hp2 r0)) →
      zS o (fun r => r = r0) (zJ K 0 0 0 (zargs 0 pvs) [] hp)) :
    ∀ r, o = some r → zXq y (Cond.code y cc maxL (some ty) :: zALL) rm mc ms pvs hp (res r) (hp2 r) := by
  intro r hr l hl D cA ad sz hok hpv
  refine vx_ofW (cc := cc) (maxL := maxL) (ret := some ty) hy rfl ?_
  intro p e s m args below meth c s₁ B hml hnoex hv
  obtain ⟨rfl, hsz, hP, hK, hD0, hEnv⟩ := hv
  subst hsz
  have hx := B.exec
  have hb := B.bytes
  have hr9 := B.returns
  have hts0 := atoms_spec (ws := Cond.code y cc maxL (some ty) :: zALL) B.pre
  have hts : ∀ w ∈ zALL, w.before (pvs.map (zT ad)).toArray s = true := fun w hw => hts0 w (List.mem_cons_of_mem _ hw)
  have hown9 : s.vm.findClass own = some m.cls := by rw [← hown]; exact findClass_of_methodNamed B.named
  have hlk := B.notSynchronized
  have hD := hD0.self (sz := s.heap.size)
  have hA : ∀ q, s.heap.size ≤ q → va_A (zW ad cA hp) s.heap.size q := fun q h => Or.inr h
  have hl0 := lv_entry (pvs.map (zT ad)) (n := maxL) (by rw [zlen_sl]; exact hsl)
  rw [lg_entry_eq]
  rw [zargs_map] at hl0
  refine body (p, l, e, (headSpec (Cond.code y cc maxL (some ty) :: zALL) rm).room, s, m, (pvs.map (zT ad)).toArray, below, meth, c, D, cA, va_A (zW ad cA hp) s.heap.size, _, maxL, ad, hp.length) r ⟨hx, hb, hml, hown9, hts, hK, hA, rfl, hlk, hl, hEnv⟩ rfl ?_ ?_ ?_ r hr rfl ad s.heap [] _ (fun _ _ => rfl) (Nat.le_refl _) hok (zargs_ok hpv 0) (fun _ h => by cases h) hP hD va_S.rf hl0
  · intro cells slots pc lv z hz hc hs hdg ad' H locs ls e1 e2 e3 e4 e5 e6 e7 e8 e9
    refine vx_ret (W.widen hc hs ?_)
    exact W.aret hx hb hr9 hty (va_rf_or _) (fun t ht hW => ⟨⟨_, ad', rfl, ⟨_, hz, rfl, zOk_hd e5⟩, e1, e2, e3, by rw [ht]; exact e6, va_K.moved hW.alike hK, e7⟩, e8.F ht⟩) e8.2.2 hdg hlk
  · intro cells slots pc lv k hk hc hs ad' H locs ls rest q ce e1 e2 e3 e4 e6 e7 e8 e9 c1 c2 c3
    refine vx_out (fun x hx9 => (hnoex x hx9).elim) hlk c1 c2 c3 (fun t ht hvm => ⟨ad', trivial, ⟨⟨k, hk, rfl⟩, e1, e2, e3, by rw [ht]; exact e6, va_K.moved hvm hK, e7⟩, e8.F ht⟩) e8.2.2 hc hs
  · intro cells slots pc lv k ik is ic text d9 dl hk q0 q3 q4 q6 hd9 q9 w1 w2 hown7 w3 w4 hfit9 hfr hlo hc hs ad' H locs ls e1 e2 e3 e4 e5 e6 e7 e8 e9
    subst hd9
    obtain ⟨sa, hsa⟩ := hEnv.2.2.2.1 is text w3
    have hatP : ∀ L : List Cond, (∀ w ∈ L, w ∈ lw_tbl ∧ (goodWord w || zng w) = true ∧ vx_ot w = true) → ∀ w ∈ L, w.before (pvs.map (zT ad)).toArray s = true := by
      intro L w4 w hw
      obtain ⟨a1, a2, a3⟩ := w4 w hw
      rcases Bool.or_eq_true_iff.mp a2 with a2 | a2
      · exact hts w (zin a1 a2)
      · have a4 := hEnv.2.2.1 w a1 a2
        exact vx_ot_at (State.WarmedH.refl s) rfl a3 a4
    have hgdP : ∀ L : List Cond, (∀ w ∈ L, w ∈ lw_tbl ∧ (goodWord w || zng w) = true ∧ vx_ot w = true) → ∀ w ∈ Cond.classLink own ik (zexn k) :: Cond.initialized (zexn k) :: L, vx_ot w = true := by
      intro L w4 w hw
      rcases List.mem_cons.1 hw with rfl | hw
      · rfl
      · rcases List.mem_cons.1 hw with rfl | hw
        · rfl
        · exact (w4 w hw).2.2
    have hX : ∀ t : State, s.vm.Alike t.vm → H.size ≤ t.heap.size → (∀ q : Nat, q < H.size → t.heap[q]? = H[q]?) → vx_X (fun (_ : Nat → Nat) => True) (fun E ad' t => (∃ k, res r = .inr k ∧ E = zexn k) ∧ zPost D cA ad hp (hp2 r) (va_A (zW ad cA hp) s.heap.size) ad' t) (va_A (zW ad cA hp) s.heap.size) (zexn k) s t := by
      intro t hvm hsz hq
      refine ⟨ad', trivial, ⟨⟨k, hk, rfl⟩, e1, e2, e3, fun i x hx9 => (e6 i x hx9).kept (hq _ (e6 i x hx9).lt), va_K.moved hvm hK, e7⟩, ⟨Nat.le_trans e8.1 hsz, fun q hq1 hq2 => ?_⟩⟩
      rw [hq q (Nat.lt_of_lt_of_le hq1 e8.1)]
      exact e8.2.1 q hq1 hq2
    have hnm : ∀ n ∈ ["java/lang/RuntimeException", "java/lang/Exception"], Bundle.fit n = true := by
      intro n hn
      simp only [List.mem_cons, List.not_mem_nil, or_false] at hn
      rcases hn with rfl | rfl <;> decide
    rw [← hown7] at hsa
    rcases w4 with w4 | ⟨ix, rx, hrx, w4⟩
    · have hat := hatP _ w4
      have hgd := hgdP _ w4
      rcases q4 with ⟨q4, rfl⟩ | ⟨q4, rfl⟩
      · exact vx_throwS hx hb hl hown9 hfit9 hnm (hts _ w1) (hts _ w2) hsa hat hgd hEnv.1 hEnv.2.1 e8 (by rw [hml]; exact e9.1) q0 q3 q4 q6 q9 (fun x hx9 => (hnoex x hx9).elim) hfr hlo (Nat.le_trans hc.1 hc.2) (Nat.le_trans hs.1 hs.2) hlk hX e8.2.2 hc.1 hs.1
      · exact vx_throwSW hx hb hl hown9 hfit9 hnm (hts _ w1) (hts _ w2) hsa hat hgd hEnv.1 hEnv.2.1 e8 (by rw [hml]; exact e9.1) q0 q3 q4 q6 q9 (fun x hx9 => (hnoex x hx9).elim) hfr hlo (Nat.le_trans hc.1 hc.2) (Nat.le_trans hs.1 hs.2) hlk hX e8.2.2 hc.1 hs.1
    · have hat := hatP _ w4
      have hgd := hgdP _ w4
      rcases q4 with ⟨q4, rfl⟩ | ⟨q4, rfl⟩
      · exact zx_throwS (r0 := ["java/lang/Exception"]) hx hb hl hrx hown9 hfit9 (hnm _ List.mem_cons_self) (fun n hn => hnm n (List.mem_cons_of_mem _ hn)) (hts _ w1) (hts _ w2) hsa hat hgd hEnv.1 hEnv.2.1 e8 (by rw [hml]; exact e9.1) q0 q3 q4 q6 q9 (fun x hx9 => (hnoex x hx9).elim) hfr hlo (Nat.le_trans hc.1 hc.2) (Nat.le_trans hs.1 hs.2) hlk hX e8.2.2 hc.1 hs.1
      · exact zx_throwSW (r0 := ["java/lang/Exception"]) hx hb hl hrx hown9 hfit9 (hnm _ List.mem_cons_self) (fun n hn => hnm n (List.mem_cons_of_mem _ hn)) (hts _ w1) (hts _ w2) hsa hat hgd hEnv.1 hEnv.2.1 e8 (by rw [hml]; exact e9.1) q0 q3 q4 q6 q9 (fun x hx9 => (hnoex x hx9).elim) hfr hlo (Nat.le_trans hc.1 hc.2) (Nat.le_trans hs.1 hs.2) hlk hX e8.2.2 hc.1 hs.1
theorem zXf_of {y : MethodName} {maxL : Nat} {rm : Room} {mc ms : Nat} {pvs : List zPV} {ε : Type} {o : Option ε} {res : ε → UInt32 ⊕ Nat} {hp2 : ε → zH} (hy : plainName y.cls = true) (hown : y.cls = own) (hsl : (pvs.map zcat).sum ≤ maxL)
    (body : ∀ (K : zK) (r0 : ε), zX K cc own zALL rm → K.2.2.2.2.2.2.2.2.2.2.2.2.2.2.1 = maxL → (∀ cells slots pc lv z, res r0 = .inl z → cells ≤ mc → slots ≤ ms → decode cc pc = .ok (.freturn, 1) → zJ K cells slots pc lv [zF z] (hp2 r0)) →
      (∀ cells slots pc lv k, res r0 = .inr k → cells ≤ mc → slots ≤ ms → zE K cells slots pc lv k (hp2 r0)) →
      (∀ cells slots pc lv k ik is ic text d9 dl, res r0 = .inr k → decode cc pc = .ok (.new ik, 3) → decode cc (pc + 3) = .ok (.dup, 1) → (decode cc (pc + 4) = .ok (.ldc is, 2) ∧ dl = 6 ∨ decode cc (pc + 4) = .ok (.ldc_w is, 3) ∧ dl = 7) → decode cc (pc + dl) = .ok (.invokespecial ic, 3) → d9 = dl + 3 → decode cc (pc + d9) = .ok (.athrow, 1) → Cond.classLink own ik (zexn k) ∈ zALL → Cond.initialized (zexn k) ∈ zALL → own = RX7 → Cond.stringRef RX7 is text ∈ lw_tbl →
        zthr own ic k → Bundle.fit (zexn k) = true → 5 < rm.frames → 82 ≤ rm.locals → cells + 1 ≤ mc ∧ mc ≤ rm.cells → slots + 6 ≤ ms ∧ ms ≤ rm.slots → zJ K cells slots pc lv [] (hp2 r0)) →
      zS o (fun r => r = r0) (zJ K 0 0 0 (zargs 0 pvs) [] hp)) :
    ∀ r, o = some r → zXf y (Cond.code y cc maxL (some .float) :: zALL) rm mc ms pvs hp (res r) (hp2 r) := by
  intro r hr l hl D cA ad sz hok hpv
  refine vx_ofW (cc := cc) (maxL := maxL) (ret := some .float) hy rfl ?_
  intro p e s m args below meth c s₁ B hml hnoex hv
  obtain ⟨rfl, hsz, hP, hK, hD0, hEnv⟩ := hv
  subst hsz
  have hx := B.exec
  have hb := B.bytes
  have hr9 := B.returns
  have hts0 := atoms_spec (ws := Cond.code y cc maxL (some .float) :: zALL) B.pre
  have hts : ∀ w ∈ zALL, w.before (pvs.map (zT ad)).toArray s = true := fun w hw => hts0 w (List.mem_cons_of_mem _ hw)
  have hown9 : s.vm.findClass own = some m.cls := by rw [← hown]; exact findClass_of_methodNamed B.named
  have hlk := B.notSynchronized
  have hD := hD0.self (sz := s.heap.size)
  have hA : ∀ q, s.heap.size ≤ q → va_A (zW ad cA hp) s.heap.size q := fun q h => Or.inr h
  have hl0 := lv_entry (pvs.map (zT ad)) (n := maxL) (by rw [zlen_sl]; exact hsl)
  rw [lg_entry_eq]
  rw [zargs_map] at hl0
  refine body (p, l, e, (headSpec (Cond.code y cc maxL (some .float) :: zALL) rm).room, s, m, (pvs.map (zT ad)).toArray, below, meth, c, D, cA, va_A (zW ad cA hp) s.heap.size, _, maxL, ad, hp.length) r ⟨hx, hb, hml, hown9, hts, hK, hA, rfl, hlk, hl, hEnv⟩ rfl ?_ ?_ ?_ r hr rfl ad s.heap [] _ (fun _ _ => rfl) (Nat.le_refl _) hok (zargs_ok hpv 0) (fun _ h => by cases h) hP hD va_S.rf hl0
  · intro cells slots pc lv z hz hc hs hdg ad' H locs ls e1 e2 e3 e4 e5 e6 e7 e8 e9
    refine vx_ret (W.widen hc hs ?_)
    exact W.fret hx hb hr9 (fun t ht hW => ⟨⟨_, ad', rfl, hz, e1, e2, e3, by rw [ht]; exact e6, va_K.moved hW.alike hK, e7⟩, e8.F ht⟩) e8.2.2 hdg hlk
  · intro cells slots pc lv k hk hc hs ad' H locs ls rest q ce e1 e2 e3 e4 e6 e7 e8 e9 c1 c2 c3
    refine vx_out (fun x hx9 => (hnoex x hx9).elim) hlk c1 c2 c3 (fun t ht hvm => ⟨ad', trivial, ⟨⟨k, hk, rfl⟩, e1, e2, e3, by rw [ht]; exact e6, va_K.moved hvm hK, e7⟩, e8.F ht⟩) e8.2.2 hc hs
  · intro cells slots pc lv k ik is ic text d9 dl hk q0 q3 q4 q6 hd9 q9 w1 w2 hown7 w3 w4 hfit9 hfr hlo hc hs ad' H locs ls e1 e2 e3 e4 e5 e6 e7 e8 e9
    subst hd9
    obtain ⟨sa, hsa⟩ := hEnv.2.2.2.1 is text w3
    have hatP : ∀ L : List Cond, (∀ w ∈ L, w ∈ lw_tbl ∧ (goodWord w || zng w) = true ∧ vx_ot w = true) → ∀ w ∈ L, w.before (pvs.map (zT ad)).toArray s = true := by
      intro L w4 w hw
      obtain ⟨a1, a2, a3⟩ := w4 w hw
      rcases Bool.or_eq_true_iff.mp a2 with a2 | a2
      · exact hts w (zin a1 a2)
      · have a4 := hEnv.2.2.1 w a1 a2
        exact vx_ot_at (State.WarmedH.refl s) rfl a3 a4
    have hgdP : ∀ L : List Cond, (∀ w ∈ L, w ∈ lw_tbl ∧ (goodWord w || zng w) = true ∧ vx_ot w = true) → ∀ w ∈ Cond.classLink own ik (zexn k) :: Cond.initialized (zexn k) :: L, vx_ot w = true := by
      intro L w4 w hw
      rcases List.mem_cons.1 hw with rfl | hw
      · rfl
      · rcases List.mem_cons.1 hw with rfl | hw
        · rfl
        · exact (w4 w hw).2.2
    have hX : ∀ t : State, s.vm.Alike t.vm → H.size ≤ t.heap.size → (∀ q : Nat, q < H.size → t.heap[q]? = H[q]?) → vx_X (fun (_ : Nat → Nat) => True) (fun E ad' t => (∃ k, res r = .inr k ∧ E = zexn k) ∧ zPost D cA ad hp (hp2 r) (va_A (zW ad cA hp) s.heap.size) ad' t) (va_A (zW ad cA hp) s.heap.size) (zexn k) s t := by
      intro t hvm hsz hq
      refine ⟨ad', trivial, ⟨⟨k, hk, rfl⟩, e1, e2, e3, fun i x hx9 => (e6 i x hx9).kept (hq _ (e6 i x hx9).lt), va_K.moved hvm hK, e7⟩, ⟨Nat.le_trans e8.1 hsz, fun q hq1 hq2 => ?_⟩⟩
      rw [hq q (Nat.lt_of_lt_of_le hq1 e8.1)]
      exact e8.2.1 q hq1 hq2
    have hnm : ∀ n ∈ ["java/lang/RuntimeException", "java/lang/Exception"], Bundle.fit n = true := by
      intro n hn
      simp only [List.mem_cons, List.not_mem_nil, or_false] at hn
      rcases hn with rfl | rfl <;> decide
    rw [← hown7] at hsa
    rcases w4 with w4 | ⟨ix, rx, hrx, w4⟩
    · have hat := hatP _ w4
      have hgd := hgdP _ w4
      rcases q4 with ⟨q4, rfl⟩ | ⟨q4, rfl⟩
      · exact vx_throwS hx hb hl hown9 hfit9 hnm (hts _ w1) (hts _ w2) hsa hat hgd hEnv.1 hEnv.2.1 e8 (by rw [hml]; exact e9.1) q0 q3 q4 q6 q9 (fun x hx9 => (hnoex x hx9).elim) hfr hlo (Nat.le_trans hc.1 hc.2) (Nat.le_trans hs.1 hs.2) hlk hX e8.2.2 hc.1 hs.1
      · exact vx_throwSW hx hb hl hown9 hfit9 hnm (hts _ w1) (hts _ w2) hsa hat hgd hEnv.1 hEnv.2.1 e8 (by rw [hml]; exact e9.1) q0 q3 q4 q6 q9 (fun x hx9 => (hnoex x hx9).elim) hfr hlo (Nat.le_trans hc.1 hc.2) (Nat.le_trans hs.1 hs.2) hlk hX e8.2.2 hc.1 hs.1
    · have hat := hatP _ w4
      have hgd := hgdP _ w4
      rcases q4 with ⟨q4, rfl⟩ | ⟨q4, rfl⟩
      · exact zx_throwS (r0 := ["java/lang/Exception"]) hx hb hl hrx hown9 hfit9 (hnm _ List.mem_cons_self) (fun n hn => hnm n (List.mem_cons_of_mem _ hn)) (hts _ w1) (hts _ w2) hsa hat hgd hEnv.1 hEnv.2.1 e8 (by rw [hml]; exact e9.1) q0 q3 q4 q6 q9 (fun x hx9 => (hnoex x hx9).elim) hfr hlo (Nat.le_trans hc.1 hc.2) (Nat.le_trans hs.1 hs.2) hlk hX e8.2.2 hc.1 hs.1
      · exact zx_throwSW (r0 := ["java/lang/Exception"]) hx hb hl hrx hown9 hfit9 (hnm _ List.mem_cons_self) (fun n hn => hnm n (List.mem_cons_of_mem _ hn)) (hts _ w1) (hts _ w2) hsa hat hgd hEnv.1 hEnv.2.1 e8 (by rw [hml]; exact e9.1) q0 q3 q4 q6 q9 (fun x hx9 => (hnoex x hx9).elim) hfr hlo (Nat.le_trans hc.1 hc.2) (Nat.le_trans hs.1 hs.2) hlk hX e8.2.2 hc.1 hs.1
theorem zXd_of {y : MethodName} {maxL : Nat} {rm : Room} {mc ms : Nat} {pvs : List zPV} {ε : Type} {o : Option ε} {res : ε → UInt64 ⊕ Nat} {hp2 : ε → zH} (hy : plainName y.cls = true) (hown : y.cls = own) (hsl : (pvs.map zcat).sum ≤ maxL)
    (body : ∀ (K : zK) (r0 : ε), zX K cc own zALL rm → K.2.2.2.2.2.2.2.2.2.2.2.2.2.2.1 = maxL → (∀ cells slots pc lv z, res r0 = .inl z → cells ≤ mc → slots ≤ ms → decode cc pc = .ok (.dreturn, 1) → zJ K cells slots pc lv [zD z] (hp2 r0)) →
      (∀ cells slots pc lv k, res r0 = .inr k → cells ≤ mc → slots ≤ ms → zE K cells slots pc lv k (hp2 r0)) →
      (∀ cells slots pc lv k ik is ic text d9 dl, res r0 = .inr k → decode cc pc = .ok (.new ik, 3) → decode cc (pc + 3) = .ok (.dup, 1) → (decode cc (pc + 4) = .ok (.ldc is, 2) ∧ dl = 6 ∨ decode cc (pc + 4) = .ok (.ldc_w is, 3) ∧ dl = 7) → decode cc (pc + dl) = .ok (.invokespecial ic, 3) → d9 = dl + 3 → decode cc (pc + d9) = .ok (.athrow, 1) → Cond.classLink own ik (zexn k) ∈ zALL → Cond.initialized (zexn k) ∈ zALL → own = RX7 → Cond.stringRef RX7 is text ∈ lw_tbl →
        zthr own ic k → Bundle.fit (zexn k) = true → 5 < rm.frames → 82 ≤ rm.locals → cells + 1 ≤ mc ∧ mc ≤ rm.cells → slots + 6 ≤ ms ∧ ms ≤ rm.slots → zJ K cells slots pc lv [] (hp2 r0)) →
      zS o (fun r => r = r0) (zJ K 0 0 0 (zargs 0 pvs) [] hp)) :
    ∀ r, o = some r → zXd y (Cond.code y cc maxL (some .double) :: zALL) rm mc ms pvs hp (res r) (hp2 r) := by
  intro r hr l hl D cA ad sz hok hpv
  refine vx_ofW (cc := cc) (maxL := maxL) (ret := some .double) hy rfl ?_
  intro p e s m args below meth c s₁ B hml hnoex hv
  obtain ⟨rfl, hsz, hP, hK, hD0, hEnv⟩ := hv
  subst hsz
  have hx := B.exec
  have hb := B.bytes
  have hr9 := B.returns
  have hts0 := atoms_spec (ws := Cond.code y cc maxL (some .double) :: zALL) B.pre
  have hts : ∀ w ∈ zALL, w.before (pvs.map (zT ad)).toArray s = true := fun w hw => hts0 w (List.mem_cons_of_mem _ hw)
  have hown9 : s.vm.findClass own = some m.cls := by rw [← hown]; exact findClass_of_methodNamed B.named
  have hlk := B.notSynchronized
  have hD := hD0.self (sz := s.heap.size)
  have hA : ∀ q, s.heap.size ≤ q → va_A (zW ad cA hp) s.heap.size q := fun q h => Or.inr h
  have hl0 := lv_entry (pvs.map (zT ad)) (n := maxL) (by rw [zlen_sl]; exact hsl)
  rw [lg_entry_eq]
  rw [zargs_map] at hl0
  refine body (p, l, e, (headSpec (Cond.code y cc maxL (some .double) :: zALL) rm).room, s, m, (pvs.map (zT ad)).toArray, below, meth, c, D, cA, va_A (zW ad cA hp) s.heap.size, _, maxL, ad, hp.length) r ⟨hx, hb, hml, hown9, hts, hK, hA, rfl, hlk, hl, hEnv⟩ rfl ?_ ?_ ?_ r hr rfl ad s.heap [] _ (fun _ _ => rfl) (Nat.le_refl _) hok (zargs_ok hpv 0) (fun _ h => by cases h) hP hD va_S.rf hl0
  · intro cells slots pc lv z hz hc hs hdg ad' H locs ls e1 e2 e3 e4 e5 e6 e7 e8 e9
    refine vx_ret (W.widen hc hs ?_)
    exact W.dret hx hb hr9 (fun t ht hW => ⟨⟨_, ad', rfl, hz, e1, e2, e3, by rw [ht]; exact e6, va_K.moved hW.alike hK, e7⟩, e8.F ht⟩) e8.2.2 hdg hlk
  · intro cells slots pc lv k hk hc hs ad' H locs ls rest q ce e1 e2 e3 e4 e6 e7 e8 e9 c1 c2 c3
    refine vx_out (fun x hx9 => (hnoex x hx9).elim) hlk c1 c2 c3 (fun t ht hvm => ⟨ad', trivial, ⟨⟨k, hk, rfl⟩, e1, e2, e3, by rw [ht]; exact e6, va_K.moved hvm hK, e7⟩, e8.F ht⟩) e8.2.2 hc hs
  · intro cells slots pc lv k ik is ic text d9 dl hk q0 q3 q4 q6 hd9 q9 w1 w2 hown7 w3 w4 hfit9 hfr hlo hc hs ad' H locs ls e1 e2 e3 e4 e5 e6 e7 e8 e9
    subst hd9
    obtain ⟨sa, hsa⟩ := hEnv.2.2.2.1 is text w3
    have hatP : ∀ L : List Cond, (∀ w ∈ L, w ∈ lw_tbl ∧ (goodWord w || zng w) = true ∧ vx_ot w = true) → ∀ w ∈ L, w.before (pvs.map (zT ad)).toArray s = true := by
      intro L w4 w hw
      obtain ⟨a1, a2, a3⟩ := w4 w hw
      rcases Bool.or_eq_true_iff.mp a2 with a2 | a2
      · exact hts w (zin a1 a2)
      · have a4 := hEnv.2.2.1 w a1 a2
        exact vx_ot_at (State.WarmedH.refl s) rfl a3 a4
    have hgdP : ∀ L : List Cond, (∀ w ∈ L, w ∈ lw_tbl ∧ (goodWord w || zng w) = true ∧ vx_ot w = true) → ∀ w ∈ Cond.classLink own ik (zexn k) :: Cond.initialized (zexn k) :: L, vx_ot w = true := by
      intro L w4 w hw
      rcases List.mem_cons.1 hw with rfl | hw
      · rfl
      · rcases List.mem_cons.1 hw with rfl | hw
        · rfl
        · exact (w4 w hw).2.2
    have hX : ∀ t : State, s.vm.Alike t.vm → H.size ≤ t.heap.size → (∀ q : Nat, q < H.size → t.heap[q]? = H[q]?) → vx_X (fun (_ : Nat → Nat) => True) (fun E ad' t => (∃ k, res r = .inr k ∧ E = zexn k) ∧ zPost D cA ad hp (hp2 r) (va_A (zW ad cA hp) s.heap.size) ad' t) (va_A (zW ad cA hp) s.heap.size) (zexn k) s t := by
      intro t hvm hsz hq
      refine ⟨ad', trivial, ⟨⟨k, hk, rfl⟩, e1, e2, e3, fun i x hx9 => (e6 i x hx9).kept (hq _ (e6 i x hx9).lt), va_K.moved hvm hK, e7⟩, ⟨Nat.le_trans e8.1 hsz, fun q hq1 hq2 => ?_⟩⟩
      rw [hq q (Nat.lt_of_lt_of_le hq1 e8.1)]
      exact e8.2.1 q hq1 hq2
    have hnm : ∀ n ∈ ["java/lang/RuntimeException", "java/lang/Exception"], Bundle.fit n = true := by
      intro n hn
      simp only [List.mem_cons, List.not_mem_nil, or_false] at hn
      rcases hn with rfl | rfl <;> decide
    rw [← hown7] at hsa
    rcases w4 with w4 | ⟨ix, rx, hrx, w4⟩
    · have hat := hatP _ w4
      have hgd := hgdP _ w4
      rcases q4 with ⟨q4, rfl⟩ | ⟨q4, rfl⟩
      · exact vx_throwS hx hb hl hown9 hfit9 hnm (hts _ w1) (hts _ w2) hsa hat hgd hEnv.1 hEnv.2.1 e8 (by rw [hml]; exact e9.1) q0 q3 q4 q6 q9 (fun x hx9 => (hnoex x hx9).elim) hfr hlo (Nat.le_trans hc.1 hc.2) (Nat.le_trans hs.1 hs.2) hlk hX e8.2.2 hc.1 hs.1
      · exact vx_throwSW hx hb hl hown9 hfit9 hnm (hts _ w1) (hts _ w2) hsa hat hgd hEnv.1 hEnv.2.1 e8 (by rw [hml]; exact e9.1) q0 q3 q4 q6 q9 (fun x hx9 => (hnoex x hx9).elim) hfr hlo (Nat.le_trans hc.1 hc.2) (Nat.le_trans hs.1 hs.2) hlk hX e8.2.2 hc.1 hs.1
    · have hat := hatP _ w4
      have hgd := hgdP _ w4
      rcases q4 with ⟨q4, rfl⟩ | ⟨q4, rfl⟩
      · exact zx_throwS (r0 := ["java/lang/Exception"]) hx hb hl hrx hown9 hfit9 (hnm _ List.mem_cons_self) (fun n hn => hnm n (List.mem_cons_of_mem _ hn)) (hts _ w1) (hts _ w2) hsa hat hgd hEnv.1 hEnv.2.1 e8 (by rw [hml]; exact e9.1) q0 q3 q4 q6 q9 (fun x hx9 => (hnoex x hx9).elim) hfr hlo (Nat.le_trans hc.1 hc.2) (Nat.le_trans hs.1 hs.2) hlk hX e8.2.2 hc.1 hs.1
      · exact zx_throwSW (r0 := ["java/lang/Exception"]) hx hb hl hrx hown9 hfit9 (hnm _ List.mem_cons_self) (fun n hn => hnm n (List.mem_cons_of_mem _ hn)) (hts _ w1) (hts _ w2) hsa hat hgd hEnv.1 hEnv.2.1 e8 (by rw [hml]; exact e9.1) q0 q3 q4 q6 q9 (fun x hx9 => (hnoex x hx9).elim) hfr hlo (Nat.le_trans hc.1 hc.2) (Nat.le_trans hs.1 hs.2) hlk hX e8.2.2 hc.1 hs.1
end zMet
