/-! methods with a table (the law's own callers of the class), and rows of the law -/
section zLaw0
variable {ρ : Type} {o : Option ρ} {G : ρ → Prop} {K : zK} {cc : ByteArray} {own : String} {R0 : Room} {cells slots pc : Nat} {lv : List (Nat × zPV)} {st : List zPV} {hp : zH}
theorem z_none {C : Prop} : zS (none : Option ρ) G C := fun r h => by cases h
theorem z_ite {c : Prop} (inst : Decidable c) {o1 o2 : Option ρ} {C : Prop} (k1 : c → zS o1 G C) (k2 : ¬ c → zS o2 G C) : zS (if c then o1 else o2) G C := by
  by_cases h : c
  · rw [if_pos h]; exact k1 h
  · rw [if_neg h]; exact k2 h
def zMw (y : MethodName) (ws : List Cond) (rm : Room) (mc ms : Nat) (pvs : List zPV) (hp : zH) (z : Int) (hp' : zH) : Prop := ∀ (l : Launch), l.stackTraces = false → ∀ (D : va_G) (cA : Nat → ClassId) (ad : Nat → Nat) (sz : Nat), (∀ c ∈ hp, zOkC hp.length c) → (∀ v ∈ pvs, zOk hp.length v) →
  vx_Met l y ws rm (zPc D cA ad sz pvs hp) (va_Qi (fun (r : Int32) (_ : Nat → Nat) => r = Int32.ofInt z ∧ inR z) (zPost D cA ad hp hp' (va_A (zW ad cA hp) sz)) (va_A (zW ad cA hp) sz)) (vx_X (fun (_ : Nat → Nat) => False) (fun _ _ _ => True) (va_A (zW ad cA hp) sz)) mc ms (va_A (zW ad cA hp) sz)
theorem zMw_of {y : MethodName} {maxL : Nat} {rm : Room} {mc ms : Nat} {hh : List (Nat × Nat × Nat × Nat)} {pvs : List zPV} {ε : Type} {o : Option ε} {res : ε → Int} {hp2 : ε → zH} (hy : plainName y.cls = true) (hown : y.cls = own) (hsl : (pvs.map zcat).sum ≤ maxL)
    (body : ∀ (K : zK) (r0 : ε), zX K cc own zALL rm → K.2.2.2.2.2.2.2.2.2.2.2.2.2.2.1 = maxL → K.2.2.2.2.2.2.2.2.2.1.exceptionTable.toList = tableOf hh → (∀ cells slots pc lv, cells ≤ mc → slots ≤ ms → decode cc pc = .ok (.ireturn, 1) → zJ K cells slots pc lv [zI (res r0)] (hp2 r0)) → zS o (fun r => r = r0) (zJ K 0 0 0 (zargs 0 pvs) [] hp)) :
    ∀ r, o = some r → zMw y (Cond.codeWith y cc maxL (some .int) hh :: zALL) rm mc ms pvs hp (res r) (hp2 r) := by
  intro r hr l hl D cA ad sz hok hpv
  refine vx_ofWH (cc := cc) (maxL := maxL) (ret := some .int) (hh := hh) hy rfl ?_
  intro p e s m args below meth c s₁ B hml hv
  obtain ⟨rfl, hsz, hP, hK, hD0, hEnv⟩ := hv
  subst hsz
  have hx := B.exec
  have hb := B.bytes
  have hr9 := B.returns
  have hts0 := atoms_spec (ws := Cond.codeWith y cc maxL (some .int) hh :: zALL) B.pre
  have htab := vx_table (x := y) B (hts0 _ List.mem_cons_self)
  have hts : ∀ w ∈ zALL, w.before (pvs.map (zT ad)).toArray s = true := fun w hw => hts0 w (List.mem_cons_of_mem _ hw)
  have hown9 : s.vm.findClass own = some m.cls := by rw [← hown]; exact findClass_of_methodNamed B.named
  have hlk := B.notSynchronized
  have hD := hD0.self (sz := s.heap.size)
  have hA : ∀ q, s.heap.size ≤ q → va_A (zW ad cA hp) s.heap.size q := fun q h => Or.inr h
  have hl0 := lv_entry (pvs.map (zT ad)) (n := maxL) (by rw [zlen_sl]; exact hsl)
  rw [lg_entry_eq]
  rw [zargs_map] at hl0
  refine body (p, l, e, (headSpec (Cond.codeWith y cc maxL (some .int) hh :: zALL) rm).room, s, m, (pvs.map (zT ad)).toArray, below, meth, c, D, cA, va_A (zW ad cA hp) s.heap.size, _, maxL, ad, hp.length) r ⟨hx, hb, hml, hown9, hts, hK, hA, rfl, hlk, hl, hEnv⟩ rfl htab ?_ r hr rfl ad s.heap [] _ (fun _ _ => rfl) (Nat.le_refl _) hok (zargs_ok hpv 0) (fun _ h => by cases h) hP hD va_S.rf hl0
  intro cells slots pc lv hc hs hdg ad' H locs ls e1 e2 e3 e4 e5 e6 e7 e8 e9
  refine vx_ret (W.widen hc hs ?_)
  exact W.iret hx hb hr9 (fun t ht hW => ⟨⟨_, ad', rfl, ⟨rfl, zOk_hd e5⟩, e1, e2, e3, by rw [ht]; exact e6, va_K.moved hW.alike hK, e7⟩, e8.F ht⟩) e8.2.2 hdg hlk
theorem z_catch (k : Nat) {hh : List (Nat × Nat × Nat × Nat)} (pre suf : List (Nat × Nat × Nat × Nat)) (a b h0 ct : Nat) (X : zX K cc own zALL R0) (htab : K.2.2.2.2.2.2.2.2.2.1.exceptionTable.toList = tableOf hh) (hsplit : hh = pre ++ (a, b, h0, ct) :: suf)
    (hpass : ∀ z ∈ pre, z.2.2.2 ≠ 0 ∧ ∃ nm : String, Cond.classLink own z.2.2.2 nm ∈ zALL ∧ (zexn k, nm) ∈ zNC) (hcv : a ≤ pc ∧ pc < b) (hct : ct ≠ 0) (hlink : Cond.classLink own ct (zexn k) ∈ zALL) (hcast : Cond.castable (zexn k) (zexn k) ∈ lw_tbl)
    (kk : ∀ q, zS o G (zJ K cells slots h0 lv [zA q] hp)) : zS o G (zE K cells slots pc lv k hp) := by
  obtain ⟨p, l, e, R, s, m, args, below, meth, c, D, cA, A, Q, nL, ad0, n0⟩ := K
  obtain ⟨hx, hb, hml, hown, hts, hK, hA, hR, hlk, hst9, hEnv⟩ := X
  intro r h1 h2 ad H locs ls rest q ce e1 e2 e3 e4 e6 e7 e8 e9 c1 c2 c3
  have hcv' : covers (⟨a, b, h0, ct⟩ : ExceptionTableEntry) pc = true := by
    simp [covers, hcv.1, hcv.2]
  refine vx_catch (E := zexn k) (name := zexn k) hown (pre.map fun q => ⟨q.1, q.2.1, q.2.2.1, q.2.2.2⟩) (⟨a, b, h0, ct⟩ : ExceptionTableEntry) (suf.map fun q => ⟨q.1, q.2.1, q.2.2.1, q.2.2.2⟩) ?_ ?_ hcv' hct (hts _ hlink) (va_Nw.use rfl (hEnv.2.2.1 _ hcast rfl)) c1 c2 c3 ?_
  · show c.exceptionTable.toList = _
    rw [show c.exceptionTable.toList = tableOf hh from htab, hsplit]
    unfold tableOf
    rw [List.map_append, List.map_cons]
  · intro z hz
    obtain ⟨y, hy, rfl⟩ := List.mem_map.1 hz
    obtain ⟨g1, nm, g2, g3⟩ := hpass y hy
    exact Or.inr ⟨g1, nm, hts _ g2, hEnv.2.2.2.2.2.2 _ g3⟩
  · exact kk q r h1 h2 ad H locs ls e1 e2 e3 e4 (fun v hv => by rw [List.mem_singleton.1 hv]; trivial) e6 e7 e8 e9
def zkX (own : String) (idx : Nat) (y : MethodName) (bytes : ByteArray) (maxL : Nat) (hh : List (Nat × Nat × Nat × Nat)) (n : Nat) : Prop := Cond.methodLink own idx y ∈ zALL ∧ Cond.codeWith y bytes maxL (some .int) hh ∈ zALL ∧ Cond.initialized y.cls ∈ zALL ∧ (y.cls ≠ "java/lang/invoke/MethodHandle" ∧ y.cls ≠ "java/lang/invoke/VarHandle" ∧ (parseMethodDescriptor y.desc).map (fun d => d.parameters.length) = some n) ∧ Cond.static y ∈ zALL
theorem z_callW_i {ε : Type} {o1 : Option ε} {f : ε → Option ρ} {res : ε → Int} {hp2 : ε → zH} {y : MethodName} {bytes : ByteArray} {maxL mc ms idx n : Nat} {hh : List (Nat × Nat × Nat × Nat)} {rm : Room} {stk : List zPV} (as : List zPV) (X : zX K cc own zALL R0) (hd : decode cc pc = .ok (.invokestatic idx, 3)) (hM : ∀ x, o1 = some x → zMw y (Cond.codeWith y bytes maxL (some .int) hh :: zALL) rm mc ms as hp (res x) (hp2 x)) (hw : zkX own idx y bytes maxL hh n) (hn : as.length = n) (hrm : zrm rm R0 mc ms maxL cells slots) (hlo : (st.map zcat).sum ≤ 8) (hstk : stk = as.reverse ++ st)
    (kk : ∀ x, zS (f x) G (zJ K (cells + mc) (slots + ms) (pc + 3) lv (zI (res x) :: st) (hp2 x))) : zS (o1.bind f) G (zJ K cells slots pc lv stk hp) := by
  obtain ⟨p, l, e, R, s, m, args, below, meth, c, D, cA, A, Q, nL, ad0, n0⟩ := K
  obtain ⟨hx, hb, hml, hown, hts, hK, hA, hR, hlk, hst9, hEnv⟩ := X
  intro r h1 h2 ad H locs ls e1 e2 e3 e4 e5 e6 e7 e8 e9
  subst hR
  subst hstk
  obtain ⟨x, hx1, h3⟩ := Option.bind_eq_some_iff.mp h1
  clear h1
  obtain ⟨q1, q2⟩ := zst_app e5
  have hM9 := hM x hx1 l hst9 D cA ad H.size e3 q1
  have hF := zfree e7 e8 hA
  have cw : vx_CSW R s args own idx y bytes maxL (some .int) hh (Cond.codeWith y bytes maxL (some .int) hh :: zALL) rm mc ms n := vx_cwSW n hts (fun w hw9 => by
      have h9 : w = Cond.methodLink own idx y ∨ w = Cond.static y ∨ w = Cond.initialized y.cls ∨ w ∈ Cond.codeWith y bytes maxL (some .int) hh :: zALL := by
        simpa [va_wsS] using hw9
      rcases h9 with rfl | rfl | rfl | h9
      · exact ⟨hw.1, good_of_word (List.mem_filter.1 hw.1).2⟩
      · exact ⟨hw.2.2.2.2, good_of_word (List.mem_filter.1 hw.2.2.2.2).2⟩
      · exact ⟨hw.2.2.1, good_of_word (List.mem_filter.1 hw.2.2.1).2⟩
      · exact zgood hw.2.1 w h9) rfl hrm.1 hrm.2.1 hw.2.2.2.1 hrm.2.2.1
  refine vx_calli (vx_runSX (As := as.map (zT ad)) (rest := st.map (zT ad)) ⟨hx, hb, hml, hown, hts⟩ hM9 cw ⟨zPc_blind, fun U hU hW => zPc_pre e6 hK e7 hEnv e8 hF hU hW⟩ rfl (by rw [List.length_map]; exact hn) e9.1 (by show ((as.reverse ++ st).map (zT ad)) = _; rw [List.map_append, List.map_reverse]) (lv_room (by rw [zcat_sum]; exact hlo)) hd hrm.2.2.2) e8 (fun q _ h => hF q h) hF (fun q _ h => hF q h) (fun E ce q9 u t H1 locs1 ht hvm hf9 hB hz1 hk1 hS1 c1 c2 c3 => hf9.elim) (fun r9 u t H1 locs1 ht hvm hw9 hB hz1 hk1 hS1 => ?_)
  obtain ⟨b1, b2, b3, b4, b5, b6⟩ := hB
  rw [ht] at b4
  obtain ⟨hr9, hrR⟩ := hw9
  subst hr9
  have k9 := kk x r h3 h2 u H1 locs1 ls (fun i hi => (b1 i (Nat.lt_of_lt_of_le hi e2)).trans (e1 i hi)) (Nat.le_trans e2 b2) b3 (fun q hq => zOk_up (e4 q hq) b2) (zOk_cons hrR (fun v hv => zOk_up (q2 v hv) b2)) b4 ⟨b6.1, fun k q hq => hF _ (b6.2 k q hq)⟩ hS1 (by rw [zlv_ext e4 b1]; exact e9)
  have hs : (zI (res x) :: st).map (zT u) = zT u (zI (res x)) :: st.map (zT ad) := by rw [List.map_cons, zst_ext q2 b1]
  rw [hs] at k9
  exact k9
/-- the script -/
def zscr (K : zK) (b L : Nat) (xs : Nat → Int32) : Prop := va_X b L xs K.2.2.2.2.1 K.2.2.2.2.1.heap ∧ b < K.2.2.2.2.1.heap.size ∧ ¬ K.2.2.2.2.2.2.2.2.2.2.2.2.1 b
def zsc (xs : Nat → Int32) (L : Nat) (i : Int) : Option Int := if 0 ≤ i ∧ i < L then some (xs i.toNat).toInt else none
theorem z_sld {b L : Nat} {xs : Nat → Int32} {i : Int} {f : Int → Option ρ} (X : zX K cc own zALL R0) (hscr : zscr K b L xs) (hd : decode cc pc = .ok (.iaload, 1)) (kk : ∀ v, 0 ≤ i → i < L → zS (f v) G (zJ K cells slots (pc + 1) lv (zI v :: st) hp)) : zS ((zsc xs L i).bind f) G (zJ K cells slots pc lv (zI i :: zA b :: st) hp) := by
  obtain ⟨p, l, e, R, s, m, args, below, meth, c, D, cA, A, Q, nL, ad0, n0⟩ := K
  obtain ⟨hx, hb, hml, hown, hts, hK, hA, hR, hlk, hst9, hEnv⟩ := X
  intro r h1 h2 ad H locs ls e1 e2 e3 e4 e5 e6 e7 e8 e9
  obtain ⟨v, hv, h3⟩ := Option.bind_eq_some_iff.mp h1
  unfold zsc at hv
  by_cases hz : 0 ≤ i ∧ i < L
  · rw [if_pos hz] at hv
    cases hv
    have hiR : inR i := zOk_hd e5
    refine va_sld hx hb hscr.1 hscr.2.1 hscr.2.2 e8 ((z32_in hiR).2 hz) hd ?_
    rw [z32_nat hiR]
    have k9 := kk (xs i.toNat).toInt hz.1 hz.2 r h3 h2 ad H locs ls e1 e2 e3 e4 (zOk_cons ⟨by have := Int32.le_toInt (xs i.toNat); omega, by have := Int32.toInt_lt (xs i.toNat); omega⟩ (zOk_tl (zOk_tl e5))) e6 e7 e8 e9
    have h9 : (zI (xs i.toNat).toInt :: st).map (zT ad) = .int (xs i.toNat) :: st.map (zT ad) := by
      show Value.int (Int32.ofInt (xs i.toNat).toInt) :: _ = _
      rw [Int32.ofInt_toInt]
    rw [h9] at k9
    exact k9
  · rw [if_neg hz] at hv
    cases hv
theorem z_slen {b L : Nat} {xs : Nat → Int32} (X : zX K cc own zALL R0) (hscr : zscr K b L xs) (hL9 : L ≤ 2560) (hd : decode cc pc = .ok (.arraylength, 1)) (kk : zS o G (zJ K cells slots (pc + 1) lv (zI (L : Int) :: st) hp)) : zS o G (zJ K cells slots pc lv (zA b :: st) hp) := by
  obtain ⟨p, l, e, R, s, m, args, below, meth, c, D, cA, A, Q, nL, ad0, n0⟩ := K
  obtain ⟨hx, hb, hml, hown, hts, hK, hA, hR, hlk, hst9, hEnv⟩ := X
  intro r h1 h2 ad H locs ls e1 e2 e3 e4 e5 e6 e7 e8 e9
  refine va_slen hx hb hscr.1 hscr.2.1 hscr.2.2 e8 hd ?_
  exact kk r h1 h2 ad H locs ls e1 e2 e3 e4 (zOk_cons ⟨by omega, by omega⟩ (zOk_tl e5)) e6 e7 e8 e9
theorem z_tswIn {dflt lo hi : Int} {offs : Array Int} {len tgt : Nat} {off a : Int} (k : Int) (hk : a = k) (X : zX K cc own zALL R0) (hd : decode cc pc = .ok (.tableswitch dflt lo hi offs, len)) (h19 : ¬ k < lo) (h29 : ¬ hi < k) (ho : offs[(k - lo).toNat]? = some off) (ht : (pc : Int) + off = (tgt : Int)) (kk : zS o G (zJ K cells slots tgt lv st hp)) : zS o G (zJ K cells slots pc lv (zI a :: st) hp) := by
  obtain ⟨p, l, e, R, s, m, args, below, meth, c, D, cA, A, Q, nL, ad0, n0⟩ := K
  obtain ⟨hx, hb, hml, hown, hts, hK, hA, hR, hlk, hst9, hEnv⟩ := X
  intro r h1 h2 ad H locs ls e1 e2 e3 e4 e5 e6 e7 e8 e9
  subst hk
  have haR : inR a := zOk_hd e5
  refine lv_tableIn (off := off) (tgt := tgt) hx hb hd (by rw [z32_toInt haR]; exact h19) (by rw [z32_toInt haR]; exact h29) (by rw [z32_toInt haR]; exact ho) ht ?_
  exact kk r h1 h2 ad H locs ls e1 e2 e3 e4 (zOk_tl e5) e6 e7 e8 e9
theorem z_tswOut {dflt lo hi : Int} {offs : Array Int} {len tgt : Nat} {a : Int} (X : zX K cc own zALL R0) (hd : decode cc pc = .ok (.tableswitch dflt lo hi offs, len)) (h : a < lo ∨ hi < a) (ht : (pc : Int) + dflt = (tgt : Int)) (kk : zS o G (zJ K cells slots tgt lv st hp)) : zS o G (zJ K cells slots pc lv (zI a :: st) hp) := by
  obtain ⟨p, l, e, R, s, m, args, below, meth, c, D, cA, A, Q, nL, ad0, n0⟩ := K
  obtain ⟨hx, hb, hml, hown, hts, hK, hA, hR, hlk, hst9, hEnv⟩ := X
  intro r h1 h2 ad H locs ls e1 e2 e3 e4 e5 e6 e7 e8 e9
  have haR : inR a := zOk_hd e5
  refine lv_tableOut (tgt := tgt) hx hb hd (by rw [z32_toInt haR]; exact h) ht ?_
  exact kk r h1 h2 ad H locs ls e1 e2 e3 e4 (zOk_tl e5) e6 e7 e8 e9
theorem zop_R (c : Option Ordering) (op : CmpOp) : inR (Op.cmpValue c op).toInt := ⟨by have := Int32.le_toInt (Op.cmpValue c op); omega, by have := Int32.toInt_lt (Op.cmpValue c op); omega⟩
theorem z_dcmp {x y : UInt64} {op : CmpOp} (X : zX K cc own zALL R0) (hd : decode cc pc = .ok (.dcmp op, 1)) (kk : zS o G (zJ K cells slots (pc + 1) lv (zI (Op.cmpValue (FP.dcmp x y) op).toInt :: st) hp)) : zS o G (zJ K cells slots pc lv (zD y :: zD x :: st) hp) := by
  obtain ⟨p, l, e, R, s, m, args, below, meth, c, D, cA, A, Q, nL, ad0, n0⟩ := K
  obtain ⟨hx, hb, hml, hown, hts, hK, hA, hR, hlk, hst9, hEnv⟩ := X
  intro r h1 h2 ad H locs ls e1 e2 e3 e4 e5 e6 e7 e8 e9
  refine lv_dcmp hx hb hd ?_
  have k9 := kk r h1 h2 ad H locs ls e1 e2 e3 e4 (zOk_cons (zop_R _ _) (zOk_tl (zOk_tl e5))) e6 e7 e8 e9
  have h9 : (zI (Op.cmpValue (FP.dcmp x y) op).toInt :: st).map (zT ad) = .int (Op.cmpValue (FP.dcmp x y) op) :: st.map (zT ad) := by
    show Value.int (Int32.ofInt _) :: _ = _
    rw [Int32.ofInt_toInt]
  rw [h9] at k9
  exact k9
theorem z_fcmp {x y : UInt32} {op : CmpOp} (X : zX K cc own zALL R0) (hd : decode cc pc = .ok (.fcmp op, 1)) (kk : zS o G (zJ K cells slots (pc + 1) lv (zI (Op.cmpValue (FP.fcmp x y) op).toInt :: st) hp)) : zS o G (zJ K cells slots pc lv (zF y :: zF x :: st) hp) := by
  obtain ⟨p, l, e, R, s, m, args, below, meth, c, D, cA, A, Q, nL, ad0, n0⟩ := K
  obtain ⟨hx, hb, hml, hown, hts, hK, hA, hR, hlk, hst9, hEnv⟩ := X
  intro r h1 h2 ad H locs ls e1 e2 e3 e4 e5 e6 e7 e8 e9
  refine lv_fcmp hx hb hd ?_
  have k9 := kk r h1 h2 ad H locs ls e1 e2 e3 e4 (zOk_cons (zop_R _ _) (zOk_tl (zOk_tl e5))) e6 e7 e8 e9
  have h9 : (zI (Op.cmpValue (FP.fcmp x y) op).toInt :: st).map (zT ad) = .int (Op.cmpValue (FP.fcmp x y) op) :: st.map (zT ad) := by
    show Value.int (Int32.ofInt _) :: _ = _
    rw [Int32.ofInt_toInt]
  rw [h9] at k9
  exact k9
end zLaw0
