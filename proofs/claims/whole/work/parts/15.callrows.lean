/-! CALL ROWS -/
section zCallRows
variable {ρ : Type} {o : Option ρ} {G : ρ → Prop} {K : zK} {cc : ByteArray} {own : String} {R0 : Room} {cells slots pc : Nat} {lv : List (Nat × zPV)} {st : List zPV} {hp : zH}
theorem zst_app {n : Nat} {as st : List zPV} (h : ∀ v ∈ as.reverse ++ st, zOk n v) : (∀ v ∈ as, zOk n v) ∧ ∀ v ∈ st, zOk n v := ⟨fun v hv => h v (List.mem_append_left _ (List.mem_reverse.2 hv)), fun v hv => h v (List.mem_append_right _ hv)⟩

theorem z_callV_i {ε : Type} {o1 : Option ε} {f : ε → Option ρ} {res : ε → Int} {hp2 : ε → zH} {y : MethodName} {bytes : ByteArray} {maxL mc ms idx n : Nat} {ret : Option FieldType} {rm : Room} {ci N : Nat} {C : String} {T : u_T} {r0 : Option Nat} {stk : List zPV} (as : List zPV) (X : zX K cc own zALL R0) (hd : decode cc pc = .ok (.invokevirtual idx, 3)) (hM : ∀ x, o1 = some x → zMi y (Cond.code y bytes maxL ret :: zALL) rm mc ms (zR r0 :: as) hp (res x) (hp2 x)) (hw : zkV own idx C y bytes maxL ret n) (hn : as.length = n) (hc : vwCl[ci]? = some (C, T, N)) (hrm : zrm rm R0 mc ms maxL cells slots) (hlo : (st.map zcat).sum ≤ 8) (hstk : stk = as.reverse ++ zR r0 :: st)
    (kk : ∀ x, zS (f x) G (zJ K (cells + mc) (slots + ms) (pc + 3) lv (zI (res x) :: st) (hp2 x))) : zS (((zobj hp r0 ci).bind fun _ => o1).bind f) G (zJ K cells slots pc lv stk hp) := by
  obtain ⟨p, l, e, R, s, m, args, below, meth, c, D, cA, A, Q, nL, ad0, n0⟩ := K
  obtain ⟨hx, hb, hml, hown, hts, hK, hA, hR, hlk, hst9, hEnv⟩ := X
  intro r h1 h2 ad H locs ls e1 e2 e3 e4 e5 e6 e7 e8 e9
  subst hR
  subst hstk
  obtain ⟨x, hx1, h3⟩ := Option.bind_eq_some_iff.mp h1
  clear h1
  obtain ⟨⟨b, fs⟩, ho, hx2⟩ := Option.bind_eq_some_iff.mp hx1
  clear hx1
  obtain ⟨hr0, hb0⟩ := zobj_some ho
  clear ho
  subst hr0
  obtain ⟨q1, q2⟩ := zst_app e5
  have hM9 := hM x hx2 l hst9 D cA ad H.size e3 (zOk_cons (zOk_hd q2) q1)
  have q2 := zOk_tl q2
  have hF := zfree e7 e8 hA
  refine va_calli (va_runV (As := as.map (zT ad)) (rest := st.map (zT ad)) (b := ad b) ⟨hx, hb, hml, hown, hts⟩ hM9 ⟨zCallB hts hw.1 hrm, hts _ hw.2.1, hts _ hw.2.2⟩ ⟨zPc_blind, va_recv hK e6 hc (q0 := b) (fs := fs.map (zT ad)) (zW_at hb0), fun U hU hW => zPc_pre e6 hK e7 hEnv e8 hF hU hW⟩ rfl (by rw [List.length_map]; exact hn) e9.1 (by show ((as.reverse ++ zR (some b) :: st).map (zT ad)) = _; rw [List.map_append, List.map_reverse]; rfl) (lv_room (by rw [zcat_sum]; exact hlo)) hd hrm.2.2.2) e8 (fun q _ h => hF q h) hF (fun r9 u t H1 locs1 ht hvm hw9 hB hz1 hk1 hS1 => ?_)
  obtain ⟨b1, b2, b3, b4, b5, b6⟩ := hB
  rw [ht] at b4
  obtain ⟨hr9, hrR⟩ := hw9
  subst hr9
  have k9 := kk x r h3 h2 u H1 locs1 ls (fun i hi => (b1 i (Nat.lt_of_lt_of_le hi e2)).trans (e1 i hi)) (Nat.le_trans e2 b2) b3 (fun q hq => zOk_up (e4 q hq) b2) (zOk_cons hrR (fun v hv => zOk_up (q2 v hv) b2)) b4 ⟨b6.1, fun k q hq => hF _ (b6.2 k q hq)⟩ hS1 (by rw [zlv_ext e4 b1]; exact e9)
  have hs : (zI (res x) :: st).map (zT u) = zT u (zI (res x)) :: st.map (zT ad) := by rw [List.map_cons, zst_ext q2 b1]
  rw [hs] at k9
  exact k9
theorem z_callV_l {ε : Type} {o1 : Option ε} {f : ε → Option ρ} {res : ε → Int64} {hp2 : ε → zH} {y : MethodName} {bytes : ByteArray} {maxL mc ms idx n : Nat} {ret : Option FieldType} {rm : Room} {ci N : Nat} {C : String} {T : u_T} {r0 : Option Nat} {stk : List zPV} (as : List zPV) (X : zX K cc own zALL R0) (hd : decode cc pc = .ok (.invokevirtual idx, 3)) (hM : ∀ x, o1 = some x → zMl y (Cond.code y bytes maxL ret :: zALL) rm mc ms (zR r0 :: as) hp (res x) (hp2 x)) (hw : zkV own idx C y bytes maxL ret n) (hn : as.length = n) (hc : vwCl[ci]? = some (C, T, N)) (hrm : zrm rm R0 mc ms maxL cells slots) (hlo : (st.map zcat).sum ≤ 8) (hstk : stk = as.reverse ++ zR r0 :: st)
    (kk : ∀ x, zS (f x) G (zJ K (cells + mc) (slots + ms) (pc + 3) lv (zL (res x) :: st) (hp2 x))) : zS (((zobj hp r0 ci).bind fun _ => o1).bind f) G (zJ K cells slots pc lv stk hp) := by
  obtain ⟨p, l, e, R, s, m, args, below, meth, c, D, cA, A, Q, nL, ad0, n0⟩ := K
  obtain ⟨hx, hb, hml, hown, hts, hK, hA, hR, hlk, hst9, hEnv⟩ := X
  intro r h1 h2 ad H locs ls e1 e2 e3 e4 e5 e6 e7 e8 e9
  subst hR
  subst hstk
  obtain ⟨x, hx1, h3⟩ := Option.bind_eq_some_iff.mp h1
  clear h1
  obtain ⟨⟨b, fs⟩, ho, hx2⟩ := Option.bind_eq_some_iff.mp hx1
  clear hx1
  obtain ⟨hr0, hb0⟩ := zobj_some ho
  clear ho
  subst hr0
  obtain ⟨q1, q2⟩ := zst_app e5
  have hM9 := hM x hx2 l hst9 D cA ad H.size e3 (zOk_cons (zOk_hd q2) q1)
  have q2 := zOk_tl q2
  have hF := zfree e7 e8 hA
  refine va_calll (va_runV (As := as.map (zT ad)) (rest := st.map (zT ad)) (b := ad b) ⟨hx, hb, hml, hown, hts⟩ hM9 ⟨zCallB hts hw.1 hrm, hts _ hw.2.1, hts _ hw.2.2⟩ ⟨zPc_blind, va_recv hK e6 hc (q0 := b) (fs := fs.map (zT ad)) (zW_at hb0), fun U hU hW => zPc_pre e6 hK e7 hEnv e8 hF hU hW⟩ rfl (by rw [List.length_map]; exact hn) e9.1 (by show ((as.reverse ++ zR (some b) :: st).map (zT ad)) = _; rw [List.map_append, List.map_reverse]; rfl) (lv_room (by rw [zcat_sum]; exact hlo)) hd hrm.2.2.2) e8 (fun q _ h => hF q h) hF (fun r9 u t H1 locs1 ht hvm hw9 hB hz1 hk1 hS1 => ?_)
  obtain ⟨b1, b2, b3, b4, b5, b6⟩ := hB
  rw [ht] at b4
  have hr9 : r9 = res x := hw9
  subst hr9
  have k9 := kk x r h3 h2 u H1 locs1 ls (fun i hi => (b1 i (Nat.lt_of_lt_of_le hi e2)).trans (e1 i hi)) (Nat.le_trans e2 b2) b3 (fun q hq => zOk_up (e4 q hq) b2) (zOk_cons trivial (fun v hv => zOk_up (q2 v hv) b2)) b4 ⟨b6.1, fun k q hq => hF _ (b6.2 k q hq)⟩ hS1 (by rw [zlv_ext e4 b1]; exact e9)
  have hs : (zL (res x) :: st).map (zT u) = zT u (zL (res x)) :: st.map (zT ad) := by rw [List.map_cons, zst_ext q2 b1]
  rw [hs] at k9
  exact k9
theorem z_callV_f {ε : Type} {o1 : Option ε} {f : ε → Option ρ} {res : ε → UInt32} {hp2 : ε → zH} {y : MethodName} {bytes : ByteArray} {maxL mc ms idx n : Nat} {ret : Option FieldType} {rm : Room} {ci N : Nat} {C : String} {T : u_T} {r0 : Option Nat} {stk : List zPV} (as : List zPV) (X : zX K cc own zALL R0) (hd : decode cc pc = .ok (.invokevirtual idx, 3)) (hM : ∀ x, o1 = some x → zMf y (Cond.code y bytes maxL ret :: zALL) rm mc ms (zR r0 :: as) hp (res x) (hp2 x)) (hw : zkV own idx C y bytes maxL ret n) (hn : as.length = n) (hc : vwCl[ci]? = some (C, T, N)) (hrm : zrm rm R0 mc ms maxL cells slots) (hlo : (st.map zcat).sum ≤ 8) (hstk : stk = as.reverse ++ zR r0 :: st)
    (kk : ∀ x, zS (f x) G (zJ K (cells + mc) (slots + ms) (pc + 3) lv (zF (res x) :: st) (hp2 x))) : zS (((zobj hp r0 ci).bind fun _ => o1).bind f) G (zJ K cells slots pc lv stk hp) := by
  obtain ⟨p, l, e, R, s, m, args, below, meth, c, D, cA, A, Q, nL, ad0, n0⟩ := K
  obtain ⟨hx, hb, hml, hown, hts, hK, hA, hR, hlk, hst9, hEnv⟩ := X
  intro r h1 h2 ad H locs ls e1 e2 e3 e4 e5 e6 e7 e8 e9
  subst hR
  subst hstk
  obtain ⟨x, hx1, h3⟩ := Option.bind_eq_some_iff.mp h1
  clear h1
  obtain ⟨⟨b, fs⟩, ho, hx2⟩ := Option.bind_eq_some_iff.mp hx1
  clear hx1
  obtain ⟨hr0, hb0⟩ := zobj_some ho
  clear ho
  subst hr0
  obtain ⟨q1, q2⟩ := zst_app e5
  have hM9 := hM x hx2 l hst9 D cA ad H.size e3 (zOk_cons (zOk_hd q2) q1)
  have q2 := zOk_tl q2
  have hF := zfree e7 e8 hA
  refine va_callf (va_runV (As := as.map (zT ad)) (rest := st.map (zT ad)) (b := ad b) ⟨hx, hb, hml, hown, hts⟩ hM9 ⟨zCallB hts hw.1 hrm, hts _ hw.2.1, hts _ hw.2.2⟩ ⟨zPc_blind, va_recv hK e6 hc (q0 := b) (fs := fs.map (zT ad)) (zW_at hb0), fun U hU hW => zPc_pre e6 hK e7 hEnv e8 hF hU hW⟩ rfl (by rw [List.length_map]; exact hn) e9.1 (by show ((as.reverse ++ zR (some b) :: st).map (zT ad)) = _; rw [List.map_append, List.map_reverse]; rfl) (lv_room (by rw [zcat_sum]; exact hlo)) hd hrm.2.2.2) e8 (fun q _ h => hF q h) hF (fun r9 u t H1 locs1 ht hvm hw9 hB hz1 hk1 hS1 => ?_)
  obtain ⟨b1, b2, b3, b4, b5, b6⟩ := hB
  rw [ht] at b4
  have hr9 : r9 = res x := hw9
  subst hr9
  have k9 := kk x r h3 h2 u H1 locs1 ls (fun i hi => (b1 i (Nat.lt_of_lt_of_le hi e2)).trans (e1 i hi)) (Nat.le_trans e2 b2) b3 (fun q hq => zOk_up (e4 q hq) b2) (zOk_cons trivial (fun v hv => zOk_up (q2 v hv) b2)) b4 ⟨b6.1, fun k q hq => hF _ (b6.2 k q hq)⟩ hS1 (by rw [zlv_ext e4 b1]; exact e9)
  have hs : (zF (res x) :: st).map (zT u) = zT u (zF (res x)) :: st.map (zT ad) := by rw [List.map_cons, zst_ext q2 b1]
  rw [hs] at k9
  exact k9
theorem z_callV_d {ε : Type} {o1 : Option ε} {f : ε → Option ρ} {res : ε → UInt64} {hp2 : ε → zH} {y : MethodName} {bytes : ByteArray} {maxL mc ms idx n : Nat} {ret : Option FieldType} {rm : Room} {ci N : Nat} {C : String} {T : u_T} {r0 : Option Nat} {stk : List zPV} (as : List zPV) (X : zX K cc own zALL R0) (hd : decode cc pc = .ok (.invokevirtual idx, 3)) (hM : ∀ x, o1 = some x → zMd y (Cond.code y bytes maxL ret :: zALL) rm mc ms (zR r0 :: as) hp (res x) (hp2 x)) (hw : zkV own idx C y bytes maxL ret n) (hn : as.length = n) (hc : vwCl[ci]? = some (C, T, N)) (hrm : zrm rm R0 mc ms maxL cells slots) (hlo : (st.map zcat).sum ≤ 8) (hstk : stk = as.reverse ++ zR r0 :: st)
    (kk : ∀ x, zS (f x) G (zJ K (cells + mc) (slots + ms) (pc + 3) lv (zD (res x) :: st) (hp2 x))) : zS (((zobj hp r0 ci).bind fun _ => o1).bind f) G (zJ K cells slots pc lv stk hp) := by
  obtain ⟨p, l, e, R, s, m, args, below, meth, c, D, cA, A, Q, nL, ad0, n0⟩ := K
  obtain ⟨hx, hb, hml, hown, hts, hK, hA, hR, hlk, hst9, hEnv⟩ := X
  intro r h1 h2 ad H locs ls e1 e2 e3 e4 e5 e6 e7 e8 e9
  subst hR
  subst hstk
  obtain ⟨x, hx1, h3⟩ := Option.bind_eq_some_iff.mp h1
  clear h1
  obtain ⟨⟨b, fs⟩, ho, hx2⟩ := Option.bind_eq_some_iff.mp hx1
  clear hx1
  obtain ⟨hr0, hb0⟩ := zobj_some ho
  clear ho
  subst hr0
  obtain ⟨q1, q2⟩ := zst_app e5
  have hM9 := hM x hx2 l hst9 D cA ad H.size e3 (zOk_cons (zOk_hd q2) q1)
  have q2 := zOk_tl q2
  have hF := zfree e7 e8 hA
  refine va_calld (va_runV (As := as.map (zT ad)) (rest := st.map (zT ad)) (b := ad b) ⟨hx, hb, hml, hown, hts⟩ hM9 ⟨zCallB hts hw.1 hrm, hts _ hw.2.1, hts _ hw.2.2⟩ ⟨zPc_blind, va_recv hK e6 hc (q0 := b) (fs := fs.map (zT ad)) (zW_at hb0), fun U hU hW => zPc_pre e6 hK e7 hEnv e8 hF hU hW⟩ rfl (by rw [List.length_map]; exact hn) e9.1 (by show ((as.reverse ++ zR (some b) :: st).map (zT ad)) = _; rw [List.map_append, List.map_reverse]; rfl) (lv_room (by rw [zcat_sum]; exact hlo)) hd hrm.2.2.2) e8 (fun q _ h => hF q h) hF (fun r9 u t H1 locs1 ht hvm hw9 hB hz1 hk1 hS1 => ?_)
  obtain ⟨b1, b2, b3, b4, b5, b6⟩ := hB
  rw [ht] at b4
  have hr9 : r9 = res x := hw9
  subst hr9
  have k9 := kk x r h3 h2 u H1 locs1 ls (fun i hi => (b1 i (Nat.lt_of_lt_of_le hi e2)).trans (e1 i hi)) (Nat.le_trans e2 b2) b3 (fun q hq => zOk_up (e4 q hq) b2) (zOk_cons trivial (fun v hv => zOk_up (q2 v hv) b2)) b4 ⟨b6.1, fun k q hq => hF _ (b6.2 k q hq)⟩ hS1 (by rw [zlv_ext e4 b1]; exact e9)
  have hs : (zD (res x) :: st).map (zT u) = zT u (zD (res x)) :: st.map (zT ad) := by rw [List.map_cons, zst_ext q2 b1]
  rw [hs] at k9
  exact k9
theorem z_callV_q {ε : Type} {o1 : Option ε} {f : ε → Option ρ} {res : ε → Option Nat} {hp2 : ε → zH} {y : MethodName} {bytes : ByteArray} {maxL mc ms idx n : Nat} {ret : Option FieldType} {rm : Room} {ci N : Nat} {C : String} {T : u_T} {r0 : Option Nat} {stk : List zPV} (as : List zPV) (X : zX K cc own zALL R0) (hd : decode cc pc = .ok (.invokevirtual idx, 3)) (hM : ∀ x, o1 = some x → zMq y (Cond.code y bytes maxL ret :: zALL) rm mc ms (zR r0 :: as) hp (res x) (hp2 x)) (hw : zkV own idx C y bytes maxL ret n) (hn : as.length = n) (hc : vwCl[ci]? = some (C, T, N)) (hrm : zrm rm R0 mc ms maxL cells slots) (hlo : (st.map zcat).sum ≤ 8) (hstk : stk = as.reverse ++ zR r0 :: st)
    (kk : ∀ x, zS (f x) G (zJ K (cells + mc) (slots + ms) (pc + 3) lv (zR (res x) :: st) (hp2 x))) : zS (((zobj hp r0 ci).bind fun _ => o1).bind f) G (zJ K cells slots pc lv stk hp) := by
  obtain ⟨p, l, e, R, s, m, args, below, meth, c, D, cA, A, Q, nL, ad0, n0⟩ := K
  obtain ⟨hx, hb, hml, hown, hts, hK, hA, hR, hlk, hst9, hEnv⟩ := X
  intro r h1 h2 ad H locs ls e1 e2 e3 e4 e5 e6 e7 e8 e9
  subst hR
  subst hstk
  obtain ⟨x, hx1, h3⟩ := Option.bind_eq_some_iff.mp h1
  clear h1
  obtain ⟨⟨b, fs⟩, ho, hx2⟩ := Option.bind_eq_some_iff.mp hx1
  clear hx1
  obtain ⟨hr0, hb0⟩ := zobj_some ho
  clear ho
  subst hr0
  obtain ⟨q1, q2⟩ := zst_app e5
  have hM9 := hM x hx2 l hst9 D cA ad H.size e3 (zOk_cons (zOk_hd q2) q1)
  have q2 := zOk_tl q2
  have hF := zfree e7 e8 hA
  refine va_callq (va_runV (As := as.map (zT ad)) (rest := st.map (zT ad)) (b := ad b) ⟨hx, hb, hml, hown, hts⟩ hM9 ⟨zCallB hts hw.1 hrm, hts _ hw.2.1, hts _ hw.2.2⟩ ⟨zPc_blind, va_recv hK e6 hc (q0 := b) (fs := fs.map (zT ad)) (zW_at hb0), fun U hU hW => zPc_pre e6 hK e7 hEnv e8 hF hU hW⟩ rfl (by rw [List.length_map]; exact hn) e9.1 (by show ((as.reverse ++ zR (some b) :: st).map (zT ad)) = _; rw [List.map_append, List.map_reverse]; rfl) (lv_room (by rw [zcat_sum]; exact hlo)) hd hrm.2.2.2) e8 (fun q _ h => hF q h) hF (fun r9 u t H1 locs1 ht hvm hw9 hB hz1 hk1 hS1 => ?_)
  obtain ⟨b1, b2, b3, b4, b5, b6⟩ := hB
  rw [ht] at b4
  obtain ⟨hr9, hrR⟩ := hw9
  subst hr9
  have k9 := kk x r h3 h2 u H1 locs1 ls (fun i hi => (b1 i (Nat.lt_of_lt_of_le hi e2)).trans (e1 i hi)) (Nat.le_trans e2 b2) b3 (fun q hq => zOk_up (e4 q hq) b2) (zOk_cons hrR (fun v hv => zOk_up (q2 v hv) b2)) b4 ⟨b6.1, fun k q hq => hF _ (b6.2 k q hq)⟩ hS1 (by rw [zlv_ext e4 b1]; exact e9)
  have hs : (zR (res x) :: st).map (zT u) = zT u (zR (res x)) :: st.map (zT ad) := by rw [List.map_cons, zst_ext q2 b1]
  rw [hs] at k9
  exact k9
theorem z_callV_v {ε : Type} {o1 : Option ε} {f : ε → Option ρ} {hp2 : ε → zH} {y : MethodName} {bytes : ByteArray} {maxL mc ms idx n : Nat} {ret : Option FieldType} {rm : Room} {ci N : Nat} {C : String} {T : u_T} {r0 : Option Nat} {stk : List zPV} (as : List zPV) (X : zX K cc own zALL R0) (hd : decode cc pc = .ok (.invokevirtual idx, 3)) (hM : ∀ x, o1 = some x → zMv y (Cond.code y bytes maxL ret :: zALL) rm mc ms (zR r0 :: as) hp (hp2 x)) (hw : zkV own idx C y bytes maxL ret n) (hn : as.length = n) (hc : vwCl[ci]? = some (C, T, N)) (hrm : zrm rm R0 mc ms maxL cells slots) (hlo : (st.map zcat).sum ≤ 8) (hstk : stk = as.reverse ++ zR r0 :: st)
    (kk : ∀ x, zS (f x) G (zJ K (cells + mc) (slots + ms) (pc + 3) lv st (hp2 x))) : zS (((zobj hp r0 ci).bind fun _ => o1).bind f) G (zJ K cells slots pc lv stk hp) := by
  obtain ⟨p, l, e, R, s, m, args, below, meth, c, D, cA, A, Q, nL, ad0, n0⟩ := K
  obtain ⟨hx, hb, hml, hown, hts, hK, hA, hR, hlk, hst9, hEnv⟩ := X
  intro r h1 h2 ad H locs ls e1 e2 e3 e4 e5 e6 e7 e8 e9
  subst hR
  subst hstk
  obtain ⟨x, hx1, h3⟩ := Option.bind_eq_some_iff.mp h1
  clear h1
  obtain ⟨⟨b, fs⟩, ho, hx2⟩ := Option.bind_eq_some_iff.mp hx1
  clear hx1
  obtain ⟨hr0, hb0⟩ := zobj_some ho
  clear ho
  subst hr0
  obtain ⟨q1, q2⟩ := zst_app e5
  have hM9 := hM x hx2 l hst9 D cA ad H.size e3 (zOk_cons (zOk_hd q2) q1)
  have q2 := zOk_tl q2
  have hF := zfree e7 e8 hA
  refine va_callv (va_runV (As := as.map (zT ad)) (rest := st.map (zT ad)) (b := ad b) ⟨hx, hb, hml, hown, hts⟩ hM9 ⟨zCallB hts hw.1 hrm, hts _ hw.2.1, hts _ hw.2.2⟩ ⟨zPc_blind, va_recv hK e6 hc (q0 := b) (fs := fs.map (zT ad)) (zW_at hb0), fun U hU hW => zPc_pre e6 hK e7 hEnv e8 hF hU hW⟩ rfl (by rw [List.length_map]; exact hn) e9.1 (by show ((as.reverse ++ zR (some b) :: st).map (zT ad)) = _; rw [List.map_append, List.map_reverse]; rfl) (lv_room (by rw [zcat_sum]; exact hlo)) hd hrm.2.2.2) e8 (fun q _ h => hF q h) hF (fun u t H1 locs1 ht hvm hw9 hB hz1 hk1 hS1 => ?_)
  obtain ⟨b1, b2, b3, b4, b5, b6⟩ := hB
  rw [ht] at b4
  have k9 := kk x r h3 h2 u H1 locs1 ls (fun i hi => (b1 i (Nat.lt_of_lt_of_le hi e2)).trans (e1 i hi)) (Nat.le_trans e2 b2) b3 (fun q hq => zOk_up (e4 q hq) b2) (fun v hv => zOk_up (q2 v hv) b2) b4 ⟨b6.1, fun k q hq => hF _ (b6.2 k q hq)⟩ hS1 (by rw [zlv_ext e4 b1]; exact e9)
  rw [zst_ext q2 b1] at k9
  exact k9
theorem z_callS_i {ε : Type} {o1 : Option ε} {f : ε → Option ρ} {res : ε → Int} {hp2 : ε → zH} {y : MethodName} {bytes : ByteArray} {maxL mc ms idx n : Nat} {ret : Option FieldType} {rm : Room} {stk : List zPV} (as : List zPV) (X : zX K cc own zALL R0) (hd : decode cc pc = .ok (.invokestatic idx, 3)) (hM : ∀ x, o1 = some x → zMi y (Cond.code y bytes maxL ret :: zALL) rm mc ms as hp (res x) (hp2 x)) (hw : zkS own idx y bytes maxL ret n) (hn : as.length = n) (hrm : zrm rm R0 mc ms maxL cells slots) (hlo : (st.map zcat).sum ≤ 8) (hstk : stk = as.reverse ++ st)
    (kk : ∀ x, zS (f x) G (zJ K (cells + mc) (slots + ms) (pc + 3) lv (zI (res x) :: st) (hp2 x))) : zS (o1.bind f) G (zJ K cells slots pc lv stk hp) := by
  obtain ⟨p, l, e, R, s, m, args, below, meth, c, D, cA, A, Q, nL, ad0, n0⟩ := K
  obtain ⟨hx, hb, hml, hown, hts, hK, hA, hR, hlk, hst9, hEnv⟩ := X
  intro r h1 h2 ad H locs ls e1 e2 e3 e4 e5 e6 e7 e8 e9
  subst hR
  subst hstk
  obtain ⟨x, hx1, h3⟩ := Option.bind_eq_some_iff.mp h1
  clear h1
  obtain ⟨q1, q2⟩ := zst_app e5
  have hM9 := hM x hx1 l hst9 D cA ad H.size e3 q1
  have hF := zfree e7 e8 hA
  refine va_calli (va_runS (As := as.map (zT ad)) (rest := st.map (zT ad)) ⟨hx, hb, hml, hown, hts⟩ hM9 ⟨zCallB hts hw.1 hrm, hts _ hw.2⟩ ⟨zPc_blind, fun U hU hW => zPc_pre e6 hK e7 hEnv e8 hF hU hW⟩ rfl (by rw [List.length_map]; exact hn) e9.1 (by show ((as.reverse ++ st).map (zT ad)) = _; rw [List.map_append, List.map_reverse]) (lv_room (by rw [zcat_sum]; exact hlo)) hd hrm.2.2.2) e8 (fun q _ h => hF q h) hF (fun r9 u t H1 locs1 ht hvm hw9 hB hz1 hk1 hS1 => ?_)
  obtain ⟨b1, b2, b3, b4, b5, b6⟩ := hB
  rw [ht] at b4
  obtain ⟨hr9, hrR⟩ := hw9
  subst hr9
  have k9 := kk x r h3 h2 u H1 locs1 ls (fun i hi => (b1 i (Nat.lt_of_lt_of_le hi e2)).trans (e1 i hi)) (Nat.le_trans e2 b2) b3 (fun q hq => zOk_up (e4 q hq) b2) (zOk_cons hrR (fun v hv => zOk_up (q2 v hv) b2)) b4 ⟨b6.1, fun k q hq => hF _ (b6.2 k q hq)⟩ hS1 (by rw [zlv_ext e4 b1]; exact e9)
  have hs : (zI (res x) :: st).map (zT u) = zT u (zI (res x)) :: st.map (zT ad) := by rw [List.map_cons, zst_ext q2 b1]
  rw [hs] at k9
  exact k9
theorem z_callS_l {ε : Type} {o1 : Option ε} {f : ε → Option ρ} {res : ε → Int64} {hp2 : ε → zH} {y : MethodName} {bytes : ByteArray} {maxL mc ms idx n : Nat} {ret : Option FieldType} {rm : Room} {stk : List zPV} (as : List zPV) (X : zX K cc own zALL R0) (hd : decode cc pc = .ok (.invokestatic idx, 3)) (hM : ∀ x, o1 = some x → zMl y (Cond.code y bytes maxL ret :: zALL) rm mc ms as hp (res x) (hp2 x)) (hw : zkS own idx y bytes maxL ret n) (hn : as.length = n) (hrm : zrm rm R0 mc ms maxL cells slots) (hlo : (st.map zcat).sum ≤ 8) (hstk : stk = as.reverse ++ st)
    (kk : ∀ x, zS (f x) G (zJ K (cells + mc) (slots + ms) (pc + 3) lv (zL (res x) :: st) (hp2 x))) : zS (o1.bind f) G (zJ K cells slots pc lv stk hp) := by
  obtain ⟨p, l, e, R, s, m, args, below, meth, c, D, cA, A, Q, nL, ad0, n0⟩ := K
  obtain ⟨hx, hb, hml, hown, hts, hK, hA, hR, hlk, hst9, hEnv⟩ := X
  intro r h1 h2 ad H locs ls e1 e2 e3 e4 e5 e6 e7 e8 e9
  subst hR
  subst hstk
  obtain ⟨x, hx1, h3⟩ := Option.bind_eq_some_iff.mp h1
  clear h1
  obtain ⟨q1, q2⟩ := zst_app e5
  have hM9 := hM x hx1 l hst9 D cA ad H.size e3 q1
  have hF := zfree e7 e8 hA
  refine va_calll (va_runS (As := as.map (zT ad)) (rest := st.map (zT ad)) ⟨hx, hb, hml, hown, hts⟩ hM9 ⟨zCallB hts hw.1 hrm, hts _ hw.2⟩ ⟨zPc_blind, fun U hU hW => zPc_pre e6 hK e7 hEnv e8 hF hU hW⟩ rfl (by rw [List.length_map]; exact hn) e9.1 (by show ((as.reverse ++ st).map (zT ad)) = _; rw [List.map_append, List.map_reverse]) (lv_room (by rw [zcat_sum]; exact hlo)) hd hrm.2.2.2) e8 (fun q _ h => hF q h) hF (fun r9 u t H1 locs1 ht hvm hw9 hB hz1 hk1 hS1 => ?_)
  obtain ⟨b1, b2, b3, b4, b5, b6⟩ := hB
  rw [ht] at b4
  have hr9 : r9 = res x := hw9
  subst hr9
  have k9 := kk x r h3 h2 u H1 locs1 ls (fun i hi => (b1 i (Nat.lt_of_lt_of_le hi e2)).trans (e1 i hi)) (Nat.le_trans e2 b2) b3 (fun q hq => zOk_up (e4 q hq) b2) (zOk_cons trivial (fun v hv => zOk_up (q2 v hv) b2)) b4 ⟨b6.1, fun k q hq => hF _ (b6.2 k q hq)⟩ hS1 (by rw [zlv_ext e4 b1]; exact e9)
  have hs : (zL (res x) :: st).map (zT u) = zT u (zL (res x)) :: st.map (zT ad) := by rw [List.map_cons, zst_ext q2 b1]
  rw [hs] at k9
  exact k9
theorem z_callS_q {ε : Type} {o1 : Option ε} {f : ε → Option ρ} {res : ε → Option Nat} {hp2 : ε → zH} {y : MethodName} {bytes : ByteArray} {maxL mc ms idx n : Nat} {ret : Option FieldType} {rm : Room} {stk : List zPV} (as : List zPV) (X : zX K cc own zALL R0) (hd : decode cc pc = .ok (.invokestatic idx, 3)) (hM : ∀ x, o1 = some x → zMq y (Cond.code y bytes maxL ret :: zALL) rm mc ms as hp (res x) (hp2 x)) (hw : zkS own idx y bytes maxL ret n) (hn : as.length = n) (hrm : zrm rm R0 mc ms maxL cells slots) (hlo : (st.map zcat).sum ≤ 8) (hstk : stk = as.reverse ++ st)
    (kk : ∀ x, zS (f x) G (zJ K (cells + mc) (slots + ms) (pc + 3) lv (zR (res x) :: st) (hp2 x))) : zS (o1.bind f) G (zJ K cells slots pc lv stk hp) := by
  obtain ⟨p, l, e, R, s, m, args, below, meth, c, D, cA, A, Q, nL, ad0, n0⟩ := K
  obtain ⟨hx, hb, hml, hown, hts, hK, hA, hR, hlk, hst9, hEnv⟩ := X
  intro r h1 h2 ad H locs ls e1 e2 e3 e4 e5 e6 e7 e8 e9
  subst hR
  subst hstk
  obtain ⟨x, hx1, h3⟩ := Option.bind_eq_some_iff.mp h1
  clear h1
  obtain ⟨q1, q2⟩ := zst_app e5
  have hM9 := hM x hx1 l hst9 D cA ad H.size e3 q1
  have hF := zfree e7 e8 hA
  refine va_callq (va_runS (As := as.map (zT ad)) (rest := st.map (zT ad)) ⟨hx, hb, hml, hown, hts⟩ hM9 ⟨zCallB hts hw.1 hrm, hts _ hw.2⟩ ⟨zPc_blind, fun U hU hW => zPc_pre e6 hK e7 hEnv e8 hF hU hW⟩ rfl (by rw [List.length_map]; exact hn) e9.1 (by show ((as.reverse ++ st).map (zT ad)) = _; rw [List.map_append, List.map_reverse]) (lv_room (by rw [zcat_sum]; exact hlo)) hd hrm.2.2.2) e8 (fun q _ h => hF q h) hF (fun r9 u t H1 locs1 ht hvm hw9 hB hz1 hk1 hS1 => ?_)
  obtain ⟨b1, b2, b3, b4, b5, b6⟩ := hB
  rw [ht] at b4
  obtain ⟨hr9, hrR⟩ := hw9
  subst hr9
  have k9 := kk x r h3 h2 u H1 locs1 ls (fun i hi => (b1 i (Nat.lt_of_lt_of_le hi e2)).trans (e1 i hi)) (Nat.le_trans e2 b2) b3 (fun q hq => zOk_up (e4 q hq) b2) (zOk_cons hrR (fun v hv => zOk_up (q2 v hv) b2)) b4 ⟨b6.1, fun k q hq => hF _ (b6.2 k q hq)⟩ hS1 (by rw [zlv_ext e4 b1]; exact e9)
  have hs : (zR (res x) :: st).map (zT u) = zT u (zR (res x)) :: st.map (zT ad) := by rw [List.map_cons, zst_ext q2 b1]
  rw [hs] at k9
  exact k9
theorem z_callS_v {ε : Type} {o1 : Option ε} {f : ε → Option ρ} {hp2 : ε → zH} {y : MethodName} {bytes : ByteArray} {maxL mc ms idx n : Nat} {ret : Option FieldType} {rm : Room} {stk : List zPV} (as : List zPV) (X : zX K cc own zALL R0) (hd : decode cc pc = .ok (.invokestatic idx, 3)) (hM : ∀ x, o1 = some x → zMv y (Cond.code y bytes maxL ret :: zALL) rm mc ms as hp (hp2 x)) (hw : zkS own idx y bytes maxL ret n) (hn : as.length = n) (hrm : zrm rm R0 mc ms maxL cells slots) (hlo : (st.map zcat).sum ≤ 8) (hstk : stk = as.reverse ++ st)
    (kk : ∀ x, zS (f x) G (zJ K (cells + mc) (slots + ms) (pc + 3) lv st (hp2 x))) : zS (o1.bind f) G (zJ K cells slots pc lv stk hp) := by
  obtain ⟨p, l, e, R, s, m, args, below, meth, c, D, cA, A, Q, nL, ad0, n0⟩ := K
  obtain ⟨hx, hb, hml, hown, hts, hK, hA, hR, hlk, hst9, hEnv⟩ := X
  intro r h1 h2 ad H locs ls e1 e2 e3 e4 e5 e6 e7 e8 e9
  subst hR
  subst hstk
  obtain ⟨x, hx1, h3⟩ := Option.bind_eq_some_iff.mp h1
  clear h1
  obtain ⟨q1, q2⟩ := zst_app e5
  have hM9 := hM x hx1 l hst9 D cA ad H.size e3 q1
  have hF := zfree e7 e8 hA
  refine va_callv (va_runS (As := as.map (zT ad)) (rest := st.map (zT ad)) ⟨hx, hb, hml, hown, hts⟩ hM9 ⟨zCallB hts hw.1 hrm, hts _ hw.2⟩ ⟨zPc_blind, fun U hU hW => zPc_pre e6 hK e7 hEnv e8 hF hU hW⟩ rfl (by rw [List.length_map]; exact hn) e9.1 (by show ((as.reverse ++ st).map (zT ad)) = _; rw [List.map_append, List.map_reverse]) (lv_room (by rw [zcat_sum]; exact hlo)) hd hrm.2.2.2) e8 (fun q _ h => hF q h) hF (fun u t H1 locs1 ht hvm hw9 hB hz1 hk1 hS1 => ?_)
  obtain ⟨b1, b2, b3, b4, b5, b6⟩ := hB
  rw [ht] at b4
  have k9 := kk x r h3 h2 u H1 locs1 ls (fun i hi => (b1 i (Nat.lt_of_lt_of_le hi e2)).trans (e1 i hi)) (Nat.le_trans e2 b2) b3 (fun q hq => zOk_up (e4 q hq) b2) (fun v hv => zOk_up (q2 v hv) b2) b4 ⟨b6.1, fun k q hq => hF _ (b6.2 k q hq)⟩ hS1 (by rw [zlv_ext e4 b1]; exact e9)
  rw [zst_ext q2 b1] at k9
  exact k9
theorem z_callN_i {ε : Type} {o1 : Option ε} {f : ε → Option ρ} {res : ε → Int} {hp2 : ε → zH} {y : MethodName} {bytes : ByteArray} {maxL mc ms idx n : Nat} {ret : Option FieldType} {rm : Room} {host : String} {stk : List zPV} (as : List zPV) (X : zX K cc own zALL R0) (hd : decode cc pc = .ok (.invokestatic idx, 3)) (hM : ∀ x, o1 = some x → zMi y (Cond.code y bytes maxL ret :: zALL) rm mc ms as hp (res x) (hp2 x)) (hw : zkN own idx y host bytes maxL ret n) (hn : as.length = n) (hrm : zrm rm R0 mc ms maxL cells slots) (hlo : (st.map zcat).sum ≤ 8) (hstk : stk = as.reverse ++ st)
    (kk : ∀ x, zS (f x) G (zJ K (cells + mc) (slots + ms) (pc + 3) lv (zI (res x) :: st) (hp2 x))) : zS (o1.bind f) G (zJ K cells slots pc lv stk hp) := by
  obtain ⟨p, l, e, R, s, m, args, below, meth, c, D, cA, A, Q, nL, ad0, n0⟩ := K
  obtain ⟨hx, hb, hml, hown, hts, hK, hA, hR, hlk, hst9, hEnv⟩ := X
  intro r h1 h2 ad H locs ls e1 e2 e3 e4 e5 e6 e7 e8 e9
  subst hR
  subst hstk
  obtain ⟨x, hx1, h3⟩ := Option.bind_eq_some_iff.mp h1
  clear h1
  obtain ⟨q1, q2⟩ := zst_app e5
  have hM9 := hM x hx1 l hst9 D cA ad H.size e3 q1
  have hF := zfree e7 e8 hA
  refine va_calli (va_runSN (As := as.map (zT ad)) (rest := st.map (zT ad)) ⟨hx, hb, hml, hown, hts⟩ hM9 ⟨va_cnB n hts (zgood hw.2.1) rfl hrm.1 hrm.2.1 (hEnv.2.2.1 _ hw.1 rfl) (hts _ hw.2.2.1) hw.2.2.2.1 hrm.2.2.1, hts _ hw.2.2.2.2, trivial⟩ ⟨zPc_blind, fun U hU hW => zPc_pre e6 hK e7 hEnv e8 hF hU hW⟩ rfl (by rw [List.length_map]; exact hn) e9.1 (by show ((as.reverse ++ st).map (zT ad)) = _; rw [List.map_append, List.map_reverse]) (lv_room (by rw [zcat_sum]; exact hlo)) hd hrm.2.2.2) e8 (fun q _ h => hF q h) hF (fun r9 u t H1 locs1 ht hvm hw9 hB hz1 hk1 hS1 => ?_)
  obtain ⟨b1, b2, b3, b4, b5, b6⟩ := hB
  rw [ht] at b4
  obtain ⟨hr9, hrR⟩ := hw9
  subst hr9
  have k9 := kk x r h3 h2 u H1 locs1 ls (fun i hi => (b1 i (Nat.lt_of_lt_of_le hi e2)).trans (e1 i hi)) (Nat.le_trans e2 b2) b3 (fun q hq => zOk_up (e4 q hq) b2) (zOk_cons hrR (fun v hv => zOk_up (q2 v hv) b2)) b4 ⟨b6.1, fun k q hq => hF _ (b6.2 k q hq)⟩ hS1 (by rw [zlv_ext e4 b1]; exact e9)
  have hs : (zI (res x) :: st).map (zT u) = zT u (zI (res x)) :: st.map (zT ad) := by rw [List.map_cons, zst_ext q2 b1]
  rw [hs] at k9
  exact k9
theorem z_callI_v {ε : Type} {o1 : Option ε} {f : ε → Option ρ} {hp2 : ε → zH} {y : MethodName} {bytes : ByteArray} {maxL mc ms idx n : Nat} {rm : Room} {ci N : Nat} {C : String} {T : u_T} {r0 : Option Nat} {stk : List zPV} (as : List zPV) (X : zX K cc own zALL R0) (hd : decode cc pc = .ok (.invokespecial idx, 3)) (hM : ∀ x, o1 = some x → zMv y (Cond.code y bytes maxL none :: zALL) rm mc ms (zR r0 :: as) hp (hp2 x)) (hw : zkI own idx y bytes maxL n) (hn : as.length = n) (hc : vwCl[ci]? = some (C, T, N)) (hrm : zrm rm R0 mc ms maxL cells slots) (hlo : (st.map zcat).sum ≤ 8) (hstk : stk = as.reverse ++ zR r0 :: st)
    (kk : ∀ x, zS (f x) G (zJ K (cells + mc) (slots + ms) (pc + 3) lv st (hp2 x))) : zS (((zobj hp r0 ci).bind fun _ => o1).bind f) G (zJ K cells slots pc lv stk hp) := by
  obtain ⟨p, l, e, R, s, m, args, below, meth, c, D, cA, A, Q, nL, ad0, n0⟩ := K
  obtain ⟨hx, hb, hml, hown, hts, hK, hA, hR, hlk, hst9, hEnv⟩ := X
  intro r h1 h2 ad H locs ls e1 e2 e3 e4 e5 e6 e7 e8 e9
  subst hR
  subst hstk
  obtain ⟨x, hx1, h3⟩ := Option.bind_eq_some_iff.mp h1
  clear h1
  obtain ⟨⟨b, fs⟩, ho, hx2⟩ := Option.bind_eq_some_iff.mp hx1
  clear hx1
  obtain ⟨hr0, hb0⟩ := zobj_some ho
  clear ho
  subst hr0
  obtain ⟨q1, q2⟩ := zst_app e5
  have hM9 := hM x hx2 l hst9 D cA ad H.size e3 (zOk_cons (zOk_hd q2) q1)
  have q2 := zOk_tl q2
  have hF := zfree e7 e8 hA
  refine va_callv (va_runI (As := as.map (zT ad)) (rest := st.map (zT ad)) (b := ad b) ⟨hx, hb, hml, hown, hts⟩ hM9 ⟨zCallB hts hw.1 hrm, hw.2.1, hts _ hw.2.2⟩ ⟨zPc_blind, fun U hU hW => zPc_pre e6 hK e7 hEnv e8 hF hU hW⟩ rfl (by rw [List.length_map]; exact hn) e9.1 (by show ((as.reverse ++ zR (some b) :: st).map (zT ad)) = _; rw [List.map_append, List.map_reverse]; rfl) (lv_room (by rw [zcat_sum]; exact hlo)) hd hrm.2.2.2) e8 (fun q _ h => hF q h) hF (fun u t H1 locs1 ht hvm hw9 hB hz1 hk1 hS1 => ?_)
  obtain ⟨b1, b2, b3, b4, b5, b6⟩ := hB
  rw [ht] at b4
  have k9 := kk x r h3 h2 u H1 locs1 ls (fun i hi => (b1 i (Nat.lt_of_lt_of_le hi e2)).trans (e1 i hi)) (Nat.le_trans e2 b2) b3 (fun q hq => zOk_up (e4 q hq) b2) (fun v hv => zOk_up (q2 v hv) b2) b4 ⟨b6.1, fun k q hq => hF _ (b6.2 k q hq)⟩ hS1 (by rw [zlv_ext e4 b1]; exact e9)
  rw [zst_ext q2 b1] at k9
  exact k9
theorem z_callXV_i {ε : Type} {o1 : Option ε} {f : ε → Option ρ} {res : ε → Int ⊕ Nat} {hp2 : ε → zH} {y : MethodName} {bytes : ByteArray} {maxL mc ms idx n : Nat} {ret : Option FieldType} {rm : Room} {ci N : Nat} {C : String} {T : u_T} {r0 : Option Nat} {stk : List zPV} (as : List zPV) (X : zX K cc own zALL R0) (hd : decode cc pc = .ok (.invokevirtual idx, 3)) (hM : ∀ x, o1 = some x → zXi y (Cond.code y bytes maxL ret :: zALL) rm mc ms (zR r0 :: as) hp (res x) (hp2 x)) (hw : zkV own idx C y bytes maxL ret n) (hn : as.length = n) (hc : vwCl[ci]? = some (C, T, N)) (hrm : zrm rm R0 mc ms maxL cells slots) (hlo : (st.map zcat).sum ≤ 8) (hstk : stk = as.reverse ++ zR r0 :: st)
    (kk : ∀ x z, res x = .inl z → zS (f x) G (zJ K (cells + mc) (slots + ms) (pc + 3) lv (zI z :: st) (hp2 x))) (kx : ∀ x k, res x = .inr k → zS (f x) G (zE K (cells + mc) (slots + ms) pc lv k (hp2 x))) : zS (((zobj hp r0 ci).bind fun _ => o1).bind f) G (zJ K cells slots pc lv stk hp) := by
  obtain ⟨p, l, e, R, s, m, args, below, meth, c, D, cA, A, Q, nL, ad0, n0⟩ := K
  obtain ⟨hx, hb, hml, hown, hts, hK, hA, hR, hlk, hst9, hEnv⟩ := X
  intro r h1 h2 ad H locs ls e1 e2 e3 e4 e5 e6 e7 e8 e9
  subst hR
  subst hstk
  obtain ⟨x, hx1, h3⟩ := Option.bind_eq_some_iff.mp h1
  clear h1
  obtain ⟨⟨b, fs⟩, ho, hx2⟩ := Option.bind_eq_some_iff.mp hx1
  clear hx1
  obtain ⟨hr0, hb0⟩ := zobj_some ho
  clear ho
  subst hr0
  obtain ⟨q1, q2⟩ := zst_app e5
  have hM9 := hM x hx2 l hst9 D cA ad H.size e3 (zOk_cons (zOk_hd q2) q1)
  have q2 := zOk_tl q2
  have hF := zfree e7 e8 hA
  refine vx_calli (vx_runV (As := as.map (zT ad)) (rest := st.map (zT ad)) (b := ad b) ⟨hx, hb, hml, hown, hts⟩ hM9 ⟨zCallB hts hw.1 hrm, hts _ hw.2.1, hts _ hw.2.2⟩ ⟨zPc_blind, va_recv hK e6 hc (q0 := b) (fs := fs.map (zT ad)) (zW_at hb0), fun U hU hW => zPc_pre e6 hK e7 hEnv e8 hF hU hW⟩ rfl (by rw [List.length_map]; exact hn) e9.1 (by show ((as.reverse ++ zR (some b) :: st).map (zT ad)) = _; rw [List.map_append, List.map_reverse]; rfl) (lv_room (by rw [zcat_sum]; exact hlo)) hd hrm.2.2.2) e8 (fun q _ h => hF q h) hF (fun q _ h => hF q h) (fun E ce q9 u t H1 locs1 ht hvm _ hB hz1 hk1 hS1 c1 c2 c3 => ?_) (fun r9 u t H1 locs1 ht hvm hw9 hB hz1 hk1 hS1 => ?_)
  · obtain ⟨⟨k, hk, hE⟩, b1, b2, b3, b4, b5, b6⟩ := hB
    rw [ht] at b4
    subst hE
    exact kx x k hk r h3 h2 u H1 locs1 ls _ q9 ce (fun i hi => (b1 i (Nat.lt_of_lt_of_le hi e2)).trans (e1 i hi)) (Nat.le_trans e2 b2) b3 (fun q hq => zOk_up (e4 q hq) b2) b4 ⟨b6.1, fun k q hq => hF _ (b6.2 k q hq)⟩ hS1 (by rw [zlv_ext e4 b1]; exact e9) c1 c2 c3
  · obtain ⟨b1, b2, b3, b4, b5, b6⟩ := hB
    rw [ht] at b4
    obtain ⟨z, hz, hr9, hrR⟩ := hw9
    subst hr9
    have k9 := kk x z hz r h3 h2 u H1 locs1 ls (fun i hi => (b1 i (Nat.lt_of_lt_of_le hi e2)).trans (e1 i hi)) (Nat.le_trans e2 b2) b3 (fun q hq => zOk_up (e4 q hq) b2) (zOk_cons hrR (fun v hv => zOk_up (q2 v hv) b2)) b4 ⟨b6.1, fun k q hq => hF _ (b6.2 k q hq)⟩ hS1 (by rw [zlv_ext e4 b1]; exact e9)
    have hs : (zI z :: st).map (zT u) = zT u (zI z) :: st.map (zT ad) := by rw [List.map_cons, zst_ext q2 b1]
    rw [hs] at k9
    exact k9
theorem z_callXV_q {ε : Type} {o1 : Option ε} {f : ε → Option ρ} {res : ε → Option Nat ⊕ Nat} {hp2 : ε → zH} {y : MethodName} {bytes : ByteArray} {maxL mc ms idx n : Nat} {ret : Option FieldType} {rm : Room} {ci N : Nat} {C : String} {T : u_T} {r0 : Option Nat} {stk : List zPV} (as : List zPV) (X : zX K cc own zALL R0) (hd : decode cc pc = .ok (.invokevirtual idx, 3)) (hM : ∀ x, o1 = some x → zXq y (Cond.code y bytes maxL ret :: zALL) rm mc ms (zR r0 :: as) hp (res x) (hp2 x)) (hw : zkV own idx C y bytes maxL ret n) (hn : as.length = n) (hc : vwCl[ci]? = some (C, T, N)) (hrm : zrm rm R0 mc ms maxL cells slots) (hlo : (st.map zcat).sum ≤ 8) (hstk : stk = as.reverse ++ zR r0 :: st)
    (kk : ∀ x z, res x = .inl z → zS (f x) G (zJ K (cells + mc) (slots + ms) (pc + 3) lv (zR z :: st) (hp2 x))) (kx : ∀ x k, res x = .inr k → zS (f x) G (zE K (cells + mc) (slots + ms) pc lv k (hp2 x))) : zS (((zobj hp r0 ci).bind fun _ => o1).bind f) G (zJ K cells slots pc lv stk hp) := by
  obtain ⟨p, l, e, R, s, m, args, below, meth, c, D, cA, A, Q, nL, ad0, n0⟩ := K
  obtain ⟨hx, hb, hml, hown, hts, hK, hA, hR, hlk, hst9, hEnv⟩ := X
  intro r h1 h2 ad H locs ls e1 e2 e3 e4 e5 e6 e7 e8 e9
  subst hR
  subst hstk
  obtain ⟨x, hx1, h3⟩ := Option.bind_eq_some_iff.mp h1
  clear h1
  obtain ⟨⟨b, fs⟩, ho, hx2⟩ := Option.bind_eq_some_iff.mp hx1
  clear hx1
  obtain ⟨hr0, hb0⟩ := zobj_some ho
  clear ho
  subst hr0
  obtain ⟨q1, q2⟩ := zst_app e5
  have hM9 := hM x hx2 l hst9 D cA ad H.size e3 (zOk_cons (zOk_hd q2) q1)
  have q2 := zOk_tl q2
  have hF := zfree e7 e8 hA
  refine vx_callq (vx_runV (As := as.map (zT ad)) (rest := st.map (zT ad)) (b := ad b) ⟨hx, hb, hml, hown, hts⟩ hM9 ⟨zCallB hts hw.1 hrm, hts _ hw.2.1, hts _ hw.2.2⟩ ⟨zPc_blind, va_recv hK e6 hc (q0 := b) (fs := fs.map (zT ad)) (zW_at hb0), fun U hU hW => zPc_pre e6 hK e7 hEnv e8 hF hU hW⟩ rfl (by rw [List.length_map]; exact hn) e9.1 (by show ((as.reverse ++ zR (some b) :: st).map (zT ad)) = _; rw [List.map_append, List.map_reverse]; rfl) (lv_room (by rw [zcat_sum]; exact hlo)) hd hrm.2.2.2) e8 (fun q _ h => hF q h) hF (fun q _ h => hF q h) (fun E ce q9 u t H1 locs1 ht hvm _ hB hz1 hk1 hS1 c1 c2 c3 => ?_) (fun r9 u t H1 locs1 ht hvm hw9 hB hz1 hk1 hS1 => ?_)
  · obtain ⟨⟨k, hk, hE⟩, b1, b2, b3, b4, b5, b6⟩ := hB
    rw [ht] at b4
    subst hE
    exact kx x k hk r h3 h2 u H1 locs1 ls _ q9 ce (fun i hi => (b1 i (Nat.lt_of_lt_of_le hi e2)).trans (e1 i hi)) (Nat.le_trans e2 b2) b3 (fun q hq => zOk_up (e4 q hq) b2) b4 ⟨b6.1, fun k q hq => hF _ (b6.2 k q hq)⟩ hS1 (by rw [zlv_ext e4 b1]; exact e9) c1 c2 c3
  · obtain ⟨b1, b2, b3, b4, b5, b6⟩ := hB
    rw [ht] at b4
    obtain ⟨z, hz, hr9, hrR⟩ := hw9
    subst hr9
    have k9 := kk x z hz r h3 h2 u H1 locs1 ls (fun i hi => (b1 i (Nat.lt_of_lt_of_le hi e2)).trans (e1 i hi)) (Nat.le_trans e2 b2) b3 (fun q hq => zOk_up (e4 q hq) b2) (zOk_cons hrR (fun v hv => zOk_up (q2 v hv) b2)) b4 ⟨b6.1, fun k q hq => hF _ (b6.2 k q hq)⟩ hS1 (by rw [zlv_ext e4 b1]; exact e9)
    have hs : (zR z :: st).map (zT u) = zT u (zR z) :: st.map (zT ad) := by rw [List.map_cons, zst_ext q2 b1]
    rw [hs] at k9
    exact k9
theorem z_callXV_f {ε : Type} {o1 : Option ε} {f : ε → Option ρ} {res : ε → UInt32 ⊕ Nat} {hp2 : ε → zH} {y : MethodName} {bytes : ByteArray} {maxL mc ms idx n : Nat} {ret : Option FieldType} {rm : Room} {ci N : Nat} {C : String} {T : u_T} {r0 : Option Nat} {stk : List zPV} (as : List zPV) (X : zX K cc own zALL R0) (hd : decode cc pc = .ok (.invokevirtual idx, 3)) (hM : ∀ x, o1 = some x → zXf y (Cond.code y bytes maxL ret :: zALL) rm mc ms (zR r0 :: as) hp (res x) (hp2 x)) (hw : zkV own idx C y bytes maxL ret n) (hn : as.length = n) (hc : vwCl[ci]? = some (C, T, N)) (hrm : zrm rm R0 mc ms maxL cells slots) (hlo : (st.map zcat).sum ≤ 8) (hstk : stk = as.reverse ++ zR r0 :: st)
    (kk : ∀ x z, res x = .inl z → zS (f x) G (zJ K (cells + mc) (slots + ms) (pc + 3) lv (zF z :: st) (hp2 x))) (kx : ∀ x k, res x = .inr k → zS (f x) G (zE K (cells + mc) (slots + ms) pc lv k (hp2 x))) : zS (((zobj hp r0 ci).bind fun _ => o1).bind f) G (zJ K cells slots pc lv stk hp) := by
  obtain ⟨p, l, e, R, s, m, args, below, meth, c, D, cA, A, Q, nL, ad0, n0⟩ := K
  obtain ⟨hx, hb, hml, hown, hts, hK, hA, hR, hlk, hst9, hEnv⟩ := X
  intro r h1 h2 ad H locs ls e1 e2 e3 e4 e5 e6 e7 e8 e9
  subst hR
  subst hstk
  obtain ⟨x, hx1, h3⟩ := Option.bind_eq_some_iff.mp h1
  clear h1
  obtain ⟨⟨b, fs⟩, ho, hx2⟩ := Option.bind_eq_some_iff.mp hx1
  clear hx1
  obtain ⟨hr0, hb0⟩ := zobj_some ho
  clear ho
  subst hr0
  obtain ⟨q1, q2⟩ := zst_app e5
  have hM9 := hM x hx2 l hst9 D cA ad H.size e3 (zOk_cons (zOk_hd q2) q1)
  have q2 := zOk_tl q2
  have hF := zfree e7 e8 hA
  refine vx_callf (vx_runV (As := as.map (zT ad)) (rest := st.map (zT ad)) (b := ad b) ⟨hx, hb, hml, hown, hts⟩ hM9 ⟨zCallB hts hw.1 hrm, hts _ hw.2.1, hts _ hw.2.2⟩ ⟨zPc_blind, va_recv hK e6 hc (q0 := b) (fs := fs.map (zT ad)) (zW_at hb0), fun U hU hW => zPc_pre e6 hK e7 hEnv e8 hF hU hW⟩ rfl (by rw [List.length_map]; exact hn) e9.1 (by show ((as.reverse ++ zR (some b) :: st).map (zT ad)) = _; rw [List.map_append, List.map_reverse]; rfl) (lv_room (by rw [zcat_sum]; exact hlo)) hd hrm.2.2.2) e8 (fun q _ h => hF q h) hF (fun q _ h => hF q h) (fun E ce q9 u t H1 locs1 ht hvm _ hB hz1 hk1 hS1 c1 c2 c3 => ?_) (fun r9 u t H1 locs1 ht hvm hw9 hB hz1 hk1 hS1 => ?_)
  · obtain ⟨⟨k, hk, hE⟩, b1, b2, b3, b4, b5, b6⟩ := hB
    rw [ht] at b4
    subst hE
    exact kx x k hk r h3 h2 u H1 locs1 ls _ q9 ce (fun i hi => (b1 i (Nat.lt_of_lt_of_le hi e2)).trans (e1 i hi)) (Nat.le_trans e2 b2) b3 (fun q hq => zOk_up (e4 q hq) b2) b4 ⟨b6.1, fun k q hq => hF _ (b6.2 k q hq)⟩ hS1 (by rw [zlv_ext e4 b1]; exact e9) c1 c2 c3
  · obtain ⟨b1, b2, b3, b4, b5, b6⟩ := hB
    rw [ht] at b4
    have hz : res x = .inl r9 := hw9
    have k9 := kk x r9 hz r h3 h2 u H1 locs1 ls (fun i hi => (b1 i (Nat.lt_of_lt_of_le hi e2)).trans (e1 i hi)) (Nat.le_trans e2 b2) b3 (fun q hq => zOk_up (e4 q hq) b2) (zOk_cons trivial (fun v hv => zOk_up (q2 v hv) b2)) b4 ⟨b6.1, fun k q hq => hF _ (b6.2 k q hq)⟩ hS1 (by rw [zlv_ext e4 b1]; exact e9)
    have hs : (zF r9 :: st).map (zT u) = zT u (zF r9) :: st.map (zT ad) := by rw [List.map_cons, zst_ext q2 b1]
    rw [hs] at k9
    exact k9
theorem z_callXV_d {ε : Type} {o1 : Option ε} {f : ε → Option ρ} {res : ε → UInt64 ⊕ Nat} {hp2 : ε → zH} {y : MethodName} {bytes : ByteArray} {maxL mc ms idx n : Nat} {ret : Option FieldType} {rm : Room} {ci N : Nat} {C : String} {T : u_T} {r0 : Option Nat} {stk : List zPV} (as : List zPV) (X : zX K cc own zALL R0) (hd : decode cc pc = .ok (.invokevirtual idx, 3)) (hM : ∀ x, o1 = some x → zXd y (Cond.code y bytes maxL ret :: zALL) rm mc ms (zR r0 :: as) hp (res x) (hp2 x)) (hw : zkV own idx C y bytes maxL ret n) (hn : as.length = n) (hc : vwCl[ci]? = some (C, T, N)) (hrm : zrm rm R0 mc ms maxL cells slots) (hlo : (st.map zcat).sum ≤ 8) (hstk : stk = as.reverse ++ zR r0 :: st)
    (kk : ∀ x z, res x = .inl z → zS (f x) G (zJ K (cells + mc) (slots + ms) (pc + 3) lv (zD z :: st) (hp2 x))) (kx : ∀ x k, res x = .inr k → zS (f x) G (zE K (cells + mc) (slots + ms) pc lv k (hp2 x))) : zS (((zobj hp r0 ci).bind fun _ => o1).bind f) G (zJ K cells slots pc lv stk hp) := by
  obtain ⟨p, l, e, R, s, m, args, below, meth, c, D, cA, A, Q, nL, ad0, n0⟩ := K
  obtain ⟨hx, hb, hml, hown, hts, hK, hA, hR, hlk, hst9, hEnv⟩ := X
  intro r h1 h2 ad H locs ls e1 e2 e3 e4 e5 e6 e7 e8 e9
  subst hR
  subst hstk
  obtain ⟨x, hx1, h3⟩ := Option.bind_eq_some_iff.mp h1
  clear h1
  obtain ⟨⟨b, fs⟩, ho, hx2⟩ := Option.bind_eq_some_iff.mp hx1
  clear hx1
  obtain ⟨hr0, hb0⟩ := zobj_some ho
  clear ho
  subst hr0
  obtain ⟨q1, q2⟩ := zst_app e5
  have hM9 := hM x hx2 l hst9 D cA ad H.size e3 (zOk_cons (zOk_hd q2) q1)
  have q2 := zOk_tl q2
  have hF := zfree e7 e8 hA
  refine vx_calld (vx_runV (As := as.map (zT ad)) (rest := st.map (zT ad)) (b := ad b) ⟨hx, hb, hml, hown, hts⟩ hM9 ⟨zCallB hts hw.1 hrm, hts _ hw.2.1, hts _ hw.2.2⟩ ⟨zPc_blind, va_recv hK e6 hc (q0 := b) (fs := fs.map (zT ad)) (zW_at hb0), fun U hU hW => zPc_pre e6 hK e7 hEnv e8 hF hU hW⟩ rfl (by rw [List.length_map]; exact hn) e9.1 (by show ((as.reverse ++ zR (some b) :: st).map (zT ad)) = _; rw [List.map_append, List.map_reverse]; rfl) (lv_room (by rw [zcat_sum]; exact hlo)) hd hrm.2.2.2) e8 (fun q _ h => hF q h) hF (fun q _ h => hF q h) (fun E ce q9 u t H1 locs1 ht hvm _ hB hz1 hk1 hS1 c1 c2 c3 => ?_) (fun r9 u t H1 locs1 ht hvm hw9 hB hz1 hk1 hS1 => ?_)
  · obtain ⟨⟨k, hk, hE⟩, b1, b2, b3, b4, b5, b6⟩ := hB
    rw [ht] at b4
    subst hE
    exact kx x k hk r h3 h2 u H1 locs1 ls _ q9 ce (fun i hi => (b1 i (Nat.lt_of_lt_of_le hi e2)).trans (e1 i hi)) (Nat.le_trans e2 b2) b3 (fun q hq => zOk_up (e4 q hq) b2) b4 ⟨b6.1, fun k q hq => hF _ (b6.2 k q hq)⟩ hS1 (by rw [zlv_ext e4 b1]; exact e9) c1 c2 c3
  · obtain ⟨b1, b2, b3, b4, b5, b6⟩ := hB
    rw [ht] at b4
    have hz : res x = .inl r9 := hw9
    have k9 := kk x r9 hz r h3 h2 u H1 locs1 ls (fun i hi => (b1 i (Nat.lt_of_lt_of_le hi e2)).trans (e1 i hi)) (Nat.le_trans e2 b2) b3 (fun q hq => zOk_up (e4 q hq) b2) (zOk_cons trivial (fun v hv => zOk_up (q2 v hv) b2)) b4 ⟨b6.1, fun k q hq => hF _ (b6.2 k q hq)⟩ hS1 (by rw [zlv_ext e4 b1]; exact e9)
    have hs : (zD r9 :: st).map (zT u) = zT u (zD r9) :: st.map (zT ad) := by rw [List.map_cons, zst_ext q2 b1]
    rw [hs] at k9
    exact k9
end zCallRows
