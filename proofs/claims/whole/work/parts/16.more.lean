/-! rows that the generator uses -/
section zMore
variable {ρ : Type} {o : Option ρ} {G : ρ → Prop} {K : zK} {cc : ByteArray} {own : String} {Ts : List Cond} {R0 : Room} {cells slots pc : Nat} {lv : List (Nat × zPV)} {st : List zPV} {hp : zH}
theorem z_fin {a r0 : ρ} {C : Prop} (h : a = r0 → C) : zS (some a) (fun r => r = r0) C := fun r h1 h2 => h ((Option.some.inj h1).trans h2)
theorem z_back {σ ε : Type} {C : σ → Prop} {E : ε → Prop} {s : σ} : zS (some (Sum.inl s)) (zLG C E) (C s) := fun r h1 h2 => by
  cases h1
  exact h2
theorem z_exit {σ ε : Type} {C : σ → Prop} {E : ε → Prop} {e : ε} : zS (some (Sum.inr e)) (zLG C E) (E e) := fun r h1 h2 => by
  cases h1
  exact h2
theorem z_chkZ {z : Int} {f : Int → Option ρ} {C : Prop} (kk : (z = 0 ∨ z = 1) → zS (f z) G C) : zS ((zchkZ z).bind f) G C := by
  intro r h1 h2
  obtain ⟨v, hv, h3⟩ := Option.bind_eq_some_iff.mp h1
  unfold zchkZ at hv
  by_cases hz : z = 0 ∨ z = 1
  · rw [if_pos hz] at hv
    cases hv
    exact kk hz r h3 h2
  · rw [if_neg hz] at hv
    cases hv
theorem z_chkC {z : Int} {f : Int → Option ρ} {C : Prop} (kk : (0 ≤ z ∧ z ≤ 65535) → zS (f z) G C) : zS ((zchkC z).bind f) G C := by
  intro r h1 h2
  obtain ⟨v, hv, h3⟩ := Option.bind_eq_some_iff.mp h1
  unfold zchkC at hv
  by_cases hz : 0 ≤ z ∧ z ≤ 65535
  · rw [if_pos hz] at hv
    cases hv
    exact kk hz r h3 h2
  · rw [if_neg hz] at hv
    cases hv
def znew (hp : zH) (ci : Nat) (fs : List zPV) : Option zH := some (hp ++ [.inr (ci, fs)])
def znewa (hp : zH) (t n : Nat) : Option zH := some (hp ++ [.inl (t, n, if t = 1 then .inr (.inl (fun _ => 0)) else if t = 4 then .inr (.inr (.inl (fun _ => 0))) else if t = 5 ∨ t = 6 then .inr (.inr (.inr (fun _ => none))) else .inl (fun _ => 0))])
theorem z_newo {idx ci N : Nat} {C : String} {T : u_T} {ty0 : Nat → FieldType} {fs : List zPV} {f : zH → Option ρ} {c1 s1 : Nat} (X : zX K cc own Ts R0) (hd : decode cc pc = .ok (.new idx, 3)) (hin : ∀ w ∈ u_ws C T N, w ∈ Ts) (hty : ∀ k, k < N → parseFieldDescriptor (T k).2.2.1 = some (ty0 k)) (hcl : Cond.classLink own idx C ∈ Ts) (hinst : Cond.instantiable C N ∈ Ts) (hini : Cond.initialized C ∈ Ts) (hc : vwCl[ci]? = some (C, T, N)) (hfs : ∀ ad : Nat → Nat, ∀ j, j < N → defaultValue (ty0 j) = vp_V (fs.map (zT ad)) j) (hok : ∀ v ∈ fs, zOk 0 v) (hcells : c1 ≤ R0.cells) (hslots : s1 ≤ R0.slots) (hc1 : cells + 1 = c1) (hs1 : slots + N = s1)
    (kk : ∀ h', zS (f h') G (zJ K c1 s1 (pc + 3) lv (zR (some hp.length) :: st) h')) : zS ((znew hp ci fs).bind f) G (zJ K cells slots pc lv st hp) := by
  intro r h1 h2
  obtain ⟨h', hv, h3⟩ := Option.bind_eq_some_iff.mp h1
  cases hv
  subst hc1
  subst hs1
  exact z_new X hd hin hty hcl hinst hini hc hfs hok hcells hslots (kk _) r h3 h2
theorem z_newIo {z : Int} {f : zH → Option ρ} {c1 s1 : Nat} (n : Nat) (X : zX K cc own Ts R0) (hd : decode cc pc = .ok (.newarray .int, 2)) (harr : Cond.arrayClass .int ∈ Ts) (hz : z = (n : Int)) (hn9 : n ≤ 60000) (hcells : c1 ≤ R0.cells) (hslots : s1 ≤ R0.slots) (hc1 : cells + 1 = c1) (hs1 : slots + n = s1)
    (kk : ∀ h', zS (f h') G (zJ K c1 s1 (pc + 2) lv (zR (some hp.length) :: st) h')) : zS ((znewa hp 0 n).bind f) G (zJ K cells slots pc lv (zI z :: st) hp) := by
  intro r h1 h2
  obtain ⟨h', hv, h3⟩ := Option.bind_eq_some_iff.mp h1
  cases hv
  subst hc1
  subst hs1
  exact z_newI n X hd harr hz hn9 hcells hslots (kk _) r h3 h2
theorem z_newZo {z : Int} {f : zH → Option ρ} {c1 s1 : Nat} (n : Nat) (X : zX K cc own Ts R0) (hd : decode cc pc = .ok (.newarray .boolean, 2)) (harr : Cond.arrayClass .boolean ∈ Ts) (hz : z = (n : Int)) (hn9 : n ≤ 60000) (hcells : c1 ≤ R0.cells) (hslots : s1 ≤ R0.slots) (hc1 : cells + 1 = c1) (hs1 : slots + n = s1)
    (kk : ∀ h', zS (f h') G (zJ K c1 s1 (pc + 2) lv (zR (some hp.length) :: st) h')) : zS ((znewa hp 2 n).bind f) G (zJ K cells slots pc lv (zI z :: st) hp) := by
  intro r h1 h2
  obtain ⟨h', hv, h3⟩ := Option.bind_eq_some_iff.mp h1
  cases hv
  subst hc1
  subst hs1
  exact z_newZ n X hd harr hz hn9 hcells hslots (kk _) r h3 h2
theorem z_newCo {z : Int} {f : zH → Option ρ} {c1 s1 : Nat} (n : Nat) (X : zX K cc own Ts R0) (hd : decode cc pc = .ok (.newarray .char, 2)) (harr : Cond.arrayClass .char ∈ Ts) (hz : z = (n : Int)) (hn9 : n ≤ 60000) (hcells : c1 ≤ R0.cells) (hslots : s1 ≤ R0.slots) (hc1 : cells + 1 = c1) (hs1 : slots + n = s1)
    (kk : ∀ h', zS (f h') G (zJ K c1 s1 (pc + 2) lv (zR (some hp.length) :: st) h')) : zS ((znewa hp 3 n).bind f) G (zJ K cells slots pc lv (zI z :: st) hp) := by
  intro r h1 h2
  obtain ⟨h', hv, h3⟩ := Option.bind_eq_some_iff.mp h1
  cases hv
  subst hc1
  subst hs1
  exact z_newC n X hd harr hz hn9 hcells hslots (kk _) r h3 h2
theorem z_newJo {z : Int} {f : zH → Option ρ} {c1 s1 : Nat} (n : Nat) (X : zX K cc own Ts R0) (hd : decode cc pc = .ok (.newarray .long, 2)) (harr : Cond.arrayClass .long ∈ Ts) (hz : z = (n : Int)) (hn9 : n ≤ 60000) (hcells : c1 ≤ R0.cells) (hslots : s1 ≤ R0.slots) (hc1 : cells + 1 = c1) (hs1 : slots + n = s1)
    (kk : ∀ h', zS (f h') G (zJ K c1 s1 (pc + 2) lv (zR (some hp.length) :: st) h')) : zS ((znewa hp 1 n).bind f) G (zJ K cells slots pc lv (zI z :: st) hp) := by
  intro r h1 h2
  obtain ⟨h', hv, h3⟩ := Option.bind_eq_some_iff.mp h1
  cases hv
  subst hc1
  subst hs1
  exact z_newJ n X hd harr hz hn9 hcells hslots (kk _) r h3 h2
theorem z_newDo {z : Int} {f : zH → Option ρ} {c1 s1 : Nat} (n : Nat) (X : zX K cc own Ts R0) (hd : decode cc pc = .ok (.newarray .double, 2)) (harr : Cond.arrayClass .double ∈ Ts) (hz : z = (n : Int)) (hn9 : n ≤ 60000) (hcells : c1 ≤ R0.cells) (hslots : s1 ≤ R0.slots) (hc1 : cells + 1 = c1) (hs1 : slots + n = s1)
    (kk : ∀ h', zS (f h') G (zJ K c1 s1 (pc + 2) lv (zR (some hp.length) :: st) h')) : zS ((znewa hp 4 n).bind f) G (zJ K cells slots pc lv (zI z :: st) hp) := by
  intro r h1 h2
  obtain ⟨h', hv, h3⟩ := Option.bind_eq_some_iff.mp h1
  cases hv
  subst hc1
  subst hs1
  exact z_newD n X hd harr hz hn9 hcells hslots (kk _) r h3 h2
theorem z_newR5o {z : Int} {idx : Nat} {f : zH → Option ρ} {c1 s1 : Nat} (n : Nat) (X : zX K cc own Ts R0) (hd : decode cc pc = .ok (.anewarray idx, 3)) (hcl : Cond.classLink own idx "StreetNamer$Street" ∈ Ts) (hz : z = (n : Int)) (hn9 : n ≤ 60000) (hcells : c1 ≤ R0.cells) (hslots : s1 ≤ R0.slots) (hc1 : cells + 1 = c1) (hs1 : slots + n = s1)
    (kk : ∀ h', zS (f h') G (zJ K c1 s1 (pc + 3) lv (zR (some hp.length) :: st) h')) : zS ((znewa hp 5 n).bind f) G (zJ K cells slots pc lv (zI z :: st) hp) := by
  intro r h1 h2
  obtain ⟨h', hv, h3⟩ := Option.bind_eq_some_iff.mp h1
  cases hv
  subst hc1
  subst hs1
  exact z_newR5 n X hd hcl hz hn9 hcells hslots (kk _) r h3 h2
theorem z_newR6o {z : Int} {idx : Nat} {f : zH → Option ρ} {c1 s1 : Nat} (n : Nat) (X : zX K cc own Ts R0) (hd : decode cc pc = .ok (.anewarray idx, 3)) (hcl : Cond.classLink own idx "StreetNamer$Door" ∈ Ts) (hz : z = (n : Int)) (hn9 : n ≤ 60000) (hcells : c1 ≤ R0.cells) (hslots : s1 ≤ R0.slots) (hc1 : cells + 1 = c1) (hs1 : slots + n = s1)
    (kk : ∀ h', zS (f h') G (zJ K c1 s1 (pc + 3) lv (zR (some hp.length) :: st) h')) : zS ((znewa hp 6 n).bind f) G (zJ K cells slots pc lv (zI z :: st) hp) := by
  intro r h1 h2
  obtain ⟨h', hv, h3⟩ := Option.bind_eq_some_iff.mp h1
  cases hv
  subst hc1
  subst hs1
  exact z_newR6 n X hd hcl hz hn9 hcells hslots (kk _) r h3 h2
theorem z_fconst (X : zX K cc own Ts R0) (hd : decode cc pc = .ok (.fconst 0, 1)) (kk : zS o G (zJ K cells slots (pc + 1) lv (zF FP.fconst0 :: st) hp)) : zS o G (zJ K cells slots pc lv st hp) := by
  obtain ⟨p, l, e, R, s, m, args, below, meth, c, D, cA, A, Q, nL, ad0, n0⟩ := K
  obtain ⟨hx, hb, hml, hown, hts, hK, hA, hR, hlk, hst9, hEnv⟩ := X
  intro r h1 h2 ad H locs ls e1 e2 e3 e4 e5 e6 e7 e8 e9
  refine lv_fconst0 hx hb hd ?_
  exact kk r h1 h2 ad H locs ls e1 e2 e3 e4 (zOk_cons trivial e5) e6 e7 e8 e9
theorem z_dconst (X : zX K cc own Ts R0) (hd : decode cc pc = .ok (.dconst 0, 1)) (kk : zS o G (zJ K cells slots (pc + 1) lv (zD FP.dconst0 :: st) hp)) : zS o G (zJ K cells slots pc lv st hp) := by
  obtain ⟨p, l, e, R, s, m, args, below, meth, c, D, cA, A, Q, nL, ad0, n0⟩ := K
  obtain ⟨hx, hb, hml, hown, hts, hK, hA, hR, hlk, hst9, hEnv⟩ := X
  intro r h1 h2 ad H locs ls e1 e2 e3 e4 e5 e6 e7 e8 e9
  refine lv_dconst0 hx hb hd ?_
  exact kk r h1 h2 ad H locs ls e1 e2 e3 e4 (zOk_cons trivial e5) e6 e7 e8 e9
theorem z_objInitO {idx : Nat} {r0 : Option Nat} {f : Nat → Option ρ} (X : zX K cc own Ts R0) (hd : decode cc pc = .ok (.invokespecial idx, 3)) (hlink : Cond.methodLink own idx Lib.objectInit ∈ Ts) (hinst : Cond.instanceMethod Lib.objectInit ∈ Ts) (hcode : Cond.code Lib.objectInit ⟨#[0xb1]⟩ 1 none ∈ Ts) (hfr : 1 ≤ R0.frames) (hlo : (st.map zcat).sum + 12 ≤ R0.locals) (kk : ∀ a, zS (f a) G (zJ K cells slots (pc + 3) lv st hp)) : zS (r0.bind f) G (zJ K cells slots pc lv (zR r0 :: st) hp) := by
  intro r h1 h2
  obtain ⟨a, hv, h3⟩ := Option.bind_eq_some_iff.mp h1
  exact z_objInit hv X hd hlink hinst hcode hfr hlo (kk a) r h3 h2
def zabsO (a : Int) : Option Int := if -2147483648 < a then some (zabs a) else none
theorem z_absO {idx : Nat} {a : Int} {f : Int → Option ρ} (X : zX K cc own Ts R0) (hd : decode cc pc = .ok (.invokestatic idx, 3)) (hlink : Cond.methodLink own idx Lib.Math.abs.name ∈ Ts) (hstat : Cond.static Lib.Math.abs.name ∈ Ts) (hini : Cond.initialized "java/lang/Math" ∈ Ts) (hcode : Cond.code Lib.Math.abs.name Lib.Math.abs.code 1 (some .int) ∈ Ts) (hfr : 1 ≤ R0.frames) (hlo : (st.map zcat).sum + 13 ≤ R0.locals) (hcs : cells ≤ R0.cells) (hss : slots ≤ R0.slots) (kk : ∀ v, zS (f v) G (zJ K cells slots (pc + 3) lv (zI v :: st) hp)) : zS ((zabsO a).bind f) G (zJ K cells slots pc lv (zI a :: st) hp) := by
  intro r h1 h2
  obtain ⟨v, hv, h3⟩ := Option.bind_eq_some_iff.mp h1
  unfold zabsO at hv
  by_cases ha : -2147483648 < a
  · rw [if_pos ha] at hv
    cases hv
    exact z_abs ha X hd hlink hstat hini hcode hfr hlo hcs hss (kk _) r h3 h2
  · rw [if_neg ha] at hv
    cases hv
end zMore
