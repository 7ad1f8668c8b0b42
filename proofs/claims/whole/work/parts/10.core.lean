/-! THE PURE PICTURE: values with whole numbers, cells by number; zJ: the machine at a point over such a picture; zS: a step of the machine against a step of a function -/
abbrev zPV : Type := Int ⊕ Int64 ⊕ Option Nat ⊕ UInt32 ⊕ UInt64 ⊕ Nat
abbrev zI (z : Int) : zPV := .inl z
abbrev zL (x : Int64) : zPV := .inr (.inl x)
abbrev zR (r : Option Nat) : zPV := .inr (.inr (.inl r))
abbrev zF (x : UInt32) : zPV := .inr (.inr (.inr (.inl x)))
abbrev zD (x : UInt64) : zPV := .inr (.inr (.inr (.inr (.inl x))))
abbrev zA (a : Nat) : zPV := .inr (.inr (.inr (.inr (.inr a))))
def inR (z : Int) : Prop := -2147483648 ≤ z ∧ z ≤ 2147483647
def zT (ad : Nat → Nat) : zPV → Value
  | .inl z => .int (Int32.ofInt z)
  | .inr (.inl x) => .long x
  | .inr (.inr (.inl r)) => va_rf (r.map ad)
  | .inr (.inr (.inr (.inl x))) => .float x
  | .inr (.inr (.inr (.inr (.inl x)))) => .double x
  | .inr (.inr (.inr (.inr (.inr a)))) => .ref a
def zOk (n : Nat) : zPV → Prop
  | .inl z => inR z
  | .inr (.inr (.inl r)) => ∀ i, r = some i → i < n
  | _ => True
abbrev zC : Type := (Nat → Int) ⊕ (Nat → Int64) ⊕ (Nat → UInt64) ⊕ (Nat → Option Nat)
abbrev zCell : Type := (Nat × Nat × zC) ⊕ (Nat × List zPV)
abbrev zH : Type := List zCell
def zTC (ad : Nat → Nat) (cA : Nat → ClassId) : zCell → va_E
  | .inl (t, n, .inl f) => .inl (cA t, n, .inl (fun j => Int32.ofInt (f j)))
  | .inl (t, n, .inr (.inl f)) => .inl (cA t, n, .inr (.inl f))
  | .inl (t, n, .inr (.inr (.inl f))) => .inl (cA t, n, .inr (.inr (.inr (.inl f))))
  | .inl (t, n, .inr (.inr (.inr f))) => .inl (cA t, n, .inr (.inr (.inr (.inr (fun j => (f j).map ad)))))
  | .inr (ci, fs) => .inr (ci, fs.map (zT ad))
def zOkC (n : Nat) : zCell → Prop
  | .inl (_, _, .inl f) => ∀ j, inR (f j)
  | .inl (_, _, .inr (.inl _)) => True
  | .inl (_, _, .inr (.inr (.inl _))) => True
  | .inl (_, _, .inr (.inr (.inr f))) => ∀ j i, f j = some i → i < n
  | .inr (_, fs) => ∀ v ∈ fs, zOk n v
def zW (ad : Nat → Nat) (cA : Nat → ClassId) (hp : zH) : va_W := hp.mapIdx (fun i c => (ad i, zTC ad cA c))
def zTY (cA : Nat → ClassId) : List (ClassId × FieldType) := [(cA 0, .int), (cA 1, .long), (cA 2, .boolean), (cA 3, .char), (cA 4, .double), (cA 5, .object "StreetNamer$Street"), (cA 6, .object "StreetNamer$Door")]
abbrev zK : Type := Program × Launch × Env × Room × State × MethodId × Array Value × List Frame × Method × Code × va_G × (Nat → ClassId) × (Nat → Prop) × (State → Prop) × Nat × (Nat → Nat) × Nat
def zJ (K : zK) (cells slots pc : Nat) (lv : List (Nat × zPV)) (st : List zPV) (hp : zH) : Prop := match K with
  | (p, l, e, R, s, m, args, below, meth, c, D, cA, A, Q, nL, ad0, n0) =>
    ∀ (ad : Nat → Nat) (H : Heap) (locs : List Loc) (ls : Array Slot), (∀ i, i < n0 → ad i = ad0 i) → n0 ≤ hp.length → (∀ c ∈ hp, zOkC hp.length c) → (∀ q ∈ lv, zOk hp.length q.2) → (∀ v ∈ st, zOk hp.length v) →
      va_P D vwCl (zW ad cA hp) H → va_D A (zW ad cA hp) → va_S A s.heap H locs → lv_has ls nL (lv.map (fun q => (q.1, zT ad q.2))) →
      W p l e R s m args below meth c H locs cells slots Q (F0 m pc ls (st.map (zT ad)))
def zS {ρ : Type} (o : Option ρ) (G : ρ → Prop) (C : Prop) : Prop := ∀ r, o = some r → G r → C
/-- what stays true of the start in all calls: the two statics that exceptions take, the words that no call carries, the texts -/
def zng : Cond → Bool
  | .castable _ _ => true
  | .declares _ => true
  | .methodLinkNest _ _ _ _ => true
  | _ => false
def zNC : List (String × String) := ["java/lang/IllegalArgumentException", "java/lang/IllegalStateException", "java/lang/UnsupportedOperationException", "java/lang/IndexOutOfBoundsException", "java/util/NoSuchElementException", "java/lang/ArithmeticException"].flatMap fun a => (["java/lang/IllegalArgumentException", "java/lang/IllegalStateException", "java/lang/UnsupportedOperationException", "java/lang/IndexOutOfBoundsException", "java/util/NoSuchElementException", "java/lang/ArithmeticException"].filter fun b => a != b).map fun b => (a, b)
def zEnv (A : Nat → Prop) (U : State) (H : Heap) : Prop := vx_Zq Bundle.tN "UNASSIGNED_STACK" Bundle.steD A U H ∧ vx_Zq Bundle.tN "SUPPRESSED_SENTINEL" Bundle.listD A U H ∧ (∀ w ∈ lw_tbl, zng w = true → va_Nw w U) ∧ (∀ k tx, Cond.stringRef RX7 k tx ∈ lw_tbl → ∃ a, vk_R RX7 k tx a U) ∧ va_AO "StreetNamer$Street" U ∧ va_AO "StreetNamer$Door" U ∧ ∀ q ∈ zNC, va_Nc q.1 q.2 U
/-- what the machine stands on: its code, the words, the classes, the room -/
def zX (K : zK) (cc : ByteArray) (own : String) (Ts : List Cond) (R0 : Room) : Prop := match K with
  | (p, l, e, R, s, m, args, below, meth, c, D, cA, A, Q, nL, ad0, n0) =>
    p.tables.exec = Jvm.exec ∧ c.code = cc ∧ c.maxLocals = nL ∧ s.vm.findClass own = some m.cls ∧ (∀ w ∈ Ts, w.before args s = true) ∧ va_K D vwCl (zTY cA) s ∧ (∀ q, s.heap.size ≤ q → A q) ∧ R = R0 ∧ meth.locks = false ∧ l.stackTraces = false ∧ zEnv A s s.heap
-- ===== numbers =====
theorem z32_toInt {z : Int} (h : inR z) : (Int32.ofInt z).toInt = z := Int32.toInt_ofInt_of_le (by have := h.1; omega) (by have := h.2; omega)
theorem z32_eq {a b : Int} (ha : inR a) (hb : inR b) : Int32.ofInt a = Int32.ofInt b ↔ a = b := ⟨fun h => by have := congrArg Int32.toInt h; rwa [z32_toInt ha, z32_toInt hb] at this, fun h => by rw [h]⟩
theorem z32_lt {a b : Int} (ha : inR a) (hb : inR b) : Int32.ofInt a < Int32.ofInt b ↔ a < b := by rw [Int32.lt_iff_toInt_lt, z32_toInt ha, z32_toInt hb]
theorem z32_le {a b : Int} (ha : inR a) (hb : inR b) : Int32.ofInt a ≤ Int32.ofInt b ↔ a ≤ b := by rw [Int32.le_iff_toInt_le, z32_toInt ha, z32_toInt hb]
theorem z32_0 : (0 : Int32) = Int32.ofInt 0 := rfl
theorem inR_0 : inR 0 := by unfold inR; omega
theorem z32_nat {z : Int} (h : inR z) : (Int32.ofInt z).toNatClampNeg = z.toNat := by
  show (Int32.ofInt z).toInt.toNat = z.toNat
  rw [z32_toInt h]
theorem z32_in {z : Int} (h : inR z) {n : Nat} : vp_in (Int32.ofInt z) n ↔ 0 ≤ z ∧ z < n := by rw [vp_in_iff, z32_toInt h]
theorem z32_of (z : Int32) : ∃ k : Int, inR k ∧ z = Int32.ofInt k := ⟨z.toInt, ⟨by have := Int32.le_toInt z; omega, by have := Int32.toInt_lt z; omega⟩, by rw [Int32.ofInt_toInt]⟩
theorem z32_natI (n : Nat) : Int32.ofInt (n : Int) = Int32.ofNat n := rfl
theorem z32_div {a b : Int} (ha : inR a) (hb : inR b) (h0 : 0 ≤ a) (h1 : 0 < b) : Int32.ofInt a / Int32.ofInt b = Int32.ofInt (a / b) := by
  obtain ⟨n, rfl⟩ := Int.eq_ofNat_of_zero_le h0
  obtain ⟨d, rfl⟩ := Int.eq_ofNat_of_zero_le (Int.le_of_lt h1)
  have e : ((n : Int) / (d : Int)) = ((n / d : Nat) : Int) := rfl
  rw [e]
  exact pk_div (a := n) (d := d) (by have := ha.2; omega) (by omega) (by have := hb.2; omega)
theorem z32_rem {a b : Int} (ha : inR a) (hb : inR b) (h0 : 0 ≤ a) (h1 : 0 < b) : Int32.ofInt a - Int32.ofInt a / Int32.ofInt b * Int32.ofInt b = Int32.ofInt (a % b) := by
  obtain ⟨n, rfl⟩ := Int.eq_ofNat_of_zero_le h0
  obtain ⟨d, rfl⟩ := Int.eq_ofNat_of_zero_le (Int.le_of_lt h1)
  have e : ((n : Int) % (d : Int)) = ((n % d : Nat) : Int) := rfl
  rw [e]
  exact pk_rem (a := n) (d := d) (by have := ha.2; omega) (by omega) (by have := hb.2; omega)
-- ===== the functions' steps =====
def zchk (z : Int) : Option Int := if -2147483648 ≤ z ∧ z ≤ 2147483647 then some z else none
def zchkZ (z : Int) : Option Int := if z = 0 ∨ z = 1 then some z else none
def zchkC (z : Int) : Option Int := if 0 ≤ z ∧ z ≤ 65535 then some z else none
def zdiv (a b : Int) : Option Int := if 0 ≤ a ∧ 0 < b then some (a / b) else none
def zrem (a b : Int) : Option Int := if 0 ≤ a ∧ 0 < b then some (a % b) else none
def zor (a b : Int) : Option Int := if (a = 0 ∨ a = 1) ∧ (b = 0 ∨ b = 1) then some (if a = 1 then 1 else b) else none
def zand (a b : Int) : Option Int := if b = 1 ∨ b = 31 then some (a % (b + 1)) else none
def zasI : zPV → Option Int
  | .inl z => some z
  | .inr _ => none
def zasJ : zPV → Option Int64
  | .inr (.inl z) => some z
  | .inr (.inr _) => none
  | .inl _ => none
def zasR : zPV → Option (Option Nat)
  | .inr (.inr (.inl z)) => some z
  | .inr (.inr (.inr _)) => none
  | .inr (.inl _) => none
  | .inl _ => none
def zoc (ci : Nat) : zCell → Option (List zPV)
  | .inr (c, fs) => if c = ci then some fs else none
  | .inl _ => none
def zac (t : Nat) (i : Int) : zCell → Option (Nat × zC)
  | .inr _ => none
  | .inl (t', n, f) => if t' = t ∧ 0 ≤ i ∧ i < n then some (n, f) else none
def zcI : zC → Option (Nat → Int)
  | .inl f => some f
  | .inr _ => none
def zcJ : zC → Option (Nat → Int64)
  | .inr (.inl f) => some f
  | .inr (.inr _) => none
  | .inl _ => none
def zcD : zC → Option (Nat → UInt64)
  | .inr (.inr (.inl f)) => some f
  | .inr (.inr (.inr _)) => none
  | .inr (.inl _) => none
  | .inl _ => none
def zcR : zC → Option (Nat → Option Nat)
  | .inr (.inr (.inr f)) => some f
  | .inr (.inr (.inl _)) => none
  | .inr (.inl _) => none
  | .inl _ => none
def zobj (hp : zH) (r : Option Nat) (ci : Nat) : Option (Nat × List zPV) := r.bind fun i => hp[i]?.bind fun x => (zoc ci x).bind fun fs => some (i, fs)
def zarr (hp : zH) (r : Option Nat) (t : Nat) (i : Int) : Option (Nat × Nat × zC) := r.bind fun a => hp[a]?.bind fun x => (zac t i x).bind fun q => some (a, q)
def zfld (hp : zH) (r : Option Nat) (ci k : Nat) : Option zPV := (zobj hp r ci).bind fun q => q.2[k]?
def zgI (hp : zH) (r : Option Nat) (ci k : Nat) : Option Int := (zfld hp r ci k).bind zasI
def zgJ (hp : zH) (r : Option Nat) (ci k : Nat) : Option Int64 := (zfld hp r ci k).bind zasJ
def zgR (hp : zH) (r : Option Nat) (ci k : Nat) : Option (Option Nat) := (zfld hp r ci k).bind zasR
def zput (hp : zH) (r : Option Nat) (ci k : Nat) (v : zPV) : Option zH := (zobj hp r ci).bind fun q => if k < q.2.length then some (hp.set q.1 (.inr (ci, q.2.set k v))) else none
def zpI (hp : zH) (r : Option Nat) (ci k : Nat) (z : Int) : Option zH := zput hp r ci k (zI z)
def zpZ (hp : zH) (r : Option Nat) (ci k : Nat) (z : Int) : Option zH := if z = 0 ∨ z = 1 then zput hp r ci k (zI z) else none
def zpC (hp : zH) (r : Option Nat) (ci k : Nat) (z : Int) : Option zH := if 0 ≤ z ∧ z ≤ 65535 then zput hp r ci k (zI z) else none
def zpJ (hp : zH) (r : Option Nat) (ci k : Nat) (z : Int64) : Option zH := zput hp r ci k (zL z)
def zpR (hp : zH) (r : Option Nat) (ci k : Nat) (z : Option Nat) : Option zH := zput hp r ci k (zR z)
def zup {α : Type} (f : Nat → α) (k : Nat) (v : α) : Nat → α := fun j => if j = k then v else f j
def zaI (hp : zH) (t : Nat) (r : Option Nat) (i : Int) : Option Int := (zarr hp r t i).bind fun q => (zcI q.2.2).bind fun f => some (f i.toNat)
def zaJ (hp : zH) (r : Option Nat) (i : Int) : Option Int64 := (zarr hp r 1 i).bind fun q => (zcJ q.2.2).bind fun f => some (f i.toNat)
def zaD (hp : zH) (r : Option Nat) (i : Int) : Option UInt64 := (zarr hp r 4 i).bind fun q => (zcD q.2.2).bind fun f => some (f i.toNat)
def zaR (hp : zH) (t : Nat) (r : Option Nat) (i : Int) : Option (Option Nat) := (zarr hp r t i).bind fun q => (zcR q.2.2).bind fun f => some (f i.toNat)
def zsI (hp : zH) (t : Nat) (r : Option Nat) (i : Int) (z : Int) : Option zH := (zarr hp r t i).bind fun q => (zcI q.2.2).bind fun f => if (t = 2 → z = 0 ∨ z = 1) ∧ (t = 3 → 0 ≤ z ∧ z ≤ 65535) then some (hp.set q.1 (.inl (t, q.2.1, .inl (zup f i.toNat z)))) else none
def zsJ (hp : zH) (r : Option Nat) (i : Int) (z : Int64) : Option zH := (zarr hp r 1 i).bind fun q => (zcJ q.2.2).bind fun f => some (hp.set q.1 (.inl (1, q.2.1, .inr (.inl (zup f i.toNat z)))))
def zsD (hp : zH) (r : Option Nat) (i : Int) (z : UInt64) : Option zH := (zarr hp r 4 i).bind fun q => (zcD q.2.2).bind fun f => some (hp.set q.1 (.inl (4, q.2.1, .inr (.inr (.inl (zup f i.toNat z))))))
def zsR (hp : zH) (t : Nat) (r : Option Nat) (i : Int) (z : Option Nat) (ci : Nat) : Option zH := (zarr hp r t i).bind fun q => (zcR q.2.2).bind fun f => (zobj hp z ci).bind fun _ => some (hp.set q.1 (.inl (t, q.2.1, .inr (.inr (.inr (zup f i.toNat z))))))
def zal : zCell → Option Int
  | .inl (t, n, _) => if t < 7 ∧ n ≤ 2147483647 then some n else none
  | .inr _ => none
def zlen (hp : zH) (r : Option Nat) : Option Int := r.bind fun a => hp[a]?.bind zal
def zcmp (x y : Int64) : Int := if x > y then 1 else if x = y then 0 else -1
