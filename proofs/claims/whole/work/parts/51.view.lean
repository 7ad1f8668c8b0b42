/-! CELLS behind the fixed ones: streets, doors, places; rows about loops (by program) -/
def zStr (n : Int) (a : Int64) (b : Int64) (l : Int) (w : Int) (bk : Int) (g : Int) (gr : Int) : zCell := .inr (7, [zI n, zL a, zL b, zI l, zI w, zI bk, zI g, zI gr])
theorem zoStr {A : zIT} {K : zLT} {I : zIT} {L : zLT} {F : zFT} {E : zET} {dyn : zH} {j : Nat} {n : Int} {a : Int64} {b : Int64} {l : Int} {w : Int} {bk : Int} {g : Int} {gr : Int} (h : dyn[j]? = some (zStr n a b l w bk g gr)) : zobj (zM A K I L F E dyn) (some (j + 39)) 7 = some (j + 39, [zI n, zL a, zL b, zI l, zI w, zI bk, zI g, zI gr]) := by
  unfold zobj
  show ((zM A K I L F E dyn)[j + 39]?).bind _ = _
  rw [zM_dyn, h]
  rfl
theorem zgStr_0 {A : zIT} {K : zLT} {I : zIT} {L : zLT} {F : zFT} {E : zET} {dyn : zH} {j : Nat} {n : Int} {a : Int64} {b : Int64} {l : Int} {w : Int} {bk : Int} {g : Int} {gr : Int} (h : dyn[j]? = some (zStr n a b l w bk g gr)) : zgI (zM A K I L F E dyn) (some (j + 39)) 7 0 = some n := by
  unfold zgI zfld
  rw [zoStr h]
  rfl
theorem zpStr_0 {A : zIT} {K : zLT} {I : zIT} {L : zLT} {F : zFT} {E : zET} {dyn : zH} {j : Nat} {n : Int} {a : Int64} {b : Int64} {l : Int} {w : Int} {bk : Int} {g : Int} {gr : Int} {v : Int} (h : dyn[j]? = some (zStr n a b l w bk g gr)) : zpI (zM A K I L F E dyn) (some (j + 39)) 7 0 v = some (zM A K I L F E (dyn.set j (zStr v a b l w bk g gr))) := by
  unfold zpI zput
  rw [zoStr h]
  rfl
theorem zgStr_1 {A : zIT} {K : zLT} {I : zIT} {L : zLT} {F : zFT} {E : zET} {dyn : zH} {j : Nat} {n : Int} {a : Int64} {b : Int64} {l : Int} {w : Int} {bk : Int} {g : Int} {gr : Int} (h : dyn[j]? = some (zStr n a b l w bk g gr)) : zgJ (zM A K I L F E dyn) (some (j + 39)) 7 1 = some a := by
  unfold zgJ zfld
  rw [zoStr h]
  rfl
theorem zpStr_1 {A : zIT} {K : zLT} {I : zIT} {L : zLT} {F : zFT} {E : zET} {dyn : zH} {j : Nat} {n : Int} {a : Int64} {b : Int64} {l : Int} {w : Int} {bk : Int} {g : Int} {gr : Int} {v : Int64} (h : dyn[j]? = some (zStr n a b l w bk g gr)) : zpJ (zM A K I L F E dyn) (some (j + 39)) 7 1 v = some (zM A K I L F E (dyn.set j (zStr n v b l w bk g gr))) := by
  unfold zpJ zput
  rw [zoStr h]
  rfl
theorem zgStr_2 {A : zIT} {K : zLT} {I : zIT} {L : zLT} {F : zFT} {E : zET} {dyn : zH} {j : Nat} {n : Int} {a : Int64} {b : Int64} {l : Int} {w : Int} {bk : Int} {g : Int} {gr : Int} (h : dyn[j]? = some (zStr n a b l w bk g gr)) : zgJ (zM A K I L F E dyn) (some (j + 39)) 7 2 = some b := by
  unfold zgJ zfld
  rw [zoStr h]
  rfl
theorem zpStr_2 {A : zIT} {K : zLT} {I : zIT} {L : zLT} {F : zFT} {E : zET} {dyn : zH} {j : Nat} {n : Int} {a : Int64} {b : Int64} {l : Int} {w : Int} {bk : Int} {g : Int} {gr : Int} {v : Int64} (h : dyn[j]? = some (zStr n a b l w bk g gr)) : zpJ (zM A K I L F E dyn) (some (j + 39)) 7 2 v = some (zM A K I L F E (dyn.set j (zStr n a v l w bk g gr))) := by
  unfold zpJ zput
  rw [zoStr h]
  rfl
theorem zgStr_3 {A : zIT} {K : zLT} {I : zIT} {L : zLT} {F : zFT} {E : zET} {dyn : zH} {j : Nat} {n : Int} {a : Int64} {b : Int64} {l : Int} {w : Int} {bk : Int} {g : Int} {gr : Int} (h : dyn[j]? = some (zStr n a b l w bk g gr)) : zgI (zM A K I L F E dyn) (some (j + 39)) 7 3 = some l := by
  unfold zgI zfld
  rw [zoStr h]
  rfl
theorem zpStr_3 {A : zIT} {K : zLT} {I : zIT} {L : zLT} {F : zFT} {E : zET} {dyn : zH} {j : Nat} {n : Int} {a : Int64} {b : Int64} {l : Int} {w : Int} {bk : Int} {g : Int} {gr : Int} {v : Int} (h : dyn[j]? = some (zStr n a b l w bk g gr)) : zpI (zM A K I L F E dyn) (some (j + 39)) 7 3 v = some (zM A K I L F E (dyn.set j (zStr n a b v w bk g gr))) := by
  unfold zpI zput
  rw [zoStr h]
  rfl
theorem zgStr_4 {A : zIT} {K : zLT} {I : zIT} {L : zLT} {F : zFT} {E : zET} {dyn : zH} {j : Nat} {n : Int} {a : Int64} {b : Int64} {l : Int} {w : Int} {bk : Int} {g : Int} {gr : Int} (h : dyn[j]? = some (zStr n a b l w bk g gr)) : zgI (zM A K I L F E dyn) (some (j + 39)) 7 4 = some w := by
  unfold zgI zfld
  rw [zoStr h]
  rfl
theorem zpStr_4 {A : zIT} {K : zLT} {I : zIT} {L : zLT} {F : zFT} {E : zET} {dyn : zH} {j : Nat} {n : Int} {a : Int64} {b : Int64} {l : Int} {w : Int} {bk : Int} {g : Int} {gr : Int} {v : Int} (h : dyn[j]? = some (zStr n a b l w bk g gr)) (hv : 0 ≤ v ∧ v ≤ 65535) : zpC (zM A K I L F E dyn) (some (j + 39)) 7 4 v = some (zM A K I L F E (dyn.set j (zStr n a b l v bk g gr))) := by
  unfold zpC zput
  rw [if_pos hv, zoStr h]
  rfl
theorem zgStr_5 {A : zIT} {K : zLT} {I : zIT} {L : zLT} {F : zFT} {E : zET} {dyn : zH} {j : Nat} {n : Int} {a : Int64} {b : Int64} {l : Int} {w : Int} {bk : Int} {g : Int} {gr : Int} (h : dyn[j]? = some (zStr n a b l w bk g gr)) : zgI (zM A K I L F E dyn) (some (j + 39)) 7 5 = some bk := by
  unfold zgI zfld
  rw [zoStr h]
  rfl
theorem zpStr_5 {A : zIT} {K : zLT} {I : zIT} {L : zLT} {F : zFT} {E : zET} {dyn : zH} {j : Nat} {n : Int} {a : Int64} {b : Int64} {l : Int} {w : Int} {bk : Int} {g : Int} {gr : Int} {v : Int} (h : dyn[j]? = some (zStr n a b l w bk g gr)) (hv : v = 0 ∨ v = 1) : zpZ (zM A K I L F E dyn) (some (j + 39)) 7 5 v = some (zM A K I L F E (dyn.set j (zStr n a b l w v g gr))) := by
  unfold zpZ zput
  rw [if_pos hv, zoStr h]
  rfl
theorem zgStr_6 {A : zIT} {K : zLT} {I : zIT} {L : zLT} {F : zFT} {E : zET} {dyn : zH} {j : Nat} {n : Int} {a : Int64} {b : Int64} {l : Int} {w : Int} {bk : Int} {g : Int} {gr : Int} (h : dyn[j]? = some (zStr n a b l w bk g gr)) : zgI (zM A K I L F E dyn) (some (j + 39)) 7 6 = some g := by
  unfold zgI zfld
  rw [zoStr h]
  rfl
theorem zpStr_6 {A : zIT} {K : zLT} {I : zIT} {L : zLT} {F : zFT} {E : zET} {dyn : zH} {j : Nat} {n : Int} {a : Int64} {b : Int64} {l : Int} {w : Int} {bk : Int} {g : Int} {gr : Int} {v : Int} (h : dyn[j]? = some (zStr n a b l w bk g gr)) (hv : v = 0 ∨ v = 1) : zpZ (zM A K I L F E dyn) (some (j + 39)) 7 6 v = some (zM A K I L F E (dyn.set j (zStr n a b l w bk v gr))) := by
  unfold zpZ zput
  rw [if_pos hv, zoStr h]
  rfl
theorem zgStr_7 {A : zIT} {K : zLT} {I : zIT} {L : zLT} {F : zFT} {E : zET} {dyn : zH} {j : Nat} {n : Int} {a : Int64} {b : Int64} {l : Int} {w : Int} {bk : Int} {g : Int} {gr : Int} (h : dyn[j]? = some (zStr n a b l w bk g gr)) : zgI (zM A K I L F E dyn) (some (j + 39)) 7 7 = some gr := by
  unfold zgI zfld
  rw [zoStr h]
  rfl
theorem zpStr_7 {A : zIT} {K : zLT} {I : zIT} {L : zLT} {F : zFT} {E : zET} {dyn : zH} {j : Nat} {n : Int} {a : Int64} {b : Int64} {l : Int} {w : Int} {bk : Int} {g : Int} {gr : Int} {v : Int} (h : dyn[j]? = some (zStr n a b l w bk g gr)) : zpI (zM A K I L F E dyn) (some (j + 39)) 7 7 v = some (zM A K I L F E (dyn.set j (zStr n a b l w bk g v))) := by
  unfold zpI zput
  rw [zoStr h]
  rfl
def zDor (n : Int) (f : Option Nat) (s : Option Nat) (g : Int) (l : Option Nat) : zCell := .inr (2, [zI n, zR f, zR s, zI g, zR l])
theorem zoDor {A : zIT} {K : zLT} {I : zIT} {L : zLT} {F : zFT} {E : zET} {dyn : zH} {j : Nat} {n : Int} {f : Option Nat} {s : Option Nat} {g : Int} {l : Option Nat} (h : dyn[j]? = some (zDor n f s g l)) : zobj (zM A K I L F E dyn) (some (j + 39)) 2 = some (j + 39, [zI n, zR f, zR s, zI g, zR l]) := by
  unfold zobj
  show ((zM A K I L F E dyn)[j + 39]?).bind _ = _
  rw [zM_dyn, h]
  rfl
theorem zgDor_0 {A : zIT} {K : zLT} {I : zIT} {L : zLT} {F : zFT} {E : zET} {dyn : zH} {j : Nat} {n : Int} {f : Option Nat} {s : Option Nat} {g : Int} {l : Option Nat} (h : dyn[j]? = some (zDor n f s g l)) : zgI (zM A K I L F E dyn) (some (j + 39)) 2 0 = some n := by
  unfold zgI zfld
  rw [zoDor h]
  rfl
theorem zpDor_0 {A : zIT} {K : zLT} {I : zIT} {L : zLT} {F : zFT} {E : zET} {dyn : zH} {j : Nat} {n : Int} {f : Option Nat} {s : Option Nat} {g : Int} {l : Option Nat} {v : Int} (h : dyn[j]? = some (zDor n f s g l)) : zpI (zM A K I L F E dyn) (some (j + 39)) 2 0 v = some (zM A K I L F E (dyn.set j (zDor v f s g l))) := by
  unfold zpI zput
  rw [zoDor h]
  rfl
theorem zgDor_1 {A : zIT} {K : zLT} {I : zIT} {L : zLT} {F : zFT} {E : zET} {dyn : zH} {j : Nat} {n : Int} {f : Option Nat} {s : Option Nat} {g : Int} {l : Option Nat} (h : dyn[j]? = some (zDor n f s g l)) : zgR (zM A K I L F E dyn) (some (j + 39)) 2 1 = some f := by
  unfold zgR zfld
  rw [zoDor h]
  rfl
theorem zpDor_1 {A : zIT} {K : zLT} {I : zIT} {L : zLT} {F : zFT} {E : zET} {dyn : zH} {j : Nat} {n : Int} {f : Option Nat} {s : Option Nat} {g : Int} {l : Option Nat} {v : Option Nat} (h : dyn[j]? = some (zDor n f s g l)) : zpR (zM A K I L F E dyn) (some (j + 39)) 2 1 v = some (zM A K I L F E (dyn.set j (zDor n v s g l))) := by
  unfold zpR zput
  rw [zoDor h]
  rfl
theorem zgDor_2 {A : zIT} {K : zLT} {I : zIT} {L : zLT} {F : zFT} {E : zET} {dyn : zH} {j : Nat} {n : Int} {f : Option Nat} {s : Option Nat} {g : Int} {l : Option Nat} (h : dyn[j]? = some (zDor n f s g l)) : zgR (zM A K I L F E dyn) (some (j + 39)) 2 2 = some s := by
  unfold zgR zfld
  rw [zoDor h]
  rfl
theorem zpDor_2 {A : zIT} {K : zLT} {I : zIT} {L : zLT} {F : zFT} {E : zET} {dyn : zH} {j : Nat} {n : Int} {f : Option Nat} {s : Option Nat} {g : Int} {l : Option Nat} {v : Option Nat} (h : dyn[j]? = some (zDor n f s g l)) : zpR (zM A K I L F E dyn) (some (j + 39)) 2 2 v = some (zM A K I L F E (dyn.set j (zDor n f v g l))) := by
  unfold zpR zput
  rw [zoDor h]
  rfl
theorem zgDor_3 {A : zIT} {K : zLT} {I : zIT} {L : zLT} {F : zFT} {E : zET} {dyn : zH} {j : Nat} {n : Int} {f : Option Nat} {s : Option Nat} {g : Int} {l : Option Nat} (h : dyn[j]? = some (zDor n f s g l)) : zgI (zM A K I L F E dyn) (some (j + 39)) 2 3 = some g := by
  unfold zgI zfld
  rw [zoDor h]
  rfl
theorem zpDor_3 {A : zIT} {K : zLT} {I : zIT} {L : zLT} {F : zFT} {E : zET} {dyn : zH} {j : Nat} {n : Int} {f : Option Nat} {s : Option Nat} {g : Int} {l : Option Nat} {v : Int} (h : dyn[j]? = some (zDor n f s g l)) (hv : v = 0 ∨ v = 1) : zpZ (zM A K I L F E dyn) (some (j + 39)) 2 3 v = some (zM A K I L F E (dyn.set j (zDor n f s v l))) := by
  unfold zpZ zput
  rw [if_pos hv, zoDor h]
  rfl
theorem zgDor_4 {A : zIT} {K : zLT} {I : zIT} {L : zLT} {F : zFT} {E : zET} {dyn : zH} {j : Nat} {n : Int} {f : Option Nat} {s : Option Nat} {g : Int} {l : Option Nat} (h : dyn[j]? = some (zDor n f s g l)) : zgR (zM A K I L F E dyn) (some (j + 39)) 2 4 = some l := by
  unfold zgR zfld
  rw [zoDor h]
  rfl
theorem zpDor_4 {A : zIT} {K : zLT} {I : zIT} {L : zLT} {F : zFT} {E : zET} {dyn : zH} {j : Nat} {n : Int} {f : Option Nat} {s : Option Nat} {g : Int} {l : Option Nat} {v : Option Nat} (h : dyn[j]? = some (zDor n f s g l)) : zpR (zM A K I L F E dyn) (some (j + 39)) 2 4 v = some (zM A K I L F E (dyn.set j (zDor n f s g v))) := by
  unfold zpR zput
  rw [zoDor h]
  rfl
def zPlc (d : Int) (s : Option Nat) (m : Int) (l : Int) (c : Int) : zCell := .inr (6, [zI d, zR s, zI m, zI l, zI c])
theorem zoPlc {A : zIT} {K : zLT} {I : zIT} {L : zLT} {F : zFT} {E : zET} {dyn : zH} {j : Nat} {d : Int} {s : Option Nat} {m : Int} {l : Int} {c : Int} (h : dyn[j]? = some (zPlc d s m l c)) : zobj (zM A K I L F E dyn) (some (j + 39)) 6 = some (j + 39, [zI d, zR s, zI m, zI l, zI c]) := by
  unfold zobj
  show ((zM A K I L F E dyn)[j + 39]?).bind _ = _
  rw [zM_dyn, h]
  rfl
theorem zgPlc_0 {A : zIT} {K : zLT} {I : zIT} {L : zLT} {F : zFT} {E : zET} {dyn : zH} {j : Nat} {d : Int} {s : Option Nat} {m : Int} {l : Int} {c : Int} (h : dyn[j]? = some (zPlc d s m l c)) : zgI (zM A K I L F E dyn) (some (j + 39)) 6 0 = some d := by
  unfold zgI zfld
  rw [zoPlc h]
  rfl
theorem zpPlc_0 {A : zIT} {K : zLT} {I : zIT} {L : zLT} {F : zFT} {E : zET} {dyn : zH} {j : Nat} {d : Int} {s : Option Nat} {m : Int} {l : Int} {c : Int} {v : Int} (h : dyn[j]? = some (zPlc d s m l c)) : zpI (zM A K I L F E dyn) (some (j + 39)) 6 0 v = some (zM A K I L F E (dyn.set j (zPlc v s m l c))) := by
  unfold zpI zput
  rw [zoPlc h]
  rfl
theorem zgPlc_1 {A : zIT} {K : zLT} {I : zIT} {L : zLT} {F : zFT} {E : zET} {dyn : zH} {j : Nat} {d : Int} {s : Option Nat} {m : Int} {l : Int} {c : Int} (h : dyn[j]? = some (zPlc d s m l c)) : zgR (zM A K I L F E dyn) (some (j + 39)) 6 1 = some s := by
  unfold zgR zfld
  rw [zoPlc h]
  rfl
theorem zpPlc_1 {A : zIT} {K : zLT} {I : zIT} {L : zLT} {F : zFT} {E : zET} {dyn : zH} {j : Nat} {d : Int} {s : Option Nat} {m : Int} {l : Int} {c : Int} {v : Option Nat} (h : dyn[j]? = some (zPlc d s m l c)) : zpR (zM A K I L F E dyn) (some (j + 39)) 6 1 v = some (zM A K I L F E (dyn.set j (zPlc d v m l c))) := by
  unfold zpR zput
  rw [zoPlc h]
  rfl
theorem zgPlc_2 {A : zIT} {K : zLT} {I : zIT} {L : zLT} {F : zFT} {E : zET} {dyn : zH} {j : Nat} {d : Int} {s : Option Nat} {m : Int} {l : Int} {c : Int} (h : dyn[j]? = some (zPlc d s m l c)) : zgI (zM A K I L F E dyn) (some (j + 39)) 6 2 = some m := by
  unfold zgI zfld
  rw [zoPlc h]
  rfl
theorem zpPlc_2 {A : zIT} {K : zLT} {I : zIT} {L : zLT} {F : zFT} {E : zET} {dyn : zH} {j : Nat} {d : Int} {s : Option Nat} {m : Int} {l : Int} {c : Int} {v : Int} (h : dyn[j]? = some (zPlc d s m l c)) : zpI (zM A K I L F E dyn) (some (j + 39)) 6 2 v = some (zM A K I L F E (dyn.set j (zPlc d s v l c))) := by
  unfold zpI zput
  rw [zoPlc h]
  rfl
theorem zgPlc_3 {A : zIT} {K : zLT} {I : zIT} {L : zLT} {F : zFT} {E : zET} {dyn : zH} {j : Nat} {d : Int} {s : Option Nat} {m : Int} {l : Int} {c : Int} (h : dyn[j]? = some (zPlc d s m l c)) : zgI (zM A K I L F E dyn) (some (j + 39)) 6 3 = some l := by
  unfold zgI zfld
  rw [zoPlc h]
  rfl
theorem zpPlc_3 {A : zIT} {K : zLT} {I : zIT} {L : zLT} {F : zFT} {E : zET} {dyn : zH} {j : Nat} {d : Int} {s : Option Nat} {m : Int} {l : Int} {c : Int} {v : Int} (h : dyn[j]? = some (zPlc d s m l c)) (hv : v = 0 ∨ v = 1) : zpZ (zM A K I L F E dyn) (some (j + 39)) 6 3 v = some (zM A K I L F E (dyn.set j (zPlc d s m v c))) := by
  unfold zpZ zput
  rw [if_pos hv, zoPlc h]
  rfl
theorem zgPlc_4 {A : zIT} {K : zLT} {I : zIT} {L : zLT} {F : zFT} {E : zET} {dyn : zH} {j : Nat} {d : Int} {s : Option Nat} {m : Int} {l : Int} {c : Int} (h : dyn[j]? = some (zPlc d s m l c)) : zgI (zM A K I L F E dyn) (some (j + 39)) 6 4 = some c := by
  unfold zgI zfld
  rw [zoPlc h]
  rfl
theorem zpPlc_4 {A : zIT} {K : zLT} {I : zIT} {L : zLT} {F : zFT} {E : zET} {dyn : zH} {j : Nat} {d : Int} {s : Option Nat} {m : Int} {l : Int} {c : Int} {v : Int} (h : dyn[j]? = some (zPlc d s m l c)) : zpI (zM A K I L F E dyn) (some (j + 39)) 6 4 v = some (zM A K I L F E (dyn.set j (zPlc d s m l v))) := by
  unfold zpI zput
  rw [zoPlc h]
  rfl
theorem zloop_run {σ ε : Type} {body : σ → Option (σ ⊕ ε)} (st : Nat → σ) {e : ε} (b : Nat) (h : ∀ i, i < b → body (st i) = some (.inl (st (i + 1)))) (hx : body (st b) = some (.inr e)) : ∀ (n a fuel : Nat), b - a = n → a ≤ b → n < fuel → zloop body fuel (st a) = some e
  | 0, a, 0, _, _, hf => absurd hf (Nat.lt_irrefl 0)
  | 0, a, f + 1, h0, h1, _ => by
    have : a = b := by omega
    subst this
    unfold zloop
    rw [hx]
    rfl
  | n + 1, a, 0, _, _, hf => absurd hf (Nat.not_lt_zero _)
  | n + 1, a, f + 1, h0, h1, hf => by
    unfold zloop
    rw [h a (by omega)]
    exact zloop_run st b h hx n (a + 1) f (by omega) (by omega) (by omega)
theorem zloop_0 {σ ε : Type} {body : σ → Option (σ ⊕ ε)} (st : Nat → σ) {e : ε} (b : Nat) (h : ∀ i, i < b → body (st i) = some (.inl (st (i + 1)))) (hx : body (st b) = some (.inr e)) (hb : b < 100000) : zloop body zN (st 0) = some e := zloop_run st b h hx b 0 zN (by omega) (by omega) hb
theorem zloop_inv {σ ε : Type} {body : σ → Option (σ ⊕ ε)} (J : Nat → σ → Prop) (Q : ε → Prop) (step : ∀ n s, J n s → (∃ m s', m < n ∧ body s = some (.inl s') ∧ J m s') ∨ (∃ e, body s = some (.inr e) ∧ Q e)) : ∀ (fuel n : Nat) (s : σ), J n s → n < fuel → ∃ e, zloop body fuel s = some e ∧ Q e
  | 0, n, s, _, hf => absurd hf (Nat.not_lt_zero _)
  | f + 1, n, s, hJ, hf => by
    unfold zloop
    rcases step n s hJ with ⟨m, s', hm, hb, hJ'⟩ | ⟨e, hb, hq⟩
    · rw [hb]
      exact zloop_inv J Q step f m s' hJ' (by omega)
    · rw [hb]
      exact ⟨e, rfl, hq⟩
theorem zloop_up {σ ε : Type} {body : σ → Option (σ ⊕ ε)} (J : Nat → σ → Prop) (Q : ε → Prop) (b : Nat) (step : ∀ i s, i < b → J i s → (∃ s', body s = some (.inl s') ∧ J (i + 1) s') ∨ (∃ e, body s = some (.inr e) ∧ Q e)) (last : ∀ s, J b s → ∃ e, body s = some (.inr e) ∧ Q e) (s : σ) (h0 : J 0 s) (hb : b < 100000) : ∃ e, zloop body zN s = some e ∧ Q e := by
  refine zloop_inv (fun n s => n ≤ b ∧ J (b - n) s) Q ?_ zN b s ⟨Nat.le_refl b, by rw [Nat.sub_self]; exact h0⟩ hb
  intro n s hs
  rcases Nat.eq_zero_or_pos n with h | h
  · subst h
    exact Or.inr (last s hs.2)
  · rcases step (b - n) s (by omega) hs.2 with ⟨s', h1, h2⟩ | h2
    · exact Or.inl ⟨n - 1, s', by omega, h1, by omega, by rw [show b - (n - 1) = b - n + 1 by omega]; exact h2⟩
    · exact Or.inr h2
def zsum (f : Nat → Int) : Nat → Int
  | 0 => 0
  | n + 1 => zsum f n + f n
theorem zsum_le {f : Nat → Int} {c : Int} (h : ∀ i, 0 ≤ f i ∧ f i ≤ c) : ∀ n : Nat, 0 ≤ zsum f n ∧ zsum f n ≤ c * n
  | 0 => by simp [zsum]
  | n + 1 => by
    have h1 := zsum_le h n
    have h2 := h n
    simp only [zsum]
    rw [Int.natCast_add, Int.mul_add]
    omega
theorem zsum_congr {f g : Nat → Int} : ∀ {n : Nat}, (∀ i, i < n → f i = g i) → zsum f n = zsum g n
  | 0, _ => rfl
  | n + 1, h => by
    simp only [zsum]
    rw [zsum_congr (fun i hi => h i (by omega)), h n (by omega)]
theorem zsum_two {f : Nat → Int} : ∀ n : Nat, zsum f (2 * n) = zsum (fun i => f (2 * i) + f (2 * i + 1)) n
  | 0 => rfl
  | n + 1 => by
    show zsum f (2 * n + 1 + 1) = _
    simp only [zsum]
    rw [zsum_two n]
    omega
theorem zsum_ext {f : Nat → Int} {n m : Nat} (h : n ≤ m) (h0 : ∀ i, n ≤ i → i < m → f i = 0) : zsum f m = zsum f n := by
  induction m with
  | zero => rw [Nat.le_zero.1 h]
  | succ k ih =>
    rcases Nat.lt_or_ge n (k + 1) with h1 | h1
    · simp only [zsum]
      rw [ih (by omega) (fun i a b => h0 i a (by omega)), h0 k (by omega) (by omega)]
      omega
    · rw [show n = k + 1 by omega]
def zex (p : Nat → Prop) (n : Nat) : Prop := ∃ i, i < n ∧ p i
theorem zex_0 {p : Nat → Prop} : ¬ zex p 0 := fun ⟨i, h, _⟩ => absurd h (Nat.not_lt_zero i)
theorem zex_s {p : Nat → Prop} {n : Nat} : zex p (n + 1) ↔ zex p n ∨ p n := by
  constructor
  · rintro ⟨i, h, hp⟩
    rcases Nat.lt_or_ge i n with h1 | h1
    · exact Or.inl ⟨i, h1, hp⟩
    · rw [show i = n by omega] at hp
      exact Or.inr hp
  · rintro (⟨i, h, hp⟩ | hp)
    · exact ⟨i, by omega, hp⟩
    · exact ⟨n, by omega, hp⟩
