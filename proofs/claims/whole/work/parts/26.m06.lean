/-! methods, as functions over the pure heap, and their contracts (by program) -/
def X8_isGiven_b5 (p1 : Option Nat) (p2 : Int) (p3 : Int) (h5 : zH) (s4 : Int × Int) : Option ((Int × Int) ⊕ (Int)) :=
  (zgI h5 p1 9 14).bind fun v7 =>
  (zchk (2 * v7)).bind fun v8 =>
  if v8 ≤ s4.2 then
    some (Sum.inr (s4.1))
  else
    (zgR h5 p1 9 8).bind fun v9 =>
    (zaI h5 0 v9 s4.2).bind fun v10 =>
    if v10 = p2 then
      (zgR h5 p1 9 11).bind fun v13 =>
      (zaI h5 0 v13 s4.2).bind fun v14 =>
      if v14 = p3 then
        (zor s4.1 1).bind fun v17 =>
        (zchk (s4.2 + 1)).bind fun v18 =>
        some (Sum.inl (v17, v18))
      else
        (zor s4.1 0).bind fun v15 =>
        (zchk (s4.2 + 1)).bind fun v16 =>
        some (Sum.inl (v15, v16))
    else
      (zor s4.1 0).bind fun v11 =>
      (zchk (s4.2 + 1)).bind fun v12 =>
      some (Sum.inl (v11, v12))
def X8_isGiven (hp : zH) (a0 : Option Nat) (a1 : Int) (a2 : Int) : Option Int :=
  (zloop (X8_isGiven_b5 a0 a1 a2 hp) zN (0, 0)).bind fun e6 =>
  (zchkZ e6).bind fun _ =>
  some e6
set_option maxRecDepth 20000 in
theorem c_X8_isGiven (hp : zH) (a0 : Option Nat) (a1 : Int) (a2 : Int) : ∀ r, X8_isGiven hp a0 a1 a2 = some r → zMi yX8_isGiven (Cond.code yX8_isGiven cX8_isGiven 5 (some .boolean) :: zALL) { frames := 0, cells := 0, slots := 0, locals := 0 } 0 0 [zR a0, zI a1, zI a2] hp r hp := by
  refine zMi_of (own := RX8) (cc := cX8_isGiven) (maxL := 5) (res := fun r => r) (hp2 := fun _ => hp) (by decide) rfl (Or.inr (Or.inl rfl)) (by exact Nat.le_of_ble_eq_true rfl) ?_
  intro K r0 X hnL hret
  have hN : ∀ i, i < 5 → i < K.2.2.2.2.2.2.2.2.2.2.2.2.2.2.1 := by rw [hnL]; exact fun _ h => h
  show zS _ _ (zJ K 0 0 0 [(0, zR a0), (1, zI a1), (2, zI a2)] [] hp)
  unfold X8_isGiven
  refine z_iconst (pc := 0) (z := 0) X dX8_isGiven_0 rfl ⟨by decide, by decide⟩ ?_
  refine z_istore_n (pc := 1) (i := 3) (lv' := [(3, zI 0), (0, zR a0), (1, zI a1), (2, zI a2)]) X dX8_isGiven_1 rfl (hN _ (by decide)) rfl ?_
  refine z_iconst (pc := 2) (z := 0) X dX8_isGiven_2 rfl ⟨by decide, by decide⟩ ?_
  refine z_istore (pc := 3) (i := 4) (lv' := [(4, zI 0), (3, zI 0), (0, zR a0), (1, zI a1), (2, zI a2)]) X dX8_isGiven_3 (hN _ (by decide)) rfl ?_
  refine z_pick [2, 3, 4, 1, 0] (lv' := [(0, zR a0), (1, zI a1), (2, zI a2), (3, zI 0), (4, zI 0)]) rfl ?_
  refine z_bind (z_loop (body := X8_isGiven_b5 a0 a1 a2 hp) (fun s4 : Int × Int => zJ K 0 0 5 [(0, zR a0), (1, zI a1), (2, zI a2), (3, zI s4.1), (4, zI s4.2)] [] hp) (fun e6 : Int => zJ K 0 0 52 [(3, zI e6)] [] hp) (fun s4 => ?_) zN (0, 0)) (fun e6 => ?_)
  · unfold X8_isGiven_b5
    refine z_iload (pc := 5) (i := 4) 4 X dX8_isGiven_5 rfl ?_
    refine z_iconst (pc := 7) (z := 2) X dX8_isGiven_7 rfl ⟨by decide, by decide⟩ ?_
    refine z_aload_n (pc := 8) (i := 0) 0 X dX8_isGiven_8 rfl rfl ?_
    refine z_getI (pc := 9) (C := RX8) (T := TX8) (N := 30) (ci := 9) 14 X dX8_isGiven_9 inz_X8 rfl (by decide) fw_X8_90 (fun v7 => ?_)
    refine z_imul (pc := 12) X dX8_isGiven_12 (fun v8 _ _ => ?_)
    refine z_icmp_ge (pc := 13) 52 X dX8_isGiven_13 (by decide) (fun _ => ?_) (fun _ => ?_)
    · refine z_pick [3] (lv' := [(3, zI s4.1)]) rfl ?_
      exact z_exit
    · refine z_iload_n (pc := 16) (i := 3) 3 X dX8_isGiven_16 rfl rfl ?_
      refine z_aload_n (pc := 17) (i := 0) 0 X dX8_isGiven_17 rfl rfl ?_
      refine z_getR (pc := 18) (C := RX8) (T := TX8) (N := 30) (ci := 9) 8 X dX8_isGiven_18 inz_X8 rfl (by decide) fw_X8_34 (fun v9 => ?_)
      refine z_iload (pc := 21) (i := 4) 4 X dX8_isGiven_21 rfl ?_
      refine z_iaload (pc := 23) X dX8_isGiven_23 (fun v10 => ?_)
      refine z_iload_n (pc := 24) (i := 1) 1 X dX8_isGiven_24 rfl rfl ?_
      refine z_icmp_ne (pc := 25) 43 X dX8_isGiven_25 (by decide) (fun _ => ?_) (fun _ => ?_)
      · refine z_iconst (pc := 43) (z := 0) X dX8_isGiven_43 rfl ⟨by decide, by decide⟩ ?_
        refine z_ior (pc := 44) X dX8_isGiven_44 (fun v11 => ?_)
        refine z_istore_n (pc := 45) (i := 3) (lv' := [(3, zI v11), (0, zR a0), (1, zI a1), (2, zI a2), (4, zI s4.2)]) X dX8_isGiven_45 rfl (hN _ (by decide)) rfl ?_
        refine z_iinc (pc := 46) (i := 4) (n := 1) (lv' := fun v12 => [(4, zI v12), (3, zI v11), (0, zR a0), (1, zI a1), (2, zI a2)]) 4 X dX8_isGiven_46 rfl (hN _ (by decide)) (fun _ => rfl) (fun v12 _ _ => ?_)
        refine z_goto (pc := 49) 5 X dX8_isGiven_49 (by decide) ?_
        refine z_pick [2, 3, 4, 1, 0] (lv' := [(0, zR a0), (1, zI a1), (2, zI a2), (3, zI v11), (4, zI v12)]) rfl ?_
        exact z_back
      · refine z_aload_n (pc := 28) (i := 0) 0 X dX8_isGiven_28 rfl rfl ?_
        refine z_getR (pc := 29) (C := RX8) (T := TX8) (N := 30) (ci := 9) 11 X dX8_isGiven_29 inz_X8 rfl (by decide) fw_X8_43 (fun v13 => ?_)
        refine z_iload (pc := 32) (i := 4) 4 X dX8_isGiven_32 rfl ?_
        refine z_iaload (pc := 34) X dX8_isGiven_34 (fun v14 => ?_)
        refine z_iload_n (pc := 35) (i := 2) 2 X dX8_isGiven_35 rfl rfl ?_
        refine z_icmp_ne (pc := 36) 43 X dX8_isGiven_36 (by decide) (fun _ => ?_) (fun _ => ?_)
        · refine z_iconst (pc := 43) (z := 0) X dX8_isGiven_43 rfl ⟨by decide, by decide⟩ ?_
          refine z_ior (pc := 44) X dX8_isGiven_44 (fun v15 => ?_)
          refine z_istore_n (pc := 45) (i := 3) (lv' := [(3, zI v15), (0, zR a0), (1, zI a1), (2, zI a2), (4, zI s4.2)]) X dX8_isGiven_45 rfl (hN _ (by decide)) rfl ?_
          refine z_iinc (pc := 46) (i := 4) (n := 1) (lv' := fun v16 => [(4, zI v16), (3, zI v15), (0, zR a0), (1, zI a1), (2, zI a2)]) 4 X dX8_isGiven_46 rfl (hN _ (by decide)) (fun _ => rfl) (fun v16 _ _ => ?_)
          refine z_goto (pc := 49) 5 X dX8_isGiven_49 (by decide) ?_
          refine z_pick [2, 3, 4, 1, 0] (lv' := [(0, zR a0), (1, zI a1), (2, zI a2), (3, zI v15), (4, zI v16)]) rfl ?_
          exact z_back
        · refine z_iconst (pc := 39) (z := 1) X dX8_isGiven_39 rfl ⟨by decide, by decide⟩ ?_
          refine z_goto (pc := 40) 44 X dX8_isGiven_40 (by decide) ?_
          refine z_ior (pc := 44) X dX8_isGiven_44 (fun v17 => ?_)
          refine z_istore_n (pc := 45) (i := 3) (lv' := [(3, zI v17), (0, zR a0), (1, zI a1), (2, zI a2), (4, zI s4.2)]) X dX8_isGiven_45 rfl (hN _ (by decide)) rfl ?_
          refine z_iinc (pc := 46) (i := 4) (n := 1) (lv' := fun v18 => [(4, zI v18), (3, zI v17), (0, zR a0), (1, zI a1), (2, zI a2)]) 4 X dX8_isGiven_46 rfl (hN _ (by decide)) (fun _ => rfl) (fun v18 _ _ => ?_)
          refine z_goto (pc := 49) 5 X dX8_isGiven_49 (by decide) ?_
          refine z_pick [2, 3, 4, 1, 0] (lv' := [(0, zR a0), (1, zI a1), (2, zI a2), (3, zI v17), (4, zI v18)]) rfl ?_
          exact z_back
  · refine z_iload_n (pc := 52) (i := 3) 0 X dX8_isGiven_52 rfl rfl ?_
    refine z_chkZ (fun hf9 => ?_)
    refine z_fin (fun e9 => ?_)
    subst e9
    exact hret _ _ _ _ (by decide) (by decide) dX8_isGiven_53 hf9
def X8_lettered_b3 (p1 : Option Nat) (p2 : Int) (p3 : Int) (h5 : zH) (s4 : Int) : Option ((Int) ⊕ ((Unit) ⊕ (Int))) :=
  if 10 ≤ s4 then
    some (Sum.inr (Sum.inl ()))
  else
    (zchk (10 * p3)).bind fun v7 =>
    (zchk (v7 + s4)).bind fun v8 =>
    ((zobj h5 p1 9).bind fun _ => X8_isGiven h5 p1 p2 v8).bind fun x9 =>
    if x9 = 0 then
      some (Sum.inr (Sum.inr (s4)))
    else
      (zchk (s4 + 1)).bind fun v10 =>
      some (Sum.inl (v10))
def X8_lettered (hp : zH) (a0 : Option Nat) (a1 : Int) (a2 : Int) (a3 : Int) : Option Int :=
  (zloop (X8_lettered_b3 a0 a1 a2 hp) zN a3).bind fun e6 =>
  match e6 with
  | Sum.inl e6 =>
    some ((-1))
  | Sum.inr e6 =>
    (zchk (10 * a2)).bind fun v11 =>
    (zchk (v11 + e6)).bind fun v12 =>
    some v12
set_option maxRecDepth 20000 in
theorem c_X8_lettered (hp : zH) (a0 : Option Nat) (a1 : Int) (a2 : Int) (a3 : Int) : ∀ r, X8_lettered hp a0 a1 a2 a3 = some r → zMi yX8_lettered (Cond.code yX8_lettered cX8_lettered 5 (some .int) :: zALL) { frames := 1, cells := 0, slots := 0, locals := 24 } 0 0 [zR a0, zI a1, zI a2, zI a3] hp r hp := by
  refine zMi_of (own := RX8) (cc := cX8_lettered) (maxL := 5) (res := fun r => r) (hp2 := fun _ => hp) (by decide) rfl (Or.inl rfl) (by exact Nat.le_of_ble_eq_true rfl) ?_
  intro K r0 X hnL hret
  have hN : ∀ i, i < 5 → i < K.2.2.2.2.2.2.2.2.2.2.2.2.2.2.1 := by rw [hnL]; exact fun _ h => h
  show zS _ _ (zJ K 0 0 0 [(0, zR a0), (1, zI a1), (2, zI a2), (3, zI a3)] [] hp)
  unfold X8_lettered
  refine z_iload_n (pc := 0) (i := 3) 3 X dX8_lettered_0 rfl rfl ?_
  refine z_istore (pc := 1) (i := 4) (lv' := [(4, zI a3), (0, zR a0), (1, zI a1), (2, zI a2), (3, zI a3)]) X dX8_lettered_1 (hN _ (by decide)) rfl ?_
  refine z_pick [1, 2, 3, 0] (lv' := [(0, zR a0), (1, zI a1), (2, zI a2), (4, zI a3)]) rfl ?_
  refine z_bind (z_loop (body := X8_lettered_b3 a0 a1 a2 hp) (fun s4 : Int => zJ K 0 0 3 [(0, zR a0), (1, zI a1), (2, zI a2), (4, zI s4)] [] hp) (fun e6 : ((Unit) ⊕ (Int)) => (match e6 with | Sum.inl e6 => zJ K 0 0 39 [] [] hp | Sum.inr e6 => zJ K 0 0 25 [(2, zI a2), (4, zI e6)] [] hp)) (fun s4 => ?_) zN a3) (fun e6 => ?_)
  · unfold X8_lettered_b3
    refine z_iload (pc := 3) (i := 4) 3 X dX8_lettered_3 rfl ?_
    refine z_bipush (pc := 5) (z := 10) X dX8_lettered_5 rfl ⟨by decide, by decide⟩ ?_
    refine z_icmp_ge (pc := 7) 39 X dX8_lettered_7 (by decide) (fun _ => ?_) (fun _ => ?_)
    · refine z_pick [] (lv' := []) rfl ?_
      exact z_exit
    · refine z_aload_n (pc := 10) (i := 0) 0 X dX8_lettered_10 rfl rfl ?_
      refine z_iload_n (pc := 11) (i := 1) 1 X dX8_lettered_11 rfl rfl ?_
      refine z_bipush (pc := 12) (z := 10) X dX8_lettered_12 rfl ⟨by decide, by decide⟩ ?_
      refine z_iload_n (pc := 14) (i := 2) 2 X dX8_lettered_14 rfl rfl ?_
      refine z_imul (pc := 15) X dX8_lettered_15 (fun v7 _ _ => ?_)
      refine z_iload (pc := 16) (i := 4) 3 X dX8_lettered_16 rfl ?_
      refine z_iadd (pc := 18) X dX8_lettered_18 (fun v8 _ _ => ?_)
      refine z_callV_i (pc := 19) (cells := 0) (slots := 0) (C := RX8) (T := TX8) (N := 30) (ci := 9) [zI a1, zI v8] X dX8_lettered_19 (c_X8_isGiven hp a0 a1 v8) kw_X8_140 rfl rfl ⟨rfl, rfl, ⟨by decide, by decide⟩, ⟨by decide, by decide⟩⟩ (Nat.le_of_ble_eq_true rfl) rfl (fun x9 => ?_)
      refine z_if_ne (pc := 22) 33 X dX8_lettered_22 (by decide) (fun _ => ?_) (fun _ => ?_)
      · refine z_iinc (pc := 33) (i := 4) (n := 1) (lv' := fun v10 => [(4, zI v10), (0, zR a0), (1, zI a1), (2, zI a2)]) 3 X dX8_lettered_33 rfl (hN _ (by decide)) (fun _ => rfl) (fun v10 _ _ => ?_)
        refine z_goto (pc := 36) 3 X dX8_lettered_36 (by decide) ?_
        refine z_pick [1, 2, 3, 0] (lv' := [(0, zR a0), (1, zI a1), (2, zI a2), (4, zI v10)]) rfl ?_
        exact z_back
      · refine z_pick [2, 3] (lv' := [(2, zI a2), (4, zI s4)]) rfl ?_
        exact z_exit
  · rcases e6 with e6 | e6
    · refine z_iconst (pc := 39) (z := -1) X dX8_lettered_39 rfl ⟨by decide, by decide⟩ ?_
      refine z_fin (fun e9 => ?_)
      subst e9
      exact hret _ _ _ _ (by decide) (by decide) dX8_lettered_40 trivial
    · refine z_bipush (pc := 25) (z := 10) X dX8_lettered_25 rfl ⟨by decide, by decide⟩ ?_
      refine z_iload_n (pc := 27) (i := 2) 0 X dX8_lettered_27 rfl rfl ?_
      refine z_imul (pc := 28) X dX8_lettered_28 (fun v11 _ _ => ?_)
      refine z_iload (pc := 29) (i := 4) 1 X dX8_lettered_29 rfl ?_
      refine z_iadd (pc := 31) X dX8_lettered_31 (fun v12 _ _ => ?_)
      refine z_fin (fun e9 => ?_)
      subst e9
      exact hret _ _ _ _ (by decide) (by decide) dX8_lettered_32 trivial
def X8_isNumberGiven_b5 (p1 : Option Nat) (p2 : Int) (p3 : Int) (h5 : zH) (s4 : Int × Int) : Option ((Int × Int) ⊕ (Int)) :=
  (zgI h5 p1 9 14).bind fun v7 =>
  (zchk (2 * v7)).bind fun v8 =>
  if v8 ≤ s4.2 then
    some (Sum.inr (s4.1))
  else
    (zgR h5 p1 9 8).bind fun v9 =>
    (zaI h5 0 v9 s4.2).bind fun v10 =>
    if v10 = p2 then
      (zgR h5 p1 9 11).bind fun v13 =>
      (zaI h5 0 v13 s4.2).bind fun v14 =>
      if v14 < 0 then
        (zor s4.1 0).bind fun v15 =>
        (zchk (s4.2 + 1)).bind fun v16 =>
        some (Sum.inl (v15, v16))
      else
        (zgR h5 p1 9 11).bind fun v17 =>
        (zaI h5 0 v17 s4.2).bind fun v18 =>
        (zdiv v18 10).bind fun v19 =>
        if v19 = p3 then
          (zor s4.1 1).bind fun v22 =>
          (zchk (s4.2 + 1)).bind fun v23 =>
          some (Sum.inl (v22, v23))
        else
          (zor s4.1 0).bind fun v20 =>
          (zchk (s4.2 + 1)).bind fun v21 =>
          some (Sum.inl (v20, v21))
    else
      (zor s4.1 0).bind fun v11 =>
      (zchk (s4.2 + 1)).bind fun v12 =>
      some (Sum.inl (v11, v12))
def X8_isNumberGiven (hp : zH) (a0 : Option Nat) (a1 : Int) (a2 : Int) : Option Int :=
  (zloop (X8_isNumberGiven_b5 a0 a1 a2 hp) zN (0, 0)).bind fun e6 =>
  (zchkZ e6).bind fun _ =>
  some e6
set_option maxRecDepth 20000 in
theorem c_X8_isNumberGiven (hp : zH) (a0 : Option Nat) (a1 : Int) (a2 : Int) : ∀ r, X8_isNumberGiven hp a0 a1 a2 = some r → zMi yX8_isNumberGiven (Cond.code yX8_isNumberGiven cX8_isNumberGiven 5 (some .boolean) :: zALL) { frames := 0, cells := 0, slots := 0, locals := 0 } 0 0 [zR a0, zI a1, zI a2] hp r hp := by
  refine zMi_of (own := RX8) (cc := cX8_isNumberGiven) (maxL := 5) (res := fun r => r) (hp2 := fun _ => hp) (by decide) rfl (Or.inr (Or.inl rfl)) (by exact Nat.le_of_ble_eq_true rfl) ?_
  intro K r0 X hnL hret
  have hN : ∀ i, i < 5 → i < K.2.2.2.2.2.2.2.2.2.2.2.2.2.2.1 := by rw [hnL]; exact fun _ h => h
  show zS _ _ (zJ K 0 0 0 [(0, zR a0), (1, zI a1), (2, zI a2)] [] hp)
  unfold X8_isNumberGiven
  refine z_iconst (pc := 0) (z := 0) X dX8_isNumberGiven_0 rfl ⟨by decide, by decide⟩ ?_
  refine z_istore_n (pc := 1) (i := 3) (lv' := [(3, zI 0), (0, zR a0), (1, zI a1), (2, zI a2)]) X dX8_isNumberGiven_1 rfl (hN _ (by decide)) rfl ?_
  refine z_iconst (pc := 2) (z := 0) X dX8_isNumberGiven_2 rfl ⟨by decide, by decide⟩ ?_
  refine z_istore (pc := 3) (i := 4) (lv' := [(4, zI 0), (3, zI 0), (0, zR a0), (1, zI a1), (2, zI a2)]) X dX8_isNumberGiven_3 (hN _ (by decide)) rfl ?_
  refine z_pick [2, 3, 4, 1, 0] (lv' := [(0, zR a0), (1, zI a1), (2, zI a2), (3, zI 0), (4, zI 0)]) rfl ?_
  refine z_bind (z_loop (body := X8_isNumberGiven_b5 a0 a1 a2 hp) (fun s4 : Int × Int => zJ K 0 0 5 [(0, zR a0), (1, zI a1), (2, zI a2), (3, zI s4.1), (4, zI s4.2)] [] hp) (fun e6 : Int => zJ K 0 0 65 [(3, zI e6)] [] hp) (fun s4 => ?_) zN (0, 0)) (fun e6 => ?_)
  · unfold X8_isNumberGiven_b5
    refine z_iload (pc := 5) (i := 4) 4 X dX8_isNumberGiven_5 rfl ?_
    refine z_iconst (pc := 7) (z := 2) X dX8_isNumberGiven_7 rfl ⟨by decide, by decide⟩ ?_
    refine z_aload_n (pc := 8) (i := 0) 0 X dX8_isNumberGiven_8 rfl rfl ?_
    refine z_getI (pc := 9) (C := RX8) (T := TX8) (N := 30) (ci := 9) 14 X dX8_isNumberGiven_9 inz_X8 rfl (by decide) fw_X8_90 (fun v7 => ?_)
    refine z_imul (pc := 12) X dX8_isNumberGiven_12 (fun v8 _ _ => ?_)
    refine z_icmp_ge (pc := 13) 65 X dX8_isNumberGiven_13 (by decide) (fun _ => ?_) (fun _ => ?_)
    · refine z_pick [3] (lv' := [(3, zI s4.1)]) rfl ?_
      exact z_exit
    · refine z_iload_n (pc := 16) (i := 3) 3 X dX8_isNumberGiven_16 rfl rfl ?_
      refine z_aload_n (pc := 17) (i := 0) 0 X dX8_isNumberGiven_17 rfl rfl ?_
      refine z_getR (pc := 18) (C := RX8) (T := TX8) (N := 30) (ci := 9) 8 X dX8_isNumberGiven_18 inz_X8 rfl (by decide) fw_X8_34 (fun v9 => ?_)
      refine z_iload (pc := 21) (i := 4) 4 X dX8_isNumberGiven_21 rfl ?_
      refine z_iaload (pc := 23) X dX8_isNumberGiven_23 (fun v10 => ?_)
      refine z_iload_n (pc := 24) (i := 1) 1 X dX8_isNumberGiven_24 rfl rfl ?_
      refine z_icmp_ne (pc := 25) 56 X dX8_isNumberGiven_25 (by decide) (fun _ => ?_) (fun _ => ?_)
      · refine z_iconst (pc := 56) (z := 0) X dX8_isNumberGiven_56 rfl ⟨by decide, by decide⟩ ?_
        refine z_ior (pc := 57) X dX8_isNumberGiven_57 (fun v11 => ?_)
        refine z_istore_n (pc := 58) (i := 3) (lv' := [(3, zI v11), (0, zR a0), (1, zI a1), (2, zI a2), (4, zI s4.2)]) X dX8_isNumberGiven_58 rfl (hN _ (by decide)) rfl ?_
        refine z_iinc (pc := 59) (i := 4) (n := 1) (lv' := fun v12 => [(4, zI v12), (3, zI v11), (0, zR a0), (1, zI a1), (2, zI a2)]) 4 X dX8_isNumberGiven_59 rfl (hN _ (by decide)) (fun _ => rfl) (fun v12 _ _ => ?_)
        refine z_goto (pc := 62) 5 X dX8_isNumberGiven_62 (by decide) ?_
        refine z_pick [2, 3, 4, 1, 0] (lv' := [(0, zR a0), (1, zI a1), (2, zI a2), (3, zI v11), (4, zI v12)]) rfl ?_
        exact z_back
      · refine z_aload_n (pc := 28) (i := 0) 0 X dX8_isNumberGiven_28 rfl rfl ?_
        refine z_getR (pc := 29) (C := RX8) (T := TX8) (N := 30) (ci := 9) 11 X dX8_isNumberGiven_29 inz_X8 rfl (by decide) fw_X8_43 (fun v13 => ?_)
        refine z_iload (pc := 32) (i := 4) 4 X dX8_isNumberGiven_32 rfl ?_
        refine z_iaload (pc := 34) X dX8_isNumberGiven_34 (fun v14 => ?_)
        refine z_if_lt (pc := 35) 56 X dX8_isNumberGiven_35 (by decide) (fun _ => ?_) (fun _ => ?_)
        · refine z_iconst (pc := 56) (z := 0) X dX8_isNumberGiven_56 rfl ⟨by decide, by decide⟩ ?_
          refine z_ior (pc := 57) X dX8_isNumberGiven_57 (fun v15 => ?_)
          refine z_istore_n (pc := 58) (i := 3) (lv' := [(3, zI v15), (0, zR a0), (1, zI a1), (2, zI a2), (4, zI s4.2)]) X dX8_isNumberGiven_58 rfl (hN _ (by decide)) rfl ?_
          refine z_iinc (pc := 59) (i := 4) (n := 1) (lv' := fun v16 => [(4, zI v16), (3, zI v15), (0, zR a0), (1, zI a1), (2, zI a2)]) 4 X dX8_isNumberGiven_59 rfl (hN _ (by decide)) (fun _ => rfl) (fun v16 _ _ => ?_)
          refine z_goto (pc := 62) 5 X dX8_isNumberGiven_62 (by decide) ?_
          refine z_pick [2, 3, 4, 1, 0] (lv' := [(0, zR a0), (1, zI a1), (2, zI a2), (3, zI v15), (4, zI v16)]) rfl ?_
          exact z_back
        · refine z_aload_n (pc := 38) (i := 0) 0 X dX8_isNumberGiven_38 rfl rfl ?_
          refine z_getR (pc := 39) (C := RX8) (T := TX8) (N := 30) (ci := 9) 11 X dX8_isNumberGiven_39 inz_X8 rfl (by decide) fw_X8_43 (fun v17 => ?_)
          refine z_iload (pc := 42) (i := 4) 4 X dX8_isNumberGiven_42 rfl ?_
          refine z_iaload (pc := 44) X dX8_isNumberGiven_44 (fun v18 => ?_)
          refine z_bipush (pc := 45) (z := 10) X dX8_isNumberGiven_45 rfl ⟨by decide, by decide⟩ ?_
          refine z_idiv (pc := 47) X dX8_isNumberGiven_47 (fun v19 => ?_)
          refine z_iload_n (pc := 48) (i := 2) 2 X dX8_isNumberGiven_48 rfl rfl ?_
          refine z_icmp_ne (pc := 49) 56 X dX8_isNumberGiven_49 (by decide) (fun _ => ?_) (fun _ => ?_)
          · refine z_iconst (pc := 56) (z := 0) X dX8_isNumberGiven_56 rfl ⟨by decide, by decide⟩ ?_
            refine z_ior (pc := 57) X dX8_isNumberGiven_57 (fun v20 => ?_)
            refine z_istore_n (pc := 58) (i := 3) (lv' := [(3, zI v20), (0, zR a0), (1, zI a1), (2, zI a2), (4, zI s4.2)]) X dX8_isNumberGiven_58 rfl (hN _ (by decide)) rfl ?_
            refine z_iinc (pc := 59) (i := 4) (n := 1) (lv' := fun v21 => [(4, zI v21), (3, zI v20), (0, zR a0), (1, zI a1), (2, zI a2)]) 4 X dX8_isNumberGiven_59 rfl (hN _ (by decide)) (fun _ => rfl) (fun v21 _ _ => ?_)
            refine z_goto (pc := 62) 5 X dX8_isNumberGiven_62 (by decide) ?_
            refine z_pick [2, 3, 4, 1, 0] (lv' := [(0, zR a0), (1, zI a1), (2, zI a2), (3, zI v20), (4, zI v21)]) rfl ?_
            exact z_back
          · refine z_iconst (pc := 52) (z := 1) X dX8_isNumberGiven_52 rfl ⟨by decide, by decide⟩ ?_
            refine z_goto (pc := 53) 57 X dX8_isNumberGiven_53 (by decide) ?_
            refine z_ior (pc := 57) X dX8_isNumberGiven_57 (fun v22 => ?_)
            refine z_istore_n (pc := 58) (i := 3) (lv' := [(3, zI v22), (0, zR a0), (1, zI a1), (2, zI a2), (4, zI s4.2)]) X dX8_isNumberGiven_58 rfl (hN _ (by decide)) rfl ?_
            refine z_iinc (pc := 59) (i := 4) (n := 1) (lv' := fun v23 => [(4, zI v23), (3, zI v22), (0, zR a0), (1, zI a1), (2, zI a2)]) 4 X dX8_isNumberGiven_59 rfl (hN _ (by decide)) (fun _ => rfl) (fun v23 _ _ => ?_)
            refine z_goto (pc := 62) 5 X dX8_isNumberGiven_62 (by decide) ?_
            refine z_pick [2, 3, 4, 1, 0] (lv' := [(0, zR a0), (1, zI a1), (2, zI a2), (3, zI v22), (4, zI v23)]) rfl ?_
            exact z_back
  · refine z_iload_n (pc := 65) (i := 3) 0 X dX8_isNumberGiven_65 rfl rfl ?_
    refine z_chkZ (fun hf9 => ?_)
    refine z_fin (fun e9 => ?_)
    subst e9
    exact hret _ _ _ _ (by decide) (by decide) dX8_isNumberGiven_66 hf9
def X8_comes_j161 (p6 : Option Nat) (p7 : Int) (h12 : zH) (s11 : Int × Int × Int) : Option ((Int × Int × Int) ⊕ (Int × Int)) :=
  if s11.1 = (-1) then
    (zchk (s11.2.2 + 1)).bind fun v27 =>
    some (Sum.inl (s11.2.2, s11.2.1, v27))
  else
    ((zobj h12 p6 9).bind fun _ => X8_isFarther h12 p6 p7 s11.2.2 s11.1).bind fun x28 =>
    if x28 = 0 then
      (zchk (s11.2.2 + 1)).bind fun v29 =>
      some (Sum.inl (s11.1, s11.2.1, v29))
    else
      (zchk (s11.2.2 + 1)).bind fun v30 =>
      some (Sum.inl (s11.2.2, s11.2.1, v30))
def X8_comes_j191 (p6 : Option Nat) (p7 : Int) (h12 : zH) (s11 : Int × Int × Int) : Option ((Int × Int × Int) ⊕ (Int × Int)) :=
  if s11.2.1 = (-1) then
    (zchk (s11.2.2 + 1)).bind fun v31 =>
    some (Sum.inl (s11.1, s11.2.2, v31))
  else
    ((zobj h12 p6 9).bind fun _ => X8_isFarther h12 p6 p7 s11.2.1 s11.2.2).bind fun x32 =>
    if x32 = 0 then
      (zchk (s11.2.2 + 1)).bind fun v33 =>
      some (Sum.inl (s11.1, s11.2.1, v33))
    else
      (zchk (s11.2.2 + 1)).bind fun v34 =>
      some (Sum.inl (s11.1, s11.2.2, v34))
def X8_comes_b78 (p6 : Option Nat) (p7 : Int) (p8 : Int) (p9 : Int) (p10 : Int) (h12 : zH) (s11 : Int × Int × Int) : Option ((Int × Int × Int) ⊕ (Int × Int)) :=
  (zgI h12 p6 9 14).bind fun v14 =>
  (zchk (2 * v14)).bind fun v15 =>
  if v15 ≤ s11.2.2 then
    some (Sum.inr (s11.1, s11.2.1))
  else
    (zgR h12 p6 9 8).bind fun v16 =>
    (zaI h12 0 v16 s11.2.2).bind fun v17 =>
    if v17 = p7 then
      (zgR h12 p6 9 11).bind fun v19 =>
      (zaI h12 0 v19 s11.2.2).bind fun v20 =>
      if v20 < 0 then
        (zchk (s11.2.2 + 1)).bind fun v21 =>
        some (Sum.inl (s11.1, s11.2.1, v21))
      else
        (zgR h12 p6 9 10).bind fun v22 =>
        (zaI h12 3 v22 s11.2.2).bind fun v23 =>
        if v23 = p9 then
          (zgR h12 p6 9 9).bind fun v24 =>
          (zaI h12 0 v24 s11.2.2).bind fun v25 =>
          ((zobj h12 p6 9).bind fun _ => X8_from h12 p6 p7 v25).bind fun x26 =>
          if x26 < p10 then
            X8_comes_j161 p6 p7 h12 s11
          else
            if x26 = p10 then
              (zdiv s11.2.2 2).bind fun v35 =>
              if p8 ≤ v35 then
                X8_comes_j191 p6 p7 h12 s11
              else
                X8_comes_j161 p6 p7 h12 s11
            else
              X8_comes_j191 p6 p7 h12 s11
        else
          (zchk (s11.2.2 + 1)).bind fun v36 =>
          some (Sum.inl (s11.1, s11.2.1, v36))
    else
      (zchk (s11.2.2 + 1)).bind fun v18 =>
      some (Sum.inl (s11.1, s11.2.1, v18))
def X8_comes_b260 (p39 : Option Nat) (p40 : Int) (p41 : Int) (p42 : Int) (p43 : Int) (h45 : zH) (s44 : Int) : Option ((Int) ⊕ (Int)) :=
  if s44 ≤ p43 then
    (zchk (s44 + 2)).bind fun v47 =>
    some (Sum.inl (v47))
  else
    ((zobj h45 p39 9).bind fun _ => X8_isNumberGiven h45 p39 p40 s44).bind fun x48 =>
    if x48 = 0 then
      some (Sum.inr (s44))
    else
      (zchk (s44 + 2)).bind fun v49 =>
      some (Sum.inl (v49))
def X8_comes_j258 (hp : zH) (a0 : Option Nat) (a1 : Int) (e13 : Int × Int) (j37 : Int) (j38 : Int) : Option Int :=
  (zloop (X8_comes_b260 a0 a1 e13.1 e13.2 j37 hp) zN j38).bind fun e46 =>
  if e13.2 = (-1) then
    (zchk (10 * e46)).bind fun v50 =>
    some v50
  else
    (zgR hp a0 9 11).bind fun v51 =>
    (zaI hp 0 v51 e13.2).bind fun v52 =>
    (zdiv v52 10).bind fun v53 =>
    if v53 ≤ e46 then
      if e13.1 = (-1) then
        (zgR hp a0 9 11).bind fun v54 =>
        (zaI hp 0 v54 e13.2).bind fun v55 =>
        (zdiv v55 10).bind fun v56 =>
        ((zobj hp a0 9).bind fun _ => X8_lettered hp a0 a1 v56 1).bind fun x57 =>
        some x57
      else
        ((zobj hp a0 9).bind fun _ => X8_lettered hp a0 a1 j37 1).bind fun x58 =>
        some x58
    else
      (zchk (10 * e46)).bind fun v59 =>
      some v59
def X8_comes_j244 (hp : zH) (a0 : Option Nat) (a1 : Int) (a4 : Int) (e13 : Int × Int) (j37 : Int) : Option Int :=
  if a4 = 108 then
    X8_comes_j258 hp a0 a1 e13 j37 1
  else
    X8_comes_j258 hp a0 a1 e13 j37 2
def X8_comes (hp : zH) (a0 : Option Nat) (a1 : Int) (a2 : Int) (a3 : Int) (a4 : Int) : Option Int :=
  ((zobj hp a0 9).bind fun _ => X8_from hp a0 a1 a3).bind fun x1 =>
  (zgR hp a0 9 3).bind fun v2 =>
  (zaI hp 3 v2 a1).bind fun v3 =>
  if v3 = 109 then
    (zdiv x1 10).bind fun v67 =>
    (zchk (2 * v67)).bind fun v68 =>
    if a4 = 108 then
      (zchk (v68 + 1)).bind fun v71 =>
      ((zobj hp a0 9).bind fun _ => X8_lettered hp a0 a1 v71 0).bind fun x72 =>
      some x72
    else
      (zchk (v68 + 2)).bind fun v69 =>
      ((zobj hp a0 9).bind fun _ => X8_lettered hp a0 a1 v69 0).bind fun x70 =>
      some x70
  else
    (zgR hp a0 9 3).bind fun v4 =>
    (zaI hp 3 v4 a1).bind fun v5 =>
    if v5 = 121 then
      (zgR hp a0 9 6).bind fun v63 =>
      (zaI hp 0 v63 a1).bind fun v64 =>
      (zchk (v64 + 1)).bind fun v65 =>
      (zchk (10 * v65)).bind fun v66 =>
      some v66
    else
      (zloop (X8_comes_b78 a0 a1 a2 a4 x1 hp) zN ((-1), (-1), 0)).bind fun e13 =>
      if e13.1 = (-1) then
        X8_comes_j244 hp a0 a1 a4 e13 0
      else
        (zgR hp a0 9 11).bind fun v60 =>
        (zaI hp 0 v60 e13.1).bind fun v61 =>
        (zdiv v61 10).bind fun v62 =>
        X8_comes_j244 hp a0 a1 a4 e13 v62
set_option maxRecDepth 20000 in
theorem c_X8_comes (hp : zH) (a0 : Option Nat) (a1 : Int) (a2 : Int) (a3 : Int) (a4 : Int) : ∀ r, X8_comes hp a0 a1 a2 a3 a4 = some r → zMi yX8_comes (Cond.code yX8_comes cX8_comes 10 (some .int) :: zALL) { frames := 2, cells := 0, slots := 0, locals := 48 } 0 0 [zR a0, zI a1, zI a2, zI a3, zI a4] hp r hp := by
  refine zMi_of (own := RX8) (cc := cX8_comes) (maxL := 10) (res := fun r => r) (hp2 := fun _ => hp) (by decide) rfl (Or.inl rfl) (by exact Nat.le_of_ble_eq_true rfl) ?_
  intro K r0 X hnL hret
  have hN : ∀ i, i < 10 → i < K.2.2.2.2.2.2.2.2.2.2.2.2.2.2.1 := by rw [hnL]; exact fun _ h => h
  show zS _ _ (zJ K 0 0 0 [(0, zR a0), (1, zI a1), (2, zI a2), (3, zI a3), (4, zI a4)] [] hp)
  unfold X8_comes
  refine z_aload_n (pc := 0) (i := 0) 0 X dX8_comes_0 rfl rfl ?_
  refine z_iload_n (pc := 1) (i := 1) 1 X dX8_comes_1 rfl rfl ?_
  refine z_iload_n (pc := 2) (i := 3) 3 X dX8_comes_2 rfl rfl ?_
  refine z_callV_i (pc := 3) (cells := 0) (slots := 0) (C := RX8) (T := TX8) (N := 30) (ci := 9) [zI a1, zI a3] X dX8_comes_3 (c_X8_from hp a0 a1 a3) kw_X8_144 rfl rfl ⟨rfl, rfl, ⟨by decide, by decide⟩, ⟨by decide, by decide⟩⟩ (Nat.le_of_ble_eq_true rfl) rfl (fun x1 => ?_)
  refine z_istore (pc := 6) (i := 5) (lv' := [(5, zI x1), (0, zR a0), (1, zI a1), (2, zI a2), (3, zI a3), (4, zI a4)]) X dX8_comes_6 (hN _ (by decide)) rfl ?_
  refine z_aload_n (pc := 8) (i := 0) 1 X dX8_comes_8 rfl rfl ?_
  refine z_getR (pc := 9) (C := RX8) (T := TX8) (N := 30) (ci := 9) 3 X dX8_comes_9 inz_X8 rfl (by decide) fw_X8_20 (fun v2 => ?_)
  refine z_iload_n (pc := 12) (i := 1) 2 X dX8_comes_12 rfl rfl ?_
  refine z_caload (pc := 13) X dX8_comes_13 (fun v3 => ?_)
  refine z_bipush (pc := 14) (z := 109) X dX8_comes_14 rfl ⟨by decide, by decide⟩ ?_
  refine z_icmp_ne (pc := 16) 46 X dX8_comes_16 (by decide) (fun _ => ?_) (fun _ => ?_)
  · refine z_aload_n (pc := 46) (i := 0) 1 X dX8_comes_46 rfl rfl ?_
    refine z_getR (pc := 47) (C := RX8) (T := TX8) (N := 30) (ci := 9) 3 X dX8_comes_47 inz_X8 rfl (by decide) fw_X8_20 (fun v4 => ?_)
    refine z_iload_n (pc := 50) (i := 1) 2 X dX8_comes_50 rfl rfl ?_
    refine z_caload (pc := 51) X dX8_comes_51 (fun v5 => ?_)
    refine z_bipush (pc := 52) (z := 121) X dX8_comes_52 rfl ⟨by decide, by decide⟩ ?_
    refine z_icmp_ne (pc := 54) 69 X dX8_comes_54 (by decide) (fun _ => ?_) (fun _ => ?_)
    · refine z_iconst (pc := 69) (z := -1) X dX8_comes_69 rfl ⟨by decide, by decide⟩ ?_
      refine z_istore (pc := 70) (i := 6) (lv' := [(6, zI (-1)), (5, zI x1), (0, zR a0), (1, zI a1), (2, zI a2), (3, zI a3), (4, zI a4)]) X dX8_comes_70 (hN _ (by decide)) rfl ?_
      refine z_iconst (pc := 72) (z := -1) X dX8_comes_72 rfl ⟨by decide, by decide⟩ ?_
      refine z_istore (pc := 73) (i := 7) (lv' := [(7, zI (-1)), (6, zI (-1)), (5, zI x1), (0, zR a0), (1, zI a1), (2, zI a2), (3, zI a3), (4, zI a4)]) X dX8_comes_73 (hN _ (by decide)) rfl ?_
      refine z_iconst (pc := 75) (z := 0) X dX8_comes_75 rfl ⟨by decide, by decide⟩ ?_
      refine z_istore (pc := 76) (i := 8) (lv' := [(8, zI 0), (7, zI (-1)), (6, zI (-1)), (5, zI x1), (0, zR a0), (1, zI a1), (2, zI a2), (3, zI a3), (4, zI a4)]) X dX8_comes_76 (hN _ (by decide)) rfl ?_
      refine z_pick [4, 5, 6, 8, 3, 2, 1, 0] (lv' := [(0, zR a0), (1, zI a1), (2, zI a2), (4, zI a4), (5, zI x1), (6, zI (-1)), (7, zI (-1)), (8, zI 0)]) rfl ?_
      refine z_bind (z_loop (body := X8_comes_b78 a0 a1 a2 a4 x1 hp) (fun s11 : Int × Int × Int => zJ K 0 0 78 [(0, zR a0), (1, zI a1), (2, zI a2), (4, zI a4), (5, zI x1), (6, zI s11.1), (7, zI s11.2.1), (8, zI s11.2.2)] [] hp) (fun e13 : Int × Int => zJ K 0 0 224 [(0, zR a0), (1, zI a1), (4, zI a4), (6, zI e13.1), (7, zI e13.2)] [] hp) (fun s11 => ?_) zN ((-1), (-1), 0)) (fun e13 => ?_)
      · unfold X8_comes_b78
        refine z_iload (pc := 78) (i := 8) 7 X dX8_comes_78 rfl ?_
        refine z_iconst (pc := 80) (z := 2) X dX8_comes_80 rfl ⟨by decide, by decide⟩ ?_
        refine z_aload_n (pc := 81) (i := 0) 0 X dX8_comes_81 rfl rfl ?_
        refine z_getI (pc := 82) (C := RX8) (T := TX8) (N := 30) (ci := 9) 14 X dX8_comes_82 inz_X8 rfl (by decide) fw_X8_90 (fun v14 => ?_)
        refine z_imul (pc := 85) X dX8_comes_85 (fun v15 _ _ => ?_)
        refine z_icmp_ge (pc := 86) 224 X dX8_comes_86 (by decide) (fun _ => ?_) (fun _ => ?_)
        · refine z_pick [0, 1, 3, 5, 6] (lv' := [(0, zR a0), (1, zI a1), (4, zI a4), (6, zI s11.1), (7, zI s11.2.1)]) rfl ?_
          exact z_exit
        · refine z_aload_n (pc := 89) (i := 0) 0 X dX8_comes_89 rfl rfl ?_
          refine z_getR (pc := 90) (C := RX8) (T := TX8) (N := 30) (ci := 9) 8 X dX8_comes_90 inz_X8 rfl (by decide) fw_X8_34 (fun v16 => ?_)
          refine z_iload (pc := 93) (i := 8) 7 X dX8_comes_93 rfl ?_
          refine z_iaload (pc := 95) X dX8_comes_95 (fun v17 => ?_)
          refine z_iload_n (pc := 96) (i := 1) 1 X dX8_comes_96 rfl rfl ?_
          refine z_icmp_ne (pc := 97) 218 X dX8_comes_97 (by decide) (fun _ => ?_) (fun _ => ?_)
          · refine z_iinc (pc := 218) (i := 8) (n := 1) (lv' := fun v18 => [(8, zI v18), (0, zR a0), (1, zI a1), (2, zI a2), (4, zI a4), (5, zI x1), (6, zI s11.1), (7, zI s11.2.1)]) 7 X dX8_comes_218 rfl (hN _ (by decide)) (fun _ => rfl) (fun v18 _ _ => ?_)
            refine z_goto (pc := 221) 78 X dX8_comes_221 (by decide) ?_
            refine z_pick [1, 2, 3, 4, 5, 6, 7, 0] (lv' := [(0, zR a0), (1, zI a1), (2, zI a2), (4, zI a4), (5, zI x1), (6, zI s11.1), (7, zI s11.2.1), (8, zI v18)]) rfl ?_
            exact z_back
          · refine z_aload_n (pc := 100) (i := 0) 0 X dX8_comes_100 rfl rfl ?_
            refine z_getR (pc := 101) (C := RX8) (T := TX8) (N := 30) (ci := 9) 11 X dX8_comes_101 inz_X8 rfl (by decide) fw_X8_43 (fun v19 => ?_)
            refine z_iload (pc := 104) (i := 8) 7 X dX8_comes_104 rfl ?_
            refine z_iaload (pc := 106) X dX8_comes_106 (fun v20 => ?_)
            refine z_if_lt (pc := 107) 218 X dX8_comes_107 (by decide) (fun _ => ?_) (fun _ => ?_)
            · refine z_iinc (pc := 218) (i := 8) (n := 1) (lv' := fun v21 => [(8, zI v21), (0, zR a0), (1, zI a1), (2, zI a2), (4, zI a4), (5, zI x1), (6, zI s11.1), (7, zI s11.2.1)]) 7 X dX8_comes_218 rfl (hN _ (by decide)) (fun _ => rfl) (fun v21 _ _ => ?_)
              refine z_goto (pc := 221) 78 X dX8_comes_221 (by decide) ?_
              refine z_pick [1, 2, 3, 4, 5, 6, 7, 0] (lv' := [(0, zR a0), (1, zI a1), (2, zI a2), (4, zI a4), (5, zI x1), (6, zI s11.1), (7, zI s11.2.1), (8, zI v21)]) rfl ?_
              exact z_back
            · refine z_aload_n (pc := 110) (i := 0) 0 X dX8_comes_110 rfl rfl ?_
              refine z_getR (pc := 111) (C := RX8) (T := TX8) (N := 30) (ci := 9) 10 X dX8_comes_111 inz_X8 rfl (by decide) fw_X8_40 (fun v22 => ?_)
              refine z_iload (pc := 114) (i := 8) 7 X dX8_comes_114 rfl ?_
              refine z_caload (pc := 116) X dX8_comes_116 (fun v23 => ?_)
              refine z_iload (pc := 117) (i := 4) 3 X dX8_comes_117 rfl ?_
              refine z_icmp_eq (pc := 119) 125 X dX8_comes_119 (by decide) (fun _ => ?_) (fun _ => ?_)
              · refine z_aload_n (pc := 125) (i := 0) 0 X dX8_comes_125 rfl rfl ?_
                refine z_iload_n (pc := 126) (i := 1) 1 X dX8_comes_126 rfl rfl ?_
                refine z_aload_n (pc := 127) (i := 0) 0 X dX8_comes_127 rfl rfl ?_
                refine z_getR (pc := 128) (C := RX8) (T := TX8) (N := 30) (ci := 9) 9 X dX8_comes_128 inz_X8 rfl (by decide) fw_X8_37 (fun v24 => ?_)
                refine z_iload (pc := 131) (i := 8) 7 X dX8_comes_131 rfl ?_
                refine z_iaload (pc := 133) X dX8_comes_133 (fun v25 => ?_)
                refine z_callV_i (pc := 134) (cells := 0) (slots := 0) (C := RX8) (T := TX8) (N := 30) (ci := 9) [zI a1, zI v25] X dX8_comes_134 (c_X8_from hp a0 a1 v25) kw_X8_144 rfl rfl ⟨rfl, rfl, ⟨by decide, by decide⟩, ⟨by decide, by decide⟩⟩ (Nat.le_of_ble_eq_true rfl) rfl (fun x26 => ?_)
                refine z_istore (pc := 137) (i := 9) (lv' := [(9, zI x26), (0, zR a0), (1, zI a1), (2, zI a2), (4, zI a4), (5, zI x1), (6, zI s11.1), (7, zI s11.2.1), (8, zI s11.2.2)]) X dX8_comes_137 (hN _ (by decide)) rfl ?_
                refine z_iload (pc := 139) (i := 9) 0 X dX8_comes_139 rfl ?_
                refine z_iload (pc := 141) (i := 5) 5 X dX8_comes_141 rfl ?_
                have hJ161 : zS (X8_comes_j161 a0 a1 hp s11) (zLG (fun s11 : Int × Int × Int => zJ K 0 0 78 [(0, zR a0), (1, zI a1), (2, zI a2), (4, zI a4), (5, zI x1), (6, zI s11.1), (7, zI s11.2.1), (8, zI s11.2.2)] [] hp) (fun e13 : Int × Int => zJ K 0 0 224 [(0, zR a0), (1, zI a1), (4, zI a4), (6, zI e13.1), (7, zI e13.2)] [] hp)) (zJ K 0 0 161 [(0, zR a0), (1, zI a1), (2, zI a2), (4, zI a4), (5, zI x1), (6, zI s11.1), (7, zI s11.2.1), (8, zI s11.2.2)] [] hp) := by
                  unfold X8_comes_j161
                  refine z_iload (pc := 161) (i := 6) 5 X dX8_comes_161 rfl ?_
                  refine z_iconst (pc := 163) (z := -1) X dX8_comes_163 rfl ⟨by decide, by decide⟩ ?_
                  refine z_icmp_eq (pc := 164) 179 X dX8_comes_164 (by decide) (fun _ => ?_) (fun _ => ?_)
                  · refine z_iload (pc := 179) (i := 8) 7 X dX8_comes_179 rfl ?_
                    refine z_goto (pc := 181) 186 X dX8_comes_181 (by decide) ?_
                    refine z_istore (pc := 186) (i := 6) (lv' := [(6, zI s11.2.2), (0, zR a0), (1, zI a1), (2, zI a2), (4, zI a4), (5, zI x1), (7, zI s11.2.1), (8, zI s11.2.2)]) X dX8_comes_186 (hN _ (by decide)) rfl ?_
                    refine z_goto (pc := 188) 218 X dX8_comes_188 (by decide) ?_
                    refine z_iinc (pc := 218) (i := 8) (n := 1) (lv' := fun v27 => [(8, zI v27), (6, zI s11.2.2), (0, zR a0), (1, zI a1), (2, zI a2), (4, zI a4), (5, zI x1), (7, zI s11.2.1)]) 7 X dX8_comes_218 rfl (hN _ (by decide)) (fun _ => rfl) (fun v27 _ _ => ?_)
                    refine z_goto (pc := 221) 78 X dX8_comes_221 (by decide) ?_
                    refine z_pick [2, 3, 4, 5, 6, 1, 7, 0] (lv' := [(0, zR a0), (1, zI a1), (2, zI a2), (4, zI a4), (5, zI x1), (6, zI s11.2.2), (7, zI s11.2.1), (8, zI v27)]) rfl ?_
                    exact z_back
                  · refine z_aload_n (pc := 167) (i := 0) 0 X dX8_comes_167 rfl rfl ?_
                    refine z_iload_n (pc := 168) (i := 1) 1 X dX8_comes_168 rfl rfl ?_
                    refine z_iload (pc := 169) (i := 8) 7 X dX8_comes_169 rfl ?_
                    refine z_iload (pc := 171) (i := 6) 5 X dX8_comes_171 rfl ?_
                    refine z_callV_i (pc := 173) (cells := 0) (slots := 0) (C := RX8) (T := TX8) (N := 30) (ci := 9) [zI a1, zI s11.2.2, zI s11.1] X dX8_comes_173 (c_X8_isFarther hp a0 a1 s11.2.2 s11.1) kw_X8_151 rfl rfl ⟨rfl, rfl, ⟨by decide, by decide⟩, ⟨by decide, by decide⟩⟩ (Nat.le_of_ble_eq_true rfl) rfl (fun x28 => ?_)
                    refine z_if_eq (pc := 176) 184 X dX8_comes_176 (by decide) (fun _ => ?_) (fun _ => ?_)
                    · refine z_iload (pc := 184) (i := 6) 5 X dX8_comes_184 rfl ?_
                      refine z_istore (pc := 186) (i := 6) (lv' := [(6, zI s11.1), (0, zR a0), (1, zI a1), (2, zI a2), (4, zI a4), (5, zI x1), (7, zI s11.2.1), (8, zI s11.2.2)]) X dX8_comes_186 (hN _ (by decide)) rfl ?_
                      refine z_goto (pc := 188) 218 X dX8_comes_188 (by decide) ?_
                      refine z_iinc (pc := 218) (i := 8) (n := 1) (lv' := fun v29 => [(8, zI v29), (6, zI s11.1), (0, zR a0), (1, zI a1), (2, zI a2), (4, zI a4), (5, zI x1), (7, zI s11.2.1)]) 7 X dX8_comes_218 rfl (hN _ (by decide)) (fun _ => rfl) (fun v29 _ _ => ?_)
                      refine z_goto (pc := 221) 78 X dX8_comes_221 (by decide) ?_
                      refine z_pick [2, 3, 4, 5, 6, 1, 7, 0] (lv' := [(0, zR a0), (1, zI a1), (2, zI a2), (4, zI a4), (5, zI x1), (6, zI s11.1), (7, zI s11.2.1), (8, zI v29)]) rfl ?_
                      exact z_back
                    · refine z_iload (pc := 179) (i := 8) 7 X dX8_comes_179 rfl ?_
                      refine z_goto (pc := 181) 186 X dX8_comes_181 (by decide) ?_
                      refine z_istore (pc := 186) (i := 6) (lv' := [(6, zI s11.2.2), (0, zR a0), (1, zI a1), (2, zI a2), (4, zI a4), (5, zI x1), (7, zI s11.2.1), (8, zI s11.2.2)]) X dX8_comes_186 (hN _ (by decide)) rfl ?_
                      refine z_goto (pc := 188) 218 X dX8_comes_188 (by decide) ?_
                      refine z_iinc (pc := 218) (i := 8) (n := 1) (lv' := fun v30 => [(8, zI v30), (6, zI s11.2.2), (0, zR a0), (1, zI a1), (2, zI a2), (4, zI a4), (5, zI x1), (7, zI s11.2.1)]) 7 X dX8_comes_218 rfl (hN _ (by decide)) (fun _ => rfl) (fun v30 _ _ => ?_)
                      refine z_goto (pc := 221) 78 X dX8_comes_221 (by decide) ?_
                      refine z_pick [2, 3, 4, 5, 6, 1, 7, 0] (lv' := [(0, zR a0), (1, zI a1), (2, zI a2), (4, zI a4), (5, zI x1), (6, zI s11.2.2), (7, zI s11.2.1), (8, zI v30)]) rfl ?_
                      exact z_back
                refine z_icmp_lt (pc := 143) 161 X dX8_comes_143 (by decide) (fun _ => ?_) (fun _ => ?_)
                · refine z_pick [1, 2, 3, 4, 5, 6, 7, 8] (lv' := [(0, zR a0), (1, zI a1), (2, zI a2), (4, zI a4), (5, zI x1), (6, zI s11.1), (7, zI s11.2.1), (8, zI s11.2.2)]) rfl ?_
                  exact hJ161
                · refine z_iload (pc := 146) (i := 9) 0 X dX8_comes_146 rfl ?_
                  refine z_iload (pc := 148) (i := 5) 5 X dX8_comes_148 rfl ?_
                  have hJ191 : zS (X8_comes_j191 a0 a1 hp s11) (zLG (fun s11 : Int × Int × Int => zJ K 0 0 78 [(0, zR a0), (1, zI a1), (2, zI a2), (4, zI a4), (5, zI x1), (6, zI s11.1), (7, zI s11.2.1), (8, zI s11.2.2)] [] hp) (fun e13 : Int × Int => zJ K 0 0 224 [(0, zR a0), (1, zI a1), (4, zI a4), (6, zI e13.1), (7, zI e13.2)] [] hp)) (zJ K 0 0 191 [(0, zR a0), (1, zI a1), (2, zI a2), (4, zI a4), (5, zI x1), (6, zI s11.1), (7, zI s11.2.1), (8, zI s11.2.2)] [] hp) := by
                    unfold X8_comes_j191
                    refine z_iload (pc := 191) (i := 7) 6 X dX8_comes_191 rfl ?_
                    refine z_iconst (pc := 193) (z := -1) X dX8_comes_193 rfl ⟨by decide, by decide⟩ ?_
                    refine z_icmp_eq (pc := 194) 209 X dX8_comes_194 (by decide) (fun _ => ?_) (fun _ => ?_)
                    · refine z_iload (pc := 209) (i := 8) 7 X dX8_comes_209 rfl ?_
                      refine z_goto (pc := 211) 216 X dX8_comes_211 (by decide) ?_
                      refine z_istore (pc := 216) (i := 7) (lv' := [(7, zI s11.2.2), (0, zR a0), (1, zI a1), (2, zI a2), (4, zI a4), (5, zI x1), (6, zI s11.1), (8, zI s11.2.2)]) X dX8_comes_216 (hN _ (by decide)) rfl ?_
                      refine z_iinc (pc := 218) (i := 8) (n := 1) (lv' := fun v31 => [(8, zI v31), (7, zI s11.2.2), (0, zR a0), (1, zI a1), (2, zI a2), (4, zI a4), (5, zI x1), (6, zI s11.1)]) 7 X dX8_comes_218 rfl (hN _ (by decide)) (fun _ => rfl) (fun v31 _ _ => ?_)
                      refine z_goto (pc := 221) 78 X dX8_comes_221 (by decide) ?_
                      refine z_pick [2, 3, 4, 5, 6, 7, 1, 0] (lv' := [(0, zR a0), (1, zI a1), (2, zI a2), (4, zI a4), (5, zI x1), (6, zI s11.1), (7, zI s11.2.2), (8, zI v31)]) rfl ?_
                      exact z_back
                    · refine z_aload_n (pc := 197) (i := 0) 0 X dX8_comes_197 rfl rfl ?_
                      refine z_iload_n (pc := 198) (i := 1) 1 X dX8_comes_198 rfl rfl ?_
                      refine z_iload (pc := 199) (i := 7) 6 X dX8_comes_199 rfl ?_
                      refine z_iload (pc := 201) (i := 8) 7 X dX8_comes_201 rfl ?_
                      refine z_callV_i (pc := 203) (cells := 0) (slots := 0) (C := RX8) (T := TX8) (N := 30) (ci := 9) [zI a1, zI s11.2.1, zI s11.2.2] X dX8_comes_203 (c_X8_isFarther hp a0 a1 s11.2.1 s11.2.2) kw_X8_151 rfl rfl ⟨rfl, rfl, ⟨by decide, by decide⟩, ⟨by decide, by decide⟩⟩ (Nat.le_of_ble_eq_true rfl) rfl (fun x32 => ?_)
                      refine z_if_eq (pc := 206) 214 X dX8_comes_206 (by decide) (fun _ => ?_) (fun _ => ?_)
                      · refine z_iload (pc := 214) (i := 7) 6 X dX8_comes_214 rfl ?_
                        refine z_istore (pc := 216) (i := 7) (lv' := [(7, zI s11.2.1), (0, zR a0), (1, zI a1), (2, zI a2), (4, zI a4), (5, zI x1), (6, zI s11.1), (8, zI s11.2.2)]) X dX8_comes_216 (hN _ (by decide)) rfl ?_
                        refine z_iinc (pc := 218) (i := 8) (n := 1) (lv' := fun v33 => [(8, zI v33), (7, zI s11.2.1), (0, zR a0), (1, zI a1), (2, zI a2), (4, zI a4), (5, zI x1), (6, zI s11.1)]) 7 X dX8_comes_218 rfl (hN _ (by decide)) (fun _ => rfl) (fun v33 _ _ => ?_)
                        refine z_goto (pc := 221) 78 X dX8_comes_221 (by decide) ?_
                        refine z_pick [2, 3, 4, 5, 6, 7, 1, 0] (lv' := [(0, zR a0), (1, zI a1), (2, zI a2), (4, zI a4), (5, zI x1), (6, zI s11.1), (7, zI s11.2.1), (8, zI v33)]) rfl ?_
                        exact z_back
                      · refine z_iload (pc := 209) (i := 8) 7 X dX8_comes_209 rfl ?_
                        refine z_goto (pc := 211) 216 X dX8_comes_211 (by decide) ?_
                        refine z_istore (pc := 216) (i := 7) (lv' := [(7, zI s11.2.2), (0, zR a0), (1, zI a1), (2, zI a2), (4, zI a4), (5, zI x1), (6, zI s11.1), (8, zI s11.2.2)]) X dX8_comes_216 (hN _ (by decide)) rfl ?_
                        refine z_iinc (pc := 218) (i := 8) (n := 1) (lv' := fun v34 => [(8, zI v34), (7, zI s11.2.2), (0, zR a0), (1, zI a1), (2, zI a2), (4, zI a4), (5, zI x1), (6, zI s11.1)]) 7 X dX8_comes_218 rfl (hN _ (by decide)) (fun _ => rfl) (fun v34 _ _ => ?_)
                        refine z_goto (pc := 221) 78 X dX8_comes_221 (by decide) ?_
                        refine z_pick [2, 3, 4, 5, 6, 7, 1, 0] (lv' := [(0, zR a0), (1, zI a1), (2, zI a2), (4, zI a4), (5, zI x1), (6, zI s11.1), (7, zI s11.2.2), (8, zI v34)]) rfl ?_
                        exact z_back
                  refine z_icmp_ne (pc := 150) 191 X dX8_comes_150 (by decide) (fun _ => ?_) (fun _ => ?_)
                  · refine z_pick [1, 2, 3, 4, 5, 6, 7, 8] (lv' := [(0, zR a0), (1, zI a1), (2, zI a2), (4, zI a4), (5, zI x1), (6, zI s11.1), (7, zI s11.2.1), (8, zI s11.2.2)]) rfl ?_
                    exact hJ191
                  · refine z_iload (pc := 153) (i := 8) 8 X dX8_comes_153 rfl ?_
                    refine z_iconst (pc := 155) (z := 2) X dX8_comes_155 rfl ⟨by decide, by decide⟩ ?_
                    refine z_idiv (pc := 156) X dX8_comes_156 (fun v35 => ?_)
                    refine z_iload_n (pc := 157) (i := 2) 3 X dX8_comes_157 rfl rfl ?_
                    refine z_icmp_ge (pc := 158) 191 X dX8_comes_158 (by decide) (fun _ => ?_) (fun _ => ?_)
                    · refine z_pick [1, 2, 3, 4, 5, 6, 7, 8] (lv' := [(0, zR a0), (1, zI a1), (2, zI a2), (4, zI a4), (5, zI x1), (6, zI s11.1), (7, zI s11.2.1), (8, zI s11.2.2)]) rfl ?_
                      exact hJ191
                    · refine z_pick [1, 2, 3, 4, 5, 6, 7, 8] (lv' := [(0, zR a0), (1, zI a1), (2, zI a2), (4, zI a4), (5, zI x1), (6, zI s11.1), (7, zI s11.2.1), (8, zI s11.2.2)]) rfl ?_
                      exact hJ161
              · refine z_goto (pc := 122) 218 X dX8_comes_122 (by decide) ?_
                refine z_iinc (pc := 218) (i := 8) (n := 1) (lv' := fun v36 => [(8, zI v36), (0, zR a0), (1, zI a1), (2, zI a2), (4, zI a4), (5, zI x1), (6, zI s11.1), (7, zI s11.2.1)]) 7 X dX8_comes_218 rfl (hN _ (by decide)) (fun _ => rfl) (fun v36 _ _ => ?_)
                refine z_goto (pc := 221) 78 X dX8_comes_221 (by decide) ?_
                refine z_pick [1, 2, 3, 4, 5, 6, 7, 0] (lv' := [(0, zR a0), (1, zI a1), (2, zI a2), (4, zI a4), (5, zI x1), (6, zI s11.1), (7, zI s11.2.1), (8, zI v36)]) rfl ?_
                exact z_back
      · refine z_iload (pc := 224) (i := 6) 3 X dX8_comes_224 rfl ?_
        refine z_iconst (pc := 226) (z := -1) X dX8_comes_226 rfl ⟨by decide, by decide⟩ ?_
        have hJ244 : ∀ (j37 : Int), zS (X8_comes_j244 hp a0 a1 a4 e13 j37) (fun r => r = r0) (zJ K 0 0 244 [(0, zR a0), (1, zI a1), (4, zI a4), (6, zI e13.1), (7, zI e13.2)] [zI j37] hp) := by
          intro j37
          unfold X8_comes_j244
          refine z_istore (pc := 244) (i := 8) (lv' := [(8, zI j37), (0, zR a0), (1, zI a1), (4, zI a4), (6, zI e13.1), (7, zI e13.2)]) X dX8_comes_244 (hN _ (by decide)) rfl ?_
          refine z_iload (pc := 246) (i := 4) 3 X dX8_comes_246 rfl ?_
          refine z_bipush (pc := 248) (z := 108) X dX8_comes_248 rfl ⟨by decide, by decide⟩ ?_
          have hJ258 : ∀ (j38 : Int), zS (X8_comes_j258 hp a0 a1 e13 j37 j38) (fun r => r = r0) (zJ K 0 0 258 [(0, zR a0), (1, zI a1), (6, zI e13.1), (7, zI e13.2), (8, zI j37)] [zI j38] hp) := by
            intro j38
            unfold X8_comes_j258
            refine z_istore (pc := 258) (i := 9) (lv' := [(9, zI j38), (0, zR a0), (1, zI a1), (6, zI e13.1), (7, zI e13.2), (8, zI j37)]) X dX8_comes_258 (hN _ (by decide)) rfl ?_
            refine z_pick [1, 2, 3, 4, 5, 0] (lv' := [(0, zR a0), (1, zI a1), (6, zI e13.1), (7, zI e13.2), (8, zI j37), (9, zI j38)]) rfl ?_
            refine z_bind (z_loop (body := X8_comes_b260 a0 a1 e13.1 e13.2 j37 hp) (fun s44 : Int => zJ K 0 0 260 [(0, zR a0), (1, zI a1), (6, zI e13.1), (7, zI e13.2), (8, zI j37), (9, zI s44)] [] hp) (fun e46 : Int => zJ K 0 0 283 [(0, zR a0), (1, zI a1), (6, zI e13.1), (7, zI e13.2), (8, zI j37), (9, zI e46)] [] hp) (fun s44 => ?_) zN j38) (fun e46 => ?_)
            · unfold X8_comes_b260
              refine z_iload (pc := 260) (i := 9) 5 X dX8_comes_260 rfl ?_
              refine z_iload (pc := 262) (i := 8) 4 X dX8_comes_262 rfl ?_
              refine z_icmp_le (pc := 264) 277 X dX8_comes_264 (by decide) (fun _ => ?_) (fun _ => ?_)
              · refine z_iinc (pc := 277) (i := 9) (n := 2) (lv' := fun v47 => [(9, zI v47), (0, zR a0), (1, zI a1), (6, zI e13.1), (7, zI e13.2), (8, zI j37)]) 5 X dX8_comes_277 rfl (hN _ (by decide)) (fun _ => rfl) (fun v47 _ _ => ?_)
                refine z_goto (pc := 280) 260 X dX8_comes_280 (by decide) ?_
                refine z_pick [1, 2, 3, 4, 5, 0] (lv' := [(0, zR a0), (1, zI a1), (6, zI e13.1), (7, zI e13.2), (8, zI j37), (9, zI v47)]) rfl ?_
                exact z_back
              · refine z_aload_n (pc := 267) (i := 0) 0 X dX8_comes_267 rfl rfl ?_
                refine z_iload_n (pc := 268) (i := 1) 1 X dX8_comes_268 rfl rfl ?_
                refine z_iload (pc := 269) (i := 9) 5 X dX8_comes_269 rfl ?_
                refine z_callV_i (pc := 271) (cells := 0) (slots := 0) (C := RX8) (T := TX8) (N := 30) (ci := 9) [zI a1, zI s44] X dX8_comes_271 (c_X8_isNumberGiven hp a0 a1 s44) kw_X8_154 rfl rfl ⟨rfl, rfl, ⟨by decide, by decide⟩, ⟨by decide, by decide⟩⟩ (Nat.le_of_ble_eq_true rfl) rfl (fun x48 => ?_)
                refine z_if_eq (pc := 274) 283 X dX8_comes_274 (by decide) (fun _ => ?_) (fun _ => ?_)
                · exact z_exit
                · refine z_iinc (pc := 277) (i := 9) (n := 2) (lv' := fun v49 => [(9, zI v49), (0, zR a0), (1, zI a1), (6, zI e13.1), (7, zI e13.2), (8, zI j37)]) 5 X dX8_comes_277 rfl (hN _ (by decide)) (fun _ => rfl) (fun v49 _ _ => ?_)
                  refine z_goto (pc := 280) 260 X dX8_comes_280 (by decide) ?_
                  refine z_pick [1, 2, 3, 4, 5, 0] (lv' := [(0, zR a0), (1, zI a1), (6, zI e13.1), (7, zI e13.2), (8, zI j37), (9, zI v49)]) rfl ?_
                  exact z_back
            · refine z_iload (pc := 283) (i := 7) 3 X dX8_comes_283 rfl ?_
              refine z_iconst (pc := 285) (z := -1) X dX8_comes_285 rfl ⟨by decide, by decide⟩ ?_
              refine z_icmp_eq (pc := 286) 304 X dX8_comes_286 (by decide) (fun _ => ?_) (fun _ => ?_)
              · refine z_bipush (pc := 304) (z := 10) X dX8_comes_304 rfl ⟨by decide, by decide⟩ ?_
                refine z_iload (pc := 306) (i := 9) 5 X dX8_comes_306 rfl ?_
                refine z_imul (pc := 308) X dX8_comes_308 (fun v50 _ _ => ?_)
                refine z_fin (fun e9 => ?_)
                subst e9
                exact hret _ _ _ _ (by decide) (by decide) dX8_comes_309 trivial
              · refine z_iload (pc := 289) (i := 9) 5 X dX8_comes_289 rfl ?_
                refine z_aload_n (pc := 291) (i := 0) 0 X dX8_comes_291 rfl rfl ?_
                refine z_getR (pc := 292) (C := RX8) (T := TX8) (N := 30) (ci := 9) 11 X dX8_comes_292 inz_X8 rfl (by decide) fw_X8_43 (fun v51 => ?_)
                refine z_iload (pc := 295) (i := 7) 3 X dX8_comes_295 rfl ?_
                refine z_iaload (pc := 297) X dX8_comes_297 (fun v52 => ?_)
                refine z_bipush (pc := 298) (z := 10) X dX8_comes_298 rfl ⟨by decide, by decide⟩ ?_
                refine z_idiv (pc := 300) X dX8_comes_300 (fun v53 => ?_)
                refine z_icmp_ge (pc := 301) 310 X dX8_comes_301 (by decide) (fun _ => ?_) (fun _ => ?_)
                · refine z_aload_n (pc := 310) (i := 0) 0 X dX8_comes_310 rfl rfl ?_
                  refine z_iload_n (pc := 311) (i := 1) 1 X dX8_comes_311 rfl rfl ?_
                  refine z_iload (pc := 312) (i := 6) 2 X dX8_comes_312 rfl ?_
                  refine z_iconst (pc := 314) (z := -1) X dX8_comes_314 rfl ⟨by decide, by decide⟩ ?_
                  refine z_icmp_eq (pc := 315) 323 X dX8_comes_315 (by decide) (fun _ => ?_) (fun _ => ?_)
                  · refine z_aload_n (pc := 323) (i := 0) 0 X dX8_comes_323 rfl rfl ?_
                    refine z_getR (pc := 324) (C := RX8) (T := TX8) (N := 30) (ci := 9) 11 X dX8_comes_324 inz_X8 rfl (by decide) fw_X8_43 (fun v54 => ?_)
                    refine z_iload (pc := 327) (i := 7) 3 X dX8_comes_327 rfl ?_
                    refine z_iaload (pc := 329) X dX8_comes_329 (fun v55 => ?_)
                    refine z_bipush (pc := 330) (z := 10) X dX8_comes_330 rfl ⟨by decide, by decide⟩ ?_
                    refine z_idiv (pc := 332) X dX8_comes_332 (fun v56 => ?_)
                    refine z_iconst (pc := 333) (z := 1) X dX8_comes_333 rfl ⟨by decide, by decide⟩ ?_
                    refine z_callV_i (pc := 334) (cells := 0) (slots := 0) (C := RX8) (T := TX8) (N := 30) (ci := 9) [zI a1, zI v56, zI 1] X dX8_comes_334 (c_X8_lettered hp a0 a1 v56 1) kw_X8_147 rfl rfl ⟨rfl, rfl, ⟨by decide, by decide⟩, ⟨by decide, by decide⟩⟩ (Nat.le_of_ble_eq_true rfl) rfl (fun x57 => ?_)
                    refine z_fin (fun e9 => ?_)
                    subst e9
                    exact hret _ _ _ _ (by decide) (by decide) dX8_comes_337 trivial
                  · refine z_iload (pc := 318) (i := 8) 4 X dX8_comes_318 rfl ?_
                    refine z_goto (pc := 320) 333 X dX8_comes_320 (by decide) ?_
                    refine z_iconst (pc := 333) (z := 1) X dX8_comes_333 rfl ⟨by decide, by decide⟩ ?_
                    refine z_callV_i (pc := 334) (cells := 0) (slots := 0) (C := RX8) (T := TX8) (N := 30) (ci := 9) [zI a1, zI j37, zI 1] X dX8_comes_334 (c_X8_lettered hp a0 a1 j37 1) kw_X8_147 rfl rfl ⟨rfl, rfl, ⟨by decide, by decide⟩, ⟨by decide, by decide⟩⟩ (Nat.le_of_ble_eq_true rfl) rfl (fun x58 => ?_)
                    refine z_fin (fun e9 => ?_)
                    subst e9
                    exact hret _ _ _ _ (by decide) (by decide) dX8_comes_337 trivial
                · refine z_bipush (pc := 304) (z := 10) X dX8_comes_304 rfl ⟨by decide, by decide⟩ ?_
                  refine z_iload (pc := 306) (i := 9) 5 X dX8_comes_306 rfl ?_
                  refine z_imul (pc := 308) X dX8_comes_308 (fun v59 _ _ => ?_)
                  refine z_fin (fun e9 => ?_)
                  subst e9
                  exact hret _ _ _ _ (by decide) (by decide) dX8_comes_309 trivial
          refine z_icmp_ne (pc := 250) 257 X dX8_comes_250 (by decide) (fun _ => ?_) (fun _ => ?_)
          · refine z_iconst (pc := 257) (z := 2) X dX8_comes_257 rfl ⟨by decide, by decide⟩ ?_
            refine z_pick [1, 2, 4, 5, 0] (lv' := [(0, zR a0), (1, zI a1), (6, zI e13.1), (7, zI e13.2), (8, zI j37)]) rfl ?_
            exact hJ258 2
          · refine z_iconst (pc := 253) (z := 1) X dX8_comes_253 rfl ⟨by decide, by decide⟩ ?_
            refine z_goto (pc := 254) 258 X dX8_comes_254 (by decide) ?_
            refine z_pick [1, 2, 4, 5, 0] (lv' := [(0, zR a0), (1, zI a1), (6, zI e13.1), (7, zI e13.2), (8, zI j37)]) rfl ?_
            exact hJ258 1
        refine z_icmp_ne (pc := 227) 234 X dX8_comes_227 (by decide) (fun _ => ?_) (fun _ => ?_)
        · refine z_aload_n (pc := 234) (i := 0) 0 X dX8_comes_234 rfl rfl ?_
          refine z_getR (pc := 235) (C := RX8) (T := TX8) (N := 30) (ci := 9) 11 X dX8_comes_235 inz_X8 rfl (by decide) fw_X8_43 (fun v60 => ?_)
          refine z_iload (pc := 238) (i := 6) 3 X dX8_comes_238 rfl ?_
          refine z_iaload (pc := 240) X dX8_comes_240 (fun v61 => ?_)
          refine z_bipush (pc := 241) (z := 10) X dX8_comes_241 rfl ⟨by decide, by decide⟩ ?_
          refine z_idiv (pc := 243) X dX8_comes_243 (fun v62 => ?_)
          exact hJ244 v62
        · refine z_iconst (pc := 230) (z := 0) X dX8_comes_230 rfl ⟨by decide, by decide⟩ ?_
          refine z_goto (pc := 231) 244 X dX8_comes_231 (by decide) ?_
          exact hJ244 0
    · refine z_bipush (pc := 57) (z := 10) X dX8_comes_57 rfl ⟨by decide, by decide⟩ ?_
      refine z_aload_n (pc := 59) (i := 0) 1 X dX8_comes_59 rfl rfl ?_
      refine z_getR (pc := 60) (C := RX8) (T := TX8) (N := 30) (ci := 9) 6 X dX8_comes_60 inz_X8 rfl (by decide) fw_X8_31 (fun v63 => ?_)
      refine z_iload_n (pc := 63) (i := 1) 2 X dX8_comes_63 rfl rfl ?_
      refine z_iaload (pc := 64) X dX8_comes_64 (fun v64 => ?_)
      refine z_iconst (pc := 65) (z := 1) X dX8_comes_65 rfl ⟨by decide, by decide⟩ ?_
      refine z_iadd (pc := 66) X dX8_comes_66 (fun v65 _ _ => ?_)
      refine z_imul (pc := 67) X dX8_comes_67 (fun v66 _ _ => ?_)
      refine z_fin (fun e9 => ?_)
      subst e9
      exact hret _ _ _ _ (by decide) (by decide) dX8_comes_68 trivial
  · refine z_aload_n (pc := 19) (i := 0) 1 X dX8_comes_19 rfl rfl ?_
    refine z_iload_n (pc := 20) (i := 1) 2 X dX8_comes_20 rfl rfl ?_
    refine z_iconst (pc := 21) (z := 2) X dX8_comes_21 rfl ⟨by decide, by decide⟩ ?_
    refine z_iload (pc := 22) (i := 5) 0 X dX8_comes_22 rfl ?_
    refine z_bipush (pc := 24) (z := 10) X dX8_comes_24 rfl ⟨by decide, by decide⟩ ?_
    refine z_idiv (pc := 26) X dX8_comes_26 (fun v67 => ?_)
    refine z_imul (pc := 27) X dX8_comes_27 (fun v68 _ _ => ?_)
    refine z_iload (pc := 28) (i := 4) 5 X dX8_comes_28 rfl ?_
    refine z_bipush (pc := 30) (z := 108) X dX8_comes_30 rfl ⟨by decide, by decide⟩ ?_
    refine z_icmp_ne (pc := 32) 39 X dX8_comes_32 (by decide) (fun _ => ?_) (fun _ => ?_)
    · refine z_iconst (pc := 39) (z := 2) X dX8_comes_39 rfl ⟨by decide, by decide⟩ ?_
      refine z_iadd (pc := 40) X dX8_comes_40 (fun v69 _ _ => ?_)
      refine z_iconst (pc := 41) (z := 0) X dX8_comes_41 rfl ⟨by decide, by decide⟩ ?_
      refine z_callV_i (pc := 42) (cells := 0) (slots := 0) (C := RX8) (T := TX8) (N := 30) (ci := 9) [zI a1, zI v69, zI 0] X dX8_comes_42 (c_X8_lettered hp a0 a1 v69 0) kw_X8_147 rfl rfl ⟨rfl, rfl, ⟨by decide, by decide⟩, ⟨by decide, by decide⟩⟩ (Nat.le_of_ble_eq_true rfl) rfl (fun x70 => ?_)
      refine z_fin (fun e9 => ?_)
      subst e9
      exact hret _ _ _ _ (by decide) (by decide) dX8_comes_45 trivial
    · refine z_iconst (pc := 35) (z := 1) X dX8_comes_35 rfl ⟨by decide, by decide⟩ ?_
      refine z_goto (pc := 36) 40 X dX8_comes_36 (by decide) ?_
      refine z_iadd (pc := 40) X dX8_comes_40 (fun v71 _ _ => ?_)
      refine z_iconst (pc := 41) (z := 0) X dX8_comes_41 rfl ⟨by decide, by decide⟩ ?_
      refine z_callV_i (pc := 42) (cells := 0) (slots := 0) (C := RX8) (T := TX8) (N := 30) (ci := 9) [zI a1, zI v71, zI 0] X dX8_comes_42 (c_X8_lettered hp a0 a1 v71 0) kw_X8_147 rfl rfl ⟨rfl, rfl, ⟨by decide, by decide⟩, ⟨by decide, by decide⟩⟩ (Nat.le_of_ble_eq_true rfl) rfl (fun x72 => ?_)
      refine z_fin (fun e9 => ?_)
      subst e9
      exact hret _ _ _ _ (by decide) (by decide) dX8_comes_45 trivial
def X8_isPlace (hp : zH) (a0 : Option Nat) (a1 : Int) (a2 : Int) (a3 : Int) : Option Int :=
  (zgR hp a0 9 2).bind fun v1 =>
  (zaI hp 0 v1 a1).bind fun v2 =>
  (X8_isBetween hp a2 0 v2).bind fun x3 =>
  if x3 = 0 then
    some 0
  else
    if a3 = 108 then
      some 1
    else
      if a3 = 114 then
        some 1
      else
        some 0
set_option maxRecDepth 20000 in
theorem c_X8_isPlace (hp : zH) (a0 : Option Nat) (a1 : Int) (a2 : Int) (a3 : Int) : ∀ r, X8_isPlace hp a0 a1 a2 a3 = some r → zMi yX8_isPlace (Cond.code yX8_isPlace cX8_isPlace 4 (some .boolean) :: zALL) { frames := 1, cells := 0, slots := 0, locals := 22 } 0 0 [zR a0, zI a1, zI a2, zI a3] hp r hp := by
  refine zMi_of (own := RX8) (cc := cX8_isPlace) (maxL := 4) (res := fun r => r) (hp2 := fun _ => hp) (by decide) rfl (Or.inr (Or.inl rfl)) (by exact Nat.le_of_ble_eq_true rfl) ?_
  intro K r0 X hnL hret
  have hN : ∀ i, i < 4 → i < K.2.2.2.2.2.2.2.2.2.2.2.2.2.2.1 := by rw [hnL]; exact fun _ h => h
  show zS _ _ (zJ K 0 0 0 [(0, zR a0), (1, zI a1), (2, zI a2), (3, zI a3)] [] hp)
  unfold X8_isPlace
  refine z_iload_n (pc := 0) (i := 2) 2 X dX8_isPlace_0 rfl rfl ?_
  refine z_iconst (pc := 1) (z := 0) X dX8_isPlace_1 rfl ⟨by decide, by decide⟩ ?_
  refine z_aload_n (pc := 2) (i := 0) 0 X dX8_isPlace_2 rfl rfl ?_
  refine z_getR (pc := 3) (C := RX8) (T := TX8) (N := 30) (ci := 9) 2 X dX8_isPlace_3 inz_X8 rfl (by decide) fw_X8_16 (fun v1 => ?_)
  refine z_iload_n (pc := 6) (i := 1) 1 X dX8_isPlace_6 rfl rfl ?_
  refine z_iaload (pc := 7) X dX8_isPlace_7 (fun v2 => ?_)
  refine z_callS_i (pc := 8) (cells := 0) (slots := 0) [zI a2, zI 0, zI v2] X dX8_isPlace_8 (c_X8_isBetween hp a2 0 v2) kw_X8_86 rfl ⟨rfl, rfl, ⟨by decide, by decide⟩, ⟨by decide, by decide⟩⟩ (Nat.le_of_ble_eq_true rfl) rfl (fun x3 => ?_)
  refine z_if_eq (pc := 11) 30 X dX8_isPlace_11 (by decide) (fun _ => ?_) (fun _ => ?_)
  · refine z_iconst (pc := 30) (z := 0) X dX8_isPlace_30 rfl ⟨by decide, by decide⟩ ?_
    refine z_fin (fun e9 => ?_)
    subst e9
    exact hret _ _ _ _ (by decide) (by decide) dX8_isPlace_31 (Or.inl rfl)
  · refine z_iload_n (pc := 14) (i := 3) 3 X dX8_isPlace_14 rfl rfl ?_
    refine z_bipush (pc := 15) (z := 108) X dX8_isPlace_15 rfl ⟨by decide, by decide⟩ ?_
    refine z_icmp_eq (pc := 17) 26 X dX8_isPlace_17 (by decide) (fun _ => ?_) (fun _ => ?_)
    · refine z_iconst (pc := 26) (z := 1) X dX8_isPlace_26 rfl ⟨by decide, by decide⟩ ?_
      refine z_goto (pc := 27) 31 X dX8_isPlace_27 (by decide) ?_
      refine z_fin (fun e9 => ?_)
      subst e9
      exact hret _ _ _ _ (by decide) (by decide) dX8_isPlace_31 (Or.inr rfl)
    · refine z_iload_n (pc := 20) (i := 3) 3 X dX8_isPlace_20 rfl rfl ?_
      refine z_bipush (pc := 21) (z := 114) X dX8_isPlace_21 rfl ⟨by decide, by decide⟩ ?_
      refine z_icmp_ne (pc := 23) 30 X dX8_isPlace_23 (by decide) (fun _ => ?_) (fun _ => ?_)
      · refine z_iconst (pc := 30) (z := 0) X dX8_isPlace_30 rfl ⟨by decide, by decide⟩ ?_
        refine z_fin (fun e9 => ?_)
        subst e9
        exact hret _ _ _ _ (by decide) (by decide) dX8_isPlace_31 (Or.inl rfl)
      · refine z_iconst (pc := 26) (z := 1) X dX8_isPlace_26 rfl ⟨by decide, by decide⟩ ?_
        refine z_goto (pc := 27) 31 X dX8_isPlace_27 (by decide) ?_
        refine z_fin (fun e9 => ?_)
        subst e9
        exact hret _ _ _ _ (by decide) (by decide) dX8_isPlace_31 (Or.inr rfl)
def X8_puts (hp : zH) (a0 : Option Nat) (a1 : Int) (a2 : Int) (a3 : Int) (a4 : Int) (a5 : Int) : Option zH :=
  (zgR hp a0 9 8).bind fun v1 =>
  (zsI hp 0 v1 a1 a2).bind fun h2 =>
  (zgR h2 a0 9 9).bind fun v3 =>
  (zsI h2 0 v3 a1 a3).bind fun h4 =>
  (zgR h4 a0 9 10).bind fun v5 =>
  (zsI h4 3 v5 a1 a4).bind fun h6 =>
  (zgR h6 a0 9 11).bind fun v7 =>
  (zsI h6 0 v7 a1 a5).bind fun h8 =>
  (zgR h8 a0 9 6).bind fun v9 =>
  (zdiv a5 10).bind fun v10 =>
  (zgR h8 a0 9 6).bind fun v11 =>
  (zaI h8 0 v11 a2).bind fun v12 =>
  if v10 ≤ v12 then
    (zgR h8 a0 9 6).bind fun v13 =>
    (zaI h8 0 v13 a2).bind fun v14 =>
    (zsI h8 0 v9 a2 v14).bind fun h15 =>
    some h15
  else
    (zdiv a5 10).bind fun v16 =>
    (zsI h8 0 v9 a2 v16).bind fun h17 =>
    some h17
set_option maxRecDepth 20000 in
theorem c_X8_puts (hp : zH) (a0 : Option Nat) (a1 : Int) (a2 : Int) (a3 : Int) (a4 : Int) (a5 : Int) : ∀ r, X8_puts hp a0 a1 a2 a3 a4 a5 = some r → zMv yX8_puts (Cond.code yX8_puts cX8_puts 6 none :: zALL) { frames := 0, cells := 0, slots := 0, locals := 0 } 0 0 [zR a0, zI a1, zI a2, zI a3, zI a4, zI a5] hp r := by
  refine zMv_of (own := RX8) (cc := cX8_puts) (maxL := 6) (hp2 := fun r => r) (by decide) rfl (by exact Nat.le_of_ble_eq_true rfl) ?_
  intro K r0 X hnL hnm9 hret
  have hN : ∀ i, i < 6 → i < K.2.2.2.2.2.2.2.2.2.2.2.2.2.2.1 := by rw [hnL]; exact fun _ h => h
  show zS _ _ (zJ K 0 0 0 [(0, zR a0), (1, zI a1), (2, zI a2), (3, zI a3), (4, zI a4), (5, zI a5)] [] hp)
  unfold X8_puts
  refine z_aload_n (pc := 0) (i := 0) 0 X dX8_puts_0 rfl rfl ?_
  refine z_getR (pc := 1) (C := RX8) (T := TX8) (N := 30) (ci := 9) 8 X dX8_puts_1 inz_X8 rfl (by decide) fw_X8_34 (fun v1 => ?_)
  refine z_iload_n (pc := 4) (i := 1) 1 X dX8_puts_4 rfl rfl ?_
  refine z_iload_n (pc := 5) (i := 2) 2 X dX8_puts_5 rfl rfl ?_
  refine z_iastore (pc := 6) X dX8_puts_6 (fun h2 => ?_)
  refine z_aload_n (pc := 7) (i := 0) 0 X dX8_puts_7 rfl rfl ?_
  refine z_getR (pc := 8) (C := RX8) (T := TX8) (N := 30) (ci := 9) 9 X dX8_puts_8 inz_X8 rfl (by decide) fw_X8_37 (fun v3 => ?_)
  refine z_iload_n (pc := 11) (i := 1) 1 X dX8_puts_11 rfl rfl ?_
  refine z_iload_n (pc := 12) (i := 3) 3 X dX8_puts_12 rfl rfl ?_
  refine z_iastore (pc := 13) X dX8_puts_13 (fun h4 => ?_)
  refine z_aload_n (pc := 14) (i := 0) 0 X dX8_puts_14 rfl rfl ?_
  refine z_getR (pc := 15) (C := RX8) (T := TX8) (N := 30) (ci := 9) 10 X dX8_puts_15 inz_X8 rfl (by decide) fw_X8_40 (fun v5 => ?_)
  refine z_iload_n (pc := 18) (i := 1) 1 X dX8_puts_18 rfl rfl ?_
  refine z_iload (pc := 19) (i := 4) 4 X dX8_puts_19 rfl ?_
  refine z_castore (pc := 21) X dX8_puts_21 (fun h6 => ?_)
  refine z_aload_n (pc := 22) (i := 0) 0 X dX8_puts_22 rfl rfl ?_
  refine z_getR (pc := 23) (C := RX8) (T := TX8) (N := 30) (ci := 9) 11 X dX8_puts_23 inz_X8 rfl (by decide) fw_X8_43 (fun v7 => ?_)
  refine z_iload_n (pc := 26) (i := 1) 1 X dX8_puts_26 rfl rfl ?_
  refine z_iload (pc := 27) (i := 5) 5 X dX8_puts_27 rfl ?_
  refine z_iastore (pc := 29) X dX8_puts_29 (fun h8 => ?_)
  refine z_aload_n (pc := 30) (i := 0) 0 X dX8_puts_30 rfl rfl ?_
  refine z_getR (pc := 31) (C := RX8) (T := TX8) (N := 30) (ci := 9) 6 X dX8_puts_31 inz_X8 rfl (by decide) fw_X8_31 (fun v9 => ?_)
  refine z_iload_n (pc := 34) (i := 2) 2 X dX8_puts_34 rfl rfl ?_
  refine z_iload (pc := 35) (i := 5) 5 X dX8_puts_35 rfl ?_
  refine z_bipush (pc := 37) (z := 10) X dX8_puts_37 rfl ⟨by decide, by decide⟩ ?_
  refine z_idiv (pc := 39) X dX8_puts_39 (fun v10 => ?_)
  refine z_aload_n (pc := 40) (i := 0) 0 X dX8_puts_40 rfl rfl ?_
  refine z_getR (pc := 41) (C := RX8) (T := TX8) (N := 30) (ci := 9) 6 X dX8_puts_41 inz_X8 rfl (by decide) fw_X8_31 (fun v11 => ?_)
  refine z_iload_n (pc := 44) (i := 2) 2 X dX8_puts_44 rfl rfl ?_
  refine z_iaload (pc := 45) X dX8_puts_45 (fun v12 => ?_)
  refine z_icmp_le (pc := 46) 57 X dX8_puts_46 (by decide) (fun _ => ?_) (fun _ => ?_)
  · refine z_aload_n (pc := 57) (i := 0) 0 X dX8_puts_57 rfl rfl ?_
    refine z_getR (pc := 58) (C := RX8) (T := TX8) (N := 30) (ci := 9) 6 X dX8_puts_58 inz_X8 rfl (by decide) fw_X8_31 (fun v13 => ?_)
    refine z_iload_n (pc := 61) (i := 2) 2 X dX8_puts_61 rfl rfl ?_
    refine z_iaload (pc := 62) X dX8_puts_62 (fun v14 => ?_)
    refine z_iastore (pc := 63) X dX8_puts_63 (fun h15 => ?_)
    refine z_fin (fun e9 => ?_)
    subst e9
    exact hret _ _ _ _ (by decide) (by decide) dX8_puts_64
  · refine z_iload (pc := 49) (i := 5) 5 X dX8_puts_49 rfl ?_
    refine z_bipush (pc := 51) (z := 10) X dX8_puts_51 rfl ⟨by decide, by decide⟩ ?_
    refine z_idiv (pc := 53) X dX8_puts_53 (fun v16 => ?_)
    refine z_goto (pc := 54) 63 X dX8_puts_54 (by decide) ?_
    refine z_iastore (pc := 63) X dX8_puts_63 (fun h17 => ?_)
    refine z_fin (fun e9 => ?_)
    subst e9
    exact hret _ _ _ _ (by decide) (by decide) dX8_puts_64
def X8_corner_j120 (a0 : Option Nat) (a1 : Int) (a2 : Int) (a3 : Int) (a4 : Int) (x5 : (Int × zH)) (j9 : Int) (j10 : Int) : Option (Int × zH) :=
  ((zobj x5.2 a0 9).bind fun _ => X8_no x5.2 a0 j10 3).bind fun x11 =>
  if x11.1 = 0 then
    (zchk (2 * a1)).bind fun v12 =>
    (zchk (v12 + 1)).bind fun v13 =>
    ((zobj x11.2 a0 9).bind fun _ => X8_puts x11.2 a0 v13 a2 a3 a4 j9).bind fun x14 =>
    some (j9, x14)
  else
    some (0, x11.2)
def X8_corner_j107 (a0 : Option Nat) (a1 : Int) (a2 : Int) (a3 : Int) (a4 : Int) (x5 : (Int × zH)) (j9 : Int) : Option (Int × zH) :=
  if j9 < 0 then
    X8_corner_j120 a0 a1 a2 a3 a4 x5 j9 0
  else
    X8_corner_j120 a0 a1 a2 a3 a4 x5 j9 1
def X8_corner_j87 (a0 : Option Nat) (a1 : Int) (a2 : Int) (a3 : Int) (a4 : Int) (x5 : (Int × zH)) (j8 : Int) : Option (Int × zH) :=
  if j8 = 0 then
    X8_corner_j107 a0 a1 a2 a3 a4 x5 ((-1))
  else
    ((zobj x5.2 a0 9).bind fun _ => X8_comes x5.2 a0 a2 a1 a3 a4).bind fun x15 =>
    X8_corner_j107 a0 a1 a2 a3 a4 x5 x15
def X8_corner_j86 (a0 : Option Nat) (a1 : Int) (a2 : Int) (a3 : Int) (a4 : Int) (x5 : (Int × zH)) : Option (Int × zH) :=
  X8_corner_j87 a0 a1 a2 a3 a4 x5 0
def X8_corner_j22 (hp : zH) (a0 : Option Nat) (a1 : Int) (a2 : Int) (a3 : Int) (a4 : Int) (j2 : Int) : Option (Int × zH) :=
  ((zobj hp a0 9).bind fun _ => X8_no hp a0 j2 1).bind fun x3 =>
  if x3.1 = 0 then
    ((zobj x3.2 a0 9).bind fun _ => X8_isPlace x3.2 a0 a2 a3 a4).bind fun x4 =>
    ((zobj x3.2 a0 9).bind fun _ => X8_no x3.2 a0 x4 2).bind fun x5 =>
    if x5.1 = 0 then
      (zgR x5.2 a0 9 12).bind fun v6 =>
      (zaI x5.2 2 v6 a1).bind fun v7 =>
      if v7 = 0 then
        (zgR x5.2 a0 9 8).bind fun v16 =>
        (zchk (2 * a1)).bind fun v17 =>
        (zchk (v17 + 1)).bind fun v18 =>
        (zaI x5.2 0 v16 v18).bind fun v19 =>
        if v19 = (-1) then
          (zgR x5.2 a0 9 8).bind fun v20 =>
          (zchk (2 * a1)).bind fun v21 =>
          (zaI x5.2 0 v20 v21).bind fun v22 =>
          if v22 = a2 then
            X8_corner_j86 a0 a1 a2 a3 a4 x5
          else
            X8_corner_j87 a0 a1 a2 a3 a4 x5 1
        else
          X8_corner_j86 a0 a1 a2 a3 a4 x5
      else
        X8_corner_j86 a0 a1 a2 a3 a4 x5
    else
      some (0, x5.2)
  else
    some (0, x3.2)
def X8_corner_j21 (hp : zH) (a0 : Option Nat) (a1 : Int) (a2 : Int) (a3 : Int) (a4 : Int) : Option (Int × zH) :=
  X8_corner_j22 hp a0 a1 a2 a3 a4 0
def X8_corner (hp : zH) (a0 : Option Nat) (a1 : Int) (a2 : Int) (a3 : Int) (a4 : Int) : Option (Int × zH) :=
  ((zobj hp a0 9).bind fun _ => X8_isDoor hp a0 a1).bind fun x1 =>
  if x1 = 0 then
    X8_corner_j21 hp a0 a1 a2 a3 a4
  else
    ((zobj hp a0 9).bind fun _ => X8_isStreet hp a0 a2).bind fun x23 =>
    if x23 = 0 then
      X8_corner_j21 hp a0 a1 a2 a3 a4
    else
      X8_corner_j22 hp a0 a1 a2 a3 a4 1
set_option maxRecDepth 20000 in
theorem c_X8_corner (hp : zH) (a0 : Option Nat) (a1 : Int) (a2 : Int) (a3 : Int) (a4 : Int) : ∀ r, X8_corner hp a0 a1 a2 a3 a4 = some r → zMi yX8_corner (Cond.code yX8_corner cX8_corner 7 (some .int) :: zALL) { frames := 3, cells := 0, slots := 0, locals := 77 } 0 0 [zR a0, zI a1, zI a2, zI a3, zI a4] hp r.1 r.2 := by
  refine zMi_of (own := RX8) (cc := cX8_corner) (maxL := 7) (ε := (Int × zH)) (res := fun r => r.1) (hp2 := fun r => r.2) (by decide) rfl (Or.inl rfl) (by exact Nat.le_of_ble_eq_true rfl) ?_
  intro K r0 X hnL hret
  have hN : ∀ i, i < 7 → i < K.2.2.2.2.2.2.2.2.2.2.2.2.2.2.1 := by rw [hnL]; exact fun _ h => h
  show zS _ _ (zJ K 0 0 0 [(0, zR a0), (1, zI a1), (2, zI a2), (3, zI a3), (4, zI a4)] [] hp)
  unfold X8_corner
  refine z_aload_n (pc := 0) (i := 0) 0 X dX8_corner_0 rfl rfl ?_
  refine z_aload_n (pc := 1) (i := 0) 0 X dX8_corner_1 rfl rfl ?_
  refine z_iload_n (pc := 2) (i := 1) 1 X dX8_corner_2 rfl rfl ?_
  refine z_callV_i (pc := 3) (cells := 0) (slots := 0) (C := RX8) (T := TX8) (N := 30) (ci := 9) [zI a1] X dX8_corner_3 (c_X8_isDoor hp a0 a1) kw_X8_169 rfl rfl ⟨rfl, rfl, ⟨by decide, by decide⟩, ⟨by decide, by decide⟩⟩ (Nat.le_of_ble_eq_true rfl) rfl (fun x1 => ?_)
  have hJ22 : ∀ (j2 : Int), zS (X8_corner_j22 hp a0 a1 a2 a3 a4 j2) (fun r => r = r0) (zJ K 0 0 22 [(0, zR a0), (1, zI a1), (2, zI a2), (3, zI a3), (4, zI a4)] [zI j2, zR a0] hp) := by
    intro j2
    unfold X8_corner_j22
    refine z_iconst (pc := 22) (z := 1) X dX8_corner_22 rfl ⟨by decide, by decide⟩ ?_
    refine z_callV_i (pc := 23) (cells := 0) (slots := 0) (C := RX8) (T := TX8) (N := 30) (ci := 9) [zI j2, zI 1] X dX8_corner_23 (c_X8_no hp a0 j2 1) kw_X8_93 rfl rfl ⟨rfl, rfl, ⟨by decide, by decide⟩, ⟨by decide, by decide⟩⟩ (Nat.le_of_ble_eq_true rfl) rfl (fun x3 => ?_)
    refine z_if_ne (pc := 26) 45 X dX8_corner_26 (by decide) (fun _ => ?_) (fun _ => ?_)
    · refine z_iconst (pc := 45) (z := 0) X dX8_corner_45 rfl ⟨by decide, by decide⟩ ?_
      refine z_fin (fun e9 => ?_)
      subst e9
      exact hret _ _ _ _ (by decide) (by decide) dX8_corner_46 trivial
    · refine z_aload_n (pc := 29) (i := 0) 0 X dX8_corner_29 rfl rfl ?_
      refine z_aload_n (pc := 30) (i := 0) 0 X dX8_corner_30 rfl rfl ?_
      refine z_iload_n (pc := 31) (i := 2) 2 X dX8_corner_31 rfl rfl ?_
      refine z_iload_n (pc := 32) (i := 3) 3 X dX8_corner_32 rfl rfl ?_
      refine z_iload (pc := 33) (i := 4) 4 X dX8_corner_33 rfl ?_
      refine z_callV_i (pc := 35) (cells := 0) (slots := 0) (C := RX8) (T := TX8) (N := 30) (ci := 9) [zI a2, zI a3, zI a4] X dX8_corner_35 (c_X8_isPlace x3.2 a0 a2 a3 a4) kw_X8_157 rfl rfl ⟨rfl, rfl, ⟨by decide, by decide⟩, ⟨by decide, by decide⟩⟩ (Nat.le_of_ble_eq_true rfl) rfl (fun x4 => ?_)
      refine z_iconst (pc := 38) (z := 2) X dX8_corner_38 rfl ⟨by decide, by decide⟩ ?_
      refine z_callV_i (pc := 39) (cells := 0) (slots := 0) (C := RX8) (T := TX8) (N := 30) (ci := 9) [zI x4, zI 2] X dX8_corner_39 (c_X8_no x3.2 a0 x4 2) kw_X8_93 rfl rfl ⟨rfl, rfl, ⟨by decide, by decide⟩, ⟨by decide, by decide⟩⟩ (Nat.le_of_ble_eq_true rfl) rfl (fun x5 => ?_)
      refine z_if_eq (pc := 42) 47 X dX8_corner_42 (by decide) (fun _ => ?_) (fun _ => ?_)
      · refine z_aload_n (pc := 47) (i := 0) 0 X dX8_corner_47 rfl rfl ?_
        refine z_getR (pc := 48) (C := RX8) (T := TX8) (N := 30) (ci := 9) 12 X dX8_corner_48 inz_X8 rfl (by decide) fw_X8_46 (fun v6 => ?_)
        refine z_iload_n (pc := 51) (i := 1) 1 X dX8_corner_51 rfl rfl ?_
        refine z_zaload (pc := 52) X dX8_corner_52 (fun v7 => ?_)
        have hJ87 : ∀ (j8 : Int), zS (X8_corner_j87 a0 a1 a2 a3 a4 x5 j8) (fun r => r = r0) (zJ K 0 0 87 [(0, zR a0), (1, zI a1), (2, zI a2), (3, zI a3), (4, zI a4)] [zI j8] x5.2) := by
          intro j8
          unfold X8_corner_j87
          refine z_istore (pc := 87) (i := 5) (lv' := [(5, zI j8), (0, zR a0), (1, zI a1), (2, zI a2), (3, zI a3), (4, zI a4)]) X dX8_corner_87 (hN _ (by decide)) rfl ?_
          refine z_iload (pc := 89) (i := 5) 0 X dX8_corner_89 rfl ?_
          have hJ107 : ∀ (j9 : Int), zS (X8_corner_j107 a0 a1 a2 a3 a4 x5 j9) (fun r => r = r0) (zJ K 0 0 107 [(0, zR a0), (1, zI a1), (2, zI a2), (3, zI a3), (4, zI a4)] [zI j9] x5.2) := by
            intro j9
            unfold X8_corner_j107
            refine z_istore (pc := 107) (i := 6) (lv' := [(6, zI j9), (0, zR a0), (1, zI a1), (2, zI a2), (3, zI a3), (4, zI a4)]) X dX8_corner_107 (hN _ (by decide)) rfl ?_
            refine z_aload_n (pc := 109) (i := 0) 1 X dX8_corner_109 rfl rfl ?_
            refine z_iload (pc := 110) (i := 6) 0 X dX8_corner_110 rfl ?_
            have hJ120 : ∀ (j10 : Int), zS (X8_corner_j120 a0 a1 a2 a3 a4 x5 j9 j10) (fun r => r = r0) (zJ K 0 0 120 [(0, zR a0), (1, zI a1), (2, zI a2), (3, zI a3), (4, zI a4), (6, zI j9)] [zI j10, zR a0] x5.2) := by
              intro j10
              unfold X8_corner_j120
              refine z_iconst (pc := 120) (z := 3) X dX8_corner_120 rfl ⟨by decide, by decide⟩ ?_
              refine z_callV_i (pc := 121) (cells := 0) (slots := 0) (C := RX8) (T := TX8) (N := 30) (ci := 9) [zI j10, zI 3] X dX8_corner_121 (c_X8_no x5.2 a0 j10 3) kw_X8_93 rfl rfl ⟨rfl, rfl, ⟨by decide, by decide⟩, ⟨by decide, by decide⟩⟩ (Nat.le_of_ble_eq_true rfl) rfl (fun x11 => ?_)
              refine z_if_eq (pc := 124) 129 X dX8_corner_124 (by decide) (fun _ => ?_) (fun _ => ?_)
              · refine z_aload_n (pc := 129) (i := 0) 0 X dX8_corner_129 rfl rfl ?_
                refine z_iconst (pc := 130) (z := 2) X dX8_corner_130 rfl ⟨by decide, by decide⟩ ?_
                refine z_iload_n (pc := 131) (i := 1) 1 X dX8_corner_131 rfl rfl ?_
                refine z_imul (pc := 132) X dX8_corner_132 (fun v12 _ _ => ?_)
                refine z_iconst (pc := 133) (z := 1) X dX8_corner_133 rfl ⟨by decide, by decide⟩ ?_
                refine z_iadd (pc := 134) X dX8_corner_134 (fun v13 _ _ => ?_)
                refine z_iload_n (pc := 135) (i := 2) 2 X dX8_corner_135 rfl rfl ?_
                refine z_iload_n (pc := 136) (i := 3) 3 X dX8_corner_136 rfl rfl ?_
                refine z_iload (pc := 137) (i := 4) 4 X dX8_corner_137 rfl ?_
                refine z_iload (pc := 139) (i := 6) 5 X dX8_corner_139 rfl ?_
                refine z_callV_v (pc := 141) (cells := 0) (slots := 0) (C := RX8) (T := TX8) (N := 30) (ci := 9) [zI v13, zI a2, zI a3, zI a4, zI j9] X dX8_corner_141 (c_X8_puts x11.2 a0 v13 a2 a3 a4 j9) kw_X8_165 rfl rfl ⟨rfl, rfl, ⟨by decide, by decide⟩, ⟨by decide, by decide⟩⟩ (Nat.le_of_ble_eq_true rfl) rfl (fun x14 => ?_)
                refine z_iload (pc := 144) (i := 6) 5 X dX8_corner_144 rfl ?_
                refine z_fin (fun e9 => ?_)
                subst e9
                exact hret _ _ _ _ (by decide) (by decide) dX8_corner_146 trivial
              · refine z_iconst (pc := 127) (z := 0) X dX8_corner_127 rfl ⟨by decide, by decide⟩ ?_
                refine z_fin (fun e9 => ?_)
                subst e9
                exact hret _ _ _ _ (by decide) (by decide) dX8_corner_128 trivial
            refine z_if_lt (pc := 112) 119 X dX8_corner_112 (by decide) (fun _ => ?_) (fun _ => ?_)
            · refine z_iconst (pc := 119) (z := 0) X dX8_corner_119 rfl ⟨by decide, by decide⟩ ?_
              refine z_pick [1, 2, 3, 4, 5, 0] (lv' := [(0, zR a0), (1, zI a1), (2, zI a2), (3, zI a3), (4, zI a4), (6, zI j9)]) rfl ?_
              exact hJ120 0
            · refine z_iconst (pc := 115) (z := 1) X dX8_corner_115 rfl ⟨by decide, by decide⟩ ?_
              refine z_goto (pc := 116) 120 X dX8_corner_116 (by decide) ?_
              refine z_pick [1, 2, 3, 4, 5, 0] (lv' := [(0, zR a0), (1, zI a1), (2, zI a2), (3, zI a3), (4, zI a4), (6, zI j9)]) rfl ?_
              exact hJ120 1
          refine z_if_eq (pc := 91) 106 X dX8_corner_91 (by decide) (fun _ => ?_) (fun _ => ?_)
          · refine z_iconst (pc := 106) (z := -1) X dX8_corner_106 rfl ⟨by decide, by decide⟩ ?_
            refine z_pick [1, 2, 3, 4, 5] (lv' := [(0, zR a0), (1, zI a1), (2, zI a2), (3, zI a3), (4, zI a4)]) rfl ?_
            exact hJ107 ((-1))
          · refine z_aload_n (pc := 94) (i := 0) 1 X dX8_corner_94 rfl rfl ?_
            refine z_iload_n (pc := 95) (i := 2) 3 X dX8_corner_95 rfl rfl ?_
            refine z_iload_n (pc := 96) (i := 1) 2 X dX8_corner_96 rfl rfl ?_
            refine z_iload_n (pc := 97) (i := 3) 4 X dX8_corner_97 rfl rfl ?_
            refine z_iload (pc := 98) (i := 4) 5 X dX8_corner_98 rfl ?_
            refine z_callV_i (pc := 100) (cells := 0) (slots := 0) (C := RX8) (T := TX8) (N := 30) (ci := 9) [zI a2, zI a1, zI a3, zI a4] X dX8_corner_100 (c_X8_comes x5.2 a0 a2 a1 a3 a4) kw_X8_161 rfl rfl ⟨rfl, rfl, ⟨by decide, by decide⟩, ⟨by decide, by decide⟩⟩ (Nat.le_of_ble_eq_true rfl) rfl (fun x15 => ?_)
            refine z_goto (pc := 103) 107 X dX8_corner_103 (by decide) ?_
            refine z_pick [1, 2, 3, 4, 5] (lv' := [(0, zR a0), (1, zI a1), (2, zI a2), (3, zI a3), (4, zI a4)]) rfl ?_
            exact hJ107 x15
        have hJ86 : zS (X8_corner_j86 a0 a1 a2 a3 a4 x5) (fun r => r = r0) (zJ K 0 0 86 [(0, zR a0), (1, zI a1), (2, zI a2), (3, zI a3), (4, zI a4)] [] x5.2) := by
          unfold X8_corner_j86
          refine z_iconst (pc := 86) (z := 0) X dX8_corner_86 rfl ⟨by decide, by decide⟩ ?_
          exact hJ87 0
        refine z_if_ne (pc := 53) 86 X dX8_corner_53 (by decide) (fun _ => ?_) (fun _ => ?_)
        · exact hJ86
        · refine z_aload_n (pc := 56) (i := 0) 0 X dX8_corner_56 rfl rfl ?_
          refine z_getR (pc := 57) (C := RX8) (T := TX8) (N := 30) (ci := 9) 8 X dX8_corner_57 inz_X8 rfl (by decide) fw_X8_34 (fun v16 => ?_)
          refine z_iconst (pc := 60) (z := 2) X dX8_corner_60 rfl ⟨by decide, by decide⟩ ?_
          refine z_iload_n (pc := 61) (i := 1) 1 X dX8_corner_61 rfl rfl ?_
          refine z_imul (pc := 62) X dX8_corner_62 (fun v17 _ _ => ?_)
          refine z_iconst (pc := 63) (z := 1) X dX8_corner_63 rfl ⟨by decide, by decide⟩ ?_
          refine z_iadd (pc := 64) X dX8_corner_64 (fun v18 _ _ => ?_)
          refine z_iaload (pc := 65) X dX8_corner_65 (fun v19 => ?_)
          refine z_iconst (pc := 66) (z := -1) X dX8_corner_66 rfl ⟨by decide, by decide⟩ ?_
          refine z_icmp_ne (pc := 67) 86 X dX8_corner_67 (by decide) (fun _ => ?_) (fun _ => ?_)
          · exact hJ86
          · refine z_aload_n (pc := 70) (i := 0) 0 X dX8_corner_70 rfl rfl ?_
            refine z_getR (pc := 71) (C := RX8) (T := TX8) (N := 30) (ci := 9) 8 X dX8_corner_71 inz_X8 rfl (by decide) fw_X8_34 (fun v20 => ?_)
            refine z_iconst (pc := 74) (z := 2) X dX8_corner_74 rfl ⟨by decide, by decide⟩ ?_
            refine z_iload_n (pc := 75) (i := 1) 1 X dX8_corner_75 rfl rfl ?_
            refine z_imul (pc := 76) X dX8_corner_76 (fun v21 _ _ => ?_)
            refine z_iaload (pc := 77) X dX8_corner_77 (fun v22 => ?_)
            refine z_iload_n (pc := 78) (i := 2) 2 X dX8_corner_78 rfl rfl ?_
            refine z_icmp_eq (pc := 79) 86 X dX8_corner_79 (by decide) (fun _ => ?_) (fun _ => ?_)
            · exact hJ86
            · refine z_iconst (pc := 82) (z := 1) X dX8_corner_82 rfl ⟨by decide, by decide⟩ ?_
              refine z_goto (pc := 83) 87 X dX8_corner_83 (by decide) ?_
              exact hJ87 1
      · refine z_iconst (pc := 45) (z := 0) X dX8_corner_45 rfl ⟨by decide, by decide⟩ ?_
        refine z_fin (fun e9 => ?_)
        subst e9
        exact hret _ _ _ _ (by decide) (by decide) dX8_corner_46 trivial
  have hJ21 : zS (X8_corner_j21 hp a0 a1 a2 a3 a4) (fun r => r = r0) (zJ K 0 0 21 [(0, zR a0), (1, zI a1), (2, zI a2), (3, zI a3), (4, zI a4)] [zR a0] hp) := by
    unfold X8_corner_j21
    refine z_iconst (pc := 21) (z := 0) X dX8_corner_21 rfl ⟨by decide, by decide⟩ ?_
    exact hJ22 0
  refine z_if_eq (pc := 6) 21 X dX8_corner_6 (by decide) (fun _ => ?_) (fun _ => ?_)
  · exact hJ21
  · refine z_aload_n (pc := 9) (i := 0) 0 X dX8_corner_9 rfl rfl ?_
    refine z_iload_n (pc := 10) (i := 2) 2 X dX8_corner_10 rfl rfl ?_
    refine z_callV_i (pc := 11) (cells := 0) (slots := 0) (C := RX8) (T := TX8) (N := 30) (ci := 9) [zI a2] X dX8_corner_11 (c_X8_isStreet hp a0 a2) kw_X8_132 rfl rfl ⟨rfl, rfl, ⟨by decide, by decide⟩, ⟨by decide, by decide⟩⟩ (Nat.le_of_ble_eq_true rfl) rfl (fun x23 => ?_)
    refine z_if_eq (pc := 14) 21 X dX8_corner_14 (by decide) (fun _ => ?_) (fun _ => ?_)
    · exact hJ21
    · refine z_iconst (pc := 17) (z := 1) X dX8_corner_17 rfl ⟨by decide, by decide⟩ ?_
      refine z_goto (pc := 18) 22 X dX8_corner_18 (by decide) ?_
      exact hJ22 1
def X8_day (hp : zH) (a0 : Option Nat) (a1 : Int) : Option (Int × zH) :=
  (X8_isBetween hp a1 1 9999).bind fun x1 =>
  ((zobj hp a0 9).bind fun _ => X8_no hp a0 x1 1).bind fun x2 =>
  if x2.1 = 0 then
    (zgI x2.2 a0 9 28).bind fun v3 =>
    (zchk (v3 + a1)).bind fun v4 =>
    (zpI x2.2 a0 9 28 v4).bind fun h5 =>
    (zgI h5 a0 9 28).bind fun v6 =>
    some (v6, h5)
  else
    some (0, x2.2)
set_option maxRecDepth 20000 in
theorem c_X8_day (hp : zH) (a0 : Option Nat) (a1 : Int) : ∀ r, X8_day hp a0 a1 = some r → zMi yX8_day (Cond.code yX8_day cX8_day 2 (some .int) :: zALL) { frames := 1, cells := 0, slots := 0, locals := 22 } 0 0 [zR a0, zI a1] hp r.1 r.2 := by
  refine zMi_of (own := RX8) (cc := cX8_day) (maxL := 2) (ε := (Int × zH)) (res := fun r => r.1) (hp2 := fun r => r.2) (by decide) rfl (Or.inl rfl) (by exact Nat.le_of_ble_eq_true rfl) ?_
  intro K r0 X hnL hret
  have hN : ∀ i, i < 2 → i < K.2.2.2.2.2.2.2.2.2.2.2.2.2.2.1 := by rw [hnL]; exact fun _ h => h
  show zS _ _ (zJ K 0 0 0 [(0, zR a0), (1, zI a1)] [] hp)
  unfold X8_day
  refine z_aload_n (pc := 0) (i := 0) 0 X dX8_day_0 rfl rfl ?_
  refine z_iload_n (pc := 1) (i := 1) 1 X dX8_day_1 rfl rfl ?_
  refine z_iconst (pc := 2) (z := 1) X dX8_day_2 rfl ⟨by decide, by decide⟩ ?_
  refine z_sipush (pc := 3) (z := 9999) X dX8_day_3 rfl ⟨by decide, by decide⟩ ?_
  refine z_callS_i (pc := 6) (cells := 0) (slots := 0) [zI a1, zI 1, zI 9999] X dX8_day_6 (c_X8_isBetween hp a1 1 9999) kw_X8_86 rfl ⟨rfl, rfl, ⟨by decide, by decide⟩, ⟨by decide, by decide⟩⟩ (Nat.le_of_ble_eq_true rfl) rfl (fun x1 => ?_)
  refine z_iconst (pc := 9) (z := 1) X dX8_day_9 rfl ⟨by decide, by decide⟩ ?_
  refine z_callV_i (pc := 10) (cells := 0) (slots := 0) (C := RX8) (T := TX8) (N := 30) (ci := 9) [zI x1, zI 1] X dX8_day_10 (c_X8_no hp a0 x1 1) kw_X8_93 rfl rfl ⟨rfl, rfl, ⟨by decide, by decide⟩, ⟨by decide, by decide⟩⟩ (Nat.le_of_ble_eq_true rfl) rfl (fun x2 => ?_)
  refine z_if_eq (pc := 13) 18 X dX8_day_13 (by decide) (fun _ => ?_) (fun _ => ?_)
  · refine z_aload_n (pc := 18) (i := 0) 0 X dX8_day_18 rfl rfl ?_
    refine z_dup (pc := 19) X dX8_day_19 rfl ?_
    refine z_getI (pc := 20) (C := RX8) (T := TX8) (N := 30) (ci := 9) 28 X dX8_day_20 inz_X8 rfl (by decide) fw_X8_121 (fun v3 => ?_)
    refine z_iload_n (pc := 23) (i := 1) 1 X dX8_day_23 rfl rfl ?_
    refine z_iadd (pc := 24) X dX8_day_24 (fun v4 _ _ => ?_)
    refine z_putI (pc := 25) (C := RX8) (T := TX8) (N := 30) (ci := 9) 28 X dX8_day_25 inz_X8 tyX8_ok nmX8 rfl (by decide) fw_X8_121 rfl rfl (fun h5 => ?_)
    refine z_aload_n (pc := 28) (i := 0) 0 X dX8_day_28 rfl rfl ?_
    refine z_getI (pc := 29) (C := RX8) (T := TX8) (N := 30) (ci := 9) 28 X dX8_day_29 inz_X8 rfl (by decide) fw_X8_121 (fun v6 => ?_)
    refine z_fin (fun e9 => ?_)
    subst e9
    exact hret _ _ _ _ (by decide) (by decide) dX8_day_32 trivial
  · refine z_iconst (pc := 16) (z := 0) X dX8_day_16 rfl ⟨by decide, by decide⟩ ?_
    refine z_fin (fun e9 => ?_)
    subst e9
    exact hret _ _ _ _ (by decide) (by decide) dX8_day_17 trivial
def X8_door_j76 (a0 : Option Nat) (a1 : Int) (a2 : Int) (a3 : Int) (x6 : Int) (x8 : (Int × zH)) (j10 : Int) : Option (Int × zH) :=
  ((zobj x8.2 a0 9).bind fun _ => X8_no x8.2 a0 j10 4).bind fun x11 =>
  if x11.1 = 0 then
    (zgR x11.2 a0 9 13).bind fun v12 =>
    (zgI x11.2 a0 9 14).bind fun v13 =>
    (zsI x11.2 0 v12 v13 ((-1))).bind fun h14 =>
    (zgI h14 a0 9 14).bind fun v15 =>
    (zchk (2 * v15)).bind fun v16 =>
    ((zobj h14 a0 9).bind fun _ => X8_puts h14 a0 v16 a1 a2 a3 x6).bind fun x17 =>
    (zgI x17 a0 9 14).bind fun v18 =>
    (zchk (v18 + 1)).bind fun v19 =>
    (zpI x17 a0 9 14 v19).bind fun h20 =>
    (zgI h20 a0 9 14).bind fun v21 =>
    (zchk (v21 - 1)).bind fun v22 =>
    some (v22, h20)
  else
    some (0, x11.2)
def X8_door_j54 (a0 : Option Nat) (a1 : Int) (a2 : Int) (a3 : Int) (x4 : (Int × zH)) (x6 : Int) (j7 : Int) : Option (Int × zH) :=
  ((zobj x4.2 a0 9).bind fun _ => X8_no x4.2 a0 j7 3).bind fun x8 =>
  if x8.1 = 0 then
    (zgI x8.2 a0 9 14).bind fun v9 =>
    if 40 ≤ v9 then
      X8_door_j76 a0 a1 a2 a3 x6 x8 0
    else
      X8_door_j76 a0 a1 a2 a3 x6 x8 1
  else
    some (0, x8.2)
def X8_door (hp : zH) (a0 : Option Nat) (a1 : Int) (a2 : Int) (a3 : Int) : Option (Int × zH) :=
  ((zobj hp a0 9).bind fun _ => X8_isStreet hp a0 a1).bind fun x1 =>
  ((zobj hp a0 9).bind fun _ => X8_no hp a0 x1 1).bind fun x2 =>
  if x2.1 = 0 then
    ((zobj x2.2 a0 9).bind fun _ => X8_isPlace x2.2 a0 a1 a2 a3).bind fun x3 =>
    ((zobj x2.2 a0 9).bind fun _ => X8_no x2.2 a0 x3 2).bind fun x4 =>
    if x4.1 = 0 then
      (zgI x4.2 a0 9 14).bind fun v5 =>
      ((zobj x4.2 a0 9).bind fun _ => X8_comes x4.2 a0 a1 v5 a2 a3).bind fun x6 =>
      if x6 < 0 then
        X8_door_j54 a0 a1 a2 a3 x4 x6 0
      else
        X8_door_j54 a0 a1 a2 a3 x4 x6 1
    else
      some (0, x4.2)
  else
    some (0, x2.2)
set_option maxRecDepth 20000 in
theorem c_X8_door (hp : zH) (a0 : Option Nat) (a1 : Int) (a2 : Int) (a3 : Int) : ∀ r, X8_door hp a0 a1 a2 a3 = some r → zMi yX8_door (Cond.code yX8_door cX8_door 5 (some .int) :: zALL) { frames := 3, cells := 0, slots := 0, locals := 77 } 0 0 [zR a0, zI a1, zI a2, zI a3] hp r.1 r.2 := by
  refine zMi_of (own := RX8) (cc := cX8_door) (maxL := 5) (ε := (Int × zH)) (res := fun r => r.1) (hp2 := fun r => r.2) (by decide) rfl (Or.inl rfl) (by exact Nat.le_of_ble_eq_true rfl) ?_
  intro K r0 X hnL hret
  have hN : ∀ i, i < 5 → i < K.2.2.2.2.2.2.2.2.2.2.2.2.2.2.1 := by rw [hnL]; exact fun _ h => h
  show zS _ _ (zJ K 0 0 0 [(0, zR a0), (1, zI a1), (2, zI a2), (3, zI a3)] [] hp)
  unfold X8_door
  refine z_aload_n (pc := 0) (i := 0) 0 X dX8_door_0 rfl rfl ?_
  refine z_aload_n (pc := 1) (i := 0) 0 X dX8_door_1 rfl rfl ?_
  refine z_iload_n (pc := 2) (i := 1) 1 X dX8_door_2 rfl rfl ?_
  refine z_callV_i (pc := 3) (cells := 0) (slots := 0) (C := RX8) (T := TX8) (N := 30) (ci := 9) [zI a1] X dX8_door_3 (c_X8_isStreet hp a0 a1) kw_X8_132 rfl rfl ⟨rfl, rfl, ⟨by decide, by decide⟩, ⟨by decide, by decide⟩⟩ (Nat.le_of_ble_eq_true rfl) rfl (fun x1 => ?_)
  refine z_iconst (pc := 6) (z := 1) X dX8_door_6 rfl ⟨by decide, by decide⟩ ?_
  refine z_callV_i (pc := 7) (cells := 0) (slots := 0) (C := RX8) (T := TX8) (N := 30) (ci := 9) [zI x1, zI 1] X dX8_door_7 (c_X8_no hp a0 x1 1) kw_X8_93 rfl rfl ⟨rfl, rfl, ⟨by decide, by decide⟩, ⟨by decide, by decide⟩⟩ (Nat.le_of_ble_eq_true rfl) rfl (fun x2 => ?_)
  refine z_if_ne (pc := 10) 28 X dX8_door_10 (by decide) (fun _ => ?_) (fun _ => ?_)
  · refine z_iconst (pc := 28) (z := 0) X dX8_door_28 rfl ⟨by decide, by decide⟩ ?_
    refine z_fin (fun e9 => ?_)
    subst e9
    exact hret _ _ _ _ (by decide) (by decide) dX8_door_29 trivial
  · refine z_aload_n (pc := 13) (i := 0) 0 X dX8_door_13 rfl rfl ?_
    refine z_aload_n (pc := 14) (i := 0) 0 X dX8_door_14 rfl rfl ?_
    refine z_iload_n (pc := 15) (i := 1) 1 X dX8_door_15 rfl rfl ?_
    refine z_iload_n (pc := 16) (i := 2) 2 X dX8_door_16 rfl rfl ?_
    refine z_iload_n (pc := 17) (i := 3) 3 X dX8_door_17 rfl rfl ?_
    refine z_callV_i (pc := 18) (cells := 0) (slots := 0) (C := RX8) (T := TX8) (N := 30) (ci := 9) [zI a1, zI a2, zI a3] X dX8_door_18 (c_X8_isPlace x2.2 a0 a1 a2 a3) kw_X8_157 rfl rfl ⟨rfl, rfl, ⟨by decide, by decide⟩, ⟨by decide, by decide⟩⟩ (Nat.le_of_ble_eq_true rfl) rfl (fun x3 => ?_)
    refine z_iconst (pc := 21) (z := 2) X dX8_door_21 rfl ⟨by decide, by decide⟩ ?_
    refine z_callV_i (pc := 22) (cells := 0) (slots := 0) (C := RX8) (T := TX8) (N := 30) (ci := 9) [zI x3, zI 2] X dX8_door_22 (c_X8_no x2.2 a0 x3 2) kw_X8_93 rfl rfl ⟨rfl, rfl, ⟨by decide, by decide⟩, ⟨by decide, by decide⟩⟩ (Nat.le_of_ble_eq_true rfl) rfl (fun x4 => ?_)
    refine z_if_eq (pc := 25) 30 X dX8_door_25 (by decide) (fun _ => ?_) (fun _ => ?_)
    · refine z_aload_n (pc := 30) (i := 0) 0 X dX8_door_30 rfl rfl ?_
      refine z_iload_n (pc := 31) (i := 1) 1 X dX8_door_31 rfl rfl ?_
      refine z_aload_n (pc := 32) (i := 0) 0 X dX8_door_32 rfl rfl ?_
      refine z_getI (pc := 33) (C := RX8) (T := TX8) (N := 30) (ci := 9) 14 X dX8_door_33 inz_X8 rfl (by decide) fw_X8_90 (fun v5 => ?_)
      refine z_iload_n (pc := 36) (i := 2) 2 X dX8_door_36 rfl rfl ?_
      refine z_iload_n (pc := 37) (i := 3) 3 X dX8_door_37 rfl rfl ?_
      refine z_callV_i (pc := 38) (cells := 0) (slots := 0) (C := RX8) (T := TX8) (N := 30) (ci := 9) [zI a1, zI v5, zI a2, zI a3] X dX8_door_38 (c_X8_comes x4.2 a0 a1 v5 a2 a3) kw_X8_161 rfl rfl ⟨rfl, rfl, ⟨by decide, by decide⟩, ⟨by decide, by decide⟩⟩ (Nat.le_of_ble_eq_true rfl) rfl (fun x6 => ?_)
      refine z_istore (pc := 41) (i := 4) (lv' := [(4, zI x6), (0, zR a0), (1, zI a1), (2, zI a2), (3, zI a3)]) X dX8_door_41 (hN _ (by decide)) rfl ?_
      refine z_aload_n (pc := 43) (i := 0) 1 X dX8_door_43 rfl rfl ?_
      refine z_iload (pc := 44) (i := 4) 0 X dX8_door_44 rfl ?_
      have hJ54 : ∀ (j7 : Int), zS (X8_door_j54 a0 a1 a2 a3 x4 x6 j7) (fun r => r = r0) (zJ K 0 0 54 [(0, zR a0), (1, zI a1), (2, zI a2), (3, zI a3), (4, zI x6)] [zI j7, zR a0] x4.2) := by
        intro j7
        unfold X8_door_j54
        refine z_iconst (pc := 54) (z := 3) X dX8_door_54 rfl ⟨by decide, by decide⟩ ?_
        refine z_callV_i (pc := 55) (cells := 0) (slots := 0) (C := RX8) (T := TX8) (N := 30) (ci := 9) [zI j7, zI 3] X dX8_door_55 (c_X8_no x4.2 a0 j7 3) kw_X8_93 rfl rfl ⟨rfl, rfl, ⟨by decide, by decide⟩, ⟨by decide, by decide⟩⟩ (Nat.le_of_ble_eq_true rfl) rfl (fun x8 => ?_)
        refine z_if_ne (pc := 58) 83 X dX8_door_58 (by decide) (fun _ => ?_) (fun _ => ?_)
        · refine z_iconst (pc := 83) (z := 0) X dX8_door_83 rfl ⟨by decide, by decide⟩ ?_
          refine z_fin (fun e9 => ?_)
          subst e9
          exact hret _ _ _ _ (by decide) (by decide) dX8_door_84 trivial
        · refine z_aload_n (pc := 61) (i := 0) 0 X dX8_door_61 rfl rfl ?_
          refine z_aload_n (pc := 62) (i := 0) 0 X dX8_door_62 rfl rfl ?_
          refine z_getI (pc := 63) (C := RX8) (T := TX8) (N := 30) (ci := 9) 14 X dX8_door_63 inz_X8 rfl (by decide) fw_X8_90 (fun v9 => ?_)
          refine z_bipush (pc := 66) (z := 40) X dX8_door_66 rfl ⟨by decide, by decide⟩ ?_
          have hJ76 : ∀ (j10 : Int), zS (X8_door_j76 a0 a1 a2 a3 x6 x8 j10) (fun r => r = r0) (zJ K 0 0 76 [(0, zR a0), (1, zI a1), (2, zI a2), (3, zI a3), (4, zI x6)] [zI j10, zR a0] x8.2) := by
            intro j10
            unfold X8_door_j76
            refine z_iconst (pc := 76) (z := 4) X dX8_door_76 rfl ⟨by decide, by decide⟩ ?_
            refine z_callV_i (pc := 77) (cells := 0) (slots := 0) (C := RX8) (T := TX8) (N := 30) (ci := 9) [zI j10, zI 4] X dX8_door_77 (c_X8_no x8.2 a0 j10 4) kw_X8_93 rfl rfl ⟨rfl, rfl, ⟨by decide, by decide⟩, ⟨by decide, by decide⟩⟩ (Nat.le_of_ble_eq_true rfl) rfl (fun x11 => ?_)
            refine z_if_eq (pc := 80) 85 X dX8_door_80 (by decide) (fun _ => ?_) (fun _ => ?_)
            · refine z_aload_n (pc := 85) (i := 0) 0 X dX8_door_85 rfl rfl ?_
              refine z_getR (pc := 86) (C := RX8) (T := TX8) (N := 30) (ci := 9) 13 X dX8_door_86 inz_X8 rfl (by decide) fw_X8_49 (fun v12 => ?_)
              refine z_aload_n (pc := 89) (i := 0) 0 X dX8_door_89 rfl rfl ?_
              refine z_getI (pc := 90) (C := RX8) (T := TX8) (N := 30) (ci := 9) 14 X dX8_door_90 inz_X8 rfl (by decide) fw_X8_90 (fun v13 => ?_)
              refine z_iconst (pc := 93) (z := -1) X dX8_door_93 rfl ⟨by decide, by decide⟩ ?_
              refine z_iastore (pc := 94) X dX8_door_94 (fun h14 => ?_)
              refine z_aload_n (pc := 95) (i := 0) 0 X dX8_door_95 rfl rfl ?_
              refine z_iconst (pc := 96) (z := 2) X dX8_door_96 rfl ⟨by decide, by decide⟩ ?_
              refine z_aload_n (pc := 97) (i := 0) 0 X dX8_door_97 rfl rfl ?_
              refine z_getI (pc := 98) (C := RX8) (T := TX8) (N := 30) (ci := 9) 14 X dX8_door_98 inz_X8 rfl (by decide) fw_X8_90 (fun v15 => ?_)
              refine z_imul (pc := 101) X dX8_door_101 (fun v16 _ _ => ?_)
              refine z_iload_n (pc := 102) (i := 1) 1 X dX8_door_102 rfl rfl ?_
              refine z_iload_n (pc := 103) (i := 2) 2 X dX8_door_103 rfl rfl ?_
              refine z_iload_n (pc := 104) (i := 3) 3 X dX8_door_104 rfl rfl ?_
              refine z_iload (pc := 105) (i := 4) 4 X dX8_door_105 rfl ?_
              refine z_callV_v (pc := 107) (cells := 0) (slots := 0) (C := RX8) (T := TX8) (N := 30) (ci := 9) [zI v16, zI a1, zI a2, zI a3, zI x6] X dX8_door_107 (c_X8_puts h14 a0 v16 a1 a2 a3 x6) kw_X8_165 rfl rfl ⟨rfl, rfl, ⟨by decide, by decide⟩, ⟨by decide, by decide⟩⟩ (Nat.le_of_ble_eq_true rfl) rfl (fun x17 => ?_)
              refine z_aload_n (pc := 110) (i := 0) 0 X dX8_door_110 rfl rfl ?_
              refine z_dup (pc := 111) X dX8_door_111 rfl ?_
              refine z_getI (pc := 112) (C := RX8) (T := TX8) (N := 30) (ci := 9) 14 X dX8_door_112 inz_X8 rfl (by decide) fw_X8_90 (fun v18 => ?_)
              refine z_iconst (pc := 115) (z := 1) X dX8_door_115 rfl ⟨by decide, by decide⟩ ?_
              refine z_iadd (pc := 116) X dX8_door_116 (fun v19 _ _ => ?_)
              refine z_putI (pc := 117) (C := RX8) (T := TX8) (N := 30) (ci := 9) 14 X dX8_door_117 inz_X8 tyX8_ok nmX8 rfl (by decide) fw_X8_90 rfl rfl (fun h20 => ?_)
              refine z_aload_n (pc := 120) (i := 0) 0 X dX8_door_120 rfl rfl ?_
              refine z_getI (pc := 121) (C := RX8) (T := TX8) (N := 30) (ci := 9) 14 X dX8_door_121 inz_X8 rfl (by decide) fw_X8_90 (fun v21 => ?_)
              refine z_iconst (pc := 124) (z := 1) X dX8_door_124 rfl ⟨by decide, by decide⟩ ?_
              refine z_isub (pc := 125) X dX8_door_125 (fun v22 _ _ => ?_)
              refine z_fin (fun e9 => ?_)
              subst e9
              exact hret _ _ _ _ (by decide) (by decide) dX8_door_126 trivial
            · refine z_iconst (pc := 83) (z := 0) X dX8_door_83 rfl ⟨by decide, by decide⟩ ?_
              refine z_fin (fun e9 => ?_)
              subst e9
              exact hret _ _ _ _ (by decide) (by decide) dX8_door_84 trivial
          refine z_icmp_ge (pc := 68) 75 X dX8_door_68 (by decide) (fun _ => ?_) (fun _ => ?_)
          · refine z_iconst (pc := 75) (z := 0) X dX8_door_75 rfl ⟨by decide, by decide⟩ ?_
            exact hJ76 0
          · refine z_iconst (pc := 71) (z := 1) X dX8_door_71 rfl ⟨by decide, by decide⟩ ?_
            refine z_goto (pc := 72) 76 X dX8_door_72 (by decide) ?_
            exact hJ76 1
      refine z_if_lt (pc := 46) 53 X dX8_door_46 (by decide) (fun _ => ?_) (fun _ => ?_)
      · refine z_iconst (pc := 53) (z := 0) X dX8_door_53 rfl ⟨by decide, by decide⟩ ?_
        refine z_pick [1, 2, 3, 4, 0] (lv' := [(0, zR a0), (1, zI a1), (2, zI a2), (3, zI a3), (4, zI x6)]) rfl ?_
        exact hJ54 0
      · refine z_iconst (pc := 49) (z := 1) X dX8_door_49 rfl ⟨by decide, by decide⟩ ?_
        refine z_goto (pc := 50) 54 X dX8_door_50 (by decide) ?_
        refine z_pick [1, 2, 3, 4, 0] (lv' := [(0, zR a0), (1, zI a1), (2, zI a2), (3, zI a3), (4, zI x6)]) rfl ?_
        exact hJ54 1
    · refine z_iconst (pc := 28) (z := 0) X dX8_door_28 rfl ⟨by decide, by decide⟩ ?_
      refine z_fin (fun e9 => ?_)
      subst e9
      exact hret _ _ _ _ (by decide) (by decide) dX8_door_29 trivial
