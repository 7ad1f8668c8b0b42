/-! methods, as functions over the pure heap, and their contracts (by program) -/
def X1_isRow (hp : zH) (a0 : Int) : Option Int :=
  if a0 < 0 then
    some 0
  else
    if 40 ≤ a0 then
      some 0
    else
      some 1
set_option maxRecDepth 20000 in
theorem c_X1_isRow (hp : zH) (a0 : Int) : ∀ r, X1_isRow hp a0 = some r → zMi yX1_isRow (Cond.code yX1_isRow cX1_isRow 1 (some .boolean) :: zALL) { frames := 0, cells := 0, slots := 0, locals := 0 } 0 0 [zI a0] hp r hp := by
  refine zMi_of (own := RX1) (cc := cX1_isRow) (maxL := 1) (res := fun r => r) (hp2 := fun _ => hp) (by decide) rfl (Or.inr (Or.inl rfl)) (by exact Nat.le_of_ble_eq_true rfl) ?_
  intro K r0 X hnL hret
  have hN : ∀ i, i < 1 → i < K.2.2.2.2.2.2.2.2.2.2.2.2.2.2.1 := by rw [hnL]; exact fun _ h => h
  show zS _ _ (zJ K 0 0 0 [(0, zI a0)] [] hp)
  unfold X1_isRow
  refine z_iload_n (pc := 0) (i := 0) 0 X dX1_isRow_0 rfl rfl ?_
  refine z_if_lt (pc := 1) 14 X dX1_isRow_1 (by decide) (fun _ => ?_) (fun _ => ?_)
  · refine z_iconst (pc := 14) (z := 0) X dX1_isRow_14 rfl ⟨by decide, by decide⟩ ?_
    refine z_fin (fun e9 => ?_)
    subst e9
    exact hret _ _ _ _ (by decide) (by decide) dX1_isRow_15 (Or.inl rfl)
  · refine z_iload_n (pc := 4) (i := 0) 0 X dX1_isRow_4 rfl rfl ?_
    refine z_bipush (pc := 5) (z := 40) X dX1_isRow_5 rfl ⟨by decide, by decide⟩ ?_
    refine z_icmp_ge (pc := 7) 14 X dX1_isRow_7 (by decide) (fun _ => ?_) (fun _ => ?_)
    · refine z_iconst (pc := 14) (z := 0) X dX1_isRow_14 rfl ⟨by decide, by decide⟩ ?_
      refine z_fin (fun e9 => ?_)
      subst e9
      exact hret _ _ _ _ (by decide) (by decide) dX1_isRow_15 (Or.inl rfl)
    · refine z_iconst (pc := 10) (z := 1) X dX1_isRow_10 rfl ⟨by decide, by decide⟩ ?_
      refine z_goto (pc := 11) 15 X dX1_isRow_11 (by decide) ?_
      refine z_fin (fun e9 => ?_)
      subst e9
      exact hret _ _ _ _ (by decide) (by decide) dX1_isRow_15 (Or.inr rfl)
def X1_codeOf (hp : zH) (a0 : Option Nat) (a1 : Int) : Option Int :=
  (X1_isRow hp a1).bind fun x1 =>
  if x1 = 0 then
    some 0
  else
    (zgR hp a0 3 2).bind fun v2 =>
    (zaI hp 0 v2 a1).bind fun v3 =>
    some v3
set_option maxRecDepth 20000 in
theorem c_X1_codeOf (hp : zH) (a0 : Option Nat) (a1 : Int) : ∀ r, X1_codeOf hp a0 a1 = some r → zMi yX1_codeOf (Cond.code yX1_codeOf cX1_codeOf 2 (some .int) :: zALL) { frames := 1, cells := 0, slots := 0, locals := 20 } 0 0 [zR a0, zI a1] hp r hp := by
  refine zMi_of (own := RX1) (cc := cX1_codeOf) (maxL := 2) (res := fun r => r) (hp2 := fun _ => hp) (by decide) rfl (Or.inl rfl) (by exact Nat.le_of_ble_eq_true rfl) ?_
  intro K r0 X hnL hret
  have hN : ∀ i, i < 2 → i < K.2.2.2.2.2.2.2.2.2.2.2.2.2.2.1 := by rw [hnL]; exact fun _ h => h
  show zS _ _ (zJ K 0 0 0 [(0, zR a0), (1, zI a1)] [] hp)
  unfold X1_codeOf
  refine z_iload_n (pc := 0) (i := 1) 1 X dX1_codeOf_0 rfl rfl ?_
  refine z_callS_i (pc := 1) (cells := 0) (slots := 0) [zI a1] X dX1_codeOf_1 (c_X1_isRow hp a1) kw_X1_47 rfl ⟨rfl, rfl, ⟨by decide, by decide⟩, ⟨by decide, by decide⟩⟩ (Nat.le_of_ble_eq_true rfl) rfl (fun x1 => ?_)
  refine z_if_eq (pc := 4) 16 X dX1_codeOf_4 (by decide) (fun _ => ?_) (fun _ => ?_)
  · refine z_iconst (pc := 16) (z := 0) X dX1_codeOf_16 rfl ⟨by decide, by decide⟩ ?_
    refine z_fin (fun e9 => ?_)
    subst e9
    exact hret _ _ _ _ (by decide) (by decide) dX1_codeOf_17 trivial
  · refine z_aload_n (pc := 7) (i := 0) 0 X dX1_codeOf_7 rfl rfl ?_
    refine z_getR (pc := 8) (C := RX1) (T := TX1) (N := 7) (ci := 3) 2 X dX1_codeOf_8 inz_X1 rfl (by decide) fw_X1_19 (fun v2 => ?_)
    refine z_iload_n (pc := 11) (i := 1) 1 X dX1_codeOf_11 rfl rfl ?_
    refine z_iaload (pc := 12) X dX1_codeOf_12 (fun v3 => ?_)
    refine z_goto (pc := 13) 17 X dX1_codeOf_13 (by decide) ?_
    refine z_fin (fun e9 => ?_)
    subst e9
    exact hret _ _ _ _ (by decide) (by decide) dX1_codeOf_17 trivial
def X1_enter (hp : zH) (a0 : Option Nat) (a1 : Int) (a2 : Int) (a3 : Int) (a4 : Int) : Option zH :=
  (X1_isRow hp a1).bind fun x1 =>
  if x1 = 0 then
    some hp
  else
    (zgR hp a0 3 0).bind fun v2 =>
    ((zobj hp a0 3).bind fun _ => X1_keyOf hp a0 a1 a2).bind fun x3 =>
    (zsI hp 0 v2 a1 x3).bind fun h4 =>
    (zgR h4 a0 3 1).bind fun v5 =>
    (zsI h4 2 v5 a1 a3).bind fun h6 =>
    (zgR h6 a0 3 2).bind fun v7 =>
    (zsI h6 0 v7 a1 a4).bind fun h8 =>
    (zgI h8 a0 3 6).bind fun v9 =>
    (zdiv a4 10).bind fun v10 =>
    (zpI h8 a0 3 6 ((zmax v9 v10))).bind fun h11 =>
    some h11
set_option maxRecDepth 20000 in
theorem c_X1_enter (hp : zH) (a0 : Option Nat) (a1 : Int) (a2 : Int) (a3 : Int) (a4 : Int) : ∀ r, X1_enter hp a0 a1 a2 a3 a4 = some r → zMv yX1_enter (Cond.code yX1_enter cX1_enter 5 none :: zALL) { frames := 2, cells := 0, slots := 0, locals := 43 } 0 0 [zR a0, zI a1, zI a2, zI a3, zI a4] hp r := by
  refine zMv_of (own := RX1) (cc := cX1_enter) (maxL := 5) (hp2 := fun r => r) (by decide) rfl (by exact Nat.le_of_ble_eq_true rfl) ?_
  intro K r0 X hnL hnm9 hret
  have hN : ∀ i, i < 5 → i < K.2.2.2.2.2.2.2.2.2.2.2.2.2.2.1 := by rw [hnL]; exact fun _ h => h
  show zS _ _ (zJ K 0 0 0 [(0, zR a0), (1, zI a1), (2, zI a2), (3, zI a3), (4, zI a4)] [] hp)
  unfold X1_enter
  refine z_iload_n (pc := 0) (i := 1) 1 X dX1_enter_0 rfl rfl ?_
  refine z_callS_i (pc := 1) (cells := 0) (slots := 0) [zI a1] X dX1_enter_1 (c_X1_isRow hp a1) kw_X1_47 rfl ⟨rfl, rfl, ⟨by decide, by decide⟩, ⟨by decide, by decide⟩⟩ (Nat.le_of_ble_eq_true rfl) rfl (fun x1 => ?_)
  refine z_if_eq (pc := 4) 50 X dX1_enter_4 (by decide) (fun _ => ?_) (fun _ => ?_)
  · refine z_fin (fun e9 => ?_)
    subst e9
    exact hret _ _ _ _ (by decide) (by decide) dX1_enter_50
  · refine z_aload_n (pc := 7) (i := 0) 0 X dX1_enter_7 rfl rfl ?_
    refine z_getR (pc := 8) (C := RX1) (T := TX1) (N := 7) (ci := 3) 0 X dX1_enter_8 inz_X1 rfl (by decide) fw_X1_9 (fun v2 => ?_)
    refine z_iload_n (pc := 11) (i := 1) 1 X dX1_enter_11 rfl rfl ?_
    refine z_aload_n (pc := 12) (i := 0) 0 X dX1_enter_12 rfl rfl ?_
    refine z_iload_n (pc := 13) (i := 1) 1 X dX1_enter_13 rfl rfl ?_
    refine z_iload_n (pc := 14) (i := 2) 2 X dX1_enter_14 rfl rfl ?_
    refine z_callV_i (pc := 15) (cells := 0) (slots := 0) (C := RX1) (T := TX1) (N := 7) (ci := 3) [zI a1, zI a2] X dX1_enter_15 (c_X1_keyOf hp a0 a1 a2) kw_X1_51 rfl rfl ⟨rfl, rfl, ⟨by decide, by decide⟩, ⟨by decide, by decide⟩⟩ (Nat.le_of_ble_eq_true rfl) rfl (fun x3 => ?_)
    refine z_iastore (pc := 18) X dX1_enter_18 (fun h4 => ?_)
    refine z_aload_n (pc := 19) (i := 0) 0 X dX1_enter_19 rfl rfl ?_
    refine z_getR (pc := 20) (C := RX1) (T := TX1) (N := 7) (ci := 3) 1 X dX1_enter_20 inz_X1 rfl (by decide) fw_X1_15 (fun v5 => ?_)
    refine z_iload_n (pc := 23) (i := 1) 1 X dX1_enter_23 rfl rfl ?_
    refine z_iload_n (pc := 24) (i := 3) 3 X dX1_enter_24 rfl rfl ?_
    refine z_zastore (pc := 25) X dX1_enter_25 (fun h6 => ?_)
    refine z_aload_n (pc := 26) (i := 0) 0 X dX1_enter_26 rfl rfl ?_
    refine z_getR (pc := 27) (C := RX1) (T := TX1) (N := 7) (ci := 3) 2 X dX1_enter_27 inz_X1 rfl (by decide) fw_X1_19 (fun v7 => ?_)
    refine z_iload_n (pc := 30) (i := 1) 1 X dX1_enter_30 rfl rfl ?_
    refine z_iload (pc := 31) (i := 4) 4 X dX1_enter_31 rfl ?_
    refine z_iastore (pc := 33) X dX1_enter_33 (fun h8 => ?_)
    refine z_aload_n (pc := 34) (i := 0) 0 X dX1_enter_34 rfl rfl ?_
    refine z_aload_n (pc := 35) (i := 0) 0 X dX1_enter_35 rfl rfl ?_
    refine z_getI (pc := 36) (C := RX1) (T := TX1) (N := 7) (ci := 3) 6 X dX1_enter_36 inz_X1 rfl (by decide) fw_X1_34 (fun v9 => ?_)
    refine z_iload (pc := 39) (i := 4) 4 X dX1_enter_39 rfl ?_
    refine z_bipush (pc := 41) (z := 10) X dX1_enter_41 rfl ⟨by decide, by decide⟩ ?_
    refine z_idiv (pc := 43) X dX1_enter_43 (fun v10 => ?_)
    refine z_max (pc := 44) X dX1_enter_44 (zin (zt1 204 (by decide +kernel)) rfl) (zin (zt1 205 (by decide +kernel)) rfl) (zin (zt1 17 (by decide +kernel)) rfl) (zin (zt1 206 (by decide +kernel)) rfl) (Nat.le_of_ble_eq_true rfl) (Nat.le_of_ble_eq_true rfl) (Nat.le_of_ble_eq_true rfl) (Nat.le_of_ble_eq_true rfl) ?_
    refine z_putI (pc := 47) (C := RX1) (T := TX1) (N := 7) (ci := 3) 6 X dX1_enter_47 inz_X1 tyX1_ok nmX1 rfl (by decide) fw_X1_34 rfl rfl (fun h11 => ?_)
    refine z_fin (fun e9 => ?_)
    subst e9
    exact hret _ _ _ _ (by decide) (by decide) dX1_enter_50
def X1_hasTwins_b10 (p5 : Option Nat) (p6 : Int) (h8 : zH) (s7 : Int) : Option ((Int) ⊕ ((Unit) ⊕ (Unit))) :=
  if p6 ≤ s7 then
    some (Sum.inr (Sum.inl ()))
  else
    (zgR h8 p5 3 2).bind fun v10 =>
    (zaI h8 0 v10 p6).bind fun v11 =>
    if v11 = 0 then
      (zchk (s7 + 1)).bind fun v12 =>
      some (Sum.inl (v12))
    else
      (zgR h8 p5 3 2).bind fun v13 =>
      (zaI h8 0 v13 p6).bind fun v14 =>
      (zgR h8 p5 3 2).bind fun v15 =>
      (zaI h8 0 v15 s7).bind fun v16 =>
      if v14 = v16 then
        some (Sum.inr (Sum.inr ()))
      else
        (zchk (s7 + 1)).bind fun v17 =>
        some (Sum.inl (v17))
def X1_hasTwins_b2 (p1 : Option Nat) (h3 : zH) (s2 : Int) : Option ((Int) ⊕ ((Unit) ⊕ (Unit))) :=
  if 40 ≤ s2 then
    some (Sum.inr (Sum.inl ()))
  else
    (zloop (X1_hasTwins_b10 p1 s2 h3) zN 0).bind fun e9 =>
    match e9 with
    | Sum.inl e9 =>
      (zchk (s2 + 1)).bind fun v18 =>
      some (Sum.inl (v18))
    | Sum.inr e9 =>
      some (Sum.inr (Sum.inr ()))
def X1_hasTwins (hp : zH) (a0 : Option Nat) : Option Int :=
  (zloop (X1_hasTwins_b2 a0 hp) zN 0).bind fun e4 =>
  match e4 with
  | Sum.inl e4 =>
    some 0
  | Sum.inr e4 =>
    some 1
set_option maxRecDepth 20000 in
theorem c_X1_hasTwins (hp : zH) (a0 : Option Nat) : ∀ r, X1_hasTwins hp a0 = some r → zMi yX1_hasTwins (Cond.code yX1_hasTwins cX1_hasTwins 3 (some .boolean) :: zALL) { frames := 0, cells := 0, slots := 0, locals := 0 } 0 0 [zR a0] hp r hp := by
  refine zMi_of (own := RX1) (cc := cX1_hasTwins) (maxL := 3) (res := fun r => r) (hp2 := fun _ => hp) (by decide) rfl (Or.inr (Or.inl rfl)) (by exact Nat.le_of_ble_eq_true rfl) ?_
  intro K r0 X hnL hret
  have hN : ∀ i, i < 3 → i < K.2.2.2.2.2.2.2.2.2.2.2.2.2.2.1 := by rw [hnL]; exact fun _ h => h
  show zS _ _ (zJ K 0 0 0 [(0, zR a0)] [] hp)
  unfold X1_hasTwins
  refine z_iconst (pc := 0) (z := 0) X dX1_hasTwins_0 rfl ⟨by decide, by decide⟩ ?_
  refine z_istore_n (pc := 1) (i := 1) (lv' := [(1, zI 0), (0, zR a0)]) X dX1_hasTwins_1 rfl (hN _ (by decide)) rfl ?_
  refine z_pick [1, 0] (lv' := [(0, zR a0), (1, zI 0)]) rfl ?_
  refine z_bind (z_loop (body := X1_hasTwins_b2 a0 hp) (fun s2 : Int => zJ K 0 0 2 [(0, zR a0), (1, zI s2)] [] hp) (fun e4 : ((Unit) ⊕ (Unit)) => (match e4 with | Sum.inl e4 => zJ K 0 0 53 [] [] hp | Sum.inr e4 => zJ K 0 0 39 [] [] hp)) (fun s2 => ?_) zN 0) (fun e4 => ?_)
  · unfold X1_hasTwins_b2
    refine z_iload_n (pc := 2) (i := 1) 1 X dX1_hasTwins_2 rfl rfl ?_
    refine z_bipush (pc := 3) (z := 40) X dX1_hasTwins_3 rfl ⟨by decide, by decide⟩ ?_
    refine z_icmp_ge (pc := 5) 53 X dX1_hasTwins_5 (by decide) (fun _ => ?_) (fun _ => ?_)
    · refine z_pick [] (lv' := []) rfl ?_
      exact z_exit
    · refine z_iconst (pc := 8) (z := 0) X dX1_hasTwins_8 rfl ⟨by decide, by decide⟩ ?_
      refine z_istore_n (pc := 9) (i := 2) (lv' := [(2, zI 0), (0, zR a0), (1, zI s2)]) X dX1_hasTwins_9 rfl (hN _ (by decide)) rfl ?_
      refine z_pick [1, 2, 0] (lv' := [(0, zR a0), (1, zI s2), (2, zI 0)]) rfl ?_
      refine z_bind (z_loop (body := X1_hasTwins_b10 a0 s2 hp) (fun s7 : Int => zJ K 0 0 10 [(0, zR a0), (1, zI s2), (2, zI s7)] [] hp) (fun e9 : ((Unit) ⊕ (Unit)) => (match e9 with | Sum.inl e9 => zJ K 0 0 47 [(0, zR a0), (1, zI s2)] [] hp | Sum.inr e9 => zJ K 0 0 39 [] [] hp)) (fun s7 => ?_) zN 0) (fun e9 => ?_)
      · unfold X1_hasTwins_b10
        refine z_iload_n (pc := 10) (i := 2) 2 X dX1_hasTwins_10 rfl rfl ?_
        refine z_iload_n (pc := 11) (i := 1) 1 X dX1_hasTwins_11 rfl rfl ?_
        refine z_icmp_ge (pc := 12) 47 X dX1_hasTwins_12 (by decide) (fun _ => ?_) (fun _ => ?_)
        · refine z_pick [0, 1] (lv' := [(0, zR a0), (1, zI s2)]) rfl ?_
          exact z_exit
        · refine z_aload_n (pc := 15) (i := 0) 0 X dX1_hasTwins_15 rfl rfl ?_
          refine z_getR (pc := 16) (C := RX1) (T := TX1) (N := 7) (ci := 3) 2 X dX1_hasTwins_16 inz_X1 rfl (by decide) fw_X1_19 (fun v10 => ?_)
          refine z_iload_n (pc := 19) (i := 1) 1 X dX1_hasTwins_19 rfl rfl ?_
          refine z_iaload (pc := 20) X dX1_hasTwins_20 (fun v11 => ?_)
          refine z_if_eq (pc := 21) 41 X dX1_hasTwins_21 (by decide) (fun _ => ?_) (fun _ => ?_)
          · refine z_iinc (pc := 41) (i := 2) (n := 1) (lv' := fun v12 => [(2, zI v12), (0, zR a0), (1, zI s2)]) 2 X dX1_hasTwins_41 rfl (hN _ (by decide)) (fun _ => rfl) (fun v12 _ _ => ?_)
            refine z_goto (pc := 44) 10 X dX1_hasTwins_44 (by decide) ?_
            refine z_pick [1, 2, 0] (lv' := [(0, zR a0), (1, zI s2), (2, zI v12)]) rfl ?_
            exact z_back
          · refine z_aload_n (pc := 24) (i := 0) 0 X dX1_hasTwins_24 rfl rfl ?_
            refine z_getR (pc := 25) (C := RX1) (T := TX1) (N := 7) (ci := 3) 2 X dX1_hasTwins_25 inz_X1 rfl (by decide) fw_X1_19 (fun v13 => ?_)
            refine z_iload_n (pc := 28) (i := 1) 1 X dX1_hasTwins_28 rfl rfl ?_
            refine z_iaload (pc := 29) X dX1_hasTwins_29 (fun v14 => ?_)
            refine z_aload_n (pc := 30) (i := 0) 0 X dX1_hasTwins_30 rfl rfl ?_
            refine z_getR (pc := 31) (C := RX1) (T := TX1) (N := 7) (ci := 3) 2 X dX1_hasTwins_31 inz_X1 rfl (by decide) fw_X1_19 (fun v15 => ?_)
            refine z_iload_n (pc := 34) (i := 2) 2 X dX1_hasTwins_34 rfl rfl ?_
            refine z_iaload (pc := 35) X dX1_hasTwins_35 (fun v16 => ?_)
            refine z_icmp_ne (pc := 36) 41 X dX1_hasTwins_36 (by decide) (fun _ => ?_) (fun _ => ?_)
            · refine z_iinc (pc := 41) (i := 2) (n := 1) (lv' := fun v17 => [(2, zI v17), (0, zR a0), (1, zI s2)]) 2 X dX1_hasTwins_41 rfl (hN _ (by decide)) (fun _ => rfl) (fun v17 _ _ => ?_)
              refine z_goto (pc := 44) 10 X dX1_hasTwins_44 (by decide) ?_
              refine z_pick [1, 2, 0] (lv' := [(0, zR a0), (1, zI s2), (2, zI v17)]) rfl ?_
              exact z_back
            · refine z_pick [] (lv' := []) rfl ?_
              exact z_exit
      · rcases e9 with e9 | e9
        · refine z_iinc (pc := 47) (i := 1) (n := 1) (lv' := fun v18 => [(1, zI v18), (0, zR a0)]) 1 X dX1_hasTwins_47 rfl (hN _ (by decide)) (fun _ => rfl) (fun v18 _ _ => ?_)
          refine z_goto (pc := 50) 2 X dX1_hasTwins_50 (by decide) ?_
          refine z_pick [1, 0] (lv' := [(0, zR a0), (1, zI v18)]) rfl ?_
          exact z_back
        · exact z_exit
  · rcases e4 with e4 | e4
    · refine z_iconst (pc := 53) (z := 0) X dX1_hasTwins_53 rfl ⟨by decide, by decide⟩ ?_
      refine z_fin (fun e9 => ?_)
      subst e9
      exact hret _ _ _ _ (by decide) (by decide) dX1_hasTwins_54 (Or.inl rfl)
    · refine z_iconst (pc := 39) (z := 1) X dX1_hasTwins_39 rfl ⟨by decide, by decide⟩ ?_
      refine z_fin (fun e9 => ?_)
      subst e9
      exact hret _ _ _ _ (by decide) (by decide) dX1_hasTwins_40 (Or.inr rfl)
def J7_fill_53178_b5 (p2 : Option Nat) (p3 : Int) (p4 : Int) (s5 : Int × zH) : Option ((Int × zH) ⊕ (zH)) :=
  if p4 ≤ s5.1 then
    some (Sum.inr (s5.2))
  else
    (zsI s5.2 0 p2 s5.1 p3).bind fun h7 =>
    (zchk (s5.1 + 1)).bind fun v8 =>
    some (Sum.inl (v8, h7))
def J7_fill_53178 (hp : zH) (a0 : Option Nat) (a1 : Int) : Option zH :=
  (zlen hp a0).bind fun v1 =>
  (zloop (J7_fill_53178_b5 a0 a1 v1) zN (0, hp)).bind fun e6 =>
  some e6
set_option maxRecDepth 20000 in
theorem c_J7_fill_53178 (hp : zH) (a0 : Option Nat) (a1 : Int) : ∀ r, J7_fill_53178 hp a0 a1 = some r → zMv yJ7_fill_53178 (Cond.code yJ7_fill_53178 cJ7_fill_53178 4 none :: zALL) { frames := 0, cells := 0, slots := 0, locals := 0 } 0 0 [zR a0, zI a1] hp r := by
  refine zMv_of (own := RJ7) (cc := cJ7_fill_53178) (maxL := 4) (hp2 := fun r => r) (by decide) rfl (by exact Nat.le_of_ble_eq_true rfl) ?_
  intro K r0 X hnL hnm9 hret
  have hN : ∀ i, i < 4 → i < K.2.2.2.2.2.2.2.2.2.2.2.2.2.2.1 := by rw [hnL]; exact fun _ h => h
  show zS _ _ (zJ K 0 0 0 [(0, zR a0), (1, zI a1)] [] hp)
  unfold J7_fill_53178
  refine z_iconst (pc := 0) (z := 0) X dJ7_fill_53178_0 rfl ⟨by decide, by decide⟩ ?_
  refine z_istore_n (pc := 1) (i := 2) (lv' := [(2, zI 0), (0, zR a0), (1, zI a1)]) X dJ7_fill_53178_1 rfl (hN _ (by decide)) rfl ?_
  refine z_aload_n (pc := 2) (i := 0) 1 X dJ7_fill_53178_2 rfl rfl ?_
  refine z_alen (pc := 3) X dJ7_fill_53178_3 (fun v1 => ?_)
  refine z_istore_n (pc := 4) (i := 3) (lv' := [(3, zI v1), (2, zI 0), (0, zR a0), (1, zI a1)]) X dJ7_fill_53178_4 rfl (hN _ (by decide)) rfl ?_
  refine z_pick [2, 3, 1, 0] (lv' := [(0, zR a0), (1, zI a1), (2, zI 0), (3, zI v1)]) rfl ?_
  refine z_bind (z_loop (body := J7_fill_53178_b5 a0 a1 v1) (fun s5 : Int × zH => zJ K 0 0 5 [(0, zR a0), (1, zI a1), (2, zI s5.1), (3, zI v1)] [] s5.2) (fun e6 : zH => zJ K 0 0 20 [] [] e6) (fun s5 => ?_) zN (0, hp)) (fun e6 => ?_)
  · unfold J7_fill_53178_b5
    refine z_iload_n (pc := 5) (i := 2) 2 X dJ7_fill_53178_5 rfl rfl ?_
    refine z_iload_n (pc := 6) (i := 3) 3 X dJ7_fill_53178_6 rfl rfl ?_
    refine z_icmp_ge (pc := 7) 20 X dJ7_fill_53178_7 (by decide) (fun _ => ?_) (fun _ => ?_)
    · refine z_pick [] (lv' := []) rfl ?_
      exact z_exit
    · refine z_aload_n (pc := 10) (i := 0) 0 X dJ7_fill_53178_10 rfl rfl ?_
      refine z_iload_n (pc := 11) (i := 2) 2 X dJ7_fill_53178_11 rfl rfl ?_
      refine z_iload_n (pc := 12) (i := 1) 1 X dJ7_fill_53178_12 rfl rfl ?_
      refine z_iastore (pc := 13) X dJ7_fill_53178_13 (fun h7 => ?_)
      refine z_iinc (pc := 14) (i := 2) (n := 1) (lv' := fun v8 => [(2, zI v8), (0, zR a0), (1, zI a1), (3, zI v1)]) 2 X dJ7_fill_53178_14 rfl (hN _ (by decide)) (fun _ => rfl) (fun v8 _ _ => ?_)
      refine z_goto (pc := 17) 5 X dJ7_fill_53178_17 (by decide) ?_
      refine z_pick [1, 2, 0, 3] (lv' := [(0, zR a0), (1, zI a1), (2, zI v8), (3, zI v1)]) rfl ?_
      exact z_back
  · refine z_fin (fun e9 => ?_)
    subst e9
    exact hret _ _ _ _ (by decide) (by decide) dJ7_fill_53178_20
def X1_open (hp : zH) (a0 : Option Nat) (a1 : Option Nat) (a2 : Int) (a3 : Int) : Option zH :=
  (zgR hp a0 3 2).bind fun v1 =>
  (J7_fill_53178 hp v1 0).bind fun x2 =>
  (zgI x2 a1 7 4).bind fun v3 =>
  (zpC x2 a0 3 3 v3).bind fun h4 =>
  (zgI h4 a1 7 5).bind fun v5 =>
  (zpZ h4 a0 3 4 v5).bind fun h6 =>
  (zpI h6 a0 3 5 a2).bind fun h7 =>
  (zpI h7 a0 3 6 a3).bind fun h8 =>
  some h8
set_option maxRecDepth 20000 in
theorem c_X1_open (hp : zH) (a0 : Option Nat) (a1 : Option Nat) (a2 : Int) (a3 : Int) : ∀ r, X1_open hp a0 a1 a2 a3 = some r → zMv yX1_open (Cond.code yX1_open cX1_open 4 none :: zALL) { frames := 1, cells := 0, slots := 0, locals := 23 } 0 0 [zR a0, zR a1, zI a2, zI a3] hp r := by
  refine zMv_of (own := RX1) (cc := cX1_open) (maxL := 4) (hp2 := fun r => r) (by decide) rfl (by exact Nat.le_of_ble_eq_true rfl) ?_
  intro K r0 X hnL hnm9 hret
  have hN : ∀ i, i < 4 → i < K.2.2.2.2.2.2.2.2.2.2.2.2.2.2.1 := by rw [hnL]; exact fun _ h => h
  show zS _ _ (zJ K 0 0 0 [(0, zR a0), (1, zR a1), (2, zI a2), (3, zI a3)] [] hp)
  unfold X1_open
  refine z_aload_n (pc := 0) (i := 0) 0 X dX1_open_0 rfl rfl ?_
  refine z_getR (pc := 1) (C := RX1) (T := TX1) (N := 7) (ci := 3) 2 X dX1_open_1 inz_X1 rfl (by decide) fw_X1_19 (fun v1 => ?_)
  refine z_iconst (pc := 4) (z := 0) X dX1_open_4 rfl ⟨by decide, by decide⟩ ?_
  refine z_callS_v (pc := 5) (cells := 0) (slots := 0) [zR v1, zI 0] X dX1_open_5 (c_J7_fill_53178 hp v1 0) kw_X1_37 rfl ⟨rfl, rfl, ⟨by decide, by decide⟩, ⟨by decide, by decide⟩⟩ (Nat.le_of_ble_eq_true rfl) rfl (fun x2 => ?_)
  refine z_aload_n (pc := 8) (i := 0) 0 X dX1_open_8 rfl rfl ?_
  refine z_aload_n (pc := 9) (i := 1) 1 X dX1_open_9 rfl rfl ?_
  refine z_getI (pc := 10) (C := RX6) (T := TX6) (N := 8) (ci := 7) 4 X dX1_open_10 inz_X6 rfl (by decide) fw_X1_43 (fun v3 => ?_)
  refine z_putC (pc := 13) (C := RX1) (T := TX1) (N := 7) (ci := 3) 3 X dX1_open_13 inz_X1 tyX1_ok nmX1 rfl (by decide) fw_X1_22 rfl rfl (fun h4 => ?_)
  refine z_aload_n (pc := 16) (i := 0) 0 X dX1_open_16 rfl rfl ?_
  refine z_aload_n (pc := 17) (i := 1) 1 X dX1_open_17 rfl rfl ?_
  refine z_getI (pc := 18) (C := RX6) (T := TX6) (N := 8) (ci := 7) 5 X dX1_open_18 inz_X6 rfl (by decide) fw_X1_46 (fun v5 => ?_)
  refine z_putZ (pc := 21) (C := RX1) (T := TX1) (N := 7) (ci := 3) 4 X dX1_open_21 inz_X1 tyX1_ok nmX1 rfl (by decide) fw_X1_26 rfl rfl (fun h6 => ?_)
  refine z_aload_n (pc := 24) (i := 0) 0 X dX1_open_24 rfl rfl ?_
  refine z_iload_n (pc := 25) (i := 2) 2 X dX1_open_25 rfl rfl ?_
  refine z_putI (pc := 26) (C := RX1) (T := TX1) (N := 7) (ci := 3) 5 X dX1_open_26 inz_X1 tyX1_ok nmX1 rfl (by decide) fw_X1_30 rfl rfl (fun h7 => ?_)
  refine z_aload_n (pc := 29) (i := 0) 0 X dX1_open_29 rfl rfl ?_
  refine z_iload_n (pc := 30) (i := 3) 3 X dX1_open_30 rfl rfl ?_
  refine z_putI (pc := 31) (C := RX1) (T := TX1) (N := 7) (ci := 3) 6 X dX1_open_31 inz_X1 tyX1_ok nmX1 rfl (by decide) fw_X1_34 rfl rfl (fun h8 => ?_)
  refine z_fin (fun e9 => ?_)
  subst e9
  exact hret _ _ _ _ (by decide) (by decide) dX1_open_34
def X1_pairsAgainstOrder_b12 (p5 : Option Nat) (p6 : Int) (h8 : zH) (s7 : Int × Int) : Option ((Int × Int) ⊕ (Int)) :=
  if 40 ≤ s7.2 then
    some (Sum.inr (s7.1))
  else
    (zgR h8 p5 3 2).bind fun v10 =>
    (zaI h8 0 v10 p6).bind fun v11 =>
    if v11 = 0 then
      (zchk (s7.2 + 1)).bind fun v12 =>
      some (Sum.inl (s7.1, v12))
    else
      (zgR h8 p5 3 2).bind fun v13 =>
      (zaI h8 0 v13 s7.2).bind fun v14 =>
      if v14 = 0 then
        (zchk (s7.2 + 1)).bind fun v15 =>
        some (Sum.inl (s7.1, v15))
      else
        (zgR h8 p5 3 1).bind fun v16 =>
        (zaI h8 2 v16 p6).bind fun v17 =>
        (zgR h8 p5 3 1).bind fun v18 =>
        (zaI h8 2 v18 s7.2).bind fun v19 =>
        if v17 = v19 then
          (zgR h8 p5 3 0).bind fun v21 =>
          (zaI h8 0 v21 p6).bind fun v22 =>
          (zgR h8 p5 3 0).bind fun v23 =>
          (zaI h8 0 v23 s7.2).bind fun v24 =>
          if v24 ≤ v22 then
            (zchk (s7.2 + 1)).bind fun v25 =>
            some (Sum.inl (s7.1, v25))
          else
            (zgR h8 p5 3 2).bind fun v26 =>
            (zaI h8 0 v26 p6).bind fun v27 =>
            (zgR h8 p5 3 2).bind fun v28 =>
            (zaI h8 0 v28 s7.2).bind fun v29 =>
            if v27 ≤ v29 then
              (zchk (s7.2 + 1)).bind fun v30 =>
              some (Sum.inl (s7.1, v30))
            else
              (zchk (s7.1 + 1)).bind fun v31 =>
              (zchk (s7.2 + 1)).bind fun v32 =>
              some (Sum.inl (v31, v32))
        else
          (zchk (s7.2 + 1)).bind fun v20 =>
          some (Sum.inl (s7.1, v20))
def X1_pairsAgainstOrder_b4 (p1 : Option Nat) (h3 : zH) (s2 : Int × Int) : Option ((Int × Int) ⊕ (Int)) :=
  if 40 ≤ s2.2 then
    some (Sum.inr (s2.1))
  else
    (zloop (X1_pairsAgainstOrder_b12 p1 s2.2 h3) zN (s2.1, 0)).bind fun e9 =>
    (zchk (s2.2 + 1)).bind fun v33 =>
    some (Sum.inl (e9, v33))
def X1_pairsAgainstOrder (hp : zH) (a0 : Option Nat) : Option Int :=
  (zloop (X1_pairsAgainstOrder_b4 a0 hp) zN (0, 0)).bind fun e4 =>
  some e4
set_option maxRecDepth 20000 in
theorem c_X1_pairsAgainstOrder (hp : zH) (a0 : Option Nat) : ∀ r, X1_pairsAgainstOrder hp a0 = some r → zMi yX1_pairsAgainstOrder (Cond.code yX1_pairsAgainstOrder cX1_pairsAgainstOrder 4 (some .int) :: zALL) { frames := 0, cells := 0, slots := 0, locals := 0 } 0 0 [zR a0] hp r hp := by
  refine zMi_of (own := RX1) (cc := cX1_pairsAgainstOrder) (maxL := 4) (res := fun r => r) (hp2 := fun _ => hp) (by decide) rfl (Or.inl rfl) (by exact Nat.le_of_ble_eq_true rfl) ?_
  intro K r0 X hnL hret
  have hN : ∀ i, i < 4 → i < K.2.2.2.2.2.2.2.2.2.2.2.2.2.2.1 := by rw [hnL]; exact fun _ h => h
  show zS _ _ (zJ K 0 0 0 [(0, zR a0)] [] hp)
  unfold X1_pairsAgainstOrder
  refine z_iconst (pc := 0) (z := 0) X dX1_pairsAgainstOrder_0 rfl ⟨by decide, by decide⟩ ?_
  refine z_istore_n (pc := 1) (i := 1) (lv' := [(1, zI 0), (0, zR a0)]) X dX1_pairsAgainstOrder_1 rfl (hN _ (by decide)) rfl ?_
  refine z_iconst (pc := 2) (z := 0) X dX1_pairsAgainstOrder_2 rfl ⟨by decide, by decide⟩ ?_
  refine z_istore_n (pc := 3) (i := 2) (lv' := [(2, zI 0), (1, zI 0), (0, zR a0)]) X dX1_pairsAgainstOrder_3 rfl (hN _ (by decide)) rfl ?_
  refine z_pick [2, 1, 0] (lv' := [(0, zR a0), (1, zI 0), (2, zI 0)]) rfl ?_
  refine z_bind (z_loop (body := X1_pairsAgainstOrder_b4 a0 hp) (fun s2 : Int × Int => zJ K 0 0 4 [(0, zR a0), (1, zI s2.1), (2, zI s2.2)] [] hp) (fun e4 : Int => zJ K 0 0 96 [(1, zI e4)] [] hp) (fun s2 => ?_) zN (0, 0)) (fun e4 => ?_)
  · unfold X1_pairsAgainstOrder_b4
    refine z_iload_n (pc := 4) (i := 2) 2 X dX1_pairsAgainstOrder_4 rfl rfl ?_
    refine z_bipush (pc := 5) (z := 40) X dX1_pairsAgainstOrder_5 rfl ⟨by decide, by decide⟩ ?_
    refine z_icmp_ge (pc := 7) 96 X dX1_pairsAgainstOrder_7 (by decide) (fun _ => ?_) (fun _ => ?_)
    · refine z_pick [1] (lv' := [(1, zI s2.1)]) rfl ?_
      exact z_exit
    · refine z_iconst (pc := 10) (z := 0) X dX1_pairsAgainstOrder_10 rfl ⟨by decide, by decide⟩ ?_
      refine z_istore_n (pc := 11) (i := 3) (lv' := [(3, zI 0), (0, zR a0), (1, zI s2.1), (2, zI s2.2)]) X dX1_pairsAgainstOrder_11 rfl (hN _ (by decide)) rfl ?_
      refine z_pick [1, 2, 3, 0] (lv' := [(0, zR a0), (1, zI s2.1), (2, zI s2.2), (3, zI 0)]) rfl ?_
      refine z_bind (z_loop (body := X1_pairsAgainstOrder_b12 a0 s2.2 hp) (fun s7 : Int × Int => zJ K 0 0 12 [(0, zR a0), (1, zI s7.1), (2, zI s2.2), (3, zI s7.2)] [] hp) (fun e9 : Int => zJ K 0 0 90 [(0, zR a0), (1, zI e9), (2, zI s2.2)] [] hp) (fun s7 => ?_) zN (s2.1, 0)) (fun e9 => ?_)
      · unfold X1_pairsAgainstOrder_b12
        refine z_iload_n (pc := 12) (i := 3) 3 X dX1_pairsAgainstOrder_12 rfl rfl ?_
        refine z_bipush (pc := 13) (z := 40) X dX1_pairsAgainstOrder_13 rfl ⟨by decide, by decide⟩ ?_
        refine z_icmp_ge (pc := 15) 90 X dX1_pairsAgainstOrder_15 (by decide) (fun _ => ?_) (fun _ => ?_)
        · refine z_pick [0, 1, 2] (lv' := [(0, zR a0), (1, zI s7.1), (2, zI s2.2)]) rfl ?_
          exact z_exit
        · refine z_aload_n (pc := 18) (i := 0) 0 X dX1_pairsAgainstOrder_18 rfl rfl ?_
          refine z_getR (pc := 19) (C := RX1) (T := TX1) (N := 7) (ci := 3) 2 X dX1_pairsAgainstOrder_19 inz_X1 rfl (by decide) fw_X1_19 (fun v10 => ?_)
          refine z_iload_n (pc := 22) (i := 2) 2 X dX1_pairsAgainstOrder_22 rfl rfl ?_
          refine z_iaload (pc := 23) X dX1_pairsAgainstOrder_23 (fun v11 => ?_)
          refine z_if_eq (pc := 24) 84 X dX1_pairsAgainstOrder_24 (by decide) (fun _ => ?_) (fun _ => ?_)
          · refine z_iinc (pc := 84) (i := 3) (n := 1) (lv' := fun v12 => [(3, zI v12), (0, zR a0), (1, zI s7.1), (2, zI s2.2)]) 3 X dX1_pairsAgainstOrder_84 rfl (hN _ (by decide)) (fun _ => rfl) (fun v12 _ _ => ?_)
            refine z_goto (pc := 87) 12 X dX1_pairsAgainstOrder_87 (by decide) ?_
            refine z_pick [1, 2, 3, 0] (lv' := [(0, zR a0), (1, zI s7.1), (2, zI s2.2), (3, zI v12)]) rfl ?_
            exact z_back
          · refine z_aload_n (pc := 27) (i := 0) 0 X dX1_pairsAgainstOrder_27 rfl rfl ?_
            refine z_getR (pc := 28) (C := RX1) (T := TX1) (N := 7) (ci := 3) 2 X dX1_pairsAgainstOrder_28 inz_X1 rfl (by decide) fw_X1_19 (fun v13 => ?_)
            refine z_iload_n (pc := 31) (i := 3) 3 X dX1_pairsAgainstOrder_31 rfl rfl ?_
            refine z_iaload (pc := 32) X dX1_pairsAgainstOrder_32 (fun v14 => ?_)
            refine z_if_eq (pc := 33) 84 X dX1_pairsAgainstOrder_33 (by decide) (fun _ => ?_) (fun _ => ?_)
            · refine z_iinc (pc := 84) (i := 3) (n := 1) (lv' := fun v15 => [(3, zI v15), (0, zR a0), (1, zI s7.1), (2, zI s2.2)]) 3 X dX1_pairsAgainstOrder_84 rfl (hN _ (by decide)) (fun _ => rfl) (fun v15 _ _ => ?_)
              refine z_goto (pc := 87) 12 X dX1_pairsAgainstOrder_87 (by decide) ?_
              refine z_pick [1, 2, 3, 0] (lv' := [(0, zR a0), (1, zI s7.1), (2, zI s2.2), (3, zI v15)]) rfl ?_
              exact z_back
            · refine z_aload_n (pc := 36) (i := 0) 0 X dX1_pairsAgainstOrder_36 rfl rfl ?_
              refine z_getR (pc := 37) (C := RX1) (T := TX1) (N := 7) (ci := 3) 1 X dX1_pairsAgainstOrder_37 inz_X1 rfl (by decide) fw_X1_15 (fun v16 => ?_)
              refine z_iload_n (pc := 40) (i := 2) 2 X dX1_pairsAgainstOrder_40 rfl rfl ?_
              refine z_zaload (pc := 41) X dX1_pairsAgainstOrder_41 (fun v17 => ?_)
              refine z_aload_n (pc := 42) (i := 0) 0 X dX1_pairsAgainstOrder_42 rfl rfl ?_
              refine z_getR (pc := 43) (C := RX1) (T := TX1) (N := 7) (ci := 3) 1 X dX1_pairsAgainstOrder_43 inz_X1 rfl (by decide) fw_X1_15 (fun v18 => ?_)
              refine z_iload_n (pc := 46) (i := 3) 3 X dX1_pairsAgainstOrder_46 rfl rfl ?_
              refine z_zaload (pc := 47) X dX1_pairsAgainstOrder_47 (fun v19 => ?_)
              refine z_icmp_ne (pc := 48) 84 X dX1_pairsAgainstOrder_48 (by decide) (fun _ => ?_) (fun _ => ?_)
              · refine z_iinc (pc := 84) (i := 3) (n := 1) (lv' := fun v20 => [(3, zI v20), (0, zR a0), (1, zI s7.1), (2, zI s2.2)]) 3 X dX1_pairsAgainstOrder_84 rfl (hN _ (by decide)) (fun _ => rfl) (fun v20 _ _ => ?_)
                refine z_goto (pc := 87) 12 X dX1_pairsAgainstOrder_87 (by decide) ?_
                refine z_pick [1, 2, 3, 0] (lv' := [(0, zR a0), (1, zI s7.1), (2, zI s2.2), (3, zI v20)]) rfl ?_
                exact z_back
              · refine z_aload_n (pc := 51) (i := 0) 0 X dX1_pairsAgainstOrder_51 rfl rfl ?_
                refine z_getR (pc := 52) (C := RX1) (T := TX1) (N := 7) (ci := 3) 0 X dX1_pairsAgainstOrder_52 inz_X1 rfl (by decide) fw_X1_9 (fun v21 => ?_)
                refine z_iload_n (pc := 55) (i := 2) 2 X dX1_pairsAgainstOrder_55 rfl rfl ?_
                refine z_iaload (pc := 56) X dX1_pairsAgainstOrder_56 (fun v22 => ?_)
                refine z_aload_n (pc := 57) (i := 0) 0 X dX1_pairsAgainstOrder_57 rfl rfl ?_
                refine z_getR (pc := 58) (C := RX1) (T := TX1) (N := 7) (ci := 3) 0 X dX1_pairsAgainstOrder_58 inz_X1 rfl (by decide) fw_X1_9 (fun v23 => ?_)
                refine z_iload_n (pc := 61) (i := 3) 3 X dX1_pairsAgainstOrder_61 rfl rfl ?_
                refine z_iaload (pc := 62) X dX1_pairsAgainstOrder_62 (fun v24 => ?_)
                refine z_icmp_ge (pc := 63) 84 X dX1_pairsAgainstOrder_63 (by decide) (fun _ => ?_) (fun _ => ?_)
                · refine z_iinc (pc := 84) (i := 3) (n := 1) (lv' := fun v25 => [(3, zI v25), (0, zR a0), (1, zI s7.1), (2, zI s2.2)]) 3 X dX1_pairsAgainstOrder_84 rfl (hN _ (by decide)) (fun _ => rfl) (fun v25 _ _ => ?_)
                  refine z_goto (pc := 87) 12 X dX1_pairsAgainstOrder_87 (by decide) ?_
                  refine z_pick [1, 2, 3, 0] (lv' := [(0, zR a0), (1, zI s7.1), (2, zI s2.2), (3, zI v25)]) rfl ?_
                  exact z_back
                · refine z_aload_n (pc := 66) (i := 0) 0 X dX1_pairsAgainstOrder_66 rfl rfl ?_
                  refine z_getR (pc := 67) (C := RX1) (T := TX1) (N := 7) (ci := 3) 2 X dX1_pairsAgainstOrder_67 inz_X1 rfl (by decide) fw_X1_19 (fun v26 => ?_)
                  refine z_iload_n (pc := 70) (i := 2) 2 X dX1_pairsAgainstOrder_70 rfl rfl ?_
                  refine z_iaload (pc := 71) X dX1_pairsAgainstOrder_71 (fun v27 => ?_)
                  refine z_aload_n (pc := 72) (i := 0) 0 X dX1_pairsAgainstOrder_72 rfl rfl ?_
                  refine z_getR (pc := 73) (C := RX1) (T := TX1) (N := 7) (ci := 3) 2 X dX1_pairsAgainstOrder_73 inz_X1 rfl (by decide) fw_X1_19 (fun v28 => ?_)
                  refine z_iload_n (pc := 76) (i := 3) 3 X dX1_pairsAgainstOrder_76 rfl rfl ?_
                  refine z_iaload (pc := 77) X dX1_pairsAgainstOrder_77 (fun v29 => ?_)
                  refine z_icmp_le (pc := 78) 84 X dX1_pairsAgainstOrder_78 (by decide) (fun _ => ?_) (fun _ => ?_)
                  · refine z_iinc (pc := 84) (i := 3) (n := 1) (lv' := fun v30 => [(3, zI v30), (0, zR a0), (1, zI s7.1), (2, zI s2.2)]) 3 X dX1_pairsAgainstOrder_84 rfl (hN _ (by decide)) (fun _ => rfl) (fun v30 _ _ => ?_)
                    refine z_goto (pc := 87) 12 X dX1_pairsAgainstOrder_87 (by decide) ?_
                    refine z_pick [1, 2, 3, 0] (lv' := [(0, zR a0), (1, zI s7.1), (2, zI s2.2), (3, zI v30)]) rfl ?_
                    exact z_back
                  · refine z_iinc (pc := 81) (i := 1) (n := 1) (lv' := fun v31 => [(1, zI v31), (0, zR a0), (2, zI s2.2), (3, zI s7.2)]) 1 X dX1_pairsAgainstOrder_81 rfl (hN _ (by decide)) (fun _ => rfl) (fun v31 _ _ => ?_)
                    refine z_iinc (pc := 84) (i := 3) (n := 1) (lv' := fun v32 => [(3, zI v32), (1, zI v31), (0, zR a0), (2, zI s2.2)]) 3 X dX1_pairsAgainstOrder_84 rfl (hN _ (by decide)) (fun _ => rfl) (fun v32 _ _ => ?_)
                    refine z_goto (pc := 87) 12 X dX1_pairsAgainstOrder_87 (by decide) ?_
                    refine z_pick [2, 1, 3, 0] (lv' := [(0, zR a0), (1, zI v31), (2, zI s2.2), (3, zI v32)]) rfl ?_
                    exact z_back
      · refine z_iinc (pc := 90) (i := 2) (n := 1) (lv' := fun v33 => [(2, zI v33), (0, zR a0), (1, zI e9)]) 2 X dX1_pairsAgainstOrder_90 rfl (hN _ (by decide)) (fun _ => rfl) (fun v33 _ _ => ?_)
        refine z_goto (pc := 93) 4 X dX1_pairsAgainstOrder_93 (by decide) ?_
        refine z_pick [1, 2, 0] (lv' := [(0, zR a0), (1, zI e9), (2, zI v33)]) rfl ?_
        exact z_back
  · refine z_iload_n (pc := 96) (i := 1) 0 X dX1_pairsAgainstOrder_96 rfl rfl ?_
    refine z_fin (fun e9 => ?_)
    subst e9
    exact hret _ _ _ _ (by decide) (by decide) dX1_pairsAgainstOrder_97 trivial
def X2_lengthOf_b2 (p1 : Int64) (h3 : zH) (s2 : Int) : Option ((Int) ⊕ (Int)) :=
  if 7 ≤ s2 then
    some (Sum.inr (s2))
  else
    (zchk (s2 * 5)).bind fun v5 =>
    if (zcmp ((p1 >>> ((Int32.ofInt v5).toInt64 &&& 63))) 0) = 0 then
      some (Sum.inr (s2))
    else
      (zchk (s2 + 1)).bind fun v6 =>
      some (Sum.inl (v6))
def X2_lengthOf (hp : zH) (a0 : Int64) : Option Int :=
  (zloop (X2_lengthOf_b2 a0 hp) zN 0).bind fun e4 =>
  some e4
set_option maxRecDepth 20000 in
theorem c_X2_lengthOf (hp : zH) (a0 : Int64) : ∀ r, X2_lengthOf hp a0 = some r → zMi yX2_lengthOf (Cond.code yX2_lengthOf cX2_lengthOf 3 (some .int) :: zALL) { frames := 0, cells := 0, slots := 0, locals := 0 } 0 0 [zL a0] hp r hp := by
  refine zMi_of (own := RX2) (cc := cX2_lengthOf) (maxL := 3) (res := fun r => r) (hp2 := fun _ => hp) (by decide) rfl (Or.inl rfl) (by exact Nat.le_of_ble_eq_true rfl) ?_
  intro K r0 X hnL hret
  have hN : ∀ i, i < 3 → i < K.2.2.2.2.2.2.2.2.2.2.2.2.2.2.1 := by rw [hnL]; exact fun _ h => h
  show zS _ _ (zJ K 0 0 0 [(0, zL a0)] [] hp)
  unfold X2_lengthOf
  refine z_iconst (pc := 0) (z := 0) X dX2_lengthOf_0 rfl ⟨by decide, by decide⟩ ?_
  refine z_istore_n (pc := 1) (i := 2) (lv' := [(2, zI 0), (0, zL a0)]) X dX2_lengthOf_1 rfl (hN _ (by decide)) rfl ?_
  refine z_pick [1, 0] (lv' := [(0, zL a0), (2, zI 0)]) rfl ?_
  refine z_bind (z_loop (body := X2_lengthOf_b2 a0 hp) (fun s2 : Int => zJ K 0 0 2 [(0, zL a0), (2, zI s2)] [] hp) (fun e4 : Int => zJ K 0 0 24 [(2, zI e4)] [] hp) (fun s2 => ?_) zN 0) (fun e4 => ?_)
  · unfold X2_lengthOf_b2
    refine z_iload_n (pc := 2) (i := 2) 1 X dX2_lengthOf_2 rfl rfl ?_
    refine z_bipush (pc := 3) (z := 7) X dX2_lengthOf_3 rfl ⟨by decide, by decide⟩ ?_
    refine z_icmp_ge (pc := 5) 24 X dX2_lengthOf_5 (by decide) (fun _ => ?_) (fun _ => ?_)
    · refine z_pick [1] (lv' := [(2, zI s2)]) rfl ?_
      exact z_exit
    · refine z_lload_n (pc := 8) (i := 0) 0 X dX2_lengthOf_8 rfl rfl ?_
      refine z_iload_n (pc := 9) (i := 2) 1 X dX2_lengthOf_9 rfl rfl ?_
      refine z_iconst (pc := 10) (z := 5) X dX2_lengthOf_10 rfl ⟨by decide, by decide⟩ ?_
      refine z_imul (pc := 11) X dX2_lengthOf_11 (fun v5 _ _ => ?_)
      refine z_lshr (pc := 12) X dX2_lengthOf_12 ?_
      refine z_lconst (pc := 13) (z := 0) X dX2_lengthOf_13 rfl ?_
      refine z_lcmp (pc := 14) X dX2_lengthOf_14 ?_
      refine z_if_eq (pc := 15) 24 X dX2_lengthOf_15 (by decide) (fun _ => ?_) (fun _ => ?_)
      · refine z_pick [1] (lv' := [(2, zI s2)]) rfl ?_
        exact z_exit
      · refine z_iinc (pc := 18) (i := 2) (n := 1) (lv' := fun v6 => [(2, zI v6), (0, zL a0)]) 1 X dX2_lengthOf_18 rfl (hN _ (by decide)) (fun _ => rfl) (fun v6 _ _ => ?_)
        refine z_goto (pc := 21) 2 X dX2_lengthOf_21 (by decide) ?_
        refine z_pick [1, 0] (lv' := [(0, zL a0), (2, zI v6)]) rfl ?_
        exact z_back
  · refine z_iload_n (pc := 24) (i := 2) 0 X dX2_lengthOf_24 rfl rfl ?_
    refine z_fin (fun e9 => ?_)
    subst e9
    exact hret _ _ _ _ (by decide) (by decide) dX2_lengthOf_25 trivial
def X2_letterOf (hp : zH) (a0 : Int64) (a1 : Int) : Option Int :=
  (X2_lengthOf hp a0).bind fun x1 =>
  (zchk (x1 - 1)).bind fun v2 =>
  (zchk (v2 - a1)).bind fun v3 =>
  (zchk (v3 * 5)).bind fun v4 =>
  (zand ((Int64.toInt32 ((a0 >>> ((Int32.ofInt v4).toInt64 &&& 63)))).toInt) 31).bind fun v5 =>
  (zchk (96 + v5)).bind fun v6 =>
  (zchkC ((v6 % 65536))).bind fun _ =>
  some ((v6 % 65536))
set_option maxRecDepth 20000 in
theorem c_X2_letterOf (hp : zH) (a0 : Int64) (a1 : Int) : ∀ r, X2_letterOf hp a0 a1 = some r → zMi yX2_letterOf (Cond.code yX2_letterOf cX2_letterOf 5 (some .char) :: zALL) { frames := 1, cells := 0, slots := 0, locals := 22 } 0 0 [zL a0, zI a1] hp r hp := by
  refine zMi_of (own := RX2) (cc := cX2_letterOf) (maxL := 5) (res := fun r => r) (hp2 := fun _ => hp) (by decide) rfl (Or.inr (Or.inr rfl)) (by exact Nat.le_of_ble_eq_true rfl) ?_
  intro K r0 X hnL hret
  have hN : ∀ i, i < 5 → i < K.2.2.2.2.2.2.2.2.2.2.2.2.2.2.1 := by rw [hnL]; exact fun _ h => h
  show zS _ _ (zJ K 0 0 0 [(0, zL a0), (2, zI a1)] [] hp)
  unfold X2_letterOf
  refine z_lload_n (pc := 0) (i := 0) 0 X dX2_letterOf_0 rfl rfl ?_
  refine z_callS_i (pc := 1) (cells := 0) (slots := 0) [zL a0] X dX2_letterOf_1 (c_X2_lengthOf hp a0) kw_X2_11 rfl ⟨rfl, rfl, ⟨by decide, by decide⟩, ⟨by decide, by decide⟩⟩ (Nat.le_of_ble_eq_true rfl) rfl (fun x1 => ?_)
  refine z_iconst (pc := 4) (z := 1) X dX2_letterOf_4 rfl ⟨by decide, by decide⟩ ?_
  refine z_isub (pc := 5) X dX2_letterOf_5 (fun v2 _ _ => ?_)
  refine z_iload_n (pc := 6) (i := 2) 1 X dX2_letterOf_6 rfl rfl ?_
  refine z_isub (pc := 7) X dX2_letterOf_7 (fun v3 _ _ => ?_)
  refine z_istore_n (pc := 8) (i := 3) (lv' := [(3, zI v3), (0, zL a0), (2, zI a1)]) X dX2_letterOf_8 rfl (hN _ (by decide)) rfl ?_
  refine z_lload_n (pc := 9) (i := 0) 1 X dX2_letterOf_9 rfl rfl ?_
  refine z_iload_n (pc := 10) (i := 3) 0 X dX2_letterOf_10 rfl rfl ?_
  refine z_iconst (pc := 11) (z := 5) X dX2_letterOf_11 rfl ⟨by decide, by decide⟩ ?_
  refine z_imul (pc := 12) X dX2_letterOf_12 (fun v4 _ _ => ?_)
  refine z_lshr (pc := 13) X dX2_letterOf_13 ?_
  refine z_l2i (pc := 14) X dX2_letterOf_14 ?_
  refine z_bipush (pc := 15) (z := 31) X dX2_letterOf_15 rfl ⟨by decide, by decide⟩ ?_
  refine z_iand (pc := 17) X dX2_letterOf_17 (fun v5 => ?_)
  refine z_istore (pc := 18) (i := 4) (lv' := [(4, zI v5), (3, zI v3), (0, zL a0), (2, zI a1)]) X dX2_letterOf_18 (hN _ (by decide)) rfl ?_
  refine z_bipush (pc := 20) (z := 96) X dX2_letterOf_20 rfl ⟨by decide, by decide⟩ ?_
  refine z_iload (pc := 22) (i := 4) 0 X dX2_letterOf_22 rfl ?_
  refine z_iadd (pc := 24) X dX2_letterOf_24 (fun v6 _ _ => ?_)
  refine z_i2c (pc := 25) X dX2_letterOf_25 ?_
  refine z_chkC (fun hf9 => ?_)
  refine z_fin (fun e9 => ?_)
  subst e9
  exact hret _ _ _ _ (by decide) (by decide) dX2_letterOf_26 hf9
def X2_longer (hp : zH) (a0 : Int64) (a1 : Int) : Option Int64 :=
  (zchk (a1 - 97)).bind fun v1 =>
  (zchk (v1 + 1)).bind fun v2 =>
  some (((a0 <<< ((Int32.ofInt 5).toInt64 &&& 63)) ||| (Int64.ofInt v2)))
set_option maxRecDepth 20000 in
theorem c_X2_longer (hp : zH) (a0 : Int64) (a1 : Int) : ∀ r, X2_longer hp a0 a1 = some r → zMl yX2_longer (Cond.code yX2_longer cX2_longer 3 (some .long) :: zALL) { frames := 0, cells := 0, slots := 0, locals := 0 } 0 0 [zL a0, zI a1] hp r hp := by
  refine zMl_of (own := RX2) (cc := cX2_longer) (maxL := 3) (res := fun r => r) (hp2 := fun _ => hp) (by decide) rfl (by exact Nat.le_of_ble_eq_true rfl) ?_
  intro K r0 X hnL hret
  have hN : ∀ i, i < 3 → i < K.2.2.2.2.2.2.2.2.2.2.2.2.2.2.1 := by rw [hnL]; exact fun _ h => h
  show zS _ _ (zJ K 0 0 0 [(0, zL a0), (2, zI a1)] [] hp)
  unfold X2_longer
  refine z_lload_n (pc := 0) (i := 0) 0 X dX2_longer_0 rfl rfl ?_
  refine z_iconst (pc := 1) (z := 5) X dX2_longer_1 rfl ⟨by decide, by decide⟩ ?_
  refine z_lshl (pc := 2) X dX2_longer_2 ?_
  refine z_iload_n (pc := 3) (i := 2) 1 X dX2_longer_3 rfl rfl ?_
  refine z_bipush (pc := 4) (z := 97) X dX2_longer_4 rfl ⟨by decide, by decide⟩ ?_
  refine z_isub (pc := 6) X dX2_longer_6 (fun v1 _ _ => ?_)
  refine z_iconst (pc := 7) (z := 1) X dX2_longer_7 rfl ⟨by decide, by decide⟩ ?_
  refine z_iadd (pc := 8) X dX2_longer_8 (fun v2 _ _ => ?_)
  refine z_i2l (pc := 9) X dX2_longer_9 ?_
  refine z_lor (pc := 10) X dX2_longer_10 ?_
  refine z_fin (fun e9 => ?_)
  subst e9
  exact hret _ _ _ _ (by decide) (by decide) dX2_longer_11
def X3_init (hp : zH) (a0 : Option Nat) : Option zH :=
  a0.bind fun v1 =>
  (znewa hp 1 200).bind fun h2 =>
  (zpR h2 a0 4 0 ((some hp.length))).bind fun h3 =>
  (znewa h3 0 200).bind fun h4 =>
  (zpR h4 a0 4 1 ((some h3.length))).bind fun h5 =>
  (znewa h5 0 200).bind fun h6 =>
  (zpR h6 a0 4 2 ((some h5.length))).bind fun h7 =>
  (znewa h7 0 200).bind fun h8 =>
  (zpR h8 a0 4 3 ((some h7.length))).bind fun h9 =>
  (zpI h9 a0 4 4 0).bind fun h10 =>
  (zpI h10 a0 4 5 0).bind fun h11 =>
  some h11
set_option maxRecDepth 20000 in
theorem c_X3_init (hp : zH) (a0 : Option Nat) : ∀ r, X3_init hp a0 = some r → zMv yX3_init (Cond.code yX3_init cX3_init 1 none :: zALL) { frames := 1, cells := 4, slots := 800, locals := 24 } 4 800 [zR a0] hp r := by
  refine zMv_of (own := RX3) (cc := cX3_init) (maxL := 1) (hp2 := fun r => r) (by decide) rfl (by exact Nat.le_of_ble_eq_true rfl) ?_
  intro K r0 X hnL hnm9 hret
  have hN : ∀ i, i < 1 → i < K.2.2.2.2.2.2.2.2.2.2.2.2.2.2.1 := by rw [hnL]; exact fun _ h => h
  show zS _ _ (zJ K 0 0 0 [(0, zR a0)] [] hp)
  unfold X3_init
  refine z_aload_n (pc := 0) (i := 0) 0 X dX3_init_0 rfl rfl ?_
  refine z_objInitO (pc := 1) X dX3_init_1 (zin (zt1 40 (by decide +kernel)) rfl) (zin (zt1 29 (by decide +kernel)) rfl) (zin (zt1 30 (by decide +kernel)) rfl) (Nat.le_of_ble_eq_true rfl) (Nat.le_of_ble_eq_true rfl) (fun v1 => ?_)
  refine z_aload_n (pc := 4) (i := 0) 0 X dX3_init_4 rfl rfl ?_
  refine z_sipush (pc := 5) (z := 200) X dX3_init_5 rfl ⟨by decide, by decide⟩ ?_
  refine z_newJo (pc := 8) (c1 := 1) (s1 := 200) 200 X dX3_init_8 (zin (zt1 61 (by decide +kernel)) rfl) rfl (by decide) (by decide) (by decide) rfl rfl (fun h2 => ?_)
  refine z_putFR (pc := 10) (C := RX3) (T := TX3) (N := 6) (ci := 4) 0 X dX3_init_10 inz_X3 tyX3_ok nmX3 rfl (by decide) fw_X3_9 rfl hnm9 rfl ⟨"x", Or.inr ⟨_, rfl⟩⟩ (fun h3 => ?_)
  refine z_aload_n (pc := 13) (i := 0) 0 X dX3_init_13 rfl rfl ?_
  refine z_sipush (pc := 14) (z := 200) X dX3_init_14 rfl ⟨by decide, by decide⟩ ?_
  refine z_newIo (pc := 17) (c1 := 2) (s1 := 400) 200 X dX3_init_17 (zin (zt1 62 (by decide +kernel)) rfl) rfl (by decide) (by decide) (by decide) rfl rfl (fun h4 => ?_)
  refine z_putFR (pc := 19) (C := RX3) (T := TX3) (N := 6) (ci := 4) 1 X dX3_init_19 inz_X3 tyX3_ok nmX3 rfl (by decide) fw_X3_15 rfl hnm9 rfl ⟨"x", Or.inr ⟨_, rfl⟩⟩ (fun h5 => ?_)
  refine z_aload_n (pc := 22) (i := 0) 0 X dX3_init_22 rfl rfl ?_
  refine z_sipush (pc := 23) (z := 200) X dX3_init_23 rfl ⟨by decide, by decide⟩ ?_
  refine z_newIo (pc := 26) (c1 := 3) (s1 := 600) 200 X dX3_init_26 (zin (zt1 62 (by decide +kernel)) rfl) rfl (by decide) (by decide) (by decide) rfl rfl (fun h6 => ?_)
  refine z_putFR (pc := 28) (C := RX3) (T := TX3) (N := 6) (ci := 4) 2 X dX3_init_28 inz_X3 tyX3_ok nmX3 rfl (by decide) fw_X3_19 rfl hnm9 rfl ⟨"x", Or.inr ⟨_, rfl⟩⟩ (fun h7 => ?_)
  refine z_aload_n (pc := 31) (i := 0) 0 X dX3_init_31 rfl rfl ?_
  refine z_sipush (pc := 32) (z := 200) X dX3_init_32 rfl ⟨by decide, by decide⟩ ?_
  refine z_newIo (pc := 35) (c1 := 4) (s1 := 800) 200 X dX3_init_35 (zin (zt1 62 (by decide +kernel)) rfl) rfl (by decide) (by decide) (by decide) rfl rfl (fun h8 => ?_)
  refine z_putFR (pc := 37) (C := RX3) (T := TX3) (N := 6) (ci := 4) 3 X dX3_init_37 inz_X3 tyX3_ok nmX3 rfl (by decide) fw_X3_22 rfl hnm9 rfl ⟨"x", Or.inr ⟨_, rfl⟩⟩ (fun h9 => ?_)
  refine z_aload_n (pc := 40) (i := 0) 0 X dX3_init_40 rfl rfl ?_
  refine z_iconst (pc := 41) (z := 0) X dX3_init_41 rfl ⟨by decide, by decide⟩ ?_
  refine z_putI (pc := 42) (C := RX3) (T := TX3) (N := 6) (ci := 4) 4 X dX3_init_42 inz_X3 tyX3_ok nmX3 rfl (by decide) fw_X3_25 rfl rfl (fun h10 => ?_)
  refine z_aload_n (pc := 45) (i := 0) 0 X dX3_init_45 rfl rfl ?_
  refine z_iconst (pc := 46) (z := 0) X dX3_init_46 rfl ⟨by decide, by decide⟩ ?_
  refine z_putI (pc := 47) (C := RX3) (T := TX3) (N := 6) (ci := 4) 5 X dX3_init_47 inz_X3 tyX3_ok nmX3 rfl (by decide) fw_X3_29 rfl rfl (fun h11 => ?_)
  refine z_fin (fun e9 => ?_)
  subst e9
  exact hret _ _ _ _ (by decide) (by decide) dX3_init_50
def X3_isRow (hp : zH) (a0 : Int) : Option Int :=
  if a0 < 0 then
    some 0
  else
    if 200 ≤ a0 then
      some 0
    else
      some 1
set_option maxRecDepth 20000 in
theorem c_X3_isRow (hp : zH) (a0 : Int) : ∀ r, X3_isRow hp a0 = some r → zMi yX3_isRow (Cond.code yX3_isRow cX3_isRow 1 (some .boolean) :: zALL) { frames := 0, cells := 0, slots := 0, locals := 0 } 0 0 [zI a0] hp r hp := by
  refine zMi_of (own := RX3) (cc := cX3_isRow) (maxL := 1) (res := fun r => r) (hp2 := fun _ => hp) (by decide) rfl (Or.inr (Or.inl rfl)) (by exact Nat.le_of_ble_eq_true rfl) ?_
  intro K r0 X hnL hret
  have hN : ∀ i, i < 1 → i < K.2.2.2.2.2.2.2.2.2.2.2.2.2.2.1 := by rw [hnL]; exact fun _ h => h
  show zS _ _ (zJ K 0 0 0 [(0, zI a0)] [] hp)
  unfold X3_isRow
  refine z_iload_n (pc := 0) (i := 0) 0 X dX3_isRow_0 rfl rfl ?_
  refine z_if_lt (pc := 1) 15 X dX3_isRow_1 (by decide) (fun _ => ?_) (fun _ => ?_)
  · refine z_iconst (pc := 15) (z := 0) X dX3_isRow_15 rfl ⟨by decide, by decide⟩ ?_
    refine z_fin (fun e9 => ?_)
    subst e9
    exact hret _ _ _ _ (by decide) (by decide) dX3_isRow_16 (Or.inl rfl)
  · refine z_iload_n (pc := 4) (i := 0) 0 X dX3_isRow_4 rfl rfl ?_
    refine z_sipush (pc := 5) (z := 200) X dX3_isRow_5 rfl ⟨by decide, by decide⟩ ?_
    refine z_icmp_ge (pc := 8) 15 X dX3_isRow_8 (by decide) (fun _ => ?_) (fun _ => ?_)
    · refine z_iconst (pc := 15) (z := 0) X dX3_isRow_15 rfl ⟨by decide, by decide⟩ ?_
      refine z_fin (fun e9 => ?_)
      subst e9
      exact hret _ _ _ _ (by decide) (by decide) dX3_isRow_16 (Or.inl rfl)
    · refine z_iconst (pc := 11) (z := 1) X dX3_isRow_11 rfl ⟨by decide, by decide⟩ ?_
      refine z_goto (pc := 12) 16 X dX3_isRow_12 (by decide) ?_
      refine z_fin (fun e9 => ?_)
      subst e9
      exact hret _ _ _ _ (by decide) (by decide) dX3_isRow_16 (Or.inr rfl)
def X3_dayIn (hp : zH) (a0 : Option Nat) (a1 : Int) : Option Int :=
  (X3_isRow hp a1).bind fun x1 =>
  if x1 = 0 then
    some 0
  else
    (zgR hp a0 4 3).bind fun v2 =>
    (zaI hp 0 v2 a1).bind fun v3 =>
    some v3
set_option maxRecDepth 20000 in
theorem c_X3_dayIn (hp : zH) (a0 : Option Nat) (a1 : Int) : ∀ r, X3_dayIn hp a0 a1 = some r → zMi yX3_dayIn (Cond.code yX3_dayIn cX3_dayIn 2 (some .int) :: zALL) { frames := 1, cells := 0, slots := 0, locals := 20 } 0 0 [zR a0, zI a1] hp r hp := by
  refine zMi_of (own := RX3) (cc := cX3_dayIn) (maxL := 2) (res := fun r => r) (hp2 := fun _ => hp) (by decide) rfl (Or.inl rfl) (by exact Nat.le_of_ble_eq_true rfl) ?_
  intro K r0 X hnL hret
  have hN : ∀ i, i < 2 → i < K.2.2.2.2.2.2.2.2.2.2.2.2.2.2.1 := by rw [hnL]; exact fun _ h => h
  show zS _ _ (zJ K 0 0 0 [(0, zR a0), (1, zI a1)] [] hp)
  unfold X3_dayIn
  refine z_iload_n (pc := 0) (i := 1) 1 X dX3_dayIn_0 rfl rfl ?_
  refine z_callS_i (pc := 1) (cells := 0) (slots := 0) [zI a1] X dX3_dayIn_1 (c_X3_isRow hp a1) kw_X3_32 rfl ⟨rfl, rfl, ⟨by decide, by decide⟩, ⟨by decide, by decide⟩⟩ (Nat.le_of_ble_eq_true rfl) rfl (fun x1 => ?_)
  refine z_if_eq (pc := 4) 16 X dX3_dayIn_4 (by decide) (fun _ => ?_) (fun _ => ?_)
  · refine z_iconst (pc := 16) (z := 0) X dX3_dayIn_16 rfl ⟨by decide, by decide⟩ ?_
    refine z_fin (fun e9 => ?_)
    subst e9
    exact hret _ _ _ _ (by decide) (by decide) dX3_dayIn_17 trivial
  · refine z_aload_n (pc := 7) (i := 0) 0 X dX3_dayIn_7 rfl rfl ?_
    refine z_getR (pc := 8) (C := RX3) (T := TX3) (N := 6) (ci := 4) 3 X dX3_dayIn_8 inz_X3 rfl (by decide) fw_X3_22 (fun v2 => ?_)
    refine z_iload_n (pc := 11) (i := 1) 1 X dX3_dayIn_11 rfl rfl ?_
    refine z_iaload (pc := 12) X dX3_dayIn_12 (fun v3 => ?_)
    refine z_goto (pc := 13) 17 X dX3_dayIn_13 (by decide) ?_
    refine z_fin (fun e9 => ?_)
    subst e9
    exact hret _ _ _ _ (by decide) (by decide) dX3_dayIn_17 trivial
def X3_doorIn (hp : zH) (a0 : Option Nat) (a1 : Int) : Option Int :=
  (X3_isRow hp a1).bind fun x1 =>
  if x1 = 0 then
    some ((-1))
  else
    (zgR hp a0 4 2).bind fun v2 =>
    (zaI hp 0 v2 a1).bind fun v3 =>
    some v3
set_option maxRecDepth 20000 in
theorem c_X3_doorIn (hp : zH) (a0 : Option Nat) (a1 : Int) : ∀ r, X3_doorIn hp a0 a1 = some r → zMi yX3_doorIn (Cond.code yX3_doorIn cX3_doorIn 2 (some .int) :: zALL) { frames := 1, cells := 0, slots := 0, locals := 20 } 0 0 [zR a0, zI a1] hp r hp := by
  refine zMi_of (own := RX3) (cc := cX3_doorIn) (maxL := 2) (res := fun r => r) (hp2 := fun _ => hp) (by decide) rfl (Or.inl rfl) (by exact Nat.le_of_ble_eq_true rfl) ?_
  intro K r0 X hnL hret
  have hN : ∀ i, i < 2 → i < K.2.2.2.2.2.2.2.2.2.2.2.2.2.2.1 := by rw [hnL]; exact fun _ h => h
  show zS _ _ (zJ K 0 0 0 [(0, zR a0), (1, zI a1)] [] hp)
  unfold X3_doorIn
  refine z_iload_n (pc := 0) (i := 1) 1 X dX3_doorIn_0 rfl rfl ?_
  refine z_callS_i (pc := 1) (cells := 0) (slots := 0) [zI a1] X dX3_doorIn_1 (c_X3_isRow hp a1) kw_X3_32 rfl ⟨rfl, rfl, ⟨by decide, by decide⟩, ⟨by decide, by decide⟩⟩ (Nat.le_of_ble_eq_true rfl) rfl (fun x1 => ?_)
  refine z_if_eq (pc := 4) 16 X dX3_doorIn_4 (by decide) (fun _ => ?_) (fun _ => ?_)
  · refine z_iconst (pc := 16) (z := -1) X dX3_doorIn_16 rfl ⟨by decide, by decide⟩ ?_
    refine z_fin (fun e9 => ?_)
    subst e9
    exact hret _ _ _ _ (by decide) (by decide) dX3_doorIn_17 trivial
  · refine z_aload_n (pc := 7) (i := 0) 0 X dX3_doorIn_7 rfl rfl ?_
    refine z_getR (pc := 8) (C := RX3) (T := TX3) (N := 6) (ci := 4) 2 X dX3_doorIn_8 inz_X3 rfl (by decide) fw_X3_19 (fun v2 => ?_)
    refine z_iload_n (pc := 11) (i := 1) 1 X dX3_doorIn_11 rfl rfl ?_
    refine z_iaload (pc := 12) X dX3_doorIn_12 (fun v3 => ?_)
    refine z_goto (pc := 13) 17 X dX3_doorIn_13 (by decide) ?_
    refine z_fin (fun e9 => ?_)
    subst e9
    exact hret _ _ _ _ (by decide) (by decide) dX3_doorIn_17 trivial
def X3_keep_j76 (a0 : Option Nat) (h14 : zH) (j17 : Int) : Option zH :=
  (zpI h14 a0 4 5 j17).bind fun h18 =>
  (zgI h18 a0 4 4).bind fun v19 =>
  (zchk (v19 + 1)).bind fun v20 =>
  (zpI h18 a0 4 4 ((zmin v20 200))).bind fun h21 =>
  some h21
def X3_keep (hp : zH) (a0 : Option Nat) (a1 : Int64) (a2 : Int) (a3 : Int) (a4 : Int) : Option zH :=
  (zgI hp a0 4 5).bind fun v1 =>
  (X3_isRow hp v1).bind fun x2 =>
  if x2 = 0 then
    some hp
  else
    (zgR hp a0 4 0).bind fun v3 =>
    (zgI hp a0 4 5).bind fun v4 =>
    (zsJ hp v3 v4 a1).bind fun h5 =>
    (zgR h5 a0 4 1).bind fun v6 =>
    (zgI h5 a0 4 5).bind fun v7 =>
    (zsI h5 0 v6 v7 a2).bind fun h8 =>
    (zgR h8 a0 4 2).bind fun v9 =>
    (zgI h8 a0 4 5).bind fun v10 =>
    (zsI h8 0 v9 v10 a3).bind fun h11 =>
    (zgR h11 a0 4 3).bind fun v12 =>
    (zgI h11 a0 4 5).bind fun v13 =>
    (zsI h11 0 v12 v13 a4).bind fun h14 =>
    (zgI h14 a0 4 5).bind fun v15 =>
    (zchk (v15 + 1)).bind fun v16 =>
    if 200 ≤ v16 then
      X3_keep_j76 a0 h14 0
    else
      (zgI h14 a0 4 5).bind fun v22 =>
      (zchk (v22 + 1)).bind fun v23 =>
      X3_keep_j76 a0 h14 v23
set_option maxRecDepth 20000 in
theorem c_X3_keep (hp : zH) (a0 : Option Nat) (a1 : Int64) (a2 : Int) (a3 : Int) (a4 : Int) : ∀ r, X3_keep hp a0 a1 a2 a3 a4 = some r → zMv yX3_keep (Cond.code yX3_keep cX3_keep 6 none :: zALL) { frames := 1, cells := 0, slots := 0, locals := 24 } 0 0 [zR a0, zL a1, zI a2, zI a3, zI a4] hp r := by
  refine zMv_of (own := RX3) (cc := cX3_keep) (maxL := 6) (hp2 := fun r => r) (by decide) rfl (by exact Nat.le_of_ble_eq_true rfl) ?_
  intro K r0 X hnL hnm9 hret
  have hN : ∀ i, i < 6 → i < K.2.2.2.2.2.2.2.2.2.2.2.2.2.2.1 := by rw [hnL]; exact fun _ h => h
  show zS _ _ (zJ K 0 0 0 [(0, zR a0), (1, zL a1), (3, zI a2), (4, zI a3), (5, zI a4)] [] hp)
  unfold X3_keep
  refine z_aload_n (pc := 0) (i := 0) 0 X dX3_keep_0 rfl rfl ?_
  refine z_getI (pc := 1) (C := RX3) (T := TX3) (N := 6) (ci := 4) 5 X dX3_keep_1 inz_X3 rfl (by decide) fw_X3_29 (fun v1 => ?_)
  refine z_callS_i (pc := 4) (cells := 0) (slots := 0) [zI v1] X dX3_keep_4 (c_X3_isRow hp v1) kw_X3_32 rfl ⟨rfl, rfl, ⟨by decide, by decide⟩, ⟨by decide, by decide⟩⟩ (Nat.le_of_ble_eq_true rfl) rfl (fun x2 => ?_)
  refine z_if_ne (pc := 7) 11 X dX3_keep_7 (by decide) (fun _ => ?_) (fun _ => ?_)
  · refine z_aload_n (pc := 11) (i := 0) 0 X dX3_keep_11 rfl rfl ?_
    refine z_getR (pc := 12) (C := RX3) (T := TX3) (N := 6) (ci := 4) 0 X dX3_keep_12 inz_X3 rfl (by decide) fw_X3_9 (fun v3 => ?_)
    refine z_aload_n (pc := 15) (i := 0) 0 X dX3_keep_15 rfl rfl ?_
    refine z_getI (pc := 16) (C := RX3) (T := TX3) (N := 6) (ci := 4) 5 X dX3_keep_16 inz_X3 rfl (by decide) fw_X3_29 (fun v4 => ?_)
    refine z_lload_n (pc := 19) (i := 1) 1 X dX3_keep_19 rfl rfl ?_
    refine z_lastore (pc := 20) X dX3_keep_20 (fun h5 => ?_)
    refine z_aload_n (pc := 21) (i := 0) 0 X dX3_keep_21 rfl rfl ?_
    refine z_getR (pc := 22) (C := RX3) (T := TX3) (N := 6) (ci := 4) 1 X dX3_keep_22 inz_X3 rfl (by decide) fw_X3_15 (fun v6 => ?_)
    refine z_aload_n (pc := 25) (i := 0) 0 X dX3_keep_25 rfl rfl ?_
    refine z_getI (pc := 26) (C := RX3) (T := TX3) (N := 6) (ci := 4) 5 X dX3_keep_26 inz_X3 rfl (by decide) fw_X3_29 (fun v7 => ?_)
    refine z_iload_n (pc := 29) (i := 3) 2 X dX3_keep_29 rfl rfl ?_
    refine z_iastore (pc := 30) X dX3_keep_30 (fun h8 => ?_)
    refine z_aload_n (pc := 31) (i := 0) 0 X dX3_keep_31 rfl rfl ?_
    refine z_getR (pc := 32) (C := RX3) (T := TX3) (N := 6) (ci := 4) 2 X dX3_keep_32 inz_X3 rfl (by decide) fw_X3_19 (fun v9 => ?_)
    refine z_aload_n (pc := 35) (i := 0) 0 X dX3_keep_35 rfl rfl ?_
    refine z_getI (pc := 36) (C := RX3) (T := TX3) (N := 6) (ci := 4) 5 X dX3_keep_36 inz_X3 rfl (by decide) fw_X3_29 (fun v10 => ?_)
    refine z_iload (pc := 39) (i := 4) 3 X dX3_keep_39 rfl ?_
    refine z_iastore (pc := 41) X dX3_keep_41 (fun h11 => ?_)
    refine z_aload_n (pc := 42) (i := 0) 0 X dX3_keep_42 rfl rfl ?_
    refine z_getR (pc := 43) (C := RX3) (T := TX3) (N := 6) (ci := 4) 3 X dX3_keep_43 inz_X3 rfl (by decide) fw_X3_22 (fun v12 => ?_)
    refine z_aload_n (pc := 46) (i := 0) 0 X dX3_keep_46 rfl rfl ?_
    refine z_getI (pc := 47) (C := RX3) (T := TX3) (N := 6) (ci := 4) 5 X dX3_keep_47 inz_X3 rfl (by decide) fw_X3_29 (fun v13 => ?_)
    refine z_iload (pc := 50) (i := 5) 4 X dX3_keep_50 rfl ?_
    refine z_iastore (pc := 52) X dX3_keep_52 (fun h14 => ?_)
    refine z_aload_n (pc := 53) (i := 0) 0 X dX3_keep_53 rfl rfl ?_
    refine z_aload_n (pc := 54) (i := 0) 0 X dX3_keep_54 rfl rfl ?_
    refine z_getI (pc := 55) (C := RX3) (T := TX3) (N := 6) (ci := 4) 5 X dX3_keep_55 inz_X3 rfl (by decide) fw_X3_29 (fun v15 => ?_)
    refine z_iconst (pc := 58) (z := 1) X dX3_keep_58 rfl ⟨by decide, by decide⟩ ?_
    refine z_iadd (pc := 59) X dX3_keep_59 (fun v16 _ _ => ?_)
    refine z_sipush (pc := 60) (z := 200) X dX3_keep_60 rfl ⟨by decide, by decide⟩ ?_
    have hJ76 : ∀ (j17 : Int), zS (X3_keep_j76 a0 h14 j17) (fun r => r = r0) (zJ K 0 0 76 [(0, zR a0)] [zI j17, zR a0] h14) := by
      intro j17
      unfold X3_keep_j76
      refine z_putI (pc := 76) (C := RX3) (T := TX3) (N := 6) (ci := 4) 5 X dX3_keep_76 inz_X3 tyX3_ok nmX3 rfl (by decide) fw_X3_29 rfl rfl (fun h18 => ?_)
      refine z_aload_n (pc := 79) (i := 0) 0 X dX3_keep_79 rfl rfl ?_
      refine z_aload_n (pc := 80) (i := 0) 0 X dX3_keep_80 rfl rfl ?_
      refine z_getI (pc := 81) (C := RX3) (T := TX3) (N := 6) (ci := 4) 4 X dX3_keep_81 inz_X3 rfl (by decide) fw_X3_25 (fun v19 => ?_)
      refine z_iconst (pc := 84) (z := 1) X dX3_keep_84 rfl ⟨by decide, by decide⟩ ?_
      refine z_iadd (pc := 85) X dX3_keep_85 (fun v20 _ _ => ?_)
      refine z_sipush (pc := 86) (z := 200) X dX3_keep_86 rfl ⟨by decide, by decide⟩ ?_
      refine z_min (pc := 89) X dX3_keep_89 (zin (zt2 235 (by decide +kernel)) rfl) (zin (zt2 236 (by decide +kernel)) rfl) (zin (zt1 17 (by decide +kernel)) rfl) (zin (zt2 237 (by decide +kernel)) rfl) (Nat.le_of_ble_eq_true rfl) (Nat.le_of_ble_eq_true rfl) (Nat.le_of_ble_eq_true rfl) (Nat.le_of_ble_eq_true rfl) ?_
      refine z_putI (pc := 92) (C := RX3) (T := TX3) (N := 6) (ci := 4) 4 X dX3_keep_92 inz_X3 tyX3_ok nmX3 rfl (by decide) fw_X3_25 rfl rfl (fun h21 => ?_)
      refine z_fin (fun e9 => ?_)
      subst e9
      exact hret _ _ _ _ (by decide) (by decide) dX3_keep_95
    refine z_icmp_ge (pc := 63) 75 X dX3_keep_63 (by decide) (fun _ => ?_) (fun _ => ?_)
    · refine z_iconst (pc := 75) (z := 0) X dX3_keep_75 rfl ⟨by decide, by decide⟩ ?_
      refine z_pick [0] (lv' := [(0, zR a0)]) rfl ?_
      exact hJ76 0
    · refine z_aload_n (pc := 66) (i := 0) 0 X dX3_keep_66 rfl rfl ?_
      refine z_getI (pc := 67) (C := RX3) (T := TX3) (N := 6) (ci := 4) 5 X dX3_keep_67 inz_X3 rfl (by decide) fw_X3_29 (fun v22 => ?_)
      refine z_iconst (pc := 70) (z := 1) X dX3_keep_70 rfl ⟨by decide, by decide⟩ ?_
      refine z_iadd (pc := 71) X dX3_keep_71 (fun v23 _ _ => ?_)
      refine z_goto (pc := 72) 76 X dX3_keep_72 (by decide) ?_
      refine z_pick [0] (lv' := [(0, zR a0)]) rfl ?_
      exact hJ76 v23
  · refine z_fin (fun e9 => ?_)
    subst e9
    exact hret _ _ _ _ (by decide) (by decide) dX3_keep_10
def X3_newest_j43 (p1 : Option Nat) (p2 : Int64) (p3 : Int) (h5 : zH) (s4 : Int) (j10 : Int) : Option ((Int) ⊕ (((Unit) ⊕ (Int)))) :=
  (X3_isRow h5 j10).bind fun x11 =>
  if x11 = 0 then
    (zchk (s4 + 1)).bind fun v12 =>
    some (Sum.inl (v12))
  else
    (zgR h5 p1 4 0).bind fun v13 =>
    (zaJ h5 v13 j10).bind fun v14 =>
    if (zcmp v14 p2) = 0 then
      (zgR h5 p1 4 1).bind fun v16 =>
      (zaI h5 0 v16 j10).bind fun v17 =>
      if v17 = p3 then
        some (Sum.inr (Sum.inr (j10)))
      else
        (zchk (s4 + 1)).bind fun v18 =>
        some (Sum.inl (v18))
    else
      (zchk (s4 + 1)).bind fun v15 =>
      some (Sum.inl (v15))
def X3_newest_b3 (p1 : Option Nat) (p2 : Int64) (p3 : Int) (h5 : zH) (s4 : Int) : Option ((Int) ⊕ ((Unit) ⊕ (Int))) :=
  (zgI h5 p1 4 4).bind fun v7 =>
  if v7 < s4 then
    some (Sum.inr (Sum.inl ()))
  else
    (zgI h5 p1 4 5).bind fun v8 =>
    (zchk (v8 - s4)).bind fun v9 =>
    if 0 ≤ v9 then
      (zgI h5 p1 4 5).bind fun v19 =>
      (zchk (v19 - s4)).bind fun v20 =>
      X3_newest_j43 p1 p2 p3 h5 s4 v20
    else
      (zgI h5 p1 4 5).bind fun v21 =>
      (zchk (v21 - s4)).bind fun v22 =>
      (zchk (v22 + 200)).bind fun v23 =>
      X3_newest_j43 p1 p2 p3 h5 s4 v23
def X3_newest (hp : zH) (a0 : Option Nat) (a1 : Int64) (a2 : Int) : Option Int :=
  (zloop (X3_newest_b3 a0 a1 a2 hp) zN 1).bind fun e6 =>
  match e6 with
  | Sum.inl e6 =>
    some ((-1))
  | Sum.inr e6 =>
    some e6
set_option maxRecDepth 20000 in
theorem c_X3_newest (hp : zH) (a0 : Option Nat) (a1 : Int64) (a2 : Int) : ∀ r, X3_newest hp a0 a1 a2 = some r → zMi yX3_newest (Cond.code yX3_newest cX3_newest 6 (some .int) :: zALL) { frames := 1, cells := 0, slots := 0, locals := 20 } 0 0 [zR a0, zL a1, zI a2] hp r hp := by
  refine zMi_of (own := RX3) (cc := cX3_newest) (maxL := 6) (res := fun r => r) (hp2 := fun _ => hp) (by decide) rfl (Or.inl rfl) (by exact Nat.le_of_ble_eq_true rfl) ?_
  intro K r0 X hnL hret
  have hN : ∀ i, i < 6 → i < K.2.2.2.2.2.2.2.2.2.2.2.2.2.2.1 := by rw [hnL]; exact fun _ h => h
  show zS _ _ (zJ K 0 0 0 [(0, zR a0), (1, zL a1), (3, zI a2)] [] hp)
  unfold X3_newest
  refine z_iconst (pc := 0) (z := 1) X dX3_newest_0 rfl ⟨by decide, by decide⟩ ?_
  refine z_istore (pc := 1) (i := 4) (lv' := [(4, zI 1), (0, zR a0), (1, zL a1), (3, zI a2)]) X dX3_newest_1 (hN _ (by decide)) rfl ?_
  refine z_pick [1, 2, 3, 0] (lv' := [(0, zR a0), (1, zL a1), (3, zI a2), (4, zI 1)]) rfl ?_
  refine z_bind (z_loop (body := X3_newest_b3 a0 a1 a2 hp) (fun s4 : Int => zJ K 0 0 3 [(0, zR a0), (1, zL a1), (3, zI a2), (4, zI s4)] [] hp) (fun e6 : ((Unit) ⊕ (Int)) => (match e6 with | Sum.inl e6 => zJ K 0 0 85 [] [] hp | Sum.inr e6 => zJ K 0 0 76 [(5, zI e6)] [] hp)) (fun s4 => ?_) zN 1) (fun e6 => ?_)
  · unfold X3_newest_b3
    refine z_iload (pc := 3) (i := 4) 3 X dX3_newest_3 rfl ?_
    refine z_aload_n (pc := 5) (i := 0) 0 X dX3_newest_5 rfl rfl ?_
    refine z_getI (pc := 6) (C := RX3) (T := TX3) (N := 6) (ci := 4) 4 X dX3_newest_6 inz_X3 rfl (by decide) fw_X3_25 (fun v7 => ?_)
    refine z_icmp_gt (pc := 9) 85 X dX3_newest_9 (by decide) (fun _ => ?_) (fun _ => ?_)
    · refine z_pick [] (lv' := []) rfl ?_
      exact z_exit
    · refine z_aload_n (pc := 12) (i := 0) 0 X dX3_newest_12 rfl rfl ?_
      refine z_getI (pc := 13) (C := RX3) (T := TX3) (N := 6) (ci := 4) 5 X dX3_newest_13 inz_X3 rfl (by decide) fw_X3_29 (fun v8 => ?_)
      refine z_iload (pc := 16) (i := 4) 3 X dX3_newest_16 rfl ?_
      refine z_isub (pc := 18) X dX3_newest_18 (fun v9 _ _ => ?_)
      have hJ43 : ∀ (j10 : Int), zS (X3_newest_j43 a0 a1 a2 hp s4 j10) (zLG (fun s4 : Int => zJ K 0 0 3 [(0, zR a0), (1, zL a1), (3, zI a2), (4, zI s4)] [] hp) (fun e6 : ((Unit) ⊕ (Int)) => (match e6 with | Sum.inl e6 => zJ K 0 0 85 [] [] hp | Sum.inr e6 => zJ K 0 0 76 [(5, zI e6)] [] hp))) (zJ K 0 0 43 [(0, zR a0), (1, zL a1), (3, zI a2), (4, zI s4)] [zI j10] hp) := by
        intro j10
        unfold X3_newest_j43
        refine z_istore (pc := 43) (i := 5) (lv' := [(5, zI j10), (0, zR a0), (1, zL a1), (3, zI a2), (4, zI s4)]) X dX3_newest_43 (hN _ (by decide)) rfl ?_
        refine z_iload (pc := 45) (i := 5) 0 X dX3_newest_45 rfl ?_
        refine z_callS_i (pc := 47) (cells := 0) (slots := 0) [zI j10] X dX3_newest_47 (c_X3_isRow hp j10) kw_X3_32 rfl ⟨rfl, rfl, ⟨by decide, by decide⟩, ⟨by decide, by decide⟩⟩ (Nat.le_of_ble_eq_true rfl) rfl (fun x11 => ?_)
        refine z_if_eq (pc := 50) 79 X dX3_newest_50 (by decide) (fun _ => ?_) (fun _ => ?_)
        · refine z_iinc (pc := 79) (i := 4) (n := 1) (lv' := fun v12 => [(4, zI v12), (5, zI j10), (0, zR a0), (1, zL a1), (3, zI a2)]) 4 X dX3_newest_79 rfl (hN _ (by decide)) (fun _ => rfl) (fun v12 _ _ => ?_)
          refine z_goto (pc := 82) 3 X dX3_newest_82 (by decide) ?_
          refine z_pick [2, 3, 4, 0] (lv' := [(0, zR a0), (1, zL a1), (3, zI a2), (4, zI v12)]) rfl ?_
          exact z_back
        · refine z_aload_n (pc := 53) (i := 0) 1 X dX3_newest_53 rfl rfl ?_
          refine z_getR (pc := 54) (C := RX3) (T := TX3) (N := 6) (ci := 4) 0 X dX3_newest_54 inz_X3 rfl (by decide) fw_X3_9 (fun v13 => ?_)
          refine z_iload (pc := 57) (i := 5) 0 X dX3_newest_57 rfl ?_
          refine z_laload (pc := 59) X dX3_newest_59 (fun v14 => ?_)
          refine z_lload_n (pc := 60) (i := 1) 2 X dX3_newest_60 rfl rfl ?_
          refine z_lcmp (pc := 61) X dX3_newest_61 ?_
          refine z_if_ne (pc := 62) 79 X dX3_newest_62 (by decide) (fun _ => ?_) (fun _ => ?_)
          · refine z_iinc (pc := 79) (i := 4) (n := 1) (lv' := fun v15 => [(4, zI v15), (5, zI j10), (0, zR a0), (1, zL a1), (3, zI a2)]) 4 X dX3_newest_79 rfl (hN _ (by decide)) (fun _ => rfl) (fun v15 _ _ => ?_)
            refine z_goto (pc := 82) 3 X dX3_newest_82 (by decide) ?_
            refine z_pick [2, 3, 4, 0] (lv' := [(0, zR a0), (1, zL a1), (3, zI a2), (4, zI v15)]) rfl ?_
            exact z_back
          · refine z_aload_n (pc := 65) (i := 0) 1 X dX3_newest_65 rfl rfl ?_
            refine z_getR (pc := 66) (C := RX3) (T := TX3) (N := 6) (ci := 4) 1 X dX3_newest_66 inz_X3 rfl (by decide) fw_X3_15 (fun v16 => ?_)
            refine z_iload (pc := 69) (i := 5) 0 X dX3_newest_69 rfl ?_
            refine z_iaload (pc := 71) X dX3_newest_71 (fun v17 => ?_)
            refine z_iload_n (pc := 72) (i := 3) 3 X dX3_newest_72 rfl rfl ?_
            refine z_icmp_ne (pc := 73) 79 X dX3_newest_73 (by decide) (fun _ => ?_) (fun _ => ?_)
            · refine z_iinc (pc := 79) (i := 4) (n := 1) (lv' := fun v18 => [(4, zI v18), (5, zI j10), (0, zR a0), (1, zL a1), (3, zI a2)]) 4 X dX3_newest_79 rfl (hN _ (by decide)) (fun _ => rfl) (fun v18 _ _ => ?_)
              refine z_goto (pc := 82) 3 X dX3_newest_82 (by decide) ?_
              refine z_pick [2, 3, 4, 0] (lv' := [(0, zR a0), (1, zL a1), (3, zI a2), (4, zI v18)]) rfl ?_
              exact z_back
            · refine z_pick [0] (lv' := [(5, zI j10)]) rfl ?_
              exact z_exit
      refine z_if_ge (pc := 19) 36 X dX3_newest_19 (by decide) (fun _ => ?_) (fun _ => ?_)
      · refine z_aload_n (pc := 36) (i := 0) 0 X dX3_newest_36 rfl rfl ?_
        refine z_getI (pc := 37) (C := RX3) (T := TX3) (N := 6) (ci := 4) 5 X dX3_newest_37 inz_X3 rfl (by decide) fw_X3_29 (fun v19 => ?_)
        refine z_iload (pc := 40) (i := 4) 3 X dX3_newest_40 rfl ?_
        refine z_isub (pc := 42) X dX3_newest_42 (fun v20 _ _ => ?_)
        exact hJ43 v20
      · refine z_aload_n (pc := 22) (i := 0) 0 X dX3_newest_22 rfl rfl ?_
        refine z_getI (pc := 23) (C := RX3) (T := TX3) (N := 6) (ci := 4) 5 X dX3_newest_23 inz_X3 rfl (by decide) fw_X3_29 (fun v21 => ?_)
        refine z_iload (pc := 26) (i := 4) 3 X dX3_newest_26 rfl ?_
        refine z_isub (pc := 28) X dX3_newest_28 (fun v22 _ _ => ?_)
        refine z_sipush (pc := 29) (z := 200) X dX3_newest_29 rfl ⟨by decide, by decide⟩ ?_
        refine z_iadd (pc := 32) X dX3_newest_32 (fun v23 _ _ => ?_)
        refine z_goto (pc := 33) 43 X dX3_newest_33 (by decide) ?_
        exact hJ43 v23
  · rcases e6 with e6 | e6
    · refine z_iconst (pc := 85) (z := -1) X dX3_newest_85 rfl ⟨by decide, by decide⟩ ?_
      refine z_fin (fun e9 => ?_)
      subst e9
      exact hret _ _ _ _ (by decide) (by decide) dX3_newest_86 trivial
    · refine z_iload (pc := 76) (i := 5) 0 X dX3_newest_76 rfl ?_
      refine z_fin (fun e9 => ?_)
      subst e9
      exact hret _ _ _ _ (by decide) (by decide) dX3_newest_78 trivial
def X4_init (hp : zH) (a0 : Option Nat) : Option zH :=
  a0.bind fun v1 =>
  (znewa hp 0 40).bind fun h2 =>
  (zpR h2 a0 5 0 ((some hp.length))).bind fun h3 =>
  (zpI h3 a0 5 1 0).bind fun h4 =>
  some h4
set_option maxRecDepth 20000 in
theorem c_X4_init (hp : zH) (a0 : Option Nat) : ∀ r, X4_init hp a0 = some r → zMv yX4_init (Cond.code yX4_init cX4_init 1 none :: zALL) { frames := 1, cells := 1, slots := 40, locals := 24 } 1 40 [zR a0] hp r := by
  refine zMv_of (own := RX4) (cc := cX4_init) (maxL := 1) (hp2 := fun r => r) (by decide) rfl (by exact Nat.le_of_ble_eq_true rfl) ?_
  intro K r0 X hnL hnm9 hret
  have hN : ∀ i, i < 1 → i < K.2.2.2.2.2.2.2.2.2.2.2.2.2.2.1 := by rw [hnL]; exact fun _ h => h
  show zS _ _ (zJ K 0 0 0 [(0, zR a0)] [] hp)
  unfold X4_init
  refine z_aload_n (pc := 0) (i := 0) 0 X dX4_init_0 rfl rfl ?_
  refine z_objInitO (pc := 1) X dX4_init_1 (zin (zt1 98 (by decide +kernel)) rfl) (zin (zt1 29 (by decide +kernel)) rfl) (zin (zt1 30 (by decide +kernel)) rfl) (Nat.le_of_ble_eq_true rfl) (Nat.le_of_ble_eq_true rfl) (fun v1 => ?_)
  refine z_aload_n (pc := 4) (i := 0) 0 X dX4_init_4 rfl rfl ?_
  refine z_bipush (pc := 5) (z := 40) X dX4_init_5 rfl ⟨by decide, by decide⟩ ?_
  refine z_newIo (pc := 7) (c1 := 1) (s1 := 40) 40 X dX4_init_7 (zin (zt1 62 (by decide +kernel)) rfl) rfl (by decide) (by decide) (by decide) rfl rfl (fun h2 => ?_)
  refine z_putFR (pc := 9) (C := RX4) (T := TX4) (N := 2) (ci := 5) 0 X dX4_init_9 inz_X4 tyX4_ok nmX4 rfl (by decide) fw_X4_9 rfl hnm9 rfl ⟨"x", Or.inr ⟨_, rfl⟩⟩ (fun h3 => ?_)
  refine z_aload_n (pc := 12) (i := 0) 0 X dX4_init_12 rfl rfl ?_
  refine z_iconst (pc := 13) (z := 0) X dX4_init_13 rfl ⟨by decide, by decide⟩ ?_
  refine z_putI (pc := 14) (C := RX4) (T := TX4) (N := 2) (ci := 5) 1 X dX4_init_14 inz_X4 tyX4_ok nmX4 rfl (by decide) fw_X4_15 rfl rfl (fun h4 => ?_)
  refine z_fin (fun e9 => ?_)
  subst e9
  exact hret _ _ _ _ (by decide) (by decide) dX4_init_17
def X4_clear (hp : zH) (a0 : Option Nat) : Option zH :=
  (zpI hp a0 5 1 0).bind fun h1 =>
  some h1
set_option maxRecDepth 20000 in
theorem c_X4_clear (hp : zH) (a0 : Option Nat) : ∀ r, X4_clear hp a0 = some r → zMv yX4_clear (Cond.code yX4_clear cX4_clear 1 none :: zALL) { frames := 0, cells := 0, slots := 0, locals := 0 } 0 0 [zR a0] hp r := by
  refine zMv_of (own := RX4) (cc := cX4_clear) (maxL := 1) (hp2 := fun r => r) (by decide) rfl (by exact Nat.le_of_ble_eq_true rfl) ?_
  intro K r0 X hnL hnm9 hret
  have hN : ∀ i, i < 1 → i < K.2.2.2.2.2.2.2.2.2.2.2.2.2.2.1 := by rw [hnL]; exact fun _ h => h
  show zS _ _ (zJ K 0 0 0 [(0, zR a0)] [] hp)
  unfold X4_clear
  refine z_aload_n (pc := 0) (i := 0) 0 X dX4_clear_0 rfl rfl ?_
  refine z_iconst (pc := 1) (z := 0) X dX4_clear_1 rfl ⟨by decide, by decide⟩ ?_
  refine z_putI (pc := 2) (C := RX4) (T := TX4) (N := 2) (ci := 5) 1 X dX4_clear_2 inz_X4 tyX4_ok nmX4 rfl (by decide) fw_X4_15 rfl rfl (fun h1 => ?_)
  refine z_fin (fun e9 => ?_)
  subst e9
  exact hret _ _ _ _ (by decide) (by decide) dX4_clear_5
def X4_doorIn (hp : zH) (a0 : Option Nat) (a1 : Int) : Option Int :=
  if a1 < 0 then
    some ((-1))
  else
    (zgI hp a0 5 1).bind fun v1 =>
    if v1 ≤ a1 then
      some ((-1))
    else
      (zgR hp a0 5 0).bind fun v2 =>
      (zlen hp v2).bind fun v3 =>
      if v3 ≤ a1 then
        some ((-1))
      else
        (zgR hp a0 5 0).bind fun v4 =>
        (zaI hp 0 v4 a1).bind fun v5 =>
        (zrem v5 64).bind fun v6 =>
        some v6
set_option maxRecDepth 20000 in
theorem c_X4_doorIn (hp : zH) (a0 : Option Nat) (a1 : Int) : ∀ r, X4_doorIn hp a0 a1 = some r → zMi yX4_doorIn (Cond.code yX4_doorIn cX4_doorIn 2 (some .int) :: zALL) { frames := 0, cells := 0, slots := 0, locals := 0 } 0 0 [zR a0, zI a1] hp r hp := by
  refine zMi_of (own := RX4) (cc := cX4_doorIn) (maxL := 2) (res := fun r => r) (hp2 := fun _ => hp) (by decide) rfl (Or.inl rfl) (by exact Nat.le_of_ble_eq_true rfl) ?_
  intro K r0 X hnL hret
  have hN : ∀ i, i < 2 → i < K.2.2.2.2.2.2.2.2.2.2.2.2.2.2.1 := by rw [hnL]; exact fun _ h => h
  show zS _ _ (zJ K 0 0 0 [(0, zR a0), (1, zI a1)] [] hp)
  unfold X4_doorIn
  refine z_iload_n (pc := 0) (i := 1) 1 X dX4_doorIn_0 rfl rfl ?_
  refine z_if_lt (pc := 1) 33 X dX4_doorIn_1 (by decide) (fun _ => ?_) (fun _ => ?_)
  · refine z_iconst (pc := 33) (z := -1) X dX4_doorIn_33 rfl ⟨by decide, by decide⟩ ?_
    refine z_fin (fun e9 => ?_)
    subst e9
    exact hret _ _ _ _ (by decide) (by decide) dX4_doorIn_34 trivial
  · refine z_iload_n (pc := 4) (i := 1) 1 X dX4_doorIn_4 rfl rfl ?_
    refine z_aload_n (pc := 5) (i := 0) 0 X dX4_doorIn_5 rfl rfl ?_
    refine z_getI (pc := 6) (C := RX4) (T := TX4) (N := 2) (ci := 5) 1 X dX4_doorIn_6 inz_X4 rfl (by decide) fw_X4_15 (fun v1 => ?_)
    refine z_icmp_ge (pc := 9) 33 X dX4_doorIn_9 (by decide) (fun _ => ?_) (fun _ => ?_)
    · refine z_iconst (pc := 33) (z := -1) X dX4_doorIn_33 rfl ⟨by decide, by decide⟩ ?_
      refine z_fin (fun e9 => ?_)
      subst e9
      exact hret _ _ _ _ (by decide) (by decide) dX4_doorIn_34 trivial
    · refine z_iload_n (pc := 12) (i := 1) 1 X dX4_doorIn_12 rfl rfl ?_
      refine z_aload_n (pc := 13) (i := 0) 0 X dX4_doorIn_13 rfl rfl ?_
      refine z_getR (pc := 14) (C := RX4) (T := TX4) (N := 2) (ci := 5) 0 X dX4_doorIn_14 inz_X4 rfl (by decide) fw_X4_9 (fun v2 => ?_)
      refine z_alen (pc := 17) X dX4_doorIn_17 (fun v3 => ?_)
      refine z_icmp_ge (pc := 18) 33 X dX4_doorIn_18 (by decide) (fun _ => ?_) (fun _ => ?_)
      · refine z_iconst (pc := 33) (z := -1) X dX4_doorIn_33 rfl ⟨by decide, by decide⟩ ?_
        refine z_fin (fun e9 => ?_)
        subst e9
        exact hret _ _ _ _ (by decide) (by decide) dX4_doorIn_34 trivial
      · refine z_aload_n (pc := 21) (i := 0) 0 X dX4_doorIn_21 rfl rfl ?_
        refine z_getR (pc := 22) (C := RX4) (T := TX4) (N := 2) (ci := 5) 0 X dX4_doorIn_22 inz_X4 rfl (by decide) fw_X4_9 (fun v4 => ?_)
        refine z_iload_n (pc := 25) (i := 1) 1 X dX4_doorIn_25 rfl rfl ?_
        refine z_iaload (pc := 26) X dX4_doorIn_26 (fun v5 => ?_)
        refine z_bipush (pc := 27) (z := 64) X dX4_doorIn_27 rfl ⟨by decide, by decide⟩ ?_
        refine z_irem (pc := 29) X dX4_doorIn_29 (fun v6 => ?_)
        refine z_goto (pc := 30) 34 X dX4_doorIn_30 (by decide) ?_
        refine z_fin (fun e9 => ?_)
        subst e9
        exact hret _ _ _ _ (by decide) (by decide) dX4_doorIn_34 trivial
def X4_put_b27 (p6 : Option Nat) (p7 : Int) (s8 : Int × zH) : Option ((Int × zH) ⊕ (Int × zH)) :=
  if s8.1 ≤ 0 then
    some (Sum.inr (s8.1, s8.2))
  else
    (zgR s8.2 p6 5 0).bind fun v10 =>
    (zchk (s8.1 - 1)).bind fun v11 =>
    (zaI s8.2 0 v10 v11).bind fun v12 =>
    if v12 ≤ p7 then
      some (Sum.inr (s8.1, s8.2))
    else
      (zgR s8.2 p6 5 0).bind fun v13 =>
      (zgR s8.2 p6 5 0).bind fun v14 =>
      (zchk (s8.1 - 1)).bind fun v15 =>
      (zaI s8.2 0 v14 v15).bind fun v16 =>
      (zsI s8.2 0 v13 s8.1 v16).bind fun h17 =>
      (zchk (s8.1 + (-1))).bind fun v18 =>
      some (Sum.inl (v18, h17))
def X4_put (hp : zH) (a0 : Option Nat) (a1 : Int) (a2 : Int) : Option zH :=
  (zgI hp a0 5 1).bind fun v1 =>
  if v1 < 0 then
    some hp
  else
    (zgR hp a0 5 0).bind fun v2 =>
    (zlen hp v2).bind fun v3 =>
    if v1 < v3 then
      (zchk (a1 * 64)).bind fun v4 =>
      (zchk (v4 + a2)).bind fun v5 =>
      (zloop (X4_put_b27 a0 v5) zN (v1, hp)).bind fun e9 =>
      (zgR e9.2 a0 5 0).bind fun v19 =>
      (zsI e9.2 0 v19 e9.1 v5).bind fun h20 =>
      (zgI h20 a0 5 1).bind fun v21 =>
      (zchk (v21 + 1)).bind fun v22 =>
      (zpI h20 a0 5 1 v22).bind fun h23 =>
      some h23
    else
      some hp
set_option maxRecDepth 20000 in
theorem c_X4_put (hp : zH) (a0 : Option Nat) (a1 : Int) (a2 : Int) : ∀ r, X4_put hp a0 a1 a2 = some r → zMv yX4_put (Cond.code yX4_put cX4_put 5 none :: zALL) { frames := 0, cells := 0, slots := 0, locals := 0 } 0 0 [zR a0, zI a1, zI a2] hp r := by
  refine zMv_of (own := RX4) (cc := cX4_put) (maxL := 5) (hp2 := fun r => r) (by decide) rfl (by exact Nat.le_of_ble_eq_true rfl) ?_
  intro K r0 X hnL hnm9 hret
  have hN : ∀ i, i < 5 → i < K.2.2.2.2.2.2.2.2.2.2.2.2.2.2.1 := by rw [hnL]; exact fun _ h => h
  show zS _ _ (zJ K 0 0 0 [(0, zR a0), (1, zI a1), (2, zI a2)] [] hp)
  unfold X4_put
  refine z_aload_n (pc := 0) (i := 0) 0 X dX4_put_0 rfl rfl ?_
  refine z_getI (pc := 1) (C := RX4) (T := TX4) (N := 2) (ci := 5) 1 X dX4_put_1 inz_X4 rfl (by decide) fw_X4_15 (fun v1 => ?_)
  refine z_istore_n (pc := 4) (i := 3) (lv' := [(3, zI v1), (0, zR a0), (1, zI a1), (2, zI a2)]) X dX4_put_4 rfl (hN _ (by decide)) rfl ?_
  refine z_iload_n (pc := 5) (i := 3) 0 X dX4_put_5 rfl rfl ?_
  refine z_if_lt (pc := 6) 18 X dX4_put_6 (by decide) (fun _ => ?_) (fun _ => ?_)
  · refine z_fin (fun e9 => ?_)
    subst e9
    exact hret _ _ _ _ (by decide) (by decide) dX4_put_18
  · refine z_iload_n (pc := 9) (i := 3) 0 X dX4_put_9 rfl rfl ?_
    refine z_aload_n (pc := 10) (i := 0) 1 X dX4_put_10 rfl rfl ?_
    refine z_getR (pc := 11) (C := RX4) (T := TX4) (N := 2) (ci := 5) 0 X dX4_put_11 inz_X4 rfl (by decide) fw_X4_9 (fun v2 => ?_)
    refine z_alen (pc := 14) X dX4_put_14 (fun v3 => ?_)
    refine z_icmp_lt (pc := 15) 19 X dX4_put_15 (by decide) (fun _ => ?_) (fun _ => ?_)
    · refine z_iload_n (pc := 19) (i := 1) 2 X dX4_put_19 rfl rfl ?_
      refine z_bipush (pc := 20) (z := 64) X dX4_put_20 rfl ⟨by decide, by decide⟩ ?_
      refine z_imul (pc := 22) X dX4_put_22 (fun v4 _ _ => ?_)
      refine z_iload_n (pc := 23) (i := 2) 3 X dX4_put_23 rfl rfl ?_
      refine z_iadd (pc := 24) X dX4_put_24 (fun v5 _ _ => ?_)
      refine z_istore (pc := 25) (i := 4) (lv' := [(4, zI v5), (3, zI v1), (0, zR a0), (1, zI a1), (2, zI a2)]) X dX4_put_25 (hN _ (by decide)) rfl ?_
      refine z_pick [2, 1, 0] (lv' := [(0, zR a0), (3, zI v1), (4, zI v5)]) rfl ?_
      refine z_bind (z_loop (body := X4_put_b27 a0 v5) (fun s8 : Int × zH => zJ K 0 0 27 [(0, zR a0), (3, zI s8.1), (4, zI v5)] [] s8.2) (fun e9 : Int × zH => zJ K 0 0 64 [(0, zR a0), (3, zI e9.1), (4, zI v5)] [] e9.2) (fun s8 => ?_) zN (v1, hp)) (fun e9 => ?_)
      · unfold X4_put_b27
        refine z_iload_n (pc := 27) (i := 3) 1 X dX4_put_27 rfl rfl ?_
        refine z_if_le (pc := 28) 64 X dX4_put_28 (by decide) (fun _ => ?_) (fun _ => ?_)
        · exact z_exit
        · refine z_aload_n (pc := 31) (i := 0) 0 X dX4_put_31 rfl rfl ?_
          refine z_getR (pc := 32) (C := RX4) (T := TX4) (N := 2) (ci := 5) 0 X dX4_put_32 inz_X4 rfl (by decide) fw_X4_9 (fun v10 => ?_)
          refine z_iload_n (pc := 35) (i := 3) 1 X dX4_put_35 rfl rfl ?_
          refine z_iconst (pc := 36) (z := 1) X dX4_put_36 rfl ⟨by decide, by decide⟩ ?_
          refine z_isub (pc := 37) X dX4_put_37 (fun v11 _ _ => ?_)
          refine z_iaload (pc := 38) X dX4_put_38 (fun v12 => ?_)
          refine z_iload (pc := 39) (i := 4) 2 X dX4_put_39 rfl ?_
          refine z_icmp_le (pc := 41) 64 X dX4_put_41 (by decide) (fun _ => ?_) (fun _ => ?_)
          · exact z_exit
          · refine z_aload_n (pc := 44) (i := 0) 0 X dX4_put_44 rfl rfl ?_
            refine z_getR (pc := 45) (C := RX4) (T := TX4) (N := 2) (ci := 5) 0 X dX4_put_45 inz_X4 rfl (by decide) fw_X4_9 (fun v13 => ?_)
            refine z_iload_n (pc := 48) (i := 3) 1 X dX4_put_48 rfl rfl ?_
            refine z_aload_n (pc := 49) (i := 0) 0 X dX4_put_49 rfl rfl ?_
            refine z_getR (pc := 50) (C := RX4) (T := TX4) (N := 2) (ci := 5) 0 X dX4_put_50 inz_X4 rfl (by decide) fw_X4_9 (fun v14 => ?_)
            refine z_iload_n (pc := 53) (i := 3) 1 X dX4_put_53 rfl rfl ?_
            refine z_iconst (pc := 54) (z := 1) X dX4_put_54 rfl ⟨by decide, by decide⟩ ?_
            refine z_isub (pc := 55) X dX4_put_55 (fun v15 _ _ => ?_)
            refine z_iaload (pc := 56) X dX4_put_56 (fun v16 => ?_)
            refine z_iastore (pc := 57) X dX4_put_57 (fun h17 => ?_)
            refine z_iinc (pc := 58) (i := 3) (n := -1) (lv' := fun v18 => [(3, zI v18), (0, zR a0), (4, zI v5)]) 1 X dX4_put_58 rfl (hN _ (by decide)) (fun _ => rfl) (fun v18 _ _ => ?_)
            refine z_goto (pc := 61) 27 X dX4_put_61 (by decide) ?_
            refine z_pick [1, 0, 2] (lv' := [(0, zR a0), (3, zI v18), (4, zI v5)]) rfl ?_
            exact z_back
      · refine z_aload_n (pc := 64) (i := 0) 0 X dX4_put_64 rfl rfl ?_
        refine z_getR (pc := 65) (C := RX4) (T := TX4) (N := 2) (ci := 5) 0 X dX4_put_65 inz_X4 rfl (by decide) fw_X4_9 (fun v19 => ?_)
        refine z_iload_n (pc := 68) (i := 3) 1 X dX4_put_68 rfl rfl ?_
        refine z_iload (pc := 69) (i := 4) 2 X dX4_put_69 rfl ?_
        refine z_iastore (pc := 71) X dX4_put_71 (fun h20 => ?_)
        refine z_aload_n (pc := 72) (i := 0) 0 X dX4_put_72 rfl rfl ?_
        refine z_dup (pc := 73) X dX4_put_73 rfl ?_
        refine z_getI (pc := 74) (C := RX4) (T := TX4) (N := 2) (ci := 5) 1 X dX4_put_74 inz_X4 rfl (by decide) fw_X4_15 (fun v21 => ?_)
        refine z_iconst (pc := 77) (z := 1) X dX4_put_77 rfl ⟨by decide, by decide⟩ ?_
        refine z_iadd (pc := 78) X dX4_put_78 (fun v22 _ _ => ?_)
        refine z_putI (pc := 79) (C := RX4) (T := TX4) (N := 2) (ci := 5) 1 X dX4_put_79 inz_X4 tyX4_ok nmX4 rfl (by decide) fw_X4_15 rfl rfl (fun h23 => ?_)
        refine z_fin (fun e9 => ?_)
        subst e9
        exact hret _ _ _ _ (by decide) (by decide) dX4_put_82
    · refine z_fin (fun e9 => ?_)
      subst e9
      exact hret _ _ _ _ (by decide) (by decide) dX4_put_18
def X5_init (hp : zH) (a0 : Option Nat) (a1 : Int) (a2 : Option Nat) (a3 : Int) (a4 : Int) (a5 : Int) : Option zH :=
  a0.bind fun v1 =>
  (zpI hp a0 6 0 a1).bind fun h2 =>
  (zpR h2 a0 6 1 a2).bind fun h3 =>
  (zpI h3 a0 6 2 a3).bind fun h4 =>
  (zpZ h4 a0 6 3 a4).bind fun h5 =>
  (zpI h5 a0 6 4 a5).bind fun h6 =>
  some h6
set_option maxRecDepth 20000 in
theorem c_X5_init (hp : zH) (a0 : Option Nat) (a1 : Int) (a2 : Option Nat) (a3 : Int) (a4 : Int) (a5 : Int) : ∀ r, X5_init hp a0 a1 a2 a3 a4 a5 = some r → zMv yX5_init (Cond.code yX5_init cX5_init 6 none :: zALL) { frames := 1, cells := 0, slots := 0, locals := 24 } 0 0 [zR a0, zI a1, zR a2, zI a3, zI a4, zI a5] hp r := by
  refine zMv_of (own := RX5) (cc := cX5_init) (maxL := 6) (hp2 := fun r => r) (by decide) rfl (by exact Nat.le_of_ble_eq_true rfl) ?_
  intro K r0 X hnL hnm9 hret
  have hN : ∀ i, i < 6 → i < K.2.2.2.2.2.2.2.2.2.2.2.2.2.2.1 := by rw [hnL]; exact fun _ h => h
  show zS _ _ (zJ K 0 0 0 [(0, zR a0), (1, zI a1), (2, zR a2), (3, zI a3), (4, zI a4), (5, zI a5)] [] hp)
  unfold X5_init
  refine z_aload_n (pc := 0) (i := 0) 0 X dX5_init_0 rfl rfl ?_
  refine z_objInitO (pc := 1) X dX5_init_1 (zin (zt3 99 (by decide +kernel)) rfl) (zin (zt1 29 (by decide +kernel)) rfl) (zin (zt1 30 (by decide +kernel)) rfl) (Nat.le_of_ble_eq_true rfl) (Nat.le_of_ble_eq_true rfl) (fun v1 => ?_)
  refine z_aload_n (pc := 4) (i := 0) 0 X dX5_init_4 rfl rfl ?_
  refine z_iload_n (pc := 5) (i := 1) 1 X dX5_init_5 rfl rfl ?_
  refine z_putFI (pc := 6) (C := RX5) (T := TX5) (N := 5) (ci := 6) 0 X dX5_init_6 inz_X5 tyX5_ok nmX5 rfl (by decide) fw_X5_7 rfl hnm9 rfl rfl (fun h2 => ?_)
  refine z_aload_n (pc := 9) (i := 0) 0 X dX5_init_9 rfl rfl ?_
  refine z_aload_n (pc := 10) (i := 2) 2 X dX5_init_10 rfl rfl ?_
  refine z_putR (pc := 11) (C := RX5) (T := TX5) (N := 5) (ci := 6) 1 X dX5_init_11 inz_X5 tyX5_ok nmX5 rfl (by decide) fw_X5_13 rfl ⟨_, Or.inl rfl⟩ (fun h3 => ?_)
  refine z_aload_n (pc := 14) (i := 0) 0 X dX5_init_14 rfl rfl ?_
  refine z_iload_n (pc := 15) (i := 3) 3 X dX5_init_15 rfl rfl ?_
  refine z_putI (pc := 16) (C := RX5) (T := TX5) (N := 5) (ci := 6) 2 X dX5_init_16 inz_X5 tyX5_ok nmX5 rfl (by decide) fw_X5_17 rfl rfl (fun h4 => ?_)
  refine z_aload_n (pc := 19) (i := 0) 0 X dX5_init_19 rfl rfl ?_
  refine z_iload (pc := 20) (i := 4) 4 X dX5_init_20 rfl ?_
  refine z_putFZ (pc := 22) (C := RX5) (T := TX5) (N := 5) (ci := 6) 3 X dX5_init_22 inz_X5 tyX5_ok nmX5 rfl (by decide) fw_X5_20 rfl hnm9 rfl rfl (fun h5 => ?_)
  refine z_aload_n (pc := 25) (i := 0) 0 X dX5_init_25 rfl rfl ?_
  refine z_iload (pc := 26) (i := 5) 5 X dX5_init_26 rfl ?_
  refine z_putI (pc := 28) (C := RX5) (T := TX5) (N := 5) (ci := 6) 4 X dX5_init_28 inz_X5 tyX5_ok nmX5 rfl (by decide) fw_X5_24 rfl rfl (fun h6 => ?_)
  refine z_fin (fun e9 => ?_)
  subst e9
  exact hret _ _ _ _ (by decide) (by decide) dX5_init_31
def X6_init (hp : zH) (a0 : Option Nat) (a1 : Int) (a2 : Int64) (a3 : Int) (a4 : Int) (a5 : Int) : Option zH :=
  a0.bind fun v1 =>
  (zpI hp a0 7 0 a1).bind fun h2 =>
  (zpJ h2 a0 7 1 a2).bind fun h3 =>
  (zpJ h3 a0 7 2 0).bind fun h4 =>
  (zpI h4 a0 7 3 a3).bind fun h5 =>
  (zpC h5 a0 7 4 a4).bind fun h6 =>
  (zpZ h6 a0 7 5 a5).bind fun h7 =>
  (zpZ h7 a0 7 6 0).bind fun h8 =>
  (zpI h8 a0 7 7 0).bind fun h9 =>
  some h9
set_option maxRecDepth 20000 in
theorem c_X6_init (hp : zH) (a0 : Option Nat) (a1 : Int) (a2 : Int64) (a3 : Int) (a4 : Int) (a5 : Int) : ∀ r, X6_init hp a0 a1 a2 a3 a4 a5 = some r → zMv yX6_init (Cond.code yX6_init cX6_init 7 none :: zALL) { frames := 1, cells := 0, slots := 0, locals := 24 } 0 0 [zR a0, zI a1, zL a2, zI a3, zI a4, zI a5] hp r := by
  refine zMv_of (own := RX6) (cc := cX6_init) (maxL := 7) (hp2 := fun r => r) (by decide) rfl (by exact Nat.le_of_ble_eq_true rfl) ?_
  intro K r0 X hnL hnm9 hret
  have hN : ∀ i, i < 7 → i < K.2.2.2.2.2.2.2.2.2.2.2.2.2.2.1 := by rw [hnL]; exact fun _ h => h
  show zS _ _ (zJ K 0 0 0 [(0, zR a0), (1, zI a1), (2, zL a2), (4, zI a3), (5, zI a4), (6, zI a5)] [] hp)
  unfold X6_init
  refine z_aload_n (pc := 0) (i := 0) 0 X dX6_init_0 rfl rfl ?_
  refine z_objInitO (pc := 1) X dX6_init_1 (zin (zt2 136 (by decide +kernel)) rfl) (zin (zt1 29 (by decide +kernel)) rfl) (zin (zt1 30 (by decide +kernel)) rfl) (Nat.le_of_ble_eq_true rfl) (Nat.le_of_ble_eq_true rfl) (fun v1 => ?_)
  refine z_aload_n (pc := 4) (i := 0) 0 X dX6_init_4 rfl rfl ?_
  refine z_iload_n (pc := 5) (i := 1) 1 X dX6_init_5 rfl rfl ?_
  refine z_putFI (pc := 6) (C := RX6) (T := TX6) (N := 8) (ci := 7) 0 X dX6_init_6 inz_X6 tyX6_ok nmX6 rfl (by decide) fw_X6_7 rfl hnm9 rfl rfl (fun h2 => ?_)
  refine z_aload_n (pc := 9) (i := 0) 0 X dX6_init_9 rfl rfl ?_
  refine z_lload_n (pc := 10) (i := 2) 2 X dX6_init_10 rfl rfl ?_
  refine z_putJ (pc := 11) (C := RX6) (T := TX6) (N := 8) (ci := 7) 1 X dX6_init_11 inz_X6 tyX6_ok nmX6 rfl (by decide) fw_X6_13 rfl rfl (fun h3 => ?_)
  refine z_aload_n (pc := 14) (i := 0) 0 X dX6_init_14 rfl rfl ?_
  refine z_lconst (pc := 15) (z := 0) X dX6_init_15 rfl ?_
  refine z_putJ (pc := 16) (C := RX6) (T := TX6) (N := 8) (ci := 7) 2 X dX6_init_16 inz_X6 tyX6_ok nmX6 rfl (by decide) fw_X6_19 rfl rfl (fun h4 => ?_)
  refine z_aload_n (pc := 19) (i := 0) 0 X dX6_init_19 rfl rfl ?_
  refine z_iload (pc := 20) (i := 4) 3 X dX6_init_20 rfl ?_
  refine z_putI (pc := 22) (C := RX6) (T := TX6) (N := 8) (ci := 7) 3 X dX6_init_22 inz_X6 tyX6_ok nmX6 rfl (by decide) fw_X6_22 rfl rfl (fun h5 => ?_)
  refine z_aload_n (pc := 25) (i := 0) 0 X dX6_init_25 rfl rfl ?_
  refine z_iload (pc := 26) (i := 5) 4 X dX6_init_26 rfl ?_
  refine z_putC (pc := 28) (C := RX6) (T := TX6) (N := 8) (ci := 7) 4 X dX6_init_28 inz_X6 tyX6_ok nmX6 rfl (by decide) fw_X6_25 rfl rfl (fun h6 => ?_)
  refine z_aload_n (pc := 31) (i := 0) 0 X dX6_init_31 rfl rfl ?_
  refine z_iload (pc := 32) (i := 6) 5 X dX6_init_32 rfl ?_
  refine z_putZ (pc := 34) (C := RX6) (T := TX6) (N := 8) (ci := 7) 5 X dX6_init_34 inz_X6 tyX6_ok nmX6 rfl (by decide) fw_X6_29 rfl rfl (fun h7 => ?_)
  refine z_aload_n (pc := 37) (i := 0) 0 X dX6_init_37 rfl rfl ?_
  refine z_iconst (pc := 38) (z := 0) X dX6_init_38 rfl ⟨by decide, by decide⟩ ?_
  refine z_putZ (pc := 39) (C := RX6) (T := TX6) (N := 8) (ci := 7) 6 X dX6_init_39 inz_X6 tyX6_ok nmX6 rfl (by decide) fw_X6_33 rfl rfl (fun h8 => ?_)
  refine z_aload_n (pc := 42) (i := 0) 0 X dX6_init_42 rfl rfl ?_
  refine z_iconst (pc := 43) (z := 0) X dX6_init_43 rfl ⟨by decide, by decide⟩ ?_
  refine z_putI (pc := 44) (C := RX6) (T := TX6) (N := 8) (ci := 7) 7 X dX6_init_44 inz_X6 tyX6_ok nmX6 rfl (by decide) fw_X6_36 rfl rfl (fun h9 => ?_)
  refine z_fin (fun e9 => ?_)
  subst e9
  exact hret _ _ _ _ (by decide) (by decide) dX6_init_47
def X6_farness (hp : zH) (a0 : Option Nat) (a1 : Int) : Option Int :=
  (zgI hp a0 7 5).bind fun v1 =>
  if v1 = 0 then
    some a1
  else
    (zgI hp a0 7 3).bind fun v2 =>
    (zchk (v2 - a1)).bind fun v3 =>
    some v3
set_option maxRecDepth 20000 in
theorem c_X6_farness (hp : zH) (a0 : Option Nat) (a1 : Int) : ∀ r, X6_farness hp a0 a1 = some r → zMi yX6_farness (Cond.code yX6_farness cX6_farness 2 (some .int) :: zALL) { frames := 0, cells := 0, slots := 0, locals := 0 } 0 0 [zR a0, zI a1] hp r hp := by
  refine zMi_of (own := RX6) (cc := cX6_farness) (maxL := 2) (res := fun r => r) (hp2 := fun _ => hp) (by decide) rfl (Or.inl rfl) (by exact Nat.le_of_ble_eq_true rfl) ?_
  intro K r0 X hnL hret
  have hN : ∀ i, i < 2 → i < K.2.2.2.2.2.2.2.2.2.2.2.2.2.2.1 := by rw [hnL]; exact fun _ h => h
  show zS _ _ (zJ K 0 0 0 [(0, zR a0), (1, zI a1)] [] hp)
  unfold X6_farness
  refine z_aload_n (pc := 0) (i := 0) 0 X dX6_farness_0 rfl rfl ?_
  refine z_getI (pc := 1) (C := RX6) (T := TX6) (N := 8) (ci := 7) 5 X dX6_farness_1 inz_X6 rfl (by decide) fw_X6_29 (fun v1 => ?_)
  refine z_if_eq (pc := 4) 16 X dX6_farness_4 (by decide) (fun _ => ?_) (fun _ => ?_)
  · refine z_iload_n (pc := 16) (i := 1) 1 X dX6_farness_16 rfl rfl ?_
    refine z_fin (fun e9 => ?_)
    subst e9
    exact hret _ _ _ _ (by decide) (by decide) dX6_farness_17 trivial
  · refine z_aload_n (pc := 7) (i := 0) 0 X dX6_farness_7 rfl rfl ?_
    refine z_getI (pc := 8) (C := RX6) (T := TX6) (N := 8) (ci := 7) 3 X dX6_farness_8 inz_X6 rfl (by decide) fw_X6_22 (fun v2 => ?_)
    refine z_iload_n (pc := 11) (i := 1) 1 X dX6_farness_11 rfl rfl ?_
    refine z_isub (pc := 12) X dX6_farness_12 (fun v3 _ _ => ?_)
    refine z_goto (pc := 13) 17 X dX6_farness_13 (by decide) ?_
    refine z_fin (fun e9 => ?_)
    subst e9
    exact hret _ _ _ _ (by decide) (by decide) dX6_farness_17 trivial
def X6_notice (hp : zH) (a0 : Option Nat) (a1 : Int) : Option zH :=
  (zgI hp a0 7 7).bind fun v1 =>
  (zdiv a1 10).bind fun v2 =>
  (zpI hp a0 7 7 ((zmax v1 v2))).bind fun h3 =>
  some h3
set_option maxRecDepth 20000 in
theorem c_X6_notice (hp : zH) (a0 : Option Nat) (a1 : Int) : ∀ r, X6_notice hp a0 a1 = some r → zMv yX6_notice (Cond.code yX6_notice cX6_notice 2 none :: zALL) { frames := 1, cells := 0, slots := 0, locals := 24 } 0 0 [zR a0, zI a1] hp r := by
  refine zMv_of (own := RX6) (cc := cX6_notice) (maxL := 2) (hp2 := fun r => r) (by decide) rfl (by exact Nat.le_of_ble_eq_true rfl) ?_
  intro K r0 X hnL hnm9 hret
  have hN : ∀ i, i < 2 → i < K.2.2.2.2.2.2.2.2.2.2.2.2.2.2.1 := by rw [hnL]; exact fun _ h => h
  show zS _ _ (zJ K 0 0 0 [(0, zR a0), (1, zI a1)] [] hp)
  unfold X6_notice
  refine z_aload_n (pc := 0) (i := 0) 0 X dX6_notice_0 rfl rfl ?_
  refine z_aload_n (pc := 1) (i := 0) 0 X dX6_notice_1 rfl rfl ?_
  refine z_getI (pc := 2) (C := RX6) (T := TX6) (N := 8) (ci := 7) 7 X dX6_notice_2 inz_X6 rfl (by decide) fw_X6_36 (fun v1 => ?_)
  refine z_iload_n (pc := 5) (i := 1) 1 X dX6_notice_5 rfl rfl ?_
  refine z_bipush (pc := 6) (z := 10) X dX6_notice_6 rfl ⟨by decide, by decide⟩ ?_
  refine z_idiv (pc := 8) X dX6_notice_8 (fun v2 => ?_)
  refine z_max (pc := 9) X dX6_notice_9 (zin (zt3 155 (by decide +kernel)) rfl) (zin (zt1 205 (by decide +kernel)) rfl) (zin (zt1 17 (by decide +kernel)) rfl) (zin (zt1 206 (by decide +kernel)) rfl) (Nat.le_of_ble_eq_true rfl) (Nat.le_of_ble_eq_true rfl) (Nat.le_of_ble_eq_true rfl) (Nat.le_of_ble_eq_true rfl) ?_
  refine z_putI (pc := 12) (C := RX6) (T := TX6) (N := 8) (ci := 7) 7 X dX6_notice_12 inz_X6 tyX6_ok nmX6 rfl (by decide) fw_X6_36 rfl rfl (fun h3 => ?_)
  refine z_fin (fun e9 => ?_)
  subst e9
  exact hret _ _ _ _ (by decide) (by decide) dX6_notice_15
def X7_init (hp : zH) (a0 : Option Nat) : Option zH :=
  a0.bind fun v1 =>
  (znewa hp 5 12).bind fun h2 =>
  (zpR h2 a0 8 0 ((some hp.length))).bind fun h3 =>
  (znewa h3 6 40).bind fun h4 =>
  (zpR h4 a0 8 1 ((some h3.length))).bind fun h5 =>
  (znew h5 4 nf_X3).bind fun h6 =>
  ((zobj h6 ((some h5.length)) 4).bind fun _ => X3_init h6 ((some h5.length))).bind fun x7 =>
  (zpR x7 a0 8 2 ((some h5.length))).bind fun h8 =>
  (znew h8 3 nf_X1).bind fun h9 =>
  ((zobj h9 ((some h8.length)) 3).bind fun _ => X1_init h9 ((some h8.length))).bind fun x10 =>
  (zpR x10 a0 8 3 ((some h8.length))).bind fun h11 =>
  (znew h11 5 nf_X4).bind fun h12 =>
  ((zobj h12 ((some h11.length)) 5).bind fun _ => X4_init h12 ((some h11.length))).bind fun x13 =>
  (zpR x13 a0 8 4 ((some h11.length))).bind fun h14 =>
  (zpI h14 a0 8 5 0).bind fun h15 =>
  (zpI h15 a0 8 6 0).bind fun h16 =>
  (zpJ h16 a0 8 7 0).bind fun h17 =>
  (zpI h17 a0 8 8 0).bind fun h18 =>
  some h18
set_option maxRecDepth 20000 in
theorem c_X7_init (hp : zH) (a0 : Option Nat) : ∀ r, X7_init hp a0 = some r → zMv yX7_init (Cond.code yX7_init cX7_init 1 none :: zALL) { frames := 2, cells := 13, slots := 1027, locals := 44 } 13 1027 [zR a0] hp r := by
  refine zMv_of (own := RX7) (cc := cX7_init) (maxL := 1) (hp2 := fun r => r) (by decide) rfl (by exact Nat.le_of_ble_eq_true rfl) ?_
  intro K r0 X hnL hnm9 hret
  have hN : ∀ i, i < 1 → i < K.2.2.2.2.2.2.2.2.2.2.2.2.2.2.1 := by rw [hnL]; exact fun _ h => h
  show zS _ _ (zJ K 0 0 0 [(0, zR a0)] [] hp)
  unfold X7_init
  refine z_aload_n (pc := 0) (i := 0) 0 X dX7_init_0 rfl rfl ?_
  refine z_objInitO (pc := 1) X dX7_init_1 (zin (zt1 28 (by decide +kernel)) rfl) (zin (zt1 29 (by decide +kernel)) rfl) (zin (zt1 30 (by decide +kernel)) rfl) (Nat.le_of_ble_eq_true rfl) (Nat.le_of_ble_eq_true rfl) (fun v1 => ?_)
  refine z_aload_n (pc := 4) (i := 0) 0 X dX7_init_4 rfl rfl ?_
  refine z_bipush (pc := 5) (z := 12) X dX7_init_5 rfl ⟨by decide, by decide⟩ ?_
  refine z_newR5o (pc := 7) (c1 := 1) (s1 := 12) 12 X dX7_init_7 (zin (zt1 31 (by decide +kernel)) rfl) rfl (by decide) (by decide) (by decide) rfl rfl (fun h2 => ?_)
  refine z_putFR (pc := 10) (C := RX7) (T := TX7) (N := 9) (ci := 8) 0 X dX7_init_10 inz_X7 tyX7_ok nmX7 rfl (by decide) fw_X7_11 rfl hnm9 rfl ⟨"x", Or.inr ⟨_, rfl⟩⟩ (fun h3 => ?_)
  refine z_aload_n (pc := 13) (i := 0) 0 X dX7_init_13 rfl rfl ?_
  refine z_bipush (pc := 14) (z := 40) X dX7_init_14 rfl ⟨by decide, by decide⟩ ?_
  refine z_newR6o (pc := 16) (c1 := 2) (s1 := 52) 40 X dX7_init_16 (zin (zt1 33 (by decide +kernel)) rfl) rfl (by decide) (by decide) (by decide) rfl rfl (fun h4 => ?_)
  refine z_putFR (pc := 19) (C := RX7) (T := TX7) (N := 9) (ci := 8) 1 X dX7_init_19 inz_X7 tyX7_ok nmX7 rfl (by decide) fw_X7_17 rfl hnm9 rfl ⟨"x", Or.inr ⟨_, rfl⟩⟩ (fun h5 => ?_)
  refine z_aload_n (pc := 22) (i := 0) 0 X dX7_init_22 rfl rfl ?_
  refine z_newo (pc := 23) (c1 := 3) (s1 := 58) X dX7_init_23 inz_X3 tyX3_ok (zin (zt1 35 (by decide +kernel)) rfl) (zin (zt1 36 (by decide +kernel)) rfl) (zin (zt1 2 (by decide +kernel)) rfl) rfl nf_X3_d nf_X3_ok (by decide) (by decide) rfl rfl (fun h6 => ?_)
  refine z_dup (pc := 26) X dX7_init_26 rfl ?_
  refine z_callI_v (pc := 27) (cells := 3) (slots := 58) (C := RX3) (T := TX3) (N := 6) (ci := 4) [] X dX7_init_27 (c_X3_init h6 ((some h5.length))) kw_X7_23 rfl rfl ⟨rfl, rfl, ⟨by decide, by decide⟩, ⟨by decide, by decide⟩⟩ (Nat.le_of_ble_eq_true rfl) rfl (fun x7 => ?_)
  refine z_putFR (pc := 30) (C := RX7) (T := TX7) (N := 9) (ci := 8) 2 X dX7_init_30 inz_X7 tyX7_ok nmX7 rfl (by decide) fw_X7_24 rfl hnm9 rfl ⟨_, Or.inl rfl⟩ (fun h8 => ?_)
  refine z_aload_n (pc := 33) (i := 0) 0 X dX7_init_33 rfl rfl ?_
  refine z_newo (pc := 34) (c1 := 8) (s1 := 865) X dX7_init_34 inz_X1 tyX1_ok (zin (zt1 63 (by decide +kernel)) rfl) (zin (zt1 64 (by decide +kernel)) rfl) (zin (zt1 3 (by decide +kernel)) rfl) rfl nf_X1_d nf_X1_ok (by decide) (by decide) rfl rfl (fun h9 => ?_)
  refine z_dup (pc := 37) X dX7_init_37 rfl ?_
  refine z_callI_v (pc := 38) (cells := 8) (slots := 865) (C := RX1) (T := TX1) (N := 7) (ci := 3) [] X dX7_init_38 (c_X1_init h9 ((some h8.length))) kw_X7_30 rfl rfl ⟨rfl, rfl, ⟨by decide, by decide⟩, ⟨by decide, by decide⟩⟩ (Nat.le_of_ble_eq_true rfl) rfl (fun x10 => ?_)
  refine z_putFR (pc := 41) (C := RX7) (T := TX7) (N := 9) (ci := 8) 3 X dX7_init_41 inz_X7 tyX7_ok nmX7 rfl (by decide) fw_X7_31 rfl hnm9 rfl ⟨_, Or.inl rfl⟩ (fun h11 => ?_)
  refine z_aload_n (pc := 44) (i := 0) 0 X dX7_init_44 rfl rfl ?_
  refine z_newo (pc := 45) (c1 := 12) (s1 := 987) X dX7_init_45 inz_X4 tyX4_ok (zin (zt1 93 (by decide +kernel)) rfl) (zin (zt1 94 (by decide +kernel)) rfl) (zin (zt1 4 (by decide +kernel)) rfl) rfl nf_X4_d nf_X4_ok (by decide) (by decide) rfl rfl (fun h12 => ?_)
  refine z_dup (pc := 48) X dX7_init_48 rfl ?_
  refine z_callI_v (pc := 49) (cells := 12) (slots := 987) (C := RX4) (T := TX4) (N := 2) (ci := 5) [] X dX7_init_49 (c_X4_init h12 ((some h11.length))) kw_X7_37 rfl rfl ⟨rfl, rfl, ⟨by decide, by decide⟩, ⟨by decide, by decide⟩⟩ (Nat.le_of_ble_eq_true rfl) rfl (fun x13 => ?_)
  refine z_putFR (pc := 52) (C := RX7) (T := TX7) (N := 9) (ci := 8) 4 X dX7_init_52 inz_X7 tyX7_ok nmX7 rfl (by decide) fw_X7_38 rfl hnm9 rfl ⟨_, Or.inl rfl⟩ (fun h14 => ?_)
  refine z_aload_n (pc := 55) (i := 0) 0 X dX7_init_55 rfl rfl ?_
  refine z_iconst (pc := 56) (z := 0) X dX7_init_56 rfl ⟨by decide, by decide⟩ ?_
  refine z_putI (pc := 57) (C := RX7) (T := TX7) (N := 9) (ci := 8) 5 X dX7_init_57 inz_X7 tyX7_ok nmX7 rfl (by decide) fw_X7_42 rfl rfl (fun h15 => ?_)
  refine z_aload_n (pc := 60) (i := 0) 0 X dX7_init_60 rfl rfl ?_
  refine z_iconst (pc := 61) (z := 0) X dX7_init_61 rfl ⟨by decide, by decide⟩ ?_
  refine z_putI (pc := 62) (C := RX7) (T := TX7) (N := 9) (ci := 8) 6 X dX7_init_62 inz_X7 tyX7_ok nmX7 rfl (by decide) fw_X7_46 rfl rfl (fun h16 => ?_)
  refine z_aload_n (pc := 65) (i := 0) 0 X dX7_init_65 rfl rfl ?_
  refine z_lconst (pc := 66) (z := 0) X dX7_init_66 rfl ?_
  refine z_putJ (pc := 67) (C := RX7) (T := TX7) (N := 9) (ci := 8) 7 X dX7_init_67 inz_X7 tyX7_ok nmX7 rfl (by decide) fw_X7_51 rfl rfl (fun h17 => ?_)
  refine z_aload_n (pc := 70) (i := 0) 0 X dX7_init_70 rfl rfl ?_
  refine z_iconst (pc := 71) (z := 0) X dX7_init_71 rfl ⟨by decide, by decide⟩ ?_
  refine z_putI (pc := 72) (C := RX7) (T := TX7) (N := 9) (ci := 8) 8 X dX7_init_72 inz_X7 tyX7_ok nmX7 rfl (by decide) fw_X7_55 rfl rfl (fun h18 => ?_)
  refine z_fin (fun e9 => ?_)
  subst e9
  exact hret _ _ _ _ (by decide) (by decide) dX7_init_75
