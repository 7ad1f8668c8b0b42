/-! methods, as functions over the pure heap, and their contracts (by program) -/
def X8_doors (hp : zH) (a0 : Option Nat) (a1 : Int) : Option (Int × zH) :=
  ((zobj hp a0 9).bind fun _ => X8_isStreet hp a0 a1).bind fun x1 =>
  ((zobj hp a0 9).bind fun _ => X8_no hp a0 x1 1).bind fun x2 =>
  if x2.1 = 0 then
    ((zobj x2.2 a0 9).bind fun _ => X8_doorsOf x2.2 a0 a1).bind fun x3 =>
    some (x3, x2.2)
  else
    some (0, x2.2)
set_option maxRecDepth 20000 in
theorem c_X8_doors (hp : zH) (a0 : Option Nat) (a1 : Int) : ∀ r, X8_doors hp a0 a1 = some r → zMi yX8_doors (Cond.code yX8_doors cX8_doors 2 (some .int) :: zALL) { frames := 2, cells := 0, slots := 0, locals := 43 } 0 0 [zR a0, zI a1] hp r.1 r.2 := by
  refine zMi_of (own := RX8) (cc := cX8_doors) (maxL := 2) (ε := (Int × zH)) (res := fun r => r.1) (hp2 := fun r => r.2) (by decide) rfl (Or.inl rfl) (by exact Nat.le_of_ble_eq_true rfl) ?_
  intro K r0 X hnL hret
  have hN : ∀ i, i < 2 → i < K.2.2.2.2.2.2.2.2.2.2.2.2.2.2.1 := by rw [hnL]; exact fun _ h => h
  show zS _ _ (zJ K 0 0 0 [(0, zR a0), (1, zI a1)] [] hp)
  unfold X8_doors
  refine z_aload_n (pc := 0) (i := 0) 0 X dX8_doors_0 rfl rfl ?_
  refine z_aload_n (pc := 1) (i := 0) 0 X dX8_doors_1 rfl rfl ?_
  refine z_iload_n (pc := 2) (i := 1) 1 X dX8_doors_2 rfl rfl ?_
  refine z_callV_i (pc := 3) (cells := 0) (slots := 0) (C := RX8) (T := TX8) (N := 30) (ci := 9) [zI a1] X dX8_doors_3 (c_X8_isStreet hp a0 a1) kw_X8_132 rfl rfl ⟨rfl, rfl, ⟨by decide, by decide⟩, ⟨by decide, by decide⟩⟩ (Nat.le_of_ble_eq_true rfl) rfl (fun x1 => ?_)
  refine z_iconst (pc := 6) (z := 1) X dX8_doors_6 rfl ⟨by decide, by decide⟩ ?_
  refine z_callV_i (pc := 7) (cells := 0) (slots := 0) (C := RX8) (T := TX8) (N := 30) (ci := 9) [zI x1, zI 1] X dX8_doors_7 (c_X8_no hp a0 x1 1) kw_X8_93 rfl rfl ⟨rfl, rfl, ⟨by decide, by decide⟩, ⟨by decide, by decide⟩⟩ (Nat.le_of_ble_eq_true rfl) rfl (fun x2 => ?_)
  refine z_if_eq (pc := 10) 17 X dX8_doors_10 (by decide) (fun _ => ?_) (fun _ => ?_)
  · refine z_aload_n (pc := 17) (i := 0) 0 X dX8_doors_17 rfl rfl ?_
    refine z_iload_n (pc := 18) (i := 1) 1 X dX8_doors_18 rfl rfl ?_
    refine z_callV_i (pc := 19) (cells := 0) (slots := 0) (C := RX8) (T := TX8) (N := 30) (ci := 9) [zI a1] X dX8_doors_19 (c_X8_doorsOf x2.2 a0 a1) kw_X8_209 rfl rfl ⟨rfl, rfl, ⟨by decide, by decide⟩, ⟨by decide, by decide⟩⟩ (Nat.le_of_ble_eq_true rfl) rfl (fun x3 => ?_)
    refine z_fin (fun e9 => ?_)
    subst e9
    exact hret _ _ _ _ (by decide) (by decide) dX8_doors_22 trivial
  · refine z_iconst (pc := 13) (z := 0) X dX8_doors_13 rfl ⟨by decide, by decide⟩ ?_
    refine z_goto (pc := 14) 22 X dX8_doors_14 (by decide) ?_
    refine z_fin (fun e9 => ?_)
    subst e9
    exact hret _ _ _ _ (by decide) (by decide) dX8_doors_22 trivial
def X8_endOf_b2 (p1 : Option Nat) (h3 : zH) (s2 : Int) : Option ((Int) ⊕ (Int)) :=
  if s2 < 0 then
    some (Sum.inr (s2))
  else
    (zgR h3 p1 9 12).bind fun v5 =>
    (zaI h3 2 v5 s2).bind fun v6 =>
    if v6 = 0 then
      some (Sum.inr (s2))
    else
      (zgR h3 p1 9 13).bind fun v7 =>
      (zaI h3 0 v7 s2).bind fun v8 =>
      some (Sum.inl (v8))
def X8_endOf (hp : zH) (a0 : Option Nat) (a1 : Int) : Option Int :=
  (zloop (X8_endOf_b2 a0 hp) zN a1).bind fun e4 =>
  some e4
set_option maxRecDepth 20000 in
theorem c_X8_endOf (hp : zH) (a0 : Option Nat) (a1 : Int) : ∀ r, X8_endOf hp a0 a1 = some r → zMi yX8_endOf (Cond.code yX8_endOf cX8_endOf 3 (some .int) :: zALL) { frames := 0, cells := 0, slots := 0, locals := 0 } 0 0 [zR a0, zI a1] hp r hp := by
  refine zMi_of (own := RX8) (cc := cX8_endOf) (maxL := 3) (res := fun r => r) (hp2 := fun _ => hp) (by decide) rfl (Or.inl rfl) (by exact Nat.le_of_ble_eq_true rfl) ?_
  intro K r0 X hnL hret
  have hN : ∀ i, i < 3 → i < K.2.2.2.2.2.2.2.2.2.2.2.2.2.2.1 := by rw [hnL]; exact fun _ h => h
  show zS _ _ (zJ K 0 0 0 [(0, zR a0), (1, zI a1)] [] hp)
  unfold X8_endOf
  refine z_iload_n (pc := 0) (i := 1) 1 X dX8_endOf_0 rfl rfl ?_
  refine z_istore_n (pc := 1) (i := 2) (lv' := [(2, zI a1), (0, zR a0), (1, zI a1)]) X dX8_endOf_1 rfl (hN _ (by decide)) rfl ?_
  refine z_pick [1, 0] (lv' := [(0, zR a0), (2, zI a1)]) rfl ?_
  refine z_bind (z_loop (body := X8_endOf_b2 a0 hp) (fun s2 : Int => zJ K 0 0 2 [(0, zR a0), (2, zI s2)] [] hp) (fun e4 : Int => zJ K 0 0 25 [(2, zI e4)] [] hp) (fun s2 => ?_) zN a1) (fun e4 => ?_)
  · unfold X8_endOf_b2
    refine z_iload_n (pc := 2) (i := 2) 1 X dX8_endOf_2 rfl rfl ?_
    refine z_if_lt (pc := 3) 25 X dX8_endOf_3 (by decide) (fun _ => ?_) (fun _ => ?_)
    · refine z_pick [1] (lv' := [(2, zI s2)]) rfl ?_
      exact z_exit
    · refine z_aload_n (pc := 6) (i := 0) 0 X dX8_endOf_6 rfl rfl ?_
      refine z_getR (pc := 7) (C := RX8) (T := TX8) (N := 30) (ci := 9) 12 X dX8_endOf_7 inz_X8 rfl (by decide) fw_X8_46 (fun v5 => ?_)
      refine z_iload_n (pc := 10) (i := 2) 1 X dX8_endOf_10 rfl rfl ?_
      refine z_zaload (pc := 11) X dX8_endOf_11 (fun v6 => ?_)
      refine z_if_eq (pc := 12) 25 X dX8_endOf_12 (by decide) (fun _ => ?_) (fun _ => ?_)
      · refine z_pick [1] (lv' := [(2, zI s2)]) rfl ?_
        exact z_exit
      · refine z_aload_n (pc := 15) (i := 0) 0 X dX8_endOf_15 rfl rfl ?_
        refine z_getR (pc := 16) (C := RX8) (T := TX8) (N := 30) (ci := 9) 13 X dX8_endOf_16 inz_X8 rfl (by decide) fw_X8_49 (fun v7 => ?_)
        refine z_iload_n (pc := 19) (i := 2) 1 X dX8_endOf_19 rfl rfl ?_
        refine z_iaload (pc := 20) X dX8_endOf_20 (fun v8 => ?_)
        refine z_istore_n (pc := 21) (i := 2) (lv' := [(2, zI v8), (0, zR a0)]) X dX8_endOf_21 rfl (hN _ (by decide)) rfl ?_
        refine z_goto (pc := 22) 2 X dX8_endOf_22 (by decide) ?_
        refine z_pick [1, 0] (lv' := [(0, zR a0), (2, zI v8)]) rfl ?_
        exact z_back
  · refine z_iload_n (pc := 25) (i := 2) 0 X dX8_endOf_25 rfl rfl ?_
    refine z_fin (fun e9 => ?_)
    subst e9
    exact hret _ _ _ _ (by decide) (by decide) dX8_endOf_26 trivial
def X8_now_b4 (p1 : Option Nat) (p2 : Int) (h4 : zH) (s3 : Int × Int) : Option ((Int × Int) ⊕ (Int)) :=
  (zgI h4 p1 9 14).bind fun v6 =>
  (zchk (2 * v6)).bind fun v7 =>
  if v7 ≤ s3.2 then
    some (Sum.inr (s3.1))
  else
    (zgR h4 p1 9 8).bind fun v8 =>
    (zaI h4 0 v8 s3.2).bind fun v9 =>
    if v9 = (-1) then
      (zchk (s3.2 + 1)).bind fun v10 =>
      some (Sum.inl (s3.1, v10))
    else
      (zgJ h4 p1 9 26).bind fun v11 =>
      if (zcmp v11 0) = 0 then
        (zchk (s3.2 + 1)).bind fun v12 =>
        some (Sum.inl (s3.1, v12))
      else
        (zgR h4 p1 9 11).bind fun v13 =>
        (zaI h4 0 v13 s3.2).bind fun v14 =>
        if v14 = p2 then
          (zgR h4 p1 9 0).bind fun v16 =>
          (zaJ h4 v16 v9).bind fun v17 =>
          (zgJ h4 p1 9 26).bind fun v18 =>
          if (zcmp v17 v18) = 0 then
            (zdiv s3.2 2).bind fun v19 =>
            (zchk (s3.2 + 1)).bind fun v20 =>
            some (Sum.inl (v19, v20))
          else
            (zgR h4 p1 9 1).bind fun v21 =>
            (zaJ h4 v21 v9).bind fun v22 =>
            (zgJ h4 p1 9 26).bind fun v23 =>
            if (zcmp v22 v23) = 0 then
              (zdiv s3.2 2).bind fun v25 =>
              (zchk (s3.2 + 1)).bind fun v26 =>
              some (Sum.inl (v25, v26))
            else
              (zchk (s3.2 + 1)).bind fun v24 =>
              some (Sum.inl (s3.1, v24))
        else
          (zchk (s3.2 + 1)).bind fun v15 =>
          some (Sum.inl (s3.1, v15))
def X8_now (hp : zH) (a0 : Option Nat) (a1 : Int) : Option Int :=
  (zloop (X8_now_b4 a0 a1 hp) zN ((-1), 0)).bind fun e5 =>
  some e5
set_option maxRecDepth 20000 in
theorem c_X8_now (hp : zH) (a0 : Option Nat) (a1 : Int) : ∀ r, X8_now hp a0 a1 = some r → zMi yX8_now (Cond.code yX8_now cX8_now 5 (some .int) :: zALL) { frames := 0, cells := 0, slots := 0, locals := 0 } 0 0 [zR a0, zI a1] hp r hp := by
  refine zMi_of (own := RX8) (cc := cX8_now) (maxL := 5) (res := fun r => r) (hp2 := fun _ => hp) (by decide) rfl (Or.inl rfl) (by exact Nat.le_of_ble_eq_true rfl) ?_
  intro K r0 X hnL hret
  have hN : ∀ i, i < 5 → i < K.2.2.2.2.2.2.2.2.2.2.2.2.2.2.1 := by rw [hnL]; exact fun _ h => h
  show zS _ _ (zJ K 0 0 0 [(0, zR a0), (1, zI a1)] [] hp)
  unfold X8_now
  refine z_iconst (pc := 0) (z := -1) X dX8_now_0 rfl ⟨by decide, by decide⟩ ?_
  refine z_istore_n (pc := 1) (i := 2) (lv' := [(2, zI (-1)), (0, zR a0), (1, zI a1)]) X dX8_now_1 rfl (hN _ (by decide)) rfl ?_
  refine z_iconst (pc := 2) (z := 0) X dX8_now_2 rfl ⟨by decide, by decide⟩ ?_
  refine z_istore_n (pc := 3) (i := 3) (lv' := [(3, zI 0), (2, zI (-1)), (0, zR a0), (1, zI a1)]) X dX8_now_3 rfl (hN _ (by decide)) rfl ?_
  refine z_pick [2, 3, 1, 0] (lv' := [(0, zR a0), (1, zI a1), (2, zI (-1)), (3, zI 0)]) rfl ?_
  refine z_bind (z_loop (body := X8_now_b4 a0 a1 hp) (fun s3 : Int × Int => zJ K 0 0 4 [(0, zR a0), (1, zI a1), (2, zI s3.1), (3, zI s3.2)] [] hp) (fun e5 : Int => zJ K 0 0 87 [(2, zI e5)] [] hp) (fun s3 => ?_) zN ((-1), 0)) (fun e5 => ?_)
  · unfold X8_now_b4
    refine z_iload_n (pc := 4) (i := 3) 3 X dX8_now_4 rfl rfl ?_
    refine z_iconst (pc := 5) (z := 2) X dX8_now_5 rfl ⟨by decide, by decide⟩ ?_
    refine z_aload_n (pc := 6) (i := 0) 0 X dX8_now_6 rfl rfl ?_
    refine z_getI (pc := 7) (C := RX8) (T := TX8) (N := 30) (ci := 9) 14 X dX8_now_7 inz_X8 rfl (by decide) fw_X8_90 (fun v6 => ?_)
    refine z_imul (pc := 10) X dX8_now_10 (fun v7 _ _ => ?_)
    refine z_icmp_ge (pc := 11) 87 X dX8_now_11 (by decide) (fun _ => ?_) (fun _ => ?_)
    · refine z_pick [2] (lv' := [(2, zI s3.1)]) rfl ?_
      exact z_exit
    · refine z_aload_n (pc := 14) (i := 0) 0 X dX8_now_14 rfl rfl ?_
      refine z_getR (pc := 15) (C := RX8) (T := TX8) (N := 30) (ci := 9) 8 X dX8_now_15 inz_X8 rfl (by decide) fw_X8_34 (fun v8 => ?_)
      refine z_iload_n (pc := 18) (i := 3) 3 X dX8_now_18 rfl rfl ?_
      refine z_iaload (pc := 19) X dX8_now_19 (fun v9 => ?_)
      refine z_istore (pc := 20) (i := 4) (lv' := [(4, zI v9), (0, zR a0), (1, zI a1), (2, zI s3.1), (3, zI s3.2)]) X dX8_now_20 (hN _ (by decide)) rfl ?_
      refine z_iload (pc := 22) (i := 4) 0 X dX8_now_22 rfl ?_
      refine z_iconst (pc := 24) (z := -1) X dX8_now_24 rfl ⟨by decide, by decide⟩ ?_
      refine z_icmp_eq (pc := 25) 81 X dX8_now_25 (by decide) (fun _ => ?_) (fun _ => ?_)
      · refine z_iinc (pc := 81) (i := 3) (n := 1) (lv' := fun v10 => [(3, zI v10), (4, zI v9), (0, zR a0), (1, zI a1), (2, zI s3.1)]) 4 X dX8_now_81 rfl (hN _ (by decide)) (fun _ => rfl) (fun v10 _ _ => ?_)
        refine z_goto (pc := 84) 4 X dX8_now_84 (by decide) ?_
        refine z_pick [2, 3, 4, 0] (lv' := [(0, zR a0), (1, zI a1), (2, zI s3.1), (3, zI v10)]) rfl ?_
        exact z_back
      · refine z_aload_n (pc := 28) (i := 0) 1 X dX8_now_28 rfl rfl ?_
        refine z_getJ (pc := 29) (C := RX8) (T := TX8) (N := 30) (ci := 9) 26 X dX8_now_29 inz_X8 rfl (by decide) fw_X8_102 (fun v11 => ?_)
        refine z_lconst (pc := 32) (z := 0) X dX8_now_32 rfl ?_
        refine z_lcmp (pc := 33) X dX8_now_33 ?_
        refine z_if_eq (pc := 34) 81 X dX8_now_34 (by decide) (fun _ => ?_) (fun _ => ?_)
        · refine z_iinc (pc := 81) (i := 3) (n := 1) (lv' := fun v12 => [(3, zI v12), (4, zI v9), (0, zR a0), (1, zI a1), (2, zI s3.1)]) 4 X dX8_now_81 rfl (hN _ (by decide)) (fun _ => rfl) (fun v12 _ _ => ?_)
          refine z_goto (pc := 84) 4 X dX8_now_84 (by decide) ?_
          refine z_pick [2, 3, 4, 0] (lv' := [(0, zR a0), (1, zI a1), (2, zI s3.1), (3, zI v12)]) rfl ?_
          exact z_back
        · refine z_aload_n (pc := 37) (i := 0) 1 X dX8_now_37 rfl rfl ?_
          refine z_getR (pc := 38) (C := RX8) (T := TX8) (N := 30) (ci := 9) 11 X dX8_now_38 inz_X8 rfl (by decide) fw_X8_43 (fun v13 => ?_)
          refine z_iload_n (pc := 41) (i := 3) 4 X dX8_now_41 rfl rfl ?_
          refine z_iaload (pc := 42) X dX8_now_42 (fun v14 => ?_)
          refine z_iload_n (pc := 43) (i := 1) 2 X dX8_now_43 rfl rfl ?_
          refine z_icmp_ne (pc := 44) 81 X dX8_now_44 (by decide) (fun _ => ?_) (fun _ => ?_)
          · refine z_iinc (pc := 81) (i := 3) (n := 1) (lv' := fun v15 => [(3, zI v15), (4, zI v9), (0, zR a0), (1, zI a1), (2, zI s3.1)]) 4 X dX8_now_81 rfl (hN _ (by decide)) (fun _ => rfl) (fun v15 _ _ => ?_)
            refine z_goto (pc := 84) 4 X dX8_now_84 (by decide) ?_
            refine z_pick [2, 3, 4, 0] (lv' := [(0, zR a0), (1, zI a1), (2, zI s3.1), (3, zI v15)]) rfl ?_
            exact z_back
          · refine z_aload_n (pc := 47) (i := 0) 1 X dX8_now_47 rfl rfl ?_
            refine z_getR (pc := 48) (C := RX8) (T := TX8) (N := 30) (ci := 9) 0 X dX8_now_48 inz_X8 rfl (by decide) fw_X8_7 (fun v16 => ?_)
            refine z_iload (pc := 51) (i := 4) 0 X dX8_now_51 rfl ?_
            refine z_laload (pc := 53) X dX8_now_53 (fun v17 => ?_)
            refine z_aload_n (pc := 54) (i := 0) 1 X dX8_now_54 rfl rfl ?_
            refine z_getJ (pc := 55) (C := RX8) (T := TX8) (N := 30) (ci := 9) 26 X dX8_now_55 inz_X8 rfl (by decide) fw_X8_102 (fun v18 => ?_)
            refine z_lcmp (pc := 58) X dX8_now_58 ?_
            refine z_if_eq (pc := 59) 77 X dX8_now_59 (by decide) (fun _ => ?_) (fun _ => ?_)
            · refine z_iload_n (pc := 77) (i := 3) 4 X dX8_now_77 rfl rfl ?_
              refine z_iconst (pc := 78) (z := 2) X dX8_now_78 rfl ⟨by decide, by decide⟩ ?_
              refine z_idiv (pc := 79) X dX8_now_79 (fun v19 => ?_)
              refine z_istore_n (pc := 80) (i := 2) (lv' := [(2, zI v19), (4, zI v9), (0, zR a0), (1, zI a1), (3, zI s3.2)]) X dX8_now_80 rfl (hN _ (by decide)) rfl ?_
              refine z_iinc (pc := 81) (i := 3) (n := 1) (lv' := fun v20 => [(3, zI v20), (2, zI v19), (4, zI v9), (0, zR a0), (1, zI a1)]) 4 X dX8_now_81 rfl (hN _ (by decide)) (fun _ => rfl) (fun v20 _ _ => ?_)
              refine z_goto (pc := 84) 4 X dX8_now_84 (by decide) ?_
              refine z_pick [3, 4, 1, 0] (lv' := [(0, zR a0), (1, zI a1), (2, zI v19), (3, zI v20)]) rfl ?_
              exact z_back
            · refine z_aload_n (pc := 62) (i := 0) 1 X dX8_now_62 rfl rfl ?_
              refine z_getR (pc := 63) (C := RX8) (T := TX8) (N := 30) (ci := 9) 1 X dX8_now_63 inz_X8 rfl (by decide) fw_X8_13 (fun v21 => ?_)
              refine z_iload (pc := 66) (i := 4) 0 X dX8_now_66 rfl ?_
              refine z_laload (pc := 68) X dX8_now_68 (fun v22 => ?_)
              refine z_aload_n (pc := 69) (i := 0) 1 X dX8_now_69 rfl rfl ?_
              refine z_getJ (pc := 70) (C := RX8) (T := TX8) (N := 30) (ci := 9) 26 X dX8_now_70 inz_X8 rfl (by decide) fw_X8_102 (fun v23 => ?_)
              refine z_lcmp (pc := 73) X dX8_now_73 ?_
              refine z_if_ne (pc := 74) 81 X dX8_now_74 (by decide) (fun _ => ?_) (fun _ => ?_)
              · refine z_iinc (pc := 81) (i := 3) (n := 1) (lv' := fun v24 => [(3, zI v24), (4, zI v9), (0, zR a0), (1, zI a1), (2, zI s3.1)]) 4 X dX8_now_81 rfl (hN _ (by decide)) (fun _ => rfl) (fun v24 _ _ => ?_)
                refine z_goto (pc := 84) 4 X dX8_now_84 (by decide) ?_
                refine z_pick [2, 3, 4, 0] (lv' := [(0, zR a0), (1, zI a1), (2, zI s3.1), (3, zI v24)]) rfl ?_
                exact z_back
              · refine z_iload_n (pc := 77) (i := 3) 4 X dX8_now_77 rfl rfl ?_
                refine z_iconst (pc := 78) (z := 2) X dX8_now_78 rfl ⟨by decide, by decide⟩ ?_
                refine z_idiv (pc := 79) X dX8_now_79 (fun v25 => ?_)
                refine z_istore_n (pc := 80) (i := 2) (lv' := [(2, zI v25), (4, zI v9), (0, zR a0), (1, zI a1), (3, zI s3.2)]) X dX8_now_80 rfl (hN _ (by decide)) rfl ?_
                refine z_iinc (pc := 81) (i := 3) (n := 1) (lv' := fun v26 => [(3, zI v26), (2, zI v25), (4, zI v9), (0, zR a0), (1, zI a1)]) 4 X dX8_now_81 rfl (hN _ (by decide)) (fun _ => rfl) (fun v26 _ _ => ?_)
                refine z_goto (pc := 84) 4 X dX8_now_84 (by decide) ?_
                refine z_pick [3, 4, 1, 0] (lv' := [(0, zR a0), (1, zI a1), (2, zI v25), (3, zI v26)]) rfl ?_
                exact z_back
  · refine z_iload_n (pc := 87) (i := 2) 0 X dX8_now_87 rfl rfl ?_
    refine z_fin (fun e9 => ?_)
    subst e9
    exact hret _ _ _ _ (by decide) (by decide) dX8_now_88 trivial
def X8_find_j15 (hp : zH) (a0 : Option Nat) (a1 : Int) (j2 : Int) : Option (Int × zH) :=
  ((zobj hp a0 9).bind fun _ => X8_no hp a0 j2 1).bind fun x3 =>
  if x3.1 = 0 then
    ((zobj x3.2 a0 9).bind fun _ => X8_now x3.2 a0 a1).bind fun x4 =>
    some (x4, x3.2)
  else
    some (0, x3.2)
def X8_find (hp : zH) (a0 : Option Nat) (a1 : Int) : Option (Int × zH) :=
  ((zobj hp a0 9).bind fun _ => X8_now hp a0 a1).bind fun x1 =>
  if x1 = (-1) then
    X8_find_j15 hp a0 a1 0
  else
    X8_find_j15 hp a0 a1 1
set_option maxRecDepth 20000 in
theorem c_X8_find (hp : zH) (a0 : Option Nat) (a1 : Int) : ∀ r, X8_find hp a0 a1 = some r → zMi yX8_find (Cond.code yX8_find cX8_find 2 (some .int) :: zALL) { frames := 1, cells := 0, slots := 0, locals := 24 } 0 0 [zR a0, zI a1] hp r.1 r.2 := by
  refine zMi_of (own := RX8) (cc := cX8_find) (maxL := 2) (ε := (Int × zH)) (res := fun r => r.1) (hp2 := fun r => r.2) (by decide) rfl (Or.inl rfl) (by exact Nat.le_of_ble_eq_true rfl) ?_
  intro K r0 X hnL hret
  have hN : ∀ i, i < 2 → i < K.2.2.2.2.2.2.2.2.2.2.2.2.2.2.1 := by rw [hnL]; exact fun _ h => h
  show zS _ _ (zJ K 0 0 0 [(0, zR a0), (1, zI a1)] [] hp)
  unfold X8_find
  refine z_aload_n (pc := 0) (i := 0) 0 X dX8_find_0 rfl rfl ?_
  refine z_aload_n (pc := 1) (i := 0) 0 X dX8_find_1 rfl rfl ?_
  refine z_iload_n (pc := 2) (i := 1) 1 X dX8_find_2 rfl rfl ?_
  refine z_callV_i (pc := 3) (cells := 0) (slots := 0) (C := RX8) (T := TX8) (N := 30) (ci := 9) [zI a1] X dX8_find_3 (c_X8_now hp a0 a1) kw_X8_203 rfl rfl ⟨rfl, rfl, ⟨by decide, by decide⟩, ⟨by decide, by decide⟩⟩ (Nat.le_of_ble_eq_true rfl) rfl (fun x1 => ?_)
  refine z_iconst (pc := 6) (z := -1) X dX8_find_6 rfl ⟨by decide, by decide⟩ ?_
  have hJ15 : ∀ (j2 : Int), zS (X8_find_j15 hp a0 a1 j2) (fun r => r = r0) (zJ K 0 0 15 [(0, zR a0), (1, zI a1)] [zI j2, zR a0] hp) := by
    intro j2
    unfold X8_find_j15
    refine z_iconst (pc := 15) (z := 1) X dX8_find_15 rfl ⟨by decide, by decide⟩ ?_
    refine z_callV_i (pc := 16) (cells := 0) (slots := 0) (C := RX8) (T := TX8) (N := 30) (ci := 9) [zI j2, zI 1] X dX8_find_16 (c_X8_no hp a0 j2 1) kw_X8_93 rfl rfl ⟨rfl, rfl, ⟨by decide, by decide⟩, ⟨by decide, by decide⟩⟩ (Nat.le_of_ble_eq_true rfl) rfl (fun x3 => ?_)
    refine z_if_eq (pc := 19) 26 X dX8_find_19 (by decide) (fun _ => ?_) (fun _ => ?_)
    · refine z_aload_n (pc := 26) (i := 0) 0 X dX8_find_26 rfl rfl ?_
      refine z_iload_n (pc := 27) (i := 1) 1 X dX8_find_27 rfl rfl ?_
      refine z_callV_i (pc := 28) (cells := 0) (slots := 0) (C := RX8) (T := TX8) (N := 30) (ci := 9) [zI a1] X dX8_find_28 (c_X8_now x3.2 a0 a1) kw_X8_203 rfl rfl ⟨rfl, rfl, ⟨by decide, by decide⟩, ⟨by decide, by decide⟩⟩ (Nat.le_of_ble_eq_true rfl) rfl (fun x4 => ?_)
      refine z_fin (fun e9 => ?_)
      subst e9
      exact hret _ _ _ _ (by decide) (by decide) dX8_find_31 trivial
    · refine z_iconst (pc := 22) (z := 0) X dX8_find_22 rfl ⟨by decide, by decide⟩ ?_
      refine z_goto (pc := 23) 31 X dX8_find_23 (by decide) ?_
      refine z_fin (fun e9 => ?_)
      subst e9
      exact hret _ _ _ _ (by decide) (by decide) dX8_find_31 trivial
  refine z_icmp_eq (pc := 7) 14 X dX8_find_7 (by decide) (fun _ => ?_) (fun _ => ?_)
  · refine z_iconst (pc := 14) (z := 0) X dX8_find_14 rfl ⟨by decide, by decide⟩ ?_
    exact hJ15 0
  · refine z_iconst (pc := 10) (z := 1) X dX8_find_10 rfl ⟨by decide, by decide⟩ ?_
    refine z_goto (pc := 11) 15 X dX8_find_11 (by decide) ?_
    exact hJ15 1
def X8_givesBack_b2 (p1 : Option Nat) (s2 : Int × zH) : Option ((Int × zH) ⊕ (zH)) :=
  if 80 ≤ s2.1 then
    some (Sum.inr (s2.2))
  else
    (zgR s2.2 p1 9 8).bind fun v4 =>
    (zgR s2.2 p1 9 20).bind fun v5 =>
    (zaI s2.2 0 v5 s2.1).bind fun v6 =>
    (zsI s2.2 0 v4 s2.1 v6).bind fun h7 =>
    (zgR h7 p1 9 9).bind fun v8 =>
    (zgR h7 p1 9 21).bind fun v9 =>
    (zaI h7 0 v9 s2.1).bind fun v10 =>
    (zsI h7 0 v8 s2.1 v10).bind fun h11 =>
    (zgR h11 p1 9 10).bind fun v12 =>
    (zgR h11 p1 9 22).bind fun v13 =>
    (zaI h11 3 v13 s2.1).bind fun v14 =>
    (zsI h11 3 v12 s2.1 v14).bind fun h15 =>
    (zgR h15 p1 9 11).bind fun v16 =>
    (zgR h15 p1 9 23).bind fun v17 =>
    (zaI h15 0 v17 s2.1).bind fun v18 =>
    (zsI h15 0 v16 s2.1 v18).bind fun h19 =>
    (zchk (s2.1 + 1)).bind fun v20 =>
    some (Sum.inl (v20, h19))
def X8_givesBack (hp : zH) (a0 : Option Nat) : Option zH :=
  (zloop (X8_givesBack_b2 a0) zN (0, hp)).bind fun e3 =>
  some e3
set_option maxRecDepth 20000 in
theorem c_X8_givesBack (hp : zH) (a0 : Option Nat) : ∀ r, X8_givesBack hp a0 = some r → zMv yX8_givesBack (Cond.code yX8_givesBack cX8_givesBack 2 none :: zALL) { frames := 0, cells := 0, slots := 0, locals := 0 } 0 0 [zR a0] hp r := by
  refine zMv_of (own := RX8) (cc := cX8_givesBack) (maxL := 2) (hp2 := fun r => r) (by decide) rfl (by exact Nat.le_of_ble_eq_true rfl) ?_
  intro K r0 X hnL hnm9 hret
  have hN : ∀ i, i < 2 → i < K.2.2.2.2.2.2.2.2.2.2.2.2.2.2.1 := by rw [hnL]; exact fun _ h => h
  show zS _ _ (zJ K 0 0 0 [(0, zR a0)] [] hp)
  unfold X8_givesBack
  refine z_iconst (pc := 0) (z := 0) X dX8_givesBack_0 rfl ⟨by decide, by decide⟩ ?_
  refine z_istore_n (pc := 1) (i := 1) (lv' := [(1, zI 0), (0, zR a0)]) X dX8_givesBack_1 rfl (hN _ (by decide)) rfl ?_
  refine z_pick [1, 0] (lv' := [(0, zR a0), (1, zI 0)]) rfl ?_
  refine z_bind (z_loop (body := X8_givesBack_b2 a0) (fun s2 : Int × zH => zJ K 0 0 2 [(0, zR a0), (1, zI s2.1)] [] s2.2) (fun e3 : zH => zJ K 0 0 62 [] [] e3) (fun s2 => ?_) zN (0, hp)) (fun e3 => ?_)
  · unfold X8_givesBack_b2
    refine z_iload_n (pc := 2) (i := 1) 1 X dX8_givesBack_2 rfl rfl ?_
    refine z_bipush (pc := 3) (z := 80) X dX8_givesBack_3 rfl ⟨by decide, by decide⟩ ?_
    refine z_icmp_ge (pc := 5) 62 X dX8_givesBack_5 (by decide) (fun _ => ?_) (fun _ => ?_)
    · refine z_pick [] (lv' := []) rfl ?_
      exact z_exit
    · refine z_aload_n (pc := 8) (i := 0) 0 X dX8_givesBack_8 rfl rfl ?_
      refine z_getR (pc := 9) (C := RX8) (T := TX8) (N := 30) (ci := 9) 8 X dX8_givesBack_9 inz_X8 rfl (by decide) fw_X8_34 (fun v4 => ?_)
      refine z_iload_n (pc := 12) (i := 1) 1 X dX8_givesBack_12 rfl rfl ?_
      refine z_aload_n (pc := 13) (i := 0) 0 X dX8_givesBack_13 rfl rfl ?_
      refine z_getR (pc := 14) (C := RX8) (T := TX8) (N := 30) (ci := 9) 20 X dX8_givesBack_14 inz_X8 rfl (by decide) fw_X8_64 (fun v5 => ?_)
      refine z_iload_n (pc := 17) (i := 1) 1 X dX8_givesBack_17 rfl rfl ?_
      refine z_iaload (pc := 18) X dX8_givesBack_18 (fun v6 => ?_)
      refine z_iastore (pc := 19) X dX8_givesBack_19 (fun h7 => ?_)
      refine z_aload_n (pc := 20) (i := 0) 0 X dX8_givesBack_20 rfl rfl ?_
      refine z_getR (pc := 21) (C := RX8) (T := TX8) (N := 30) (ci := 9) 9 X dX8_givesBack_21 inz_X8 rfl (by decide) fw_X8_37 (fun v8 => ?_)
      refine z_iload_n (pc := 24) (i := 1) 1 X dX8_givesBack_24 rfl rfl ?_
      refine z_aload_n (pc := 25) (i := 0) 0 X dX8_givesBack_25 rfl rfl ?_
      refine z_getR (pc := 26) (C := RX8) (T := TX8) (N := 30) (ci := 9) 21 X dX8_givesBack_26 inz_X8 rfl (by decide) fw_X8_67 (fun v9 => ?_)
      refine z_iload_n (pc := 29) (i := 1) 1 X dX8_givesBack_29 rfl rfl ?_
      refine z_iaload (pc := 30) X dX8_givesBack_30 (fun v10 => ?_)
      refine z_iastore (pc := 31) X dX8_givesBack_31 (fun h11 => ?_)
      refine z_aload_n (pc := 32) (i := 0) 0 X dX8_givesBack_32 rfl rfl ?_
      refine z_getR (pc := 33) (C := RX8) (T := TX8) (N := 30) (ci := 9) 10 X dX8_givesBack_33 inz_X8 rfl (by decide) fw_X8_40 (fun v12 => ?_)
      refine z_iload_n (pc := 36) (i := 1) 1 X dX8_givesBack_36 rfl rfl ?_
      refine z_aload_n (pc := 37) (i := 0) 0 X dX8_givesBack_37 rfl rfl ?_
      refine z_getR (pc := 38) (C := RX8) (T := TX8) (N := 30) (ci := 9) 22 X dX8_givesBack_38 inz_X8 rfl (by decide) fw_X8_70 (fun v13 => ?_)
      refine z_iload_n (pc := 41) (i := 1) 1 X dX8_givesBack_41 rfl rfl ?_
      refine z_caload (pc := 42) X dX8_givesBack_42 (fun v14 => ?_)
      refine z_castore (pc := 43) X dX8_givesBack_43 (fun h15 => ?_)
      refine z_aload_n (pc := 44) (i := 0) 0 X dX8_givesBack_44 rfl rfl ?_
      refine z_getR (pc := 45) (C := RX8) (T := TX8) (N := 30) (ci := 9) 11 X dX8_givesBack_45 inz_X8 rfl (by decide) fw_X8_43 (fun v16 => ?_)
      refine z_iload_n (pc := 48) (i := 1) 1 X dX8_givesBack_48 rfl rfl ?_
      refine z_aload_n (pc := 49) (i := 0) 0 X dX8_givesBack_49 rfl rfl ?_
      refine z_getR (pc := 50) (C := RX8) (T := TX8) (N := 30) (ci := 9) 23 X dX8_givesBack_50 inz_X8 rfl (by decide) fw_X8_73 (fun v17 => ?_)
      refine z_iload_n (pc := 53) (i := 1) 1 X dX8_givesBack_53 rfl rfl ?_
      refine z_iaload (pc := 54) X dX8_givesBack_54 (fun v18 => ?_)
      refine z_iastore (pc := 55) X dX8_givesBack_55 (fun h19 => ?_)
      refine z_iinc (pc := 56) (i := 1) (n := 1) (lv' := fun v20 => [(1, zI v20), (0, zR a0)]) 1 X dX8_givesBack_56 rfl (hN _ (by decide)) (fun _ => rfl) (fun v20 _ _ => ?_)
      refine z_goto (pc := 59) 2 X dX8_givesBack_59 (by decide) ?_
      refine z_pick [1, 0] (lv' := [(0, zR a0), (1, zI v20)]) rfl ?_
      exact z_back
  · refine z_fin (fun e9 => ?_)
    subst e9
    exact hret _ _ _ _ (by decide) (by decide) dX8_givesBack_62
def X8_old_j108 (a0 : Option Nat) (a1 : Int64) (a2 : Int) (a3 : Int) (h2 : zH) : Option zH :=
  (zgR h2 a0 9 15).bind fun v3 =>
  (zgI h2 a0 9 19).bind fun v4 =>
  (zsJ h2 v3 v4 a1).bind fun h5 =>
  (zgR h5 a0 9 16).bind fun v6 =>
  (zgI h5 a0 9 19).bind fun v7 =>
  (zsI h5 0 v6 v7 a2).bind fun h8 =>
  (zgR h8 a0 9 17).bind fun v9 =>
  (zgI h8 a0 9 19).bind fun v10 =>
  (zsI h8 0 v9 v10 a3).bind fun h11 =>
  (zgR h11 a0 9 18).bind fun v12 =>
  (zgI h11 a0 9 19).bind fun v13 =>
  (zgI h11 a0 9 28).bind fun v14 =>
  (zsI h11 0 v12 v13 v14).bind fun h15 =>
  (zgI h15 a0 9 19).bind fun v16 =>
  (zchk (v16 + 1)).bind fun v17 =>
  (zpI h15 a0 9 19 v17).bind fun h18 =>
  some h18
def X8_old_b20 (p19 : Option Nat) (p20 : Int64) (p21 : Int) (p22 : Int) (s23 : Int × zH) : Option ((Int × zH) ⊕ (zH)) :=
  if 200 ≤ s23.1 then
    some (Sum.inr (s23.2))
  else
    (zgR s23.2 p19 9 15).bind fun v25 =>
    (zchk (s23.1 - 1)).bind fun v26 =>
    (zgR s23.2 p19 9 15).bind fun v27 =>
    (zaJ s23.2 v27 s23.1).bind fun v28 =>
    (zsJ s23.2 v25 v26 v28).bind fun h29 =>
    (zgR h29 p19 9 16).bind fun v30 =>
    (zchk (s23.1 - 1)).bind fun v31 =>
    (zgR h29 p19 9 16).bind fun v32 =>
    (zaI h29 0 v32 s23.1).bind fun v33 =>
    (zsI h29 0 v30 v31 v33).bind fun h34 =>
    (zgR h34 p19 9 17).bind fun v35 =>
    (zchk (s23.1 - 1)).bind fun v36 =>
    (zgR h34 p19 9 17).bind fun v37 =>
    (zaI h34 0 v37 s23.1).bind fun v38 =>
    (zsI h34 0 v35 v36 v38).bind fun h39 =>
    (zgR h39 p19 9 18).bind fun v40 =>
    (zchk (s23.1 - 1)).bind fun v41 =>
    (zgR h39 p19 9 18).bind fun v42 =>
    (zaI h39 0 v42 s23.1).bind fun v43 =>
    (zsI h39 0 v40 v41 v43).bind fun h44 =>
    (zchk (s23.1 + 1)).bind fun v45 =>
    some (Sum.inl (v45, h44))
def X8_old (hp : zH) (a0 : Option Nat) (a1 : Int64) (a2 : Int) (a3 : Int) : Option zH :=
  if (zcmp a1 0) = 0 then
    some hp
  else
    (zgI hp a0 9 19).bind fun v1 =>
    if v1 = 200 then
      (zloop (X8_old_b20 a0 a1 a2 a3) zN (1, hp)).bind fun e24 =>
      (zgI e24 a0 9 19).bind fun v46 =>
      (zchk (v46 - 1)).bind fun v47 =>
      (zpI e24 a0 9 19 v47).bind fun h48 =>
      X8_old_j108 a0 a1 a2 a3 h48
    else
      X8_old_j108 a0 a1 a2 a3 hp
set_option maxRecDepth 20000 in
theorem c_X8_old (hp : zH) (a0 : Option Nat) (a1 : Int64) (a2 : Int) (a3 : Int) : ∀ r, X8_old hp a0 a1 a2 a3 = some r → zMv yX8_old (Cond.code yX8_old cX8_old 6 none :: zALL) { frames := 0, cells := 0, slots := 0, locals := 0 } 0 0 [zR a0, zL a1, zI a2, zI a3] hp r := by
  refine zMv_of (own := RX8) (cc := cX8_old) (maxL := 6) (hp2 := fun r => r) (by decide) rfl (by exact Nat.le_of_ble_eq_true rfl) ?_
  intro K r0 X hnL hnm9 hret
  have hN : ∀ i, i < 6 → i < K.2.2.2.2.2.2.2.2.2.2.2.2.2.2.1 := by rw [hnL]; exact fun _ h => h
  show zS _ _ (zJ K 0 0 0 [(0, zR a0), (1, zL a1), (3, zI a2), (4, zI a3)] [] hp)
  unfold X8_old
  refine z_lload_n (pc := 0) (i := 1) 1 X dX8_old_0 rfl rfl ?_
  refine z_lconst (pc := 1) (z := 0) X dX8_old_1 rfl ?_
  refine z_lcmp (pc := 2) X dX8_old_2 ?_
  refine z_if_ne (pc := 3) 7 X dX8_old_3 (by decide) (fun _ => ?_) (fun _ => ?_)
  · refine z_aload_n (pc := 7) (i := 0) 0 X dX8_old_7 rfl rfl ?_
    refine z_getI (pc := 8) (C := RX8) (T := TX8) (N := 30) (ci := 9) 19 X dX8_old_8 inz_X8 rfl (by decide) fw_X8_118 (fun v1 => ?_)
    refine z_sipush (pc := 11) (z := 200) X dX8_old_11 rfl ⟨by decide, by decide⟩ ?_
    have hJ108 : ∀ (h2 : zH), zS (X8_old_j108 a0 a1 a2 a3 h2) (fun r => r = r0) (zJ K 0 0 108 [(0, zR a0), (1, zL a1), (3, zI a2), (4, zI a3)] [] h2) := by
      intro h2
      unfold X8_old_j108
      refine z_aload_n (pc := 108) (i := 0) 0 X dX8_old_108 rfl rfl ?_
      refine z_getR (pc := 109) (C := RX8) (T := TX8) (N := 30) (ci := 9) 15 X dX8_old_109 inz_X8 rfl (by decide) fw_X8_52 (fun v3 => ?_)
      refine z_aload_n (pc := 112) (i := 0) 0 X dX8_old_112 rfl rfl ?_
      refine z_getI (pc := 113) (C := RX8) (T := TX8) (N := 30) (ci := 9) 19 X dX8_old_113 inz_X8 rfl (by decide) fw_X8_118 (fun v4 => ?_)
      refine z_lload_n (pc := 116) (i := 1) 1 X dX8_old_116 rfl rfl ?_
      refine z_lastore (pc := 117) X dX8_old_117 (fun h5 => ?_)
      refine z_aload_n (pc := 118) (i := 0) 0 X dX8_old_118 rfl rfl ?_
      refine z_getR (pc := 119) (C := RX8) (T := TX8) (N := 30) (ci := 9) 16 X dX8_old_119 inz_X8 rfl (by decide) fw_X8_55 (fun v6 => ?_)
      refine z_aload_n (pc := 122) (i := 0) 0 X dX8_old_122 rfl rfl ?_
      refine z_getI (pc := 123) (C := RX8) (T := TX8) (N := 30) (ci := 9) 19 X dX8_old_123 inz_X8 rfl (by decide) fw_X8_118 (fun v7 => ?_)
      refine z_iload_n (pc := 126) (i := 3) 2 X dX8_old_126 rfl rfl ?_
      refine z_iastore (pc := 127) X dX8_old_127 (fun h8 => ?_)
      refine z_aload_n (pc := 128) (i := 0) 0 X dX8_old_128 rfl rfl ?_
      refine z_getR (pc := 129) (C := RX8) (T := TX8) (N := 30) (ci := 9) 17 X dX8_old_129 inz_X8 rfl (by decide) fw_X8_58 (fun v9 => ?_)
      refine z_aload_n (pc := 132) (i := 0) 0 X dX8_old_132 rfl rfl ?_
      refine z_getI (pc := 133) (C := RX8) (T := TX8) (N := 30) (ci := 9) 19 X dX8_old_133 inz_X8 rfl (by decide) fw_X8_118 (fun v10 => ?_)
      refine z_iload (pc := 136) (i := 4) 3 X dX8_old_136 rfl ?_
      refine z_iastore (pc := 138) X dX8_old_138 (fun h11 => ?_)
      refine z_aload_n (pc := 139) (i := 0) 0 X dX8_old_139 rfl rfl ?_
      refine z_getR (pc := 140) (C := RX8) (T := TX8) (N := 30) (ci := 9) 18 X dX8_old_140 inz_X8 rfl (by decide) fw_X8_61 (fun v12 => ?_)
      refine z_aload_n (pc := 143) (i := 0) 0 X dX8_old_143 rfl rfl ?_
      refine z_getI (pc := 144) (C := RX8) (T := TX8) (N := 30) (ci := 9) 19 X dX8_old_144 inz_X8 rfl (by decide) fw_X8_118 (fun v13 => ?_)
      refine z_aload_n (pc := 147) (i := 0) 0 X dX8_old_147 rfl rfl ?_
      refine z_getI (pc := 148) (C := RX8) (T := TX8) (N := 30) (ci := 9) 28 X dX8_old_148 inz_X8 rfl (by decide) fw_X8_121 (fun v14 => ?_)
      refine z_iastore (pc := 151) X dX8_old_151 (fun h15 => ?_)
      refine z_aload_n (pc := 152) (i := 0) 0 X dX8_old_152 rfl rfl ?_
      refine z_dup (pc := 153) X dX8_old_153 rfl ?_
      refine z_getI (pc := 154) (C := RX8) (T := TX8) (N := 30) (ci := 9) 19 X dX8_old_154 inz_X8 rfl (by decide) fw_X8_118 (fun v16 => ?_)
      refine z_iconst (pc := 157) (z := 1) X dX8_old_157 rfl ⟨by decide, by decide⟩ ?_
      refine z_iadd (pc := 158) X dX8_old_158 (fun v17 _ _ => ?_)
      refine z_putI (pc := 159) (C := RX8) (T := TX8) (N := 30) (ci := 9) 19 X dX8_old_159 inz_X8 tyX8_ok nmX8 rfl (by decide) fw_X8_118 rfl rfl (fun h18 => ?_)
      refine z_fin (fun e9 => ?_)
      subst e9
      exact hret _ _ _ _ (by decide) (by decide) dX8_old_162
    refine z_icmp_ne (pc := 14) 108 X dX8_old_14 (by decide) (fun _ => ?_) (fun _ => ?_)
    · exact hJ108 hp
    · refine z_iconst (pc := 17) (z := 1) X dX8_old_17 rfl ⟨by decide, by decide⟩ ?_
      refine z_istore (pc := 18) (i := 5) (lv' := [(5, zI 1), (0, zR a0), (1, zL a1), (3, zI a2), (4, zI a3)]) X dX8_old_18 (hN _ (by decide)) rfl ?_
      refine z_pick [1, 2, 3, 4, 0] (lv' := [(0, zR a0), (1, zL a1), (3, zI a2), (4, zI a3), (5, zI 1)]) rfl ?_
      refine z_bind (z_loop (body := X8_old_b20 a0 a1 a2 a3) (fun s23 : Int × zH => zJ K 0 0 20 [(0, zR a0), (1, zL a1), (3, zI a2), (4, zI a3), (5, zI s23.1)] [] s23.2) (fun e24 : zH => zJ K 0 0 98 [(0, zR a0), (1, zL a1), (3, zI a2), (4, zI a3)] [] e24) (fun s23 => ?_) zN (1, hp)) (fun e24 => ?_)
      · unfold X8_old_b20
        refine z_iload (pc := 20) (i := 5) 4 X dX8_old_20 rfl ?_
        refine z_sipush (pc := 22) (z := 200) X dX8_old_22 rfl ⟨by decide, by decide⟩ ?_
        refine z_icmp_ge (pc := 25) 98 X dX8_old_25 (by decide) (fun _ => ?_) (fun _ => ?_)
        · refine z_pick [0, 1, 2, 3] (lv' := [(0, zR a0), (1, zL a1), (3, zI a2), (4, zI a3)]) rfl ?_
          exact z_exit
        · refine z_aload_n (pc := 28) (i := 0) 0 X dX8_old_28 rfl rfl ?_
          refine z_getR (pc := 29) (C := RX8) (T := TX8) (N := 30) (ci := 9) 15 X dX8_old_29 inz_X8 rfl (by decide) fw_X8_52 (fun v25 => ?_)
          refine z_iload (pc := 32) (i := 5) 4 X dX8_old_32 rfl ?_
          refine z_iconst (pc := 34) (z := 1) X dX8_old_34 rfl ⟨by decide, by decide⟩ ?_
          refine z_isub (pc := 35) X dX8_old_35 (fun v26 _ _ => ?_)
          refine z_aload_n (pc := 36) (i := 0) 0 X dX8_old_36 rfl rfl ?_
          refine z_getR (pc := 37) (C := RX8) (T := TX8) (N := 30) (ci := 9) 15 X dX8_old_37 inz_X8 rfl (by decide) fw_X8_52 (fun v27 => ?_)
          refine z_iload (pc := 40) (i := 5) 4 X dX8_old_40 rfl ?_
          refine z_laload (pc := 42) X dX8_old_42 (fun v28 => ?_)
          refine z_lastore (pc := 43) X dX8_old_43 (fun h29 => ?_)
          refine z_aload_n (pc := 44) (i := 0) 0 X dX8_old_44 rfl rfl ?_
          refine z_getR (pc := 45) (C := RX8) (T := TX8) (N := 30) (ci := 9) 16 X dX8_old_45 inz_X8 rfl (by decide) fw_X8_55 (fun v30 => ?_)
          refine z_iload (pc := 48) (i := 5) 4 X dX8_old_48 rfl ?_
          refine z_iconst (pc := 50) (z := 1) X dX8_old_50 rfl ⟨by decide, by decide⟩ ?_
          refine z_isub (pc := 51) X dX8_old_51 (fun v31 _ _ => ?_)
          refine z_aload_n (pc := 52) (i := 0) 0 X dX8_old_52 rfl rfl ?_
          refine z_getR (pc := 53) (C := RX8) (T := TX8) (N := 30) (ci := 9) 16 X dX8_old_53 inz_X8 rfl (by decide) fw_X8_55 (fun v32 => ?_)
          refine z_iload (pc := 56) (i := 5) 4 X dX8_old_56 rfl ?_
          refine z_iaload (pc := 58) X dX8_old_58 (fun v33 => ?_)
          refine z_iastore (pc := 59) X dX8_old_59 (fun h34 => ?_)
          refine z_aload_n (pc := 60) (i := 0) 0 X dX8_old_60 rfl rfl ?_
          refine z_getR (pc := 61) (C := RX8) (T := TX8) (N := 30) (ci := 9) 17 X dX8_old_61 inz_X8 rfl (by decide) fw_X8_58 (fun v35 => ?_)
          refine z_iload (pc := 64) (i := 5) 4 X dX8_old_64 rfl ?_
          refine z_iconst (pc := 66) (z := 1) X dX8_old_66 rfl ⟨by decide, by decide⟩ ?_
          refine z_isub (pc := 67) X dX8_old_67 (fun v36 _ _ => ?_)
          refine z_aload_n (pc := 68) (i := 0) 0 X dX8_old_68 rfl rfl ?_
          refine z_getR (pc := 69) (C := RX8) (T := TX8) (N := 30) (ci := 9) 17 X dX8_old_69 inz_X8 rfl (by decide) fw_X8_58 (fun v37 => ?_)
          refine z_iload (pc := 72) (i := 5) 4 X dX8_old_72 rfl ?_
          refine z_iaload (pc := 74) X dX8_old_74 (fun v38 => ?_)
          refine z_iastore (pc := 75) X dX8_old_75 (fun h39 => ?_)
          refine z_aload_n (pc := 76) (i := 0) 0 X dX8_old_76 rfl rfl ?_
          refine z_getR (pc := 77) (C := RX8) (T := TX8) (N := 30) (ci := 9) 18 X dX8_old_77 inz_X8 rfl (by decide) fw_X8_61 (fun v40 => ?_)
          refine z_iload (pc := 80) (i := 5) 4 X dX8_old_80 rfl ?_
          refine z_iconst (pc := 82) (z := 1) X dX8_old_82 rfl ⟨by decide, by decide⟩ ?_
          refine z_isub (pc := 83) X dX8_old_83 (fun v41 _ _ => ?_)
          refine z_aload_n (pc := 84) (i := 0) 0 X dX8_old_84 rfl rfl ?_
          refine z_getR (pc := 85) (C := RX8) (T := TX8) (N := 30) (ci := 9) 18 X dX8_old_85 inz_X8 rfl (by decide) fw_X8_61 (fun v42 => ?_)
          refine z_iload (pc := 88) (i := 5) 4 X dX8_old_88 rfl ?_
          refine z_iaload (pc := 90) X dX8_old_90 (fun v43 => ?_)
          refine z_iastore (pc := 91) X dX8_old_91 (fun h44 => ?_)
          refine z_iinc (pc := 92) (i := 5) (n := 1) (lv' := fun v45 => [(5, zI v45), (0, zR a0), (1, zL a1), (3, zI a2), (4, zI a3)]) 4 X dX8_old_92 rfl (hN _ (by decide)) (fun _ => rfl) (fun v45 _ _ => ?_)
          refine z_goto (pc := 95) 20 X dX8_old_95 (by decide) ?_
          refine z_pick [1, 2, 3, 4, 0] (lv' := [(0, zR a0), (1, zL a1), (3, zI a2), (4, zI a3), (5, zI v45)]) rfl ?_
          exact z_back
      · refine z_aload_n (pc := 98) (i := 0) 0 X dX8_old_98 rfl rfl ?_
        refine z_dup (pc := 99) X dX8_old_99 rfl ?_
        refine z_getI (pc := 100) (C := RX8) (T := TX8) (N := 30) (ci := 9) 19 X dX8_old_100 inz_X8 rfl (by decide) fw_X8_118 (fun v46 => ?_)
        refine z_iconst (pc := 103) (z := 1) X dX8_old_103 rfl ⟨by decide, by decide⟩ ?_
        refine z_isub (pc := 104) X dX8_old_104 (fun v47 _ _ => ?_)
        refine z_putI (pc := 105) (C := RX8) (T := TX8) (N := 30) (ci := 9) 19 X dX8_old_105 inz_X8 tyX8_ok nmX8 rfl (by decide) fw_X8_118 rfl rfl (fun h48 => ?_)
        exact hJ108 h48
  · refine z_fin (fun e9 => ?_)
    subst e9
    exact hret _ _ _ _ (by decide) (by decide) dX8_old_6
def X8_leaves (hp : zH) (a0 : Option Nat) (a1 : Int) : Option zH :=
  (zgR hp a0 9 8).bind fun v1 =>
  (zaI hp 0 v1 a1).bind fun v2 =>
  if v2 = (-1) then
    some hp
  else
    (zgR hp a0 9 0).bind fun v3 =>
    (zaJ hp v3 v2).bind fun v4 =>
    (zgR hp a0 9 11).bind fun v5 =>
    (zaI hp 0 v5 a1).bind fun v6 =>
    (zdiv a1 2).bind fun v7 =>
    ((zobj hp a0 9).bind fun _ => X8_old hp a0 v4 v6 v7).bind fun x8 =>
    (zgR x8 a0 9 1).bind fun v9 =>
    (zaJ x8 v9 v2).bind fun v10 =>
    (zgR x8 a0 9 11).bind fun v11 =>
    (zaI x8 0 v11 a1).bind fun v12 =>
    (zdiv a1 2).bind fun v13 =>
    ((zobj x8 a0 9).bind fun _ => X8_old x8 a0 v10 v12 v13).bind fun x14 =>
    (zgR x14 a0 9 8).bind fun v15 =>
    (zsI x14 0 v15 a1 ((-1))).bind fun h16 =>
    (zgR h16 a0 9 11).bind fun v17 =>
    (zsI h16 0 v17 a1 ((-1))).bind fun h18 =>
    some h18
set_option maxRecDepth 20000 in
theorem c_X8_leaves (hp : zH) (a0 : Option Nat) (a1 : Int) : ∀ r, X8_leaves hp a0 a1 = some r → zMv yX8_leaves (Cond.code yX8_leaves cX8_leaves 3 none :: zALL) { frames := 1, cells := 0, slots := 0, locals := 25 } 0 0 [zR a0, zI a1] hp r := by
  refine zMv_of (own := RX8) (cc := cX8_leaves) (maxL := 3) (hp2 := fun r => r) (by decide) rfl (by exact Nat.le_of_ble_eq_true rfl) ?_
  intro K r0 X hnL hnm9 hret
  have hN : ∀ i, i < 3 → i < K.2.2.2.2.2.2.2.2.2.2.2.2.2.2.1 := by rw [hnL]; exact fun _ h => h
  show zS _ _ (zJ K 0 0 0 [(0, zR a0), (1, zI a1)] [] hp)
  unfold X8_leaves
  refine z_aload_n (pc := 0) (i := 0) 0 X dX8_leaves_0 rfl rfl ?_
  refine z_getR (pc := 1) (C := RX8) (T := TX8) (N := 30) (ci := 9) 8 X dX8_leaves_1 inz_X8 rfl (by decide) fw_X8_34 (fun v1 => ?_)
  refine z_iload_n (pc := 4) (i := 1) 1 X dX8_leaves_4 rfl rfl ?_
  refine z_iaload (pc := 5) X dX8_leaves_5 (fun v2 => ?_)
  refine z_istore_n (pc := 6) (i := 2) (lv' := [(2, zI v2), (0, zR a0), (1, zI a1)]) X dX8_leaves_6 rfl (hN _ (by decide)) rfl ?_
  refine z_iload_n (pc := 7) (i := 2) 0 X dX8_leaves_7 rfl rfl ?_
  refine z_iconst (pc := 8) (z := -1) X dX8_leaves_8 rfl ⟨by decide, by decide⟩ ?_
  refine z_icmp_ne (pc := 9) 13 X dX8_leaves_9 (by decide) (fun _ => ?_) (fun _ => ?_)
  · refine z_aload_n (pc := 13) (i := 0) 1 X dX8_leaves_13 rfl rfl ?_
    refine z_aload_n (pc := 14) (i := 0) 1 X dX8_leaves_14 rfl rfl ?_
    refine z_getR (pc := 15) (C := RX8) (T := TX8) (N := 30) (ci := 9) 0 X dX8_leaves_15 inz_X8 rfl (by decide) fw_X8_7 (fun v3 => ?_)
    refine z_iload_n (pc := 18) (i := 2) 0 X dX8_leaves_18 rfl rfl ?_
    refine z_laload (pc := 19) X dX8_leaves_19 (fun v4 => ?_)
    refine z_aload_n (pc := 20) (i := 0) 1 X dX8_leaves_20 rfl rfl ?_
    refine z_getR (pc := 21) (C := RX8) (T := TX8) (N := 30) (ci := 9) 11 X dX8_leaves_21 inz_X8 rfl (by decide) fw_X8_43 (fun v5 => ?_)
    refine z_iload_n (pc := 24) (i := 1) 2 X dX8_leaves_24 rfl rfl ?_
    refine z_iaload (pc := 25) X dX8_leaves_25 (fun v6 => ?_)
    refine z_iload_n (pc := 26) (i := 1) 2 X dX8_leaves_26 rfl rfl ?_
    refine z_iconst (pc := 27) (z := 2) X dX8_leaves_27 rfl ⟨by decide, by decide⟩ ?_
    refine z_idiv (pc := 28) X dX8_leaves_28 (fun v7 => ?_)
    refine z_callV_v (pc := 29) (cells := 0) (slots := 0) (C := RX8) (T := TX8) (N := 30) (ci := 9) [zL v4, zI v6, zI v7] X dX8_leaves_29 (c_X8_old hp a0 v4 v6 v7) kw_X8_128 rfl rfl ⟨rfl, rfl, ⟨by decide, by decide⟩, ⟨by decide, by decide⟩⟩ (Nat.le_of_ble_eq_true rfl) rfl (fun x8 => ?_)
    refine z_aload_n (pc := 32) (i := 0) 1 X dX8_leaves_32 rfl rfl ?_
    refine z_aload_n (pc := 33) (i := 0) 1 X dX8_leaves_33 rfl rfl ?_
    refine z_getR (pc := 34) (C := RX8) (T := TX8) (N := 30) (ci := 9) 1 X dX8_leaves_34 inz_X8 rfl (by decide) fw_X8_13 (fun v9 => ?_)
    refine z_iload_n (pc := 37) (i := 2) 0 X dX8_leaves_37 rfl rfl ?_
    refine z_laload (pc := 38) X dX8_leaves_38 (fun v10 => ?_)
    refine z_aload_n (pc := 39) (i := 0) 1 X dX8_leaves_39 rfl rfl ?_
    refine z_getR (pc := 40) (C := RX8) (T := TX8) (N := 30) (ci := 9) 11 X dX8_leaves_40 inz_X8 rfl (by decide) fw_X8_43 (fun v11 => ?_)
    refine z_iload_n (pc := 43) (i := 1) 2 X dX8_leaves_43 rfl rfl ?_
    refine z_iaload (pc := 44) X dX8_leaves_44 (fun v12 => ?_)
    refine z_iload_n (pc := 45) (i := 1) 2 X dX8_leaves_45 rfl rfl ?_
    refine z_iconst (pc := 46) (z := 2) X dX8_leaves_46 rfl ⟨by decide, by decide⟩ ?_
    refine z_idiv (pc := 47) X dX8_leaves_47 (fun v13 => ?_)
    refine z_callV_v (pc := 48) (cells := 0) (slots := 0) (C := RX8) (T := TX8) (N := 30) (ci := 9) [zL v10, zI v12, zI v13] X dX8_leaves_48 (c_X8_old x8 a0 v10 v12 v13) kw_X8_128 rfl rfl ⟨rfl, rfl, ⟨by decide, by decide⟩, ⟨by decide, by decide⟩⟩ (Nat.le_of_ble_eq_true rfl) rfl (fun x14 => ?_)
    refine z_aload_n (pc := 51) (i := 0) 1 X dX8_leaves_51 rfl rfl ?_
    refine z_getR (pc := 52) (C := RX8) (T := TX8) (N := 30) (ci := 9) 8 X dX8_leaves_52 inz_X8 rfl (by decide) fw_X8_34 (fun v15 => ?_)
    refine z_iload_n (pc := 55) (i := 1) 2 X dX8_leaves_55 rfl rfl ?_
    refine z_iconst (pc := 56) (z := -1) X dX8_leaves_56 rfl ⟨by decide, by decide⟩ ?_
    refine z_iastore (pc := 57) X dX8_leaves_57 (fun h16 => ?_)
    refine z_aload_n (pc := 58) (i := 0) 1 X dX8_leaves_58 rfl rfl ?_
    refine z_getR (pc := 59) (C := RX8) (T := TX8) (N := 30) (ci := 9) 11 X dX8_leaves_59 inz_X8 rfl (by decide) fw_X8_43 (fun v17 => ?_)
    refine z_iload_n (pc := 62) (i := 1) 2 X dX8_leaves_62 rfl rfl ?_
    refine z_iconst (pc := 63) (z := -1) X dX8_leaves_63 rfl ⟨by decide, by decide⟩ ?_
    refine z_iastore (pc := 64) X dX8_leaves_64 (fun h18 => ?_)
    refine z_fin (fun e9 => ?_)
    subst e9
    exact hret _ _ _ _ (by decide) (by decide) dX8_leaves_65
  · refine z_fin (fun e9 => ?_)
    subst e9
    exact hret _ _ _ _ (by decide) (by decide) dX8_leaves_12
def X8_goes (hp : zH) (a0 : Option Nat) (a1 : Int) (a2 : Int) : Option zH :=
  (zchk (2 * a1)).bind fun v1 =>
  ((zobj hp a0 9).bind fun _ => X8_leaves hp a0 v1).bind fun x2 =>
  (zchk (2 * a1)).bind fun v3 =>
  (zchk (v3 + 1)).bind fun v4 =>
  ((zobj x2 a0 9).bind fun _ => X8_leaves x2 a0 v4).bind fun x5 =>
  (zgR x5 a0 9 12).bind fun v6 =>
  (zsI x5 2 v6 a1 1).bind fun h7 =>
  (zgR h7 a0 9 13).bind fun v8 =>
  (zsI h7 0 v8 a1 a2).bind fun h9 =>
  some h9
set_option maxRecDepth 20000 in
theorem c_X8_goes (hp : zH) (a0 : Option Nat) (a1 : Int) (a2 : Int) : ∀ r, X8_goes hp a0 a1 a2 = some r → zMv yX8_goes (Cond.code yX8_goes cX8_goes 3 none :: zALL) { frames := 2, cells := 0, slots := 0, locals := 47 } 0 0 [zR a0, zI a1, zI a2] hp r := by
  refine zMv_of (own := RX8) (cc := cX8_goes) (maxL := 3) (hp2 := fun r => r) (by decide) rfl (by exact Nat.le_of_ble_eq_true rfl) ?_
  intro K r0 X hnL hnm9 hret
  have hN : ∀ i, i < 3 → i < K.2.2.2.2.2.2.2.2.2.2.2.2.2.2.1 := by rw [hnL]; exact fun _ h => h
  show zS _ _ (zJ K 0 0 0 [(0, zR a0), (1, zI a1), (2, zI a2)] [] hp)
  unfold X8_goes
  refine z_aload_n (pc := 0) (i := 0) 0 X dX8_goes_0 rfl rfl ?_
  refine z_iconst (pc := 1) (z := 2) X dX8_goes_1 rfl ⟨by decide, by decide⟩ ?_
  refine z_iload_n (pc := 2) (i := 1) 1 X dX8_goes_2 rfl rfl ?_
  refine z_imul (pc := 3) X dX8_goes_3 (fun v1 _ _ => ?_)
  refine z_callV_v (pc := 4) (cells := 0) (slots := 0) (C := RX8) (T := TX8) (N := 30) (ci := 9) [zI v1] X dX8_goes_4 (c_X8_leaves hp a0 v1) kw_X8_172 rfl rfl ⟨rfl, rfl, ⟨by decide, by decide⟩, ⟨by decide, by decide⟩⟩ (Nat.le_of_ble_eq_true rfl) rfl (fun x2 => ?_)
  refine z_aload_n (pc := 7) (i := 0) 0 X dX8_goes_7 rfl rfl ?_
  refine z_iconst (pc := 8) (z := 2) X dX8_goes_8 rfl ⟨by decide, by decide⟩ ?_
  refine z_iload_n (pc := 9) (i := 1) 1 X dX8_goes_9 rfl rfl ?_
  refine z_imul (pc := 10) X dX8_goes_10 (fun v3 _ _ => ?_)
  refine z_iconst (pc := 11) (z := 1) X dX8_goes_11 rfl ⟨by decide, by decide⟩ ?_
  refine z_iadd (pc := 12) X dX8_goes_12 (fun v4 _ _ => ?_)
  refine z_callV_v (pc := 13) (cells := 0) (slots := 0) (C := RX8) (T := TX8) (N := 30) (ci := 9) [zI v4] X dX8_goes_13 (c_X8_leaves x2 a0 v4) kw_X8_172 rfl rfl ⟨rfl, rfl, ⟨by decide, by decide⟩, ⟨by decide, by decide⟩⟩ (Nat.le_of_ble_eq_true rfl) rfl (fun x5 => ?_)
  refine z_aload_n (pc := 16) (i := 0) 0 X dX8_goes_16 rfl rfl ?_
  refine z_getR (pc := 17) (C := RX8) (T := TX8) (N := 30) (ci := 9) 12 X dX8_goes_17 inz_X8 rfl (by decide) fw_X8_46 (fun v6 => ?_)
  refine z_iload_n (pc := 20) (i := 1) 1 X dX8_goes_20 rfl rfl ?_
  refine z_iconst (pc := 21) (z := 1) X dX8_goes_21 rfl ⟨by decide, by decide⟩ ?_
  refine z_zastore (pc := 22) X dX8_goes_22 (fun h7 => ?_)
  refine z_aload_n (pc := 23) (i := 0) 0 X dX8_goes_23 rfl rfl ?_
  refine z_getR (pc := 24) (C := RX8) (T := TX8) (N := 30) (ci := 9) 13 X dX8_goes_24 inz_X8 rfl (by decide) fw_X8_49 (fun v8 => ?_)
  refine z_iload_n (pc := 27) (i := 1) 1 X dX8_goes_27 rfl rfl ?_
  refine z_iload_n (pc := 28) (i := 2) 2 X dX8_goes_28 rfl rfl ?_
  refine z_iastore (pc := 29) X dX8_goes_29 (fun h9 => ?_)
  refine z_fin (fun e9 => ?_)
  subst e9
  exact hret _ _ _ _ (by decide) (by decide) dX8_goes_30
def X8_goneShare_b4 (p1 : Option Nat) (h3 : zH) (s2 : Int × Int) : Option ((Int × Int) ⊕ (Int)) :=
  (zgI h3 p1 9 14).bind fun v5 =>
  if v5 ≤ s2.2 then
    some (Sum.inr (s2.1))
  else
    (zgR h3 p1 9 12).bind fun v6 =>
    (zaI h3 2 v6 s2.2).bind fun v7 =>
    if v7 = 0 then
      (zchk (s2.1 + 0)).bind fun v8 =>
      (zchk (s2.2 + 1)).bind fun v9 =>
      some (Sum.inl (v8, v9))
    else
      (zchk (s2.1 + 1)).bind fun v10 =>
      (zchk (s2.2 + 1)).bind fun v11 =>
      some (Sum.inl (v10, v11))
def X8_goneShare_j48 (hp : zH) (a0 : Option Nat) (e4 : Int) (j13 : Int) : Option (UInt32 × zH) :=
  ((zobj hp a0 9).bind fun _ => X8_no hp a0 j13 1).bind fun x14 =>
  if x14.1 = 0 then
    (zgI x14.2 a0 9 14).bind fun v15 =>
    (zfdiv (zi2f e4) (zi2f v15)).bind fun v16 =>
    some (v16, x14.2)
  else
    some (FP.fconst0, x14.2)
def X8_goneShare (hp : zH) (a0 : Option Nat) : Option (UInt32 × zH) :=
  (zloop (X8_goneShare_b4 a0 hp) zN (0, 0)).bind fun e4 =>
  (zgI hp a0 9 14).bind fun v12 =>
  if v12 ≤ 0 then
    X8_goneShare_j48 hp a0 e4 0
  else
    X8_goneShare_j48 hp a0 e4 1
set_option maxRecDepth 20000 in
theorem c_X8_goneShare (hp : zH) (a0 : Option Nat) : ∀ r, X8_goneShare hp a0 = some r → zMf yX8_goneShare (Cond.code yX8_goneShare cX8_goneShare 3 (some .float) :: zALL) { frames := 1, cells := 0, slots := 0, locals := 22 } 0 0 [zR a0] hp r.1 r.2 := by
  refine zMf_of (own := RX8) (cc := cX8_goneShare) (maxL := 3) (ε := (UInt32 × zH)) (res := fun r => r.1) (hp2 := fun r => r.2) (by decide) rfl (by exact Nat.le_of_ble_eq_true rfl) ?_
  intro K r0 X hnL hret
  have hN : ∀ i, i < 3 → i < K.2.2.2.2.2.2.2.2.2.2.2.2.2.2.1 := by rw [hnL]; exact fun _ h => h
  show zS _ _ (zJ K 0 0 0 [(0, zR a0)] [] hp)
  unfold X8_goneShare
  refine z_iconst (pc := 0) (z := 0) X dX8_goneShare_0 rfl ⟨by decide, by decide⟩ ?_
  refine z_istore_n (pc := 1) (i := 1) (lv' := [(1, zI 0), (0, zR a0)]) X dX8_goneShare_1 rfl (hN _ (by decide)) rfl ?_
  refine z_iconst (pc := 2) (z := 0) X dX8_goneShare_2 rfl ⟨by decide, by decide⟩ ?_
  refine z_istore_n (pc := 3) (i := 2) (lv' := [(2, zI 0), (1, zI 0), (0, zR a0)]) X dX8_goneShare_3 rfl (hN _ (by decide)) rfl ?_
  refine z_pick [2, 1, 0] (lv' := [(0, zR a0), (1, zI 0), (2, zI 0)]) rfl ?_
  refine z_bind (z_loop (body := X8_goneShare_b4 a0 hp) (fun s2 : Int × Int => zJ K 0 0 4 [(0, zR a0), (1, zI s2.1), (2, zI s2.2)] [] hp) (fun e4 : Int => zJ K 0 0 35 [(0, zR a0), (1, zI e4)] [] hp) (fun s2 => ?_) zN (0, 0)) (fun e4 => ?_)
  · unfold X8_goneShare_b4
    refine z_iload_n (pc := 4) (i := 2) 2 X dX8_goneShare_4 rfl rfl ?_
    refine z_aload_n (pc := 5) (i := 0) 0 X dX8_goneShare_5 rfl rfl ?_
    refine z_getI (pc := 6) (C := RX8) (T := TX8) (N := 30) (ci := 9) 14 X dX8_goneShare_6 inz_X8 rfl (by decide) fw_X8_90 (fun v5 => ?_)
    refine z_icmp_ge (pc := 9) 35 X dX8_goneShare_9 (by decide) (fun _ => ?_) (fun _ => ?_)
    · refine z_pick [0, 1] (lv' := [(0, zR a0), (1, zI s2.1)]) rfl ?_
      exact z_exit
    · refine z_iload_n (pc := 12) (i := 1) 1 X dX8_goneShare_12 rfl rfl ?_
      refine z_aload_n (pc := 13) (i := 0) 0 X dX8_goneShare_13 rfl rfl ?_
      refine z_getR (pc := 14) (C := RX8) (T := TX8) (N := 30) (ci := 9) 12 X dX8_goneShare_14 inz_X8 rfl (by decide) fw_X8_46 (fun v6 => ?_)
      refine z_iload_n (pc := 17) (i := 2) 2 X dX8_goneShare_17 rfl rfl ?_
      refine z_zaload (pc := 18) X dX8_goneShare_18 (fun v7 => ?_)
      refine z_if_eq (pc := 19) 26 X dX8_goneShare_19 (by decide) (fun _ => ?_) (fun _ => ?_)
      · refine z_iconst (pc := 26) (z := 0) X dX8_goneShare_26 rfl ⟨by decide, by decide⟩ ?_
        refine z_iadd (pc := 27) X dX8_goneShare_27 (fun v8 _ _ => ?_)
        refine z_istore_n (pc := 28) (i := 1) (lv' := [(1, zI v8), (0, zR a0), (2, zI s2.2)]) X dX8_goneShare_28 rfl (hN _ (by decide)) rfl ?_
        refine z_iinc (pc := 29) (i := 2) (n := 1) (lv' := fun v9 => [(2, zI v9), (1, zI v8), (0, zR a0)]) 2 X dX8_goneShare_29 rfl (hN _ (by decide)) (fun _ => rfl) (fun v9 _ _ => ?_)
        refine z_goto (pc := 32) 4 X dX8_goneShare_32 (by decide) ?_
        refine z_pick [2, 1, 0] (lv' := [(0, zR a0), (1, zI v8), (2, zI v9)]) rfl ?_
        exact z_back
      · refine z_iconst (pc := 22) (z := 1) X dX8_goneShare_22 rfl ⟨by decide, by decide⟩ ?_
        refine z_goto (pc := 23) 27 X dX8_goneShare_23 (by decide) ?_
        refine z_iadd (pc := 27) X dX8_goneShare_27 (fun v10 _ _ => ?_)
        refine z_istore_n (pc := 28) (i := 1) (lv' := [(1, zI v10), (0, zR a0), (2, zI s2.2)]) X dX8_goneShare_28 rfl (hN _ (by decide)) rfl ?_
        refine z_iinc (pc := 29) (i := 2) (n := 1) (lv' := fun v11 => [(2, zI v11), (1, zI v10), (0, zR a0)]) 2 X dX8_goneShare_29 rfl (hN _ (by decide)) (fun _ => rfl) (fun v11 _ _ => ?_)
        refine z_goto (pc := 32) 4 X dX8_goneShare_32 (by decide) ?_
        refine z_pick [2, 1, 0] (lv' := [(0, zR a0), (1, zI v10), (2, zI v11)]) rfl ?_
        exact z_back
  · refine z_aload_n (pc := 35) (i := 0) 0 X dX8_goneShare_35 rfl rfl ?_
    refine z_aload_n (pc := 36) (i := 0) 0 X dX8_goneShare_36 rfl rfl ?_
    refine z_getI (pc := 37) (C := RX8) (T := TX8) (N := 30) (ci := 9) 14 X dX8_goneShare_37 inz_X8 rfl (by decide) fw_X8_90 (fun v12 => ?_)
    have hJ48 : ∀ (j13 : Int), zS (X8_goneShare_j48 hp a0 e4 j13) (fun r => r = r0) (zJ K 0 0 48 [(0, zR a0), (1, zI e4)] [zI j13, zR a0] hp) := by
      intro j13
      unfold X8_goneShare_j48
      refine z_iconst (pc := 48) (z := 1) X dX8_goneShare_48 rfl ⟨by decide, by decide⟩ ?_
      refine z_callV_i (pc := 49) (cells := 0) (slots := 0) (C := RX8) (T := TX8) (N := 30) (ci := 9) [zI j13, zI 1] X dX8_goneShare_49 (c_X8_no hp a0 j13 1) kw_X8_93 rfl rfl ⟨rfl, rfl, ⟨by decide, by decide⟩, ⟨by decide, by decide⟩⟩ (Nat.le_of_ble_eq_true rfl) rfl (fun x14 => ?_)
      refine z_if_eq (pc := 52) 59 X dX8_goneShare_52 (by decide) (fun _ => ?_) (fun _ => ?_)
      · refine z_iload_n (pc := 59) (i := 1) 1 X dX8_goneShare_59 rfl rfl ?_
        refine z_i2f (pc := 60) X dX8_goneShare_60 ?_
        refine z_aload_n (pc := 61) (i := 0) 0 X dX8_goneShare_61 rfl rfl ?_
        refine z_getI (pc := 62) (C := RX8) (T := TX8) (N := 30) (ci := 9) 14 X dX8_goneShare_62 inz_X8 rfl (by decide) fw_X8_90 (fun v15 => ?_)
        refine z_i2f (pc := 65) X dX8_goneShare_65 ?_
        refine z_fdiv (pc := 66) X dX8_goneShare_66 (fun v16 => ?_)
        refine z_fin (fun e9 => ?_)
        subst e9
        exact hret _ _ _ _ (by decide) (by decide) dX8_goneShare_67
      · refine z_fconst (pc := 55) X dX8_goneShare_55 ?_
        refine z_goto (pc := 56) 67 X dX8_goneShare_56 (by decide) ?_
        refine z_fin (fun e9 => ?_)
        subst e9
        exact hret _ _ _ _ (by decide) (by decide) dX8_goneShare_67
    refine z_if_le (pc := 40) 47 X dX8_goneShare_40 (by decide) (fun _ => ?_) (fun _ => ?_)
    · refine z_iconst (pc := 47) (z := 0) X dX8_goneShare_47 rfl ⟨by decide, by decide⟩ ?_
      exact hJ48 0
    · refine z_iconst (pc := 43) (z := 1) X dX8_goneShare_43 rfl ⟨by decide, by decide⟩ ?_
      refine z_goto (pc := 44) 48 X dX8_goneShare_44 (by decide) ?_
      exact hJ48 1
def X8_isAhead (hp : zH) (a0 : Option Nat) (a1 : Int) (a2 : Int) : Option Int :=
  (zgR hp a0 9 10).bind fun v1 =>
  (zaI hp 3 v1 a1).bind fun v2 =>
  (zgR hp a0 9 10).bind fun v3 =>
  (zaI hp 3 v3 a2).bind fun v4 =>
  if v2 = v4 then
    (zgR hp a0 9 9).bind fun v5 =>
    (zaI hp 0 v5 a1).bind fun v6 =>
    (zgR hp a0 9 9).bind fun v7 =>
    (zaI hp 0 v7 a2).bind fun v8 =>
    if v6 = v8 then
      (zdiv a1 2).bind fun v9 =>
      (zdiv a2 2).bind fun v10 =>
      if v10 ≤ v9 then
        some 0
      else
        some 1
    else
      (zgR hp a0 9 10).bind fun v11 =>
      (zaI hp 3 v11 a1).bind fun v12 =>
      if v12 = 108 then
        (zgR hp a0 9 9).bind fun v17 =>
        (zaI hp 0 v17 a1).bind fun v18 =>
        (zgR hp a0 9 9).bind fun v19 =>
        (zaI hp 0 v19 a2).bind fun v20 =>
        if v20 ≤ v18 then
          some 0
        else
          some 1
      else
        (zgR hp a0 9 9).bind fun v13 =>
        (zaI hp 0 v13 a1).bind fun v14 =>
        (zgR hp a0 9 9).bind fun v15 =>
        (zaI hp 0 v15 a2).bind fun v16 =>
        if v14 ≤ v16 then
          some 0
        else
          some 1
  else
    (zgR hp a0 9 10).bind fun v21 =>
    (zaI hp 3 v21 a1).bind fun v22 =>
    if v22 = 108 then
      some 1
    else
      some 0
set_option maxRecDepth 20000 in
theorem c_X8_isAhead (hp : zH) (a0 : Option Nat) (a1 : Int) (a2 : Int) : ∀ r, X8_isAhead hp a0 a1 a2 = some r → zMi yX8_isAhead (Cond.code yX8_isAhead cX8_isAhead 3 (some .boolean) :: zALL) { frames := 0, cells := 0, slots := 0, locals := 0 } 0 0 [zR a0, zI a1, zI a2] hp r hp := by
  refine zMi_of (own := RX8) (cc := cX8_isAhead) (maxL := 3) (res := fun r => r) (hp2 := fun _ => hp) (by decide) rfl (Or.inr (Or.inl rfl)) (by exact Nat.le_of_ble_eq_true rfl) ?_
  intro K r0 X hnL hret
  have hN : ∀ i, i < 3 → i < K.2.2.2.2.2.2.2.2.2.2.2.2.2.2.1 := by rw [hnL]; exact fun _ h => h
  show zS _ _ (zJ K 0 0 0 [(0, zR a0), (1, zI a1), (2, zI a2)] [] hp)
  unfold X8_isAhead
  refine z_aload_n (pc := 0) (i := 0) 0 X dX8_isAhead_0 rfl rfl ?_
  refine z_getR (pc := 1) (C := RX8) (T := TX8) (N := 30) (ci := 9) 10 X dX8_isAhead_1 inz_X8 rfl (by decide) fw_X8_40 (fun v1 => ?_)
  refine z_iload_n (pc := 4) (i := 1) 1 X dX8_isAhead_4 rfl rfl ?_
  refine z_caload (pc := 5) X dX8_isAhead_5 (fun v2 => ?_)
  refine z_aload_n (pc := 6) (i := 0) 0 X dX8_isAhead_6 rfl rfl ?_
  refine z_getR (pc := 7) (C := RX8) (T := TX8) (N := 30) (ci := 9) 10 X dX8_isAhead_7 inz_X8 rfl (by decide) fw_X8_40 (fun v3 => ?_)
  refine z_iload_n (pc := 10) (i := 2) 2 X dX8_isAhead_10 rfl rfl ?_
  refine z_caload (pc := 11) X dX8_isAhead_11 (fun v4 => ?_)
  refine z_icmp_eq (pc := 12) 32 X dX8_isAhead_12 (by decide) (fun _ => ?_) (fun _ => ?_)
  · refine z_aload_n (pc := 32) (i := 0) 0 X dX8_isAhead_32 rfl rfl ?_
    refine z_getR (pc := 33) (C := RX8) (T := TX8) (N := 30) (ci := 9) 9 X dX8_isAhead_33 inz_X8 rfl (by decide) fw_X8_37 (fun v5 => ?_)
    refine z_iload_n (pc := 36) (i := 1) 1 X dX8_isAhead_36 rfl rfl ?_
    refine z_iaload (pc := 37) X dX8_isAhead_37 (fun v6 => ?_)
    refine z_aload_n (pc := 38) (i := 0) 0 X dX8_isAhead_38 rfl rfl ?_
    refine z_getR (pc := 39) (C := RX8) (T := TX8) (N := 30) (ci := 9) 9 X dX8_isAhead_39 inz_X8 rfl (by decide) fw_X8_37 (fun v7 => ?_)
    refine z_iload_n (pc := 42) (i := 2) 2 X dX8_isAhead_42 rfl rfl ?_
    refine z_iaload (pc := 43) X dX8_isAhead_43 (fun v8 => ?_)
    refine z_icmp_eq (pc := 44) 102 X dX8_isAhead_44 (by decide) (fun _ => ?_) (fun _ => ?_)
    · refine z_iload_n (pc := 102) (i := 1) 1 X dX8_isAhead_102 rfl rfl ?_
      refine z_iconst (pc := 103) (z := 2) X dX8_isAhead_103 rfl ⟨by decide, by decide⟩ ?_
      refine z_idiv (pc := 104) X dX8_isAhead_104 (fun v9 => ?_)
      refine z_iload_n (pc := 105) (i := 2) 2 X dX8_isAhead_105 rfl rfl ?_
      refine z_iconst (pc := 106) (z := 2) X dX8_isAhead_106 rfl ⟨by decide, by decide⟩ ?_
      refine z_idiv (pc := 107) X dX8_isAhead_107 (fun v10 => ?_)
      refine z_icmp_ge (pc := 108) 115 X dX8_isAhead_108 (by decide) (fun _ => ?_) (fun _ => ?_)
      · refine z_iconst (pc := 115) (z := 0) X dX8_isAhead_115 rfl ⟨by decide, by decide⟩ ?_
        refine z_fin (fun e9 => ?_)
        subst e9
        exact hret _ _ _ _ (by decide) (by decide) dX8_isAhead_116 (Or.inl rfl)
      · refine z_iconst (pc := 111) (z := 1) X dX8_isAhead_111 rfl ⟨by decide, by decide⟩ ?_
        refine z_goto (pc := 112) 116 X dX8_isAhead_112 (by decide) ?_
        refine z_fin (fun e9 => ?_)
        subst e9
        exact hret _ _ _ _ (by decide) (by decide) dX8_isAhead_116 (Or.inr rfl)
    · refine z_aload_n (pc := 47) (i := 0) 0 X dX8_isAhead_47 rfl rfl ?_
      refine z_getR (pc := 48) (C := RX8) (T := TX8) (N := 30) (ci := 9) 10 X dX8_isAhead_48 inz_X8 rfl (by decide) fw_X8_40 (fun v11 => ?_)
      refine z_iload_n (pc := 51) (i := 1) 1 X dX8_isAhead_51 rfl rfl ?_
      refine z_caload (pc := 52) X dX8_isAhead_52 (fun v12 => ?_)
      refine z_bipush (pc := 53) (z := 108) X dX8_isAhead_53 rfl ⟨by decide, by decide⟩ ?_
      refine z_icmp_ne (pc := 55) 81 X dX8_isAhead_55 (by decide) (fun _ => ?_) (fun _ => ?_)
      · refine z_aload_n (pc := 81) (i := 0) 0 X dX8_isAhead_81 rfl rfl ?_
        refine z_getR (pc := 82) (C := RX8) (T := TX8) (N := 30) (ci := 9) 9 X dX8_isAhead_82 inz_X8 rfl (by decide) fw_X8_37 (fun v13 => ?_)
        refine z_iload_n (pc := 85) (i := 1) 1 X dX8_isAhead_85 rfl rfl ?_
        refine z_iaload (pc := 86) X dX8_isAhead_86 (fun v14 => ?_)
        refine z_aload_n (pc := 87) (i := 0) 0 X dX8_isAhead_87 rfl rfl ?_
        refine z_getR (pc := 88) (C := RX8) (T := TX8) (N := 30) (ci := 9) 9 X dX8_isAhead_88 inz_X8 rfl (by decide) fw_X8_37 (fun v15 => ?_)
        refine z_iload_n (pc := 91) (i := 2) 2 X dX8_isAhead_91 rfl rfl ?_
        refine z_iaload (pc := 92) X dX8_isAhead_92 (fun v16 => ?_)
        refine z_icmp_le (pc := 93) 100 X dX8_isAhead_93 (by decide) (fun _ => ?_) (fun _ => ?_)
        · refine z_iconst (pc := 100) (z := 0) X dX8_isAhead_100 rfl ⟨by decide, by decide⟩ ?_
          refine z_fin (fun e9 => ?_)
          subst e9
          exact hret _ _ _ _ (by decide) (by decide) dX8_isAhead_101 (Or.inl rfl)
        · refine z_iconst (pc := 96) (z := 1) X dX8_isAhead_96 rfl ⟨by decide, by decide⟩ ?_
          refine z_goto (pc := 97) 101 X dX8_isAhead_97 (by decide) ?_
          refine z_fin (fun e9 => ?_)
          subst e9
          exact hret _ _ _ _ (by decide) (by decide) dX8_isAhead_101 (Or.inr rfl)
      · refine z_aload_n (pc := 58) (i := 0) 0 X dX8_isAhead_58 rfl rfl ?_
        refine z_getR (pc := 59) (C := RX8) (T := TX8) (N := 30) (ci := 9) 9 X dX8_isAhead_59 inz_X8 rfl (by decide) fw_X8_37 (fun v17 => ?_)
        refine z_iload_n (pc := 62) (i := 1) 1 X dX8_isAhead_62 rfl rfl ?_
        refine z_iaload (pc := 63) X dX8_isAhead_63 (fun v18 => ?_)
        refine z_aload_n (pc := 64) (i := 0) 0 X dX8_isAhead_64 rfl rfl ?_
        refine z_getR (pc := 65) (C := RX8) (T := TX8) (N := 30) (ci := 9) 9 X dX8_isAhead_65 inz_X8 rfl (by decide) fw_X8_37 (fun v19 => ?_)
        refine z_iload_n (pc := 68) (i := 2) 2 X dX8_isAhead_68 rfl rfl ?_
        refine z_iaload (pc := 69) X dX8_isAhead_69 (fun v20 => ?_)
        refine z_icmp_ge (pc := 70) 77 X dX8_isAhead_70 (by decide) (fun _ => ?_) (fun _ => ?_)
        · refine z_iconst (pc := 77) (z := 0) X dX8_isAhead_77 rfl ⟨by decide, by decide⟩ ?_
          refine z_goto (pc := 78) 101 X dX8_isAhead_78 (by decide) ?_
          refine z_fin (fun e9 => ?_)
          subst e9
          exact hret _ _ _ _ (by decide) (by decide) dX8_isAhead_101 (Or.inl rfl)
        · refine z_iconst (pc := 73) (z := 1) X dX8_isAhead_73 rfl ⟨by decide, by decide⟩ ?_
          refine z_goto (pc := 74) 101 X dX8_isAhead_74 (by decide) ?_
          refine z_fin (fun e9 => ?_)
          subst e9
          exact hret _ _ _ _ (by decide) (by decide) dX8_isAhead_101 (Or.inr rfl)
  · refine z_aload_n (pc := 15) (i := 0) 0 X dX8_isAhead_15 rfl rfl ?_
    refine z_getR (pc := 16) (C := RX8) (T := TX8) (N := 30) (ci := 9) 10 X dX8_isAhead_16 inz_X8 rfl (by decide) fw_X8_40 (fun v21 => ?_)
    refine z_iload_n (pc := 19) (i := 1) 1 X dX8_isAhead_19 rfl rfl ?_
    refine z_caload (pc := 20) X dX8_isAhead_20 (fun v22 => ?_)
    refine z_bipush (pc := 21) (z := 108) X dX8_isAhead_21 rfl ⟨by decide, by decide⟩ ?_
    refine z_icmp_ne (pc := 23) 30 X dX8_isAhead_23 (by decide) (fun _ => ?_) (fun _ => ?_)
    · refine z_iconst (pc := 30) (z := 0) X dX8_isAhead_30 rfl ⟨by decide, by decide⟩ ?_
      refine z_fin (fun e9 => ?_)
      subst e9
      exact hret _ _ _ _ (by decide) (by decide) dX8_isAhead_31 (Or.inl rfl)
    · refine z_iconst (pc := 26) (z := 1) X dX8_isAhead_26 rfl ⟨by decide, by decide⟩ ?_
      refine z_goto (pc := 27) 31 X dX8_isAhead_27 (by decide) ?_
      refine z_fin (fun e9 => ?_)
      subst e9
      exact hret _ _ _ _ (by decide) (by decide) dX8_isAhead_31 (Or.inr rfl)
def X8_isGone (hp : zH) (a0 : Option Nat) (a1 : Int) : Option (Int × zH) :=
  ((zobj hp a0 9).bind fun _ => X8_isDoor hp a0 a1).bind fun x1 =>
  ((zobj hp a0 9).bind fun _ => X8_no hp a0 x1 1).bind fun x2 =>
  if x2.1 = 0 then
    (zgR x2.2 a0 9 12).bind fun v3 =>
    (zaI x2.2 2 v3 a1).bind fun v4 =>
    if v4 = 0 then
      some (0, x2.2)
    else
      some (1, x2.2)
  else
    some (0, x2.2)
set_option maxRecDepth 20000 in
theorem c_X8_isGone (hp : zH) (a0 : Option Nat) (a1 : Int) : ∀ r, X8_isGone hp a0 a1 = some r → zMi yX8_isGone (Cond.code yX8_isGone cX8_isGone 2 (some .boolean) :: zALL) { frames := 2, cells := 0, slots := 0, locals := 43 } 0 0 [zR a0, zI a1] hp r.1 r.2 := by
  refine zMi_of (own := RX8) (cc := cX8_isGone) (maxL := 2) (ε := (Int × zH)) (res := fun r => r.1) (hp2 := fun r => r.2) (by decide) rfl (Or.inr (Or.inl rfl)) (by exact Nat.le_of_ble_eq_true rfl) ?_
  intro K r0 X hnL hret
  have hN : ∀ i, i < 2 → i < K.2.2.2.2.2.2.2.2.2.2.2.2.2.2.1 := by rw [hnL]; exact fun _ h => h
  show zS _ _ (zJ K 0 0 0 [(0, zR a0), (1, zI a1)] [] hp)
  unfold X8_isGone
  refine z_aload_n (pc := 0) (i := 0) 0 X dX8_isGone_0 rfl rfl ?_
  refine z_aload_n (pc := 1) (i := 0) 0 X dX8_isGone_1 rfl rfl ?_
  refine z_iload_n (pc := 2) (i := 1) 1 X dX8_isGone_2 rfl rfl ?_
  refine z_callV_i (pc := 3) (cells := 0) (slots := 0) (C := RX8) (T := TX8) (N := 30) (ci := 9) [zI a1] X dX8_isGone_3 (c_X8_isDoor hp a0 a1) kw_X8_169 rfl rfl ⟨rfl, rfl, ⟨by decide, by decide⟩, ⟨by decide, by decide⟩⟩ (Nat.le_of_ble_eq_true rfl) rfl (fun x1 => ?_)
  refine z_iconst (pc := 6) (z := 1) X dX8_isGone_6 rfl ⟨by decide, by decide⟩ ?_
  refine z_callV_i (pc := 7) (cells := 0) (slots := 0) (C := RX8) (T := TX8) (N := 30) (ci := 9) [zI x1, zI 1] X dX8_isGone_7 (c_X8_no hp a0 x1 1) kw_X8_93 rfl rfl ⟨rfl, rfl, ⟨by decide, by decide⟩, ⟨by decide, by decide⟩⟩ (Nat.le_of_ble_eq_true rfl) rfl (fun x2 => ?_)
  refine z_if_ne (pc := 10) 26 X dX8_isGone_10 (by decide) (fun _ => ?_) (fun _ => ?_)
  · refine z_iconst (pc := 26) (z := 0) X dX8_isGone_26 rfl ⟨by decide, by decide⟩ ?_
    refine z_fin (fun e9 => ?_)
    subst e9
    exact hret _ _ _ _ (by decide) (by decide) dX8_isGone_27 (Or.inl rfl)
  · refine z_aload_n (pc := 13) (i := 0) 0 X dX8_isGone_13 rfl rfl ?_
    refine z_getR (pc := 14) (C := RX8) (T := TX8) (N := 30) (ci := 9) 12 X dX8_isGone_14 inz_X8 rfl (by decide) fw_X8_46 (fun v3 => ?_)
    refine z_iload_n (pc := 17) (i := 1) 1 X dX8_isGone_17 rfl rfl ?_
    refine z_zaload (pc := 18) X dX8_isGone_18 (fun v4 => ?_)
    refine z_if_eq (pc := 19) 26 X dX8_isGone_19 (by decide) (fun _ => ?_) (fun _ => ?_)
    · refine z_iconst (pc := 26) (z := 0) X dX8_isGone_26 rfl ⟨by decide, by decide⟩ ?_
      refine z_fin (fun e9 => ?_)
      subst e9
      exact hret _ _ _ _ (by decide) (by decide) dX8_isGone_27 (Or.inl rfl)
    · refine z_iconst (pc := 22) (z := 1) X dX8_isGone_22 rfl ⟨by decide, by decide⟩ ?_
      refine z_goto (pc := 23) 27 X dX8_isGone_23 (by decide) ?_
      refine z_fin (fun e9 => ?_)
      subst e9
      exact hret _ _ _ _ (by decide) (by decide) dX8_isGone_27 (Or.inr rfl)
def X8_isTrue (hp : zH) (a0 : Option Nat) : Option Int :=
  some 1
set_option maxRecDepth 20000 in
theorem c_X8_isTrue (hp : zH) (a0 : Option Nat) : ∀ r, X8_isTrue hp a0 = some r → zMi yX8_isTrue (Cond.code yX8_isTrue cX8_isTrue 1 (some .boolean) :: zALL) { frames := 0, cells := 0, slots := 0, locals := 0 } 0 0 [zR a0] hp r hp := by
  refine zMi_of (own := RX8) (cc := cX8_isTrue) (maxL := 1) (res := fun r => r) (hp2 := fun _ => hp) (by decide) rfl (Or.inr (Or.inl rfl)) (by exact Nat.le_of_ble_eq_true rfl) ?_
  intro K r0 X hnL hret
  have hN : ∀ i, i < 1 → i < K.2.2.2.2.2.2.2.2.2.2.2.2.2.2.1 := by rw [hnL]; exact fun _ h => h
  show zS _ _ (zJ K 0 0 0 [(0, zR a0)] [] hp)
  unfold X8_isTrue
  refine z_iconst (pc := 0) (z := 1) X dX8_isTrue_0 rfl ⟨by decide, by decide⟩ ?_
  refine z_fin (fun e9 => ?_)
  subst e9
  exact hret _ _ _ _ (by decide) (by decide) dX8_isTrue_1 (Or.inr rfl)
def X8_isUsed_b5 (p1 : Option Nat) (p2 : Int64) (h4 : zH) (s3 : Int × Int) : Option ((Int × Int) ⊕ (Int)) :=
  (zgI h4 p1 9 7).bind fun v6 =>
  if v6 ≤ s3.2 then
    some (Sum.inr (s3.1))
  else
    (zgR h4 p1 9 5).bind fun v7 =>
    (zaI h4 2 v7 s3.2).bind fun v8 =>
    if v8 = 0 then
      if (zcmp p2 0) = 0 then
        (zor s3.1 0).bind fun v11 =>
        (zchk (s3.2 + 1)).bind fun v12 =>
        some (Sum.inl (v11, v12))
      else
        (zgR h4 p1 9 0).bind fun v13 =>
        (zaJ h4 v13 s3.2).bind fun v14 =>
        if (zcmp v14 p2) = 0 then
          (zor s3.1 1).bind fun v15 =>
          (zchk (s3.2 + 1)).bind fun v16 =>
          some (Sum.inl (v15, v16))
        else
          (zgR h4 p1 9 1).bind fun v17 =>
          (zaJ h4 v17 s3.2).bind fun v18 =>
          if (zcmp v18 p2) = 0 then
            (zor s3.1 1).bind fun v21 =>
            (zchk (s3.2 + 1)).bind fun v22 =>
            some (Sum.inl (v21, v22))
          else
            (zor s3.1 0).bind fun v19 =>
            (zchk (s3.2 + 1)).bind fun v20 =>
            some (Sum.inl (v19, v20))
    else
      (zor s3.1 0).bind fun v9 =>
      (zchk (s3.2 + 1)).bind fun v10 =>
      some (Sum.inl (v9, v10))
def X8_isUsed (hp : zH) (a0 : Option Nat) (a1 : Int64) : Option Int :=
  (zloop (X8_isUsed_b5 a0 a1 hp) zN (0, 0)).bind fun e5 =>
  (zchkZ e5).bind fun _ =>
  some e5
set_option maxRecDepth 20000 in
theorem c_X8_isUsed (hp : zH) (a0 : Option Nat) (a1 : Int64) : ∀ r, X8_isUsed hp a0 a1 = some r → zMi yX8_isUsed (Cond.code yX8_isUsed cX8_isUsed 5 (some .boolean) :: zALL) { frames := 0, cells := 0, slots := 0, locals := 0 } 0 0 [zR a0, zL a1] hp r hp := by
  refine zMi_of (own := RX8) (cc := cX8_isUsed) (maxL := 5) (res := fun r => r) (hp2 := fun _ => hp) (by decide) rfl (Or.inr (Or.inl rfl)) (by exact Nat.le_of_ble_eq_true rfl) ?_
  intro K r0 X hnL hret
  have hN : ∀ i, i < 5 → i < K.2.2.2.2.2.2.2.2.2.2.2.2.2.2.1 := by rw [hnL]; exact fun _ h => h
  show zS _ _ (zJ K 0 0 0 [(0, zR a0), (1, zL a1)] [] hp)
  unfold X8_isUsed
  refine z_iconst (pc := 0) (z := 0) X dX8_isUsed_0 rfl ⟨by decide, by decide⟩ ?_
  refine z_istore_n (pc := 1) (i := 3) (lv' := [(3, zI 0), (0, zR a0), (1, zL a1)]) X dX8_isUsed_1 rfl (hN _ (by decide)) rfl ?_
  refine z_iconst (pc := 2) (z := 0) X dX8_isUsed_2 rfl ⟨by decide, by decide⟩ ?_
  refine z_istore (pc := 3) (i := 4) (lv' := [(4, zI 0), (3, zI 0), (0, zR a0), (1, zL a1)]) X dX8_isUsed_3 (hN _ (by decide)) rfl ?_
  refine z_pick [2, 3, 1, 0] (lv' := [(0, zR a0), (1, zL a1), (3, zI 0), (4, zI 0)]) rfl ?_
  refine z_bind (z_loop (body := X8_isUsed_b5 a0 a1 hp) (fun s3 : Int × Int => zJ K 0 0 5 [(0, zR a0), (1, zL a1), (3, zI s3.1), (4, zI s3.2)] [] hp) (fun e5 : Int => zJ K 0 0 68 [(3, zI e5)] [] hp) (fun s3 => ?_) zN (0, 0)) (fun e5 => ?_)
  · unfold X8_isUsed_b5
    refine z_iload (pc := 5) (i := 4) 3 X dX8_isUsed_5 rfl ?_
    refine z_aload_n (pc := 7) (i := 0) 0 X dX8_isUsed_7 rfl rfl ?_
    refine z_getI (pc := 8) (C := RX8) (T := TX8) (N := 30) (ci := 9) 7 X dX8_isUsed_8 inz_X8 rfl (by decide) fw_X8_83 (fun v6 => ?_)
    refine z_icmp_ge (pc := 11) 68 X dX8_isUsed_11 (by decide) (fun _ => ?_) (fun _ => ?_)
    · refine z_pick [2] (lv' := [(3, zI s3.1)]) rfl ?_
      exact z_exit
    · refine z_iload_n (pc := 14) (i := 3) 2 X dX8_isUsed_14 rfl rfl ?_
      refine z_aload_n (pc := 15) (i := 0) 0 X dX8_isUsed_15 rfl rfl ?_
      refine z_getR (pc := 16) (C := RX8) (T := TX8) (N := 30) (ci := 9) 5 X dX8_isUsed_16 inz_X8 rfl (by decide) fw_X8_28 (fun v7 => ?_)
      refine z_iload (pc := 19) (i := 4) 3 X dX8_isUsed_19 rfl ?_
      refine z_zaload (pc := 21) X dX8_isUsed_21 (fun v8 => ?_)
      refine z_if_ne (pc := 22) 59 X dX8_isUsed_22 (by decide) (fun _ => ?_) (fun _ => ?_)
      · refine z_iconst (pc := 59) (z := 0) X dX8_isUsed_59 rfl ⟨by decide, by decide⟩ ?_
        refine z_ior (pc := 60) X dX8_isUsed_60 (fun v9 => ?_)
        refine z_istore_n (pc := 61) (i := 3) (lv' := [(3, zI v9), (0, zR a0), (1, zL a1), (4, zI s3.2)]) X dX8_isUsed_61 rfl (hN _ (by decide)) rfl ?_
        refine z_iinc (pc := 62) (i := 4) (n := 1) (lv' := fun v10 => [(4, zI v10), (3, zI v9), (0, zR a0), (1, zL a1)]) 3 X dX8_isUsed_62 rfl (hN _ (by decide)) (fun _ => rfl) (fun v10 _ _ => ?_)
        refine z_goto (pc := 65) 5 X dX8_isUsed_65 (by decide) ?_
        refine z_pick [2, 3, 1, 0] (lv' := [(0, zR a0), (1, zL a1), (3, zI v9), (4, zI v10)]) rfl ?_
        exact z_back
      · refine z_lload_n (pc := 25) (i := 1) 1 X dX8_isUsed_25 rfl rfl ?_
        refine z_lconst (pc := 26) (z := 0) X dX8_isUsed_26 rfl ?_
        refine z_lcmp (pc := 27) X dX8_isUsed_27 ?_
        refine z_if_eq (pc := 28) 59 X dX8_isUsed_28 (by decide) (fun _ => ?_) (fun _ => ?_)
        · refine z_iconst (pc := 59) (z := 0) X dX8_isUsed_59 rfl ⟨by decide, by decide⟩ ?_
          refine z_ior (pc := 60) X dX8_isUsed_60 (fun v11 => ?_)
          refine z_istore_n (pc := 61) (i := 3) (lv' := [(3, zI v11), (0, zR a0), (1, zL a1), (4, zI s3.2)]) X dX8_isUsed_61 rfl (hN _ (by decide)) rfl ?_
          refine z_iinc (pc := 62) (i := 4) (n := 1) (lv' := fun v12 => [(4, zI v12), (3, zI v11), (0, zR a0), (1, zL a1)]) 3 X dX8_isUsed_62 rfl (hN _ (by decide)) (fun _ => rfl) (fun v12 _ _ => ?_)
          refine z_goto (pc := 65) 5 X dX8_isUsed_65 (by decide) ?_
          refine z_pick [2, 3, 1, 0] (lv' := [(0, zR a0), (1, zL a1), (3, zI v11), (4, zI v12)]) rfl ?_
          exact z_back
        · refine z_aload_n (pc := 31) (i := 0) 0 X dX8_isUsed_31 rfl rfl ?_
          refine z_getR (pc := 32) (C := RX8) (T := TX8) (N := 30) (ci := 9) 0 X dX8_isUsed_32 inz_X8 rfl (by decide) fw_X8_7 (fun v13 => ?_)
          refine z_iload (pc := 35) (i := 4) 3 X dX8_isUsed_35 rfl ?_
          refine z_laload (pc := 37) X dX8_isUsed_37 (fun v14 => ?_)
          refine z_lload_n (pc := 38) (i := 1) 1 X dX8_isUsed_38 rfl rfl ?_
          refine z_lcmp (pc := 39) X dX8_isUsed_39 ?_
          refine z_if_eq (pc := 40) 55 X dX8_isUsed_40 (by decide) (fun _ => ?_) (fun _ => ?_)
          · refine z_iconst (pc := 55) (z := 1) X dX8_isUsed_55 rfl ⟨by decide, by decide⟩ ?_
            refine z_goto (pc := 56) 60 X dX8_isUsed_56 (by decide) ?_
            refine z_ior (pc := 60) X dX8_isUsed_60 (fun v15 => ?_)
            refine z_istore_n (pc := 61) (i := 3) (lv' := [(3, zI v15), (0, zR a0), (1, zL a1), (4, zI s3.2)]) X dX8_isUsed_61 rfl (hN _ (by decide)) rfl ?_
            refine z_iinc (pc := 62) (i := 4) (n := 1) (lv' := fun v16 => [(4, zI v16), (3, zI v15), (0, zR a0), (1, zL a1)]) 3 X dX8_isUsed_62 rfl (hN _ (by decide)) (fun _ => rfl) (fun v16 _ _ => ?_)
            refine z_goto (pc := 65) 5 X dX8_isUsed_65 (by decide) ?_
            refine z_pick [2, 3, 1, 0] (lv' := [(0, zR a0), (1, zL a1), (3, zI v15), (4, zI v16)]) rfl ?_
            exact z_back
          · refine z_aload_n (pc := 43) (i := 0) 0 X dX8_isUsed_43 rfl rfl ?_
            refine z_getR (pc := 44) (C := RX8) (T := TX8) (N := 30) (ci := 9) 1 X dX8_isUsed_44 inz_X8 rfl (by decide) fw_X8_13 (fun v17 => ?_)
            refine z_iload (pc := 47) (i := 4) 3 X dX8_isUsed_47 rfl ?_
            refine z_laload (pc := 49) X dX8_isUsed_49 (fun v18 => ?_)
            refine z_lload_n (pc := 50) (i := 1) 1 X dX8_isUsed_50 rfl rfl ?_
            refine z_lcmp (pc := 51) X dX8_isUsed_51 ?_
            refine z_if_ne (pc := 52) 59 X dX8_isUsed_52 (by decide) (fun _ => ?_) (fun _ => ?_)
            · refine z_iconst (pc := 59) (z := 0) X dX8_isUsed_59 rfl ⟨by decide, by decide⟩ ?_
              refine z_ior (pc := 60) X dX8_isUsed_60 (fun v19 => ?_)
              refine z_istore_n (pc := 61) (i := 3) (lv' := [(3, zI v19), (0, zR a0), (1, zL a1), (4, zI s3.2)]) X dX8_isUsed_61 rfl (hN _ (by decide)) rfl ?_
              refine z_iinc (pc := 62) (i := 4) (n := 1) (lv' := fun v20 => [(4, zI v20), (3, zI v19), (0, zR a0), (1, zL a1)]) 3 X dX8_isUsed_62 rfl (hN _ (by decide)) (fun _ => rfl) (fun v20 _ _ => ?_)
              refine z_goto (pc := 65) 5 X dX8_isUsed_65 (by decide) ?_
              refine z_pick [2, 3, 1, 0] (lv' := [(0, zR a0), (1, zL a1), (3, zI v19), (4, zI v20)]) rfl ?_
              exact z_back
            · refine z_iconst (pc := 55) (z := 1) X dX8_isUsed_55 rfl ⟨by decide, by decide⟩ ?_
              refine z_goto (pc := 56) 60 X dX8_isUsed_56 (by decide) ?_
              refine z_ior (pc := 60) X dX8_isUsed_60 (fun v21 => ?_)
              refine z_istore_n (pc := 61) (i := 3) (lv' := [(3, zI v21), (0, zR a0), (1, zL a1), (4, zI s3.2)]) X dX8_isUsed_61 rfl (hN _ (by decide)) rfl ?_
              refine z_iinc (pc := 62) (i := 4) (n := 1) (lv' := fun v22 => [(4, zI v22), (3, zI v21), (0, zR a0), (1, zL a1)]) 3 X dX8_isUsed_62 rfl (hN _ (by decide)) (fun _ => rfl) (fun v22 _ _ => ?_)
              refine z_goto (pc := 65) 5 X dX8_isUsed_65 (by decide) ?_
              refine z_pick [2, 3, 1, 0] (lv' := [(0, zR a0), (1, zL a1), (3, zI v21), (4, zI v22)]) rfl ?_
              exact z_back
  · refine z_iload_n (pc := 68) (i := 3) 0 X dX8_isUsed_68 rfl rfl ?_
    refine z_chkZ (fun hf9 => ?_)
    refine z_fin (fun e9 => ?_)
    subst e9
    exact hret _ _ _ _ (by decide) (by decide) dX8_isUsed_69 hf9
def X8_isWay (hp : zH) (a0 : Int) : Option Int :=
  if a0 = 115 then
    some 1
  else
    if a0 = 109 then
      some 1
    else
      if a0 = 121 then
        some 1
      else
        some 0
set_option maxRecDepth 20000 in
theorem c_X8_isWay (hp : zH) (a0 : Int) : ∀ r, X8_isWay hp a0 = some r → zMi yX8_isWay (Cond.code yX8_isWay cX8_isWay 1 (some .boolean) :: zALL) { frames := 0, cells := 0, slots := 0, locals := 0 } 0 0 [zI a0] hp r hp := by
  refine zMi_of (own := RX8) (cc := cX8_isWay) (maxL := 1) (res := fun r => r) (hp2 := fun _ => hp) (by decide) rfl (Or.inr (Or.inl rfl)) (by exact Nat.le_of_ble_eq_true rfl) ?_
  intro K r0 X hnL hret
  have hN : ∀ i, i < 1 → i < K.2.2.2.2.2.2.2.2.2.2.2.2.2.2.1 := by rw [hnL]; exact fun _ h => h
  show zS _ _ (zJ K 0 0 0 [(0, zI a0)] [] hp)
  unfold X8_isWay
  refine z_iload_n (pc := 0) (i := 0) 0 X dX8_isWay_0 rfl rfl ?_
  refine z_bipush (pc := 1) (z := 115) X dX8_isWay_1 rfl ⟨by decide, by decide⟩ ?_
  refine z_icmp_eq (pc := 3) 18 X dX8_isWay_3 (by decide) (fun _ => ?_) (fun _ => ?_)
  · refine z_iconst (pc := 18) (z := 1) X dX8_isWay_18 rfl ⟨by decide, by decide⟩ ?_
    refine z_goto (pc := 19) 23 X dX8_isWay_19 (by decide) ?_
    refine z_fin (fun e9 => ?_)
    subst e9
    exact hret _ _ _ _ (by decide) (by decide) dX8_isWay_23 (Or.inr rfl)
  · refine z_iload_n (pc := 6) (i := 0) 0 X dX8_isWay_6 rfl rfl ?_
    refine z_bipush (pc := 7) (z := 109) X dX8_isWay_7 rfl ⟨by decide, by decide⟩ ?_
    refine z_icmp_eq (pc := 9) 18 X dX8_isWay_9 (by decide) (fun _ => ?_) (fun _ => ?_)
    · refine z_iconst (pc := 18) (z := 1) X dX8_isWay_18 rfl ⟨by decide, by decide⟩ ?_
      refine z_goto (pc := 19) 23 X dX8_isWay_19 (by decide) ?_
      refine z_fin (fun e9 => ?_)
      subst e9
      exact hret _ _ _ _ (by decide) (by decide) dX8_isWay_23 (Or.inr rfl)
    · refine z_iload_n (pc := 12) (i := 0) 0 X dX8_isWay_12 rfl rfl ?_
      refine z_bipush (pc := 13) (z := 121) X dX8_isWay_13 rfl ⟨by decide, by decide⟩ ?_
      refine z_icmp_ne (pc := 15) 22 X dX8_isWay_15 (by decide) (fun _ => ?_) (fun _ => ?_)
      · refine z_iconst (pc := 22) (z := 0) X dX8_isWay_22 rfl ⟨by decide, by decide⟩ ?_
        refine z_fin (fun e9 => ?_)
        subst e9
        exact hret _ _ _ _ (by decide) (by decide) dX8_isWay_23 (Or.inl rfl)
      · refine z_iconst (pc := 18) (z := 1) X dX8_isWay_18 rfl ⟨by decide, by decide⟩ ?_
        refine z_goto (pc := 19) 23 X dX8_isWay_19 (by decide) ?_
        refine z_fin (fun e9 => ?_)
        subst e9
        exact hret _ _ _ _ (by decide) (by decide) dX8_isWay_23 (Or.inr rfl)
def X8_keeps_b2 (p1 : Option Nat) (s2 : Int × zH) : Option ((Int × zH) ⊕ (zH)) :=
  if 80 ≤ s2.1 then
    some (Sum.inr (s2.2))
  else
    (zgR s2.2 p1 9 20).bind fun v4 =>
    (zgR s2.2 p1 9 8).bind fun v5 =>
    (zaI s2.2 0 v5 s2.1).bind fun v6 =>
    (zsI s2.2 0 v4 s2.1 v6).bind fun h7 =>
    (zgR h7 p1 9 21).bind fun v8 =>
    (zgR h7 p1 9 9).bind fun v9 =>
    (zaI h7 0 v9 s2.1).bind fun v10 =>
    (zsI h7 0 v8 s2.1 v10).bind fun h11 =>
    (zgR h11 p1 9 22).bind fun v12 =>
    (zgR h11 p1 9 10).bind fun v13 =>
    (zaI h11 3 v13 s2.1).bind fun v14 =>
    (zsI h11 3 v12 s2.1 v14).bind fun h15 =>
    (zgR h15 p1 9 23).bind fun v16 =>
    (zgR h15 p1 9 11).bind fun v17 =>
    (zaI h15 0 v17 s2.1).bind fun v18 =>
    (zsI h15 0 v16 s2.1 v18).bind fun h19 =>
    (zchk (s2.1 + 1)).bind fun v20 =>
    some (Sum.inl (v20, h19))
def X8_keeps (hp : zH) (a0 : Option Nat) : Option zH :=
  (zloop (X8_keeps_b2 a0) zN (0, hp)).bind fun e3 =>
  some e3
set_option maxRecDepth 20000 in
theorem c_X8_keeps (hp : zH) (a0 : Option Nat) : ∀ r, X8_keeps hp a0 = some r → zMv yX8_keeps (Cond.code yX8_keeps cX8_keeps 2 none :: zALL) { frames := 0, cells := 0, slots := 0, locals := 0 } 0 0 [zR a0] hp r := by
  refine zMv_of (own := RX8) (cc := cX8_keeps) (maxL := 2) (hp2 := fun r => r) (by decide) rfl (by exact Nat.le_of_ble_eq_true rfl) ?_
  intro K r0 X hnL hnm9 hret
  have hN : ∀ i, i < 2 → i < K.2.2.2.2.2.2.2.2.2.2.2.2.2.2.1 := by rw [hnL]; exact fun _ h => h
  show zS _ _ (zJ K 0 0 0 [(0, zR a0)] [] hp)
  unfold X8_keeps
  refine z_iconst (pc := 0) (z := 0) X dX8_keeps_0 rfl ⟨by decide, by decide⟩ ?_
  refine z_istore_n (pc := 1) (i := 1) (lv' := [(1, zI 0), (0, zR a0)]) X dX8_keeps_1 rfl (hN _ (by decide)) rfl ?_
  refine z_pick [1, 0] (lv' := [(0, zR a0), (1, zI 0)]) rfl ?_
  refine z_bind (z_loop (body := X8_keeps_b2 a0) (fun s2 : Int × zH => zJ K 0 0 2 [(0, zR a0), (1, zI s2.1)] [] s2.2) (fun e3 : zH => zJ K 0 0 62 [] [] e3) (fun s2 => ?_) zN (0, hp)) (fun e3 => ?_)
  · unfold X8_keeps_b2
    refine z_iload_n (pc := 2) (i := 1) 1 X dX8_keeps_2 rfl rfl ?_
    refine z_bipush (pc := 3) (z := 80) X dX8_keeps_3 rfl ⟨by decide, by decide⟩ ?_
    refine z_icmp_ge (pc := 5) 62 X dX8_keeps_5 (by decide) (fun _ => ?_) (fun _ => ?_)
    · refine z_pick [] (lv' := []) rfl ?_
      exact z_exit
    · refine z_aload_n (pc := 8) (i := 0) 0 X dX8_keeps_8 rfl rfl ?_
      refine z_getR (pc := 9) (C := RX8) (T := TX8) (N := 30) (ci := 9) 20 X dX8_keeps_9 inz_X8 rfl (by decide) fw_X8_64 (fun v4 => ?_)
      refine z_iload_n (pc := 12) (i := 1) 1 X dX8_keeps_12 rfl rfl ?_
      refine z_aload_n (pc := 13) (i := 0) 0 X dX8_keeps_13 rfl rfl ?_
      refine z_getR (pc := 14) (C := RX8) (T := TX8) (N := 30) (ci := 9) 8 X dX8_keeps_14 inz_X8 rfl (by decide) fw_X8_34 (fun v5 => ?_)
      refine z_iload_n (pc := 17) (i := 1) 1 X dX8_keeps_17 rfl rfl ?_
      refine z_iaload (pc := 18) X dX8_keeps_18 (fun v6 => ?_)
      refine z_iastore (pc := 19) X dX8_keeps_19 (fun h7 => ?_)
      refine z_aload_n (pc := 20) (i := 0) 0 X dX8_keeps_20 rfl rfl ?_
      refine z_getR (pc := 21) (C := RX8) (T := TX8) (N := 30) (ci := 9) 21 X dX8_keeps_21 inz_X8 rfl (by decide) fw_X8_67 (fun v8 => ?_)
      refine z_iload_n (pc := 24) (i := 1) 1 X dX8_keeps_24 rfl rfl ?_
      refine z_aload_n (pc := 25) (i := 0) 0 X dX8_keeps_25 rfl rfl ?_
      refine z_getR (pc := 26) (C := RX8) (T := TX8) (N := 30) (ci := 9) 9 X dX8_keeps_26 inz_X8 rfl (by decide) fw_X8_37 (fun v9 => ?_)
      refine z_iload_n (pc := 29) (i := 1) 1 X dX8_keeps_29 rfl rfl ?_
      refine z_iaload (pc := 30) X dX8_keeps_30 (fun v10 => ?_)
      refine z_iastore (pc := 31) X dX8_keeps_31 (fun h11 => ?_)
      refine z_aload_n (pc := 32) (i := 0) 0 X dX8_keeps_32 rfl rfl ?_
      refine z_getR (pc := 33) (C := RX8) (T := TX8) (N := 30) (ci := 9) 22 X dX8_keeps_33 inz_X8 rfl (by decide) fw_X8_70 (fun v12 => ?_)
      refine z_iload_n (pc := 36) (i := 1) 1 X dX8_keeps_36 rfl rfl ?_
      refine z_aload_n (pc := 37) (i := 0) 0 X dX8_keeps_37 rfl rfl ?_
      refine z_getR (pc := 38) (C := RX8) (T := TX8) (N := 30) (ci := 9) 10 X dX8_keeps_38 inz_X8 rfl (by decide) fw_X8_40 (fun v13 => ?_)
      refine z_iload_n (pc := 41) (i := 1) 1 X dX8_keeps_41 rfl rfl ?_
      refine z_caload (pc := 42) X dX8_keeps_42 (fun v14 => ?_)
      refine z_castore (pc := 43) X dX8_keeps_43 (fun h15 => ?_)
      refine z_aload_n (pc := 44) (i := 0) 0 X dX8_keeps_44 rfl rfl ?_
      refine z_getR (pc := 45) (C := RX8) (T := TX8) (N := 30) (ci := 9) 23 X dX8_keeps_45 inz_X8 rfl (by decide) fw_X8_73 (fun v16 => ?_)
      refine z_iload_n (pc := 48) (i := 1) 1 X dX8_keeps_48 rfl rfl ?_
      refine z_aload_n (pc := 49) (i := 0) 0 X dX8_keeps_49 rfl rfl ?_
      refine z_getR (pc := 50) (C := RX8) (T := TX8) (N := 30) (ci := 9) 11 X dX8_keeps_50 inz_X8 rfl (by decide) fw_X8_43 (fun v17 => ?_)
      refine z_iload_n (pc := 53) (i := 1) 1 X dX8_keeps_53 rfl rfl ?_
      refine z_iaload (pc := 54) X dX8_keeps_54 (fun v18 => ?_)
      refine z_iastore (pc := 55) X dX8_keeps_55 (fun h19 => ?_)
      refine z_iinc (pc := 56) (i := 1) (n := 1) (lv' := fun v20 => [(1, zI v20), (0, zR a0)]) 1 X dX8_keeps_56 rfl (hN _ (by decide)) (fun _ => rfl) (fun v20 _ _ => ?_)
      refine z_goto (pc := 59) 2 X dX8_keeps_59 (by decide) ?_
      refine z_pick [1, 0] (lv' := [(0, zR a0), (1, zI v20)]) rfl ?_
      exact z_back
  · refine z_fin (fun e9 => ?_)
    subst e9
    exact hret _ _ _ _ (by decide) (by decide) dX8_keeps_62
def X8_least_b4 (p1 : Option Nat) (p2 : Int) (h4 : zH) (s3 : Int × Int) : Option ((Int × Int) ⊕ (Int)) :=
  (zgI h4 p1 9 14).bind fun v6 =>
  (zchk (2 * v6)).bind fun v7 =>
  if v7 ≤ s3.2 then
    some (Sum.inr (s3.1))
  else
    (zgR h4 p1 9 8).bind fun v8 =>
    (zaI h4 0 v8 s3.2).bind fun v9 =>
    if v9 = p2 then
      if s3.1 = (-1) then
        (zchk (s3.2 + 1)).bind fun v11 =>
        some (Sum.inl (s3.2, v11))
      else
        ((zobj h4 p1 9).bind fun _ => X8_isFarther h4 p1 p2 s3.1 s3.2).bind fun x12 =>
        if x12 = 0 then
          (zchk (s3.2 + 1)).bind fun v13 =>
          some (Sum.inl (s3.1, v13))
        else
          (zchk (s3.2 + 1)).bind fun v14 =>
          some (Sum.inl (s3.2, v14))
    else
      (zchk (s3.2 + 1)).bind fun v10 =>
      some (Sum.inl (s3.1, v10))
def X8_least (hp : zH) (a0 : Option Nat) (a1 : Int) : Option Int :=
  (zloop (X8_least_b4 a0 a1 hp) zN ((-1), 0)).bind fun e5 =>
  some e5
set_option maxRecDepth 20000 in
theorem c_X8_least (hp : zH) (a0 : Option Nat) (a1 : Int) : ∀ r, X8_least hp a0 a1 = some r → zMi yX8_least (Cond.code yX8_least cX8_least 4 (some .int) :: zALL) { frames := 2, cells := 0, slots := 0, locals := 47 } 0 0 [zR a0, zI a1] hp r hp := by
  refine zMi_of (own := RX8) (cc := cX8_least) (maxL := 4) (res := fun r => r) (hp2 := fun _ => hp) (by decide) rfl (Or.inl rfl) (by exact Nat.le_of_ble_eq_true rfl) ?_
  intro K r0 X hnL hret
  have hN : ∀ i, i < 4 → i < K.2.2.2.2.2.2.2.2.2.2.2.2.2.2.1 := by rw [hnL]; exact fun _ h => h
  show zS _ _ (zJ K 0 0 0 [(0, zR a0), (1, zI a1)] [] hp)
  unfold X8_least
  refine z_iconst (pc := 0) (z := -1) X dX8_least_0 rfl ⟨by decide, by decide⟩ ?_
  refine z_istore_n (pc := 1) (i := 2) (lv' := [(2, zI (-1)), (0, zR a0), (1, zI a1)]) X dX8_least_1 rfl (hN _ (by decide)) rfl ?_
  refine z_iconst (pc := 2) (z := 0) X dX8_least_2 rfl ⟨by decide, by decide⟩ ?_
  refine z_istore_n (pc := 3) (i := 3) (lv' := [(3, zI 0), (2, zI (-1)), (0, zR a0), (1, zI a1)]) X dX8_least_3 rfl (hN _ (by decide)) rfl ?_
  refine z_pick [2, 3, 1, 0] (lv' := [(0, zR a0), (1, zI a1), (2, zI (-1)), (3, zI 0)]) rfl ?_
  refine z_bind (z_loop (body := X8_least_b4 a0 a1 hp) (fun s3 : Int × Int => zJ K 0 0 4 [(0, zR a0), (1, zI a1), (2, zI s3.1), (3, zI s3.2)] [] hp) (fun e5 : Int => zJ K 0 0 51 [(2, zI e5)] [] hp) (fun s3 => ?_) zN ((-1), 0)) (fun e5 => ?_)
  · unfold X8_least_b4
    refine z_iload_n (pc := 4) (i := 3) 3 X dX8_least_4 rfl rfl ?_
    refine z_iconst (pc := 5) (z := 2) X dX8_least_5 rfl ⟨by decide, by decide⟩ ?_
    refine z_aload_n (pc := 6) (i := 0) 0 X dX8_least_6 rfl rfl ?_
    refine z_getI (pc := 7) (C := RX8) (T := TX8) (N := 30) (ci := 9) 14 X dX8_least_7 inz_X8 rfl (by decide) fw_X8_90 (fun v6 => ?_)
    refine z_imul (pc := 10) X dX8_least_10 (fun v7 _ _ => ?_)
    refine z_icmp_ge (pc := 11) 51 X dX8_least_11 (by decide) (fun _ => ?_) (fun _ => ?_)
    · refine z_pick [2] (lv' := [(2, zI s3.1)]) rfl ?_
      exact z_exit
    · refine z_aload_n (pc := 14) (i := 0) 0 X dX8_least_14 rfl rfl ?_
      refine z_getR (pc := 15) (C := RX8) (T := TX8) (N := 30) (ci := 9) 8 X dX8_least_15 inz_X8 rfl (by decide) fw_X8_34 (fun v8 => ?_)
      refine z_iload_n (pc := 18) (i := 3) 3 X dX8_least_18 rfl rfl ?_
      refine z_iaload (pc := 19) X dX8_least_19 (fun v9 => ?_)
      refine z_iload_n (pc := 20) (i := 1) 1 X dX8_least_20 rfl rfl ?_
      refine z_icmp_ne (pc := 21) 43 X dX8_least_21 (by decide) (fun _ => ?_) (fun _ => ?_)
      · refine z_iload_n (pc := 43) (i := 2) 2 X dX8_least_43 rfl rfl ?_
        refine z_istore_n (pc := 44) (i := 2) (lv' := [(2, zI s3.1), (0, zR a0), (1, zI a1), (3, zI s3.2)]) X dX8_least_44 rfl (hN _ (by decide)) rfl ?_
        refine z_iinc (pc := 45) (i := 3) (n := 1) (lv' := fun v10 => [(3, zI v10), (2, zI s3.1), (0, zR a0), (1, zI a1)]) 3 X dX8_least_45 rfl (hN _ (by decide)) (fun _ => rfl) (fun v10 _ _ => ?_)
        refine z_goto (pc := 48) 4 X dX8_least_48 (by decide) ?_
        refine z_pick [2, 3, 1, 0] (lv' := [(0, zR a0), (1, zI a1), (2, zI s3.1), (3, zI v10)]) rfl ?_
        exact z_back
      · refine z_iload_n (pc := 24) (i := 2) 2 X dX8_least_24 rfl rfl ?_
        refine z_iconst (pc := 25) (z := -1) X dX8_least_25 rfl ⟨by decide, by decide⟩ ?_
        refine z_icmp_eq (pc := 26) 39 X dX8_least_26 (by decide) (fun _ => ?_) (fun _ => ?_)
        · refine z_iload_n (pc := 39) (i := 3) 3 X dX8_least_39 rfl rfl ?_
          refine z_goto (pc := 40) 44 X dX8_least_40 (by decide) ?_
          refine z_istore_n (pc := 44) (i := 2) (lv' := [(2, zI s3.2), (0, zR a0), (1, zI a1), (3, zI s3.2)]) X dX8_least_44 rfl (hN _ (by decide)) rfl ?_
          refine z_iinc (pc := 45) (i := 3) (n := 1) (lv' := fun v11 => [(3, zI v11), (2, zI s3.2), (0, zR a0), (1, zI a1)]) 3 X dX8_least_45 rfl (hN _ (by decide)) (fun _ => rfl) (fun v11 _ _ => ?_)
          refine z_goto (pc := 48) 4 X dX8_least_48 (by decide) ?_
          refine z_pick [2, 3, 1, 0] (lv' := [(0, zR a0), (1, zI a1), (2, zI s3.2), (3, zI v11)]) rfl ?_
          exact z_back
        · refine z_aload_n (pc := 29) (i := 0) 0 X dX8_least_29 rfl rfl ?_
          refine z_iload_n (pc := 30) (i := 1) 1 X dX8_least_30 rfl rfl ?_
          refine z_iload_n (pc := 31) (i := 2) 2 X dX8_least_31 rfl rfl ?_
          refine z_iload_n (pc := 32) (i := 3) 3 X dX8_least_32 rfl rfl ?_
          refine z_callV_i (pc := 33) (cells := 0) (slots := 0) (C := RX8) (T := TX8) (N := 30) (ci := 9) [zI a1, zI s3.1, zI s3.2] X dX8_least_33 (c_X8_isFarther hp a0 a1 s3.1 s3.2) kw_X8_151 rfl rfl ⟨rfl, rfl, ⟨by decide, by decide⟩, ⟨by decide, by decide⟩⟩ (Nat.le_of_ble_eq_true rfl) rfl (fun x12 => ?_)
          refine z_if_eq (pc := 36) 43 X dX8_least_36 (by decide) (fun _ => ?_) (fun _ => ?_)
          · refine z_iload_n (pc := 43) (i := 2) 2 X dX8_least_43 rfl rfl ?_
            refine z_istore_n (pc := 44) (i := 2) (lv' := [(2, zI s3.1), (0, zR a0), (1, zI a1), (3, zI s3.2)]) X dX8_least_44 rfl (hN _ (by decide)) rfl ?_
            refine z_iinc (pc := 45) (i := 3) (n := 1) (lv' := fun v13 => [(3, zI v13), (2, zI s3.1), (0, zR a0), (1, zI a1)]) 3 X dX8_least_45 rfl (hN _ (by decide)) (fun _ => rfl) (fun v13 _ _ => ?_)
            refine z_goto (pc := 48) 4 X dX8_least_48 (by decide) ?_
            refine z_pick [2, 3, 1, 0] (lv' := [(0, zR a0), (1, zI a1), (2, zI s3.1), (3, zI v13)]) rfl ?_
            exact z_back
          · refine z_iload_n (pc := 39) (i := 3) 3 X dX8_least_39 rfl rfl ?_
            refine z_goto (pc := 40) 44 X dX8_least_40 (by decide) ?_
            refine z_istore_n (pc := 44) (i := 2) (lv' := [(2, zI s3.2), (0, zR a0), (1, zI a1), (3, zI s3.2)]) X dX8_least_44 rfl (hN _ (by decide)) rfl ?_
            refine z_iinc (pc := 45) (i := 3) (n := 1) (lv' := fun v14 => [(3, zI v14), (2, zI s3.2), (0, zR a0), (1, zI a1)]) 3 X dX8_least_45 rfl (hN _ (by decide)) (fun _ => rfl) (fun v14 _ _ => ?_)
            refine z_goto (pc := 48) 4 X dX8_least_48 (by decide) ?_
            refine z_pick [2, 3, 1, 0] (lv' := [(0, zR a0), (1, zI a1), (2, zI s3.2), (3, zI v14)]) rfl ?_
            exact z_back
  · refine z_iload_n (pc := 51) (i := 2) 0 X dX8_least_51 rfl rfl ?_
    refine z_fin (fun e9 => ?_)
    subst e9
    exact hret _ _ _ _ (by decide) (by decide) dX8_least_52 trivial
def X8_placeOn (hp : zH) (a0 : Option Nat) (a1 : Int) (a2 : Int) : Option Int :=
  (zgR hp a0 9 8).bind fun v1 =>
  (zchk (2 * a1)).bind fun v2 =>
  (zaI hp 0 v1 v2).bind fun v3 =>
  if v3 = a2 then
    (zchk (2 * a1)).bind fun v10 =>
    some v10
  else
    (zgR hp a0 9 8).bind fun v4 =>
    (zchk (2 * a1)).bind fun v5 =>
    (zchk (v5 + 1)).bind fun v6 =>
    (zaI hp 0 v4 v6).bind fun v7 =>
    if v7 = a2 then
      (zchk (2 * a1)).bind fun v8 =>
      (zchk (v8 + 1)).bind fun v9 =>
      some v9
    else
      some ((-1))
set_option maxRecDepth 20000 in
theorem c_X8_placeOn (hp : zH) (a0 : Option Nat) (a1 : Int) (a2 : Int) : ∀ r, X8_placeOn hp a0 a1 a2 = some r → zMi yX8_placeOn (Cond.code yX8_placeOn cX8_placeOn 3 (some .int) :: zALL) { frames := 0, cells := 0, slots := 0, locals := 0 } 0 0 [zR a0, zI a1, zI a2] hp r hp := by
  refine zMi_of (own := RX8) (cc := cX8_placeOn) (maxL := 3) (res := fun r => r) (hp2 := fun _ => hp) (by decide) rfl (Or.inl rfl) (by exact Nat.le_of_ble_eq_true rfl) ?_
  intro K r0 X hnL hret
  have hN : ∀ i, i < 3 → i < K.2.2.2.2.2.2.2.2.2.2.2.2.2.2.1 := by rw [hnL]; exact fun _ h => h
  show zS _ _ (zJ K 0 0 0 [(0, zR a0), (1, zI a1), (2, zI a2)] [] hp)
  unfold X8_placeOn
  refine z_aload_n (pc := 0) (i := 0) 0 X dX8_placeOn_0 rfl rfl ?_
  refine z_getR (pc := 1) (C := RX8) (T := TX8) (N := 30) (ci := 9) 8 X dX8_placeOn_1 inz_X8 rfl (by decide) fw_X8_34 (fun v1 => ?_)
  refine z_iconst (pc := 4) (z := 2) X dX8_placeOn_4 rfl ⟨by decide, by decide⟩ ?_
  refine z_iload_n (pc := 5) (i := 1) 1 X dX8_placeOn_5 rfl rfl ?_
  refine z_imul (pc := 6) X dX8_placeOn_6 (fun v2 _ _ => ?_)
  refine z_iaload (pc := 7) X dX8_placeOn_7 (fun v3 => ?_)
  refine z_iload_n (pc := 8) (i := 2) 2 X dX8_placeOn_8 rfl rfl ?_
  refine z_icmp_ne (pc := 9) 18 X dX8_placeOn_9 (by decide) (fun _ => ?_) (fun _ => ?_)
  · refine z_aload_n (pc := 18) (i := 0) 0 X dX8_placeOn_18 rfl rfl ?_
    refine z_getR (pc := 19) (C := RX8) (T := TX8) (N := 30) (ci := 9) 8 X dX8_placeOn_19 inz_X8 rfl (by decide) fw_X8_34 (fun v4 => ?_)
    refine z_iconst (pc := 22) (z := 2) X dX8_placeOn_22 rfl ⟨by decide, by decide⟩ ?_
    refine z_iload_n (pc := 23) (i := 1) 1 X dX8_placeOn_23 rfl rfl ?_
    refine z_imul (pc := 24) X dX8_placeOn_24 (fun v5 _ _ => ?_)
    refine z_iconst (pc := 25) (z := 1) X dX8_placeOn_25 rfl ⟨by decide, by decide⟩ ?_
    refine z_iadd (pc := 26) X dX8_placeOn_26 (fun v6 _ _ => ?_)
    refine z_iaload (pc := 27) X dX8_placeOn_27 (fun v7 => ?_)
    refine z_iload_n (pc := 28) (i := 2) 2 X dX8_placeOn_28 rfl rfl ?_
    refine z_icmp_ne (pc := 29) 40 X dX8_placeOn_29 (by decide) (fun _ => ?_) (fun _ => ?_)
    · refine z_iconst (pc := 40) (z := -1) X dX8_placeOn_40 rfl ⟨by decide, by decide⟩ ?_
      refine z_fin (fun e9 => ?_)
      subst e9
      exact hret _ _ _ _ (by decide) (by decide) dX8_placeOn_41 trivial
    · refine z_iconst (pc := 32) (z := 2) X dX8_placeOn_32 rfl ⟨by decide, by decide⟩ ?_
      refine z_iload_n (pc := 33) (i := 1) 1 X dX8_placeOn_33 rfl rfl ?_
      refine z_imul (pc := 34) X dX8_placeOn_34 (fun v8 _ _ => ?_)
      refine z_iconst (pc := 35) (z := 1) X dX8_placeOn_35 rfl ⟨by decide, by decide⟩ ?_
      refine z_iadd (pc := 36) X dX8_placeOn_36 (fun v9 _ _ => ?_)
      refine z_goto (pc := 37) 41 X dX8_placeOn_37 (by decide) ?_
      refine z_fin (fun e9 => ?_)
      subst e9
      exact hret _ _ _ _ (by decide) (by decide) dX8_placeOn_41 trivial
  · refine z_iconst (pc := 12) (z := 2) X dX8_placeOn_12 rfl ⟨by decide, by decide⟩ ?_
    refine z_iload_n (pc := 13) (i := 1) 1 X dX8_placeOn_13 rfl rfl ?_
    refine z_imul (pc := 14) X dX8_placeOn_14 (fun v10 _ _ => ?_)
    refine z_goto (pc := 15) 41 X dX8_placeOn_15 (by decide) ?_
    refine z_fin (fun e9 => ?_)
    subst e9
    exact hret _ _ _ _ (by decide) (by decide) dX8_placeOn_41 trivial
def X8_moves (hp : zH) (a0 : Option Nat) (a1 : Int) (a2 : Int) (a3 : Int) : Option (Int × zH) :=
  (zdiv a1 2).bind fun v1 =>
  ((zobj hp a0 9).bind fun _ => X8_placeOn hp a0 v1 a2).bind fun x2 =>
  if x2 = (-1) then
    (zgR hp a0 9 9).bind fun v3 =>
    (zaI hp 0 v3 a1).bind fun v4 =>
    (zchk (a3 + v4)).bind fun v5 =>
    (zgR hp a0 9 8).bind fun v6 =>
    (zsI hp 0 v6 a1 ((-1))).bind fun h7 =>
    (zgR h7 a0 9 10).bind fun v8 =>
    (zaI h7 3 v8 a1).bind fun v9 =>
    ((zobj h7 a0 9).bind fun _ => X8_comes h7 a0 a2 v1 v5 v9).bind fun x10 =>
    if x10 < 0 then
      if x10 < 0 then
        some (0, h7)
      else
        some (1, h7)
    else
      (zgR h7 a0 9 10).bind fun v11 =>
      (zaI h7 3 v11 a1).bind fun v12 =>
      ((zobj h7 a0 9).bind fun _ => X8_puts h7 a0 a1 a2 v5 v12 x10).bind fun x13 =>
      if x10 < 0 then
        some (0, x13)
      else
        some (1, x13)
  else
    (zgR hp a0 9 9).bind fun v14 =>
    (zaI hp 0 v14 x2).bind fun v15 =>
    (zgR hp a0 9 10).bind fun v16 =>
    (zaI hp 3 v16 x2).bind fun v17 =>
    (zgR hp a0 9 11).bind fun v18 =>
    (zaI hp 0 v18 x2).bind fun v19 =>
    (zgR hp a0 9 8).bind fun v20 =>
    (zchk (2 * v1)).bind fun v21 =>
    (zchk (v21 + 1)).bind fun v22 =>
    (zsI hp 0 v20 v22 ((-1))).bind fun h23 =>
    (zgR h23 a0 9 11).bind fun v24 =>
    (zchk (2 * v1)).bind fun v25 =>
    (zchk (v25 + 1)).bind fun v26 =>
    (zsI h23 0 v24 v26 ((-1))).bind fun h27 =>
    (zchk (2 * v1)).bind fun v28 =>
    ((zobj h27 a0 9).bind fun _ => X8_puts h27 a0 v28 a2 v15 v17 v19).bind fun x29 =>
    some (1, x29)
set_option maxRecDepth 20000 in
theorem c_X8_moves (hp : zH) (a0 : Option Nat) (a1 : Int) (a2 : Int) (a3 : Int) : ∀ r, X8_moves hp a0 a1 a2 a3 = some r → zMi yX8_moves (Cond.code yX8_moves cX8_moves 9 (some .boolean) :: zALL) { frames := 3, cells := 0, slots := 0, locals := 77 } 0 0 [zR a0, zI a1, zI a2, zI a3] hp r.1 r.2 := by
  refine zMi_of (own := RX8) (cc := cX8_moves) (maxL := 9) (ε := (Int × zH)) (res := fun r => r.1) (hp2 := fun r => r.2) (by decide) rfl (Or.inr (Or.inl rfl)) (by exact Nat.le_of_ble_eq_true rfl) ?_
  intro K r0 X hnL hret
  have hN : ∀ i, i < 9 → i < K.2.2.2.2.2.2.2.2.2.2.2.2.2.2.1 := by rw [hnL]; exact fun _ h => h
  show zS _ _ (zJ K 0 0 0 [(0, zR a0), (1, zI a1), (2, zI a2), (3, zI a3)] [] hp)
  unfold X8_moves
  refine z_iload_n (pc := 0) (i := 1) 1 X dX8_moves_0 rfl rfl ?_
  refine z_iconst (pc := 1) (z := 2) X dX8_moves_1 rfl ⟨by decide, by decide⟩ ?_
  refine z_idiv (pc := 2) X dX8_moves_2 (fun v1 => ?_)
  refine z_istore (pc := 3) (i := 4) (lv' := [(4, zI v1), (0, zR a0), (1, zI a1), (2, zI a2), (3, zI a3)]) X dX8_moves_3 (hN _ (by decide)) rfl ?_
  refine z_aload_n (pc := 5) (i := 0) 1 X dX8_moves_5 rfl rfl ?_
  refine z_iload (pc := 6) (i := 4) 0 X dX8_moves_6 rfl ?_
  refine z_iload_n (pc := 8) (i := 2) 3 X dX8_moves_8 rfl rfl ?_
  refine z_callV_i (pc := 9) (cells := 0) (slots := 0) (C := RX8) (T := TX8) (N := 30) (ci := 9) [zI v1, zI a2] X dX8_moves_9 (c_X8_placeOn hp a0 v1 a2) kw_X8_124 rfl rfl ⟨rfl, rfl, ⟨by decide, by decide⟩, ⟨by decide, by decide⟩⟩ (Nat.le_of_ble_eq_true rfl) rfl (fun x2 => ?_)
  refine z_istore (pc := 12) (i := 5) (lv' := [(5, zI x2), (4, zI v1), (0, zR a0), (1, zI a1), (2, zI a2), (3, zI a3)]) X dX8_moves_12 (hN _ (by decide)) rfl ?_
  refine z_iload (pc := 14) (i := 5) 0 X dX8_moves_14 rfl ?_
  refine z_iconst (pc := 16) (z := -1) X dX8_moves_16 rfl ⟨by decide, by decide⟩ ?_
  refine z_icmp_eq (pc := 17) 88 X dX8_moves_17 (by decide) (fun _ => ?_) (fun _ => ?_)
  · refine z_iload_n (pc := 88) (i := 3) 5 X dX8_moves_88 rfl rfl ?_
    refine z_aload_n (pc := 89) (i := 0) 2 X dX8_moves_89 rfl rfl ?_
    refine z_getR (pc := 90) (C := RX8) (T := TX8) (N := 30) (ci := 9) 9 X dX8_moves_90 inz_X8 rfl (by decide) fw_X8_37 (fun v3 => ?_)
    refine z_iload_n (pc := 93) (i := 1) 3 X dX8_moves_93 rfl rfl ?_
    refine z_iaload (pc := 94) X dX8_moves_94 (fun v4 => ?_)
    refine z_iadd (pc := 95) X dX8_moves_95 (fun v5 _ _ => ?_)
    refine z_istore (pc := 96) (i := 6) (lv' := [(6, zI v5), (5, zI x2), (4, zI v1), (0, zR a0), (1, zI a1), (2, zI a2), (3, zI a3)]) X dX8_moves_96 (hN _ (by decide)) rfl ?_
    refine z_aload_n (pc := 98) (i := 0) 3 X dX8_moves_98 rfl rfl ?_
    refine z_getR (pc := 99) (C := RX8) (T := TX8) (N := 30) (ci := 9) 8 X dX8_moves_99 inz_X8 rfl (by decide) fw_X8_34 (fun v6 => ?_)
    refine z_iload_n (pc := 102) (i := 1) 4 X dX8_moves_102 rfl rfl ?_
    refine z_iconst (pc := 103) (z := -1) X dX8_moves_103 rfl ⟨by decide, by decide⟩ ?_
    refine z_iastore (pc := 104) X dX8_moves_104 (fun h7 => ?_)
    refine z_aload_n (pc := 105) (i := 0) 3 X dX8_moves_105 rfl rfl ?_
    refine z_iload_n (pc := 106) (i := 2) 5 X dX8_moves_106 rfl rfl ?_
    refine z_iload (pc := 107) (i := 4) 2 X dX8_moves_107 rfl ?_
    refine z_iload (pc := 109) (i := 6) 0 X dX8_moves_109 rfl ?_
    refine z_aload_n (pc := 111) (i := 0) 3 X dX8_moves_111 rfl rfl ?_
    refine z_getR (pc := 112) (C := RX8) (T := TX8) (N := 30) (ci := 9) 10 X dX8_moves_112 inz_X8 rfl (by decide) fw_X8_40 (fun v8 => ?_)
    refine z_iload_n (pc := 115) (i := 1) 4 X dX8_moves_115 rfl rfl ?_
    refine z_caload (pc := 116) X dX8_moves_116 (fun v9 => ?_)
    refine z_callV_i (pc := 117) (cells := 0) (slots := 0) (C := RX8) (T := TX8) (N := 30) (ci := 9) [zI a2, zI v1, zI v5, zI v9] X dX8_moves_117 (c_X8_comes h7 a0 a2 v1 v5 v9) kw_X8_161 rfl rfl ⟨rfl, rfl, ⟨by decide, by decide⟩, ⟨by decide, by decide⟩⟩ (Nat.le_of_ble_eq_true rfl) rfl (fun x10 => ?_)
    refine z_istore (pc := 120) (i := 7) (lv' := [(7, zI x10), (6, zI v5), (5, zI x2), (4, zI v1), (0, zR a0), (1, zI a1), (2, zI a2), (3, zI a3)]) X dX8_moves_120 (hN _ (by decide)) rfl ?_
    refine z_iload (pc := 122) (i := 7) 0 X dX8_moves_122 rfl ?_
    refine z_if_lt (pc := 124) 143 X dX8_moves_124 (by decide) (fun _ => ?_) (fun _ => ?_)
    · refine z_iload (pc := 143) (i := 7) 0 X dX8_moves_143 rfl ?_
      refine z_if_lt (pc := 145) 152 X dX8_moves_145 (by decide) (fun _ => ?_) (fun _ => ?_)
      · refine z_iconst (pc := 152) (z := 0) X dX8_moves_152 rfl ⟨by decide, by decide⟩ ?_
        refine z_fin (fun e9 => ?_)
        subst e9
        exact hret _ _ _ _ (by decide) (by decide) dX8_moves_153 (Or.inl rfl)
      · refine z_iconst (pc := 148) (z := 1) X dX8_moves_148 rfl ⟨by decide, by decide⟩ ?_
        refine z_goto (pc := 149) 153 X dX8_moves_149 (by decide) ?_
        refine z_fin (fun e9 => ?_)
        subst e9
        exact hret _ _ _ _ (by decide) (by decide) dX8_moves_153 (Or.inr rfl)
    · refine z_aload_n (pc := 127) (i := 0) 4 X dX8_moves_127 rfl rfl ?_
      refine z_iload_n (pc := 128) (i := 1) 5 X dX8_moves_128 rfl rfl ?_
      refine z_iload_n (pc := 129) (i := 2) 6 X dX8_moves_129 rfl rfl ?_
      refine z_iload (pc := 130) (i := 6) 1 X dX8_moves_130 rfl ?_
      refine z_aload_n (pc := 132) (i := 0) 4 X dX8_moves_132 rfl rfl ?_
      refine z_getR (pc := 133) (C := RX8) (T := TX8) (N := 30) (ci := 9) 10 X dX8_moves_133 inz_X8 rfl (by decide) fw_X8_40 (fun v11 => ?_)
      refine z_iload_n (pc := 136) (i := 1) 5 X dX8_moves_136 rfl rfl ?_
      refine z_caload (pc := 137) X dX8_moves_137 (fun v12 => ?_)
      refine z_iload (pc := 138) (i := 7) 0 X dX8_moves_138 rfl ?_
      refine z_callV_v (pc := 140) (cells := 0) (slots := 0) (C := RX8) (T := TX8) (N := 30) (ci := 9) [zI a1, zI a2, zI v5, zI v12, zI x10] X dX8_moves_140 (c_X8_puts h7 a0 a1 a2 v5 v12 x10) kw_X8_165 rfl rfl ⟨rfl, rfl, ⟨by decide, by decide⟩, ⟨by decide, by decide⟩⟩ (Nat.le_of_ble_eq_true rfl) rfl (fun x13 => ?_)
      refine z_iload (pc := 143) (i := 7) 0 X dX8_moves_143 rfl ?_
      refine z_if_lt (pc := 145) 152 X dX8_moves_145 (by decide) (fun _ => ?_) (fun _ => ?_)
      · refine z_iconst (pc := 152) (z := 0) X dX8_moves_152 rfl ⟨by decide, by decide⟩ ?_
        refine z_fin (fun e9 => ?_)
        subst e9
        exact hret _ _ _ _ (by decide) (by decide) dX8_moves_153 (Or.inl rfl)
      · refine z_iconst (pc := 148) (z := 1) X dX8_moves_148 rfl ⟨by decide, by decide⟩ ?_
        refine z_goto (pc := 149) 153 X dX8_moves_149 (by decide) ?_
        refine z_fin (fun e9 => ?_)
        subst e9
        exact hret _ _ _ _ (by decide) (by decide) dX8_moves_153 (Or.inr rfl)
  · refine z_aload_n (pc := 20) (i := 0) 2 X dX8_moves_20 rfl rfl ?_
    refine z_getR (pc := 21) (C := RX8) (T := TX8) (N := 30) (ci := 9) 9 X dX8_moves_21 inz_X8 rfl (by decide) fw_X8_37 (fun v14 => ?_)
    refine z_iload (pc := 24) (i := 5) 0 X dX8_moves_24 rfl ?_
    refine z_iaload (pc := 26) X dX8_moves_26 (fun v15 => ?_)
    refine z_istore (pc := 27) (i := 6) (lv' := [(6, zI v15), (5, zI x2), (4, zI v1), (0, zR a0), (1, zI a1), (2, zI a2), (3, zI a3)]) X dX8_moves_27 (hN _ (by decide)) rfl ?_
    refine z_aload_n (pc := 29) (i := 0) 3 X dX8_moves_29 rfl rfl ?_
    refine z_getR (pc := 30) (C := RX8) (T := TX8) (N := 30) (ci := 9) 10 X dX8_moves_30 inz_X8 rfl (by decide) fw_X8_40 (fun v16 => ?_)
    refine z_iload (pc := 33) (i := 5) 1 X dX8_moves_33 rfl ?_
    refine z_caload (pc := 35) X dX8_moves_35 (fun v17 => ?_)
    refine z_istore (pc := 36) (i := 7) (lv' := [(7, zI v17), (6, zI v15), (5, zI x2), (4, zI v1), (0, zR a0), (1, zI a1), (2, zI a2), (3, zI a3)]) X dX8_moves_36 (hN _ (by decide)) rfl ?_
    refine z_aload_n (pc := 38) (i := 0) 4 X dX8_moves_38 rfl rfl ?_
    refine z_getR (pc := 39) (C := RX8) (T := TX8) (N := 30) (ci := 9) 11 X dX8_moves_39 inz_X8 rfl (by decide) fw_X8_43 (fun v18 => ?_)
    refine z_iload (pc := 42) (i := 5) 2 X dX8_moves_42 rfl ?_
    refine z_iaload (pc := 44) X dX8_moves_44 (fun v19 => ?_)
    refine z_istore (pc := 45) (i := 8) (lv' := [(8, zI v19), (7, zI v17), (6, zI v15), (5, zI x2), (4, zI v1), (0, zR a0), (1, zI a1), (2, zI a2), (3, zI a3)]) X dX8_moves_45 (hN _ (by decide)) rfl ?_
    refine z_aload_n (pc := 47) (i := 0) 5 X dX8_moves_47 rfl rfl ?_
    refine z_getR (pc := 48) (C := RX8) (T := TX8) (N := 30) (ci := 9) 8 X dX8_moves_48 inz_X8 rfl (by decide) fw_X8_34 (fun v20 => ?_)
    refine z_iconst (pc := 51) (z := 2) X dX8_moves_51 rfl ⟨by decide, by decide⟩ ?_
    refine z_iload (pc := 52) (i := 4) 4 X dX8_moves_52 rfl ?_
    refine z_imul (pc := 54) X dX8_moves_54 (fun v21 _ _ => ?_)
    refine z_iconst (pc := 55) (z := 1) X dX8_moves_55 rfl ⟨by decide, by decide⟩ ?_
    refine z_iadd (pc := 56) X dX8_moves_56 (fun v22 _ _ => ?_)
    refine z_iconst (pc := 57) (z := -1) X dX8_moves_57 rfl ⟨by decide, by decide⟩ ?_
    refine z_iastore (pc := 58) X dX8_moves_58 (fun h23 => ?_)
    refine z_aload_n (pc := 59) (i := 0) 5 X dX8_moves_59 rfl rfl ?_
    refine z_getR (pc := 60) (C := RX8) (T := TX8) (N := 30) (ci := 9) 11 X dX8_moves_60 inz_X8 rfl (by decide) fw_X8_43 (fun v24 => ?_)
    refine z_iconst (pc := 63) (z := 2) X dX8_moves_63 rfl ⟨by decide, by decide⟩ ?_
    refine z_iload (pc := 64) (i := 4) 4 X dX8_moves_64 rfl ?_
    refine z_imul (pc := 66) X dX8_moves_66 (fun v25 _ _ => ?_)
    refine z_iconst (pc := 67) (z := 1) X dX8_moves_67 rfl ⟨by decide, by decide⟩ ?_
    refine z_iadd (pc := 68) X dX8_moves_68 (fun v26 _ _ => ?_)
    refine z_iconst (pc := 69) (z := -1) X dX8_moves_69 rfl ⟨by decide, by decide⟩ ?_
    refine z_iastore (pc := 70) X dX8_moves_70 (fun h27 => ?_)
    refine z_aload_n (pc := 71) (i := 0) 5 X dX8_moves_71 rfl rfl ?_
    refine z_iconst (pc := 72) (z := 2) X dX8_moves_72 rfl ⟨by decide, by decide⟩ ?_
    refine z_iload (pc := 73) (i := 4) 4 X dX8_moves_73 rfl ?_
    refine z_imul (pc := 75) X dX8_moves_75 (fun v28 _ _ => ?_)
    refine z_iload_n (pc := 76) (i := 2) 7 X dX8_moves_76 rfl rfl ?_
    refine z_iload (pc := 77) (i := 6) 2 X dX8_moves_77 rfl ?_
    refine z_iload (pc := 79) (i := 7) 1 X dX8_moves_79 rfl ?_
    refine z_iload (pc := 81) (i := 8) 0 X dX8_moves_81 rfl ?_
    refine z_callV_v (pc := 83) (cells := 0) (slots := 0) (C := RX8) (T := TX8) (N := 30) (ci := 9) [zI v28, zI a2, zI v15, zI v17, zI v19] X dX8_moves_83 (c_X8_puts h27 a0 v28 a2 v15 v17 v19) kw_X8_165 rfl rfl ⟨rfl, rfl, ⟨by decide, by decide⟩, ⟨by decide, by decide⟩⟩ (Nat.le_of_ble_eq_true rfl) rfl (fun x29 => ?_)
    refine z_iconst (pc := 86) (z := 1) X dX8_moves_86 rfl ⟨by decide, by decide⟩ ?_
    refine z_fin (fun e9 => ?_)
    subst e9
    exact hret _ _ _ _ (by decide) (by decide) dX8_moves_87 (Or.inr rfl)
