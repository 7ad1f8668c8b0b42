/-! methods, as functions over the pure heap, and their contracts (by program) -/
def X8_until_j15 (hp : zH) (a0 : Option Nat) (a1 : Int) (j2 : Int) : Option (Int × zH) :=
  ((zobj hp a0 9).bind fun _ => X8_no hp a0 j2 1).bind fun x3 =>
  if x3.1 = 0 then
    (zgR x3.2 a0 9 18).bind fun v4 =>
    ((zobj x3.2 a0 9).bind fun _ => X8_latest x3.2 a0 a1).bind fun x5 =>
    (zaI x3.2 0 v4 x5).bind fun v6 =>
    some (v6, x3.2)
  else
    some (0, x3.2)
def X8_until (hp : zH) (a0 : Option Nat) (a1 : Int) : Option (Int × zH) :=
  ((zobj hp a0 9).bind fun _ => X8_latest hp a0 a1).bind fun x1 =>
  if x1 = (-1) then
    X8_until_j15 hp a0 a1 0
  else
    X8_until_j15 hp a0 a1 1
set_option maxRecDepth 20000 in
theorem c_X8_until (hp : zH) (a0 : Option Nat) (a1 : Int) : ∀ r, X8_until hp a0 a1 = some r → zMi yX8_until (Cond.code yX8_until cX8_until 2 (some .int) :: zALL) { frames := 1, cells := 0, slots := 0, locals := 23 } 0 0 [zR a0, zI a1] hp r.1 r.2 := by
  refine zMi_of (own := RX8) (cc := cX8_until) (maxL := 2) (ε := (Int × zH)) (res := fun r => r.1) (hp2 := fun r => r.2) (by decide) rfl (Or.inl rfl) (by exact Nat.le_of_ble_eq_true rfl) ?_
  intro K r0 X hnL hret
  have hN : ∀ i, i < 2 → i < K.2.2.2.2.2.2.2.2.2.2.2.2.2.2.1 := by rw [hnL]; exact fun _ h => h
  show zS _ _ (zJ K 0 0 0 [(0, zR a0), (1, zI a1)] [] hp)
  unfold X8_until
  refine z_aload_n (pc := 0) (i := 0) 0 X dX8_until_0 rfl rfl ?_
  refine z_aload_n (pc := 1) (i := 0) 0 X dX8_until_1 rfl rfl ?_
  refine z_iload_n (pc := 2) (i := 1) 1 X dX8_until_2 rfl rfl ?_
  refine z_callV_i (pc := 3) (cells := 0) (slots := 0) (C := RX8) (T := TX8) (N := 30) (ci := 9) [zI a1] X dX8_until_3 (c_X8_latest hp a0 a1) kw_X8_206 rfl rfl ⟨rfl, rfl, ⟨by decide, by decide⟩, ⟨by decide, by decide⟩⟩ (Nat.le_of_ble_eq_true rfl) rfl (fun x1 => ?_)
  refine z_iconst (pc := 6) (z := -1) X dX8_until_6 rfl ⟨by decide, by decide⟩ ?_
  have hJ15 : ∀ (j2 : Int), zS (X8_until_j15 hp a0 a1 j2) (fun r => r = r0) (zJ K 0 0 15 [(0, zR a0), (1, zI a1)] [zI j2, zR a0] hp) := by
    intro j2
    unfold X8_until_j15
    refine z_iconst (pc := 15) (z := 1) X dX8_until_15 rfl ⟨by decide, by decide⟩ ?_
    refine z_callV_i (pc := 16) (cells := 0) (slots := 0) (C := RX8) (T := TX8) (N := 30) (ci := 9) [zI j2, zI 1] X dX8_until_16 (c_X8_no hp a0 j2 1) kw_X8_93 rfl rfl ⟨rfl, rfl, ⟨by decide, by decide⟩, ⟨by decide, by decide⟩⟩ (Nat.le_of_ble_eq_true rfl) rfl (fun x3 => ?_)
    refine z_if_eq (pc := 19) 26 X dX8_until_19 (by decide) (fun _ => ?_) (fun _ => ?_)
    · refine z_aload_n (pc := 26) (i := 0) 0 X dX8_until_26 rfl rfl ?_
      refine z_getR (pc := 27) (C := RX8) (T := TX8) (N := 30) (ci := 9) 18 X dX8_until_27 inz_X8 rfl (by decide) fw_X8_61 (fun v4 => ?_)
      refine z_aload_n (pc := 30) (i := 0) 0 X dX8_until_30 rfl rfl ?_
      refine z_iload_n (pc := 31) (i := 1) 1 X dX8_until_31 rfl rfl ?_
      refine z_callV_i (pc := 32) (cells := 0) (slots := 0) (C := RX8) (T := TX8) (N := 30) (ci := 9) [zI a1] X dX8_until_32 (c_X8_latest x3.2 a0 a1) kw_X8_206 rfl rfl ⟨rfl, rfl, ⟨by decide, by decide⟩, ⟨by decide, by decide⟩⟩ (Nat.le_of_ble_eq_true rfl) rfl (fun x5 => ?_)
      refine z_iaload (pc := 35) X dX8_until_35 (fun v6 => ?_)
      refine z_fin (fun e9 => ?_)
      subst e9
      exact hret _ _ _ _ (by decide) (by decide) dX8_until_36 trivial
    · refine z_iconst (pc := 22) (z := 0) X dX8_until_22 rfl ⟨by decide, by decide⟩ ?_
      refine z_goto (pc := 23) 36 X dX8_until_23 (by decide) ?_
      refine z_fin (fun e9 => ?_)
      subst e9
      exact hret _ _ _ _ (by decide) (by decide) dX8_until_36 trivial
  refine z_icmp_eq (pc := 7) 14 X dX8_until_7 (by decide) (fun _ => ?_) (fun _ => ?_)
  · refine z_iconst (pc := 14) (z := 0) X dX8_until_14 rfl ⟨by decide, by decide⟩ ?_
    exact hJ15 0
  · refine z_iconst (pc := 10) (z := 1) X dX8_until_10 rfl ⟨by decide, by decide⟩ ?_
    refine z_goto (pc := 11) 15 X dX8_until_11 (by decide) ?_
    exact hJ15 1
def X8_walk (hp : zH) (a0 : Option Nat) (a1 : Int) (a2 : Int) : Option (Int × zH) :=
  ((zobj hp a0 9).bind fun _ => X8_isStreet hp a0 a1).bind fun x1 =>
  ((zobj hp a0 9).bind fun _ => X8_no hp a0 x1 1).bind fun x2 =>
  if x2.1 = 0 then
    ((zobj x2.2 a0 9).bind fun _ => X8_walks x2.2 a0 a1).bind fun x3 =>
    (zgI x3 a0 9 25).bind fun v4 =>
    (zchk (v4 - 1)).bind fun v5 =>
    (X8_isBetween x3 a2 0 v5).bind fun x6 =>
    ((zobj x3 a0 9).bind fun _ => X8_no x3 a0 x6 2).bind fun x7 =>
    if x7.1 = 0 then
      (zgR x7.2 a0 9 24).bind fun v8 =>
      (zaI x7.2 0 v8 a2).bind fun v9 =>
      (zdiv v9 2).bind fun v10 =>
      some (v10, x7.2)
    else
      some (0, x7.2)
  else
    some (0, x2.2)
set_option maxRecDepth 20000 in
theorem c_X8_walk (hp : zH) (a0 : Option Nat) (a1 : Int) (a2 : Int) : ∀ r, X8_walk hp a0 a1 a2 = some r → zMi yX8_walk (Cond.code yX8_walk cX8_walk 3 (some .int) :: zALL) { frames := 2, cells := 0, slots := 0, locals := 45 } 0 0 [zR a0, zI a1, zI a2] hp r.1 r.2 := by
  refine zMi_of (own := RX8) (cc := cX8_walk) (maxL := 3) (ε := (Int × zH)) (res := fun r => r.1) (hp2 := fun r => r.2) (by decide) rfl (Or.inl rfl) (by exact Nat.le_of_ble_eq_true rfl) ?_
  intro K r0 X hnL hret
  have hN : ∀ i, i < 3 → i < K.2.2.2.2.2.2.2.2.2.2.2.2.2.2.1 := by rw [hnL]; exact fun _ h => h
  show zS _ _ (zJ K 0 0 0 [(0, zR a0), (1, zI a1), (2, zI a2)] [] hp)
  unfold X8_walk
  refine z_aload_n (pc := 0) (i := 0) 0 X dX8_walk_0 rfl rfl ?_
  refine z_aload_n (pc := 1) (i := 0) 0 X dX8_walk_1 rfl rfl ?_
  refine z_iload_n (pc := 2) (i := 1) 1 X dX8_walk_2 rfl rfl ?_
  refine z_callV_i (pc := 3) (cells := 0) (slots := 0) (C := RX8) (T := TX8) (N := 30) (ci := 9) [zI a1] X dX8_walk_3 (c_X8_isStreet hp a0 a1) kw_X8_132 rfl rfl ⟨rfl, rfl, ⟨by decide, by decide⟩, ⟨by decide, by decide⟩⟩ (Nat.le_of_ble_eq_true rfl) rfl (fun x1 => ?_)
  refine z_iconst (pc := 6) (z := 1) X dX8_walk_6 rfl ⟨by decide, by decide⟩ ?_
  refine z_callV_i (pc := 7) (cells := 0) (slots := 0) (C := RX8) (T := TX8) (N := 30) (ci := 9) [zI x1, zI 1] X dX8_walk_7 (c_X8_no hp a0 x1 1) kw_X8_93 rfl rfl ⟨rfl, rfl, ⟨by decide, by decide⟩, ⟨by decide, by decide⟩⟩ (Nat.le_of_ble_eq_true rfl) rfl (fun x2 => ?_)
  refine z_if_eq (pc := 10) 15 X dX8_walk_10 (by decide) (fun _ => ?_) (fun _ => ?_)
  · refine z_aload_n (pc := 15) (i := 0) 0 X dX8_walk_15 rfl rfl ?_
    refine z_iload_n (pc := 16) (i := 1) 1 X dX8_walk_16 rfl rfl ?_
    refine z_callV_v (pc := 17) (cells := 0) (slots := 0) (C := RX8) (T := TX8) (N := 30) (ci := 9) [zI a1] X dX8_walk_17 (c_X8_walks x2.2 a0 a1) kw_X8_218 rfl rfl ⟨rfl, rfl, ⟨by decide, by decide⟩, ⟨by decide, by decide⟩⟩ (Nat.le_of_ble_eq_true rfl) rfl (fun x3 => ?_)
    refine z_aload_n (pc := 20) (i := 0) 0 X dX8_walk_20 rfl rfl ?_
    refine z_iload_n (pc := 21) (i := 2) 2 X dX8_walk_21 rfl rfl ?_
    refine z_iconst (pc := 22) (z := 0) X dX8_walk_22 rfl ⟨by decide, by decide⟩ ?_
    refine z_aload_n (pc := 23) (i := 0) 0 X dX8_walk_23 rfl rfl ?_
    refine z_getI (pc := 24) (C := RX8) (T := TX8) (N := 30) (ci := 9) 25 X dX8_walk_24 inz_X8 rfl (by decide) fw_X8_212 (fun v4 => ?_)
    refine z_iconst (pc := 27) (z := 1) X dX8_walk_27 rfl ⟨by decide, by decide⟩ ?_
    refine z_isub (pc := 28) X dX8_walk_28 (fun v5 _ _ => ?_)
    refine z_callS_i (pc := 29) (cells := 0) (slots := 0) [zI a2, zI 0, zI v5] X dX8_walk_29 (c_X8_isBetween x3 a2 0 v5) kw_X8_86 rfl ⟨rfl, rfl, ⟨by decide, by decide⟩, ⟨by decide, by decide⟩⟩ (Nat.le_of_ble_eq_true rfl) rfl (fun x6 => ?_)
    refine z_iconst (pc := 32) (z := 2) X dX8_walk_32 rfl ⟨by decide, by decide⟩ ?_
    refine z_callV_i (pc := 33) (cells := 0) (slots := 0) (C := RX8) (T := TX8) (N := 30) (ci := 9) [zI x6, zI 2] X dX8_walk_33 (c_X8_no x3 a0 x6 2) kw_X8_93 rfl rfl ⟨rfl, rfl, ⟨by decide, by decide⟩, ⟨by decide, by decide⟩⟩ (Nat.le_of_ble_eq_true rfl) rfl (fun x7 => ?_)
    refine z_if_eq (pc := 36) 43 X dX8_walk_36 (by decide) (fun _ => ?_) (fun _ => ?_)
    · refine z_aload_n (pc := 43) (i := 0) 0 X dX8_walk_43 rfl rfl ?_
      refine z_getR (pc := 44) (C := RX8) (T := TX8) (N := 30) (ci := 9) 24 X dX8_walk_44 inz_X8 rfl (by decide) fw_X8_76 (fun v8 => ?_)
      refine z_iload_n (pc := 47) (i := 2) 2 X dX8_walk_47 rfl rfl ?_
      refine z_iaload (pc := 48) X dX8_walk_48 (fun v9 => ?_)
      refine z_iconst (pc := 49) (z := 2) X dX8_walk_49 rfl ⟨by decide, by decide⟩ ?_
      refine z_idiv (pc := 50) X dX8_walk_50 (fun v10 => ?_)
      refine z_fin (fun e9 => ?_)
      subst e9
      exact hret _ _ _ _ (by decide) (by decide) dX8_walk_51 trivial
    · refine z_iconst (pc := 39) (z := 0) X dX8_walk_39 rfl ⟨by decide, by decide⟩ ?_
      refine z_goto (pc := 40) 51 X dX8_walk_40 (by decide) ?_
      refine z_fin (fun e9 => ?_)
      subst e9
      exact hret _ _ _ _ (by decide) (by decide) dX8_walk_51 trivial
  · refine z_iconst (pc := 13) (z := 0) X dX8_walk_13 rfl ⟨by decide, by decide⟩ ?_
    refine z_fin (fun e9 => ?_)
    subst e9
    exact hret _ _ _ _ (by decide) (by decide) dX8_walk_14 trivial
def X8_way (hp : zH) (a0 : Option Nat) (a1 : Int) (a2 : Int) (a3 : Int) : Option (Int × zH) :=
  ((zobj hp a0 9).bind fun _ => X8_isStreet hp a0 a1).bind fun x1 =>
  ((zobj hp a0 9).bind fun _ => X8_no hp a0 x1 1).bind fun x2 =>
  if x2.1 = 0 then
    (X8_isWay x2.2 a2).bind fun x3 =>
    ((zobj x2.2 a0 9).bind fun _ => X8_no x2.2 a0 x3 2).bind fun x4 =>
    if x4.1 = 0 then
      (zgR x4.2 a0 9 3).bind fun v5 =>
      (zaI x4.2 3 v5 a1).bind fun v6 =>
      (zgR x4.2 a0 9 3).bind fun v7 =>
      (zsI x4.2 3 v7 a1 a2).bind fun h8 =>
      (zgR h8 a0 9 4).bind fun v9 =>
      (zsI h8 2 v9 a1 a3).bind fun h10 =>
      (zchkC v6).bind fun _ =>
      some (v6, h10)
    else
      some (45, x4.2)
  else
    some (45, x2.2)
set_option maxRecDepth 20000 in
theorem c_X8_way (hp : zH) (a0 : Option Nat) (a1 : Int) (a2 : Int) (a3 : Int) : ∀ r, X8_way hp a0 a1 a2 a3 = some r → zMi yX8_way (Cond.code yX8_way cX8_way 5 (some .char) :: zALL) { frames := 2, cells := 0, slots := 0, locals := 43 } 0 0 [zR a0, zI a1, zI a2, zI a3] hp r.1 r.2 := by
  refine zMi_of (own := RX8) (cc := cX8_way) (maxL := 5) (ε := (Int × zH)) (res := fun r => r.1) (hp2 := fun r => r.2) (by decide) rfl (Or.inr (Or.inr rfl)) (by exact Nat.le_of_ble_eq_true rfl) ?_
  intro K r0 X hnL hret
  have hN : ∀ i, i < 5 → i < K.2.2.2.2.2.2.2.2.2.2.2.2.2.2.1 := by rw [hnL]; exact fun _ h => h
  show zS _ _ (zJ K 0 0 0 [(0, zR a0), (1, zI a1), (2, zI a2), (3, zI a3)] [] hp)
  unfold X8_way
  refine z_aload_n (pc := 0) (i := 0) 0 X dX8_way_0 rfl rfl ?_
  refine z_aload_n (pc := 1) (i := 0) 0 X dX8_way_1 rfl rfl ?_
  refine z_iload_n (pc := 2) (i := 1) 1 X dX8_way_2 rfl rfl ?_
  refine z_callV_i (pc := 3) (cells := 0) (slots := 0) (C := RX8) (T := TX8) (N := 30) (ci := 9) [zI a1] X dX8_way_3 (c_X8_isStreet hp a0 a1) kw_X8_132 rfl rfl ⟨rfl, rfl, ⟨by decide, by decide⟩, ⟨by decide, by decide⟩⟩ (Nat.le_of_ble_eq_true rfl) rfl (fun x1 => ?_)
  refine z_iconst (pc := 6) (z := 1) X dX8_way_6 rfl ⟨by decide, by decide⟩ ?_
  refine z_callV_i (pc := 7) (cells := 0) (slots := 0) (C := RX8) (T := TX8) (N := 30) (ci := 9) [zI x1, zI 1] X dX8_way_7 (c_X8_no hp a0 x1 1) kw_X8_93 rfl rfl ⟨rfl, rfl, ⟨by decide, by decide⟩, ⟨by decide, by decide⟩⟩ (Nat.le_of_ble_eq_true rfl) rfl (fun x2 => ?_)
  refine z_if_ne (pc := 10) 25 X dX8_way_10 (by decide) (fun _ => ?_) (fun _ => ?_)
  · refine z_bipush (pc := 25) (z := 45) X dX8_way_25 rfl ⟨by decide, by decide⟩ ?_
    refine z_fin (fun e9 => ?_)
    subst e9
    exact hret _ _ _ _ (by decide) (by decide) dX8_way_27 (show (0 : Int) ≤ 45 ∧ (45 : Int) ≤ 65535 from ⟨by decide, by decide⟩)
  · refine z_aload_n (pc := 13) (i := 0) 0 X dX8_way_13 rfl rfl ?_
    refine z_iload_n (pc := 14) (i := 2) 2 X dX8_way_14 rfl rfl ?_
    refine z_callS_i (pc := 15) (cells := 0) (slots := 0) [zI a2] X dX8_way_15 (c_X8_isWay x2.2 a2) kw_X8_106 rfl ⟨rfl, rfl, ⟨by decide, by decide⟩, ⟨by decide, by decide⟩⟩ (Nat.le_of_ble_eq_true rfl) rfl (fun x3 => ?_)
    refine z_iconst (pc := 18) (z := 2) X dX8_way_18 rfl ⟨by decide, by decide⟩ ?_
    refine z_callV_i (pc := 19) (cells := 0) (slots := 0) (C := RX8) (T := TX8) (N := 30) (ci := 9) [zI x3, zI 2] X dX8_way_19 (c_X8_no x2.2 a0 x3 2) kw_X8_93 rfl rfl ⟨rfl, rfl, ⟨by decide, by decide⟩, ⟨by decide, by decide⟩⟩ (Nat.le_of_ble_eq_true rfl) rfl (fun x4 => ?_)
    refine z_if_eq (pc := 22) 28 X dX8_way_22 (by decide) (fun _ => ?_) (fun _ => ?_)
    · refine z_aload_n (pc := 28) (i := 0) 0 X dX8_way_28 rfl rfl ?_
      refine z_getR (pc := 29) (C := RX8) (T := TX8) (N := 30) (ci := 9) 3 X dX8_way_29 inz_X8 rfl (by decide) fw_X8_20 (fun v5 => ?_)
      refine z_iload_n (pc := 32) (i := 1) 1 X dX8_way_32 rfl rfl ?_
      refine z_caload (pc := 33) X dX8_way_33 (fun v6 => ?_)
      refine z_istore (pc := 34) (i := 4) (lv' := [(4, zI v6), (0, zR a0), (1, zI a1), (2, zI a2), (3, zI a3)]) X dX8_way_34 (hN _ (by decide)) rfl ?_
      refine z_aload_n (pc := 36) (i := 0) 1 X dX8_way_36 rfl rfl ?_
      refine z_getR (pc := 37) (C := RX8) (T := TX8) (N := 30) (ci := 9) 3 X dX8_way_37 inz_X8 rfl (by decide) fw_X8_20 (fun v7 => ?_)
      refine z_iload_n (pc := 40) (i := 1) 2 X dX8_way_40 rfl rfl ?_
      refine z_iload_n (pc := 41) (i := 2) 3 X dX8_way_41 rfl rfl ?_
      refine z_castore (pc := 42) X dX8_way_42 (fun h8 => ?_)
      refine z_aload_n (pc := 43) (i := 0) 1 X dX8_way_43 rfl rfl ?_
      refine z_getR (pc := 44) (C := RX8) (T := TX8) (N := 30) (ci := 9) 4 X dX8_way_44 inz_X8 rfl (by decide) fw_X8_24 (fun v9 => ?_)
      refine z_iload_n (pc := 47) (i := 1) 2 X dX8_way_47 rfl rfl ?_
      refine z_iload_n (pc := 48) (i := 3) 4 X dX8_way_48 rfl rfl ?_
      refine z_zastore (pc := 49) X dX8_way_49 (fun h10 => ?_)
      refine z_iload (pc := 50) (i := 4) 0 X dX8_way_50 rfl ?_
      refine z_chkC (fun hf9 => ?_)
      refine z_fin (fun e9 => ?_)
      subst e9
      exact hret _ _ _ _ (by decide) (by decide) dX8_way_52 hf9
    · refine z_bipush (pc := 25) (z := 45) X dX8_way_25 rfl ⟨by decide, by decide⟩ ?_
      refine z_fin (fun e9 => ?_)
      subst e9
      exact hret _ _ _ _ (by decide) (by decide) dX8_way_27 (show (0 : Int) ≤ 45 ∧ (45 : Int) ≤ 65535 from ⟨by decide, by decide⟩)
