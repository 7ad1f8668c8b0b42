/-! methods, as functions over the pure heap, and their contracts (by program) -/
def X0_init (hp : zH) (a0 : Option Nat) (a1 : Int) (a2 : Option Nat) : Option zH :=
  a0.bind fun v1 =>
  (zpI hp a0 2 0 a1).bind fun h2 =>
  (zpR h2 a0 2 1 a2).bind fun h3 =>
  (zpR h3 a0 2 2 none).bind fun h4 =>
  (zpZ h4 a0 2 3 0).bind fun h5 =>
  (zpR h5 a0 2 4 none).bind fun h6 =>
  some h6
set_option maxRecDepth 20000 in
theorem c_X0_init (hp : zH) (a0 : Option Nat) (a1 : Int) (a2 : Option Nat) : ∀ r, X0_init hp a0 a1 a2 = some r → zMv yX0_init (Cond.code yX0_init cX0_init 3 none :: zALL) { frames := 1, cells := 0, slots := 0, locals := 24 } 0 0 [zR a0, zI a1, zR a2] hp r := by
  refine zMv_of (own := RX0) (cc := cX0_init) (maxL := 3) (hp2 := fun r => r) (by decide) rfl (by exact Nat.le_of_ble_eq_true rfl) ?_
  intro K r0 X hnL hnm9 hret
  have hN : ∀ i, i < 3 → i < K.2.2.2.2.2.2.2.2.2.2.2.2.2.2.1 := by rw [hnL]; exact fun _ h => h
  show zS _ _ (zJ K 0 0 0 [(0, zR a0), (1, zI a1), (2, zR a2)] [] hp)
  unfold X0_init
  refine z_aload_n (pc := 0) (i := 0) 0 X dX0_init_0 rfl rfl ?_
  refine z_objInitO (pc := 1) X dX0_init_1 (zin (zt3 129 (by decide +kernel)) rfl) (zin (zt1 29 (by decide +kernel)) rfl) (zin (zt1 30 (by decide +kernel)) rfl) (Nat.le_of_ble_eq_true rfl) (Nat.le_of_ble_eq_true rfl) (fun v1 => ?_)
  refine z_aload_n (pc := 4) (i := 0) 0 X dX0_init_4 rfl rfl ?_
  refine z_iload_n (pc := 5) (i := 1) 1 X dX0_init_5 rfl rfl ?_
  refine z_putFI (pc := 6) (C := RX0) (T := TX0) (N := 5) (ci := 2) 0 X dX0_init_6 inz_X0 tyX0_ok nmX0 rfl (by decide) fw_X0_9 rfl hnm9 rfl rfl (fun h2 => ?_)
  refine z_aload_n (pc := 9) (i := 0) 0 X dX0_init_9 rfl rfl ?_
  refine z_aload_n (pc := 10) (i := 2) 2 X dX0_init_10 rfl rfl ?_
  refine z_putR (pc := 11) (C := RX0) (T := TX0) (N := 5) (ci := 2) 1 X dX0_init_11 inz_X0 tyX0_ok nmX0 rfl (by decide) fw_X0_15 rfl ⟨_, Or.inl rfl⟩ (fun h3 => ?_)
  refine z_aload_n (pc := 14) (i := 0) 0 X dX0_init_14 rfl rfl ?_
  refine z_null (pc := 15) X dX0_init_15 ?_
  refine z_putR (pc := 16) (C := RX0) (T := TX0) (N := 5) (ci := 2) 2 X dX0_init_16 inz_X0 tyX0_ok nmX0 rfl (by decide) fw_X0_19 rfl ⟨_, Or.inl rfl⟩ (fun h4 => ?_)
  refine z_aload_n (pc := 19) (i := 0) 0 X dX0_init_19 rfl rfl ?_
  refine z_iconst (pc := 20) (z := 0) X dX0_init_20 rfl ⟨by decide, by decide⟩ ?_
  refine z_putZ (pc := 21) (C := RX0) (T := TX0) (N := 5) (ci := 2) 3 X dX0_init_21 inz_X0 tyX0_ok nmX0 rfl (by decide) fw_X0_22 rfl rfl (fun h5 => ?_)
  refine z_aload_n (pc := 24) (i := 0) 0 X dX0_init_24 rfl rfl ?_
  refine z_null (pc := 25) X dX0_init_25 ?_
  refine z_putR (pc := 26) (C := RX0) (T := TX0) (N := 5) (ci := 2) 4 X dX0_init_26 inz_X0 tyX0_ok nmX0 rfl (by decide) fw_X0_26 rfl ⟨_, Or.inl rfl⟩ (fun h6 => ?_)
  refine z_fin (fun e9 => ?_)
  subst e9
  exact hret _ _ _ _ (by decide) (by decide) dX0_init_29
def X6_hasName (hp : zH) (a0 : Option Nat) (a1 : Int64) : Option Int :=
  if (zcmp a1 0) = 0 then
    some 0
  else
    (zgJ hp a0 7 1).bind fun v1 =>
    if (zcmp a1 v1) = 0 then
      some 1
    else
      (zgJ hp a0 7 2).bind fun v2 =>
      if (zcmp a1 v2) = 0 then
        some 1
      else
        some 0
set_option maxRecDepth 20000 in
theorem c_X6_hasName (hp : zH) (a0 : Option Nat) (a1 : Int64) : ∀ r, X6_hasName hp a0 a1 = some r → zMi yX6_hasName (Cond.code yX6_hasName cX6_hasName 3 (some .boolean) :: zALL) { frames := 0, cells := 0, slots := 0, locals := 0 } 0 0 [zR a0, zL a1] hp r hp := by
  refine zMi_of (own := RX6) (cc := cX6_hasName) (maxL := 3) (res := fun r => r) (hp2 := fun _ => hp) (by decide) rfl (Or.inr (Or.inl rfl)) (by exact Nat.le_of_ble_eq_true rfl) ?_
  intro K r0 X hnL hret
  have hN : ∀ i, i < 3 → i < K.2.2.2.2.2.2.2.2.2.2.2.2.2.2.1 := by rw [hnL]; exact fun _ h => h
  show zS _ _ (zJ K 0 0 0 [(0, zR a0), (1, zL a1)] [] hp)
  unfold X6_hasName
  refine z_lload_n (pc := 0) (i := 1) 1 X dX6_hasName_0 rfl rfl ?_
  refine z_lconst (pc := 1) (z := 0) X dX6_hasName_1 rfl ?_
  refine z_lcmp (pc := 2) X dX6_hasName_2 ?_
  refine z_if_eq (pc := 3) 28 X dX6_hasName_3 (by decide) (fun _ => ?_) (fun _ => ?_)
  · refine z_iconst (pc := 28) (z := 0) X dX6_hasName_28 rfl ⟨by decide, by decide⟩ ?_
    refine z_fin (fun e9 => ?_)
    subst e9
    exact hret _ _ _ _ (by decide) (by decide) dX6_hasName_29 (Or.inl rfl)
  · refine z_lload_n (pc := 6) (i := 1) 1 X dX6_hasName_6 rfl rfl ?_
    refine z_aload_n (pc := 7) (i := 0) 0 X dX6_hasName_7 rfl rfl ?_
    refine z_getJ (pc := 8) (C := RX6) (T := TX6) (N := 8) (ci := 7) 1 X dX6_hasName_8 inz_X6 rfl (by decide) fw_X6_13 (fun v1 => ?_)
    refine z_lcmp (pc := 11) X dX6_hasName_11 ?_
    refine z_if_eq (pc := 12) 24 X dX6_hasName_12 (by decide) (fun _ => ?_) (fun _ => ?_)
    · refine z_iconst (pc := 24) (z := 1) X dX6_hasName_24 rfl ⟨by decide, by decide⟩ ?_
      refine z_goto (pc := 25) 29 X dX6_hasName_25 (by decide) ?_
      refine z_fin (fun e9 => ?_)
      subst e9
      exact hret _ _ _ _ (by decide) (by decide) dX6_hasName_29 (Or.inr rfl)
    · refine z_lload_n (pc := 15) (i := 1) 1 X dX6_hasName_15 rfl rfl ?_
      refine z_aload_n (pc := 16) (i := 0) 0 X dX6_hasName_16 rfl rfl ?_
      refine z_getJ (pc := 17) (C := RX6) (T := TX6) (N := 8) (ci := 7) 2 X dX6_hasName_17 inz_X6 rfl (by decide) fw_X6_19 (fun v2 => ?_)
      refine z_lcmp (pc := 20) X dX6_hasName_20 ?_
      refine z_if_ne (pc := 21) 28 X dX6_hasName_21 (by decide) (fun _ => ?_) (fun _ => ?_)
      · refine z_iconst (pc := 28) (z := 0) X dX6_hasName_28 rfl ⟨by decide, by decide⟩ ?_
        refine z_fin (fun e9 => ?_)
        subst e9
        exact hret _ _ _ _ (by decide) (by decide) dX6_hasName_29 (Or.inl rfl)
      · refine z_iconst (pc := 24) (z := 1) X dX6_hasName_24 rfl ⟨by decide, by decide⟩ ?_
        refine z_goto (pc := 25) 29 X dX6_hasName_25 (by decide) ?_
        refine z_fin (fun e9 => ?_)
        subst e9
        exact hret _ _ _ _ (by decide) (by decide) dX6_hasName_29 (Or.inr rfl)
def X5_isAddress (hp : zH) (a0 : Option Nat) (a1 : Int64) (a2 : Int) : Option Int :=
  (zgI hp a0 6 4).bind fun v1 =>
  if a2 = v1 then
    (zgR hp a0 6 1).bind fun v2 =>
    if v2 = none then
      some 0
    else
      (zgR hp a0 6 1).bind fun v3 =>
      ((zobj hp v3 7).bind fun _ => X6_hasName hp v3 a1).bind fun x4 =>
      if x4 = 0 then
        some 0
      else
        some 1
  else
    some 0
set_option maxRecDepth 20000 in
theorem c_X5_isAddress (hp : zH) (a0 : Option Nat) (a1 : Int64) (a2 : Int) : ∀ r, X5_isAddress hp a0 a1 a2 = some r → zMi yX5_isAddress (Cond.code yX5_isAddress cX5_isAddress 4 (some .boolean) :: zALL) { frames := 1, cells := 0, slots := 0, locals := 22 } 0 0 [zR a0, zL a1, zI a2] hp r hp := by
  refine zMi_of (own := RX5) (cc := cX5_isAddress) (maxL := 4) (res := fun r => r) (hp2 := fun _ => hp) (by decide) rfl (Or.inr (Or.inl rfl)) (by exact Nat.le_of_ble_eq_true rfl) ?_
  intro K r0 X hnL hret
  have hN : ∀ i, i < 4 → i < K.2.2.2.2.2.2.2.2.2.2.2.2.2.2.1 := by rw [hnL]; exact fun _ h => h
  show zS _ _ (zJ K 0 0 0 [(0, zR a0), (1, zL a1), (3, zI a2)] [] hp)
  unfold X5_isAddress
  refine z_iload_n (pc := 0) (i := 3) 2 X dX5_isAddress_0 rfl rfl ?_
  refine z_aload_n (pc := 1) (i := 0) 0 X dX5_isAddress_1 rfl rfl ?_
  refine z_getI (pc := 2) (C := RX5) (T := TX5) (N := 5) (ci := 6) 4 X dX5_isAddress_2 inz_X5 rfl (by decide) fw_X5_24 (fun v1 => ?_)
  refine z_icmp_ne (pc := 5) 30 X dX5_isAddress_5 (by decide) (fun _ => ?_) (fun _ => ?_)
  · refine z_iconst (pc := 30) (z := 0) X dX5_isAddress_30 rfl ⟨by decide, by decide⟩ ?_
    refine z_fin (fun e9 => ?_)
    subst e9
    exact hret _ _ _ _ (by decide) (by decide) dX5_isAddress_31 (Or.inl rfl)
  · refine z_aload_n (pc := 8) (i := 0) 0 X dX5_isAddress_8 rfl rfl ?_
    refine z_getR (pc := 9) (C := RX5) (T := TX5) (N := 5) (ci := 6) 1 X dX5_isAddress_9 inz_X5 rfl (by decide) fw_X5_13 (fun v2 => ?_)
    refine z_ifnull (pc := 12) 30 X dX5_isAddress_12 (by decide) (fun _ => ?_) (fun _ => ?_)
    · refine z_iconst (pc := 30) (z := 0) X dX5_isAddress_30 rfl ⟨by decide, by decide⟩ ?_
      refine z_fin (fun e9 => ?_)
      subst e9
      exact hret _ _ _ _ (by decide) (by decide) dX5_isAddress_31 (Or.inl rfl)
    · refine z_aload_n (pc := 15) (i := 0) 0 X dX5_isAddress_15 rfl rfl ?_
      refine z_getR (pc := 16) (C := RX5) (T := TX5) (N := 5) (ci := 6) 1 X dX5_isAddress_16 inz_X5 rfl (by decide) fw_X5_13 (fun v3 => ?_)
      refine z_lload_n (pc := 19) (i := 1) 1 X dX5_isAddress_19 rfl rfl ?_
      refine z_callV_i (pc := 20) (cells := 0) (slots := 0) (C := RX6) (T := TX6) (N := 8) (ci := 7) [zL a1] X dX5_isAddress_20 (c_X6_hasName hp v3 a1) kw_X5_27 rfl rfl ⟨rfl, rfl, ⟨by decide, by decide⟩, ⟨by decide, by decide⟩⟩ (Nat.le_of_ble_eq_true rfl) rfl (fun x4 => ?_)
      refine z_if_eq (pc := 23) 30 X dX5_isAddress_23 (by decide) (fun _ => ?_) (fun _ => ?_)
      · refine z_iconst (pc := 30) (z := 0) X dX5_isAddress_30 rfl ⟨by decide, by decide⟩ ?_
        refine z_fin (fun e9 => ?_)
        subst e9
        exact hret _ _ _ _ (by decide) (by decide) dX5_isAddress_31 (Or.inl rfl)
      · refine z_iconst (pc := 26) (z := 1) X dX5_isAddress_26 rfl ⟨by decide, by decide⟩ ?_
        refine z_goto (pc := 27) 31 X dX5_isAddress_27 (by decide) ?_
        refine z_fin (fun e9 => ?_)
        subst e9
        exact hret _ _ _ _ (by decide) (by decide) dX5_isAddress_31 (Or.inr rfl)
def X0_hasAddress_j19 (hp : zH) (a0 : Option Nat) (a1 : Int64) (a2 : Int) : Option Int :=
  (zgR hp a0 2 2).bind fun v2 =>
  if v2 = none then
    some 0
  else
    (zgR hp a0 2 2).bind fun v3 =>
    ((zobj hp v3 6).bind fun _ => X5_isAddress hp v3 a1 a2).bind fun x4 =>
    if x4 = 0 then
      some 0
    else
      some 1
def X0_hasAddress (hp : zH) (a0 : Option Nat) (a1 : Int64) (a2 : Int) : Option Int :=
  (zgR hp a0 2 1).bind fun v1 =>
  if v1 = none then
    X0_hasAddress_j19 hp a0 a1 a2
  else
    (zgR hp a0 2 1).bind fun v5 =>
    ((zobj hp v5 6).bind fun _ => X5_isAddress hp v5 a1 a2).bind fun x6 =>
    if x6 = 0 then
      X0_hasAddress_j19 hp a0 a1 a2
    else
      some 1
set_option maxRecDepth 20000 in
theorem c_X0_hasAddress (hp : zH) (a0 : Option Nat) (a1 : Int64) (a2 : Int) : ∀ r, X0_hasAddress hp a0 a1 a2 = some r → zMi yX0_hasAddress (Cond.code yX0_hasAddress cX0_hasAddress 4 (some .boolean) :: zALL) { frames := 2, cells := 0, slots := 0, locals := 45 } 0 0 [zR a0, zL a1, zI a2] hp r hp := by
  refine zMi_of (own := RX0) (cc := cX0_hasAddress) (maxL := 4) (res := fun r => r) (hp2 := fun _ => hp) (by decide) rfl (Or.inr (Or.inl rfl)) (by exact Nat.le_of_ble_eq_true rfl) ?_
  intro K r0 X hnL hret
  have hN : ∀ i, i < 4 → i < K.2.2.2.2.2.2.2.2.2.2.2.2.2.2.1 := by rw [hnL]; exact fun _ h => h
  show zS _ _ (zJ K 0 0 0 [(0, zR a0), (1, zL a1), (3, zI a2)] [] hp)
  unfold X0_hasAddress
  refine z_aload_n (pc := 0) (i := 0) 0 X dX0_hasAddress_0 rfl rfl ?_
  refine z_getR (pc := 1) (C := RX0) (T := TX0) (N := 5) (ci := 2) 1 X dX0_hasAddress_1 inz_X0 rfl (by decide) fw_X0_15 (fun v1 => ?_)
  have hJ19 : zS (X0_hasAddress_j19 hp a0 a1 a2) (fun r => r = r0) (zJ K 0 0 19 [(0, zR a0), (1, zL a1), (3, zI a2)] [] hp) := by
    unfold X0_hasAddress_j19
    refine z_aload_n (pc := 19) (i := 0) 0 X dX0_hasAddress_19 rfl rfl ?_
    refine z_getR (pc := 20) (C := RX0) (T := TX0) (N := 5) (ci := 2) 2 X dX0_hasAddress_20 inz_X0 rfl (by decide) fw_X0_19 (fun v2 => ?_)
    refine z_ifnull (pc := 23) 42 X dX0_hasAddress_23 (by decide) (fun _ => ?_) (fun _ => ?_)
    · refine z_iconst (pc := 42) (z := 0) X dX0_hasAddress_42 rfl ⟨by decide, by decide⟩ ?_
      refine z_fin (fun e9 => ?_)
      subst e9
      exact hret _ _ _ _ (by decide) (by decide) dX0_hasAddress_43 (Or.inl rfl)
    · refine z_aload_n (pc := 26) (i := 0) 0 X dX0_hasAddress_26 rfl rfl ?_
      refine z_getR (pc := 27) (C := RX0) (T := TX0) (N := 5) (ci := 2) 2 X dX0_hasAddress_27 inz_X0 rfl (by decide) fw_X0_19 (fun v3 => ?_)
      refine z_lload_n (pc := 30) (i := 1) 1 X dX0_hasAddress_30 rfl rfl ?_
      refine z_iload_n (pc := 31) (i := 3) 2 X dX0_hasAddress_31 rfl rfl ?_
      refine z_callV_i (pc := 32) (cells := 0) (slots := 0) (C := RX5) (T := TX5) (N := 5) (ci := 6) [zL a1, zI a2] X dX0_hasAddress_32 (c_X5_isAddress hp v3 a1 a2) kw_X0_36 rfl rfl ⟨rfl, rfl, ⟨by decide, by decide⟩, ⟨by decide, by decide⟩⟩ (Nat.le_of_ble_eq_true rfl) rfl (fun x4 => ?_)
      refine z_if_eq (pc := 35) 42 X dX0_hasAddress_35 (by decide) (fun _ => ?_) (fun _ => ?_)
      · refine z_iconst (pc := 42) (z := 0) X dX0_hasAddress_42 rfl ⟨by decide, by decide⟩ ?_
        refine z_fin (fun e9 => ?_)
        subst e9
        exact hret _ _ _ _ (by decide) (by decide) dX0_hasAddress_43 (Or.inl rfl)
      · refine z_iconst (pc := 38) (z := 1) X dX0_hasAddress_38 rfl ⟨by decide, by decide⟩ ?_
        refine z_goto (pc := 39) 43 X dX0_hasAddress_39 (by decide) ?_
        refine z_fin (fun e9 => ?_)
        subst e9
        exact hret _ _ _ _ (by decide) (by decide) dX0_hasAddress_43 (Or.inr rfl)
  refine z_ifnull (pc := 4) 19 X dX0_hasAddress_4 (by decide) (fun _ => ?_) (fun _ => ?_)
  · exact hJ19
  · refine z_aload_n (pc := 7) (i := 0) 0 X dX0_hasAddress_7 rfl rfl ?_
    refine z_getR (pc := 8) (C := RX0) (T := TX0) (N := 5) (ci := 2) 1 X dX0_hasAddress_8 inz_X0 rfl (by decide) fw_X0_15 (fun v5 => ?_)
    refine z_lload_n (pc := 11) (i := 1) 1 X dX0_hasAddress_11 rfl rfl ?_
    refine z_iload_n (pc := 12) (i := 3) 2 X dX0_hasAddress_12 rfl rfl ?_
    refine z_callV_i (pc := 13) (cells := 0) (slots := 0) (C := RX5) (T := TX5) (N := 5) (ci := 6) [zL a1, zI a2] X dX0_hasAddress_13 (c_X5_isAddress hp v5 a1 a2) kw_X0_36 rfl rfl ⟨rfl, rfl, ⟨by decide, by decide⟩, ⟨by decide, by decide⟩⟩ (Nat.le_of_ble_eq_true rfl) rfl (fun x6 => ?_)
    refine z_if_ne (pc := 16) 38 X dX0_hasAddress_16 (by decide) (fun _ => ?_) (fun _ => ?_)
    · refine z_iconst (pc := 38) (z := 1) X dX0_hasAddress_38 rfl ⟨by decide, by decide⟩ ?_
      refine z_goto (pc := 39) 43 X dX0_hasAddress_39 (by decide) ?_
      refine z_fin (fun e9 => ?_)
      subst e9
      exact hret _ _ _ _ (by decide) (by decide) dX0_hasAddress_43 (Or.inr rfl)
    · exact hJ19
def X7_isStanding (hp : zH) (a0 : Option Nat) : Option Int :=
  if a0 = none then
    some 0
  else
    (zgI hp a0 7 6).bind fun v1 =>
    if v1 = 0 then
      some 1
    else
      some 0
set_option maxRecDepth 20000 in
theorem c_X7_isStanding (hp : zH) (a0 : Option Nat) : ∀ r, X7_isStanding hp a0 = some r → zMi yX7_isStanding (Cond.code yX7_isStanding cX7_isStanding 1 (some .boolean) :: zALL) { frames := 0, cells := 0, slots := 0, locals := 0 } 0 0 [zR a0] hp r hp := by
  refine zMi_of (own := RX7) (cc := cX7_isStanding) (maxL := 1) (res := fun r => r) (hp2 := fun _ => hp) (by decide) rfl (Or.inr (Or.inl rfl)) (by exact Nat.le_of_ble_eq_true rfl) ?_
  intro K r0 X hnL hret
  have hN : ∀ i, i < 1 → i < K.2.2.2.2.2.2.2.2.2.2.2.2.2.2.1 := by rw [hnL]; exact fun _ h => h
  show zS _ _ (zJ K 0 0 0 [(0, zR a0)] [] hp)
  unfold X7_isStanding
  refine z_aload_n (pc := 0) (i := 0) 0 X dX7_isStanding_0 rfl rfl ?_
  refine z_ifnull (pc := 1) 15 X dX7_isStanding_1 (by decide) (fun _ => ?_) (fun _ => ?_)
  · refine z_iconst (pc := 15) (z := 0) X dX7_isStanding_15 rfl ⟨by decide, by decide⟩ ?_
    refine z_fin (fun e9 => ?_)
    subst e9
    exact hret _ _ _ _ (by decide) (by decide) dX7_isStanding_16 (Or.inl rfl)
  · refine z_aload_n (pc := 4) (i := 0) 0 X dX7_isStanding_4 rfl rfl ?_
    refine z_getI (pc := 5) (C := RX6) (T := TX6) (N := 8) (ci := 7) 6 X dX7_isStanding_5 inz_X6 rfl (by decide) fw_X7_176 (fun v1 => ?_)
    refine z_if_ne (pc := 8) 15 X dX7_isStanding_8 (by decide) (fun _ => ?_) (fun _ => ?_)
    · refine z_iconst (pc := 15) (z := 0) X dX7_isStanding_15 rfl ⟨by decide, by decide⟩ ?_
      refine z_fin (fun e9 => ?_)
      subst e9
      exact hret _ _ _ _ (by decide) (by decide) dX7_isStanding_16 (Or.inl rfl)
    · refine z_iconst (pc := 11) (z := 1) X dX7_isStanding_11 rfl ⟨by decide, by decide⟩ ?_
      refine z_goto (pc := 12) 16 X dX7_isStanding_12 (by decide) ?_
      refine z_fin (fun e9 => ?_)
      subst e9
      exact hret _ _ _ _ (by decide) (by decide) dX7_isStanding_16 (Or.inr rfl)
def X0_hasAddressesAll (hp : zH) (a0 : Option Nat) : Option Int :=
  (zgR hp a0 2 1).bind fun v1 =>
  if v1 = none then
    some 0
  else
    (zgR hp a0 2 1).bind fun v2 =>
    (zgI hp v2 6 4).bind fun v3 =>
    if v3 = 0 then
      some 0
    else
      (zgR hp a0 2 1).bind fun v4 =>
      (zgR hp v4 6 1).bind fun v5 =>
      (X7_isStanding hp v5).bind fun x6 =>
      if x6 = 0 then
        some 0
      else
        (zgR hp a0 2 2).bind fun v7 =>
        if v7 = none then
          some 1
        else
          (zgR hp a0 2 2).bind fun v8 =>
          (zgI hp v8 6 4).bind fun v9 =>
          if v9 = 0 then
            some 0
          else
            (zgR hp a0 2 2).bind fun v10 =>
            (zgR hp v10 6 1).bind fun v11 =>
            (X7_isStanding hp v11).bind fun x12 =>
            if x12 = 0 then
              some 0
            else
              some 1
set_option maxRecDepth 20000 in
theorem c_X0_hasAddressesAll (hp : zH) (a0 : Option Nat) : ∀ r, X0_hasAddressesAll hp a0 = some r → zMi yX0_hasAddressesAll (Cond.code yX0_hasAddressesAll cX0_hasAddressesAll 1 (some .boolean) :: zALL) { frames := 1, cells := 0, slots := 0, locals := 20 } 0 0 [zR a0] hp r hp := by
  refine zMi_of (own := RX0) (cc := cX0_hasAddressesAll) (maxL := 1) (res := fun r => r) (hp2 := fun _ => hp) (by decide) rfl (Or.inr (Or.inl rfl)) (by exact Nat.le_of_ble_eq_true rfl) ?_
  intro K r0 X hnL hret
  have hN : ∀ i, i < 1 → i < K.2.2.2.2.2.2.2.2.2.2.2.2.2.2.1 := by rw [hnL]; exact fun _ h => h
  show zS _ _ (zJ K 0 0 0 [(0, zR a0)] [] hp)
  unfold X0_hasAddressesAll
  refine z_aload_n (pc := 0) (i := 0) 0 X dX0_hasAddressesAll_0 rfl rfl ?_
  refine z_getR (pc := 1) (C := RX0) (T := TX0) (N := 5) (ci := 2) 1 X dX0_hasAddressesAll_1 inz_X0 rfl (by decide) fw_X0_15 (fun v1 => ?_)
  refine z_ifnull (pc := 4) 64 X dX0_hasAddressesAll_4 (by decide) (fun _ => ?_) (fun _ => ?_)
  · refine z_iconst (pc := 64) (z := 0) X dX0_hasAddressesAll_64 rfl ⟨by decide, by decide⟩ ?_
    refine z_fin (fun e9 => ?_)
    subst e9
    exact hret _ _ _ _ (by decide) (by decide) dX0_hasAddressesAll_65 (Or.inl rfl)
  · refine z_aload_n (pc := 7) (i := 0) 0 X dX0_hasAddressesAll_7 rfl rfl ?_
    refine z_getR (pc := 8) (C := RX0) (T := TX0) (N := 5) (ci := 2) 1 X dX0_hasAddressesAll_8 inz_X0 rfl (by decide) fw_X0_15 (fun v2 => ?_)
    refine z_getI (pc := 11) (C := RX5) (T := TX5) (N := 5) (ci := 6) 4 X dX0_hasAddressesAll_11 inz_X5 rfl (by decide) fw_X0_40 (fun v3 => ?_)
    refine z_if_eq (pc := 14) 64 X dX0_hasAddressesAll_14 (by decide) (fun _ => ?_) (fun _ => ?_)
    · refine z_iconst (pc := 64) (z := 0) X dX0_hasAddressesAll_64 rfl ⟨by decide, by decide⟩ ?_
      refine z_fin (fun e9 => ?_)
      subst e9
      exact hret _ _ _ _ (by decide) (by decide) dX0_hasAddressesAll_65 (Or.inl rfl)
    · refine z_aload_n (pc := 17) (i := 0) 0 X dX0_hasAddressesAll_17 rfl rfl ?_
      refine z_getR (pc := 18) (C := RX0) (T := TX0) (N := 5) (ci := 2) 1 X dX0_hasAddressesAll_18 inz_X0 rfl (by decide) fw_X0_15 (fun v4 => ?_)
      refine z_getR (pc := 21) (C := RX5) (T := TX5) (N := 5) (ci := 6) 1 X dX0_hasAddressesAll_21 inz_X5 rfl (by decide) fw_X0_30 (fun v5 => ?_)
      refine z_callN_i (pc := 24) (cells := 0) (slots := 0) [zR v5] X dX0_hasAddressesAll_24 (c_X7_isStanding hp v5) kw_X0_43 rfl ⟨rfl, rfl, ⟨by decide, by decide⟩, ⟨by decide, by decide⟩⟩ (Nat.le_of_ble_eq_true rfl) rfl (fun x6 => ?_)
      refine z_if_eq (pc := 27) 64 X dX0_hasAddressesAll_27 (by decide) (fun _ => ?_) (fun _ => ?_)
      · refine z_iconst (pc := 64) (z := 0) X dX0_hasAddressesAll_64 rfl ⟨by decide, by decide⟩ ?_
        refine z_fin (fun e9 => ?_)
        subst e9
        exact hret _ _ _ _ (by decide) (by decide) dX0_hasAddressesAll_65 (Or.inl rfl)
      · refine z_aload_n (pc := 30) (i := 0) 0 X dX0_hasAddressesAll_30 rfl rfl ?_
        refine z_getR (pc := 31) (C := RX0) (T := TX0) (N := 5) (ci := 2) 2 X dX0_hasAddressesAll_31 inz_X0 rfl (by decide) fw_X0_19 (fun v7 => ?_)
        refine z_ifnull (pc := 34) 60 X dX0_hasAddressesAll_34 (by decide) (fun _ => ?_) (fun _ => ?_)
        · refine z_iconst (pc := 60) (z := 1) X dX0_hasAddressesAll_60 rfl ⟨by decide, by decide⟩ ?_
          refine z_goto (pc := 61) 65 X dX0_hasAddressesAll_61 (by decide) ?_
          refine z_fin (fun e9 => ?_)
          subst e9
          exact hret _ _ _ _ (by decide) (by decide) dX0_hasAddressesAll_65 (Or.inr rfl)
        · refine z_aload_n (pc := 37) (i := 0) 0 X dX0_hasAddressesAll_37 rfl rfl ?_
          refine z_getR (pc := 38) (C := RX0) (T := TX0) (N := 5) (ci := 2) 2 X dX0_hasAddressesAll_38 inz_X0 rfl (by decide) fw_X0_19 (fun v8 => ?_)
          refine z_getI (pc := 41) (C := RX5) (T := TX5) (N := 5) (ci := 6) 4 X dX0_hasAddressesAll_41 inz_X5 rfl (by decide) fw_X0_40 (fun v9 => ?_)
          refine z_if_eq (pc := 44) 64 X dX0_hasAddressesAll_44 (by decide) (fun _ => ?_) (fun _ => ?_)
          · refine z_iconst (pc := 64) (z := 0) X dX0_hasAddressesAll_64 rfl ⟨by decide, by decide⟩ ?_
            refine z_fin (fun e9 => ?_)
            subst e9
            exact hret _ _ _ _ (by decide) (by decide) dX0_hasAddressesAll_65 (Or.inl rfl)
          · refine z_aload_n (pc := 47) (i := 0) 0 X dX0_hasAddressesAll_47 rfl rfl ?_
            refine z_getR (pc := 48) (C := RX0) (T := TX0) (N := 5) (ci := 2) 2 X dX0_hasAddressesAll_48 inz_X0 rfl (by decide) fw_X0_19 (fun v10 => ?_)
            refine z_getR (pc := 51) (C := RX5) (T := TX5) (N := 5) (ci := 6) 1 X dX0_hasAddressesAll_51 inz_X5 rfl (by decide) fw_X0_30 (fun v11 => ?_)
            refine z_callN_i (pc := 54) (cells := 0) (slots := 0) [zR v11] X dX0_hasAddressesAll_54 (c_X7_isStanding hp v11) kw_X0_43 rfl ⟨rfl, rfl, ⟨by decide, by decide⟩, ⟨by decide, by decide⟩⟩ (Nat.le_of_ble_eq_true rfl) rfl (fun x12 => ?_)
            refine z_if_eq (pc := 57) 64 X dX0_hasAddressesAll_57 (by decide) (fun _ => ?_) (fun _ => ?_)
            · refine z_iconst (pc := 64) (z := 0) X dX0_hasAddressesAll_64 rfl ⟨by decide, by decide⟩ ?_
              refine z_fin (fun e9 => ?_)
              subst e9
              exact hret _ _ _ _ (by decide) (by decide) dX0_hasAddressesAll_65 (Or.inl rfl)
            · refine z_iconst (pc := 60) (z := 1) X dX0_hasAddressesAll_60 rfl ⟨by decide, by decide⟩ ?_
              refine z_goto (pc := 61) 65 X dX0_hasAddressesAll_61 (by decide) ?_
              refine z_fin (fun e9 => ?_)
              subst e9
              exact hret _ _ _ _ (by decide) (by decide) dX0_hasAddressesAll_65 (Or.inr rfl)
def X0_losePlaceOn (hp : zH) (a0 : Option Nat) (a1 : Option Nat) : Option zH :=
  (zgR hp a0 2 1).bind fun v1 =>
  if v1 = none then
    (zpR hp a0 2 2 none).bind fun h2 =>
    some h2
  else
    (zgR hp a0 2 1).bind fun v3 =>
    (zgR hp v3 6 1).bind fun v4 =>
    if v4 = a1 then
      (zgR hp a0 2 2).bind fun v6 =>
      (zpR hp a0 2 1 v6).bind fun h7 =>
      (zpR h7 a0 2 2 none).bind fun h8 =>
      some h8
    else
      (zpR hp a0 2 2 none).bind fun h5 =>
      some h5
set_option maxRecDepth 20000 in
theorem c_X0_losePlaceOn (hp : zH) (a0 : Option Nat) (a1 : Option Nat) : ∀ r, X0_losePlaceOn hp a0 a1 = some r → zMv yX0_losePlaceOn (Cond.code yX0_losePlaceOn cX0_losePlaceOn 2 none :: zALL) { frames := 0, cells := 0, slots := 0, locals := 0 } 0 0 [zR a0, zR a1] hp r := by
  refine zMv_of (own := RX0) (cc := cX0_losePlaceOn) (maxL := 2) (hp2 := fun r => r) (by decide) rfl (by exact Nat.le_of_ble_eq_true rfl) ?_
  intro K r0 X hnL hnm9 hret
  have hN : ∀ i, i < 2 → i < K.2.2.2.2.2.2.2.2.2.2.2.2.2.2.1 := by rw [hnL]; exact fun _ h => h
  show zS _ _ (zJ K 0 0 0 [(0, zR a0), (1, zR a1)] [] hp)
  unfold X0_losePlaceOn
  refine z_aload_n (pc := 0) (i := 0) 0 X dX0_losePlaceOn_0 rfl rfl ?_
  refine z_getR (pc := 1) (C := RX0) (T := TX0) (N := 5) (ci := 2) 1 X dX0_losePlaceOn_1 inz_X0 rfl (by decide) fw_X0_15 (fun v1 => ?_)
  refine z_ifnull (pc := 4) 26 X dX0_losePlaceOn_4 (by decide) (fun _ => ?_) (fun _ => ?_)
  · refine z_aload_n (pc := 26) (i := 0) 0 X dX0_losePlaceOn_26 rfl rfl ?_
    refine z_null (pc := 27) X dX0_losePlaceOn_27 ?_
    refine z_putR (pc := 28) (C := RX0) (T := TX0) (N := 5) (ci := 2) 2 X dX0_losePlaceOn_28 inz_X0 tyX0_ok nmX0 rfl (by decide) fw_X0_19 rfl ⟨_, Or.inl rfl⟩ (fun h2 => ?_)
    refine z_fin (fun e9 => ?_)
    subst e9
    exact hret _ _ _ _ (by decide) (by decide) dX0_losePlaceOn_31
  · refine z_aload_n (pc := 7) (i := 0) 0 X dX0_losePlaceOn_7 rfl rfl ?_
    refine z_getR (pc := 8) (C := RX0) (T := TX0) (N := 5) (ci := 2) 1 X dX0_losePlaceOn_8 inz_X0 rfl (by decide) fw_X0_15 (fun v3 => ?_)
    refine z_getR (pc := 11) (C := RX5) (T := TX5) (N := 5) (ci := 6) 1 X dX0_losePlaceOn_11 inz_X5 rfl (by decide) fw_X0_30 (fun v4 => ?_)
    refine z_aload_n (pc := 14) (i := 1) 1 X dX0_losePlaceOn_14 rfl rfl ?_
    refine z_acmp_ne (pc := 15) 26 X dX0_losePlaceOn_15 (by decide) (fun _ => ?_) (fun _ => ?_)
    · refine z_aload_n (pc := 26) (i := 0) 0 X dX0_losePlaceOn_26 rfl rfl ?_
      refine z_null (pc := 27) X dX0_losePlaceOn_27 ?_
      refine z_putR (pc := 28) (C := RX0) (T := TX0) (N := 5) (ci := 2) 2 X dX0_losePlaceOn_28 inz_X0 tyX0_ok nmX0 rfl (by decide) fw_X0_19 rfl ⟨_, Or.inl rfl⟩ (fun h5 => ?_)
      refine z_fin (fun e9 => ?_)
      subst e9
      exact hret _ _ _ _ (by decide) (by decide) dX0_losePlaceOn_31
    · refine z_aload_n (pc := 18) (i := 0) 0 X dX0_losePlaceOn_18 rfl rfl ?_
      refine z_aload_n (pc := 19) (i := 0) 0 X dX0_losePlaceOn_19 rfl rfl ?_
      refine z_getR (pc := 20) (C := RX0) (T := TX0) (N := 5) (ci := 2) 2 X dX0_losePlaceOn_20 inz_X0 rfl (by decide) fw_X0_19 (fun v6 => ?_)
      refine z_putR (pc := 23) (C := RX0) (T := TX0) (N := 5) (ci := 2) 1 X dX0_losePlaceOn_23 inz_X0 tyX0_ok nmX0 rfl (by decide) fw_X0_15 rfl ⟨_, Or.inl rfl⟩ (fun h7 => ?_)
      refine z_aload_n (pc := 26) (i := 0) 0 X dX0_losePlaceOn_26 rfl rfl ?_
      refine z_null (pc := 27) X dX0_losePlaceOn_27 ?_
      refine z_putR (pc := 28) (C := RX0) (T := TX0) (N := 5) (ci := 2) 2 X dX0_losePlaceOn_28 inz_X0 tyX0_ok nmX0 rfl (by decide) fw_X0_19 rfl ⟨_, Or.inl rfl⟩ (fun h8 => ?_)
      refine z_fin (fun e9 => ?_)
      subst e9
      exact hret _ _ _ _ (by decide) (by decide) dX0_losePlaceOn_31
def X0_placeOn_j23 (hp : zH) (a0 : Option Nat) (a1 : Option Nat) : Option (Option Nat) :=
  (zgR hp a0 2 2).bind fun v2 =>
  if v2 = none then
    some none
  else
    (zgR hp a0 2 2).bind fun v3 =>
    (zgR hp v3 6 1).bind fun v4 =>
    if v4 = a1 then
      (zgR hp a0 2 2).bind fun v5 =>
      some v5
    else
      some none
def X0_placeOn (hp : zH) (a0 : Option Nat) (a1 : Option Nat) : Option (Option Nat) :=
  (zgR hp a0 2 1).bind fun v1 =>
  if v1 = none then
    X0_placeOn_j23 hp a0 a1
  else
    (zgR hp a0 2 1).bind fun v6 =>
    (zgR hp v6 6 1).bind fun v7 =>
    if v7 = a1 then
      (zgR hp a0 2 1).bind fun v8 =>
      some v8
    else
      X0_placeOn_j23 hp a0 a1
set_option maxRecDepth 20000 in
theorem c_X0_placeOn (hp : zH) (a0 : Option Nat) (a1 : Option Nat) : ∀ r, X0_placeOn hp a0 a1 = some r → zMq yX0_placeOn (Cond.code yX0_placeOn cX0_placeOn 2 (some (.object "StreetNamer$Place")) :: zALL) { frames := 0, cells := 0, slots := 0, locals := 0 } 0 0 [zR a0, zR a1] hp r hp := by
  refine zMq_of (own := RX0) (cc := cX0_placeOn) (maxL := 2) (res := fun r => r) (hp2 := fun _ => hp) (by decide) rfl (Or.inl ⟨_, rfl⟩) (by exact Nat.le_of_ble_eq_true rfl) ?_
  intro K r0 X hnL hret
  have hN : ∀ i, i < 2 → i < K.2.2.2.2.2.2.2.2.2.2.2.2.2.2.1 := by rw [hnL]; exact fun _ h => h
  show zS _ _ (zJ K 0 0 0 [(0, zR a0), (1, zR a1)] [] hp)
  unfold X0_placeOn
  refine z_aload_n (pc := 0) (i := 0) 0 X dX0_placeOn_0 rfl rfl ?_
  refine z_getR (pc := 1) (C := RX0) (T := TX0) (N := 5) (ci := 2) 1 X dX0_placeOn_1 inz_X0 rfl (by decide) fw_X0_15 (fun v1 => ?_)
  have hJ23 : zS (X0_placeOn_j23 hp a0 a1) (fun r => r = r0) (zJ K 0 0 23 [(0, zR a0), (1, zR a1)] [] hp) := by
    unfold X0_placeOn_j23
    refine z_aload_n (pc := 23) (i := 0) 0 X dX0_placeOn_23 rfl rfl ?_
    refine z_getR (pc := 24) (C := RX0) (T := TX0) (N := 5) (ci := 2) 2 X dX0_placeOn_24 inz_X0 rfl (by decide) fw_X0_19 (fun v2 => ?_)
    refine z_ifnull (pc := 27) 46 X dX0_placeOn_27 (by decide) (fun _ => ?_) (fun _ => ?_)
    · refine z_null (pc := 46) X dX0_placeOn_46 ?_
      refine z_fin (fun e9 => ?_)
      subst e9
      exact hret _ _ _ _ (by decide) (by decide) dX0_placeOn_47
    · refine z_aload_n (pc := 30) (i := 0) 0 X dX0_placeOn_30 rfl rfl ?_
      refine z_getR (pc := 31) (C := RX0) (T := TX0) (N := 5) (ci := 2) 2 X dX0_placeOn_31 inz_X0 rfl (by decide) fw_X0_19 (fun v3 => ?_)
      refine z_getR (pc := 34) (C := RX5) (T := TX5) (N := 5) (ci := 6) 1 X dX0_placeOn_34 inz_X5 rfl (by decide) fw_X0_30 (fun v4 => ?_)
      refine z_aload_n (pc := 37) (i := 1) 1 X dX0_placeOn_37 rfl rfl ?_
      refine z_acmp_ne (pc := 38) 46 X dX0_placeOn_38 (by decide) (fun _ => ?_) (fun _ => ?_)
      · refine z_null (pc := 46) X dX0_placeOn_46 ?_
        refine z_fin (fun e9 => ?_)
        subst e9
        exact hret _ _ _ _ (by decide) (by decide) dX0_placeOn_47
      · refine z_aload_n (pc := 41) (i := 0) 0 X dX0_placeOn_41 rfl rfl ?_
        refine z_getR (pc := 42) (C := RX0) (T := TX0) (N := 5) (ci := 2) 2 X dX0_placeOn_42 inz_X0 rfl (by decide) fw_X0_19 (fun v5 => ?_)
        refine z_fin (fun e9 => ?_)
        subst e9
        exact hret _ _ _ _ (by decide) (by decide) dX0_placeOn_45
  refine z_ifnull (pc := 4) 23 X dX0_placeOn_4 (by decide) (fun _ => ?_) (fun _ => ?_)
  · exact hJ23
  · refine z_aload_n (pc := 7) (i := 0) 0 X dX0_placeOn_7 rfl rfl ?_
    refine z_getR (pc := 8) (C := RX0) (T := TX0) (N := 5) (ci := 2) 1 X dX0_placeOn_8 inz_X0 rfl (by decide) fw_X0_15 (fun v6 => ?_)
    refine z_getR (pc := 11) (C := RX5) (T := TX5) (N := 5) (ci := 6) 1 X dX0_placeOn_11 inz_X5 rfl (by decide) fw_X0_30 (fun v7 => ?_)
    refine z_aload_n (pc := 14) (i := 1) 1 X dX0_placeOn_14 rfl rfl ?_
    refine z_acmp_ne (pc := 15) 23 X dX0_placeOn_15 (by decide) (fun _ => ?_) (fun _ => ?_)
    · exact hJ23
    · refine z_aload_n (pc := 18) (i := 0) 0 X dX0_placeOn_18 rfl rfl ?_
      refine z_getR (pc := 19) (C := RX0) (T := TX0) (N := 5) (ci := 2) 1 X dX0_placeOn_19 inz_X0 rfl (by decide) fw_X0_15 (fun v8 => ?_)
      refine z_fin (fun e9 => ?_)
      subst e9
      exact hret _ _ _ _ (by decide) (by decide) dX0_placeOn_22
def X1_init (hp : zH) (a0 : Option Nat) : Option zH :=
  a0.bind fun v1 =>
  (znewa hp 0 40).bind fun h2 =>
  (zpR h2 a0 3 0 ((some hp.length))).bind fun h3 =>
  (znewa h3 2 40).bind fun h4 =>
  (zpR h4 a0 3 1 ((some h3.length))).bind fun h5 =>
  (znewa h5 0 40).bind fun h6 =>
  (zpR h6 a0 3 2 ((some h5.length))).bind fun h7 =>
  (zpC h7 a0 3 3 115).bind fun h8 =>
  (zpZ h8 a0 3 4 0).bind fun h9 =>
  (zpI h9 a0 3 5 0).bind fun h10 =>
  (zpI h10 a0 3 6 0).bind fun h11 =>
  some h11
set_option maxRecDepth 20000 in
theorem c_X1_init (hp : zH) (a0 : Option Nat) : ∀ r, X1_init hp a0 = some r → zMv yX1_init (Cond.code yX1_init cX1_init 1 none :: zALL) { frames := 1, cells := 3, slots := 120, locals := 24 } 3 120 [zR a0] hp r := by
  refine zMv_of (own := RX1) (cc := cX1_init) (maxL := 1) (hp2 := fun r => r) (by decide) rfl (by exact Nat.le_of_ble_eq_true rfl) ?_
  intro K r0 X hnL hnm9 hret
  have hN : ∀ i, i < 1 → i < K.2.2.2.2.2.2.2.2.2.2.2.2.2.2.1 := by rw [hnL]; exact fun _ h => h
  show zS _ _ (zJ K 0 0 0 [(0, zR a0)] [] hp)
  unfold X1_init
  refine z_aload_n (pc := 0) (i := 0) 0 X dX1_init_0 rfl rfl ?_
  refine z_objInitO (pc := 1) X dX1_init_1 (zin (zt1 68 (by decide +kernel)) rfl) (zin (zt1 29 (by decide +kernel)) rfl) (zin (zt1 30 (by decide +kernel)) rfl) (Nat.le_of_ble_eq_true rfl) (Nat.le_of_ble_eq_true rfl) (fun v1 => ?_)
  refine z_aload_n (pc := 4) (i := 0) 0 X dX1_init_4 rfl rfl ?_
  refine z_bipush (pc := 5) (z := 40) X dX1_init_5 rfl ⟨by decide, by decide⟩ ?_
  refine z_newIo (pc := 7) (c1 := 1) (s1 := 40) 40 X dX1_init_7 (zin (zt1 62 (by decide +kernel)) rfl) rfl (by decide) (by decide) (by decide) rfl rfl (fun h2 => ?_)
  refine z_putFR (pc := 9) (C := RX1) (T := TX1) (N := 7) (ci := 3) 0 X dX1_init_9 inz_X1 tyX1_ok nmX1 rfl (by decide) fw_X1_9 rfl hnm9 rfl ⟨"x", Or.inr ⟨_, rfl⟩⟩ (fun h3 => ?_)
  refine z_aload_n (pc := 12) (i := 0) 0 X dX1_init_12 rfl rfl ?_
  refine z_bipush (pc := 13) (z := 40) X dX1_init_13 rfl ⟨by decide, by decide⟩ ?_
  refine z_newZo (pc := 15) (c1 := 2) (s1 := 80) 40 X dX1_init_15 (zin (zt1 92 (by decide +kernel)) rfl) rfl (by decide) (by decide) (by decide) rfl rfl (fun h4 => ?_)
  refine z_putFR (pc := 17) (C := RX1) (T := TX1) (N := 7) (ci := 3) 1 X dX1_init_17 inz_X1 tyX1_ok nmX1 rfl (by decide) fw_X1_15 rfl hnm9 rfl ⟨"x", Or.inr ⟨_, rfl⟩⟩ (fun h5 => ?_)
  refine z_aload_n (pc := 20) (i := 0) 0 X dX1_init_20 rfl rfl ?_
  refine z_bipush (pc := 21) (z := 40) X dX1_init_21 rfl ⟨by decide, by decide⟩ ?_
  refine z_newIo (pc := 23) (c1 := 3) (s1 := 120) 40 X dX1_init_23 (zin (zt1 62 (by decide +kernel)) rfl) rfl (by decide) (by decide) (by decide) rfl rfl (fun h6 => ?_)
  refine z_putFR (pc := 25) (C := RX1) (T := TX1) (N := 7) (ci := 3) 2 X dX1_init_25 inz_X1 tyX1_ok nmX1 rfl (by decide) fw_X1_19 rfl hnm9 rfl ⟨"x", Or.inr ⟨_, rfl⟩⟩ (fun h7 => ?_)
  refine z_aload_n (pc := 28) (i := 0) 0 X dX1_init_28 rfl rfl ?_
  refine z_bipush (pc := 29) (z := 115) X dX1_init_29 rfl ⟨by decide, by decide⟩ ?_
  refine z_putC (pc := 31) (C := RX1) (T := TX1) (N := 7) (ci := 3) 3 X dX1_init_31 inz_X1 tyX1_ok nmX1 rfl (by decide) fw_X1_22 rfl rfl (fun h8 => ?_)
  refine z_aload_n (pc := 34) (i := 0) 0 X dX1_init_34 rfl rfl ?_
  refine z_iconst (pc := 35) (z := 0) X dX1_init_35 rfl ⟨by decide, by decide⟩ ?_
  refine z_putZ (pc := 36) (C := RX1) (T := TX1) (N := 7) (ci := 3) 4 X dX1_init_36 inz_X1 tyX1_ok nmX1 rfl (by decide) fw_X1_26 rfl rfl (fun h9 => ?_)
  refine z_aload_n (pc := 39) (i := 0) 0 X dX1_init_39 rfl rfl ?_
  refine z_iconst (pc := 40) (z := 0) X dX1_init_40 rfl ⟨by decide, by decide⟩ ?_
  refine z_putI (pc := 41) (C := RX1) (T := TX1) (N := 7) (ci := 3) 5 X dX1_init_41 inz_X1 tyX1_ok nmX1 rfl (by decide) fw_X1_30 rfl rfl (fun h10 => ?_)
  refine z_aload_n (pc := 44) (i := 0) 0 X dX1_init_44 rfl rfl ?_
  refine z_iconst (pc := 45) (z := 0) X dX1_init_45 rfl ⟨by decide, by decide⟩ ?_
  refine z_putI (pc := 46) (C := RX1) (T := TX1) (N := 7) (ci := 3) 6 X dX1_init_46 inz_X1 tyX1_ok nmX1 rfl (by decide) fw_X1_34 rfl rfl (fun h11 => ?_)
  refine z_fin (fun e9 => ?_)
  subst e9
  exact hret _ _ _ _ (by decide) (by decide) dX1_init_49
def X1_isGiven_b11 (p3 : Int) (p4 : Option Nat) (p5 : Int) (h7 : zH) (s6 : Int) : Option ((Int) ⊕ ((Unit) ⊕ (Unit))) :=
  if p5 ≤ s6 then
    some (Sum.inr (Sum.inl ()))
  else
    (zaI h7 0 p4 s6).bind fun v9 =>
    if v9 = p3 then
      some (Sum.inr (Sum.inr ()))
    else
      (zchk (s6 + 1)).bind fun v10 =>
      some (Sum.inl (v10))
def X1_isGiven (hp : zH) (a0 : Option Nat) (a1 : Int) : Option Int :=
  (zgR hp a0 3 2).bind fun v1 =>
  (zlen hp v1).bind fun v2 =>
  (zloop (X1_isGiven_b11 a1 v1 v2 hp) zN 0).bind fun e8 =>
  match e8 with
  | Sum.inl e8 =>
    some 0
  | Sum.inr e8 =>
    some 1
set_option maxRecDepth 20000 in
theorem c_X1_isGiven (hp : zH) (a0 : Option Nat) (a1 : Int) : ∀ r, X1_isGiven hp a0 a1 = some r → zMi yX1_isGiven (Cond.code yX1_isGiven cX1_isGiven 6 (some .boolean) :: zALL) { frames := 0, cells := 0, slots := 0, locals := 0 } 0 0 [zR a0, zI a1] hp r hp := by
  refine zMi_of (own := RX1) (cc := cX1_isGiven) (maxL := 6) (res := fun r => r) (hp2 := fun _ => hp) (by decide) rfl (Or.inr (Or.inl rfl)) (by exact Nat.le_of_ble_eq_true rfl) ?_
  intro K r0 X hnL hret
  have hN : ∀ i, i < 6 → i < K.2.2.2.2.2.2.2.2.2.2.2.2.2.2.1 := by rw [hnL]; exact fun _ h => h
  show zS _ _ (zJ K 0 0 0 [(0, zR a0), (1, zI a1)] [] hp)
  unfold X1_isGiven
  refine z_aload_n (pc := 0) (i := 0) 0 X dX1_isGiven_0 rfl rfl ?_
  refine z_getR (pc := 1) (C := RX1) (T := TX1) (N := 7) (ci := 3) 2 X dX1_isGiven_1 inz_X1 rfl (by decide) fw_X1_19 (fun v1 => ?_)
  refine z_astore_n (pc := 4) (i := 2) (lv' := [(2, zR v1), (0, zR a0), (1, zI a1)]) X dX1_isGiven_4 rfl (hN _ (by decide)) rfl ?_
  refine z_aload_n (pc := 5) (i := 2) 0 X dX1_isGiven_5 rfl rfl ?_
  refine z_alen (pc := 6) X dX1_isGiven_6 (fun v2 => ?_)
  refine z_istore_n (pc := 7) (i := 3) (lv' := [(3, zI v2), (2, zR v1), (0, zR a0), (1, zI a1)]) X dX1_isGiven_7 rfl (hN _ (by decide)) rfl ?_
  refine z_iconst (pc := 8) (z := 0) X dX1_isGiven_8 rfl ⟨by decide, by decide⟩ ?_
  refine z_istore (pc := 9) (i := 4) (lv' := [(4, zI 0), (3, zI v2), (2, zR v1), (0, zR a0), (1, zI a1)]) X dX1_isGiven_9 (hN _ (by decide)) rfl ?_
  refine z_pick [4, 2, 1, 0] (lv' := [(1, zI a1), (2, zR v1), (3, zI v2), (4, zI 0)]) rfl ?_
  refine z_bind (z_loop (body := X1_isGiven_b11 a1 v1 v2 hp) (fun s6 : Int => zJ K 0 0 11 [(1, zI a1), (2, zR v1), (3, zI v2), (4, zI s6)] [] hp) (fun e8 : ((Unit) ⊕ (Unit)) => (match e8 with | Sum.inl e8 => zJ K 0 0 37 [] [] hp | Sum.inr e8 => zJ K 0 0 29 [] [] hp)) (fun s6 => ?_) zN 0) (fun e8 => ?_)
  · unfold X1_isGiven_b11
    refine z_iload (pc := 11) (i := 4) 3 X dX1_isGiven_11 rfl ?_
    refine z_iload_n (pc := 13) (i := 3) 2 X dX1_isGiven_13 rfl rfl ?_
    refine z_icmp_ge (pc := 14) 37 X dX1_isGiven_14 (by decide) (fun _ => ?_) (fun _ => ?_)
    · refine z_pick [] (lv' := []) rfl ?_
      exact z_exit
    · refine z_aload_n (pc := 17) (i := 2) 1 X dX1_isGiven_17 rfl rfl ?_
      refine z_iload (pc := 18) (i := 4) 3 X dX1_isGiven_18 rfl ?_
      refine z_iaload (pc := 20) X dX1_isGiven_20 (fun v9 => ?_)
      refine z_istore (pc := 21) (i := 5) (lv' := [(5, zI v9), (1, zI a1), (2, zR v1), (3, zI v2), (4, zI s6)]) X dX1_isGiven_21 (hN _ (by decide)) rfl ?_
      refine z_iload (pc := 23) (i := 5) 0 X dX1_isGiven_23 rfl ?_
      refine z_iload_n (pc := 25) (i := 1) 1 X dX1_isGiven_25 rfl rfl ?_
      refine z_icmp_ne (pc := 26) 31 X dX1_isGiven_26 (by decide) (fun _ => ?_) (fun _ => ?_)
      · refine z_iinc (pc := 31) (i := 4) (n := 1) (lv' := fun v10 => [(4, zI v10), (5, zI v9), (1, zI a1), (2, zR v1), (3, zI v2)]) 4 X dX1_isGiven_31 rfl (hN _ (by decide)) (fun _ => rfl) (fun v10 _ _ => ?_)
        refine z_goto (pc := 34) 11 X dX1_isGiven_34 (by decide) ?_
        refine z_pick [2, 3, 4, 0] (lv' := [(1, zI a1), (2, zR v1), (3, zI v2), (4, zI v10)]) rfl ?_
        exact z_back
      · refine z_pick [] (lv' := []) rfl ?_
        exact z_exit
  · rcases e8 with e8 | e8
    · refine z_iconst (pc := 37) (z := 0) X dX1_isGiven_37 rfl ⟨by decide, by decide⟩ ?_
      refine z_fin (fun e9 => ?_)
      subst e9
      exact hret _ _ _ _ (by decide) (by decide) dX1_isGiven_38 (Or.inl rfl)
    · refine z_iconst (pc := 29) (z := 1) X dX1_isGiven_29 rfl ⟨by decide, by decide⟩ ?_
      refine z_fin (fun e9 => ?_)
      subst e9
      exact hret _ _ _ _ (by decide) (by decide) dX1_isGiven_30 (Or.inr rfl)
def X1_codeWithLetter_b2 (p1 : Option Nat) (p2 : Int) (h4 : zH) (s3 : Int) : Option ((Int) ⊕ ((Unit) ⊕ (Int))) :=
  if 9 < s3 then
    some (Sum.inr (Sum.inl ()))
  else
    (zchk (p2 * 10)).bind fun v6 =>
    (zchk (v6 + s3)).bind fun v7 =>
    ((zobj h4 p1 3).bind fun _ => X1_isGiven h4 p1 v7).bind fun x8 =>
    if x8 = 0 then
      some (Sum.inr (Sum.inr (v7)))
    else
      (zchk (s3 + 1)).bind fun v9 =>
      some (Sum.inl (v9))
def X1_codeWithLetter (hp : zH) (a0 : Option Nat) (a1 : Int) : Option Int :=
  (zloop (X1_codeWithLetter_b2 a0 a1 hp) zN 1).bind fun e5 =>
  match e5 with
  | Sum.inl e5 =>
    some 0
  | Sum.inr e5 =>
    some e5
set_option maxRecDepth 20000 in
theorem c_X1_codeWithLetter (hp : zH) (a0 : Option Nat) (a1 : Int) : ∀ r, X1_codeWithLetter hp a0 a1 = some r → zMi yX1_codeWithLetter (Cond.code yX1_codeWithLetter cX1_codeWithLetter 4 (some .int) :: zALL) { frames := 1, cells := 0, slots := 0, locals := 25 } 0 0 [zR a0, zI a1] hp r hp := by
  refine zMi_of (own := RX1) (cc := cX1_codeWithLetter) (maxL := 4) (res := fun r => r) (hp2 := fun _ => hp) (by decide) rfl (Or.inl rfl) (by exact Nat.le_of_ble_eq_true rfl) ?_
  intro K r0 X hnL hret
  have hN : ∀ i, i < 4 → i < K.2.2.2.2.2.2.2.2.2.2.2.2.2.2.1 := by rw [hnL]; exact fun _ h => h
  show zS _ _ (zJ K 0 0 0 [(0, zR a0), (1, zI a1)] [] hp)
  unfold X1_codeWithLetter
  refine z_iconst (pc := 0) (z := 1) X dX1_codeWithLetter_0 rfl ⟨by decide, by decide⟩ ?_
  refine z_istore_n (pc := 1) (i := 2) (lv' := [(2, zI 1), (0, zR a0), (1, zI a1)]) X dX1_codeWithLetter_1 rfl (hN _ (by decide)) rfl ?_
  refine z_pick [1, 2, 0] (lv' := [(0, zR a0), (1, zI a1), (2, zI 1)]) rfl ?_
  refine z_bind (z_loop (body := X1_codeWithLetter_b2 a0 a1 hp) (fun s3 : Int => zJ K 0 0 2 [(0, zR a0), (1, zI a1), (2, zI s3)] [] hp) (fun e5 : ((Unit) ⊕ (Int)) => (match e5 with | Sum.inl e5 => zJ K 0 0 31 [] [] hp | Sum.inr e5 => zJ K 0 0 23 [(3, zI e5)] [] hp)) (fun s3 => ?_) zN 1) (fun e5 => ?_)
  · unfold X1_codeWithLetter_b2
    refine z_iload_n (pc := 2) (i := 2) 2 X dX1_codeWithLetter_2 rfl rfl ?_
    refine z_bipush (pc := 3) (z := 9) X dX1_codeWithLetter_3 rfl ⟨by decide, by decide⟩ ?_
    refine z_icmp_gt (pc := 5) 31 X dX1_codeWithLetter_5 (by decide) (fun _ => ?_) (fun _ => ?_)
    · refine z_pick [] (lv' := []) rfl ?_
      exact z_exit
    · refine z_iload_n (pc := 8) (i := 1) 1 X dX1_codeWithLetter_8 rfl rfl ?_
      refine z_bipush (pc := 9) (z := 10) X dX1_codeWithLetter_9 rfl ⟨by decide, by decide⟩ ?_
      refine z_imul (pc := 11) X dX1_codeWithLetter_11 (fun v6 _ _ => ?_)
      refine z_iload_n (pc := 12) (i := 2) 2 X dX1_codeWithLetter_12 rfl rfl ?_
      refine z_iadd (pc := 13) X dX1_codeWithLetter_13 (fun v7 _ _ => ?_)
      refine z_istore_n (pc := 14) (i := 3) (lv' := [(3, zI v7), (0, zR a0), (1, zI a1), (2, zI s3)]) X dX1_codeWithLetter_14 rfl (hN _ (by decide)) rfl ?_
      refine z_aload_n (pc := 15) (i := 0) 1 X dX1_codeWithLetter_15 rfl rfl ?_
      refine z_iload_n (pc := 16) (i := 3) 0 X dX1_codeWithLetter_16 rfl rfl ?_
      refine z_callV_i (pc := 17) (cells := 0) (slots := 0) (C := RX1) (T := TX1) (N := 7) (ci := 3) [zI v7] X dX1_codeWithLetter_17 (c_X1_isGiven hp a0 v7) kw_X1_71 rfl rfl ⟨rfl, rfl, ⟨by decide, by decide⟩, ⟨by decide, by decide⟩⟩ (Nat.le_of_ble_eq_true rfl) rfl (fun x8 => ?_)
      refine z_if_ne (pc := 20) 25 X dX1_codeWithLetter_20 (by decide) (fun _ => ?_) (fun _ => ?_)
      · refine z_iinc (pc := 25) (i := 2) (n := 1) (lv' := fun v9 => [(2, zI v9), (3, zI v7), (0, zR a0), (1, zI a1)]) 3 X dX1_codeWithLetter_25 rfl (hN _ (by decide)) (fun _ => rfl) (fun v9 _ _ => ?_)
        refine z_goto (pc := 28) 2 X dX1_codeWithLetter_28 (by decide) ?_
        refine z_pick [2, 3, 0] (lv' := [(0, zR a0), (1, zI a1), (2, zI v9)]) rfl ?_
        exact z_back
      · refine z_pick [0] (lv' := [(3, zI v7)]) rfl ?_
        exact z_exit
  · rcases e5 with e5 | e5
    · refine z_iconst (pc := 31) (z := 0) X dX1_codeWithLetter_31 rfl ⟨by decide, by decide⟩ ?_
      refine z_fin (fun e9 => ?_)
      subst e9
      exact hret _ _ _ _ (by decide) (by decide) dX1_codeWithLetter_32 trivial
    · refine z_iload_n (pc := 23) (i := 3) 0 X dX1_codeWithLetter_23 rfl rfl ?_
      refine z_fin (fun e9 => ?_)
      subst e9
      exact hret _ _ _ _ (by decide) (by decide) dX1_codeWithLetter_24 trivial
def X1_codeByMetres_j15 (hp : zH) (a0 : Option Nat) (v2 : Int) (j3 : Int) : Option Int :=
  (zchk (v2 + j3)).bind fun v4 =>
  (zchk (v4 * 10)).bind fun v5 =>
  ((zobj hp a0 3).bind fun _ => X1_isGiven hp a0 v5).bind fun x6 =>
  if x6 = 0 then
    (zchk (v4 * 10)).bind fun v7 =>
    some v7
  else
    ((zobj hp a0 3).bind fun _ => X1_codeWithLetter hp a0 v4).bind fun x8 =>
    some x8
def X1_codeByMetres (hp : zH) (a0 : Option Nat) (a1 : Int) (a2 : Int) : Option Int :=
  (zdiv a1 10).bind fun v1 =>
  (zchk (2 * v1)).bind fun v2 =>
  if a2 = 0 then
    X1_codeByMetres_j15 hp a0 v2 2
  else
    X1_codeByMetres_j15 hp a0 v2 1
set_option maxRecDepth 20000 in
theorem c_X1_codeByMetres (hp : zH) (a0 : Option Nat) (a1 : Int) (a2 : Int) : ∀ r, X1_codeByMetres hp a0 a1 a2 = some r → zMi yX1_codeByMetres (Cond.code yX1_codeByMetres cX1_codeByMetres 4 (some .int) :: zALL) { frames := 2, cells := 0, slots := 0, locals := 48 } 0 0 [zR a0, zI a1, zI a2] hp r hp := by
  refine zMi_of (own := RX1) (cc := cX1_codeByMetres) (maxL := 4) (res := fun r => r) (hp2 := fun _ => hp) (by decide) rfl (Or.inl rfl) (by exact Nat.le_of_ble_eq_true rfl) ?_
  intro K r0 X hnL hret
  have hN : ∀ i, i < 4 → i < K.2.2.2.2.2.2.2.2.2.2.2.2.2.2.1 := by rw [hnL]; exact fun _ h => h
  show zS _ _ (zJ K 0 0 0 [(0, zR a0), (1, zI a1), (2, zI a2)] [] hp)
  unfold X1_codeByMetres
  refine z_iconst (pc := 0) (z := 2) X dX1_codeByMetres_0 rfl ⟨by decide, by decide⟩ ?_
  refine z_iload_n (pc := 1) (i := 1) 1 X dX1_codeByMetres_1 rfl rfl ?_
  refine z_bipush (pc := 2) (z := 10) X dX1_codeByMetres_2 rfl ⟨by decide, by decide⟩ ?_
  refine z_idiv (pc := 4) X dX1_codeByMetres_4 (fun v1 => ?_)
  refine z_imul (pc := 5) X dX1_codeByMetres_5 (fun v2 _ _ => ?_)
  refine z_iload_n (pc := 6) (i := 2) 2 X dX1_codeByMetres_6 rfl rfl ?_
  have hJ15 : ∀ (j3 : Int), zS (X1_codeByMetres_j15 hp a0 v2 j3) (fun r => r = r0) (zJ K 0 0 15 [(0, zR a0)] [zI j3, zI v2] hp) := by
    intro j3
    unfold X1_codeByMetres_j15
    refine z_iadd (pc := 15) X dX1_codeByMetres_15 (fun v4 _ _ => ?_)
    refine z_istore_n (pc := 16) (i := 3) (lv' := [(3, zI v4), (0, zR a0)]) X dX1_codeByMetres_16 rfl (hN _ (by decide)) rfl ?_
    refine z_aload_n (pc := 17) (i := 0) 1 X dX1_codeByMetres_17 rfl rfl ?_
    refine z_iload_n (pc := 18) (i := 3) 0 X dX1_codeByMetres_18 rfl rfl ?_
    refine z_bipush (pc := 19) (z := 10) X dX1_codeByMetres_19 rfl ⟨by decide, by decide⟩ ?_
    refine z_imul (pc := 21) X dX1_codeByMetres_21 (fun v5 _ _ => ?_)
    refine z_callV_i (pc := 22) (cells := 0) (slots := 0) (C := RX1) (T := TX1) (N := 7) (ci := 3) [zI v5] X dX1_codeByMetres_22 (c_X1_isGiven hp a0 v5) kw_X1_71 rfl rfl ⟨rfl, rfl, ⟨by decide, by decide⟩, ⟨by decide, by decide⟩⟩ (Nat.le_of_ble_eq_true rfl) rfl (fun x6 => ?_)
    refine z_if_eq (pc := 25) 36 X dX1_codeByMetres_25 (by decide) (fun _ => ?_) (fun _ => ?_)
    · refine z_iload_n (pc := 36) (i := 3) 0 X dX1_codeByMetres_36 rfl rfl ?_
      refine z_bipush (pc := 37) (z := 10) X dX1_codeByMetres_37 rfl ⟨by decide, by decide⟩ ?_
      refine z_imul (pc := 39) X dX1_codeByMetres_39 (fun v7 _ _ => ?_)
      refine z_fin (fun e9 => ?_)
      subst e9
      exact hret _ _ _ _ (by decide) (by decide) dX1_codeByMetres_40 trivial
    · refine z_aload_n (pc := 28) (i := 0) 1 X dX1_codeByMetres_28 rfl rfl ?_
      refine z_iload_n (pc := 29) (i := 3) 0 X dX1_codeByMetres_29 rfl rfl ?_
      refine z_callV_i (pc := 30) (cells := 0) (slots := 0) (C := RX1) (T := TX1) (N := 7) (ci := 3) [zI v4] X dX1_codeByMetres_30 (c_X1_codeWithLetter hp a0 v4) kw_X1_74 rfl rfl ⟨rfl, rfl, ⟨by decide, by decide⟩, ⟨by decide, by decide⟩⟩ (Nat.le_of_ble_eq_true rfl) rfl (fun x8 => ?_)
      refine z_goto (pc := 33) 40 X dX1_codeByMetres_33 (by decide) ?_
      refine z_fin (fun e9 => ?_)
      subst e9
      exact hret _ _ _ _ (by decide) (by decide) dX1_codeByMetres_40 trivial
  refine z_if_eq (pc := 7) 14 X dX1_codeByMetres_7 (by decide) (fun _ => ?_) (fun _ => ?_)
  · refine z_iconst (pc := 14) (z := 2) X dX1_codeByMetres_14 rfl ⟨by decide, by decide⟩ ?_
    refine z_pick [0] (lv' := [(0, zR a0)]) rfl ?_
    exact hJ15 2
  · refine z_iconst (pc := 10) (z := 1) X dX1_codeByMetres_10 rfl ⟨by decide, by decide⟩ ?_
    refine z_goto (pc := 11) 15 X dX1_codeByMetres_11 (by decide) ?_
    refine z_pick [0] (lv' := [(0, zR a0)]) rfl ?_
    exact hJ15 1
def X1_numberBefore_b8 (p1 : Option Nat) (p2 : Int) (p3 : Int) (h5 : zH) (s4 : Int × Int × Int) : Option ((Int × Int × Int) ⊕ (Int)) :=
  if 40 ≤ s4.2.2 then
    some (Sum.inr (s4.1))
  else
    (zgR h5 p1 3 2).bind fun v7 =>
    (zaI h5 0 v7 s4.2.2).bind fun v8 =>
    if v8 = 0 then
      (zchk (s4.2.2 + 1)).bind fun v9 =>
      some (Sum.inl (s4.1, s4.2.1, v9))
    else
      (zgR h5 p1 3 1).bind fun v10 =>
      (zaI h5 2 v10 s4.2.2).bind fun v11 =>
      if v11 = p3 then
        (zgR h5 p1 3 0).bind fun v13 =>
        (zaI h5 0 v13 s4.2.2).bind fun v14 =>
        if p2 ≤ v14 then
          (zchk (s4.2.2 + 1)).bind fun v15 =>
          some (Sum.inl (s4.1, s4.2.1, v15))
        else
          (zgR h5 p1 3 0).bind fun v16 =>
          (zaI h5 0 v16 s4.2.2).bind fun v17 =>
          if v17 ≤ s4.2.1 then
            (zchk (s4.2.2 + 1)).bind fun v18 =>
            some (Sum.inl (s4.1, s4.2.1, v18))
          else
            (zgR h5 p1 3 0).bind fun v19 =>
            (zaI h5 0 v19 s4.2.2).bind fun v20 =>
            (zgR h5 p1 3 2).bind fun v21 =>
            (zaI h5 0 v21 s4.2.2).bind fun v22 =>
            (zdiv v22 10).bind fun v23 =>
            (zchk (s4.2.2 + 1)).bind fun v24 =>
            some (Sum.inl (v23, v20, v24))
      else
        (zchk (s4.2.2 + 1)).bind fun v12 =>
        some (Sum.inl (s4.1, s4.2.1, v12))
def X1_numberBefore (hp : zH) (a0 : Option Nat) (a1 : Int) (a2 : Int) : Option Int :=
  (zloop (X1_numberBefore_b8 a0 a1 a2 hp) zN (0, (-1), 0)).bind fun e6 =>
  some e6
set_option maxRecDepth 20000 in
theorem c_X1_numberBefore (hp : zH) (a0 : Option Nat) (a1 : Int) (a2 : Int) : ∀ r, X1_numberBefore hp a0 a1 a2 = some r → zMi yX1_numberBefore (Cond.code yX1_numberBefore cX1_numberBefore 6 (some .int) :: zALL) { frames := 0, cells := 0, slots := 0, locals := 0 } 0 0 [zR a0, zI a1, zI a2] hp r hp := by
  refine zMi_of (own := RX1) (cc := cX1_numberBefore) (maxL := 6) (res := fun r => r) (hp2 := fun _ => hp) (by decide) rfl (Or.inl rfl) (by exact Nat.le_of_ble_eq_true rfl) ?_
  intro K r0 X hnL hret
  have hN : ∀ i, i < 6 → i < K.2.2.2.2.2.2.2.2.2.2.2.2.2.2.1 := by rw [hnL]; exact fun _ h => h
  show zS _ _ (zJ K 0 0 0 [(0, zR a0), (1, zI a1), (2, zI a2)] [] hp)
  unfold X1_numberBefore
  refine z_iconst (pc := 0) (z := 0) X dX1_numberBefore_0 rfl ⟨by decide, by decide⟩ ?_
  refine z_istore_n (pc := 1) (i := 3) (lv' := [(3, zI 0), (0, zR a0), (1, zI a1), (2, zI a2)]) X dX1_numberBefore_1 rfl (hN _ (by decide)) rfl ?_
  refine z_iconst (pc := 2) (z := -1) X dX1_numberBefore_2 rfl ⟨by decide, by decide⟩ ?_
  refine z_istore (pc := 3) (i := 4) (lv' := [(4, zI (-1)), (3, zI 0), (0, zR a0), (1, zI a1), (2, zI a2)]) X dX1_numberBefore_3 (hN _ (by decide)) rfl ?_
  refine z_iconst (pc := 5) (z := 0) X dX1_numberBefore_5 rfl ⟨by decide, by decide⟩ ?_
  refine z_istore (pc := 6) (i := 5) (lv' := [(5, zI 0), (4, zI (-1)), (3, zI 0), (0, zR a0), (1, zI a1), (2, zI a2)]) X dX1_numberBefore_6 (hN _ (by decide)) rfl ?_
  refine z_pick [3, 4, 5, 2, 1, 0] (lv' := [(0, zR a0), (1, zI a1), (2, zI a2), (3, zI 0), (4, zI (-1)), (5, zI 0)]) rfl ?_
  refine z_bind (z_loop (body := X1_numberBefore_b8 a0 a1 a2 hp) (fun s4 : Int × Int × Int => zJ K 0 0 8 [(0, zR a0), (1, zI a1), (2, zI a2), (3, zI s4.1), (4, zI s4.2.1), (5, zI s4.2.2)] [] hp) (fun e6 : Int => zJ K 0 0 85 [(3, zI e6)] [] hp) (fun s4 => ?_) zN (0, (-1), 0)) (fun e6 => ?_)
  · unfold X1_numberBefore_b8
    refine z_iload (pc := 8) (i := 5) 5 X dX1_numberBefore_8 rfl ?_
    refine z_bipush (pc := 10) (z := 40) X dX1_numberBefore_10 rfl ⟨by decide, by decide⟩ ?_
    refine z_icmp_ge (pc := 12) 85 X dX1_numberBefore_12 (by decide) (fun _ => ?_) (fun _ => ?_)
    · refine z_pick [3] (lv' := [(3, zI s4.1)]) rfl ?_
      exact z_exit
    · refine z_aload_n (pc := 15) (i := 0) 0 X dX1_numberBefore_15 rfl rfl ?_
      refine z_getR (pc := 16) (C := RX1) (T := TX1) (N := 7) (ci := 3) 2 X dX1_numberBefore_16 inz_X1 rfl (by decide) fw_X1_19 (fun v7 => ?_)
      refine z_iload (pc := 19) (i := 5) 5 X dX1_numberBefore_19 rfl ?_
      refine z_iaload (pc := 21) X dX1_numberBefore_21 (fun v8 => ?_)
      refine z_if_eq (pc := 22) 79 X dX1_numberBefore_22 (by decide) (fun _ => ?_) (fun _ => ?_)
      · refine z_iinc (pc := 79) (i := 5) (n := 1) (lv' := fun v9 => [(5, zI v9), (0, zR a0), (1, zI a1), (2, zI a2), (3, zI s4.1), (4, zI s4.2.1)]) 5 X dX1_numberBefore_79 rfl (hN _ (by decide)) (fun _ => rfl) (fun v9 _ _ => ?_)
        refine z_goto (pc := 82) 8 X dX1_numberBefore_82 (by decide) ?_
        refine z_pick [1, 2, 3, 4, 5, 0] (lv' := [(0, zR a0), (1, zI a1), (2, zI a2), (3, zI s4.1), (4, zI s4.2.1), (5, zI v9)]) rfl ?_
        exact z_back
      · refine z_aload_n (pc := 25) (i := 0) 0 X dX1_numberBefore_25 rfl rfl ?_
        refine z_getR (pc := 26) (C := RX1) (T := TX1) (N := 7) (ci := 3) 1 X dX1_numberBefore_26 inz_X1 rfl (by decide) fw_X1_15 (fun v10 => ?_)
        refine z_iload (pc := 29) (i := 5) 5 X dX1_numberBefore_29 rfl ?_
        refine z_zaload (pc := 31) X dX1_numberBefore_31 (fun v11 => ?_)
        refine z_iload_n (pc := 32) (i := 2) 2 X dX1_numberBefore_32 rfl rfl ?_
        refine z_icmp_ne (pc := 33) 79 X dX1_numberBefore_33 (by decide) (fun _ => ?_) (fun _ => ?_)
        · refine z_iinc (pc := 79) (i := 5) (n := 1) (lv' := fun v12 => [(5, zI v12), (0, zR a0), (1, zI a1), (2, zI a2), (3, zI s4.1), (4, zI s4.2.1)]) 5 X dX1_numberBefore_79 rfl (hN _ (by decide)) (fun _ => rfl) (fun v12 _ _ => ?_)
          refine z_goto (pc := 82) 8 X dX1_numberBefore_82 (by decide) ?_
          refine z_pick [1, 2, 3, 4, 5, 0] (lv' := [(0, zR a0), (1, zI a1), (2, zI a2), (3, zI s4.1), (4, zI s4.2.1), (5, zI v12)]) rfl ?_
          exact z_back
        · refine z_aload_n (pc := 36) (i := 0) 0 X dX1_numberBefore_36 rfl rfl ?_
          refine z_getR (pc := 37) (C := RX1) (T := TX1) (N := 7) (ci := 3) 0 X dX1_numberBefore_37 inz_X1 rfl (by decide) fw_X1_9 (fun v13 => ?_)
          refine z_iload (pc := 40) (i := 5) 5 X dX1_numberBefore_40 rfl ?_
          refine z_iaload (pc := 42) X dX1_numberBefore_42 (fun v14 => ?_)
          refine z_iload_n (pc := 43) (i := 1) 1 X dX1_numberBefore_43 rfl rfl ?_
          refine z_icmp_ge (pc := 44) 79 X dX1_numberBefore_44 (by decide) (fun _ => ?_) (fun _ => ?_)
          · refine z_iinc (pc := 79) (i := 5) (n := 1) (lv' := fun v15 => [(5, zI v15), (0, zR a0), (1, zI a1), (2, zI a2), (3, zI s4.1), (4, zI s4.2.1)]) 5 X dX1_numberBefore_79 rfl (hN _ (by decide)) (fun _ => rfl) (fun v15 _ _ => ?_)
            refine z_goto (pc := 82) 8 X dX1_numberBefore_82 (by decide) ?_
            refine z_pick [1, 2, 3, 4, 5, 0] (lv' := [(0, zR a0), (1, zI a1), (2, zI a2), (3, zI s4.1), (4, zI s4.2.1), (5, zI v15)]) rfl ?_
            exact z_back
          · refine z_aload_n (pc := 47) (i := 0) 0 X dX1_numberBefore_47 rfl rfl ?_
            refine z_getR (pc := 48) (C := RX1) (T := TX1) (N := 7) (ci := 3) 0 X dX1_numberBefore_48 inz_X1 rfl (by decide) fw_X1_9 (fun v16 => ?_)
            refine z_iload (pc := 51) (i := 5) 5 X dX1_numberBefore_51 rfl ?_
            refine z_iaload (pc := 53) X dX1_numberBefore_53 (fun v17 => ?_)
            refine z_iload (pc := 54) (i := 4) 4 X dX1_numberBefore_54 rfl ?_
            refine z_icmp_le (pc := 56) 79 X dX1_numberBefore_56 (by decide) (fun _ => ?_) (fun _ => ?_)
            · refine z_iinc (pc := 79) (i := 5) (n := 1) (lv' := fun v18 => [(5, zI v18), (0, zR a0), (1, zI a1), (2, zI a2), (3, zI s4.1), (4, zI s4.2.1)]) 5 X dX1_numberBefore_79 rfl (hN _ (by decide)) (fun _ => rfl) (fun v18 _ _ => ?_)
              refine z_goto (pc := 82) 8 X dX1_numberBefore_82 (by decide) ?_
              refine z_pick [1, 2, 3, 4, 5, 0] (lv' := [(0, zR a0), (1, zI a1), (2, zI a2), (3, zI s4.1), (4, zI s4.2.1), (5, zI v18)]) rfl ?_
              exact z_back
            · refine z_aload_n (pc := 59) (i := 0) 0 X dX1_numberBefore_59 rfl rfl ?_
              refine z_getR (pc := 60) (C := RX1) (T := TX1) (N := 7) (ci := 3) 0 X dX1_numberBefore_60 inz_X1 rfl (by decide) fw_X1_9 (fun v19 => ?_)
              refine z_iload (pc := 63) (i := 5) 5 X dX1_numberBefore_63 rfl ?_
              refine z_iaload (pc := 65) X dX1_numberBefore_65 (fun v20 => ?_)
              refine z_istore (pc := 66) (i := 4) (lv' := [(4, zI v20), (0, zR a0), (1, zI a1), (2, zI a2), (3, zI s4.1), (5, zI s4.2.2)]) X dX1_numberBefore_66 (hN _ (by decide)) rfl ?_
              refine z_aload_n (pc := 68) (i := 0) 1 X dX1_numberBefore_68 rfl rfl ?_
              refine z_getR (pc := 69) (C := RX1) (T := TX1) (N := 7) (ci := 3) 2 X dX1_numberBefore_69 inz_X1 rfl (by decide) fw_X1_19 (fun v21 => ?_)
              refine z_iload (pc := 72) (i := 5) 5 X dX1_numberBefore_72 rfl ?_
              refine z_iaload (pc := 74) X dX1_numberBefore_74 (fun v22 => ?_)
              refine z_bipush (pc := 75) (z := 10) X dX1_numberBefore_75 rfl ⟨by decide, by decide⟩ ?_
              refine z_idiv (pc := 77) X dX1_numberBefore_77 (fun v23 => ?_)
              refine z_istore_n (pc := 78) (i := 3) (lv' := [(3, zI v23), (4, zI v20), (0, zR a0), (1, zI a1), (2, zI a2), (5, zI s4.2.2)]) X dX1_numberBefore_78 rfl (hN _ (by decide)) rfl ?_
              refine z_iinc (pc := 79) (i := 5) (n := 1) (lv' := fun v24 => [(5, zI v24), (3, zI v23), (4, zI v20), (0, zR a0), (1, zI a1), (2, zI a2)]) 5 X dX1_numberBefore_79 rfl (hN _ (by decide)) (fun _ => rfl) (fun v24 _ _ => ?_)
              refine z_goto (pc := 82) 8 X dX1_numberBefore_82 (by decide) ?_
              refine z_pick [3, 4, 5, 1, 2, 0] (lv' := [(0, zR a0), (1, zI a1), (2, zI a2), (3, zI v23), (4, zI v20), (5, zI v24)]) rfl ?_
              exact z_back
  · refine z_iload_n (pc := 85) (i := 3) 0 X dX1_numberBefore_85 rfl rfl ?_
    refine z_fin (fun e9 => ?_)
    subst e9
    exact hret _ _ _ _ (by decide) (by decide) dX1_numberBefore_86 trivial
def X1_numberAfter_b9 (p1 : Option Nat) (p2 : Int) (p3 : Int) (h5 : zH) (s4 : Int × Int × Int) : Option ((Int × Int × Int) ⊕ (Int)) :=
  if 40 ≤ s4.2.2 then
    some (Sum.inr (s4.1))
  else
    (zgR h5 p1 3 2).bind fun v7 =>
    (zaI h5 0 v7 s4.2.2).bind fun v8 =>
    if v8 = 0 then
      (zchk (s4.2.2 + 1)).bind fun v9 =>
      some (Sum.inl (s4.1, s4.2.1, v9))
    else
      (zgR h5 p1 3 1).bind fun v10 =>
      (zaI h5 2 v10 s4.2.2).bind fun v11 =>
      if v11 = p3 then
        (zgR h5 p1 3 0).bind fun v13 =>
        (zaI h5 0 v13 s4.2.2).bind fun v14 =>
        if v14 ≤ p2 then
          (zchk (s4.2.2 + 1)).bind fun v15 =>
          some (Sum.inl (s4.1, s4.2.1, v15))
        else
          (zgR h5 p1 3 0).bind fun v16 =>
          (zaI h5 0 v16 s4.2.2).bind fun v17 =>
          if s4.2.1 ≤ v17 then
            (zchk (s4.2.2 + 1)).bind fun v18 =>
            some (Sum.inl (s4.1, s4.2.1, v18))
          else
            (zgR h5 p1 3 0).bind fun v19 =>
            (zaI h5 0 v19 s4.2.2).bind fun v20 =>
            (zgR h5 p1 3 2).bind fun v21 =>
            (zaI h5 0 v21 s4.2.2).bind fun v22 =>
            (zdiv v22 10).bind fun v23 =>
            (zchk (s4.2.2 + 1)).bind fun v24 =>
            some (Sum.inl (v23, v20, v24))
      else
        (zchk (s4.2.2 + 1)).bind fun v12 =>
        some (Sum.inl (s4.1, s4.2.1, v12))
def X1_numberAfter (hp : zH) (a0 : Option Nat) (a1 : Int) (a2 : Int) : Option Int :=
  (zloop (X1_numberAfter_b9 a0 a1 a2 hp) zN (0, 64000, 0)).bind fun e6 =>
  some e6
set_option maxRecDepth 20000 in
theorem c_X1_numberAfter (hp : zH) (a0 : Option Nat) (a1 : Int) (a2 : Int) : ∀ r, X1_numberAfter hp a0 a1 a2 = some r → zMi yX1_numberAfter (Cond.code yX1_numberAfter cX1_numberAfter 6 (some .int) :: zALL) { frames := 0, cells := 0, slots := 0, locals := 0 } 0 0 [zR a0, zI a1, zI a2] hp r hp := by
  refine zMi_of (own := RX1) (cc := cX1_numberAfter) (maxL := 6) (res := fun r => r) (hp2 := fun _ => hp) (by decide) rfl (Or.inl rfl) (by exact Nat.le_of_ble_eq_true rfl) ?_
  intro K r0 X hnL hret
  have hN : ∀ i, i < 6 → i < K.2.2.2.2.2.2.2.2.2.2.2.2.2.2.1 := by rw [hnL]; exact fun _ h => h
  show zS _ _ (zJ K 0 0 0 [(0, zR a0), (1, zI a1), (2, zI a2)] [] hp)
  unfold X1_numberAfter
  refine z_iconst (pc := 0) (z := 0) X dX1_numberAfter_0 rfl ⟨by decide, by decide⟩ ?_
  refine z_istore_n (pc := 1) (i := 3) (lv' := [(3, zI 0), (0, zR a0), (1, zI a1), (2, zI a2)]) X dX1_numberAfter_1 rfl (hN _ (by decide)) rfl ?_
  refine z_ldc (pc := 2) (z := 64000) X dX1_numberAfter_2 (zin (zt3 85 (by decide +kernel)) rfl) ⟨by decide, by decide⟩ ?_
  refine z_istore (pc := 4) (i := 4) (lv' := [(4, zI 64000), (3, zI 0), (0, zR a0), (1, zI a1), (2, zI a2)]) X dX1_numberAfter_4 (hN _ (by decide)) rfl ?_
  refine z_iconst (pc := 6) (z := 0) X dX1_numberAfter_6 rfl ⟨by decide, by decide⟩ ?_
  refine z_istore (pc := 7) (i := 5) (lv' := [(5, zI 0), (4, zI 64000), (3, zI 0), (0, zR a0), (1, zI a1), (2, zI a2)]) X dX1_numberAfter_7 (hN _ (by decide)) rfl ?_
  refine z_pick [3, 4, 5, 2, 1, 0] (lv' := [(0, zR a0), (1, zI a1), (2, zI a2), (3, zI 0), (4, zI 64000), (5, zI 0)]) rfl ?_
  refine z_bind (z_loop (body := X1_numberAfter_b9 a0 a1 a2 hp) (fun s4 : Int × Int × Int => zJ K 0 0 9 [(0, zR a0), (1, zI a1), (2, zI a2), (3, zI s4.1), (4, zI s4.2.1), (5, zI s4.2.2)] [] hp) (fun e6 : Int => zJ K 0 0 86 [(3, zI e6)] [] hp) (fun s4 => ?_) zN (0, 64000, 0)) (fun e6 => ?_)
  · unfold X1_numberAfter_b9
    refine z_iload (pc := 9) (i := 5) 5 X dX1_numberAfter_9 rfl ?_
    refine z_bipush (pc := 11) (z := 40) X dX1_numberAfter_11 rfl ⟨by decide, by decide⟩ ?_
    refine z_icmp_ge (pc := 13) 86 X dX1_numberAfter_13 (by decide) (fun _ => ?_) (fun _ => ?_)
    · refine z_pick [3] (lv' := [(3, zI s4.1)]) rfl ?_
      exact z_exit
    · refine z_aload_n (pc := 16) (i := 0) 0 X dX1_numberAfter_16 rfl rfl ?_
      refine z_getR (pc := 17) (C := RX1) (T := TX1) (N := 7) (ci := 3) 2 X dX1_numberAfter_17 inz_X1 rfl (by decide) fw_X1_19 (fun v7 => ?_)
      refine z_iload (pc := 20) (i := 5) 5 X dX1_numberAfter_20 rfl ?_
      refine z_iaload (pc := 22) X dX1_numberAfter_22 (fun v8 => ?_)
      refine z_if_eq (pc := 23) 80 X dX1_numberAfter_23 (by decide) (fun _ => ?_) (fun _ => ?_)
      · refine z_iinc (pc := 80) (i := 5) (n := 1) (lv' := fun v9 => [(5, zI v9), (0, zR a0), (1, zI a1), (2, zI a2), (3, zI s4.1), (4, zI s4.2.1)]) 5 X dX1_numberAfter_80 rfl (hN _ (by decide)) (fun _ => rfl) (fun v9 _ _ => ?_)
        refine z_goto (pc := 83) 9 X dX1_numberAfter_83 (by decide) ?_
        refine z_pick [1, 2, 3, 4, 5, 0] (lv' := [(0, zR a0), (1, zI a1), (2, zI a2), (3, zI s4.1), (4, zI s4.2.1), (5, zI v9)]) rfl ?_
        exact z_back
      · refine z_aload_n (pc := 26) (i := 0) 0 X dX1_numberAfter_26 rfl rfl ?_
        refine z_getR (pc := 27) (C := RX1) (T := TX1) (N := 7) (ci := 3) 1 X dX1_numberAfter_27 inz_X1 rfl (by decide) fw_X1_15 (fun v10 => ?_)
        refine z_iload (pc := 30) (i := 5) 5 X dX1_numberAfter_30 rfl ?_
        refine z_zaload (pc := 32) X dX1_numberAfter_32 (fun v11 => ?_)
        refine z_iload_n (pc := 33) (i := 2) 2 X dX1_numberAfter_33 rfl rfl ?_
        refine z_icmp_ne (pc := 34) 80 X dX1_numberAfter_34 (by decide) (fun _ => ?_) (fun _ => ?_)
        · refine z_iinc (pc := 80) (i := 5) (n := 1) (lv' := fun v12 => [(5, zI v12), (0, zR a0), (1, zI a1), (2, zI a2), (3, zI s4.1), (4, zI s4.2.1)]) 5 X dX1_numberAfter_80 rfl (hN _ (by decide)) (fun _ => rfl) (fun v12 _ _ => ?_)
          refine z_goto (pc := 83) 9 X dX1_numberAfter_83 (by decide) ?_
          refine z_pick [1, 2, 3, 4, 5, 0] (lv' := [(0, zR a0), (1, zI a1), (2, zI a2), (3, zI s4.1), (4, zI s4.2.1), (5, zI v12)]) rfl ?_
          exact z_back
        · refine z_aload_n (pc := 37) (i := 0) 0 X dX1_numberAfter_37 rfl rfl ?_
          refine z_getR (pc := 38) (C := RX1) (T := TX1) (N := 7) (ci := 3) 0 X dX1_numberAfter_38 inz_X1 rfl (by decide) fw_X1_9 (fun v13 => ?_)
          refine z_iload (pc := 41) (i := 5) 5 X dX1_numberAfter_41 rfl ?_
          refine z_iaload (pc := 43) X dX1_numberAfter_43 (fun v14 => ?_)
          refine z_iload_n (pc := 44) (i := 1) 1 X dX1_numberAfter_44 rfl rfl ?_
          refine z_icmp_le (pc := 45) 80 X dX1_numberAfter_45 (by decide) (fun _ => ?_) (fun _ => ?_)
          · refine z_iinc (pc := 80) (i := 5) (n := 1) (lv' := fun v15 => [(5, zI v15), (0, zR a0), (1, zI a1), (2, zI a2), (3, zI s4.1), (4, zI s4.2.1)]) 5 X dX1_numberAfter_80 rfl (hN _ (by decide)) (fun _ => rfl) (fun v15 _ _ => ?_)
            refine z_goto (pc := 83) 9 X dX1_numberAfter_83 (by decide) ?_
            refine z_pick [1, 2, 3, 4, 5, 0] (lv' := [(0, zR a0), (1, zI a1), (2, zI a2), (3, zI s4.1), (4, zI s4.2.1), (5, zI v15)]) rfl ?_
            exact z_back
          · refine z_aload_n (pc := 48) (i := 0) 0 X dX1_numberAfter_48 rfl rfl ?_
            refine z_getR (pc := 49) (C := RX1) (T := TX1) (N := 7) (ci := 3) 0 X dX1_numberAfter_49 inz_X1 rfl (by decide) fw_X1_9 (fun v16 => ?_)
            refine z_iload (pc := 52) (i := 5) 5 X dX1_numberAfter_52 rfl ?_
            refine z_iaload (pc := 54) X dX1_numberAfter_54 (fun v17 => ?_)
            refine z_iload (pc := 55) (i := 4) 4 X dX1_numberAfter_55 rfl ?_
            refine z_icmp_ge (pc := 57) 80 X dX1_numberAfter_57 (by decide) (fun _ => ?_) (fun _ => ?_)
            · refine z_iinc (pc := 80) (i := 5) (n := 1) (lv' := fun v18 => [(5, zI v18), (0, zR a0), (1, zI a1), (2, zI a2), (3, zI s4.1), (4, zI s4.2.1)]) 5 X dX1_numberAfter_80 rfl (hN _ (by decide)) (fun _ => rfl) (fun v18 _ _ => ?_)
              refine z_goto (pc := 83) 9 X dX1_numberAfter_83 (by decide) ?_
              refine z_pick [1, 2, 3, 4, 5, 0] (lv' := [(0, zR a0), (1, zI a1), (2, zI a2), (3, zI s4.1), (4, zI s4.2.1), (5, zI v18)]) rfl ?_
              exact z_back
            · refine z_aload_n (pc := 60) (i := 0) 0 X dX1_numberAfter_60 rfl rfl ?_
              refine z_getR (pc := 61) (C := RX1) (T := TX1) (N := 7) (ci := 3) 0 X dX1_numberAfter_61 inz_X1 rfl (by decide) fw_X1_9 (fun v19 => ?_)
              refine z_iload (pc := 64) (i := 5) 5 X dX1_numberAfter_64 rfl ?_
              refine z_iaload (pc := 66) X dX1_numberAfter_66 (fun v20 => ?_)
              refine z_istore (pc := 67) (i := 4) (lv' := [(4, zI v20), (0, zR a0), (1, zI a1), (2, zI a2), (3, zI s4.1), (5, zI s4.2.2)]) X dX1_numberAfter_67 (hN _ (by decide)) rfl ?_
              refine z_aload_n (pc := 69) (i := 0) 1 X dX1_numberAfter_69 rfl rfl ?_
              refine z_getR (pc := 70) (C := RX1) (T := TX1) (N := 7) (ci := 3) 2 X dX1_numberAfter_70 inz_X1 rfl (by decide) fw_X1_19 (fun v21 => ?_)
              refine z_iload (pc := 73) (i := 5) 5 X dX1_numberAfter_73 rfl ?_
              refine z_iaload (pc := 75) X dX1_numberAfter_75 (fun v22 => ?_)
              refine z_bipush (pc := 76) (z := 10) X dX1_numberAfter_76 rfl ⟨by decide, by decide⟩ ?_
              refine z_idiv (pc := 78) X dX1_numberAfter_78 (fun v23 => ?_)
              refine z_istore_n (pc := 79) (i := 3) (lv' := [(3, zI v23), (4, zI v20), (0, zR a0), (1, zI a1), (2, zI a2), (5, zI s4.2.2)]) X dX1_numberAfter_79 rfl (hN _ (by decide)) rfl ?_
              refine z_iinc (pc := 80) (i := 5) (n := 1) (lv' := fun v24 => [(5, zI v24), (3, zI v23), (4, zI v20), (0, zR a0), (1, zI a1), (2, zI a2)]) 5 X dX1_numberAfter_80 rfl (hN _ (by decide)) (fun _ => rfl) (fun v24 _ _ => ?_)
              refine z_goto (pc := 83) 9 X dX1_numberAfter_83 (by decide) ?_
              refine z_pick [3, 4, 5, 1, 2, 0] (lv' := [(0, zR a0), (1, zI a1), (2, zI a2), (3, zI v23), (4, zI v20), (5, zI v24)]) rfl ?_
              exact z_back
  · refine z_iload_n (pc := 86) (i := 3) 0 X dX1_numberAfter_86 rfl rfl ?_
    refine z_fin (fun e9 => ?_)
    subst e9
    exact hret _ _ _ _ (by decide) (by decide) dX1_numberAfter_87 trivial
def X1_isNumberGiven_b11 (p3 : Int) (p4 : Option Nat) (p5 : Int) (h7 : zH) (s6 : Int) : Option ((Int) ⊕ ((Unit) ⊕ (Unit))) :=
  if p5 ≤ s6 then
    some (Sum.inr (Sum.inl ()))
  else
    (zaI h7 0 p4 s6).bind fun v9 =>
    if v9 = 0 then
      (zchk (s6 + 1)).bind fun v10 =>
      some (Sum.inl (v10))
    else
      (zdiv v9 10).bind fun v11 =>
      if v11 = p3 then
        some (Sum.inr (Sum.inr ()))
      else
        (zchk (s6 + 1)).bind fun v12 =>
        some (Sum.inl (v12))
def X1_isNumberGiven (hp : zH) (a0 : Option Nat) (a1 : Int) : Option Int :=
  (zgR hp a0 3 2).bind fun v1 =>
  (zlen hp v1).bind fun v2 =>
  (zloop (X1_isNumberGiven_b11 a1 v1 v2 hp) zN 0).bind fun e8 =>
  match e8 with
  | Sum.inl e8 =>
    some 0
  | Sum.inr e8 =>
    some 1
set_option maxRecDepth 20000 in
theorem c_X1_isNumberGiven (hp : zH) (a0 : Option Nat) (a1 : Int) : ∀ r, X1_isNumberGiven hp a0 a1 = some r → zMi yX1_isNumberGiven (Cond.code yX1_isNumberGiven cX1_isNumberGiven 6 (some .boolean) :: zALL) { frames := 0, cells := 0, slots := 0, locals := 0 } 0 0 [zR a0, zI a1] hp r hp := by
  refine zMi_of (own := RX1) (cc := cX1_isNumberGiven) (maxL := 6) (res := fun r => r) (hp2 := fun _ => hp) (by decide) rfl (Or.inr (Or.inl rfl)) (by exact Nat.le_of_ble_eq_true rfl) ?_
  intro K r0 X hnL hret
  have hN : ∀ i, i < 6 → i < K.2.2.2.2.2.2.2.2.2.2.2.2.2.2.1 := by rw [hnL]; exact fun _ h => h
  show zS _ _ (zJ K 0 0 0 [(0, zR a0), (1, zI a1)] [] hp)
  unfold X1_isNumberGiven
  refine z_aload_n (pc := 0) (i := 0) 0 X dX1_isNumberGiven_0 rfl rfl ?_
  refine z_getR (pc := 1) (C := RX1) (T := TX1) (N := 7) (ci := 3) 2 X dX1_isNumberGiven_1 inz_X1 rfl (by decide) fw_X1_19 (fun v1 => ?_)
  refine z_astore_n (pc := 4) (i := 2) (lv' := [(2, zR v1), (0, zR a0), (1, zI a1)]) X dX1_isNumberGiven_4 rfl (hN _ (by decide)) rfl ?_
  refine z_aload_n (pc := 5) (i := 2) 0 X dX1_isNumberGiven_5 rfl rfl ?_
  refine z_alen (pc := 6) X dX1_isNumberGiven_6 (fun v2 => ?_)
  refine z_istore_n (pc := 7) (i := 3) (lv' := [(3, zI v2), (2, zR v1), (0, zR a0), (1, zI a1)]) X dX1_isNumberGiven_7 rfl (hN _ (by decide)) rfl ?_
  refine z_iconst (pc := 8) (z := 0) X dX1_isNumberGiven_8 rfl ⟨by decide, by decide⟩ ?_
  refine z_istore (pc := 9) (i := 4) (lv' := [(4, zI 0), (3, zI v2), (2, zR v1), (0, zR a0), (1, zI a1)]) X dX1_isNumberGiven_9 (hN _ (by decide)) rfl ?_
  refine z_pick [4, 2, 1, 0] (lv' := [(1, zI a1), (2, zR v1), (3, zI v2), (4, zI 0)]) rfl ?_
  refine z_bind (z_loop (body := X1_isNumberGiven_b11 a1 v1 v2 hp) (fun s6 : Int => zJ K 0 0 11 [(1, zI a1), (2, zR v1), (3, zI v2), (4, zI s6)] [] hp) (fun e8 : ((Unit) ⊕ (Unit)) => (match e8 with | Sum.inl e8 => zJ K 0 0 45 [] [] hp | Sum.inr e8 => zJ K 0 0 37 [] [] hp)) (fun s6 => ?_) zN 0) (fun e8 => ?_)
  · unfold X1_isNumberGiven_b11
    refine z_iload (pc := 11) (i := 4) 3 X dX1_isNumberGiven_11 rfl ?_
    refine z_iload_n (pc := 13) (i := 3) 2 X dX1_isNumberGiven_13 rfl rfl ?_
    refine z_icmp_ge (pc := 14) 45 X dX1_isNumberGiven_14 (by decide) (fun _ => ?_) (fun _ => ?_)
    · refine z_pick [] (lv' := []) rfl ?_
      exact z_exit
    · refine z_aload_n (pc := 17) (i := 2) 1 X dX1_isNumberGiven_17 rfl rfl ?_
      refine z_iload (pc := 18) (i := 4) 3 X dX1_isNumberGiven_18 rfl ?_
      refine z_iaload (pc := 20) X dX1_isNumberGiven_20 (fun v9 => ?_)
      refine z_istore (pc := 21) (i := 5) (lv' := [(5, zI v9), (1, zI a1), (2, zR v1), (3, zI v2), (4, zI s6)]) X dX1_isNumberGiven_21 (hN _ (by decide)) rfl ?_
      refine z_iload (pc := 23) (i := 5) 0 X dX1_isNumberGiven_23 rfl ?_
      refine z_if_eq (pc := 25) 39 X dX1_isNumberGiven_25 (by decide) (fun _ => ?_) (fun _ => ?_)
      · refine z_iinc (pc := 39) (i := 4) (n := 1) (lv' := fun v10 => [(4, zI v10), (5, zI v9), (1, zI a1), (2, zR v1), (3, zI v2)]) 4 X dX1_isNumberGiven_39 rfl (hN _ (by decide)) (fun _ => rfl) (fun v10 _ _ => ?_)
        refine z_goto (pc := 42) 11 X dX1_isNumberGiven_42 (by decide) ?_
        refine z_pick [2, 3, 4, 0] (lv' := [(1, zI a1), (2, zR v1), (3, zI v2), (4, zI v10)]) rfl ?_
        exact z_back
      · refine z_iload (pc := 28) (i := 5) 0 X dX1_isNumberGiven_28 rfl ?_
        refine z_bipush (pc := 30) (z := 10) X dX1_isNumberGiven_30 rfl ⟨by decide, by decide⟩ ?_
        refine z_idiv (pc := 32) X dX1_isNumberGiven_32 (fun v11 => ?_)
        refine z_iload_n (pc := 33) (i := 1) 1 X dX1_isNumberGiven_33 rfl rfl ?_
        refine z_icmp_ne (pc := 34) 39 X dX1_isNumberGiven_34 (by decide) (fun _ => ?_) (fun _ => ?_)
        · refine z_iinc (pc := 39) (i := 4) (n := 1) (lv' := fun v12 => [(4, zI v12), (5, zI v9), (1, zI a1), (2, zR v1), (3, zI v2)]) 4 X dX1_isNumberGiven_39 rfl (hN _ (by decide)) (fun _ => rfl) (fun v12 _ _ => ?_)
          refine z_goto (pc := 42) 11 X dX1_isNumberGiven_42 (by decide) ?_
          refine z_pick [2, 3, 4, 0] (lv' := [(1, zI a1), (2, zR v1), (3, zI v2), (4, zI v12)]) rfl ?_
          exact z_back
        · refine z_pick [] (lv' := []) rfl ?_
          exact z_exit
  · rcases e8 with e8 | e8
    · refine z_iconst (pc := 45) (z := 0) X dX1_isNumberGiven_45 rfl ⟨by decide, by decide⟩ ?_
      refine z_fin (fun e9 => ?_)
      subst e9
      exact hret _ _ _ _ (by decide) (by decide) dX1_isNumberGiven_46 (Or.inl rfl)
    · refine z_iconst (pc := 37) (z := 1) X dX1_isNumberGiven_37 rfl ⟨by decide, by decide⟩ ?_
      refine z_fin (fun e9 => ?_)
      subst e9
      exact hret _ _ _ _ (by decide) (by decide) dX1_isNumberGiven_38 (Or.inr rfl)
def X1_leastFree_b39 (p5 : Option Nat) (p6 : Int) (h8 : zH) (s7 : Int × Int) : Option ((Int × Int) ⊕ ((Unit) ⊕ ((Unit) ⊕ (Int)))) :=
  if 40 < s7.2 then
    some (Sum.inr (Sum.inl ()))
  else
    if p6 = 0 then
      ((zobj h8 p5 3).bind fun _ => X1_isNumberGiven h8 p5 s7.1).bind fun x10 =>
      if x10 = 0 then
        some (Sum.inr (Sum.inr (Sum.inr (s7.1))))
      else
        (zchk (s7.1 + 2)).bind fun v11 =>
        (zchk (s7.2 + 1)).bind fun v12 =>
        some (Sum.inl (v11, v12))
    else
      if s7.1 < p6 then
        ((zobj h8 p5 3).bind fun _ => X1_isNumberGiven h8 p5 s7.1).bind fun x13 =>
        if x13 = 0 then
          some (Sum.inr (Sum.inr (Sum.inr (s7.1))))
        else
          (zchk (s7.1 + 2)).bind fun v14 =>
          (zchk (s7.2 + 1)).bind fun v15 =>
          some (Sum.inl (v14, v15))
      else
        some (Sum.inr (Sum.inr (Sum.inl ())))
def X1_leastFree_j34 (hp : zH) (a0 : Option Nat) (a2 : Int) (j4 : Int) : Option Int :=
  (zloop (X1_leastFree_b39 a0 a2 hp) zN (j4, 0)).bind fun e9 =>
  match e9 with
  | Sum.inl e9 =>
    some 0
  | Sum.inr e9 =>
    match e9 with
    | Sum.inl e9 =>
      some 0
    | Sum.inr e9 =>
      some e9
def X1_leastFree_j9 (hp : zH) (a0 : Option Nat) (a1 : Int) (a2 : Int) (j1 : Int) : Option Int :=
  (zchk (a1 + 1)).bind fun v2 =>
  (zand v2 1).bind fun v3 =>
  if v3 = j1 then
    X1_leastFree_j34 hp a0 a2 v2
  else
    (zchk (v2 + 1)).bind fun v16 =>
    X1_leastFree_j34 hp a0 a2 v16
def X1_leastFree (hp : zH) (a0 : Option Nat) (a1 : Int) (a2 : Int) (a3 : Int) : Option Int :=
  if a3 = 0 then
    X1_leastFree_j9 hp a0 a1 a2 0
  else
    X1_leastFree_j9 hp a0 a1 a2 1
set_option maxRecDepth 20000 in
theorem c_X1_leastFree (hp : zH) (a0 : Option Nat) (a1 : Int) (a2 : Int) (a3 : Int) : ∀ r, X1_leastFree hp a0 a1 a2 a3 = some r → zMi yX1_leastFree (Cond.code yX1_leastFree cX1_leastFree 8 (some .int) :: zALL) { frames := 1, cells := 0, slots := 0, locals := 25 } 0 0 [zR a0, zI a1, zI a2, zI a3] hp r hp := by
  refine zMi_of (own := RX1) (cc := cX1_leastFree) (maxL := 8) (res := fun r => r) (hp2 := fun _ => hp) (by decide) rfl (Or.inl rfl) (by exact Nat.le_of_ble_eq_true rfl) ?_
  intro K r0 X hnL hret
  have hN : ∀ i, i < 8 → i < K.2.2.2.2.2.2.2.2.2.2.2.2.2.2.1 := by rw [hnL]; exact fun _ h => h
  show zS _ _ (zJ K 0 0 0 [(0, zR a0), (1, zI a1), (2, zI a2), (3, zI a3)] [] hp)
  unfold X1_leastFree
  refine z_iload_n (pc := 0) (i := 3) 3 X dX1_leastFree_0 rfl rfl ?_
  have hJ9 : ∀ (j1 : Int), zS (X1_leastFree_j9 hp a0 a1 a2 j1) (fun r => r = r0) (zJ K 0 0 9 [(0, zR a0), (1, zI a1), (2, zI a2)] [zI j1] hp) := by
    intro j1
    unfold X1_leastFree_j9
    refine z_istore (pc := 9) (i := 4) (lv' := [(4, zI j1), (0, zR a0), (1, zI a1), (2, zI a2)]) X dX1_leastFree_9 (hN _ (by decide)) rfl ?_
    refine z_iload_n (pc := 11) (i := 1) 2 X dX1_leastFree_11 rfl rfl ?_
    refine z_iconst (pc := 12) (z := 1) X dX1_leastFree_12 rfl ⟨by decide, by decide⟩ ?_
    refine z_iadd (pc := 13) X dX1_leastFree_13 (fun v2 _ _ => ?_)
    refine z_istore (pc := 14) (i := 5) (lv' := [(5, zI v2), (4, zI j1), (0, zR a0), (1, zI a1), (2, zI a2)]) X dX1_leastFree_14 (hN _ (by decide)) rfl ?_
    refine z_iload (pc := 16) (i := 5) 0 X dX1_leastFree_16 rfl ?_
    refine z_iconst (pc := 18) (z := 1) X dX1_leastFree_18 rfl ⟨by decide, by decide⟩ ?_
    refine z_iand (pc := 19) X dX1_leastFree_19 (fun v3 => ?_)
    refine z_iload (pc := 20) (i := 4) 1 X dX1_leastFree_20 rfl ?_
    have hJ34 : ∀ (j4 : Int), zS (X1_leastFree_j34 hp a0 a2 j4) (fun r => r = r0) (zJ K 0 0 34 [(0, zR a0), (2, zI a2)] [zI j4] hp) := by
      intro j4
      unfold X1_leastFree_j34
      refine z_istore (pc := 34) (i := 6) (lv' := [(6, zI j4), (0, zR a0), (2, zI a2)]) X dX1_leastFree_34 (hN _ (by decide)) rfl ?_
      refine z_iconst (pc := 36) (z := 0) X dX1_leastFree_36 rfl ⟨by decide, by decide⟩ ?_
      refine z_istore (pc := 37) (i := 7) (lv' := [(7, zI 0), (6, zI j4), (0, zR a0), (2, zI a2)]) X dX1_leastFree_37 (hN _ (by decide)) rfl ?_
      refine z_pick [2, 3, 1, 0] (lv' := [(0, zR a0), (2, zI a2), (6, zI j4), (7, zI 0)]) rfl ?_
      refine z_bind (z_loop (body := X1_leastFree_b39 a0 a2 hp) (fun s7 : Int × Int => zJ K 0 0 39 [(0, zR a0), (2, zI a2), (6, zI s7.1), (7, zI s7.2)] [] hp) (fun e9 : ((Unit) ⊕ ((Unit) ⊕ (Int))) => (match e9 with | Sum.inl e9 => zJ K 0 0 79 [] [] hp | Sum.inr e9 => (match e9 with | Sum.inl e9 => zJ K 0 0 56 [] [] hp | Sum.inr e9 => zJ K 0 0 67 [(6, zI e9)] [] hp))) (fun s7 => ?_) zN (j4, 0)) (fun e9 => ?_)
      · unfold X1_leastFree_b39
        refine z_iload (pc := 39) (i := 7) 3 X dX1_leastFree_39 rfl ?_
        refine z_bipush (pc := 41) (z := 40) X dX1_leastFree_41 rfl ⟨by decide, by decide⟩ ?_
        refine z_icmp_gt (pc := 43) 79 X dX1_leastFree_43 (by decide) (fun _ => ?_) (fun _ => ?_)
        · refine z_pick [] (lv' := []) rfl ?_
          exact z_exit
        · refine z_iload_n (pc := 46) (i := 2) 1 X dX1_leastFree_46 rfl rfl ?_
          refine z_if_eq (pc := 47) 58 X dX1_leastFree_47 (by decide) (fun _ => ?_) (fun _ => ?_)
          · refine z_aload_n (pc := 58) (i := 0) 0 X dX1_leastFree_58 rfl rfl ?_
            refine z_iload (pc := 59) (i := 6) 2 X dX1_leastFree_59 rfl ?_
            refine z_callV_i (pc := 61) (cells := 0) (slots := 0) (C := RX1) (T := TX1) (N := 7) (ci := 3) [zI s7.1] X dX1_leastFree_61 (c_X1_isNumberGiven hp a0 s7.1) kw_X1_87 rfl rfl ⟨rfl, rfl, ⟨by decide, by decide⟩, ⟨by decide, by decide⟩⟩ (Nat.le_of_ble_eq_true rfl) rfl (fun x10 => ?_)
            refine z_if_ne (pc := 64) 70 X dX1_leastFree_64 (by decide) (fun _ => ?_) (fun _ => ?_)
            · refine z_iinc (pc := 70) (i := 6) (n := 2) (lv' := fun v11 => [(6, zI v11), (0, zR a0), (2, zI a2), (7, zI s7.2)]) 2 X dX1_leastFree_70 rfl (hN _ (by decide)) (fun _ => rfl) (fun v11 _ _ => ?_)
              refine z_iinc (pc := 73) (i := 7) (n := 1) (lv' := fun v12 => [(7, zI v12), (6, zI v11), (0, zR a0), (2, zI a2)]) 3 X dX1_leastFree_73 rfl (hN _ (by decide)) (fun _ => rfl) (fun v12 _ _ => ?_)
              refine z_goto (pc := 76) 39 X dX1_leastFree_76 (by decide) ?_
              refine z_pick [2, 3, 1, 0] (lv' := [(0, zR a0), (2, zI a2), (6, zI v11), (7, zI v12)]) rfl ?_
              exact z_back
            · refine z_pick [2] (lv' := [(6, zI s7.1)]) rfl ?_
              exact z_exit
          · refine z_iload (pc := 50) (i := 6) 2 X dX1_leastFree_50 rfl ?_
            refine z_iload_n (pc := 52) (i := 2) 1 X dX1_leastFree_52 rfl rfl ?_
            refine z_icmp_lt (pc := 53) 58 X dX1_leastFree_53 (by decide) (fun _ => ?_) (fun _ => ?_)
            · refine z_aload_n (pc := 58) (i := 0) 0 X dX1_leastFree_58 rfl rfl ?_
              refine z_iload (pc := 59) (i := 6) 2 X dX1_leastFree_59 rfl ?_
              refine z_callV_i (pc := 61) (cells := 0) (slots := 0) (C := RX1) (T := TX1) (N := 7) (ci := 3) [zI s7.1] X dX1_leastFree_61 (c_X1_isNumberGiven hp a0 s7.1) kw_X1_87 rfl rfl ⟨rfl, rfl, ⟨by decide, by decide⟩, ⟨by decide, by decide⟩⟩ (Nat.le_of_ble_eq_true rfl) rfl (fun x13 => ?_)
              refine z_if_ne (pc := 64) 70 X dX1_leastFree_64 (by decide) (fun _ => ?_) (fun _ => ?_)
              · refine z_iinc (pc := 70) (i := 6) (n := 2) (lv' := fun v14 => [(6, zI v14), (0, zR a0), (2, zI a2), (7, zI s7.2)]) 2 X dX1_leastFree_70 rfl (hN _ (by decide)) (fun _ => rfl) (fun v14 _ _ => ?_)
                refine z_iinc (pc := 73) (i := 7) (n := 1) (lv' := fun v15 => [(7, zI v15), (6, zI v14), (0, zR a0), (2, zI a2)]) 3 X dX1_leastFree_73 rfl (hN _ (by decide)) (fun _ => rfl) (fun v15 _ _ => ?_)
                refine z_goto (pc := 76) 39 X dX1_leastFree_76 (by decide) ?_
                refine z_pick [2, 3, 1, 0] (lv' := [(0, zR a0), (2, zI a2), (6, zI v14), (7, zI v15)]) rfl ?_
                exact z_back
              · refine z_pick [2] (lv' := [(6, zI s7.1)]) rfl ?_
                exact z_exit
            · refine z_pick [] (lv' := []) rfl ?_
              exact z_exit
      · rcases e9 with e9 | e9
        · refine z_iconst (pc := 79) (z := 0) X dX1_leastFree_79 rfl ⟨by decide, by decide⟩ ?_
          refine z_fin (fun e9 => ?_)
          subst e9
          exact hret _ _ _ _ (by decide) (by decide) dX1_leastFree_80 trivial
        · rcases e9 with e9 | e9
          · refine z_iconst (pc := 56) (z := 0) X dX1_leastFree_56 rfl ⟨by decide, by decide⟩ ?_
            refine z_fin (fun e9 => ?_)
            subst e9
            exact hret _ _ _ _ (by decide) (by decide) dX1_leastFree_57 trivial
          · refine z_iload (pc := 67) (i := 6) 0 X dX1_leastFree_67 rfl ?_
            refine z_fin (fun e9 => ?_)
            subst e9
            exact hret _ _ _ _ (by decide) (by decide) dX1_leastFree_69 trivial
    refine z_icmp_ne (pc := 22) 30 X dX1_leastFree_22 (by decide) (fun _ => ?_) (fun _ => ?_)
    · refine z_iload (pc := 30) (i := 5) 0 X dX1_leastFree_30 rfl ?_
      refine z_iconst (pc := 32) (z := 1) X dX1_leastFree_32 rfl ⟨by decide, by decide⟩ ?_
      refine z_iadd (pc := 33) X dX1_leastFree_33 (fun v16 _ _ => ?_)
      refine z_pick [2, 4] (lv' := [(0, zR a0), (2, zI a2)]) rfl ?_
      exact hJ34 v16
    · refine z_iload (pc := 25) (i := 5) 0 X dX1_leastFree_25 rfl ?_
      refine z_goto (pc := 27) 34 X dX1_leastFree_27 (by decide) ?_
      refine z_pick [2, 4] (lv' := [(0, zR a0), (2, zI a2)]) rfl ?_
      exact hJ34 v2
  refine z_if_eq (pc := 1) 8 X dX1_leastFree_1 (by decide) (fun _ => ?_) (fun _ => ?_)
  · refine z_iconst (pc := 8) (z := 0) X dX1_leastFree_8 rfl ⟨by decide, by decide⟩ ?_
    refine z_pick [0, 1, 2] (lv' := [(0, zR a0), (1, zI a1), (2, zI a2)]) rfl ?_
    exact hJ9 0
  · refine z_iconst (pc := 4) (z := 1) X dX1_leastFree_4 rfl ⟨by decide, by decide⟩ ?_
    refine z_goto (pc := 5) 9 X dX1_leastFree_5 (by decide) ?_
    refine z_pick [0, 1, 2] (lv' := [(0, zR a0), (1, zI a1), (2, zI a2)]) rfl ?_
    exact hJ9 1
def X1_codeBySteps (hp : zH) (a0 : Option Nat) (a1 : Int) (a2 : Int) : Option Int :=
  ((zobj hp a0 3).bind fun _ => X1_numberBefore hp a0 a1 a2).bind fun x1 =>
  ((zobj hp a0 3).bind fun _ => X1_numberAfter hp a0 a1 a2).bind fun x2 =>
  ((zobj hp a0 3).bind fun _ => X1_leastFree hp a0 x1 x2 a2).bind fun x3 =>
  if x3 = 0 then
    if x1 = 0 then
      ((zobj hp a0 3).bind fun _ => X1_codeWithLetter hp a0 x2).bind fun x4 =>
      some x4
    else
      ((zobj hp a0 3).bind fun _ => X1_codeWithLetter hp a0 x1).bind fun x5 =>
      some x5
  else
    (zchk (x3 * 10)).bind fun v6 =>
    some v6
set_option maxRecDepth 20000 in
theorem c_X1_codeBySteps (hp : zH) (a0 : Option Nat) (a1 : Int) (a2 : Int) : ∀ r, X1_codeBySteps hp a0 a1 a2 = some r → zMi yX1_codeBySteps (Cond.code yX1_codeBySteps cX1_codeBySteps 6 (some .int) :: zALL) { frames := 2, cells := 0, slots := 0, locals := 52 } 0 0 [zR a0, zI a1, zI a2] hp r hp := by
  refine zMi_of (own := RX1) (cc := cX1_codeBySteps) (maxL := 6) (res := fun r => r) (hp2 := fun _ => hp) (by decide) rfl (Or.inl rfl) (by exact Nat.le_of_ble_eq_true rfl) ?_
  intro K r0 X hnL hret
  have hN : ∀ i, i < 6 → i < K.2.2.2.2.2.2.2.2.2.2.2.2.2.2.1 := by rw [hnL]; exact fun _ h => h
  show zS _ _ (zJ K 0 0 0 [(0, zR a0), (1, zI a1), (2, zI a2)] [] hp)
  unfold X1_codeBySteps
  refine z_aload_n (pc := 0) (i := 0) 0 X dX1_codeBySteps_0 rfl rfl ?_
  refine z_iload_n (pc := 1) (i := 1) 1 X dX1_codeBySteps_1 rfl rfl ?_
  refine z_iload_n (pc := 2) (i := 2) 2 X dX1_codeBySteps_2 rfl rfl ?_
  refine z_callV_i (pc := 3) (cells := 0) (slots := 0) (C := RX1) (T := TX1) (N := 7) (ci := 3) [zI a1, zI a2] X dX1_codeBySteps_3 (c_X1_numberBefore hp a0 a1 a2) kw_X1_77 rfl rfl ⟨rfl, rfl, ⟨by decide, by decide⟩, ⟨by decide, by decide⟩⟩ (Nat.le_of_ble_eq_true rfl) rfl (fun x1 => ?_)
  refine z_istore_n (pc := 6) (i := 3) (lv' := [(3, zI x1), (0, zR a0), (1, zI a1), (2, zI a2)]) X dX1_codeBySteps_6 rfl (hN _ (by decide)) rfl ?_
  refine z_aload_n (pc := 7) (i := 0) 1 X dX1_codeBySteps_7 rfl rfl ?_
  refine z_iload_n (pc := 8) (i := 1) 2 X dX1_codeBySteps_8 rfl rfl ?_
  refine z_iload_n (pc := 9) (i := 2) 3 X dX1_codeBySteps_9 rfl rfl ?_
  refine z_callV_i (pc := 10) (cells := 0) (slots := 0) (C := RX1) (T := TX1) (N := 7) (ci := 3) [zI a1, zI a2] X dX1_codeBySteps_10 (c_X1_numberAfter hp a0 a1 a2) kw_X1_80 rfl rfl ⟨rfl, rfl, ⟨by decide, by decide⟩, ⟨by decide, by decide⟩⟩ (Nat.le_of_ble_eq_true rfl) rfl (fun x2 => ?_)
  refine z_istore (pc := 13) (i := 4) (lv' := [(4, zI x2), (3, zI x1), (0, zR a0), (1, zI a1), (2, zI a2)]) X dX1_codeBySteps_13 (hN _ (by decide)) rfl ?_
  refine z_aload_n (pc := 15) (i := 0) 2 X dX1_codeBySteps_15 rfl rfl ?_
  refine z_iload_n (pc := 16) (i := 3) 1 X dX1_codeBySteps_16 rfl rfl ?_
  refine z_iload (pc := 17) (i := 4) 0 X dX1_codeBySteps_17 rfl ?_
  refine z_iload_n (pc := 19) (i := 2) 4 X dX1_codeBySteps_19 rfl rfl ?_
  refine z_callV_i (pc := 20) (cells := 0) (slots := 0) (C := RX1) (T := TX1) (N := 7) (ci := 3) [zI x1, zI x2, zI a2] X dX1_codeBySteps_20 (c_X1_leastFree hp a0 x1 x2 a2) kw_X1_83 rfl rfl ⟨rfl, rfl, ⟨by decide, by decide⟩, ⟨by decide, by decide⟩⟩ (Nat.le_of_ble_eq_true rfl) rfl (fun x3 => ?_)
  refine z_istore (pc := 23) (i := 5) (lv' := [(5, zI x3), (4, zI x2), (3, zI x1), (0, zR a0), (1, zI a1), (2, zI a2)]) X dX1_codeBySteps_23 (hN _ (by decide)) rfl ?_
  refine z_iload (pc := 25) (i := 5) 0 X dX1_codeBySteps_25 rfl ?_
  refine z_if_eq (pc := 27) 36 X dX1_codeBySteps_27 (by decide) (fun _ => ?_) (fun _ => ?_)
  · refine z_aload_n (pc := 36) (i := 0) 3 X dX1_codeBySteps_36 rfl rfl ?_
    refine z_iload_n (pc := 37) (i := 3) 2 X dX1_codeBySteps_37 rfl rfl ?_
    refine z_if_eq (pc := 38) 45 X dX1_codeBySteps_38 (by decide) (fun _ => ?_) (fun _ => ?_)
    · refine z_iload (pc := 45) (i := 4) 1 X dX1_codeBySteps_45 rfl ?_
      refine z_callV_i (pc := 47) (cells := 0) (slots := 0) (C := RX1) (T := TX1) (N := 7) (ci := 3) [zI x2] X dX1_codeBySteps_47 (c_X1_codeWithLetter hp a0 x2) kw_X1_74 rfl rfl ⟨rfl, rfl, ⟨by decide, by decide⟩, ⟨by decide, by decide⟩⟩ (Nat.le_of_ble_eq_true rfl) rfl (fun x4 => ?_)
      refine z_fin (fun e9 => ?_)
      subst e9
      exact hret _ _ _ _ (by decide) (by decide) dX1_codeBySteps_50 trivial
    · refine z_iload_n (pc := 41) (i := 3) 2 X dX1_codeBySteps_41 rfl rfl ?_
      refine z_goto (pc := 42) 47 X dX1_codeBySteps_42 (by decide) ?_
      refine z_callV_i (pc := 47) (cells := 0) (slots := 0) (C := RX1) (T := TX1) (N := 7) (ci := 3) [zI x1] X dX1_codeBySteps_47 (c_X1_codeWithLetter hp a0 x1) kw_X1_74 rfl rfl ⟨rfl, rfl, ⟨by decide, by decide⟩, ⟨by decide, by decide⟩⟩ (Nat.le_of_ble_eq_true rfl) rfl (fun x5 => ?_)
      refine z_fin (fun e9 => ?_)
      subst e9
      exact hret _ _ _ _ (by decide) (by decide) dX1_codeBySteps_50 trivial
  · refine z_iload (pc := 30) (i := 5) 0 X dX1_codeBySteps_30 rfl ?_
    refine z_bipush (pc := 32) (z := 10) X dX1_codeBySteps_32 rfl ⟨by decide, by decide⟩ ?_
    refine z_imul (pc := 34) X dX1_codeBySteps_34 (fun v6 _ _ => ?_)
    refine z_fin (fun e9 => ?_)
    subst e9
    exact hret _ _ _ _ (by decide) (by decide) dX1_codeBySteps_35 trivial
def X1_metresOn (hp : zH) (a0 : Option Nat) (a1 : Int) : Option Int :=
  (zgI hp a0 3 4).bind fun v1 =>
  if v1 = 0 then
    some a1
  else
    (zgI hp a0 3 5).bind fun v2 =>
    (zchk (v2 - a1)).bind fun v3 =>
    some v3
set_option maxRecDepth 20000 in
theorem c_X1_metresOn (hp : zH) (a0 : Option Nat) (a1 : Int) : ∀ r, X1_metresOn hp a0 a1 = some r → zMi yX1_metresOn (Cond.code yX1_metresOn cX1_metresOn 2 (some .int) :: zALL) { frames := 0, cells := 0, slots := 0, locals := 0 } 0 0 [zR a0, zI a1] hp r hp := by
  refine zMi_of (own := RX1) (cc := cX1_metresOn) (maxL := 2) (res := fun r => r) (hp2 := fun _ => hp) (by decide) rfl (Or.inl rfl) (by exact Nat.le_of_ble_eq_true rfl) ?_
  intro K r0 X hnL hret
  have hN : ∀ i, i < 2 → i < K.2.2.2.2.2.2.2.2.2.2.2.2.2.2.1 := by rw [hnL]; exact fun _ h => h
  show zS _ _ (zJ K 0 0 0 [(0, zR a0), (1, zI a1)] [] hp)
  unfold X1_metresOn
  refine z_aload_n (pc := 0) (i := 0) 0 X dX1_metresOn_0 rfl rfl ?_
  refine z_getI (pc := 1) (C := RX1) (T := TX1) (N := 7) (ci := 3) 4 X dX1_metresOn_1 inz_X1 rfl (by decide) fw_X1_26 (fun v1 => ?_)
  refine z_if_eq (pc := 4) 16 X dX1_metresOn_4 (by decide) (fun _ => ?_) (fun _ => ?_)
  · refine z_iload_n (pc := 16) (i := 1) 1 X dX1_metresOn_16 rfl rfl ?_
    refine z_fin (fun e9 => ?_)
    subst e9
    exact hret _ _ _ _ (by decide) (by decide) dX1_metresOn_17 trivial
  · refine z_aload_n (pc := 7) (i := 0) 0 X dX1_metresOn_7 rfl rfl ?_
    refine z_getI (pc := 8) (C := RX1) (T := TX1) (N := 7) (ci := 3) 5 X dX1_metresOn_8 inz_X1 rfl (by decide) fw_X1_30 (fun v2 => ?_)
    refine z_iload_n (pc := 11) (i := 1) 1 X dX1_metresOn_11 rfl rfl ?_
    refine z_isub (pc := 12) X dX1_metresOn_12 (fun v3 _ _ => ?_)
    refine z_goto (pc := 13) 17 X dX1_metresOn_13 (by decide) ?_
    refine z_fin (fun e9 => ?_)
    subst e9
    exact hret _ _ _ _ (by decide) (by decide) dX1_metresOn_17 trivial
def X1_keyOf (hp : zH) (a0 : Option Nat) (a1 : Int) (a2 : Int) : Option Int :=
  ((zobj hp a0 3).bind fun _ => X1_metresOn hp a0 a2).bind fun x1 =>
  (zchk (x1 * 64)).bind fun v2 =>
  (zchk (v2 + a1)).bind fun v3 =>
  some v3
set_option maxRecDepth 20000 in
theorem c_X1_keyOf (hp : zH) (a0 : Option Nat) (a1 : Int) (a2 : Int) : ∀ r, X1_keyOf hp a0 a1 a2 = some r → zMi yX1_keyOf (Cond.code yX1_keyOf cX1_keyOf 3 (some .int) :: zALL) { frames := 1, cells := 0, slots := 0, locals := 21 } 0 0 [zR a0, zI a1, zI a2] hp r hp := by
  refine zMi_of (own := RX1) (cc := cX1_keyOf) (maxL := 3) (res := fun r => r) (hp2 := fun _ => hp) (by decide) rfl (Or.inl rfl) (by exact Nat.le_of_ble_eq_true rfl) ?_
  intro K r0 X hnL hret
  have hN : ∀ i, i < 3 → i < K.2.2.2.2.2.2.2.2.2.2.2.2.2.2.1 := by rw [hnL]; exact fun _ h => h
  show zS _ _ (zJ K 0 0 0 [(0, zR a0), (1, zI a1), (2, zI a2)] [] hp)
  unfold X1_keyOf
  refine z_aload_n (pc := 0) (i := 0) 0 X dX1_keyOf_0 rfl rfl ?_
  refine z_iload_n (pc := 1) (i := 2) 2 X dX1_keyOf_1 rfl rfl ?_
  refine z_callV_i (pc := 2) (cells := 0) (slots := 0) (C := RX1) (T := TX1) (N := 7) (ci := 3) [zI a2] X dX1_keyOf_2 (c_X1_metresOn hp a0 a2) kw_X1_60 rfl rfl ⟨rfl, rfl, ⟨by decide, by decide⟩, ⟨by decide, by decide⟩⟩ (Nat.le_of_ble_eq_true rfl) rfl (fun x1 => ?_)
  refine z_bipush (pc := 5) (z := 64) X dX1_keyOf_5 rfl ⟨by decide, by decide⟩ ?_
  refine z_imul (pc := 7) X dX1_keyOf_7 (fun v2 _ _ => ?_)
  refine z_iload_n (pc := 8) (i := 1) 1 X dX1_keyOf_8 rfl rfl ?_
  refine z_iadd (pc := 9) X dX1_keyOf_9 (fun v3 _ _ => ?_)
  refine z_fin (fun e9 => ?_)
  subst e9
  exact hret _ _ _ _ (by decide) (by decide) dX1_keyOf_10 trivial
def X1_codeFor (hp : zH) (a0 : Option Nat) (a1 : Int) (a2 : Int) (a3 : Int) : Option Int :=
  (zgI hp a0 3 3).bind fun v1 =>
  if v1 = 109 then
    ((zobj hp a0 3).bind fun _ => X1_metresOn hp a0 a2).bind fun x8 =>
    ((zobj hp a0 3).bind fun _ => X1_codeByMetres hp a0 x8 a3).bind fun x9 =>
    some x9
  else
    (zgI hp a0 3 3).bind fun v2 =>
    if v2 = 121 then
      (zgI hp a0 3 6).bind fun v5 =>
      (zchk (v5 + 1)).bind fun v6 =>
      (zchk (v6 * 10)).bind fun v7 =>
      some v7
    else
      ((zobj hp a0 3).bind fun _ => X1_keyOf hp a0 a1 a2).bind fun x3 =>
      ((zobj hp a0 3).bind fun _ => X1_codeBySteps hp a0 x3 a3).bind fun x4 =>
      some x4
set_option maxRecDepth 20000 in
theorem c_X1_codeFor (hp : zH) (a0 : Option Nat) (a1 : Int) (a2 : Int) (a3 : Int) : ∀ r, X1_codeFor hp a0 a1 a2 a3 = some r → zMi yX1_codeFor (Cond.code yX1_codeFor cX1_codeFor 4 (some .int) :: zALL) { frames := 3, cells := 0, slots := 0, locals := 77 } 0 0 [zR a0, zI a1, zI a2, zI a3] hp r hp := by
  refine zMi_of (own := RX1) (cc := cX1_codeFor) (maxL := 4) (res := fun r => r) (hp2 := fun _ => hp) (by decide) rfl (Or.inl rfl) (by exact Nat.le_of_ble_eq_true rfl) ?_
  intro K r0 X hnL hret
  have hN : ∀ i, i < 4 → i < K.2.2.2.2.2.2.2.2.2.2.2.2.2.2.1 := by rw [hnL]; exact fun _ h => h
  show zS _ _ (zJ K 0 0 0 [(0, zR a0), (1, zI a1), (2, zI a2), (3, zI a3)] [] hp)
  unfold X1_codeFor
  refine z_aload_n (pc := 0) (i := 0) 0 X dX1_codeFor_0 rfl rfl ?_
  refine z_getI (pc := 1) (C := RX1) (T := TX1) (N := 7) (ci := 3) 3 X dX1_codeFor_1 inz_X1 rfl (by decide) fw_X1_22 (fun v1 => ?_)
  refine z_bipush (pc := 4) (z := 109) X dX1_codeFor_4 rfl ⟨by decide, by decide⟩ ?_
  refine z_icmp_ne (pc := 6) 20 X dX1_codeFor_6 (by decide) (fun _ => ?_) (fun _ => ?_)
  · refine z_aload_n (pc := 20) (i := 0) 0 X dX1_codeFor_20 rfl rfl ?_
    refine z_getI (pc := 21) (C := RX1) (T := TX1) (N := 7) (ci := 3) 3 X dX1_codeFor_21 inz_X1 rfl (by decide) fw_X1_22 (fun v2 => ?_)
    refine z_bipush (pc := 24) (z := 121) X dX1_codeFor_24 rfl ⟨by decide, by decide⟩ ?_
    refine z_icmp_ne (pc := 26) 39 X dX1_codeFor_26 (by decide) (fun _ => ?_) (fun _ => ?_)
    · refine z_aload_n (pc := 39) (i := 0) 0 X dX1_codeFor_39 rfl rfl ?_
      refine z_aload_n (pc := 40) (i := 0) 0 X dX1_codeFor_40 rfl rfl ?_
      refine z_iload_n (pc := 41) (i := 1) 1 X dX1_codeFor_41 rfl rfl ?_
      refine z_iload_n (pc := 42) (i := 2) 2 X dX1_codeFor_42 rfl rfl ?_
      refine z_callV_i (pc := 43) (cells := 0) (slots := 0) (C := RX1) (T := TX1) (N := 7) (ci := 3) [zI a1, zI a2] X dX1_codeFor_43 (c_X1_keyOf hp a0 a1 a2) kw_X1_51 rfl rfl ⟨rfl, rfl, ⟨by decide, by decide⟩, ⟨by decide, by decide⟩⟩ (Nat.le_of_ble_eq_true rfl) rfl (fun x3 => ?_)
      refine z_iload_n (pc := 46) (i := 3) 3 X dX1_codeFor_46 rfl rfl ?_
      refine z_callV_i (pc := 47) (cells := 0) (slots := 0) (C := RX1) (T := TX1) (N := 7) (ci := 3) [zI x3, zI a3] X dX1_codeFor_47 (c_X1_codeBySteps hp a0 x3 a3) kw_X1_68 rfl rfl ⟨rfl, rfl, ⟨by decide, by decide⟩, ⟨by decide, by decide⟩⟩ (Nat.le_of_ble_eq_true rfl) rfl (fun x4 => ?_)
      refine z_fin (fun e9 => ?_)
      subst e9
      exact hret _ _ _ _ (by decide) (by decide) dX1_codeFor_50 trivial
    · refine z_aload_n (pc := 29) (i := 0) 0 X dX1_codeFor_29 rfl rfl ?_
      refine z_getI (pc := 30) (C := RX1) (T := TX1) (N := 7) (ci := 3) 6 X dX1_codeFor_30 inz_X1 rfl (by decide) fw_X1_34 (fun v5 => ?_)
      refine z_iconst (pc := 33) (z := 1) X dX1_codeFor_33 rfl ⟨by decide, by decide⟩ ?_
      refine z_iadd (pc := 34) X dX1_codeFor_34 (fun v6 _ _ => ?_)
      refine z_bipush (pc := 35) (z := 10) X dX1_codeFor_35 rfl ⟨by decide, by decide⟩ ?_
      refine z_imul (pc := 37) X dX1_codeFor_37 (fun v7 _ _ => ?_)
      refine z_fin (fun e9 => ?_)
      subst e9
      exact hret _ _ _ _ (by decide) (by decide) dX1_codeFor_38 trivial
  · refine z_aload_n (pc := 9) (i := 0) 0 X dX1_codeFor_9 rfl rfl ?_
    refine z_aload_n (pc := 10) (i := 0) 0 X dX1_codeFor_10 rfl rfl ?_
    refine z_iload_n (pc := 11) (i := 2) 2 X dX1_codeFor_11 rfl rfl ?_
    refine z_callV_i (pc := 12) (cells := 0) (slots := 0) (C := RX1) (T := TX1) (N := 7) (ci := 3) [zI a2] X dX1_codeFor_12 (c_X1_metresOn hp a0 a2) kw_X1_60 rfl rfl ⟨rfl, rfl, ⟨by decide, by decide⟩, ⟨by decide, by decide⟩⟩ (Nat.le_of_ble_eq_true rfl) rfl (fun x8 => ?_)
    refine z_iload_n (pc := 15) (i := 3) 3 X dX1_codeFor_15 rfl rfl ?_
    refine z_callV_i (pc := 16) (cells := 0) (slots := 0) (C := RX1) (T := TX1) (N := 7) (ci := 3) [zI x8, zI a3] X dX1_codeFor_16 (c_X1_codeByMetres hp a0 x8 a3) kw_X1_64 rfl rfl ⟨rfl, rfl, ⟨by decide, by decide⟩, ⟨by decide, by decide⟩⟩ (Nat.le_of_ble_eq_true rfl) rfl (fun x9 => ?_)
    refine z_fin (fun e9 => ?_)
    subst e9
    exact hret _ _ _ _ (by decide) (by decide) dX1_codeFor_19 trivial
