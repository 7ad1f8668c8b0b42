/-! methods, as functions over the pure heap, and their contracts (by program) -/
def X7_doorAt (hp : zH) (a0 : Option Nat) (a1 : Int) : Option (Option Nat) :=
  if a1 < 0 then
    some none
  else
    (zgR hp a0 8 1).bind fun v1 =>
    (zlen hp v1).bind fun v2 =>
    if a1 < v2 then
      (zgR hp a0 8 1).bind fun v3 =>
      (zaR hp 6 v3 a1).bind fun v4 =>
      some v4
    else
      some none
set_option maxRecDepth 20000 in
theorem c_X7_doorAt (hp : zH) (a0 : Option Nat) (a1 : Int) : ∀ r, X7_doorAt hp a0 a1 = some r → zMq yX7_doorAt (Cond.code yX7_doorAt cX7_doorAt 2 (some (.object "StreetNamer$Door")) :: zALL) { frames := 0, cells := 0, slots := 0, locals := 0 } 0 0 [zR a0, zI a1] hp r hp := by
  refine zMq_of (own := RX7) (cc := cX7_doorAt) (maxL := 2) (res := fun r => r) (hp2 := fun _ => hp) (by decide) rfl (Or.inl ⟨_, rfl⟩) (by exact Nat.le_of_ble_eq_true rfl) ?_
  intro K r0 X hnL hret
  have hN : ∀ i, i < 2 → i < K.2.2.2.2.2.2.2.2.2.2.2.2.2.2.1 := by rw [hnL]; exact fun _ h => h
  show zS _ _ (zJ K 0 0 0 [(0, zR a0), (1, zI a1)] [] hp)
  unfold X7_doorAt
  refine z_iload_n (pc := 0) (i := 1) 1 X dX7_doorAt_0 rfl rfl ?_
  refine z_if_lt (pc := 1) 13 X dX7_doorAt_1 (by decide) (fun _ => ?_) (fun _ => ?_)
  · refine z_null (pc := 13) X dX7_doorAt_13 ?_
    refine z_fin (fun e9 => ?_)
    subst e9
    exact hret _ _ _ _ (by decide) (by decide) dX7_doorAt_14
  · refine z_iload_n (pc := 4) (i := 1) 1 X dX7_doorAt_4 rfl rfl ?_
    refine z_aload_n (pc := 5) (i := 0) 0 X dX7_doorAt_5 rfl rfl ?_
    refine z_getR (pc := 6) (C := RX7) (T := TX7) (N := 9) (ci := 8) 1 X dX7_doorAt_6 inz_X7 rfl (by decide) fw_X7_17 (fun v1 => ?_)
    refine z_alen (pc := 9) X dX7_doorAt_9 (fun v2 => ?_)
    refine z_icmp_lt (pc := 10) 15 X dX7_doorAt_10 (by decide) (fun _ => ?_) (fun _ => ?_)
    · refine z_aload_n (pc := 15) (i := 0) 0 X dX7_doorAt_15 rfl rfl ?_
      refine z_getR (pc := 16) (C := RX7) (T := TX7) (N := 9) (ci := 8) 1 X dX7_doorAt_16 inz_X7 rfl (by decide) fw_X7_17 (fun v3 => ?_)
      refine z_iload_n (pc := 19) (i := 1) 1 X dX7_doorAt_19 rfl rfl ?_
      refine z_aaload6 (pc := 20) X dX7_doorAt_20 (fun v4 => ?_)
      refine z_fin (fun e9 => ?_)
      subst e9
      exact hret _ _ _ _ (by decide) (by decide) dX7_doorAt_21
    · refine z_null (pc := 13) X dX7_doorAt_13 ?_
      refine z_fin (fun e9 => ?_)
      subst e9
      exact hret _ _ _ _ (by decide) (by decide) dX7_doorAt_14
def X7_known (hp : zH) (a0 : Option Nat) (a1 : Int) : Option (Option Nat ⊕ Nat) :=
  ((zobj hp a0 8).bind fun _ => X7_doorAt hp a0 a1).bind fun x1 =>
  if x1 = none then
    some (Sum.inr 3)
  else
    some (Sum.inl x1)
set_option maxRecDepth 20000 in
theorem c_X7_known (hp : zH) (a0 : Option Nat) (a1 : Int) : ∀ r, X7_known hp a0 a1 = some r → zXq yX7_known (Cond.code yX7_known cX7_known 3 (some (.object "StreetNamer$Door")) :: zALL) { frames := 6, cells := 1, slots := 6, locals := 82 } 1 6 [zR a0, zI a1] hp r hp := by
  refine zXq_of (own := RX7) (cc := cX7_known) (maxL := 3) (res := fun r => r) (hp2 := fun _ => hp) (by decide) rfl (Or.inl ⟨_, rfl⟩) (by exact Nat.le_of_ble_eq_true rfl) ?_
  intro K r0 X hnL hret hthr hnew
  have hN : ∀ i, i < 3 → i < K.2.2.2.2.2.2.2.2.2.2.2.2.2.2.1 := by rw [hnL]; exact fun _ h => h
  show zS _ _ (zJ K 0 0 0 [(0, zR a0), (1, zI a1)] [] hp)
  unfold X7_known
  refine z_aload_n (pc := 0) (i := 0) 0 X dX7_known_0 rfl rfl ?_
  refine z_iload_n (pc := 1) (i := 1) 1 X dX7_known_1 rfl rfl ?_
  refine z_callV_q (pc := 2) (cells := 0) (slots := 0) (C := RX7) (T := TX7) (N := 9) (ci := 8) [zI a1] X dX7_known_2 (c_X7_doorAt hp a0 a1) kw_X7_278 rfl rfl ⟨rfl, rfl, ⟨by decide, by decide⟩, ⟨by decide, by decide⟩⟩ (Nat.le_of_ble_eq_true rfl) rfl (fun x1 => ?_)
  refine z_astore_n (pc := 5) (i := 2) (lv' := [(2, zR x1), (0, zR a0), (1, zI a1)]) X dX7_known_5 rfl (hN _ (by decide)) rfl ?_
  refine z_aload_n (pc := 6) (i := 2) 0 X dX7_known_6 rfl rfl ?_
  refine z_ifnonnull (pc := 7) 21 X dX7_known_7 (by decide) (fun _ => ?_) (fun _ => ?_)
  · refine z_aload_n (pc := 21) (i := 2) 0 X dX7_known_21 rfl rfl ?_
    refine z_fin (fun e9 => ?_)
    subst e9
    exact hret _ _ _ _ _ rfl (by decide) (by decide) dX7_known_22
  · refine z_fin (fun e9 => ?_)
    subst e9
    exact hnew 0 0 10 _ 3 342 347 346 "no such door" 10 7 rfl dX7_known_10 dX7_known_13 (Or.inr ⟨dX7_known_14, rfl⟩) dX7_known_17 rfl dX7_known_20 (zin (zt2 207 (by decide +kernel)) rfl) (zin (zt1 14 (by decide +kernel)) rfl) rfl (zt3 171 (by decide +kernel)) thr_346 (by decide) (by decide) (by decide) ⟨by decide, by decide⟩ ⟨by decide, by decide⟩
def X7_address (hp : zH) (a0 : Option Nat) (a1 : Int) (a2 : Int) : Option (Int ⊕ Nat) :=
  ((zobj hp a0 8).bind fun _ => X7_known hp a0 a1).bind fun x1 =>
  match x1 with
  | Sum.inl v2 =>
    if a2 = 0 then
      (zgR hp v2 2 1).bind fun v4 =>
      if v4 = none then
        some (Sum.inr 4)
      else
        (zgI hp v4 6 4).bind fun v5 =>
        some (Sum.inl v5)
    else
      (zgR hp v2 2 2).bind fun v6 =>
      if v6 = none then
        some (Sum.inr 4)
      else
        (zgI hp v6 6 4).bind fun v7 =>
        some (Sum.inl v7)
  | Sum.inr k3 =>
    some (Sum.inr k3)
set_option maxRecDepth 20000 in
theorem c_X7_address (hp : zH) (a0 : Option Nat) (a1 : Int) (a2 : Int) : ∀ r, X7_address hp a0 a1 a2 = some r → zXi yX7_address (Cond.code yX7_address cX7_address 5 (some .int) :: zALL) { frames := 7, cells := 2, slots := 12, locals := 104 } 2 12 [zR a0, zI a1, zI a2] hp r hp := by
  refine zXi_of (own := RX7) (cc := cX7_address) (maxL := 5) (res := fun r => r) (hp2 := fun _ => hp) (by decide) rfl (Or.inl rfl) (by exact Nat.le_of_ble_eq_true rfl) ?_
  intro K r0 X hnL hret hthr hnew
  have hN : ∀ i, i < 5 → i < K.2.2.2.2.2.2.2.2.2.2.2.2.2.2.1 := by rw [hnL]; exact fun _ h => h
  show zS _ _ (zJ K 0 0 0 [(0, zR a0), (1, zI a1), (2, zI a2)] [] hp)
  unfold X7_address
  refine z_aload_n (pc := 0) (i := 0) 0 X dX7_address_0 rfl rfl ?_
  refine z_iload_n (pc := 1) (i := 1) 1 X dX7_address_1 rfl rfl ?_
  refine z_callXV_q (pc := 2) (cells := 0) (slots := 0) (C := RX7) (T := TX7) (N := 9) (ci := 8) [zI a1] X dX7_address_2 (c_X7_known hp a0 a1) kw_X7_209 rfl rfl ⟨rfl, rfl, ⟨by decide, by decide⟩, ⟨by decide, by decide⟩⟩ (Nat.le_of_ble_eq_true rfl) rfl (fun x1 v2 hz9 => ?_) (fun x1 k3 hz9 => ?_)
  · have hz9 : x1 = Sum.inl v2 := hz9
    subst hz9
    refine z_astore_n (pc := 5) (i := 3) (lv' := [(3, zR v2), (0, zR a0), (1, zI a1), (2, zI a2)]) X dX7_address_5 rfl (hN _ (by decide)) rfl ?_
    refine z_iload_n (pc := 6) (i := 2) 3 X dX7_address_6 rfl rfl ?_
    refine z_if_eq (pc := 7) 17 X dX7_address_7 (by decide) (fun _ => ?_) (fun _ => ?_)
    · refine z_aload_n (pc := 17) (i := 3) 0 X dX7_address_17 rfl rfl ?_
      refine z_getR (pc := 18) (C := RX0) (T := TX0) (N := 5) (ci := 2) 1 X dX7_address_18 inz_X0 rfl (by decide) fw_X7_242 (fun v4 => ?_)
      refine z_astore (pc := 21) (i := 4) (lv' := [(4, zR v4), (3, zR v2), (0, zR a0), (1, zI a1), (2, zI a2)]) X dX7_address_21 (hN _ (by decide)) rfl ?_
      refine z_aload (pc := 23) (i := 4) 0 X dX7_address_23 rfl ?_
      refine z_ifnonnull (pc := 25) 38 X dX7_address_25 (by decide) (fun _ => ?_) (fun _ => ?_)
      · refine z_aload (pc := 38) (i := 4) 0 X dX7_address_38 rfl ?_
        refine z_getI (pc := 40) (C := RX5) (T := TX5) (N := 5) (ci := 6) 4 X dX7_address_40 inz_X5 rfl (by decide) fw_X7_200 (fun v5 => ?_)
        refine z_fin (fun e9 => ?_)
        subst e9
        exact hret _ _ _ _ _ rfl (by decide) (by decide) dX7_address_43 trivial
      · refine z_fin (fun e9 => ?_)
        subst e9
        exact hnew 1 6 28 _ 4 106 245 110 "no such address" 9 6 rfl dX7_address_28 dX7_address_31 (Or.inl ⟨dX7_address_32, rfl⟩) dX7_address_34 rfl dX7_address_37 (zin (zt3 14 (by decide +kernel)) rfl) (zin (zt1 18 (by decide +kernel)) rfl) rfl (zt4 41 (by decide +kernel)) thr_110 (by decide) (by decide) (by decide) ⟨by decide, by decide⟩ ⟨by decide, by decide⟩
    · refine z_aload_n (pc := 10) (i := 3) 0 X dX7_address_10 rfl rfl ?_
      refine z_getR (pc := 11) (C := RX0) (T := TX0) (N := 5) (ci := 2) 2 X dX7_address_11 inz_X0 rfl (by decide) fw_X7_214 (fun v6 => ?_)
      refine z_goto (pc := 14) 21 X dX7_address_14 (by decide) ?_
      refine z_astore (pc := 21) (i := 4) (lv' := [(4, zR v6), (3, zR v2), (0, zR a0), (1, zI a1), (2, zI a2)]) X dX7_address_21 (hN _ (by decide)) rfl ?_
      refine z_aload (pc := 23) (i := 4) 0 X dX7_address_23 rfl ?_
      refine z_ifnonnull (pc := 25) 38 X dX7_address_25 (by decide) (fun _ => ?_) (fun _ => ?_)
      · refine z_aload (pc := 38) (i := 4) 0 X dX7_address_38 rfl ?_
        refine z_getI (pc := 40) (C := RX5) (T := TX5) (N := 5) (ci := 6) 4 X dX7_address_40 inz_X5 rfl (by decide) fw_X7_200 (fun v7 => ?_)
        refine z_fin (fun e9 => ?_)
        subst e9
        exact hret _ _ _ _ _ rfl (by decide) (by decide) dX7_address_43 trivial
      · refine z_fin (fun e9 => ?_)
        subst e9
        exact hnew 1 6 28 _ 4 106 245 110 "no such address" 9 6 rfl dX7_address_28 dX7_address_31 (Or.inl ⟨dX7_address_32, rfl⟩) dX7_address_34 rfl dX7_address_37 (zin (zt3 14 (by decide +kernel)) rfl) (zin (zt1 18 (by decide +kernel)) rfl) rfl (zt4 41 (by decide +kernel)) thr_110 (by decide) (by decide) (by decide) ⟨by decide, by decide⟩ ⟨by decide, by decide⟩
  · have hz9 : x1 = Sum.inr k3 := hz9
    subst hz9
    refine z_fin (fun e9 => ?_)
    subst e9
    exact hthr _ _ _ _ _ rfl (by decide) (by decide)
def X7_placeOf (hp : zH) (a0 : Option Nat) (a1 : Option Nat) : Option (Option Nat) :=
  if a0 = none then
    some none
  else
    ((zobj hp a0 2).bind fun _ => X0_placeOn hp a0 a1).bind fun x1 =>
    some x1
set_option maxRecDepth 20000 in
theorem c_X7_placeOf (hp : zH) (a0 : Option Nat) (a1 : Option Nat) : ∀ r, X7_placeOf hp a0 a1 = some r → zMq yX7_placeOf (Cond.code yX7_placeOf cX7_placeOf 2 (some (.object "StreetNamer$Place")) :: zALL) { frames := 1, cells := 0, slots := 0, locals := 21 } 0 0 [zR a0, zR a1] hp r hp := by
  refine zMq_of (own := RX7) (cc := cX7_placeOf) (maxL := 2) (res := fun r => r) (hp2 := fun _ => hp) (by decide) rfl (Or.inl ⟨_, rfl⟩) (by exact Nat.le_of_ble_eq_true rfl) ?_
  intro K r0 X hnL hret
  have hN : ∀ i, i < 2 → i < K.2.2.2.2.2.2.2.2.2.2.2.2.2.2.1 := by rw [hnL]; exact fun _ h => h
  show zS _ _ (zJ K 0 0 0 [(0, zR a0), (1, zR a1)] [] hp)
  unfold X7_placeOf
  refine z_aload_n (pc := 0) (i := 0) 0 X dX7_placeOf_0 rfl rfl ?_
  refine z_ifnonnull (pc := 1) 8 X dX7_placeOf_1 (by decide) (fun _ => ?_) (fun _ => ?_)
  · refine z_aload_n (pc := 8) (i := 0) 0 X dX7_placeOf_8 rfl rfl ?_
    refine z_aload_n (pc := 9) (i := 1) 1 X dX7_placeOf_9 rfl rfl ?_
    refine z_callV_q (pc := 10) (cells := 0) (slots := 0) (C := RX0) (T := TX0) (N := 5) (ci := 2) [zR a1] X dX7_placeOf_10 (c_X0_placeOn hp a0 a1) kw_X7_218 rfl rfl ⟨rfl, rfl, ⟨by decide, by decide⟩, ⟨by decide, by decide⟩⟩ (Nat.le_of_ble_eq_true rfl) rfl (fun x1 => ?_)
    refine z_fin (fun e9 => ?_)
    subst e9
    exact hret _ _ _ _ (by decide) (by decide) dX7_placeOf_13
  · refine z_null (pc := 4) X dX7_placeOf_4 ?_
    refine z_goto (pc := 5) 13 X dX7_placeOf_5 (by decide) ?_
    refine z_fin (fun e9 => ?_)
    subst e9
    exact hret _ _ _ _ (by decide) (by decide) dX7_placeOf_13
def X7_openLedger_b25 (p6 : Option Nat) (p7 : Option Nat) (p8 : Option Nat) (p9 : Int) (s10 : Int × zH) : Option ((Int × zH) ⊕ (zH)) :=
  if p9 ≤ s10.1 then
    some (Sum.inr (s10.2))
  else
    (zaR s10.2 6 p8 s10.1).bind fun v12 =>
    (X7_placeOf s10.2 v12 p7).bind fun x13 =>
    if x13 = none then
      (zchk (s10.1 + 1)).bind fun v14 =>
      some (Sum.inl (v14, s10.2))
    else
      (zgR s10.2 p6 8 3).bind fun v15 =>
      (zgI s10.2 x13 6 0).bind fun v16 =>
      (zgI s10.2 x13 6 2).bind fun v17 =>
      (zgI s10.2 x13 6 3).bind fun v18 =>
      (zgI s10.2 x13 6 4).bind fun v19 =>
      ((zobj s10.2 v15 3).bind fun _ => X1_enter s10.2 v15 v16 v17 v18 v19).bind fun x20 =>
      (zchk (s10.1 + 1)).bind fun v21 =>
      some (Sum.inl (v21, x20))
def X7_openLedger (hp : zH) (a0 : Option Nat) (a1 : Option Nat) (a2 : Int) : Option zH :=
  (zgR hp a0 8 3).bind fun v1 =>
  (zgI hp a1 7 7).bind fun v2 =>
  ((zobj hp v1 3).bind fun _ => X1_open hp v1 a1 a2 v2).bind fun x3 =>
  (zgR x3 a0 8 1).bind fun v4 =>
  (zlen x3 v4).bind fun v5 =>
  (zloop (X7_openLedger_b25 a0 a1 v4 v5) zN (0, x3)).bind fun e11 =>
  some e11
set_option maxRecDepth 20000 in
theorem c_X7_openLedger (hp : zH) (a0 : Option Nat) (a1 : Option Nat) (a2 : Int) : ∀ r, X7_openLedger hp a0 a1 a2 = some r → zMv yX7_openLedger (Cond.code yX7_openLedger cX7_openLedger 8 none :: zALL) { frames := 3, cells := 0, slots := 0, locals := 67 } 0 0 [zR a0, zR a1, zI a2] hp r := by
  refine zMv_of (own := RX7) (cc := cX7_openLedger) (maxL := 8) (hp2 := fun r => r) (by decide) rfl (by exact Nat.le_of_ble_eq_true rfl) ?_
  intro K r0 X hnL hnm9 hret
  have hN : ∀ i, i < 8 → i < K.2.2.2.2.2.2.2.2.2.2.2.2.2.2.1 := by rw [hnL]; exact fun _ h => h
  show zS _ _ (zJ K 0 0 0 [(0, zR a0), (1, zR a1), (2, zI a2)] [] hp)
  unfold X7_openLedger
  refine z_aload_n (pc := 0) (i := 0) 0 X dX7_openLedger_0 rfl rfl ?_
  refine z_getR (pc := 1) (C := RX7) (T := TX7) (N := 9) (ci := 8) 3 X dX7_openLedger_1 inz_X7 rfl (by decide) fw_X7_31 (fun v1 => ?_)
  refine z_aload_n (pc := 4) (i := 1) 1 X dX7_openLedger_4 rfl rfl ?_
  refine z_iload_n (pc := 5) (i := 2) 2 X dX7_openLedger_5 rfl rfl ?_
  refine z_aload_n (pc := 6) (i := 1) 1 X dX7_openLedger_6 rfl rfl ?_
  refine z_getI (pc := 7) (C := RX6) (T := TX6) (N := 8) (ci := 7) 7 X dX7_openLedger_7 inz_X6 rfl (by decide) fw_X7_156 (fun v2 => ?_)
  refine z_callV_v (pc := 10) (cells := 0) (slots := 0) (C := RX1) (T := TX1) (N := 7) (ci := 3) [zR a1, zI a2, zI v2] X dX7_openLedger_10 (c_X1_open hp v1 a1 a2 v2) kw_X7_139 rfl rfl ⟨rfl, rfl, ⟨by decide, by decide⟩, ⟨by decide, by decide⟩⟩ (Nat.le_of_ble_eq_true rfl) rfl (fun x3 => ?_)
  refine z_aload_n (pc := 13) (i := 0) 0 X dX7_openLedger_13 rfl rfl ?_
  refine z_getR (pc := 14) (C := RX7) (T := TX7) (N := 9) (ci := 8) 1 X dX7_openLedger_14 inz_X7 rfl (by decide) fw_X7_17 (fun v4 => ?_)
  refine z_astore_n (pc := 17) (i := 3) (lv' := [(3, zR v4), (0, zR a0), (1, zR a1), (2, zI a2)]) X dX7_openLedger_17 rfl (hN _ (by decide)) rfl ?_
  refine z_aload_n (pc := 18) (i := 3) 0 X dX7_openLedger_18 rfl rfl ?_
  refine z_alen (pc := 19) X dX7_openLedger_19 (fun v5 => ?_)
  refine z_istore (pc := 20) (i := 4) (lv' := [(4, zI v5), (3, zR v4), (0, zR a0), (1, zR a1), (2, zI a2)]) X dX7_openLedger_20 (hN _ (by decide)) rfl ?_
  refine z_iconst (pc := 22) (z := 0) X dX7_openLedger_22 rfl ⟨by decide, by decide⟩ ?_
  refine z_istore (pc := 23) (i := 5) (lv' := [(5, zI 0), (4, zI v5), (3, zR v4), (0, zR a0), (1, zR a1), (2, zI a2)]) X dX7_openLedger_23 (hN _ (by decide)) rfl ?_
  refine z_pick [3, 4, 2, 1, 0] (lv' := [(0, zR a0), (1, zR a1), (3, zR v4), (4, zI v5), (5, zI 0)]) rfl ?_
  refine z_bind (z_loop (body := X7_openLedger_b25 a0 a1 v4 v5) (fun s10 : Int × zH => zJ K 0 0 25 [(0, zR a0), (1, zR a1), (3, zR v4), (4, zI v5), (5, zI s10.1)] [] s10.2) (fun e11 : zH => zJ K 0 0 84 [] [] e11) (fun s10 => ?_) zN (0, x3)) (fun e11 => ?_)
  · unfold X7_openLedger_b25
    refine z_iload (pc := 25) (i := 5) 4 X dX7_openLedger_25 rfl ?_
    refine z_iload (pc := 27) (i := 4) 3 X dX7_openLedger_27 rfl ?_
    refine z_icmp_ge (pc := 29) 84 X dX7_openLedger_29 (by decide) (fun _ => ?_) (fun _ => ?_)
    · refine z_pick [] (lv' := []) rfl ?_
      exact z_exit
    · refine z_aload_n (pc := 32) (i := 3) 2 X dX7_openLedger_32 rfl rfl ?_
      refine z_iload (pc := 33) (i := 5) 4 X dX7_openLedger_33 rfl ?_
      refine z_aaload6 (pc := 35) X dX7_openLedger_35 (fun v12 => ?_)
      refine z_astore (pc := 36) (i := 6) (lv' := [(6, zR v12), (0, zR a0), (1, zR a1), (3, zR v4), (4, zI v5), (5, zI s10.1)]) X dX7_openLedger_36 (hN _ (by decide)) rfl ?_
      refine z_aload (pc := 38) (i := 6) 0 X dX7_openLedger_38 rfl ?_
      refine z_aload_n (pc := 40) (i := 1) 2 X dX7_openLedger_40 rfl rfl ?_
      refine z_callS_q (pc := 41) (cells := 0) (slots := 0) [zR v12, zR a1] X dX7_openLedger_41 (c_X7_placeOf s10.2 v12 a1) kw_X7_299 rfl ⟨rfl, rfl, ⟨by decide, by decide⟩, ⟨by decide, by decide⟩⟩ (Nat.le_of_ble_eq_true rfl) rfl (fun x13 => ?_)
      refine z_astore (pc := 44) (i := 7) (lv' := [(7, zR x13), (6, zR v12), (0, zR a0), (1, zR a1), (3, zR v4), (4, zI v5), (5, zI s10.1)]) X dX7_openLedger_44 (hN _ (by decide)) rfl ?_
      refine z_aload (pc := 46) (i := 7) 0 X dX7_openLedger_46 rfl ?_
      refine z_ifnull (pc := 48) 78 X dX7_openLedger_48 (by decide) (fun _ => ?_) (fun _ => ?_)
      · refine z_iinc (pc := 78) (i := 5) (n := 1) (lv' := fun v14 => [(5, zI v14), (7, zR x13), (6, zR v12), (0, zR a0), (1, zR a1), (3, zR v4), (4, zI v5)]) 6 X dX7_openLedger_78 rfl (hN _ (by decide)) (fun _ => rfl) (fun v14 _ _ => ?_)
        refine z_goto (pc := 81) 25 X dX7_openLedger_81 (by decide) ?_
        refine z_pick [3, 4, 5, 6, 0] (lv' := [(0, zR a0), (1, zR a1), (3, zR v4), (4, zI v5), (5, zI v14)]) rfl ?_
        exact z_back
      · refine z_aload_n (pc := 51) (i := 0) 2 X dX7_openLedger_51 rfl rfl ?_
        refine z_getR (pc := 52) (C := RX7) (T := TX7) (N := 9) (ci := 8) 3 X dX7_openLedger_52 inz_X7 rfl (by decide) fw_X7_31 (fun v15 => ?_)
        refine z_aload (pc := 55) (i := 7) 0 X dX7_openLedger_55 rfl ?_
        refine z_getI (pc := 57) (C := RX5) (T := TX5) (N := 5) (ci := 6) 0 X dX7_openLedger_57 inz_X5 rfl (by decide) fw_X7_356 (fun v16 => ?_)
        refine z_aload (pc := 60) (i := 7) 0 X dX7_openLedger_60 rfl ?_
        refine z_getI (pc := 62) (C := RX5) (T := TX5) (N := 5) (ci := 6) 2 X dX7_openLedger_62 inz_X5 rfl (by decide) fw_X7_303 (fun v17 => ?_)
        refine z_aload (pc := 65) (i := 7) 0 X dX7_openLedger_65 rfl ?_
        refine z_getI (pc := 67) (C := RX5) (T := TX5) (N := 5) (ci := 6) 3 X dX7_openLedger_67 inz_X5 rfl (by decide) fw_X7_311 (fun v18 => ?_)
        refine z_aload (pc := 70) (i := 7) 0 X dX7_openLedger_70 rfl ?_
        refine z_getI (pc := 72) (C := RX5) (T := TX5) (N := 5) (ci := 6) 4 X dX7_openLedger_72 inz_X5 rfl (by decide) fw_X7_200 (fun v19 => ?_)
        refine z_callV_v (pc := 75) (cells := 0) (slots := 0) (C := RX1) (T := TX1) (N := 7) (ci := 3) [zI v16, zI v17, zI v18, zI v19] X dX7_openLedger_75 (c_X1_enter s10.2 v15 v16 v17 v18 v19) kw_X7_378 rfl rfl ⟨rfl, rfl, ⟨by decide, by decide⟩, ⟨by decide, by decide⟩⟩ (Nat.le_of_ble_eq_true rfl) rfl (fun x20 => ?_)
        refine z_iinc (pc := 78) (i := 5) (n := 1) (lv' := fun v21 => [(5, zI v21), (7, zR x13), (6, zR v12), (0, zR a0), (1, zR a1), (3, zR v4), (4, zI v5)]) 6 X dX7_openLedger_78 rfl (hN _ (by decide)) (fun _ => rfl) (fun v21 _ _ => ?_)
        refine z_goto (pc := 81) 25 X dX7_openLedger_81 (by decide) ?_
        refine z_pick [3, 4, 5, 6, 0] (lv' := [(0, zR a0), (1, zR a1), (3, zR v4), (4, zI v5), (5, zI v21)]) rfl ?_
        exact z_back
  · refine z_fin (fun e9 => ?_)
    subst e9
    exact hret _ _ _ _ (by decide) (by decide) dX7_openLedger_84
def X7_areAddressesSingle_b10 (p3 : Option Nat) (p4 : Option Nat) (p5 : Int) (s6 : Int × zH) : Option ((Int × zH) ⊕ ((zH) ⊕ (zH))) :=
  if p5 ≤ s6.1 then
    some (Sum.inr (Sum.inl (s6.2)))
  else
    (zaR s6.2 5 p4 s6.1).bind fun v8 =>
    (X7_isStanding s6.2 v8).bind fun x9 =>
    if x9 = 0 then
      (zchk (s6.1 + 1)).bind fun v10 =>
      some (Sum.inl (v10, s6.2))
    else
      (zgI s6.2 v8 7 3).bind fun v11 =>
      ((zobj s6.2 p3 8).bind fun _ => X7_openLedger s6.2 p3 v8 v11).bind fun x12 =>
      (zgR x12 p3 8 3).bind fun v13 =>
      ((zobj x12 v13 3).bind fun _ => X1_hasTwins x12 v13).bind fun x14 =>
      if x14 = 0 then
        (zchk (s6.1 + 1)).bind fun v15 =>
        some (Sum.inl (v15, x12))
      else
        some (Sum.inr (Sum.inr (x12)))
def X7_areAddressesSingle (hp : zH) (a0 : Option Nat) : Option (Int × zH) :=
  (zgR hp a0 8 0).bind fun v1 =>
  (zlen hp v1).bind fun v2 =>
  (zloop (X7_areAddressesSingle_b10 a0 v1 v2) zN (0, hp)).bind fun e7 =>
  match e7 with
  | Sum.inl e7 =>
    some (1, e7)
  | Sum.inr e7 =>
    some (0, e7)
set_option maxRecDepth 20000 in
theorem c_X7_areAddressesSingle (hp : zH) (a0 : Option Nat) : ∀ r, X7_areAddressesSingle hp a0 = some r → zMi yX7_areAddressesSingle (Cond.code yX7_areAddressesSingle cX7_areAddressesSingle 5 (some .boolean) :: zALL) { frames := 4, cells := 0, slots := 0, locals := 94 } 0 0 [zR a0] hp r.1 r.2 := by
  refine zMi_of (own := RX7) (cc := cX7_areAddressesSingle) (maxL := 5) (ε := (Int × zH)) (res := fun r => r.1) (hp2 := fun r => r.2) (by decide) rfl (Or.inr (Or.inl rfl)) (by exact Nat.le_of_ble_eq_true rfl) ?_
  intro K r0 X hnL hret
  have hN : ∀ i, i < 5 → i < K.2.2.2.2.2.2.2.2.2.2.2.2.2.2.1 := by rw [hnL]; exact fun _ h => h
  show zS _ _ (zJ K 0 0 0 [(0, zR a0)] [] hp)
  unfold X7_areAddressesSingle
  refine z_aload_n (pc := 0) (i := 0) 0 X dX7_areAddressesSingle_0 rfl rfl ?_
  refine z_getR (pc := 1) (C := RX7) (T := TX7) (N := 9) (ci := 8) 0 X dX7_areAddressesSingle_1 inz_X7 rfl (by decide) fw_X7_11 (fun v1 => ?_)
  refine z_astore_n (pc := 4) (i := 1) (lv' := [(1, zR v1), (0, zR a0)]) X dX7_areAddressesSingle_4 rfl (hN _ (by decide)) rfl ?_
  refine z_aload_n (pc := 5) (i := 1) 0 X dX7_areAddressesSingle_5 rfl rfl ?_
  refine z_alen (pc := 6) X dX7_areAddressesSingle_6 (fun v2 => ?_)
  refine z_istore_n (pc := 7) (i := 2) (lv' := [(2, zI v2), (1, zR v1), (0, zR a0)]) X dX7_areAddressesSingle_7 rfl (hN _ (by decide)) rfl ?_
  refine z_iconst (pc := 8) (z := 0) X dX7_areAddressesSingle_8 rfl ⟨by decide, by decide⟩ ?_
  refine z_istore_n (pc := 9) (i := 3) (lv' := [(3, zI 0), (2, zI v2), (1, zR v1), (0, zR a0)]) X dX7_areAddressesSingle_9 rfl (hN _ (by decide)) rfl ?_
  refine z_pick [3, 2, 1, 0] (lv' := [(0, zR a0), (1, zR v1), (2, zI v2), (3, zI 0)]) rfl ?_
  refine z_bind (z_loop (body := X7_areAddressesSingle_b10 a0 v1 v2) (fun s6 : Int × zH => zJ K 0 0 10 [(0, zR a0), (1, zR v1), (2, zI v2), (3, zI s6.1)] [] s6.2) (fun e7 : ((zH) ⊕ (zH)) => (match e7 with | Sum.inl e7 => zJ K 0 0 57 [] [] e7 | Sum.inr e7 => zJ K 0 0 49 [] [] e7)) (fun s6 => ?_) zN (0, hp)) (fun e7 => ?_)
  · unfold X7_areAddressesSingle_b10
    refine z_iload_n (pc := 10) (i := 3) 3 X dX7_areAddressesSingle_10 rfl rfl ?_
    refine z_iload_n (pc := 11) (i := 2) 2 X dX7_areAddressesSingle_11 rfl rfl ?_
    refine z_icmp_ge (pc := 12) 57 X dX7_areAddressesSingle_12 (by decide) (fun _ => ?_) (fun _ => ?_)
    · refine z_pick [] (lv' := []) rfl ?_
      exact z_exit
    · refine z_aload_n (pc := 15) (i := 1) 1 X dX7_areAddressesSingle_15 rfl rfl ?_
      refine z_iload_n (pc := 16) (i := 3) 3 X dX7_areAddressesSingle_16 rfl rfl ?_
      refine z_aaload5 (pc := 17) X dX7_areAddressesSingle_17 (fun v8 => ?_)
      refine z_astore (pc := 18) (i := 4) (lv' := [(4, zR v8), (0, zR a0), (1, zR v1), (2, zI v2), (3, zI s6.1)]) X dX7_areAddressesSingle_18 (hN _ (by decide)) rfl ?_
      refine z_aload (pc := 20) (i := 4) 0 X dX7_areAddressesSingle_20 rfl ?_
      refine z_callS_i (pc := 22) (cells := 0) (slots := 0) [zR v8] X dX7_areAddressesSingle_22 (c_X7_isStanding s6.2 v8) kw_X7_179 rfl ⟨rfl, rfl, ⟨by decide, by decide⟩, ⟨by decide, by decide⟩⟩ (Nat.le_of_ble_eq_true rfl) rfl (fun x9 => ?_)
      refine z_if_eq (pc := 25) 51 X dX7_areAddressesSingle_25 (by decide) (fun _ => ?_) (fun _ => ?_)
      · refine z_iinc (pc := 51) (i := 3) (n := 1) (lv' := fun v10 => [(3, zI v10), (4, zR v8), (0, zR a0), (1, zR v1), (2, zI v2)]) 4 X dX7_areAddressesSingle_51 rfl (hN _ (by decide)) (fun _ => rfl) (fun v10 _ _ => ?_)
        refine z_goto (pc := 54) 10 X dX7_areAddressesSingle_54 (by decide) ?_
        refine z_pick [2, 3, 4, 0] (lv' := [(0, zR a0), (1, zR v1), (2, zI v2), (3, zI v10)]) rfl ?_
        exact z_back
      · refine z_aload_n (pc := 28) (i := 0) 1 X dX7_areAddressesSingle_28 rfl rfl ?_
        refine z_aload (pc := 29) (i := 4) 0 X dX7_areAddressesSingle_29 rfl ?_
        refine z_aload (pc := 31) (i := 4) 0 X dX7_areAddressesSingle_31 rfl ?_
        refine z_getI (pc := 33) (C := RX6) (T := TX6) (N := 8) (ci := 7) 3 X dX7_areAddressesSingle_33 inz_X6 rfl (by decide) fw_X7_136 (fun v11 => ?_)
        refine z_callV_v (pc := 36) (cells := 0) (slots := 0) (C := RX7) (T := TX7) (N := 9) (ci := 8) [zR v8, zI v11] X dX7_areAddressesSingle_36 (c_X7_openLedger s6.2 a0 v8 v11) kw_X7_163 rfl rfl ⟨rfl, rfl, ⟨by decide, by decide⟩, ⟨by decide, by decide⟩⟩ (Nat.le_of_ble_eq_true rfl) rfl (fun x12 => ?_)
        refine z_aload_n (pc := 39) (i := 0) 1 X dX7_areAddressesSingle_39 rfl rfl ?_
        refine z_getR (pc := 40) (C := RX7) (T := TX7) (N := 9) (ci := 8) 3 X dX7_areAddressesSingle_40 inz_X7 rfl (by decide) fw_X7_31 (fun v13 => ?_)
        refine z_callV_i (pc := 43) (cells := 0) (slots := 0) (C := RX1) (T := TX1) (N := 7) (ci := 3) [] X dX7_areAddressesSingle_43 (c_X1_hasTwins x12 v13) kw_X7_398 rfl rfl ⟨rfl, rfl, ⟨by decide, by decide⟩, ⟨by decide, by decide⟩⟩ (Nat.le_of_ble_eq_true rfl) rfl (fun x14 => ?_)
        refine z_if_eq (pc := 46) 51 X dX7_areAddressesSingle_46 (by decide) (fun _ => ?_) (fun _ => ?_)
        · refine z_iinc (pc := 51) (i := 3) (n := 1) (lv' := fun v15 => [(3, zI v15), (4, zR v8), (0, zR a0), (1, zR v1), (2, zI v2)]) 4 X dX7_areAddressesSingle_51 rfl (hN _ (by decide)) (fun _ => rfl) (fun v15 _ _ => ?_)
          refine z_goto (pc := 54) 10 X dX7_areAddressesSingle_54 (by decide) ?_
          refine z_pick [2, 3, 4, 0] (lv' := [(0, zR a0), (1, zR v1), (2, zI v2), (3, zI v15)]) rfl ?_
          exact z_back
        · refine z_pick [] (lv' := []) rfl ?_
          exact z_exit
  · rcases e7 with e7 | e7
    · refine z_iconst (pc := 57) (z := 1) X dX7_areAddressesSingle_57 rfl ⟨by decide, by decide⟩ ?_
      refine z_fin (fun e9 => ?_)
      subst e9
      exact hret _ _ _ _ (by decide) (by decide) dX7_areAddressesSingle_58 (Or.inr rfl)
    · refine z_iconst (pc := 49) (z := 0) X dX7_areAddressesSingle_49 rfl ⟨by decide, by decide⟩ ?_
      refine z_fin (fun e9 => ?_)
      subst e9
      exact hret _ _ _ _ (by decide) (by decide) dX7_areAddressesSingle_50 (Or.inl rfl)
def X7_areAddressesThere_b10 (p3 : Option Nat) (p4 : Int) (h6 : zH) (s5 : Int) : Option ((Int) ⊕ ((Unit) ⊕ (Unit))) :=
  if p4 ≤ s5 then
    some (Sum.inr (Sum.inl ()))
  else
    (zaR h6 6 p3 s5).bind fun v8 =>
    if v8 = none then
      (zchk (s5 + 1)).bind fun v9 =>
      some (Sum.inl (v9))
    else
      (zgI h6 v8 2 3).bind fun v10 =>
      if v10 = 0 then
        ((zobj h6 v8 2).bind fun _ => X0_hasAddressesAll h6 v8).bind fun x12 =>
        if x12 = 0 then
          some (Sum.inr (Sum.inr ()))
        else
          (zchk (s5 + 1)).bind fun v13 =>
          some (Sum.inl (v13))
      else
        (zchk (s5 + 1)).bind fun v11 =>
        some (Sum.inl (v11))
def X7_areAddressesThere (hp : zH) (a0 : Option Nat) : Option Int :=
  (zgR hp a0 8 1).bind fun v1 =>
  (zlen hp v1).bind fun v2 =>
  (zloop (X7_areAddressesThere_b10 v1 v2 hp) zN 0).bind fun e7 =>
  match e7 with
  | Sum.inl e7 =>
    some 1
  | Sum.inr e7 =>
    some 0
set_option maxRecDepth 20000 in
theorem c_X7_areAddressesThere (hp : zH) (a0 : Option Nat) : ∀ r, X7_areAddressesThere hp a0 = some r → zMi yX7_areAddressesThere (Cond.code yX7_areAddressesThere cX7_areAddressesThere 5 (some .boolean) :: zALL) { frames := 2, cells := 0, slots := 0, locals := 40 } 0 0 [zR a0] hp r hp := by
  refine zMi_of (own := RX7) (cc := cX7_areAddressesThere) (maxL := 5) (res := fun r => r) (hp2 := fun _ => hp) (by decide) rfl (Or.inr (Or.inl rfl)) (by exact Nat.le_of_ble_eq_true rfl) ?_
  intro K r0 X hnL hret
  have hN : ∀ i, i < 5 → i < K.2.2.2.2.2.2.2.2.2.2.2.2.2.2.1 := by rw [hnL]; exact fun _ h => h
  show zS _ _ (zJ K 0 0 0 [(0, zR a0)] [] hp)
  unfold X7_areAddressesThere
  refine z_aload_n (pc := 0) (i := 0) 0 X dX7_areAddressesThere_0 rfl rfl ?_
  refine z_getR (pc := 1) (C := RX7) (T := TX7) (N := 9) (ci := 8) 1 X dX7_areAddressesThere_1 inz_X7 rfl (by decide) fw_X7_17 (fun v1 => ?_)
  refine z_astore_n (pc := 4) (i := 1) (lv' := [(1, zR v1), (0, zR a0)]) X dX7_areAddressesThere_4 rfl (hN _ (by decide)) rfl ?_
  refine z_aload_n (pc := 5) (i := 1) 0 X dX7_areAddressesThere_5 rfl rfl ?_
  refine z_alen (pc := 6) X dX7_areAddressesThere_6 (fun v2 => ?_)
  refine z_istore_n (pc := 7) (i := 2) (lv' := [(2, zI v2), (1, zR v1), (0, zR a0)]) X dX7_areAddressesThere_7 rfl (hN _ (by decide)) rfl ?_
  refine z_iconst (pc := 8) (z := 0) X dX7_areAddressesThere_8 rfl ⟨by decide, by decide⟩ ?_
  refine z_istore_n (pc := 9) (i := 3) (lv' := [(3, zI 0), (2, zI v2), (1, zR v1), (0, zR a0)]) X dX7_areAddressesThere_9 rfl (hN _ (by decide)) rfl ?_
  refine z_pick [2, 1, 0] (lv' := [(1, zR v1), (2, zI v2), (3, zI 0)]) rfl ?_
  refine z_bind (z_loop (body := X7_areAddressesThere_b10 v1 v2 hp) (fun s5 : Int => zJ K 0 0 10 [(1, zR v1), (2, zI v2), (3, zI s5)] [] hp) (fun e7 : ((Unit) ⊕ (Unit)) => (match e7 with | Sum.inl e7 => zJ K 0 0 49 [] [] hp | Sum.inr e7 => zJ K 0 0 41 [] [] hp)) (fun s5 => ?_) zN 0) (fun e7 => ?_)
  · unfold X7_areAddressesThere_b10
    refine z_iload_n (pc := 10) (i := 3) 2 X dX7_areAddressesThere_10 rfl rfl ?_
    refine z_iload_n (pc := 11) (i := 2) 1 X dX7_areAddressesThere_11 rfl rfl ?_
    refine z_icmp_ge (pc := 12) 49 X dX7_areAddressesThere_12 (by decide) (fun _ => ?_) (fun _ => ?_)
    · refine z_pick [] (lv' := []) rfl ?_
      exact z_exit
    · refine z_aload_n (pc := 15) (i := 1) 0 X dX7_areAddressesThere_15 rfl rfl ?_
      refine z_iload_n (pc := 16) (i := 3) 2 X dX7_areAddressesThere_16 rfl rfl ?_
      refine z_aaload6 (pc := 17) X dX7_areAddressesThere_17 (fun v8 => ?_)
      refine z_astore (pc := 18) (i := 4) (lv' := [(4, zR v8), (1, zR v1), (2, zI v2), (3, zI s5)]) X dX7_areAddressesThere_18 (hN _ (by decide)) rfl ?_
      refine z_aload (pc := 20) (i := 4) 0 X dX7_areAddressesThere_20 rfl ?_
      refine z_ifnull (pc := 22) 43 X dX7_areAddressesThere_22 (by decide) (fun _ => ?_) (fun _ => ?_)
      · refine z_iinc (pc := 43) (i := 3) (n := 1) (lv' := fun v9 => [(3, zI v9), (4, zR v8), (1, zR v1), (2, zI v2)]) 3 X dX7_areAddressesThere_43 rfl (hN _ (by decide)) (fun _ => rfl) (fun v9 _ _ => ?_)
        refine z_goto (pc := 46) 10 X dX7_areAddressesThere_46 (by decide) ?_
        refine z_pick [2, 3, 0] (lv' := [(1, zR v1), (2, zI v2), (3, zI v9)]) rfl ?_
        exact z_back
      · refine z_aload (pc := 25) (i := 4) 0 X dX7_areAddressesThere_25 rfl ?_
        refine z_getI (pc := 27) (C := RX0) (T := TX0) (N := 5) (ci := 2) 3 X dX7_areAddressesThere_27 inz_X0 rfl (by decide) fw_X7_213 (fun v10 => ?_)
        refine z_if_ne (pc := 30) 43 X dX7_areAddressesThere_30 (by decide) (fun _ => ?_) (fun _ => ?_)
        · refine z_iinc (pc := 43) (i := 3) (n := 1) (lv' := fun v11 => [(3, zI v11), (4, zR v8), (1, zR v1), (2, zI v2)]) 3 X dX7_areAddressesThere_43 rfl (hN _ (by decide)) (fun _ => rfl) (fun v11 _ _ => ?_)
          refine z_goto (pc := 46) 10 X dX7_areAddressesThere_46 (by decide) ?_
          refine z_pick [2, 3, 0] (lv' := [(1, zR v1), (2, zI v2), (3, zI v11)]) rfl ?_
          exact z_back
        · refine z_aload (pc := 33) (i := 4) 0 X dX7_areAddressesThere_33 rfl ?_
          refine z_callV_i (pc := 35) (cells := 0) (slots := 0) (C := RX0) (T := TX0) (N := 5) (ci := 2) [] X dX7_areAddressesThere_35 (c_X0_hasAddressesAll hp v8) kw_X7_401 rfl rfl ⟨rfl, rfl, ⟨by decide, by decide⟩, ⟨by decide, by decide⟩⟩ (Nat.le_of_ble_eq_true rfl) rfl (fun x12 => ?_)
          refine z_if_ne (pc := 38) 43 X dX7_areAddressesThere_38 (by decide) (fun _ => ?_) (fun _ => ?_)
          · refine z_iinc (pc := 43) (i := 3) (n := 1) (lv' := fun v13 => [(3, zI v13), (4, zR v8), (1, zR v1), (2, zI v2)]) 3 X dX7_areAddressesThere_43 rfl (hN _ (by decide)) (fun _ => rfl) (fun v13 _ _ => ?_)
            refine z_goto (pc := 46) 10 X dX7_areAddressesThere_46 (by decide) ?_
            refine z_pick [2, 3, 0] (lv' := [(1, zR v1), (2, zI v2), (3, zI v13)]) rfl ?_
            exact z_back
          · refine z_pick [] (lv' := []) rfl ?_
            exact z_exit
  · rcases e7 with e7 | e7
    · refine z_iconst (pc := 49) (z := 1) X dX7_areAddressesThere_49 rfl ⟨by decide, by decide⟩ ?_
      refine z_fin (fun e9 => ?_)
      subst e9
      exact hret _ _ _ _ (by decide) (by decide) dX7_areAddressesThere_50 (Or.inr rfl)
    · refine z_iconst (pc := 41) (z := 0) X dX7_areAddressesThere_41 rfl ⟨by decide, by decide⟩ ?_
      refine z_fin (fun e9 => ?_)
      subst e9
      exact hret _ _ _ _ (by decide) (by decide) dX7_areAddressesThere_42 (Or.inl rfl)
def X7_endOf_b4 (h2 : zH) (s1 : Option Nat × Int) : Option ((Option Nat × Int) ⊕ (Option Nat)) :=
  if 40 ≤ s1.2 then
    some (Sum.inr (s1.1))
  else
    if s1.1 = none then
      some (Sum.inr (s1.1))
    else
      (zgI h2 s1.1 2 3).bind fun v4 =>
      if v4 = 0 then
        some (Sum.inr (s1.1))
      else
        (zgR h2 s1.1 2 4).bind fun v5 =>
        (zchk (s1.2 + 1)).bind fun v6 =>
        some (Sum.inl (v5, v6))
def X7_endOf (hp : zH) (a0 : Option Nat) : Option (Option Nat) :=
  (zloop (X7_endOf_b4 hp) zN (a0, 0)).bind fun e3 =>
  some e3
set_option maxRecDepth 20000 in
theorem c_X7_endOf (hp : zH) (a0 : Option Nat) : ∀ r, X7_endOf hp a0 = some r → zMq yX7_endOf (Cond.code yX7_endOf cX7_endOf 3 (some (.object "StreetNamer$Door")) :: zALL) { frames := 0, cells := 0, slots := 0, locals := 0 } 0 0 [zR a0] hp r hp := by
  refine zMq_of (own := RX7) (cc := cX7_endOf) (maxL := 3) (res := fun r => r) (hp2 := fun _ => hp) (by decide) rfl (Or.inl ⟨_, rfl⟩) (by exact Nat.le_of_ble_eq_true rfl) ?_
  intro K r0 X hnL hret
  have hN : ∀ i, i < 3 → i < K.2.2.2.2.2.2.2.2.2.2.2.2.2.2.1 := by rw [hnL]; exact fun _ h => h
  show zS _ _ (zJ K 0 0 0 [(0, zR a0)] [] hp)
  unfold X7_endOf
  refine z_aload_n (pc := 0) (i := 0) 0 X dX7_endOf_0 rfl rfl ?_
  refine z_astore_n (pc := 1) (i := 1) (lv' := [(1, zR a0), (0, zR a0)]) X dX7_endOf_1 rfl (hN _ (by decide)) rfl ?_
  refine z_iconst (pc := 2) (z := 0) X dX7_endOf_2 rfl ⟨by decide, by decide⟩ ?_
  refine z_istore_n (pc := 3) (i := 2) (lv' := [(2, zI 0), (1, zR a0), (0, zR a0)]) X dX7_endOf_3 rfl (hN _ (by decide)) rfl ?_
  refine z_pick [1, 0] (lv' := [(1, zR a0), (2, zI 0)]) rfl ?_
  refine z_bind (z_loop (body := X7_endOf_b4 hp) (fun s1 : Option Nat × Int => zJ K 0 0 4 [(1, zR s1.1), (2, zI s1.2)] [] hp) (fun e3 : Option Nat => zJ K 0 0 32 [(1, zR e3)] [] hp) (fun s1 => ?_) zN (a0, 0)) (fun e3 => ?_)
  · unfold X7_endOf_b4
    refine z_iload_n (pc := 4) (i := 2) 1 X dX7_endOf_4 rfl rfl ?_
    refine z_bipush (pc := 5) (z := 40) X dX7_endOf_5 rfl ⟨by decide, by decide⟩ ?_
    refine z_icmp_ge (pc := 7) 32 X dX7_endOf_7 (by decide) (fun _ => ?_) (fun _ => ?_)
    · refine z_pick [0] (lv' := [(1, zR s1.1)]) rfl ?_
      exact z_exit
    · refine z_aload_n (pc := 10) (i := 1) 0 X dX7_endOf_10 rfl rfl ?_
      refine z_ifnull (pc := 11) 32 X dX7_endOf_11 (by decide) (fun _ => ?_) (fun _ => ?_)
      · refine z_pick [0] (lv' := [(1, zR s1.1)]) rfl ?_
        exact z_exit
      · refine z_aload_n (pc := 14) (i := 1) 0 X dX7_endOf_14 rfl rfl ?_
        refine z_getI (pc := 15) (C := RX0) (T := TX0) (N := 5) (ci := 2) 3 X dX7_endOf_15 inz_X0 rfl (by decide) fw_X7_213 (fun v4 => ?_)
        refine z_if_eq (pc := 18) 32 X dX7_endOf_18 (by decide) (fun _ => ?_) (fun _ => ?_)
        · refine z_pick [0] (lv' := [(1, zR s1.1)]) rfl ?_
          exact z_exit
        · refine z_aload_n (pc := 21) (i := 1) 0 X dX7_endOf_21 rfl rfl ?_
          refine z_getR (pc := 22) (C := RX0) (T := TX0) (N := 5) (ci := 2) 4 X dX7_endOf_22 inz_X0 rfl (by decide) fw_X7_232 (fun v5 => ?_)
          refine z_astore_n (pc := 25) (i := 1) (lv' := [(1, zR v5), (2, zI s1.2)]) X dX7_endOf_25 rfl (hN _ (by decide)) rfl ?_
          refine z_iinc (pc := 26) (i := 2) (n := 1) (lv' := fun v6 => [(2, zI v6), (1, zR v5)]) 1 X dX7_endOf_26 rfl (hN _ (by decide)) (fun _ => rfl) (fun v6 _ _ => ?_)
          refine z_goto (pc := 29) 4 X dX7_endOf_29 (by decide) ?_
          refine z_pick [1, 0] (lv' := [(1, zR v5), (2, zI v6)]) rfl ?_
          exact z_back
  · refine z_aload_n (pc := 32) (i := 1) 0 X dX7_endOf_32 rfl rfl ?_
    refine z_fin (fun e9 => ?_)
    subst e9
    exact hret _ _ _ _ (by decide) (by decide) dX7_endOf_33
def X7_areLeadsEnding_b10 (p3 : Option Nat) (p4 : Int) (h6 : zH) (s5 : Int) : Option ((Int) ⊕ ((Unit) ⊕ (Unit))) :=
  if p4 ≤ s5 then
    some (Sum.inr (Sum.inl ()))
  else
    (zaR h6 6 p3 s5).bind fun v8 =>
    (X7_endOf h6 v8).bind fun x9 =>
    if x9 = none then
      (zchk (s5 + 1)).bind fun v10 =>
      some (Sum.inl (v10))
    else
      (zgI h6 x9 2 3).bind fun v11 =>
      if v11 = 0 then
        (zchk (s5 + 1)).bind fun v12 =>
        some (Sum.inl (v12))
      else
        some (Sum.inr (Sum.inr ()))
def X7_areLeadsEnding (hp : zH) (a0 : Option Nat) : Option Int :=
  (zgR hp a0 8 1).bind fun v1 =>
  (zlen hp v1).bind fun v2 =>
  (zloop (X7_areLeadsEnding_b10 v1 v2 hp) zN 0).bind fun e7 =>
  match e7 with
  | Sum.inl e7 =>
    some 1
  | Sum.inr e7 =>
    some 0
set_option maxRecDepth 20000 in
theorem c_X7_areLeadsEnding (hp : zH) (a0 : Option Nat) : ∀ r, X7_areLeadsEnding hp a0 = some r → zMi yX7_areLeadsEnding (Cond.code yX7_areLeadsEnding cX7_areLeadsEnding 6 (some .boolean) :: zALL) { frames := 1, cells := 0, slots := 0, locals := 22 } 0 0 [zR a0] hp r hp := by
  refine zMi_of (own := RX7) (cc := cX7_areLeadsEnding) (maxL := 6) (res := fun r => r) (hp2 := fun _ => hp) (by decide) rfl (Or.inr (Or.inl rfl)) (by exact Nat.le_of_ble_eq_true rfl) ?_
  intro K r0 X hnL hret
  have hN : ∀ i, i < 6 → i < K.2.2.2.2.2.2.2.2.2.2.2.2.2.2.1 := by rw [hnL]; exact fun _ h => h
  show zS _ _ (zJ K 0 0 0 [(0, zR a0)] [] hp)
  unfold X7_areLeadsEnding
  refine z_aload_n (pc := 0) (i := 0) 0 X dX7_areLeadsEnding_0 rfl rfl ?_
  refine z_getR (pc := 1) (C := RX7) (T := TX7) (N := 9) (ci := 8) 1 X dX7_areLeadsEnding_1 inz_X7 rfl (by decide) fw_X7_17 (fun v1 => ?_)
  refine z_astore_n (pc := 4) (i := 1) (lv' := [(1, zR v1), (0, zR a0)]) X dX7_areLeadsEnding_4 rfl (hN _ (by decide)) rfl ?_
  refine z_aload_n (pc := 5) (i := 1) 0 X dX7_areLeadsEnding_5 rfl rfl ?_
  refine z_alen (pc := 6) X dX7_areLeadsEnding_6 (fun v2 => ?_)
  refine z_istore_n (pc := 7) (i := 2) (lv' := [(2, zI v2), (1, zR v1), (0, zR a0)]) X dX7_areLeadsEnding_7 rfl (hN _ (by decide)) rfl ?_
  refine z_iconst (pc := 8) (z := 0) X dX7_areLeadsEnding_8 rfl ⟨by decide, by decide⟩ ?_
  refine z_istore_n (pc := 9) (i := 3) (lv' := [(3, zI 0), (2, zI v2), (1, zR v1), (0, zR a0)]) X dX7_areLeadsEnding_9 rfl (hN _ (by decide)) rfl ?_
  refine z_pick [2, 1, 0] (lv' := [(1, zR v1), (2, zI v2), (3, zI 0)]) rfl ?_
  refine z_bind (z_loop (body := X7_areLeadsEnding_b10 v1 v2 hp) (fun s5 : Int => zJ K 0 0 10 [(1, zR v1), (2, zI v2), (3, zI s5)] [] hp) (fun e7 : ((Unit) ⊕ (Unit)) => (match e7 with | Sum.inl e7 => zJ K 0 0 48 [] [] hp | Sum.inr e7 => zJ K 0 0 40 [] [] hp)) (fun s5 => ?_) zN 0) (fun e7 => ?_)
  · unfold X7_areLeadsEnding_b10
    refine z_iload_n (pc := 10) (i := 3) 2 X dX7_areLeadsEnding_10 rfl rfl ?_
    refine z_iload_n (pc := 11) (i := 2) 1 X dX7_areLeadsEnding_11 rfl rfl ?_
    refine z_icmp_ge (pc := 12) 48 X dX7_areLeadsEnding_12 (by decide) (fun _ => ?_) (fun _ => ?_)
    · refine z_pick [] (lv' := []) rfl ?_
      exact z_exit
    · refine z_aload_n (pc := 15) (i := 1) 0 X dX7_areLeadsEnding_15 rfl rfl ?_
      refine z_iload_n (pc := 16) (i := 3) 2 X dX7_areLeadsEnding_16 rfl rfl ?_
      refine z_aaload6 (pc := 17) X dX7_areLeadsEnding_17 (fun v8 => ?_)
      refine z_astore (pc := 18) (i := 4) (lv' := [(4, zR v8), (1, zR v1), (2, zI v2), (3, zI s5)]) X dX7_areLeadsEnding_18 (hN _ (by decide)) rfl ?_
      refine z_aload (pc := 20) (i := 4) 0 X dX7_areLeadsEnding_20 rfl ?_
      refine z_callS_q (pc := 22) (cells := 0) (slots := 0) [zR v8] X dX7_areLeadsEnding_22 (c_X7_endOf hp v8) kw_X7_281 rfl ⟨rfl, rfl, ⟨by decide, by decide⟩, ⟨by decide, by decide⟩⟩ (Nat.le_of_ble_eq_true rfl) rfl (fun x9 => ?_)
      refine z_astore (pc := 25) (i := 5) (lv' := [(5, zR x9), (4, zR v8), (1, zR v1), (2, zI v2), (3, zI s5)]) X dX7_areLeadsEnding_25 (hN _ (by decide)) rfl ?_
      refine z_aload (pc := 27) (i := 5) 0 X dX7_areLeadsEnding_27 rfl ?_
      refine z_ifnull (pc := 29) 42 X dX7_areLeadsEnding_29 (by decide) (fun _ => ?_) (fun _ => ?_)
      · refine z_iinc (pc := 42) (i := 3) (n := 1) (lv' := fun v10 => [(3, zI v10), (5, zR x9), (4, zR v8), (1, zR v1), (2, zI v2)]) 4 X dX7_areLeadsEnding_42 rfl (hN _ (by decide)) (fun _ => rfl) (fun v10 _ _ => ?_)
        refine z_goto (pc := 45) 10 X dX7_areLeadsEnding_45 (by decide) ?_
        refine z_pick [3, 4, 0] (lv' := [(1, zR v1), (2, zI v2), (3, zI v10)]) rfl ?_
        exact z_back
      · refine z_aload (pc := 32) (i := 5) 0 X dX7_areLeadsEnding_32 rfl ?_
        refine z_getI (pc := 34) (C := RX0) (T := TX0) (N := 5) (ci := 2) 3 X dX7_areLeadsEnding_34 inz_X0 rfl (by decide) fw_X7_213 (fun v11 => ?_)
        refine z_if_eq (pc := 37) 42 X dX7_areLeadsEnding_37 (by decide) (fun _ => ?_) (fun _ => ?_)
        · refine z_iinc (pc := 42) (i := 3) (n := 1) (lv' := fun v12 => [(3, zI v12), (5, zR x9), (4, zR v8), (1, zR v1), (2, zI v2)]) 4 X dX7_areLeadsEnding_42 rfl (hN _ (by decide)) (fun _ => rfl) (fun v12 _ _ => ?_)
          refine z_goto (pc := 45) 10 X dX7_areLeadsEnding_45 (by decide) ?_
          refine z_pick [3, 4, 0] (lv' := [(1, zR v1), (2, zI v2), (3, zI v12)]) rfl ?_
          exact z_back
        · refine z_pick [] (lv' := []) rfl ?_
          exact z_exit
  · rcases e7 with e7 | e7
    · refine z_iconst (pc := 48) (z := 1) X dX7_areLeadsEnding_48 rfl ⟨by decide, by decide⟩ ?_
      refine z_fin (fun e9 => ?_)
      subst e9
      exact hret _ _ _ _ (by decide) (by decide) dX7_areLeadsEnding_49 (Or.inr rfl)
    · refine z_iconst (pc := 40) (z := 0) X dX7_areLeadsEnding_40 rfl ⟨by decide, by decide⟩ ?_
      refine z_fin (fun e9 => ?_)
      subst e9
      exact hret _ _ _ _ (by decide) (by decide) dX7_areLeadsEnding_41 (Or.inl rfl)
def X7_isTakenByOther_b11 (p3 : Option Nat) (p4 : Option Nat) (p5 : Int) (h7 : zH) (s6 : Int) : Option ((Int) ⊕ ((Unit) ⊕ (Unit))) :=
  if p5 ≤ s6 then
    some (Sum.inr (Sum.inl ()))
  else
    (zaR h7 5 p4 s6).bind fun v9 =>
    (X7_isStanding h7 v9).bind fun x10 =>
    if x10 = 0 then
      (zchk (s6 + 1)).bind fun v11 =>
      some (Sum.inl (v11))
    else
      if v9 = p3 then
        (zchk (s6 + 1)).bind fun v12 =>
        some (Sum.inl (v12))
      else
        (zgJ h7 p3 7 1).bind fun v13 =>
        ((zobj h7 v9 7).bind fun _ => X6_hasName h7 v9 v13).bind fun x14 =>
        if x14 = 0 then
          (zgJ h7 p3 7 2).bind fun v15 =>
          ((zobj h7 v9 7).bind fun _ => X6_hasName h7 v9 v15).bind fun x16 =>
          if x16 = 0 then
            (zchk (s6 + 1)).bind fun v17 =>
            some (Sum.inl (v17))
          else
            some (Sum.inr (Sum.inr ()))
        else
          some (Sum.inr (Sum.inr ()))
def X7_isTakenByOther (hp : zH) (a0 : Option Nat) (a1 : Option Nat) : Option Int :=
  (zgR hp a0 8 0).bind fun v1 =>
  (zlen hp v1).bind fun v2 =>
  (zloop (X7_isTakenByOther_b11 a1 v1 v2 hp) zN 0).bind fun e8 =>
  match e8 with
  | Sum.inl e8 =>
    some 0
  | Sum.inr e8 =>
    some 1
set_option maxRecDepth 20000 in
theorem c_X7_isTakenByOther (hp : zH) (a0 : Option Nat) (a1 : Option Nat) : ∀ r, X7_isTakenByOther hp a0 a1 = some r → zMi yX7_isTakenByOther (Cond.code yX7_isTakenByOther cX7_isTakenByOther 6 (some .boolean) :: zALL) { frames := 1, cells := 0, slots := 0, locals := 22 } 0 0 [zR a0, zR a1] hp r hp := by
  refine zMi_of (own := RX7) (cc := cX7_isTakenByOther) (maxL := 6) (res := fun r => r) (hp2 := fun _ => hp) (by decide) rfl (Or.inr (Or.inl rfl)) (by exact Nat.le_of_ble_eq_true rfl) ?_
  intro K r0 X hnL hret
  have hN : ∀ i, i < 6 → i < K.2.2.2.2.2.2.2.2.2.2.2.2.2.2.1 := by rw [hnL]; exact fun _ h => h
  show zS _ _ (zJ K 0 0 0 [(0, zR a0), (1, zR a1)] [] hp)
  unfold X7_isTakenByOther
  refine z_aload_n (pc := 0) (i := 0) 0 X dX7_isTakenByOther_0 rfl rfl ?_
  refine z_getR (pc := 1) (C := RX7) (T := TX7) (N := 9) (ci := 8) 0 X dX7_isTakenByOther_1 inz_X7 rfl (by decide) fw_X7_11 (fun v1 => ?_)
  refine z_astore_n (pc := 4) (i := 2) (lv' := [(2, zR v1), (0, zR a0), (1, zR a1)]) X dX7_isTakenByOther_4 rfl (hN _ (by decide)) rfl ?_
  refine z_aload_n (pc := 5) (i := 2) 0 X dX7_isTakenByOther_5 rfl rfl ?_
  refine z_alen (pc := 6) X dX7_isTakenByOther_6 (fun v2 => ?_)
  refine z_istore_n (pc := 7) (i := 3) (lv' := [(3, zI v2), (2, zR v1), (0, zR a0), (1, zR a1)]) X dX7_isTakenByOther_7 rfl (hN _ (by decide)) rfl ?_
  refine z_iconst (pc := 8) (z := 0) X dX7_isTakenByOther_8 rfl ⟨by decide, by decide⟩ ?_
  refine z_istore (pc := 9) (i := 4) (lv' := [(4, zI 0), (3, zI v2), (2, zR v1), (0, zR a0), (1, zR a1)]) X dX7_isTakenByOther_9 (hN _ (by decide)) rfl ?_
  refine z_pick [4, 2, 1, 0] (lv' := [(1, zR a1), (2, zR v1), (3, zI v2), (4, zI 0)]) rfl ?_
  refine z_bind (z_loop (body := X7_isTakenByOther_b11 a1 v1 v2 hp) (fun s6 : Int => zJ K 0 0 11 [(1, zR a1), (2, zR v1), (3, zI v2), (4, zI s6)] [] hp) (fun e8 : ((Unit) ⊕ (Unit)) => (match e8 with | Sum.inl e8 => zJ K 0 0 69 [] [] hp | Sum.inr e8 => zJ K 0 0 61 [] [] hp)) (fun s6 => ?_) zN 0) (fun e8 => ?_)
  · unfold X7_isTakenByOther_b11
    refine z_iload (pc := 11) (i := 4) 3 X dX7_isTakenByOther_11 rfl ?_
    refine z_iload_n (pc := 13) (i := 3) 2 X dX7_isTakenByOther_13 rfl rfl ?_
    refine z_icmp_ge (pc := 14) 69 X dX7_isTakenByOther_14 (by decide) (fun _ => ?_) (fun _ => ?_)
    · refine z_pick [] (lv' := []) rfl ?_
      exact z_exit
    · refine z_aload_n (pc := 17) (i := 2) 1 X dX7_isTakenByOther_17 rfl rfl ?_
      refine z_iload (pc := 18) (i := 4) 3 X dX7_isTakenByOther_18 rfl ?_
      refine z_aaload5 (pc := 20) X dX7_isTakenByOther_20 (fun v9 => ?_)
      refine z_astore (pc := 21) (i := 5) (lv' := [(5, zR v9), (1, zR a1), (2, zR v1), (3, zI v2), (4, zI s6)]) X dX7_isTakenByOther_21 (hN _ (by decide)) rfl ?_
      refine z_aload (pc := 23) (i := 5) 0 X dX7_isTakenByOther_23 rfl ?_
      refine z_callS_i (pc := 25) (cells := 0) (slots := 0) [zR v9] X dX7_isTakenByOther_25 (c_X7_isStanding hp v9) kw_X7_179 rfl ⟨rfl, rfl, ⟨by decide, by decide⟩, ⟨by decide, by decide⟩⟩ (Nat.le_of_ble_eq_true rfl) rfl (fun x10 => ?_)
      refine z_if_eq (pc := 28) 63 X dX7_isTakenByOther_28 (by decide) (fun _ => ?_) (fun _ => ?_)
      · refine z_iinc (pc := 63) (i := 4) (n := 1) (lv' := fun v11 => [(4, zI v11), (5, zR v9), (1, zR a1), (2, zR v1), (3, zI v2)]) 4 X dX7_isTakenByOther_63 rfl (hN _ (by decide)) (fun _ => rfl) (fun v11 _ _ => ?_)
        refine z_goto (pc := 66) 11 X dX7_isTakenByOther_66 (by decide) ?_
        refine z_pick [2, 3, 4, 0] (lv' := [(1, zR a1), (2, zR v1), (3, zI v2), (4, zI v11)]) rfl ?_
        exact z_back
      · refine z_aload (pc := 31) (i := 5) 0 X dX7_isTakenByOther_31 rfl ?_
        refine z_aload_n (pc := 33) (i := 1) 1 X dX7_isTakenByOther_33 rfl rfl ?_
        refine z_acmp_eq (pc := 34) 63 X dX7_isTakenByOther_34 (by decide) (fun _ => ?_) (fun _ => ?_)
        · refine z_iinc (pc := 63) (i := 4) (n := 1) (lv' := fun v12 => [(4, zI v12), (5, zR v9), (1, zR a1), (2, zR v1), (3, zI v2)]) 4 X dX7_isTakenByOther_63 rfl (hN _ (by decide)) (fun _ => rfl) (fun v12 _ _ => ?_)
          refine z_goto (pc := 66) 11 X dX7_isTakenByOther_66 (by decide) ?_
          refine z_pick [2, 3, 4, 0] (lv' := [(1, zR a1), (2, zR v1), (3, zI v2), (4, zI v12)]) rfl ?_
          exact z_back
        · refine z_aload (pc := 37) (i := 5) 0 X dX7_isTakenByOther_37 rfl ?_
          refine z_aload_n (pc := 39) (i := 1) 1 X dX7_isTakenByOther_39 rfl rfl ?_
          refine z_getJ (pc := 40) (C := RX6) (T := TX6) (N := 8) (ci := 7) 1 X dX7_isTakenByOther_40 inz_X6 rfl (by decide) fw_X7_91 (fun v13 => ?_)
          refine z_callV_i (pc := 43) (cells := 0) (slots := 0) (C := RX6) (T := TX6) (N := 8) (ci := 7) [zL v13] X dX7_isTakenByOther_43 (c_X6_hasName hp v9 v13) kw_X7_349 rfl rfl ⟨rfl, rfl, ⟨by decide, by decide⟩, ⟨by decide, by decide⟩⟩ (Nat.le_of_ble_eq_true rfl) rfl (fun x14 => ?_)
          refine z_if_ne (pc := 46) 61 X dX7_isTakenByOther_46 (by decide) (fun _ => ?_) (fun _ => ?_)
          · refine z_pick [] (lv' := []) rfl ?_
            exact z_exit
          · refine z_aload (pc := 49) (i := 5) 0 X dX7_isTakenByOther_49 rfl ?_
            refine z_aload_n (pc := 51) (i := 1) 1 X dX7_isTakenByOther_51 rfl rfl ?_
            refine z_getJ (pc := 52) (C := RX6) (T := TX6) (N := 8) (ci := 7) 2 X dX7_isTakenByOther_52 inz_X6 rfl (by decide) fw_X7_103 (fun v15 => ?_)
            refine z_callV_i (pc := 55) (cells := 0) (slots := 0) (C := RX6) (T := TX6) (N := 8) (ci := 7) [zL v15] X dX7_isTakenByOther_55 (c_X6_hasName hp v9 v15) kw_X7_349 rfl rfl ⟨rfl, rfl, ⟨by decide, by decide⟩, ⟨by decide, by decide⟩⟩ (Nat.le_of_ble_eq_true rfl) rfl (fun x16 => ?_)
            refine z_if_eq (pc := 58) 63 X dX7_isTakenByOther_58 (by decide) (fun _ => ?_) (fun _ => ?_)
            · refine z_iinc (pc := 63) (i := 4) (n := 1) (lv' := fun v17 => [(4, zI v17), (5, zR v9), (1, zR a1), (2, zR v1), (3, zI v2)]) 4 X dX7_isTakenByOther_63 rfl (hN _ (by decide)) (fun _ => rfl) (fun v17 _ _ => ?_)
              refine z_goto (pc := 66) 11 X dX7_isTakenByOther_66 (by decide) ?_
              refine z_pick [2, 3, 4, 0] (lv' := [(1, zR a1), (2, zR v1), (3, zI v2), (4, zI v17)]) rfl ?_
              exact z_back
            · refine z_pick [] (lv' := []) rfl ?_
              exact z_exit
  · rcases e8 with e8 | e8
    · refine z_iconst (pc := 69) (z := 0) X dX7_isTakenByOther_69 rfl ⟨by decide, by decide⟩ ?_
      refine z_fin (fun e9 => ?_)
      subst e9
      exact hret _ _ _ _ (by decide) (by decide) dX7_isTakenByOther_70 (Or.inl rfl)
    · refine z_iconst (pc := 61) (z := 1) X dX7_isTakenByOther_61 rfl ⟨by decide, by decide⟩ ?_
      refine z_fin (fun e9 => ?_)
      subst e9
      exact hret _ _ _ _ (by decide) (by decide) dX7_isTakenByOther_62 (Or.inr rfl)
def X7_areNamesSingle_b10 (p3 : Option Nat) (p4 : Option Nat) (p5 : Int) (h7 : zH) (s6 : Int) : Option ((Int) ⊕ ((Unit) ⊕ (Unit))) :=
  if p5 ≤ s6 then
    some (Sum.inr (Sum.inl ()))
  else
    (zaR h7 5 p4 s6).bind fun v9 =>
    (X7_isStanding h7 v9).bind fun x10 =>
    if x10 = 0 then
      (zchk (s6 + 1)).bind fun v11 =>
      some (Sum.inl (v11))
    else
      (zgJ h7 v9 7 1).bind fun v12 =>
      (zgJ h7 v9 7 2).bind fun v13 =>
      if (zcmp v12 v13) = 0 then
        some (Sum.inr (Sum.inr ()))
      else
        ((zobj h7 p3 8).bind fun _ => X7_isTakenByOther h7 p3 v9).bind fun x14 =>
        if x14 = 0 then
          (zchk (s6 + 1)).bind fun v15 =>
          some (Sum.inl (v15))
        else
          some (Sum.inr (Sum.inr ()))
def X7_areNamesSingle (hp : zH) (a0 : Option Nat) : Option Int :=
  (zgR hp a0 8 0).bind fun v1 =>
  (zlen hp v1).bind fun v2 =>
  (zloop (X7_areNamesSingle_b10 a0 v1 v2 hp) zN 0).bind fun e8 =>
  match e8 with
  | Sum.inl e8 =>
    some 1
  | Sum.inr e8 =>
    some 0
set_option maxRecDepth 20000 in
theorem c_X7_areNamesSingle (hp : zH) (a0 : Option Nat) : ∀ r, X7_areNamesSingle hp a0 = some r → zMi yX7_areNamesSingle (Cond.code yX7_areNamesSingle cX7_areNamesSingle 5 (some .boolean) :: zALL) { frames := 2, cells := 0, slots := 0, locals := 47 } 0 0 [zR a0] hp r hp := by
  refine zMi_of (own := RX7) (cc := cX7_areNamesSingle) (maxL := 5) (res := fun r => r) (hp2 := fun _ => hp) (by decide) rfl (Or.inr (Or.inl rfl)) (by exact Nat.le_of_ble_eq_true rfl) ?_
  intro K r0 X hnL hret
  have hN : ∀ i, i < 5 → i < K.2.2.2.2.2.2.2.2.2.2.2.2.2.2.1 := by rw [hnL]; exact fun _ h => h
  show zS _ _ (zJ K 0 0 0 [(0, zR a0)] [] hp)
  unfold X7_areNamesSingle
  refine z_aload_n (pc := 0) (i := 0) 0 X dX7_areNamesSingle_0 rfl rfl ?_
  refine z_getR (pc := 1) (C := RX7) (T := TX7) (N := 9) (ci := 8) 0 X dX7_areNamesSingle_1 inz_X7 rfl (by decide) fw_X7_11 (fun v1 => ?_)
  refine z_astore_n (pc := 4) (i := 1) (lv' := [(1, zR v1), (0, zR a0)]) X dX7_areNamesSingle_4 rfl (hN _ (by decide)) rfl ?_
  refine z_aload_n (pc := 5) (i := 1) 0 X dX7_areNamesSingle_5 rfl rfl ?_
  refine z_alen (pc := 6) X dX7_areNamesSingle_6 (fun v2 => ?_)
  refine z_istore_n (pc := 7) (i := 2) (lv' := [(2, zI v2), (1, zR v1), (0, zR a0)]) X dX7_areNamesSingle_7 rfl (hN _ (by decide)) rfl ?_
  refine z_iconst (pc := 8) (z := 0) X dX7_areNamesSingle_8 rfl ⟨by decide, by decide⟩ ?_
  refine z_istore_n (pc := 9) (i := 3) (lv' := [(3, zI 0), (2, zI v2), (1, zR v1), (0, zR a0)]) X dX7_areNamesSingle_9 rfl (hN _ (by decide)) rfl ?_
  refine z_pick [3, 2, 1, 0] (lv' := [(0, zR a0), (1, zR v1), (2, zI v2), (3, zI 0)]) rfl ?_
  refine z_bind (z_loop (body := X7_areNamesSingle_b10 a0 v1 v2 hp) (fun s6 : Int => zJ K 0 0 10 [(0, zR a0), (1, zR v1), (2, zI v2), (3, zI s6)] [] hp) (fun e8 : ((Unit) ⊕ (Unit)) => (match e8 with | Sum.inl e8 => zJ K 0 0 59 [] [] hp | Sum.inr e8 => zJ K 0 0 51 [] [] hp)) (fun s6 => ?_) zN 0) (fun e8 => ?_)
  · unfold X7_areNamesSingle_b10
    refine z_iload_n (pc := 10) (i := 3) 3 X dX7_areNamesSingle_10 rfl rfl ?_
    refine z_iload_n (pc := 11) (i := 2) 2 X dX7_areNamesSingle_11 rfl rfl ?_
    refine z_icmp_ge (pc := 12) 59 X dX7_areNamesSingle_12 (by decide) (fun _ => ?_) (fun _ => ?_)
    · refine z_pick [] (lv' := []) rfl ?_
      exact z_exit
    · refine z_aload_n (pc := 15) (i := 1) 1 X dX7_areNamesSingle_15 rfl rfl ?_
      refine z_iload_n (pc := 16) (i := 3) 3 X dX7_areNamesSingle_16 rfl rfl ?_
      refine z_aaload5 (pc := 17) X dX7_areNamesSingle_17 (fun v9 => ?_)
      refine z_astore (pc := 18) (i := 4) (lv' := [(4, zR v9), (0, zR a0), (1, zR v1), (2, zI v2), (3, zI s6)]) X dX7_areNamesSingle_18 (hN _ (by decide)) rfl ?_
      refine z_aload (pc := 20) (i := 4) 0 X dX7_areNamesSingle_20 rfl ?_
      refine z_callS_i (pc := 22) (cells := 0) (slots := 0) [zR v9] X dX7_areNamesSingle_22 (c_X7_isStanding hp v9) kw_X7_179 rfl ⟨rfl, rfl, ⟨by decide, by decide⟩, ⟨by decide, by decide⟩⟩ (Nat.le_of_ble_eq_true rfl) rfl (fun x10 => ?_)
      refine z_if_eq (pc := 25) 53 X dX7_areNamesSingle_25 (by decide) (fun _ => ?_) (fun _ => ?_)
      · refine z_iinc (pc := 53) (i := 3) (n := 1) (lv' := fun v11 => [(3, zI v11), (4, zR v9), (0, zR a0), (1, zR v1), (2, zI v2)]) 4 X dX7_areNamesSingle_53 rfl (hN _ (by decide)) (fun _ => rfl) (fun v11 _ _ => ?_)
        refine z_goto (pc := 56) 10 X dX7_areNamesSingle_56 (by decide) ?_
        refine z_pick [2, 3, 4, 0] (lv' := [(0, zR a0), (1, zR v1), (2, zI v2), (3, zI v11)]) rfl ?_
        exact z_back
      · refine z_aload (pc := 28) (i := 4) 0 X dX7_areNamesSingle_28 rfl ?_
        refine z_getJ (pc := 30) (C := RX6) (T := TX6) (N := 8) (ci := 7) 1 X dX7_areNamesSingle_30 inz_X6 rfl (by decide) fw_X7_91 (fun v12 => ?_)
        refine z_aload (pc := 33) (i := 4) 0 X dX7_areNamesSingle_33 rfl ?_
        refine z_getJ (pc := 35) (C := RX6) (T := TX6) (N := 8) (ci := 7) 2 X dX7_areNamesSingle_35 inz_X6 rfl (by decide) fw_X7_103 (fun v13 => ?_)
        refine z_lcmp (pc := 38) X dX7_areNamesSingle_38 ?_
        refine z_if_eq (pc := 39) 51 X dX7_areNamesSingle_39 (by decide) (fun _ => ?_) (fun _ => ?_)
        · refine z_pick [] (lv' := []) rfl ?_
          exact z_exit
        · refine z_aload_n (pc := 42) (i := 0) 1 X dX7_areNamesSingle_42 rfl rfl ?_
          refine z_aload (pc := 43) (i := 4) 0 X dX7_areNamesSingle_43 rfl ?_
          refine z_callV_i (pc := 45) (cells := 0) (slots := 0) (C := RX7) (T := TX7) (N := 9) (ci := 8) [zR v9] X dX7_areNamesSingle_45 (c_X7_isTakenByOther hp a0 v9) kw_X7_404 rfl rfl ⟨rfl, rfl, ⟨by decide, by decide⟩, ⟨by decide, by decide⟩⟩ (Nat.le_of_ble_eq_true rfl) rfl (fun x14 => ?_)
          refine z_if_eq (pc := 48) 53 X dX7_areNamesSingle_48 (by decide) (fun _ => ?_) (fun _ => ?_)
          · refine z_iinc (pc := 53) (i := 3) (n := 1) (lv' := fun v15 => [(3, zI v15), (4, zR v9), (0, zR a0), (1, zR v1), (2, zI v2)]) 4 X dX7_areNamesSingle_53 rfl (hN _ (by decide)) (fun _ => rfl) (fun v15 _ _ => ?_)
            refine z_goto (pc := 56) 10 X dX7_areNamesSingle_56 (by decide) ?_
            refine z_pick [2, 3, 4, 0] (lv' := [(0, zR a0), (1, zR v1), (2, zI v2), (3, zI v15)]) rfl ?_
            exact z_back
          · refine z_pick [] (lv' := []) rfl ?_
            exact z_exit
  · rcases e8 with e8 | e8
    · refine z_iconst (pc := 59) (z := 1) X dX7_areNamesSingle_59 rfl ⟨by decide, by decide⟩ ?_
      refine z_fin (fun e9 => ?_)
      subst e9
      exact hret _ _ _ _ (by decide) (by decide) dX7_areNamesSingle_60 (Or.inr rfl)
    · refine z_iconst (pc := 51) (z := 0) X dX7_areNamesSingle_51 rfl ⟨by decide, by decide⟩ ?_
      refine z_fin (fun e9 => ?_)
      subst e9
      exact hret _ _ _ _ (by decide) (by decide) dX7_areNamesSingle_52 (Or.inl rfl)
def X7_arrival_j21 (a0 : Option Nat) (a1 : Int) (a2 : Option Nat) (a3 : Int) (x2 : zH) (j3 : Int) : Option (Option Nat × zH) :=
  (zgR x2 a0 8 3).bind fun v4 =>
  ((zobj x2 v4 3).bind fun _ => X1_codeFor x2 v4 a1 a3 j3).bind fun x5 =>
  if x5 = 0 then
    some (none, x2)
  else
    (znew x2 6 nf_X5).bind fun h6 =>
    ((zobj h6 ((some x2.length)) 6).bind fun _ => X5_init h6 ((some x2.length)) a1 a2 a3 j3 x5).bind fun x7 =>
    some ((some x2.length), x7)
def X7_arrival (hp : zH) (a0 : Option Nat) (a1 : Int) (a2 : Option Nat) (a3 : Int) (a4 : Int) : Option (Option Nat × zH) :=
  (zgI hp a2 7 3).bind fun v1 =>
  ((zobj hp a0 8).bind fun _ => X7_openLedger hp a0 a2 v1).bind fun x2 =>
  if a4 = 108 then
    X7_arrival_j21 a0 a1 a2 a3 x2 1
  else
    X7_arrival_j21 a0 a1 a2 a3 x2 0
set_option maxRecDepth 20000 in
theorem c_X7_arrival (hp : zH) (a0 : Option Nat) (a1 : Int) (a2 : Option Nat) (a3 : Int) (a4 : Int) : ∀ r, X7_arrival hp a0 a1 a2 a3 a4 = some r → zMq yX7_arrival (Cond.code yX7_arrival cX7_arrival 7 (some (.object "StreetNamer$Place")) :: zALL) { frames := 4, cells := 1, slots := 5, locals := 100 } 1 5 [zR a0, zI a1, zR a2, zI a3, zI a4] hp r.1 r.2 := by
  refine zMq_of (own := RX7) (cc := cX7_arrival) (maxL := 7) (ε := (Option Nat × zH)) (res := fun r => r.1) (hp2 := fun r => r.2) (by decide) rfl (Or.inl ⟨_, rfl⟩) (by exact Nat.le_of_ble_eq_true rfl) ?_
  intro K r0 X hnL hret
  have hN : ∀ i, i < 7 → i < K.2.2.2.2.2.2.2.2.2.2.2.2.2.2.1 := by rw [hnL]; exact fun _ h => h
  show zS _ _ (zJ K 0 0 0 [(0, zR a0), (1, zI a1), (2, zR a2), (3, zI a3), (4, zI a4)] [] hp)
  unfold X7_arrival
  refine z_aload_n (pc := 0) (i := 0) 0 X dX7_arrival_0 rfl rfl ?_
  refine z_aload_n (pc := 1) (i := 2) 2 X dX7_arrival_1 rfl rfl ?_
  refine z_aload_n (pc := 2) (i := 2) 2 X dX7_arrival_2 rfl rfl ?_
  refine z_getI (pc := 3) (C := RX6) (T := TX6) (N := 8) (ci := 7) 3 X dX7_arrival_3 inz_X6 rfl (by decide) fw_X7_136 (fun v1 => ?_)
  refine z_callV_v (pc := 6) (cells := 0) (slots := 0) (C := RX7) (T := TX7) (N := 9) (ci := 8) [zR a2, zI v1] X dX7_arrival_6 (c_X7_openLedger hp a0 a2 v1) kw_X7_163 rfl rfl ⟨rfl, rfl, ⟨by decide, by decide⟩, ⟨by decide, by decide⟩⟩ (Nat.le_of_ble_eq_true rfl) rfl (fun x2 => ?_)
  refine z_iload (pc := 9) (i := 4) 4 X dX7_arrival_9 rfl ?_
  refine z_bipush (pc := 11) (z := 108) X dX7_arrival_11 rfl ⟨by decide, by decide⟩ ?_
  have hJ21 : ∀ (j3 : Int), zS (X7_arrival_j21 a0 a1 a2 a3 x2 j3) (fun r => r = r0) (zJ K 0 0 21 [(0, zR a0), (1, zI a1), (2, zR a2), (3, zI a3)] [zI j3] x2) := by
    intro j3
    unfold X7_arrival_j21
    refine z_istore (pc := 21) (i := 5) (lv' := [(5, zI j3), (0, zR a0), (1, zI a1), (2, zR a2), (3, zI a3)]) X dX7_arrival_21 (hN _ (by decide)) rfl ?_
    refine z_aload_n (pc := 23) (i := 0) 1 X dX7_arrival_23 rfl rfl ?_
    refine z_getR (pc := 24) (C := RX7) (T := TX7) (N := 9) (ci := 8) 3 X dX7_arrival_24 inz_X7 rfl (by decide) fw_X7_31 (fun v4 => ?_)
    refine z_iload_n (pc := 27) (i := 1) 2 X dX7_arrival_27 rfl rfl ?_
    refine z_iload_n (pc := 28) (i := 3) 4 X dX7_arrival_28 rfl rfl ?_
    refine z_iload (pc := 29) (i := 5) 0 X dX7_arrival_29 rfl ?_
    refine z_callV_i (pc := 31) (cells := 0) (slots := 0) (C := RX1) (T := TX1) (N := 7) (ci := 3) [zI a1, zI a3, zI j3] X dX7_arrival_31 (c_X1_codeFor x2 v4 a1 a3 j3) kw_X7_371 rfl rfl ⟨rfl, rfl, ⟨by decide, by decide⟩, ⟨by decide, by decide⟩⟩ (Nat.le_of_ble_eq_true rfl) rfl (fun x5 => ?_)
    refine z_istore (pc := 34) (i := 6) (lv' := [(6, zI x5), (5, zI j3), (0, zR a0), (1, zI a1), (2, zR a2), (3, zI a3)]) X dX7_arrival_34 (hN _ (by decide)) rfl ?_
    refine z_iload (pc := 36) (i := 6) 0 X dX7_arrival_36 rfl ?_
    refine z_if_ne (pc := 38) 45 X dX7_arrival_38 (by decide) (fun _ => ?_) (fun _ => ?_)
    · refine z_newo (pc := 45) (c1 := 1) (s1 := 5) X dX7_arrival_45 inz_X5 tyX5_ok (zin (zt3 94 (by decide +kernel)) rfl) (zin (zt3 95 (by decide +kernel)) rfl) (zin (zt1 20 (by decide +kernel)) rfl) rfl nf_X5_d nf_X5_ok (by decide) (by decide) rfl rfl (fun h6 => ?_)
      refine z_dup (pc := 48) X dX7_arrival_48 rfl ?_
      refine z_iload_n (pc := 49) (i := 1) 3 X dX7_arrival_49 rfl rfl ?_
      refine z_aload_n (pc := 50) (i := 2) 4 X dX7_arrival_50 rfl rfl ?_
      refine z_iload_n (pc := 51) (i := 3) 5 X dX7_arrival_51 rfl rfl ?_
      refine z_iload (pc := 52) (i := 5) 1 X dX7_arrival_52 rfl ?_
      refine z_iload (pc := 54) (i := 6) 0 X dX7_arrival_54 rfl ?_
      refine z_callI_v (pc := 56) (cells := 1) (slots := 5) (C := RX5) (T := TX5) (N := 5) (ci := 6) [zI a1, zR a2, zI a3, zI j3, zI x5] X dX7_arrival_56 (c_X5_init h6 ((some x2.length)) a1 a2 a3 j3 x5) kw_X7_375 rfl rfl ⟨rfl, rfl, ⟨by decide, by decide⟩, ⟨by decide, by decide⟩⟩ (Nat.le_of_ble_eq_true rfl) rfl (fun x7 => ?_)
      refine z_fin (fun e9 => ?_)
      subst e9
      exact hret _ _ _ _ (by decide) (by decide) dX7_arrival_59
    · refine z_null (pc := 41) X dX7_arrival_41 ?_
      refine z_goto (pc := 42) 59 X dX7_arrival_42 (by decide) ?_
      refine z_fin (fun e9 => ?_)
      subst e9
      exact hret _ _ _ _ (by decide) (by decide) dX7_arrival_59
  refine z_icmp_ne (pc := 13) 20 X dX7_arrival_13 (by decide) (fun _ => ?_) (fun _ => ?_)
  · refine z_iconst (pc := 20) (z := 0) X dX7_arrival_20 rfl ⟨by decide, by decide⟩ ?_
    refine z_pick [0, 1, 2, 3] (lv' := [(0, zR a0), (1, zI a1), (2, zR a2), (3, zI a3)]) rfl ?_
    exact hJ21 0
  · refine z_iconst (pc := 16) (z := 1) X dX7_arrival_16 rfl ⟨by decide, by decide⟩ ?_
    refine z_goto (pc := 17) 21 X dX7_arrival_17 (by decide) ?_
    refine z_pick [0, 1, 2, 3] (lv' := [(0, zR a0), (1, zI a1), (2, zR a2), (3, zI a3)]) rfl ?_
    exact hJ21 1
def X7_doorsOn_b14 (p3 : Option Nat) (p4 : Option Nat) (p5 : Int) (h7 : zH) (s6 : Int × Int) : Option ((Int × Int) ⊕ (Int)) :=
  if p5 ≤ s6.2 then
    some (Sum.inr (s6.1))
  else
    (zaR h7 6 p4 s6.2).bind fun v9 =>
    (X7_placeOf h7 v9 p3).bind fun x10 =>
    if x10 = none then
      (zchk (s6.2 + 1)).bind fun v11 =>
      some (Sum.inl (s6.1, v11))
    else
      (zchk (s6.1 + 1)).bind fun v12 =>
      (zchk (s6.2 + 1)).bind fun v13 =>
      some (Sum.inl (v12, v13))
def X7_doorsOn (hp : zH) (a0 : Option Nat) (a1 : Option Nat) : Option Int :=
  (zgR hp a0 8 1).bind fun v1 =>
  (zlen hp v1).bind fun v2 =>
  (zloop (X7_doorsOn_b14 a1 v1 v2 hp) zN (0, 0)).bind fun e8 =>
  some e8
set_option maxRecDepth 20000 in
theorem c_X7_doorsOn (hp : zH) (a0 : Option Nat) (a1 : Option Nat) : ∀ r, X7_doorsOn hp a0 a1 = some r → zMi yX7_doorsOn (Cond.code yX7_doorsOn cX7_doorsOn 7 (some .int) :: zALL) { frames := 2, cells := 0, slots := 0, locals := 42 } 0 0 [zR a0, zR a1] hp r hp := by
  refine zMi_of (own := RX7) (cc := cX7_doorsOn) (maxL := 7) (res := fun r => r) (hp2 := fun _ => hp) (by decide) rfl (Or.inl rfl) (by exact Nat.le_of_ble_eq_true rfl) ?_
  intro K r0 X hnL hret
  have hN : ∀ i, i < 7 → i < K.2.2.2.2.2.2.2.2.2.2.2.2.2.2.1 := by rw [hnL]; exact fun _ h => h
  show zS _ _ (zJ K 0 0 0 [(0, zR a0), (1, zR a1)] [] hp)
  unfold X7_doorsOn
  refine z_iconst (pc := 0) (z := 0) X dX7_doorsOn_0 rfl ⟨by decide, by decide⟩ ?_
  refine z_istore_n (pc := 1) (i := 2) (lv' := [(2, zI 0), (0, zR a0), (1, zR a1)]) X dX7_doorsOn_1 rfl (hN _ (by decide)) rfl ?_
  refine z_aload_n (pc := 2) (i := 0) 1 X dX7_doorsOn_2 rfl rfl ?_
  refine z_getR (pc := 3) (C := RX7) (T := TX7) (N := 9) (ci := 8) 1 X dX7_doorsOn_3 inz_X7 rfl (by decide) fw_X7_17 (fun v1 => ?_)
  refine z_astore_n (pc := 6) (i := 3) (lv' := [(3, zR v1), (2, zI 0), (0, zR a0), (1, zR a1)]) X dX7_doorsOn_6 rfl (hN _ (by decide)) rfl ?_
  refine z_aload_n (pc := 7) (i := 3) 0 X dX7_doorsOn_7 rfl rfl ?_
  refine z_alen (pc := 8) X dX7_doorsOn_8 (fun v2 => ?_)
  refine z_istore (pc := 9) (i := 4) (lv' := [(4, zI v2), (3, zR v1), (2, zI 0), (0, zR a0), (1, zR a1)]) X dX7_doorsOn_9 (hN _ (by decide)) rfl ?_
  refine z_iconst (pc := 11) (z := 0) X dX7_doorsOn_11 rfl ⟨by decide, by decide⟩ ?_
  refine z_istore (pc := 12) (i := 5) (lv' := [(5, zI 0), (4, zI v2), (3, zR v1), (2, zI 0), (0, zR a0), (1, zR a1)]) X dX7_doorsOn_12 (hN _ (by decide)) rfl ?_
  refine z_pick [5, 3, 2, 1, 0] (lv' := [(1, zR a1), (2, zI 0), (3, zR v1), (4, zI v2), (5, zI 0)]) rfl ?_
  refine z_bind (z_loop (body := X7_doorsOn_b14 a1 v1 v2 hp) (fun s6 : Int × Int => zJ K 0 0 14 [(1, zR a1), (2, zI s6.1), (3, zR v1), (4, zI v2), (5, zI s6.2)] [] hp) (fun e8 : Int => zJ K 0 0 45 [(2, zI e8)] [] hp) (fun s6 => ?_) zN (0, 0)) (fun e8 => ?_)
  · unfold X7_doorsOn_b14
    refine z_iload (pc := 14) (i := 5) 4 X dX7_doorsOn_14 rfl ?_
    refine z_iload (pc := 16) (i := 4) 3 X dX7_doorsOn_16 rfl ?_
    refine z_icmp_ge (pc := 18) 45 X dX7_doorsOn_18 (by decide) (fun _ => ?_) (fun _ => ?_)
    · refine z_pick [1] (lv' := [(2, zI s6.1)]) rfl ?_
      exact z_exit
    · refine z_aload_n (pc := 21) (i := 3) 2 X dX7_doorsOn_21 rfl rfl ?_
      refine z_iload (pc := 22) (i := 5) 4 X dX7_doorsOn_22 rfl ?_
      refine z_aaload6 (pc := 24) X dX7_doorsOn_24 (fun v9 => ?_)
      refine z_astore (pc := 25) (i := 6) (lv' := [(6, zR v9), (1, zR a1), (2, zI s6.1), (3, zR v1), (4, zI v2), (5, zI s6.2)]) X dX7_doorsOn_25 (hN _ (by decide)) rfl ?_
      refine z_aload (pc := 27) (i := 6) 0 X dX7_doorsOn_27 rfl ?_
      refine z_aload_n (pc := 29) (i := 1) 1 X dX7_doorsOn_29 rfl rfl ?_
      refine z_callS_q (pc := 30) (cells := 0) (slots := 0) [zR v9, zR a1] X dX7_doorsOn_30 (c_X7_placeOf hp v9 a1) kw_X7_299 rfl ⟨rfl, rfl, ⟨by decide, by decide⟩, ⟨by decide, by decide⟩⟩ (Nat.le_of_ble_eq_true rfl) rfl (fun x10 => ?_)
      refine z_ifnull (pc := 33) 39 X dX7_doorsOn_33 (by decide) (fun _ => ?_) (fun _ => ?_)
      · refine z_iinc (pc := 39) (i := 5) (n := 1) (lv' := fun v11 => [(5, zI v11), (6, zR v9), (1, zR a1), (2, zI s6.1), (3, zR v1), (4, zI v2)]) 5 X dX7_doorsOn_39 rfl (hN _ (by decide)) (fun _ => rfl) (fun v11 _ _ => ?_)
        refine z_goto (pc := 42) 14 X dX7_doorsOn_42 (by decide) ?_
        refine z_pick [2, 3, 4, 5, 0] (lv' := [(1, zR a1), (2, zI s6.1), (3, zR v1), (4, zI v2), (5, zI v11)]) rfl ?_
        exact z_back
      · refine z_iinc (pc := 36) (i := 2) (n := 1) (lv' := fun v12 => [(2, zI v12), (6, zR v9), (1, zR a1), (3, zR v1), (4, zI v2), (5, zI s6.2)]) 2 X dX7_doorsOn_36 rfl (hN _ (by decide)) (fun _ => rfl) (fun v12 _ _ => ?_)
        refine z_iinc (pc := 39) (i := 5) (n := 1) (lv' := fun v13 => [(5, zI v13), (2, zI v12), (6, zR v9), (1, zR a1), (3, zR v1), (4, zI v2)]) 5 X dX7_doorsOn_39 rfl (hN _ (by decide)) (fun _ => rfl) (fun v13 _ _ => ?_)
        refine z_goto (pc := 42) 14 X dX7_doorsOn_42 (by decide) ?_
        refine z_pick [3, 1, 4, 5, 0] (lv' := [(1, zR a1), (2, zI v12), (3, zR v1), (4, zI v2), (5, zI v13)]) rfl ?_
        exact z_back
  · refine z_iload_n (pc := 45) (i := 2) 0 X dX7_doorsOn_45 rfl rfl ?_
    refine z_fin (fun e9 => ?_)
    subst e9
    exact hret _ _ _ _ (by decide) (by decide) dX7_doorsOn_46 trivial
def X7_checksum_b16 (p3 : Option Nat) (p4 : Option Nat) (p5 : Int) (h7 : zH) (s6 : Int64 × Int) : Option ((Int64 × Int) ⊕ (Int64)) :=
  if p5 ≤ s6.2 then
    some (Sum.inr (s6.1))
  else
    (zaR h7 5 p4 s6.2).bind fun v9 =>
    (X7_isStanding h7 v9).bind fun x10 =>
    if x10 = 0 then
      (zchk (s6.2 + 1)).bind fun v11 =>
      some (Sum.inl (s6.1, v11))
    else
      (zgI h7 v9 7 3).bind fun v12 =>
      ((zobj h7 p3 8).bind fun _ => X7_doorsOn h7 p3 v9).bind fun x13 =>
      (zchk (s6.2 + 1)).bind fun v14 =>
      some (Sum.inl (((31 * ((31 * s6.1) + (Int64.ofInt v12))) + (Int64.ofInt x13)), v14))
def X7_checksum_j127 (h21 : zH) (s20 : Int64 × Int) (v23 : Option Nat) (j26 : Int64) : Option ((Int64 × Int) ⊕ (Int64)) :=
  (zgR h21 v23 2 2).bind fun v27 =>
  if v27 = none then
    (zchk (s20.2 + 1)).bind fun v31 =>
    some (Sum.inl (j26, v31))
  else
    (zgR h21 v23 2 2).bind fun v28 =>
    (zgI h21 v28 6 4).bind fun v29 =>
    (zchk (s20.2 + 1)).bind fun v30 =>
    some (Sum.inl (((31 * j26) + (Int64.ofInt v29)), v30))
def X7_checksum_b82 (p17 : Option Nat) (p18 : Option Nat) (p19 : Int) (h21 : zH) (s20 : Int64 × Int) : Option ((Int64 × Int) ⊕ (Int64)) :=
  if p19 ≤ s20.2 then
    some (Sum.inr (s20.1))
  else
    (zaR h21 6 p18 s20.2).bind fun v23 =>
    if v23 = none then
      (zchk (s20.2 + 1)).bind fun v24 =>
      some (Sum.inl (s20.1, v24))
    else
      (zgR h21 v23 2 1).bind fun v25 =>
      if v25 = none then
        X7_checksum_j127 h21 s20 v23 s20.1
      else
        (zgR h21 v23 2 1).bind fun v32 =>
        (zgI h21 v32 6 4).bind fun v33 =>
        X7_checksum_j127 h21 s20 v23 (((31 * s20.1) + (Int64.ofInt v33)))
def X7_checksum (hp : zH) (a0 : Option Nat) : Option Int64 :=
  (zgR hp a0 8 0).bind fun v1 =>
  (zlen hp v1).bind fun v2 =>
  (zloop (X7_checksum_b16 a0 v1 v2 hp) zN (7, 0)).bind fun e8 =>
  (zgR hp a0 8 1).bind fun v15 =>
  (zlen hp v15).bind fun v16 =>
  (zloop (X7_checksum_b82 a0 v15 v16 hp) zN (e8, 0)).bind fun e22 =>
  (zgR hp a0 8 2).bind fun v34 =>
  (zgI hp v34 4 4).bind fun v35 =>
  some (((31 * e22) + (Int64.ofInt v35)))
set_option maxRecDepth 20000 in
theorem c_X7_checksum (hp : zH) (a0 : Option Nat) : ∀ r, X7_checksum hp a0 = some r → zMl yX7_checksum (Cond.code yX7_checksum cX7_checksum 7 (some .long) :: zALL) { frames := 3, cells := 0, slots := 0, locals := 68 } 0 0 [zR a0] hp r hp := by
  refine zMl_of (own := RX7) (cc := cX7_checksum) (maxL := 7) (res := fun r => r) (hp2 := fun _ => hp) (by decide) rfl (by exact Nat.le_of_ble_eq_true rfl) ?_
  intro K r0 X hnL hret
  have hN : ∀ i, i < 7 → i < K.2.2.2.2.2.2.2.2.2.2.2.2.2.2.1 := by rw [hnL]; exact fun _ h => h
  show zS _ _ (zJ K 0 0 0 [(0, zR a0)] [] hp)
  unfold X7_checksum
  refine z_ldc2 (pc := 0) (z := 7) X dX7_checksum_0 (zin (zt1 157 (by decide +kernel)) rfl) ?_
  refine z_lstore_n (pc := 3) (i := 1) (lv' := [(1, zL 7), (0, zR a0)]) X dX7_checksum_3 rfl (hN _ (by decide)) rfl ?_
  refine z_aload_n (pc := 4) (i := 0) 1 X dX7_checksum_4 rfl rfl ?_
  refine z_getR (pc := 5) (C := RX7) (T := TX7) (N := 9) (ci := 8) 0 X dX7_checksum_5 inz_X7 rfl (by decide) fw_X7_11 (fun v1 => ?_)
  refine z_astore_n (pc := 8) (i := 3) (lv' := [(3, zR v1), (1, zL 7), (0, zR a0)]) X dX7_checksum_8 rfl (hN _ (by decide)) rfl ?_
  refine z_aload_n (pc := 9) (i := 3) 0 X dX7_checksum_9 rfl rfl ?_
  refine z_alen (pc := 10) X dX7_checksum_10 (fun v2 => ?_)
  refine z_istore (pc := 11) (i := 4) (lv' := [(4, zI v2), (3, zR v1), (1, zL 7), (0, zR a0)]) X dX7_checksum_11 (hN _ (by decide)) rfl ?_
  refine z_iconst (pc := 13) (z := 0) X dX7_checksum_13 rfl ⟨by decide, by decide⟩ ?_
  refine z_istore (pc := 14) (i := 5) (lv' := [(5, zI 0), (4, zI v2), (3, zR v1), (1, zL 7), (0, zR a0)]) X dX7_checksum_14 (hN _ (by decide)) rfl ?_
  refine z_pick [4, 3, 2, 1, 0] (lv' := [(0, zR a0), (1, zL 7), (3, zR v1), (4, zI v2), (5, zI 0)]) rfl ?_
  refine z_bind (z_loop (body := X7_checksum_b16 a0 v1 v2 hp) (fun s6 : Int64 × Int => zJ K 0 0 16 [(0, zR a0), (1, zL s6.1), (3, zR v1), (4, zI v2), (5, zI s6.2)] [] hp) (fun e8 : Int64 => zJ K 0 0 70 [(0, zR a0), (1, zL e8)] [] hp) (fun s6 => ?_) zN (7, 0)) (fun e8 => ?_)
  · unfold X7_checksum_b16
    refine z_iload (pc := 16) (i := 5) 4 X dX7_checksum_16 rfl ?_
    refine z_iload (pc := 18) (i := 4) 3 X dX7_checksum_18 rfl ?_
    refine z_icmp_ge (pc := 20) 70 X dX7_checksum_20 (by decide) (fun _ => ?_) (fun _ => ?_)
    · refine z_pick [0, 1] (lv' := [(0, zR a0), (1, zL s6.1)]) rfl ?_
      exact z_exit
    · refine z_aload_n (pc := 23) (i := 3) 2 X dX7_checksum_23 rfl rfl ?_
      refine z_iload (pc := 24) (i := 5) 4 X dX7_checksum_24 rfl ?_
      refine z_aaload5 (pc := 26) X dX7_checksum_26 (fun v9 => ?_)
      refine z_astore (pc := 27) (i := 6) (lv' := [(6, zR v9), (0, zR a0), (1, zL s6.1), (3, zR v1), (4, zI v2), (5, zI s6.2)]) X dX7_checksum_27 (hN _ (by decide)) rfl ?_
      refine z_aload (pc := 29) (i := 6) 0 X dX7_checksum_29 rfl ?_
      refine z_callS_i (pc := 31) (cells := 0) (slots := 0) [zR v9] X dX7_checksum_31 (c_X7_isStanding hp v9) kw_X7_179 rfl ⟨rfl, rfl, ⟨by decide, by decide⟩, ⟨by decide, by decide⟩⟩ (Nat.le_of_ble_eq_true rfl) rfl (fun x10 => ?_)
      refine z_if_eq (pc := 34) 64 X dX7_checksum_34 (by decide) (fun _ => ?_) (fun _ => ?_)
      · refine z_iinc (pc := 64) (i := 5) (n := 1) (lv' := fun v11 => [(5, zI v11), (6, zR v9), (0, zR a0), (1, zL s6.1), (3, zR v1), (4, zI v2)]) 5 X dX7_checksum_64 rfl (hN _ (by decide)) (fun _ => rfl) (fun v11 _ _ => ?_)
        refine z_goto (pc := 67) 16 X dX7_checksum_67 (by decide) ?_
        refine z_pick [2, 3, 4, 5, 0] (lv' := [(0, zR a0), (1, zL s6.1), (3, zR v1), (4, zI v2), (5, zI v11)]) rfl ?_
        exact z_back
      · refine z_ldc2 (pc := 37) (z := 31) X dX7_checksum_37 (zin (zt1 158 (by decide +kernel)) rfl) ?_
        refine z_lload_n (pc := 40) (i := 1) 2 X dX7_checksum_40 rfl rfl ?_
        refine z_lmul (pc := 41) X dX7_checksum_41 ?_
        refine z_aload (pc := 42) (i := 6) 0 X dX7_checksum_42 rfl ?_
        refine z_getI (pc := 44) (C := RX6) (T := TX6) (N := 8) (ci := 7) 3 X dX7_checksum_44 inz_X6 rfl (by decide) fw_X7_136 (fun v12 => ?_)
        refine z_i2l (pc := 47) X dX7_checksum_47 ?_
        refine z_ladd (pc := 48) X dX7_checksum_48 ?_
        refine z_lstore_n (pc := 49) (i := 1) (lv' := [(1, zL ((31 * s6.1) + (Int64.ofInt v12))), (6, zR v9), (0, zR a0), (3, zR v1), (4, zI v2), (5, zI s6.2)]) X dX7_checksum_49 rfl (hN _ (by decide)) rfl ?_
        refine z_ldc2 (pc := 50) (z := 31) X dX7_checksum_50 (zin (zt1 158 (by decide +kernel)) rfl) ?_
        refine z_lload_n (pc := 53) (i := 1) 0 X dX7_checksum_53 rfl rfl ?_
        refine z_lmul (pc := 54) X dX7_checksum_54 ?_
        refine z_aload_n (pc := 55) (i := 0) 2 X dX7_checksum_55 rfl rfl ?_
        refine z_aload (pc := 56) (i := 6) 1 X dX7_checksum_56 rfl ?_
        refine z_callV_i (pc := 58) (cells := 0) (slots := 0) (C := RX7) (T := TX7) (N := 9) (ci := 8) [zR v9] X dX7_checksum_58 (c_X7_doorsOn hp a0 v9) kw_X7_256 rfl rfl ⟨rfl, rfl, ⟨by decide, by decide⟩, ⟨by decide, by decide⟩⟩ (Nat.le_of_ble_eq_true rfl) rfl (fun x13 => ?_)
        refine z_i2l (pc := 61) X dX7_checksum_61 ?_
        refine z_ladd (pc := 62) X dX7_checksum_62 ?_
        refine z_lstore_n (pc := 63) (i := 1) (lv' := [(1, zL ((31 * ((31 * s6.1) + (Int64.ofInt v12))) + (Int64.ofInt x13))), (6, zR v9), (0, zR a0), (3, zR v1), (4, zI v2), (5, zI s6.2)]) X dX7_checksum_63 rfl (hN _ (by decide)) rfl ?_
        refine z_iinc (pc := 64) (i := 5) (n := 1) (lv' := fun v14 => [(5, zI v14), (1, zL ((31 * ((31 * s6.1) + (Int64.ofInt v12))) + (Int64.ofInt x13))), (6, zR v9), (0, zR a0), (3, zR v1), (4, zI v2)]) 5 X dX7_checksum_64 rfl (hN _ (by decide)) (fun _ => rfl) (fun v14 _ _ => ?_)
        refine z_goto (pc := 67) 16 X dX7_checksum_67 (by decide) ?_
        refine z_pick [3, 1, 4, 5, 0] (lv' := [(0, zR a0), (1, zL ((31 * ((31 * s6.1) + (Int64.ofInt v12))) + (Int64.ofInt x13))), (3, zR v1), (4, zI v2), (5, zI v14)]) rfl ?_
        exact z_back
  · refine z_aload_n (pc := 70) (i := 0) 0 X dX7_checksum_70 rfl rfl ?_
    refine z_getR (pc := 71) (C := RX7) (T := TX7) (N := 9) (ci := 8) 1 X dX7_checksum_71 inz_X7 rfl (by decide) fw_X7_17 (fun v15 => ?_)
    refine z_astore_n (pc := 74) (i := 3) (lv' := [(3, zR v15), (0, zR a0), (1, zL e8)]) X dX7_checksum_74 rfl (hN _ (by decide)) rfl ?_
    refine z_aload_n (pc := 75) (i := 3) 0 X dX7_checksum_75 rfl rfl ?_
    refine z_alen (pc := 76) X dX7_checksum_76 (fun v16 => ?_)
    refine z_istore (pc := 77) (i := 4) (lv' := [(4, zI v16), (3, zR v15), (0, zR a0), (1, zL e8)]) X dX7_checksum_77 (hN _ (by decide)) rfl ?_
    refine z_iconst (pc := 79) (z := 0) X dX7_checksum_79 rfl ⟨by decide, by decide⟩ ?_
    refine z_istore (pc := 80) (i := 5) (lv' := [(5, zI 0), (4, zI v16), (3, zR v15), (0, zR a0), (1, zL e8)]) X dX7_checksum_80 (hN _ (by decide)) rfl ?_
    refine z_pick [3, 4, 2, 1, 0] (lv' := [(0, zR a0), (1, zL e8), (3, zR v15), (4, zI v16), (5, zI 0)]) rfl ?_
    refine z_bind (z_loop (body := X7_checksum_b82 a0 v15 v16 hp) (fun s20 : Int64 × Int => zJ K 0 0 82 [(0, zR a0), (1, zL s20.1), (3, zR v15), (4, zI v16), (5, zI s20.2)] [] hp) (fun e22 : Int64 => zJ K 0 0 162 [(0, zR a0), (1, zL e22)] [] hp) (fun s20 => ?_) zN (e8, 0)) (fun e22 => ?_)
    · unfold X7_checksum_b82
      refine z_iload (pc := 82) (i := 5) 4 X dX7_checksum_82 rfl ?_
      refine z_iload (pc := 84) (i := 4) 3 X dX7_checksum_84 rfl ?_
      refine z_icmp_ge (pc := 86) 162 X dX7_checksum_86 (by decide) (fun _ => ?_) (fun _ => ?_)
      · refine z_pick [0, 1] (lv' := [(0, zR a0), (1, zL s20.1)]) rfl ?_
        exact z_exit
      · refine z_aload_n (pc := 89) (i := 3) 2 X dX7_checksum_89 rfl rfl ?_
        refine z_iload (pc := 90) (i := 5) 4 X dX7_checksum_90 rfl ?_
        refine z_aaload6 (pc := 92) X dX7_checksum_92 (fun v23 => ?_)
        refine z_astore (pc := 93) (i := 6) (lv' := [(6, zR v23), (0, zR a0), (1, zL s20.1), (3, zR v15), (4, zI v16), (5, zI s20.2)]) X dX7_checksum_93 (hN _ (by decide)) rfl ?_
        refine z_aload (pc := 95) (i := 6) 0 X dX7_checksum_95 rfl ?_
        refine z_ifnull (pc := 97) 156 X dX7_checksum_97 (by decide) (fun _ => ?_) (fun _ => ?_)
        · refine z_iinc (pc := 156) (i := 5) (n := 1) (lv' := fun v24 => [(5, zI v24), (6, zR v23), (0, zR a0), (1, zL s20.1), (3, zR v15), (4, zI v16)]) 5 X dX7_checksum_156 rfl (hN _ (by decide)) (fun _ => rfl) (fun v24 _ _ => ?_)
          refine z_goto (pc := 159) 82 X dX7_checksum_159 (by decide) ?_
          refine z_pick [2, 3, 4, 5, 0] (lv' := [(0, zR a0), (1, zL s20.1), (3, zR v15), (4, zI v16), (5, zI v24)]) rfl ?_
          exact z_back
        · refine z_aload (pc := 100) (i := 6) 0 X dX7_checksum_100 rfl ?_
          refine z_getR (pc := 102) (C := RX0) (T := TX0) (N := 5) (ci := 2) 1 X dX7_checksum_102 inz_X0 rfl (by decide) fw_X7_242 (fun v25 => ?_)
          have hJ127 : ∀ (j26 : Int64), zS (X7_checksum_j127 hp s20 v23 j26) (zLG (fun s20 : Int64 × Int => zJ K 0 0 82 [(0, zR a0), (1, zL s20.1), (3, zR v15), (4, zI v16), (5, zI s20.2)] [] hp) (fun e22 : Int64 => zJ K 0 0 162 [(0, zR a0), (1, zL e22)] [] hp)) (zJ K 0 0 127 [(0, zR a0), (3, zR v15), (4, zI v16), (5, zI s20.2), (6, zR v23)] [zL j26] hp) := by
            intro j26
            unfold X7_checksum_j127
            refine z_lstore_n (pc := 127) (i := 1) (lv' := [(1, zL j26), (0, zR a0), (3, zR v15), (4, zI v16), (5, zI s20.2), (6, zR v23)]) X dX7_checksum_127 rfl (hN _ (by decide)) rfl ?_
            refine z_aload (pc := 128) (i := 6) 5 X dX7_checksum_128 rfl ?_
            refine z_getR (pc := 130) (C := RX0) (T := TX0) (N := 5) (ci := 2) 2 X dX7_checksum_130 inz_X0 rfl (by decide) fw_X7_214 (fun v27 => ?_)
            refine z_ifnonnull (pc := 133) 140 X dX7_checksum_133 (by decide) (fun _ => ?_) (fun _ => ?_)
            · refine z_ldc2 (pc := 140) (z := 31) X dX7_checksum_140 (zin (zt1 158 (by decide +kernel)) rfl) ?_
              refine z_lload_n (pc := 143) (i := 1) 0 X dX7_checksum_143 rfl rfl ?_
              refine z_lmul (pc := 144) X dX7_checksum_144 ?_
              refine z_aload (pc := 145) (i := 6) 5 X dX7_checksum_145 rfl ?_
              refine z_getR (pc := 147) (C := RX0) (T := TX0) (N := 5) (ci := 2) 2 X dX7_checksum_147 inz_X0 rfl (by decide) fw_X7_214 (fun v28 => ?_)
              refine z_getI (pc := 150) (C := RX5) (T := TX5) (N := 5) (ci := 6) 4 X dX7_checksum_150 inz_X5 rfl (by decide) fw_X7_200 (fun v29 => ?_)
              refine z_i2l (pc := 153) X dX7_checksum_153 ?_
              refine z_ladd (pc := 154) X dX7_checksum_154 ?_
              refine z_lstore_n (pc := 155) (i := 1) (lv' := [(1, zL ((31 * j26) + (Int64.ofInt v29))), (0, zR a0), (3, zR v15), (4, zI v16), (5, zI s20.2), (6, zR v23)]) X dX7_checksum_155 rfl (hN _ (by decide)) rfl ?_
              refine z_iinc (pc := 156) (i := 5) (n := 1) (lv' := fun v30 => [(5, zI v30), (1, zL ((31 * j26) + (Int64.ofInt v29))), (0, zR a0), (3, zR v15), (4, zI v16), (6, zR v23)]) 4 X dX7_checksum_156 rfl (hN _ (by decide)) (fun _ => rfl) (fun v30 _ _ => ?_)
              refine z_goto (pc := 159) 82 X dX7_checksum_159 (by decide) ?_
              refine z_pick [2, 1, 3, 4, 0] (lv' := [(0, zR a0), (1, zL ((31 * j26) + (Int64.ofInt v29))), (3, zR v15), (4, zI v16), (5, zI v30)]) rfl ?_
              exact z_back
            · refine z_lload_n (pc := 136) (i := 1) 0 X dX7_checksum_136 rfl rfl ?_
              refine z_goto (pc := 137) 155 X dX7_checksum_137 (by decide) ?_
              refine z_lstore_n (pc := 155) (i := 1) (lv' := [(1, zL j26), (0, zR a0), (3, zR v15), (4, zI v16), (5, zI s20.2), (6, zR v23)]) X dX7_checksum_155 rfl (hN _ (by decide)) rfl ?_
              refine z_iinc (pc := 156) (i := 5) (n := 1) (lv' := fun v31 => [(5, zI v31), (1, zL j26), (0, zR a0), (3, zR v15), (4, zI v16), (6, zR v23)]) 4 X dX7_checksum_156 rfl (hN _ (by decide)) (fun _ => rfl) (fun v31 _ _ => ?_)
              refine z_goto (pc := 159) 82 X dX7_checksum_159 (by decide) ?_
              refine z_pick [2, 1, 3, 4, 0] (lv' := [(0, zR a0), (1, zL j26), (3, zR v15), (4, zI v16), (5, zI v31)]) rfl ?_
              exact z_back
          refine z_ifnonnull (pc := 105) 112 X dX7_checksum_105 (by decide) (fun _ => ?_) (fun _ => ?_)
          · refine z_ldc2 (pc := 112) (z := 31) X dX7_checksum_112 (zin (zt1 158 (by decide +kernel)) rfl) ?_
            refine z_lload_n (pc := 115) (i := 1) 2 X dX7_checksum_115 rfl rfl ?_
            refine z_lmul (pc := 116) X dX7_checksum_116 ?_
            refine z_aload (pc := 117) (i := 6) 0 X dX7_checksum_117 rfl ?_
            refine z_getR (pc := 119) (C := RX0) (T := TX0) (N := 5) (ci := 2) 1 X dX7_checksum_119 inz_X0 rfl (by decide) fw_X7_242 (fun v32 => ?_)
            refine z_getI (pc := 122) (C := RX5) (T := TX5) (N := 5) (ci := 6) 4 X dX7_checksum_122 inz_X5 rfl (by decide) fw_X7_200 (fun v33 => ?_)
            refine z_i2l (pc := 125) X dX7_checksum_125 ?_
            refine z_ladd (pc := 126) X dX7_checksum_126 ?_
            refine z_pick [1, 3, 4, 5, 0] (lv' := [(0, zR a0), (3, zR v15), (4, zI v16), (5, zI s20.2), (6, zR v23)]) rfl ?_
            exact hJ127 (((31 * s20.1) + (Int64.ofInt v33)))
          · refine z_lload_n (pc := 108) (i := 1) 2 X dX7_checksum_108 rfl rfl ?_
            refine z_goto (pc := 109) 127 X dX7_checksum_109 (by decide) ?_
            refine z_pick [1, 3, 4, 5, 0] (lv' := [(0, zR a0), (3, zR v15), (4, zI v16), (5, zI s20.2), (6, zR v23)]) rfl ?_
            exact hJ127 s20.1
    · refine z_ldc2 (pc := 162) (z := 31) X dX7_checksum_162 (zin (zt1 158 (by decide +kernel)) rfl) ?_
      refine z_lload_n (pc := 165) (i := 1) 1 X dX7_checksum_165 rfl rfl ?_
      refine z_lmul (pc := 166) X dX7_checksum_166 ?_
      refine z_aload_n (pc := 167) (i := 0) 0 X dX7_checksum_167 rfl rfl ?_
      refine z_getR (pc := 168) (C := RX7) (T := TX7) (N := 9) (ci := 8) 2 X dX7_checksum_168 inz_X7 rfl (by decide) fw_X7_24 (fun v34 => ?_)
      refine z_getI (pc := 171) (C := RX3) (T := TX3) (N := 6) (ci := 4) 4 X dX7_checksum_171 inz_X3 rfl (by decide) fw_X7_98 (fun v35 => ?_)
      refine z_i2l (pc := 174) X dX7_checksum_174 ?_
      refine z_ladd (pc := 175) X dX7_checksum_175 ?_
      refine z_fin (fun e9 => ?_)
      subst e9
      exact hret _ _ _ _ (by decide) (by decide) dX7_checksum_176
def X7_standing (hp : zH) (a0 : Option Nat) (a1 : Int) : Option (Option Nat ⊕ Nat) :=
  if a1 < 0 then
    some (Sum.inr 3)
  else
    (zgR hp a0 8 0).bind fun v1 =>
    (zlen hp v1).bind fun v2 =>
    if v2 ≤ a1 then
      some (Sum.inr 3)
    else
      (zgR hp a0 8 0).bind fun v3 =>
      (zaR hp 5 v3 a1).bind fun v4 =>
      (X7_isStanding hp v4).bind fun x5 =>
      if x5 = 0 then
        some (Sum.inr 3)
      else
        (zgR hp a0 8 0).bind fun v6 =>
        (zaR hp 5 v6 a1).bind fun v7 =>
        some (Sum.inl v7)
set_option maxRecDepth 20000 in
theorem c_X7_standing (hp : zH) (a0 : Option Nat) (a1 : Int) : ∀ r, X7_standing hp a0 a1 = some r → zXq yX7_standing (Cond.code yX7_standing cX7_standing 2 (some (.object "StreetNamer$Street")) :: zALL) { frames := 6, cells := 1, slots := 6, locals := 82 } 1 6 [zR a0, zI a1] hp r hp := by
  refine zXq_of (own := RX7) (cc := cX7_standing) (maxL := 2) (res := fun r => r) (hp2 := fun _ => hp) (by decide) rfl (Or.inl ⟨_, rfl⟩) (by exact Nat.le_of_ble_eq_true rfl) ?_
  intro K r0 X hnL hret hthr hnew
  have hN : ∀ i, i < 2 → i < K.2.2.2.2.2.2.2.2.2.2.2.2.2.2.1 := by rw [hnL]; exact fun _ h => h
  show zS _ _ (zJ K 0 0 0 [(0, zR a0), (1, zI a1)] [] hp)
  unfold X7_standing
  refine z_iload_n (pc := 0) (i := 1) 1 X dX7_standing_0 rfl rfl ?_
  refine z_if_lt (pc := 1) 25 X dX7_standing_1 (by decide) (fun _ => ?_) (fun _ => ?_)
  · refine z_fin (fun e9 => ?_)
    subst e9
    exact hnew 0 0 25 _ 3 342 344 346 "no such street any more" 10 7 rfl dX7_standing_25 dX7_standing_28 (Or.inr ⟨dX7_standing_29, rfl⟩) dX7_standing_32 rfl dX7_standing_35 (zin (zt2 207 (by decide +kernel)) rfl) (zin (zt1 14 (by decide +kernel)) rfl) rfl (zt2 216 (by decide +kernel)) thr_346 (by decide) (by decide) (by decide) ⟨by decide, by decide⟩ ⟨by decide, by decide⟩
  · refine z_iload_n (pc := 4) (i := 1) 1 X dX7_standing_4 rfl rfl ?_
    refine z_aload_n (pc := 5) (i := 0) 0 X dX7_standing_5 rfl rfl ?_
    refine z_getR (pc := 6) (C := RX7) (T := TX7) (N := 9) (ci := 8) 0 X dX7_standing_6 inz_X7 rfl (by decide) fw_X7_11 (fun v1 => ?_)
    refine z_alen (pc := 9) X dX7_standing_9 (fun v2 => ?_)
    refine z_icmp_ge (pc := 10) 25 X dX7_standing_10 (by decide) (fun _ => ?_) (fun _ => ?_)
    · refine z_fin (fun e9 => ?_)
      subst e9
      exact hnew 0 0 25 _ 3 342 344 346 "no such street any more" 10 7 rfl dX7_standing_25 dX7_standing_28 (Or.inr ⟨dX7_standing_29, rfl⟩) dX7_standing_32 rfl dX7_standing_35 (zin (zt2 207 (by decide +kernel)) rfl) (zin (zt1 14 (by decide +kernel)) rfl) rfl (zt2 216 (by decide +kernel)) thr_346 (by decide) (by decide) (by decide) ⟨by decide, by decide⟩ ⟨by decide, by decide⟩
    · refine z_aload_n (pc := 13) (i := 0) 0 X dX7_standing_13 rfl rfl ?_
      refine z_getR (pc := 14) (C := RX7) (T := TX7) (N := 9) (ci := 8) 0 X dX7_standing_14 inz_X7 rfl (by decide) fw_X7_11 (fun v3 => ?_)
      refine z_iload_n (pc := 17) (i := 1) 1 X dX7_standing_17 rfl rfl ?_
      refine z_aaload5 (pc := 18) X dX7_standing_18 (fun v4 => ?_)
      refine z_callS_i (pc := 19) (cells := 0) (slots := 0) [zR v4] X dX7_standing_19 (c_X7_isStanding hp v4) kw_X7_179 rfl ⟨rfl, rfl, ⟨by decide, by decide⟩, ⟨by decide, by decide⟩⟩ (Nat.le_of_ble_eq_true rfl) rfl (fun x5 => ?_)
      refine z_if_ne (pc := 22) 36 X dX7_standing_22 (by decide) (fun _ => ?_) (fun _ => ?_)
      · refine z_aload_n (pc := 36) (i := 0) 0 X dX7_standing_36 rfl rfl ?_
        refine z_getR (pc := 37) (C := RX7) (T := TX7) (N := 9) (ci := 8) 0 X dX7_standing_37 inz_X7 rfl (by decide) fw_X7_11 (fun v6 => ?_)
        refine z_iload_n (pc := 40) (i := 1) 1 X dX7_standing_40 rfl rfl ?_
        refine z_aaload5 (pc := 41) X dX7_standing_41 (fun v7 => ?_)
        refine z_fin (fun e9 => ?_)
        subst e9
        exact hret _ _ _ _ _ rfl (by decide) (by decide) dX7_standing_42
      · refine z_fin (fun e9 => ?_)
        subst e9
        exact hnew 0 0 25 _ 3 342 344 346 "no such street any more" 10 7 rfl dX7_standing_25 dX7_standing_28 (Or.inr ⟨dX7_standing_29, rfl⟩) dX7_standing_32 rfl dX7_standing_35 (zin (zt2 207 (by decide +kernel)) rfl) (zin (zt1 14 (by decide +kernel)) rfl) rfl (zt2 216 (by decide +kernel)) thr_346 (by decide) (by decide) (by decide) ⟨by decide, by decide⟩ ⟨by decide, by decide⟩
def X7_clashes (hp : zH) (a0 : Option Nat) (a1 : Int) : Option ((Int ⊕ Nat) × zH) :=
  ((zobj hp a0 8).bind fun _ => X7_standing hp a0 a1).bind fun x1 =>
  match x1 with
  | Sum.inl v2 =>
    (zgI hp v2 7 3).bind fun v4 =>
    ((zobj hp a0 8).bind fun _ => X7_openLedger hp a0 v2 v4).bind fun x5 =>
    (zgR x5 a0 8 3).bind fun v6 =>
    ((zobj x5 v6 3).bind fun _ => X1_pairsAgainstOrder x5 v6).bind fun x7 =>
    some (Sum.inl x7, x5)
  | Sum.inr k3 =>
    some (Sum.inr k3, hp)
set_option maxRecDepth 20000 in
theorem c_X7_clashes (hp : zH) (a0 : Option Nat) (a1 : Int) : ∀ r, X7_clashes hp a0 a1 = some r → zXi yX7_clashes (Cond.code yX7_clashes cX7_clashes 3 (some .int) :: zALL) { frames := 7, cells := 1, slots := 6, locals := 103 } 1 6 [zR a0, zI a1] hp r.1 r.2 := by
  refine zXi_of (own := RX7) (cc := cX7_clashes) (maxL := 3) (ε := ((Int ⊕ Nat) × zH)) (res := fun r => r.1) (hp2 := fun r => r.2) (by decide) rfl (Or.inl rfl) (by exact Nat.le_of_ble_eq_true rfl) ?_
  intro K r0 X hnL hret hthr hnew
  have hN : ∀ i, i < 3 → i < K.2.2.2.2.2.2.2.2.2.2.2.2.2.2.1 := by rw [hnL]; exact fun _ h => h
  show zS _ _ (zJ K 0 0 0 [(0, zR a0), (1, zI a1)] [] hp)
  unfold X7_clashes
  refine z_aload_n (pc := 0) (i := 0) 0 X dX7_clashes_0 rfl rfl ?_
  refine z_iload_n (pc := 1) (i := 1) 1 X dX7_clashes_1 rfl rfl ?_
  refine z_callXV_q (pc := 2) (cells := 0) (slots := 0) (C := RX7) (T := TX7) (N := 9) (ci := 8) [zI a1] X dX7_clashes_2 (c_X7_standing hp a0 a1) kw_X7_78 rfl rfl ⟨rfl, rfl, ⟨by decide, by decide⟩, ⟨by decide, by decide⟩⟩ (Nat.le_of_ble_eq_true rfl) rfl (fun x1 v2 hz9 => ?_) (fun x1 k3 hz9 => ?_)
  · have hz9 : x1 = Sum.inl v2 := hz9
    subst hz9
    refine z_astore_n (pc := 5) (i := 2) (lv' := [(2, zR v2), (0, zR a0), (1, zI a1)]) X dX7_clashes_5 rfl (hN _ (by decide)) rfl ?_
    refine z_aload_n (pc := 6) (i := 0) 1 X dX7_clashes_6 rfl rfl ?_
    refine z_aload_n (pc := 7) (i := 2) 0 X dX7_clashes_7 rfl rfl ?_
    refine z_aload_n (pc := 8) (i := 2) 0 X dX7_clashes_8 rfl rfl ?_
    refine z_getI (pc := 9) (C := RX6) (T := TX6) (N := 8) (ci := 7) 3 X dX7_clashes_9 inz_X6 rfl (by decide) fw_X7_136 (fun v4 => ?_)
    refine z_callV_v (pc := 12) (cells := 1) (slots := 6) (C := RX7) (T := TX7) (N := 9) (ci := 8) [zR v2, zI v4] X dX7_clashes_12 (c_X7_openLedger hp a0 v2 v4) kw_X7_163 rfl rfl ⟨rfl, rfl, ⟨by decide, by decide⟩, ⟨by decide, by decide⟩⟩ (Nat.le_of_ble_eq_true rfl) rfl (fun x5 => ?_)
    refine z_aload_n (pc := 15) (i := 0) 1 X dX7_clashes_15 rfl rfl ?_
    refine z_getR (pc := 16) (C := RX7) (T := TX7) (N := 9) (ci := 8) 3 X dX7_clashes_16 inz_X7 rfl (by decide) fw_X7_31 (fun v6 => ?_)
    refine z_callV_i (pc := 19) (cells := 1) (slots := 6) (C := RX1) (T := TX1) (N := 7) (ci := 3) [] X dX7_clashes_19 (c_X1_pairsAgainstOrder x5 v6) kw_X7_314 rfl rfl ⟨rfl, rfl, ⟨by decide, by decide⟩, ⟨by decide, by decide⟩⟩ (Nat.le_of_ble_eq_true rfl) rfl (fun x7 => ?_)
    refine z_fin (fun e9 => ?_)
    subst e9
    exact hret _ _ _ _ _ rfl (by decide) (by decide) dX7_clashes_22 trivial
  · have hz9 : x1 = Sum.inr k3 := hz9
    subst hz9
    refine z_fin (fun e9 => ?_)
    subst e9
    exact hthr _ _ _ _ _ rfl (by decide) (by decide)
def X7_isPlace (hp : zH) (a0 : Option Nat) (a1 : Int) (a2 : Int) : Option Int :=
  if a1 < 0 then
    some 0
  else
    (zgI hp a0 7 3).bind fun v1 =>
    if v1 < a1 then
      some 0
    else
      if a2 = 108 then
        some 1
      else
        if a2 = 114 then
          some 1
        else
          some 0
set_option maxRecDepth 20000 in
theorem c_X7_isPlace (hp : zH) (a0 : Option Nat) (a1 : Int) (a2 : Int) : ∀ r, X7_isPlace hp a0 a1 a2 = some r → zMi yX7_isPlace (Cond.code yX7_isPlace cX7_isPlace 3 (some .boolean) :: zALL) { frames := 0, cells := 0, slots := 0, locals := 0 } 0 0 [zR a0, zI a1, zI a2] hp r hp := by
  refine zMi_of (own := RX7) (cc := cX7_isPlace) (maxL := 3) (res := fun r => r) (hp2 := fun _ => hp) (by decide) rfl (Or.inr (Or.inl rfl)) (by exact Nat.le_of_ble_eq_true rfl) ?_
  intro K r0 X hnL hret
  have hN : ∀ i, i < 3 → i < K.2.2.2.2.2.2.2.2.2.2.2.2.2.2.1 := by rw [hnL]; exact fun _ h => h
  show zS _ _ (zJ K 0 0 0 [(0, zR a0), (1, zI a1), (2, zI a2)] [] hp)
  unfold X7_isPlace
  refine z_iload_n (pc := 0) (i := 1) 1 X dX7_isPlace_0 rfl rfl ?_
  refine z_if_lt (pc := 1) 28 X dX7_isPlace_1 (by decide) (fun _ => ?_) (fun _ => ?_)
  · refine z_iconst (pc := 28) (z := 0) X dX7_isPlace_28 rfl ⟨by decide, by decide⟩ ?_
    refine z_fin (fun e9 => ?_)
    subst e9
    exact hret _ _ _ _ (by decide) (by decide) dX7_isPlace_29 (Or.inl rfl)
  · refine z_iload_n (pc := 4) (i := 1) 1 X dX7_isPlace_4 rfl rfl ?_
    refine z_aload_n (pc := 5) (i := 0) 0 X dX7_isPlace_5 rfl rfl ?_
    refine z_getI (pc := 6) (C := RX6) (T := TX6) (N := 8) (ci := 7) 3 X dX7_isPlace_6 inz_X6 rfl (by decide) fw_X7_136 (fun v1 => ?_)
    refine z_icmp_gt (pc := 9) 28 X dX7_isPlace_9 (by decide) (fun _ => ?_) (fun _ => ?_)
    · refine z_iconst (pc := 28) (z := 0) X dX7_isPlace_28 rfl ⟨by decide, by decide⟩ ?_
      refine z_fin (fun e9 => ?_)
      subst e9
      exact hret _ _ _ _ (by decide) (by decide) dX7_isPlace_29 (Or.inl rfl)
    · refine z_iload_n (pc := 12) (i := 2) 2 X dX7_isPlace_12 rfl rfl ?_
      refine z_bipush (pc := 13) (z := 108) X dX7_isPlace_13 rfl ⟨by decide, by decide⟩ ?_
      refine z_icmp_eq (pc := 15) 24 X dX7_isPlace_15 (by decide) (fun _ => ?_) (fun _ => ?_)
      · refine z_iconst (pc := 24) (z := 1) X dX7_isPlace_24 rfl ⟨by decide, by decide⟩ ?_
        refine z_goto (pc := 25) 29 X dX7_isPlace_25 (by decide) ?_
        refine z_fin (fun e9 => ?_)
        subst e9
        exact hret _ _ _ _ (by decide) (by decide) dX7_isPlace_29 (Or.inr rfl)
      · refine z_iload_n (pc := 18) (i := 2) 2 X dX7_isPlace_18 rfl rfl ?_
        refine z_bipush (pc := 19) (z := 114) X dX7_isPlace_19 rfl ⟨by decide, by decide⟩ ?_
        refine z_icmp_ne (pc := 21) 28 X dX7_isPlace_21 (by decide) (fun _ => ?_) (fun _ => ?_)
        · refine z_iconst (pc := 28) (z := 0) X dX7_isPlace_28 rfl ⟨by decide, by decide⟩ ?_
          refine z_fin (fun e9 => ?_)
          subst e9
          exact hret _ _ _ _ (by decide) (by decide) dX7_isPlace_29 (Or.inl rfl)
        · refine z_iconst (pc := 24) (z := 1) X dX7_isPlace_24 rfl ⟨by decide, by decide⟩ ?_
          refine z_goto (pc := 25) 29 X dX7_isPlace_25 (by decide) ?_
          refine z_fin (fun e9 => ?_)
          subst e9
          exact hret _ _ _ _ (by decide) (by decide) dX7_isPlace_29 (Or.inr rfl)
def X7_corner (hp : zH) (a0 : Option Nat) (a1 : Int) (a2 : Int) (a3 : Int) (a4 : Int) : Option ((Int ⊕ Nat) × zH) :=
  ((zobj hp a0 8).bind fun _ => X7_known hp a0 a1).bind fun x1 =>
  match x1 with
  | Sum.inl v2 =>
    ((zobj hp a0 8).bind fun _ => X7_standing hp a0 a2).bind fun x4 =>
    match x4 with
    | Sum.inl v5 =>
      (X7_isPlace hp v5 a3 a4).bind fun x7 =>
      if x7 = 0 then
        some (Sum.inr 0, hp)
      else
        (zgI hp v2 2 3).bind fun v8 =>
        if v8 = 0 then
          (zgR hp v2 2 2).bind fun v9 =>
          if v9 = none then
            ((zobj hp v2 2).bind fun _ => X0_placeOn hp v2 v5).bind fun x10 =>
            if x10 = none then
              ((zobj hp a0 8).bind fun _ => X7_arrival hp a0 a1 v5 a3 a4).bind fun x11 =>
              if x11.1 = none then
                some (Sum.inr 2, x11.2)
              else
                (zpR x11.2 v2 2 2 x11.1).bind fun h12 =>
                (zgI h12 x11.1 6 4).bind fun v13 =>
                ((zobj h12 v5 7).bind fun _ => X6_notice h12 v5 v13).bind fun x14 =>
                (zgI x14 x11.1 6 4).bind fun v15 =>
                some (Sum.inl v15, x14)
            else
              some (Sum.inr 2, hp)
          else
            some (Sum.inr 2, hp)
        else
          some (Sum.inr 2, hp)
    | Sum.inr k6 =>
      some (Sum.inr k6, hp)
  | Sum.inr k3 =>
    some (Sum.inr k3, hp)
set_option maxRecDepth 20000 in
theorem c_X7_corner (hp : zH) (a0 : Option Nat) (a1 : Int) (a2 : Int) (a3 : Int) (a4 : Int) : ∀ r, X7_corner hp a0 a1 a2 a3 a4 = some r → zXi yX7_corner (Cond.code yX7_corner cX7_corner 8 (some .int) :: zALL) { frames := 7, cells := 4, slots := 23, locals := 126 } 4 23 [zR a0, zI a1, zI a2, zI a3, zI a4] hp r.1 r.2 := by
  refine zXi_of (own := RX7) (cc := cX7_corner) (maxL := 8) (ε := ((Int ⊕ Nat) × zH)) (res := fun r => r.1) (hp2 := fun r => r.2) (by decide) rfl (Or.inl rfl) (by exact Nat.le_of_ble_eq_true rfl) ?_
  intro K r0 X hnL hret hthr hnew
  have hN : ∀ i, i < 8 → i < K.2.2.2.2.2.2.2.2.2.2.2.2.2.2.1 := by rw [hnL]; exact fun _ h => h
  show zS _ _ (zJ K 0 0 0 [(0, zR a0), (1, zI a1), (2, zI a2), (3, zI a3), (4, zI a4)] [] hp)
  unfold X7_corner
  refine z_aload_n (pc := 0) (i := 0) 0 X dX7_corner_0 rfl rfl ?_
  refine z_iload_n (pc := 1) (i := 1) 1 X dX7_corner_1 rfl rfl ?_
  refine z_callXV_q (pc := 2) (cells := 0) (slots := 0) (C := RX7) (T := TX7) (N := 9) (ci := 8) [zI a1] X dX7_corner_2 (c_X7_known hp a0 a1) kw_X7_209 rfl rfl ⟨rfl, rfl, ⟨by decide, by decide⟩, ⟨by decide, by decide⟩⟩ (Nat.le_of_ble_eq_true rfl) rfl (fun x1 v2 hz9 => ?_) (fun x1 k3 hz9 => ?_)
  · have hz9 : x1 = Sum.inl v2 := hz9
    subst hz9
    refine z_astore (pc := 5) (i := 5) (lv' := [(5, zR v2), (0, zR a0), (1, zI a1), (2, zI a2), (3, zI a3), (4, zI a4)]) X dX7_corner_5 (hN _ (by decide)) rfl ?_
    refine z_aload_n (pc := 7) (i := 0) 1 X dX7_corner_7 rfl rfl ?_
    refine z_iload_n (pc := 8) (i := 2) 3 X dX7_corner_8 rfl rfl ?_
    refine z_callXV_q (pc := 9) (cells := 1) (slots := 6) (C := RX7) (T := TX7) (N := 9) (ci := 8) [zI a2] X dX7_corner_9 (c_X7_standing hp a0 a2) kw_X7_78 rfl rfl ⟨rfl, rfl, ⟨by decide, by decide⟩, ⟨by decide, by decide⟩⟩ (Nat.le_of_ble_eq_true rfl) rfl (fun x4 v5 hz9 => ?_) (fun x4 k6 hz9 => ?_)
    · have hz9 : x4 = Sum.inl v5 := hz9
      subst hz9
      refine z_astore (pc := 12) (i := 6) (lv' := [(6, zR v5), (5, zR v2), (0, zR a0), (1, zI a1), (2, zI a2), (3, zI a3), (4, zI a4)]) X dX7_corner_12 (hN _ (by decide)) rfl ?_
      refine z_aload (pc := 14) (i := 6) 0 X dX7_corner_14 rfl ?_
      refine z_iload_n (pc := 16) (i := 3) 5 X dX7_corner_16 rfl rfl ?_
      refine z_iload (pc := 17) (i := 4) 6 X dX7_corner_17 rfl ?_
      refine z_callS_i (pc := 19) (cells := 2) (slots := 12) [zR v5, zI a3, zI a4] X dX7_corner_19 (c_X7_isPlace hp v5 a3 a4) kw_X7_183 rfl ⟨rfl, rfl, ⟨by decide, by decide⟩, ⟨by decide, by decide⟩⟩ (Nat.le_of_ble_eq_true rfl) rfl (fun x7 => ?_)
      refine z_if_ne (pc := 22) 35 X dX7_corner_22 (by decide) (fun _ => ?_) (fun _ => ?_)
      · refine z_aload (pc := 35) (i := 5) 1 X dX7_corner_35 rfl ?_
        refine z_getI (pc := 37) (C := RX0) (T := TX0) (N := 5) (ci := 2) 3 X dX7_corner_37 inz_X0 rfl (by decide) fw_X7_213 (fun v8 => ?_)
        refine z_if_ne (pc := 40) 61 X dX7_corner_40 (by decide) (fun _ => ?_) (fun _ => ?_)
        · refine z_fin (fun e9 => ?_)
          subst e9
          exact hnew 2 12 61 _ 2 86 222 90 "no corner can be made of the door" 9 6 rfl dX7_corner_61 dX7_corner_64 (Or.inl ⟨dX7_corner_65, rfl⟩) dX7_corner_67 rfl dX7_corner_70 (zin (zt2 115 (by decide +kernel)) rfl) (zin (zt1 12 (by decide +kernel)) rfl) rfl (zt3 172 (by decide +kernel)) thr_90 (by decide) (by decide) (by decide) ⟨by decide, by decide⟩ ⟨by decide, by decide⟩
        · refine z_aload (pc := 43) (i := 5) 1 X dX7_corner_43 rfl ?_
          refine z_getR (pc := 45) (C := RX0) (T := TX0) (N := 5) (ci := 2) 2 X dX7_corner_45 inz_X0 rfl (by decide) fw_X7_214 (fun v9 => ?_)
          refine z_ifnonnull (pc := 48) 61 X dX7_corner_48 (by decide) (fun _ => ?_) (fun _ => ?_)
          · refine z_fin (fun e9 => ?_)
            subst e9
            exact hnew 2 12 61 _ 2 86 222 90 "no corner can be made of the door" 9 6 rfl dX7_corner_61 dX7_corner_64 (Or.inl ⟨dX7_corner_65, rfl⟩) dX7_corner_67 rfl dX7_corner_70 (zin (zt2 115 (by decide +kernel)) rfl) (zin (zt1 12 (by decide +kernel)) rfl) rfl (zt3 172 (by decide +kernel)) thr_90 (by decide) (by decide) (by decide) ⟨by decide, by decide⟩ ⟨by decide, by decide⟩
          · refine z_aload (pc := 51) (i := 5) 1 X dX7_corner_51 rfl ?_
            refine z_aload (pc := 53) (i := 6) 0 X dX7_corner_53 rfl ?_
            refine z_callV_q (pc := 55) (cells := 2) (slots := 12) (C := RX0) (T := TX0) (N := 5) (ci := 2) [zR v5] X dX7_corner_55 (c_X0_placeOn hp v2 v5) kw_X7_218 rfl rfl ⟨rfl, rfl, ⟨by decide, by decide⟩, ⟨by decide, by decide⟩⟩ (Nat.le_of_ble_eq_true rfl) rfl (fun x10 => ?_)
            refine z_ifnull (pc := 58) 71 X dX7_corner_58 (by decide) (fun _ => ?_) (fun _ => ?_)
            · refine z_aload_n (pc := 71) (i := 0) 2 X dX7_corner_71 rfl rfl ?_
              refine z_iload_n (pc := 72) (i := 1) 3 X dX7_corner_72 rfl rfl ?_
              refine z_aload (pc := 73) (i := 6) 0 X dX7_corner_73 rfl ?_
              refine z_iload_n (pc := 75) (i := 3) 5 X dX7_corner_75 rfl rfl ?_
              refine z_iload (pc := 76) (i := 4) 6 X dX7_corner_76 rfl ?_
              refine z_callV_q (pc := 78) (cells := 2) (slots := 12) (C := RX7) (T := TX7) (N := 9) (ci := 8) [zI a1, zR v5, zI a3, zI a4] X dX7_corner_78 (c_X7_arrival hp a0 a1 v5 a3 a4) kw_X7_189 rfl rfl ⟨rfl, rfl, ⟨by decide, by decide⟩, ⟨by decide, by decide⟩⟩ (Nat.le_of_ble_eq_true rfl) rfl (fun x11 => ?_)
              refine z_astore (pc := 81) (i := 7) (lv' := [(7, zR x11.1), (6, zR v5), (5, zR v2), (0, zR a0), (1, zI a1), (2, zI a2), (3, zI a3), (4, zI a4)]) X dX7_corner_81 (hN _ (by decide)) rfl ?_
              refine z_aload (pc := 83) (i := 7) 0 X dX7_corner_83 rfl ?_
              refine z_ifnonnull (pc := 85) 98 X dX7_corner_85 (by decide) (fun _ => ?_) (fun _ => ?_)
              · refine z_aload (pc := 98) (i := 5) 2 X dX7_corner_98 rfl ?_
                refine z_aload (pc := 100) (i := 7) 0 X dX7_corner_100 rfl ?_
                refine z_putR (pc := 102) (C := RX0) (T := TX0) (N := 5) (ci := 2) 2 X dX7_corner_102 inz_X0 tyX0_ok nmX0 rfl (by decide) fw_X7_214 rfl ⟨_, Or.inl rfl⟩ (fun h12 => ?_)
                refine z_aload (pc := 105) (i := 6) 1 X dX7_corner_105 rfl ?_
                refine z_aload (pc := 107) (i := 7) 0 X dX7_corner_107 rfl ?_
                refine z_getI (pc := 109) (C := RX5) (T := TX5) (N := 5) (ci := 6) 4 X dX7_corner_109 inz_X5 rfl (by decide) fw_X7_200 (fun v13 => ?_)
                refine z_callV_v (pc := 112) (cells := 3) (slots := 17) (C := RX6) (T := TX6) (N := 8) (ci := 7) [zI v13] X dX7_corner_112 (c_X6_notice h12 v5 v13) kw_X7_205 rfl rfl ⟨rfl, rfl, ⟨by decide, by decide⟩, ⟨by decide, by decide⟩⟩ (Nat.le_of_ble_eq_true rfl) rfl (fun x14 => ?_)
                refine z_aload (pc := 115) (i := 7) 0 X dX7_corner_115 rfl ?_
                refine z_getI (pc := 117) (C := RX5) (T := TX5) (N := 5) (ci := 6) 4 X dX7_corner_117 inz_X5 rfl (by decide) fw_X7_200 (fun v15 => ?_)
                refine z_fin (fun e9 => ?_)
                subst e9
                exact hret _ _ _ _ _ rfl (by decide) (by decide) dX7_corner_120 trivial
              · refine z_fin (fun e9 => ?_)
                subst e9
                exact hnew 3 17 88 _ 2 86 193 90 "the door cannot come" 9 6 rfl dX7_corner_88 dX7_corner_91 (Or.inl ⟨dX7_corner_92, rfl⟩) dX7_corner_94 rfl dX7_corner_97 (zin (zt2 115 (by decide +kernel)) rfl) (zin (zt1 12 (by decide +kernel)) rfl) rfl (zt3 123 (by decide +kernel)) thr_90 (by decide) (by decide) (by decide) ⟨by decide, by decide⟩ ⟨by decide, by decide⟩
            · refine z_fin (fun e9 => ?_)
              subst e9
              exact hnew 2 12 61 _ 2 86 222 90 "no corner can be made of the door" 9 6 rfl dX7_corner_61 dX7_corner_64 (Or.inl ⟨dX7_corner_65, rfl⟩) dX7_corner_67 rfl dX7_corner_70 (zin (zt2 115 (by decide +kernel)) rfl) (zin (zt1 12 (by decide +kernel)) rfl) rfl (zt3 172 (by decide +kernel)) thr_90 (by decide) (by decide) (by decide) ⟨by decide, by decide⟩ ⟨by decide, by decide⟩
      · refine z_fin (fun e9 => ?_)
        subst e9
        exact hnew 2 12 25 _ 0 58 187 62 "no such metre or side" 9 6 rfl dX7_corner_25 dX7_corner_28 (Or.inl ⟨dX7_corner_29, rfl⟩) dX7_corner_31 rfl dX7_corner_34 (zin (zt2 8 (by decide +kernel)) rfl) (zin (zt1 9 (by decide +kernel)) rfl) rfl (zt3 52 (by decide +kernel)) thr_62 (by decide) (by decide) (by decide) ⟨by decide, by decide⟩ ⟨by decide, by decide⟩
    · have hz9 : x4 = Sum.inr k6 := hz9
      subst hz9
      refine z_fin (fun e9 => ?_)
      subst e9
      exact hthr _ _ _ _ _ rfl (by decide) (by decide)
  · have hz9 : x1 = Sum.inr k3 := hz9
    subst hz9
    refine z_fin (fun e9 => ?_)
    subst e9
    exact hthr _ _ _ _ _ rfl (by decide) (by decide)
