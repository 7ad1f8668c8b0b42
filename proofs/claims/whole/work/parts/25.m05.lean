/-! methods, as functions over the pure heap, and their contracts (by program) -/
def X7_streetOf_j21 (hp : zH) (j4 : Option Nat) : Option (Int ⊕ Nat) :=
  if j4 = none then
    some (Sum.inr 4)
  else
    (zgR hp j4 6 1).bind fun v5 =>
    if v5 = none then
      some (Sum.inr 4)
    else
      (zgR hp j4 6 1).bind fun v6 =>
      (zgI hp v6 7 0).bind fun v7 =>
      some (Sum.inl v7)
def X7_streetOf (hp : zH) (a0 : Option Nat) (a1 : Int) (a2 : Int) : Option (Int ⊕ Nat) :=
  ((zobj hp a0 8).bind fun _ => X7_known hp a0 a1).bind fun x1 =>
  match x1 with
  | Sum.inl v2 =>
    if a2 = 0 then
      (zgR hp v2 2 1).bind fun v8 =>
      X7_streetOf_j21 hp v8
    else
      (zgR hp v2 2 2).bind fun v9 =>
      X7_streetOf_j21 hp v9
  | Sum.inr k3 =>
    some (Sum.inr k3)
set_option maxRecDepth 20000 in
theorem c_X7_streetOf (hp : zH) (a0 : Option Nat) (a1 : Int) (a2 : Int) : ∀ r, X7_streetOf hp a0 a1 a2 = some r → zXi yX7_streetOf (Cond.code yX7_streetOf cX7_streetOf 5 (some .int) :: zALL) { frames := 7, cells := 2, slots := 12, locals := 104 } 2 12 [zR a0, zI a1, zI a2] hp r hp := by
  refine zXi_of (own := RX7) (cc := cX7_streetOf) (maxL := 5) (res := fun r => r) (hp2 := fun _ => hp) (by decide) rfl (Or.inl rfl) (by exact Nat.le_of_ble_eq_true rfl) ?_
  intro K r0 X hnL hret hthr hnew
  have hN : ∀ i, i < 5 → i < K.2.2.2.2.2.2.2.2.2.2.2.2.2.2.1 := by rw [hnL]; exact fun _ h => h
  show zS _ _ (zJ K 0 0 0 [(0, zR a0), (1, zI a1), (2, zI a2)] [] hp)
  unfold X7_streetOf
  refine z_aload_n (pc := 0) (i := 0) 0 X dX7_streetOf_0 rfl rfl ?_
  refine z_iload_n (pc := 1) (i := 1) 1 X dX7_streetOf_1 rfl rfl ?_
  refine z_callXV_q (pc := 2) (cells := 0) (slots := 0) (C := RX7) (T := TX7) (N := 9) (ci := 8) [zI a1] X dX7_streetOf_2 (c_X7_known hp a0 a1) kw_X7_209 rfl rfl ⟨rfl, rfl, ⟨by decide, by decide⟩, ⟨by decide, by decide⟩⟩ (Nat.le_of_ble_eq_true rfl) rfl (fun x1 v2 hz9 => ?_) (fun x1 k3 hz9 => ?_)
  · have hz9 : x1 = Sum.inl v2 := hz9
    subst hz9
    refine z_astore_n (pc := 5) (i := 3) (lv' := [(3, zR v2), (0, zR a0), (1, zI a1), (2, zI a2)]) X dX7_streetOf_5 rfl (hN _ (by decide)) rfl ?_
    refine z_iload_n (pc := 6) (i := 2) 3 X dX7_streetOf_6 rfl rfl ?_
    have hJ21 : ∀ (j4 : Option Nat), zS (X7_streetOf_j21 hp j4) (fun r => r = r0) (zJ K 1 6 21 [] [zR j4] hp) := by
      intro j4
      unfold X7_streetOf_j21
      refine z_astore (pc := 21) (i := 4) (lv' := [(4, zR j4)]) X dX7_streetOf_21 (hN _ (by decide)) rfl ?_
      refine z_aload (pc := 23) (i := 4) 0 X dX7_streetOf_23 rfl ?_
      refine z_ifnull (pc := 25) 36 X dX7_streetOf_25 (by decide) (fun _ => ?_) (fun _ => ?_)
      · refine z_fin (fun e9 => ?_)
        subst e9
        exact hnew 1 6 36 _ 4 106 251 110 "no such street" 9 6 rfl dX7_streetOf_36 dX7_streetOf_39 (Or.inl ⟨dX7_streetOf_40, rfl⟩) dX7_streetOf_42 rfl dX7_streetOf_45 (zin (zt3 14 (by decide +kernel)) rfl) (zin (zt1 18 (by decide +kernel)) rfl) rfl (zt4 49 (by decide +kernel)) thr_110 (by decide) (by decide) (by decide) ⟨by decide, by decide⟩ ⟨by decide, by decide⟩
      · refine z_aload (pc := 28) (i := 4) 0 X dX7_streetOf_28 rfl ?_
        refine z_getR (pc := 30) (C := RX5) (T := TX5) (N := 5) (ci := 6) 1 X dX7_streetOf_30 inz_X5 rfl (by decide) fw_X7_247 (fun v5 => ?_)
        refine z_ifnonnull (pc := 33) 46 X dX7_streetOf_33 (by decide) (fun _ => ?_) (fun _ => ?_)
        · refine z_aload (pc := 46) (i := 4) 0 X dX7_streetOf_46 rfl ?_
          refine z_getR (pc := 48) (C := RX5) (T := TX5) (N := 5) (ci := 6) 1 X dX7_streetOf_48 inz_X5 rfl (by decide) fw_X7_247 (fun v6 => ?_)
          refine z_getI (pc := 51) (C := RX6) (T := TX6) (N := 8) (ci := 7) 0 X dX7_streetOf_51 inz_X6 rfl (by decide) fw_X7_253 (fun v7 => ?_)
          refine z_fin (fun e9 => ?_)
          subst e9
          exact hret _ _ _ _ _ rfl (by decide) (by decide) dX7_streetOf_54 trivial
        · refine z_fin (fun e9 => ?_)
          subst e9
          exact hnew 1 6 36 _ 4 106 251 110 "no such street" 9 6 rfl dX7_streetOf_36 dX7_streetOf_39 (Or.inl ⟨dX7_streetOf_40, rfl⟩) dX7_streetOf_42 rfl dX7_streetOf_45 (zin (zt3 14 (by decide +kernel)) rfl) (zin (zt1 18 (by decide +kernel)) rfl) rfl (zt4 49 (by decide +kernel)) thr_110 (by decide) (by decide) (by decide) ⟨by decide, by decide⟩ ⟨by decide, by decide⟩
    refine z_if_eq (pc := 7) 17 X dX7_streetOf_7 (by decide) (fun _ => ?_) (fun _ => ?_)
    · refine z_aload_n (pc := 17) (i := 3) 0 X dX7_streetOf_17 rfl rfl ?_
      refine z_getR (pc := 18) (C := RX0) (T := TX0) (N := 5) (ci := 2) 1 X dX7_streetOf_18 inz_X0 rfl (by decide) fw_X7_242 (fun v8 => ?_)
      refine z_pick [] (lv' := []) rfl ?_
      exact hJ21 v8
    · refine z_aload_n (pc := 10) (i := 3) 0 X dX7_streetOf_10 rfl rfl ?_
      refine z_getR (pc := 11) (C := RX0) (T := TX0) (N := 5) (ci := 2) 2 X dX7_streetOf_11 inz_X0 rfl (by decide) fw_X7_214 (fun v9 => ?_)
      refine z_goto (pc := 14) 21 X dX7_streetOf_14 (by decide) ?_
      refine z_pick [] (lv' := []) rfl ?_
      exact hJ21 v9
  · have hz9 : x1 = Sum.inr k3 := hz9
    subst hz9
    refine z_fin (fun e9 => ?_)
    subst e9
    exact hthr _ _ _ _ _ rfl (by decide) (by decide)
def X7_streets_b13 (p3 : Option Nat) (p4 : Int) (h6 : zH) (s5 : Int × Int) : Option ((Int × Int) ⊕ (Int)) :=
  if p4 ≤ s5.2 then
    some (Sum.inr (s5.1))
  else
    (zaR h6 5 p3 s5.2).bind fun v8 =>
    (X7_isStanding h6 v8).bind fun x9 =>
    if x9 = 0 then
      (zchk (s5.2 + 1)).bind fun v10 =>
      some (Sum.inl (s5.1, v10))
    else
      (zchk (s5.1 + 1)).bind fun v11 =>
      (zchk (s5.2 + 1)).bind fun v12 =>
      some (Sum.inl (v11, v12))
def X7_streets (hp : zH) (a0 : Option Nat) : Option Int :=
  (zgR hp a0 8 0).bind fun v1 =>
  (zlen hp v1).bind fun v2 =>
  (zloop (X7_streets_b13 v1 v2 hp) zN (0, 0)).bind fun e7 =>
  some e7
set_option maxRecDepth 20000 in
theorem c_X7_streets (hp : zH) (a0 : Option Nat) : ∀ r, X7_streets hp a0 = some r → zMi yX7_streets (Cond.code yX7_streets cX7_streets 6 (some .int) :: zALL) { frames := 1, cells := 0, slots := 0, locals := 20 } 0 0 [zR a0] hp r hp := by
  refine zMi_of (own := RX7) (cc := cX7_streets) (maxL := 6) (res := fun r => r) (hp2 := fun _ => hp) (by decide) rfl (Or.inl rfl) (by exact Nat.le_of_ble_eq_true rfl) ?_
  intro K r0 X hnL hret
  have hN : ∀ i, i < 6 → i < K.2.2.2.2.2.2.2.2.2.2.2.2.2.2.1 := by rw [hnL]; exact fun _ h => h
  show zS _ _ (zJ K 0 0 0 [(0, zR a0)] [] hp)
  unfold X7_streets
  refine z_iconst (pc := 0) (z := 0) X dX7_streets_0 rfl ⟨by decide, by decide⟩ ?_
  refine z_istore_n (pc := 1) (i := 1) (lv' := [(1, zI 0), (0, zR a0)]) X dX7_streets_1 rfl (hN _ (by decide)) rfl ?_
  refine z_aload_n (pc := 2) (i := 0) 1 X dX7_streets_2 rfl rfl ?_
  refine z_getR (pc := 3) (C := RX7) (T := TX7) (N := 9) (ci := 8) 0 X dX7_streets_3 inz_X7 rfl (by decide) fw_X7_11 (fun v1 => ?_)
  refine z_astore_n (pc := 6) (i := 2) (lv' := [(2, zR v1), (1, zI 0), (0, zR a0)]) X dX7_streets_6 rfl (hN _ (by decide)) rfl ?_
  refine z_aload_n (pc := 7) (i := 2) 0 X dX7_streets_7 rfl rfl ?_
  refine z_alen (pc := 8) X dX7_streets_8 (fun v2 => ?_)
  refine z_istore_n (pc := 9) (i := 3) (lv' := [(3, zI v2), (2, zR v1), (1, zI 0), (0, zR a0)]) X dX7_streets_9 rfl (hN _ (by decide)) rfl ?_
  refine z_iconst (pc := 10) (z := 0) X dX7_streets_10 rfl ⟨by decide, by decide⟩ ?_
  refine z_istore (pc := 11) (i := 4) (lv' := [(4, zI 0), (3, zI v2), (2, zR v1), (1, zI 0), (0, zR a0)]) X dX7_streets_11 (hN _ (by decide)) rfl ?_
  refine z_pick [3, 2, 1, 0] (lv' := [(1, zI 0), (2, zR v1), (3, zI v2), (4, zI 0)]) rfl ?_
  refine z_bind (z_loop (body := X7_streets_b13 v1 v2 hp) (fun s5 : Int × Int => zJ K 0 0 13 [(1, zI s5.1), (2, zR v1), (3, zI v2), (4, zI s5.2)] [] hp) (fun e7 : Int => zJ K 0 0 42 [(1, zI e7)] [] hp) (fun s5 => ?_) zN (0, 0)) (fun e7 => ?_)
  · unfold X7_streets_b13
    refine z_iload (pc := 13) (i := 4) 3 X dX7_streets_13 rfl ?_
    refine z_iload_n (pc := 15) (i := 3) 2 X dX7_streets_15 rfl rfl ?_
    refine z_icmp_ge (pc := 16) 42 X dX7_streets_16 (by decide) (fun _ => ?_) (fun _ => ?_)
    · refine z_pick [0] (lv' := [(1, zI s5.1)]) rfl ?_
      exact z_exit
    · refine z_aload_n (pc := 19) (i := 2) 1 X dX7_streets_19 rfl rfl ?_
      refine z_iload (pc := 20) (i := 4) 3 X dX7_streets_20 rfl ?_
      refine z_aaload5 (pc := 22) X dX7_streets_22 (fun v8 => ?_)
      refine z_astore (pc := 23) (i := 5) (lv' := [(5, zR v8), (1, zI s5.1), (2, zR v1), (3, zI v2), (4, zI s5.2)]) X dX7_streets_23 (hN _ (by decide)) rfl ?_
      refine z_aload (pc := 25) (i := 5) 0 X dX7_streets_25 rfl ?_
      refine z_callS_i (pc := 27) (cells := 0) (slots := 0) [zR v8] X dX7_streets_27 (c_X7_isStanding hp v8) kw_X7_179 rfl ⟨rfl, rfl, ⟨by decide, by decide⟩, ⟨by decide, by decide⟩⟩ (Nat.le_of_ble_eq_true rfl) rfl (fun x9 => ?_)
      refine z_if_eq (pc := 30) 36 X dX7_streets_30 (by decide) (fun _ => ?_) (fun _ => ?_)
      · refine z_iinc (pc := 36) (i := 4) (n := 1) (lv' := fun v10 => [(4, zI v10), (5, zR v8), (1, zI s5.1), (2, zR v1), (3, zI v2)]) 4 X dX7_streets_36 rfl (hN _ (by decide)) (fun _ => rfl) (fun v10 _ _ => ?_)
        refine z_goto (pc := 39) 13 X dX7_streets_39 (by decide) ?_
        refine z_pick [2, 3, 4, 0] (lv' := [(1, zI s5.1), (2, zR v1), (3, zI v2), (4, zI v10)]) rfl ?_
        exact z_back
      · refine z_iinc (pc := 33) (i := 1) (n := 1) (lv' := fun v11 => [(1, zI v11), (5, zR v8), (2, zR v1), (3, zI v2), (4, zI s5.2)]) 1 X dX7_streets_33 rfl (hN _ (by decide)) (fun _ => rfl) (fun v11 _ _ => ?_)
        refine z_iinc (pc := 36) (i := 4) (n := 1) (lv' := fun v12 => [(4, zI v12), (1, zI v11), (5, zR v8), (2, zR v1), (3, zI v2)]) 4 X dX7_streets_36 rfl (hN _ (by decide)) (fun _ => rfl) (fun v12 _ _ => ?_)
        refine z_goto (pc := 39) 13 X dX7_streets_39 (by decide) ?_
        refine z_pick [1, 3, 4, 0] (lv' := [(1, zI v11), (2, zR v1), (3, zI v2), (4, zI v12)]) rfl ?_
        exact z_back
  · refine z_iload_n (pc := 42) (i := 1) 0 X dX7_streets_42 rfl rfl ?_
    refine z_fin (fun e9 => ?_)
    subst e9
    exact hret _ _ _ _ (by decide) (by decide) dX7_streets_43 trivial
def X7_translate (hp : zH) (a0 : Option Nat) (a1 : Int) : Option ((Int ⊕ Nat) × zH) :=
  ((zobj hp a0 8).bind fun _ => X7_standing hp a0 a1).bind fun x1 =>
  match x1 with
  | Sum.inl v2 =>
    (zgJ hp a0 8 7).bind fun v4 =>
    ((zobj hp a0 8).bind fun _ => X7_isInUse hp a0 v4).bind fun x5 =>
    if x5 = 0 then
      (zgJ hp v2 7 2).bind fun v6 =>
      ((zobj hp a0 8).bind fun _ => X7_rememberAll hp a0 v2 v6).bind fun x7 =>
      (zgJ x7 a0 8 7).bind fun v8 =>
      (zpJ x7 v2 7 2 v8).bind fun h9 =>
      (zpJ h9 a0 8 7 0).bind fun h10 =>
      (zgR h10 a0 8 2).bind fun v11 =>
      (zgI h10 v11 4 4).bind fun v12 =>
      some (Sum.inl v12, h10)
    else
      some (Sum.inr 2, hp)
  | Sum.inr k3 =>
    some (Sum.inr k3, hp)
set_option maxRecDepth 20000 in
theorem c_X7_translate (hp : zH) (a0 : Option Nat) (a1 : Int) : ∀ r, X7_translate hp a0 a1 = some r → zXi yX7_translate (Cond.code yX7_translate cX7_translate 3 (some .int) :: zALL) { frames := 7, cells := 2, slots := 12, locals := 103 } 2 12 [zR a0, zI a1] hp r.1 r.2 := by
  refine zXi_of (own := RX7) (cc := cX7_translate) (maxL := 3) (ε := ((Int ⊕ Nat) × zH)) (res := fun r => r.1) (hp2 := fun r => r.2) (by decide) rfl (Or.inl rfl) (by exact Nat.le_of_ble_eq_true rfl) ?_
  intro K r0 X hnL hret hthr hnew
  have hN : ∀ i, i < 3 → i < K.2.2.2.2.2.2.2.2.2.2.2.2.2.2.1 := by rw [hnL]; exact fun _ h => h
  show zS _ _ (zJ K 0 0 0 [(0, zR a0), (1, zI a1)] [] hp)
  unfold X7_translate
  refine z_aload_n (pc := 0) (i := 0) 0 X dX7_translate_0 rfl rfl ?_
  refine z_iload_n (pc := 1) (i := 1) 1 X dX7_translate_1 rfl rfl ?_
  refine z_callXV_q (pc := 2) (cells := 0) (slots := 0) (C := RX7) (T := TX7) (N := 9) (ci := 8) [zI a1] X dX7_translate_2 (c_X7_standing hp a0 a1) kw_X7_78 rfl rfl ⟨rfl, rfl, ⟨by decide, by decide⟩, ⟨by decide, by decide⟩⟩ (Nat.le_of_ble_eq_true rfl) rfl (fun x1 v2 hz9 => ?_) (fun x1 k3 hz9 => ?_)
  · have hz9 : x1 = Sum.inl v2 := hz9
    subst hz9
    refine z_astore_n (pc := 5) (i := 2) (lv' := [(2, zR v2), (0, zR a0), (1, zI a1)]) X dX7_translate_5 rfl (hN _ (by decide)) rfl ?_
    refine z_aload_n (pc := 6) (i := 0) 1 X dX7_translate_6 rfl rfl ?_
    refine z_aload_n (pc := 7) (i := 0) 1 X dX7_translate_7 rfl rfl ?_
    refine z_getJ (pc := 8) (C := RX7) (T := TX7) (N := 9) (ci := 8) 7 X dX7_translate_8 inz_X7 rfl (by decide) fw_X7_51 (fun v4 => ?_)
    refine z_callV_i (pc := 11) (cells := 1) (slots := 6) (C := RX7) (T := TX7) (N := 9) (ci := 8) [zL v4] X dX7_translate_11 (c_X7_isInUse hp a0 v4) kw_X7_82 rfl rfl ⟨rfl, rfl, ⟨by decide, by decide⟩, ⟨by decide, by decide⟩⟩ (Nat.le_of_ble_eq_true rfl) rfl (fun x5 => ?_)
    refine z_if_eq (pc := 14) 27 X dX7_translate_14 (by decide) (fun _ => ?_) (fun _ => ?_)
    · refine z_aload_n (pc := 27) (i := 0) 1 X dX7_translate_27 rfl rfl ?_
      refine z_aload_n (pc := 28) (i := 2) 0 X dX7_translate_28 rfl rfl ?_
      refine z_aload_n (pc := 29) (i := 2) 0 X dX7_translate_29 rfl rfl ?_
      refine z_getJ (pc := 30) (C := RX6) (T := TX6) (N := 8) (ci := 7) 2 X dX7_translate_30 inz_X6 rfl (by decide) fw_X7_103 (fun v6 => ?_)
      refine z_callV_v (pc := 33) (cells := 1) (slots := 6) (C := RX7) (T := TX7) (N := 9) (ci := 8) [zR v2, zL v6] X dX7_translate_33 (c_X7_rememberAll hp a0 v2 v6) kw_X7_94 rfl rfl ⟨rfl, rfl, ⟨by decide, by decide⟩, ⟨by decide, by decide⟩⟩ (Nat.le_of_ble_eq_true rfl) rfl (fun x7 => ?_)
      refine z_aload_n (pc := 36) (i := 2) 0 X dX7_translate_36 rfl rfl ?_
      refine z_aload_n (pc := 37) (i := 0) 1 X dX7_translate_37 rfl rfl ?_
      refine z_getJ (pc := 38) (C := RX7) (T := TX7) (N := 9) (ci := 8) 7 X dX7_translate_38 inz_X7 rfl (by decide) fw_X7_51 (fun v8 => ?_)
      refine z_putJ (pc := 41) (C := RX6) (T := TX6) (N := 8) (ci := 7) 2 X dX7_translate_41 inz_X6 tyX6_ok nmX6 rfl (by decide) fw_X7_103 rfl rfl (fun h9 => ?_)
      refine z_aload_n (pc := 44) (i := 0) 1 X dX7_translate_44 rfl rfl ?_
      refine z_lconst (pc := 45) (z := 0) X dX7_translate_45 rfl ?_
      refine z_putJ (pc := 46) (C := RX7) (T := TX7) (N := 9) (ci := 8) 7 X dX7_translate_46 inz_X7 tyX7_ok nmX7 rfl (by decide) fw_X7_51 rfl rfl (fun h10 => ?_)
      refine z_aload_n (pc := 49) (i := 0) 1 X dX7_translate_49 rfl rfl ?_
      refine z_getR (pc := 50) (C := RX7) (T := TX7) (N := 9) (ci := 8) 2 X dX7_translate_50 inz_X7 rfl (by decide) fw_X7_24 (fun v11 => ?_)
      refine z_getI (pc := 53) (C := RX3) (T := TX3) (N := 6) (ci := 4) 4 X dX7_translate_53 inz_X3 rfl (by decide) fw_X7_98 (fun v12 => ?_)
      refine z_fin (fun e9 => ?_)
      subst e9
      exact hret _ _ _ _ _ rfl (by decide) (by decide) dX7_translate_56 trivial
    · refine z_fin (fun e9 => ?_)
      subst e9
      exact hnew 1 6 17 _ 2 86 101 90 "a name in use" 9 6 rfl dX7_translate_17 dX7_translate_20 (Or.inl ⟨dX7_translate_21, rfl⟩) dX7_translate_23 rfl dX7_translate_26 (zin (zt2 115 (by decide +kernel)) rfl) (zin (zt1 12 (by decide +kernel)) rfl) rfl (zt3 5 (by decide +kernel)) thr_90 (by decide) (by decide) (by decide) ⟨by decide, by decide⟩ ⟨by decide, by decide⟩
  · have hz9 : x1 = Sum.inr k3 := hz9
    subst hz9
    refine z_fin (fun e9 => ?_)
    subst e9
    exact hthr _ _ _ _ _ rfl (by decide) (by decide)
def X7_type (hp : zH) (a0 : Option Nat) (a1 : Int) : Option ((Int ⊕ Nat) × zH) :=
  if a1 < 97 then
    some (Sum.inr 0, hp)
  else
    if a1 ≤ 122 then
      (zgJ hp a0 8 7).bind fun v1 =>
      (X2_lengthOf hp v1).bind fun x2 =>
      if x2 < 7 then
        (zgJ hp a0 8 7).bind fun v3 =>
        (X2_longer hp v3 a1).bind fun x4 =>
        (zpJ hp a0 8 7 x4).bind fun h5 =>
        (zchk (x2 + 1)).bind fun v6 =>
        some (Sum.inl v6, h5)
      else
        some (Sum.inr 1, hp)
    else
      some (Sum.inr 0, hp)
set_option maxRecDepth 20000 in
theorem c_X7_type (hp : zH) (a0 : Option Nat) (a1 : Int) : ∀ r, X7_type hp a0 a1 = some r → zXi yX7_type (Cond.code yX7_type cX7_type 3 (some .int) :: zALL) { frames := 6, cells := 1, slots := 6, locals := 82 } 1 6 [zR a0, zI a1] hp r.1 r.2 := by
  refine zXi_of (own := RX7) (cc := cX7_type) (maxL := 3) (ε := ((Int ⊕ Nat) × zH)) (res := fun r => r.1) (hp2 := fun r => r.2) (by decide) rfl (Or.inl rfl) (by exact Nat.le_of_ble_eq_true rfl) ?_
  intro K r0 X hnL hret hthr hnew
  have hN : ∀ i, i < 3 → i < K.2.2.2.2.2.2.2.2.2.2.2.2.2.2.1 := by rw [hnL]; exact fun _ h => h
  show zS _ _ (zJ K 0 0 0 [(0, zR a0), (1, zI a1)] [] hp)
  unfold X7_type
  refine z_iload_n (pc := 0) (i := 1) 1 X dX7_type_0 rfl rfl ?_
  refine z_bipush (pc := 1) (z := 97) X dX7_type_1 rfl ⟨by decide, by decide⟩ ?_
  refine z_icmp_lt (pc := 3) 12 X dX7_type_3 (by decide) (fun _ => ?_) (fun _ => ?_)
  · refine z_fin (fun e9 => ?_)
    subst e9
    exact hnew 0 0 12 _ 0 58 60 62 "not a small letter" 9 6 rfl dX7_type_12 dX7_type_15 (Or.inl ⟨dX7_type_16, rfl⟩) dX7_type_18 rfl dX7_type_21 (zin (zt2 8 (by decide +kernel)) rfl) (zin (zt1 9 (by decide +kernel)) rfl) rfl (zt2 53 (by decide +kernel)) thr_62 (by decide) (by decide) (by decide) ⟨by decide, by decide⟩ ⟨by decide, by decide⟩
  · refine z_iload_n (pc := 6) (i := 1) 1 X dX7_type_6 rfl rfl ?_
    refine z_bipush (pc := 7) (z := 122) X dX7_type_7 rfl ⟨by decide, by decide⟩ ?_
    refine z_icmp_le (pc := 9) 22 X dX7_type_9 (by decide) (fun _ => ?_) (fun _ => ?_)
    · refine z_aload_n (pc := 22) (i := 0) 0 X dX7_type_22 rfl rfl ?_
      refine z_getJ (pc := 23) (C := RX7) (T := TX7) (N := 9) (ci := 8) 7 X dX7_type_23 inz_X7 rfl (by decide) fw_X7_51 (fun v1 => ?_)
      refine z_callS_i (pc := 26) (cells := 0) (slots := 0) [zL v1] X dX7_type_26 (c_X2_lengthOf hp v1) kw_X7_65 rfl ⟨rfl, rfl, ⟨by decide, by decide⟩, ⟨by decide, by decide⟩⟩ (Nat.le_of_ble_eq_true rfl) rfl (fun x2 => ?_)
      refine z_istore_n (pc := 29) (i := 2) (lv' := [(2, zI x2), (0, zR a0), (1, zI a1)]) X dX7_type_29 rfl (hN _ (by decide)) rfl ?_
      refine z_iload_n (pc := 30) (i := 2) 0 X dX7_type_30 rfl rfl ?_
      refine z_bipush (pc := 31) (z := 7) X dX7_type_31 rfl ⟨by decide, by decide⟩ ?_
      refine z_icmp_lt (pc := 33) 46 X dX7_type_33 (by decide) (fun _ => ?_) (fun _ => ?_)
      · refine z_aload_n (pc := 46) (i := 0) 1 X dX7_type_46 rfl rfl ?_
        refine z_aload_n (pc := 47) (i := 0) 1 X dX7_type_47 rfl rfl ?_
        refine z_getJ (pc := 48) (C := RX7) (T := TX7) (N := 9) (ci := 8) 7 X dX7_type_48 inz_X7 rfl (by decide) fw_X7_51 (fun v3 => ?_)
        refine z_iload_n (pc := 51) (i := 1) 2 X dX7_type_51 rfl rfl ?_
        refine z_callS_l (pc := 52) (cells := 0) (slots := 0) [zL v3, zI a1] X dX7_type_52 (c_X2_longer hp v3 a1) kw_X7_74 rfl ⟨rfl, rfl, ⟨by decide, by decide⟩, ⟨by decide, by decide⟩⟩ (Nat.le_of_ble_eq_true rfl) rfl (fun x4 => ?_)
        refine z_putJ (pc := 55) (C := RX7) (T := TX7) (N := 9) (ci := 8) 7 X dX7_type_55 inz_X7 tyX7_ok nmX7 rfl (by decide) fw_X7_51 rfl rfl (fun h5 => ?_)
        refine z_iload_n (pc := 58) (i := 2) 0 X dX7_type_58 rfl rfl ?_
        refine z_iconst (pc := 59) (z := 1) X dX7_type_59 rfl ⟨by decide, by decide⟩ ?_
        refine z_iadd (pc := 60) X dX7_type_60 (fun v6 _ _ => ?_)
        refine z_fin (fun e9 => ?_)
        subst e9
        exact hret _ _ _ _ _ rfl (by decide) (by decide) dX7_type_61 trivial
      · refine z_fin (fun e9 => ?_)
        subst e9
        exact hnew 0 0 36 _ 1 69 71 73 "a name has no more letters" 9 6 rfl dX7_type_36 dX7_type_39 (Or.inl ⟨dX7_type_40, rfl⟩) dX7_type_42 rfl dX7_type_45 (zin (zt2 80 (by decide +kernel)) rfl) (zin (zt1 11 (by decide +kernel)) rfl) rfl (zt2 89 (by decide +kernel)) thr_73 (by decide) (by decide) (by decide) ⟨by decide, by decide⟩ ⟨by decide, by decide⟩
    · refine z_fin (fun e9 => ?_)
      subst e9
      exact hnew 0 0 12 _ 0 58 60 62 "not a small letter" 9 6 rfl dX7_type_12 dX7_type_15 (Or.inl ⟨dX7_type_16, rfl⟩) dX7_type_18 rfl dX7_type_21 (zin (zt2 8 (by decide +kernel)) rfl) (zin (zt1 9 (by decide +kernel)) rfl) rfl (zt2 53 (by decide +kernel)) thr_62 (by decide) (by decide) (by decide) ⟨by decide, by decide⟩ ⟨by decide, by decide⟩
def X7_until (hp : zH) (a0 : Option Nat) (a1 : Int) : Option (Int ⊕ Nat) :=
  (zgR hp a0 8 2).bind fun v1 =>
  (zgJ hp a0 8 7).bind fun v2 =>
  ((zobj hp v1 4).bind fun _ => X3_newest hp v1 v2 a1).bind fun x3 =>
  if 0 ≤ x3 then
    (zgR hp a0 8 2).bind fun v4 =>
    ((zobj hp v4 4).bind fun _ => X3_dayIn hp v4 x3).bind fun x5 =>
    some (Sum.inl x5)
  else
    some (Sum.inr 4)
set_option maxRecDepth 20000 in
theorem c_X7_until (hp : zH) (a0 : Option Nat) (a1 : Int) : ∀ r, X7_until hp a0 a1 = some r → zXi yX7_until (Cond.code yX7_until cX7_until 3 (some .int) :: zALL) { frames := 6, cells := 1, slots := 6, locals := 82 } 1 6 [zR a0, zI a1] hp r hp := by
  refine zXi_of (own := RX7) (cc := cX7_until) (maxL := 3) (res := fun r => r) (hp2 := fun _ => hp) (by decide) rfl (Or.inl rfl) (by exact Nat.le_of_ble_eq_true rfl) ?_
  intro K r0 X hnL hret hthr hnew
  have hN : ∀ i, i < 3 → i < K.2.2.2.2.2.2.2.2.2.2.2.2.2.2.1 := by rw [hnL]; exact fun _ h => h
  show zS _ _ (zJ K 0 0 0 [(0, zR a0), (1, zI a1)] [] hp)
  unfold X7_until
  refine z_aload_n (pc := 0) (i := 0) 0 X dX7_until_0 rfl rfl ?_
  refine z_getR (pc := 1) (C := RX7) (T := TX7) (N := 9) (ci := 8) 2 X dX7_until_1 inz_X7 rfl (by decide) fw_X7_24 (fun v1 => ?_)
  refine z_aload_n (pc := 4) (i := 0) 0 X dX7_until_4 rfl rfl ?_
  refine z_getJ (pc := 5) (C := RX7) (T := TX7) (N := 9) (ci := 8) 7 X dX7_until_5 inz_X7 rfl (by decide) fw_X7_51 (fun v2 => ?_)
  refine z_iload_n (pc := 8) (i := 1) 1 X dX7_until_8 rfl rfl ?_
  refine z_callV_i (pc := 9) (cells := 0) (slots := 0) (C := RX3) (T := TX3) (N := 6) (ci := 4) [zL v2, zI a1] X dX7_until_9 (c_X3_newest hp v1 v2 a1) kw_X7_268 rfl rfl ⟨rfl, rfl, ⟨by decide, by decide⟩, ⟨by decide, by decide⟩⟩ (Nat.le_of_ble_eq_true rfl) rfl (fun x3 => ?_)
  refine z_istore_n (pc := 12) (i := 2) (lv' := [(2, zI x3), (0, zR a0), (1, zI a1)]) X dX7_until_12 rfl (hN _ (by decide)) rfl ?_
  refine z_iload_n (pc := 13) (i := 2) 0 X dX7_until_13 rfl rfl ?_
  refine z_if_ge (pc := 14) 28 X dX7_until_14 (by decide) (fun _ => ?_) (fun _ => ?_)
  · refine z_aload_n (pc := 28) (i := 0) 1 X dX7_until_28 rfl rfl ?_
    refine z_getR (pc := 29) (C := RX7) (T := TX7) (N := 9) (ci := 8) 2 X dX7_until_29 inz_X7 rfl (by decide) fw_X7_24 (fun v4 => ?_)
    refine z_iload_n (pc := 32) (i := 2) 0 X dX7_until_32 rfl rfl ?_
    refine z_callV_i (pc := 33) (cells := 0) (slots := 0) (C := RX3) (T := TX3) (N := 6) (ci := 4) [zI x3] X dX7_until_33 (c_X3_dayIn hp v4 x3) kw_X7_289 rfl rfl ⟨rfl, rfl, ⟨by decide, by decide⟩, ⟨by decide, by decide⟩⟩ (Nat.le_of_ble_eq_true rfl) rfl (fun x5 => ?_)
    refine z_fin (fun e9 => ?_)
    subst e9
    exact hret _ _ _ _ _ rfl (by decide) (by decide) dX7_until_36 trivial
  · refine z_fin (fun e9 => ?_)
    subst e9
    exact hnew 0 0 17 _ 4 106 287 110 "no such old address" 10 7 rfl dX7_until_17 dX7_until_20 (Or.inr ⟨dX7_until_21, rfl⟩) dX7_until_24 rfl dX7_until_27 (zin (zt3 14 (by decide +kernel)) rfl) (zin (zt1 18 (by decide +kernel)) rfl) rfl (zt4 102 (by decide +kernel)) thr_110 (by decide) (by decide) (by decide) ⟨by decide, by decide⟩ ⟨by decide, by decide⟩
def X7_walk (hp : zH) (a0 : Option Nat) (a1 : Int) (a2 : Int) : Option ((Int ⊕ Nat) × zH) :=
  ((zobj hp a0 8).bind fun _ => X7_standing hp a0 a1).bind fun x1 =>
  match x1 with
  | Sum.inl v2 =>
    ((zobj hp a0 8).bind fun _ => X7_orderForWalking hp a0 v2).bind fun x4 =>
    if a2 < 0 then
      some (Sum.inr 4, x4)
    else
      (zgR x4 a0 8 4).bind fun v5 =>
      (zgI x4 v5 5 1).bind fun v6 =>
      if a2 < v6 then
        (zgR x4 a0 8 4).bind fun v7 =>
        ((zobj x4 v7 5).bind fun _ => X4_doorIn x4 v7 a2).bind fun x8 =>
        some (Sum.inl x8, x4)
      else
        some (Sum.inr 4, x4)
  | Sum.inr k3 =>
    some (Sum.inr k3, hp)
set_option maxRecDepth 20000 in
theorem c_X7_walk (hp : zH) (a0 : Option Nat) (a1 : Int) (a2 : Int) : ∀ r, X7_walk hp a0 a1 a2 = some r → zXi yX7_walk (Cond.code yX7_walk cX7_walk 3 (some .int) :: zALL) { frames := 7, cells := 2, slots := 12, locals := 103 } 2 12 [zR a0, zI a1, zI a2] hp r.1 r.2 := by
  refine zXi_of (own := RX7) (cc := cX7_walk) (maxL := 3) (ε := ((Int ⊕ Nat) × zH)) (res := fun r => r.1) (hp2 := fun r => r.2) (by decide) rfl (Or.inl rfl) (by exact Nat.le_of_ble_eq_true rfl) ?_
  intro K r0 X hnL hret hthr hnew
  have hN : ∀ i, i < 3 → i < K.2.2.2.2.2.2.2.2.2.2.2.2.2.2.1 := by rw [hnL]; exact fun _ h => h
  show zS _ _ (zJ K 0 0 0 [(0, zR a0), (1, zI a1), (2, zI a2)] [] hp)
  unfold X7_walk
  refine z_aload_n (pc := 0) (i := 0) 0 X dX7_walk_0 rfl rfl ?_
  refine z_aload_n (pc := 1) (i := 0) 0 X dX7_walk_1 rfl rfl ?_
  refine z_iload_n (pc := 2) (i := 1) 1 X dX7_walk_2 rfl rfl ?_
  refine z_callXV_q (pc := 3) (cells := 0) (slots := 0) (C := RX7) (T := TX7) (N := 9) (ci := 8) [zI a1] X dX7_walk_3 (c_X7_standing hp a0 a1) kw_X7_78 rfl rfl ⟨rfl, rfl, ⟨by decide, by decide⟩, ⟨by decide, by decide⟩⟩ (Nat.le_of_ble_eq_true rfl) rfl (fun x1 v2 hz9 => ?_) (fun x1 k3 hz9 => ?_)
  · have hz9 : x1 = Sum.inl v2 := hz9
    subst hz9
    refine z_callV_v (pc := 6) (cells := 1) (slots := 6) (C := RX7) (T := TX7) (N := 9) (ci := 8) [zR v2] X dX7_walk_6 (c_X7_orderForWalking hp a0 v2) kw_X7_292 rfl rfl ⟨rfl, rfl, ⟨by decide, by decide⟩, ⟨by decide, by decide⟩⟩ (Nat.le_of_ble_eq_true rfl) rfl (fun x4 => ?_)
    refine z_iload_n (pc := 9) (i := 2) 2 X dX7_walk_9 rfl rfl ?_
    refine z_if_lt (pc := 10) 24 X dX7_walk_10 (by decide) (fun _ => ?_) (fun _ => ?_)
    · refine z_fin (fun e9 => ?_)
      subst e9
      exact hnew 1 6 24 _ 4 106 296 110 "no such place in the walk" 10 7 rfl dX7_walk_24 dX7_walk_27 (Or.inr ⟨dX7_walk_28, rfl⟩) dX7_walk_31 rfl dX7_walk_34 (zin (zt3 14 (by decide +kernel)) rfl) (zin (zt1 18 (by decide +kernel)) rfl) rfl (zt4 125 (by decide +kernel)) thr_110 (by decide) (by decide) (by decide) ⟨by decide, by decide⟩ ⟨by decide, by decide⟩
    · refine z_iload_n (pc := 13) (i := 2) 2 X dX7_walk_13 rfl rfl ?_
      refine z_aload_n (pc := 14) (i := 0) 0 X dX7_walk_14 rfl rfl ?_
      refine z_getR (pc := 15) (C := RX7) (T := TX7) (N := 9) (ci := 8) 4 X dX7_walk_15 inz_X7 rfl (by decide) fw_X7_38 (fun v5 => ?_)
      refine z_getI (pc := 18) (C := RX4) (T := TX4) (N := 2) (ci := 5) 1 X dX7_walk_18 inz_X4 rfl (by decide) fw_X7_295 (fun v6 => ?_)
      refine z_icmp_lt (pc := 21) 35 X dX7_walk_21 (by decide) (fun _ => ?_) (fun _ => ?_)
      · refine z_aload_n (pc := 35) (i := 0) 0 X dX7_walk_35 rfl rfl ?_
        refine z_getR (pc := 36) (C := RX7) (T := TX7) (N := 9) (ci := 8) 4 X dX7_walk_36 inz_X7 rfl (by decide) fw_X7_38 (fun v7 => ?_)
        refine z_iload_n (pc := 39) (i := 2) 2 X dX7_walk_39 rfl rfl ?_
        refine z_callV_i (pc := 40) (cells := 1) (slots := 6) (C := RX4) (T := TX4) (N := 2) (ci := 5) [zI a2] X dX7_walk_40 (c_X4_doorIn x4 v7 a2) kw_X7_298 rfl rfl ⟨rfl, rfl, ⟨by decide, by decide⟩, ⟨by decide, by decide⟩⟩ (Nat.le_of_ble_eq_true rfl) rfl (fun x8 => ?_)
        refine z_fin (fun e9 => ?_)
        subst e9
        exact hret _ _ _ _ _ rfl (by decide) (by decide) dX7_walk_43 trivial
      · refine z_fin (fun e9 => ?_)
        subst e9
        exact hnew 1 6 24 _ 4 106 296 110 "no such place in the walk" 10 7 rfl dX7_walk_24 dX7_walk_27 (Or.inr ⟨dX7_walk_28, rfl⟩) dX7_walk_31 rfl dX7_walk_34 (zin (zt3 14 (by decide +kernel)) rfl) (zin (zt1 18 (by decide +kernel)) rfl) rfl (zt4 125 (by decide +kernel)) thr_110 (by decide) (by decide) (by decide) ⟨by decide, by decide⟩ ⟨by decide, by decide⟩
  · have hz9 : x1 = Sum.inr k3 := hz9
    subst hz9
    refine z_fin (fun e9 => ?_)
    subst e9
    exact hthr _ _ _ _ _ rfl (by decide) (by decide)
def X7_way (hp : zH) (a0 : Option Nat) (a1 : Int) (a2 : Int) (a3 : Int) : Option ((Int ⊕ Nat) × zH) :=
  ((zobj hp a0 8).bind fun _ => X7_standing hp a0 a1).bind fun x1 =>
  match x1 with
  | Sum.inl v2 =>
    (X7_isWay hp a2).bind fun x4 =>
    if x4 = 0 then
      some (Sum.inr 0, hp)
    else
      (zgI hp v2 7 4).bind fun v5 =>
      (zpC hp v2 7 4 a2).bind fun h6 =>
      (zpZ h6 v2 7 5 a3).bind fun h7 =>
      (zchkC v5).bind fun _ =>
      some (Sum.inl v5, h7)
  | Sum.inr k3 =>
    some (Sum.inr k3, hp)
set_option maxRecDepth 20000 in
theorem c_X7_way (hp : zH) (a0 : Option Nat) (a1 : Int) (a2 : Int) (a3 : Int) : ∀ r, X7_way hp a0 a1 a2 a3 = some r → zXi yX7_way (Cond.code yX7_way cX7_way 6 (some .char) :: zALL) { frames := 7, cells := 2, slots := 12, locals := 103 } 2 12 [zR a0, zI a1, zI a2, zI a3] hp r.1 r.2 := by
  refine zXi_of (own := RX7) (cc := cX7_way) (maxL := 6) (ε := ((Int ⊕ Nat) × zH)) (res := fun r => r.1) (hp2 := fun r => r.2) (by decide) rfl (Or.inr (Or.inr rfl)) (by exact Nat.le_of_ble_eq_true rfl) ?_
  intro K r0 X hnL hret hthr hnew
  have hN : ∀ i, i < 6 → i < K.2.2.2.2.2.2.2.2.2.2.2.2.2.2.1 := by rw [hnL]; exact fun _ h => h
  show zS _ _ (zJ K 0 0 0 [(0, zR a0), (1, zI a1), (2, zI a2), (3, zI a3)] [] hp)
  unfold X7_way
  refine z_aload_n (pc := 0) (i := 0) 0 X dX7_way_0 rfl rfl ?_
  refine z_iload_n (pc := 1) (i := 1) 1 X dX7_way_1 rfl rfl ?_
  refine z_callXV_q (pc := 2) (cells := 0) (slots := 0) (C := RX7) (T := TX7) (N := 9) (ci := 8) [zI a1] X dX7_way_2 (c_X7_standing hp a0 a1) kw_X7_78 rfl rfl ⟨rfl, rfl, ⟨by decide, by decide⟩, ⟨by decide, by decide⟩⟩ (Nat.le_of_ble_eq_true rfl) rfl (fun x1 v2 hz9 => ?_) (fun x1 k3 hz9 => ?_)
  · have hz9 : x1 = Sum.inl v2 := hz9
    subst hz9
    refine z_astore (pc := 5) (i := 4) (lv' := [(4, zR v2), (0, zR a0), (1, zI a1), (2, zI a2), (3, zI a3)]) X dX7_way_5 (hN _ (by decide)) rfl ?_
    refine z_iload_n (pc := 7) (i := 2) 3 X dX7_way_7 rfl rfl ?_
    refine z_callS_i (pc := 8) (cells := 1) (slots := 6) [zI a2] X dX7_way_8 (c_X7_isWay hp a2) kw_X7_115 rfl ⟨rfl, rfl, ⟨by decide, by decide⟩, ⟨by decide, by decide⟩⟩ (Nat.le_of_ble_eq_true rfl) rfl (fun x4 => ?_)
    refine z_if_ne (pc := 11) 24 X dX7_way_11 (by decide) (fun _ => ?_) (fun _ => ?_)
    · refine z_aload (pc := 24) (i := 4) 0 X dX7_way_24 rfl ?_
      refine z_getI (pc := 26) (C := RX6) (T := TX6) (N := 8) (ci := 7) 4 X dX7_way_26 inz_X6 rfl (by decide) fw_X7_128 (fun v5 => ?_)
      refine z_istore (pc := 29) (i := 5) (lv' := [(5, zI v5), (4, zR v2), (0, zR a0), (1, zI a1), (2, zI a2), (3, zI a3)]) X dX7_way_29 (hN _ (by decide)) rfl ?_
      refine z_aload (pc := 31) (i := 4) 1 X dX7_way_31 rfl ?_
      refine z_iload_n (pc := 33) (i := 2) 4 X dX7_way_33 rfl rfl ?_
      refine z_putC (pc := 34) (C := RX6) (T := TX6) (N := 8) (ci := 7) 4 X dX7_way_34 inz_X6 tyX6_ok nmX6 rfl (by decide) fw_X7_128 rfl rfl (fun h6 => ?_)
      refine z_aload (pc := 37) (i := 4) 1 X dX7_way_37 rfl ?_
      refine z_iload_n (pc := 39) (i := 3) 5 X dX7_way_39 rfl rfl ?_
      refine z_putZ (pc := 40) (C := RX6) (T := TX6) (N := 8) (ci := 7) 5 X dX7_way_40 inz_X6 tyX6_ok nmX6 rfl (by decide) fw_X7_132 rfl rfl (fun h7 => ?_)
      refine z_iload (pc := 43) (i := 5) 0 X dX7_way_43 rfl ?_
      refine z_chkC (fun hf9 => ?_)
      refine z_fin (fun e9 => ?_)
      subst e9
      exact hret _ _ _ _ _ rfl (by decide) (by decide) dX7_way_45 hf9
    · refine z_fin (fun e9 => ?_)
      subst e9
      exact hnew 1 6 14 _ 0 58 126 62 "no such way" 9 6 rfl dX7_way_14 dX7_way_17 (Or.inl ⟨dX7_way_18, rfl⟩) dX7_way_20 rfl dX7_way_23 (zin (zt2 8 (by decide +kernel)) rfl) (zin (zt1 9 (by decide +kernel)) rfl) rfl (zt3 41 (by decide +kernel)) thr_62 (by decide) (by decide) (by decide) ⟨by decide, by decide⟩ ⟨by decide, by decide⟩
  · have hz9 : x1 = Sum.inr k3 := hz9
    subst hz9
    refine z_fin (fun e9 => ?_)
    subst e9
    exact hthr _ _ _ _ _ rfl (by decide) (by decide)
def X7_wipe (hp : zH) (a0 : Option Nat) : Option (Int × zH) :=
  (zgJ hp a0 8 7).bind fun v1 =>
  (X2_lengthOf hp v1).bind fun x2 =>
  (zpJ hp a0 8 7 0).bind fun h3 =>
  some (x2, h3)
set_option maxRecDepth 20000 in
theorem c_X7_wipe (hp : zH) (a0 : Option Nat) : ∀ r, X7_wipe hp a0 = some r → zMi yX7_wipe (Cond.code yX7_wipe cX7_wipe 2 (some .int) :: zALL) { frames := 1, cells := 0, slots := 0, locals := 22 } 0 0 [zR a0] hp r.1 r.2 := by
  refine zMi_of (own := RX7) (cc := cX7_wipe) (maxL := 2) (ε := (Int × zH)) (res := fun r => r.1) (hp2 := fun r => r.2) (by decide) rfl (Or.inl rfl) (by exact Nat.le_of_ble_eq_true rfl) ?_
  intro K r0 X hnL hret
  have hN : ∀ i, i < 2 → i < K.2.2.2.2.2.2.2.2.2.2.2.2.2.2.1 := by rw [hnL]; exact fun _ h => h
  show zS _ _ (zJ K 0 0 0 [(0, zR a0)] [] hp)
  unfold X7_wipe
  refine z_aload_n (pc := 0) (i := 0) 0 X dX7_wipe_0 rfl rfl ?_
  refine z_getJ (pc := 1) (C := RX7) (T := TX7) (N := 9) (ci := 8) 7 X dX7_wipe_1 inz_X7 rfl (by decide) fw_X7_51 (fun v1 => ?_)
  refine z_callS_i (pc := 4) (cells := 0) (slots := 0) [zL v1] X dX7_wipe_4 (c_X2_lengthOf hp v1) kw_X7_65 rfl ⟨rfl, rfl, ⟨by decide, by decide⟩, ⟨by decide, by decide⟩⟩ (Nat.le_of_ble_eq_true rfl) rfl (fun x2 => ?_)
  refine z_istore_n (pc := 7) (i := 1) (lv' := [(1, zI x2), (0, zR a0)]) X dX7_wipe_7 rfl (hN _ (by decide)) rfl ?_
  refine z_aload_n (pc := 8) (i := 0) 1 X dX7_wipe_8 rfl rfl ?_
  refine z_lconst (pc := 9) (z := 0) X dX7_wipe_9 rfl ?_
  refine z_putJ (pc := 10) (C := RX7) (T := TX7) (N := 9) (ci := 8) 7 X dX7_wipe_10 inz_X7 tyX7_ok nmX7 rfl (by decide) fw_X7_51 rfl rfl (fun h3 => ?_)
  refine z_iload_n (pc := 13) (i := 1) 0 X dX7_wipe_13 rfl rfl ?_
  refine z_fin (fun e9 => ?_)
  subst e9
  exact hret _ _ _ _ (by decide) (by decide) dX7_wipe_14 trivial
def X8_init_b186 (p46 : Option Nat) (s47 : Int × zH) : Option ((Int × zH) ⊕ (zH)) :=
  if 80 ≤ s47.1 then
    some (Sum.inr (s47.2))
  else
    (zgR s47.2 p46 9 8).bind fun v49 =>
    (zsI s47.2 0 v49 s47.1 ((-1))).bind fun h50 =>
    (zgR h50 p46 9 11).bind fun v51 =>
    (zsI h50 0 v51 s47.1 ((-1))).bind fun h52 =>
    (zchk (s47.1 + 1)).bind fun v53 =>
    some (Sum.inl (v53, h52))
def X8_init (hp : zH) (a0 : Option Nat) : Option zH :=
  a0.bind fun v1 =>
  (znewa hp 1 12).bind fun h2 =>
  (zpR h2 a0 9 0 ((some hp.length))).bind fun h3 =>
  (znewa h3 1 12).bind fun h4 =>
  (zpR h4 a0 9 1 ((some h3.length))).bind fun h5 =>
  (znewa h5 0 12).bind fun h6 =>
  (zpR h6 a0 9 2 ((some h5.length))).bind fun h7 =>
  (znewa h7 3 12).bind fun h8 =>
  (zpR h8 a0 9 3 ((some h7.length))).bind fun h9 =>
  (znewa h9 2 12).bind fun h10 =>
  (zpR h10 a0 9 4 ((some h9.length))).bind fun h11 =>
  (znewa h11 2 12).bind fun h12 =>
  (zpR h12 a0 9 5 ((some h11.length))).bind fun h13 =>
  (znewa h13 0 12).bind fun h14 =>
  (zpR h14 a0 9 6 ((some h13.length))).bind fun h15 =>
  (znewa h15 0 80).bind fun h16 =>
  (zpR h16 a0 9 8 ((some h15.length))).bind fun h17 =>
  (znewa h17 0 80).bind fun h18 =>
  (zpR h18 a0 9 9 ((some h17.length))).bind fun h19 =>
  (znewa h19 3 80).bind fun h20 =>
  (zpR h20 a0 9 10 ((some h19.length))).bind fun h21 =>
  (znewa h21 0 80).bind fun h22 =>
  (zpR h22 a0 9 11 ((some h21.length))).bind fun h23 =>
  (znewa h23 2 40).bind fun h24 =>
  (zpR h24 a0 9 12 ((some h23.length))).bind fun h25 =>
  (znewa h25 0 40).bind fun h26 =>
  (zpR h26 a0 9 13 ((some h25.length))).bind fun h27 =>
  (znewa h27 1 200).bind fun h28 =>
  (zpR h28 a0 9 15 ((some h27.length))).bind fun h29 =>
  (znewa h29 0 200).bind fun h30 =>
  (zpR h30 a0 9 16 ((some h29.length))).bind fun h31 =>
  (znewa h31 0 200).bind fun h32 =>
  (zpR h32 a0 9 17 ((some h31.length))).bind fun h33 =>
  (znewa h33 0 200).bind fun h34 =>
  (zpR h34 a0 9 18 ((some h33.length))).bind fun h35 =>
  (znewa h35 0 80).bind fun h36 =>
  (zpR h36 a0 9 20 ((some h35.length))).bind fun h37 =>
  (znewa h37 0 80).bind fun h38 =>
  (zpR h38 a0 9 21 ((some h37.length))).bind fun h39 =>
  (znewa h39 3 80).bind fun h40 =>
  (zpR h40 a0 9 22 ((some h39.length))).bind fun h41 =>
  (znewa h41 0 80).bind fun h42 =>
  (zpR h42 a0 9 23 ((some h41.length))).bind fun h43 =>
  (znewa h43 0 40).bind fun h44 =>
  (zpR h44 a0 9 24 ((some h43.length))).bind fun h45 =>
  (zloop (X8_init_b186 a0) zN (0, h45)).bind fun e48 =>
  some e48
set_option maxRecDepth 20000 in
theorem c_X8_init (hp : zH) (a0 : Option Nat) : ∀ r, X8_init hp a0 = some r → zMv yX8_init (Cond.code yX8_init cX8_init 2 none :: zALL) { frames := 1, cells := 22, slots := 1644, locals := 24 } 22 1644 [zR a0] hp r := by
  refine zMv_of (own := RX8) (cc := cX8_init) (maxL := 2) (hp2 := fun r => r) (by decide) rfl (by exact Nat.le_of_ble_eq_true rfl) ?_
  intro K r0 X hnL hnm9 hret
  have hN : ∀ i, i < 2 → i < K.2.2.2.2.2.2.2.2.2.2.2.2.2.2.1 := by rw [hnL]; exact fun _ h => h
  show zS _ _ (zJ K 0 0 0 [(0, zR a0)] [] hp)
  unfold X8_init
  refine z_aload_n (pc := 0) (i := 0) 0 X dX8_init_0 rfl rfl ?_
  refine z_objInitO (pc := 1) X dX8_init_1 (zin (zt4 184 (by decide +kernel)) rfl) (zin (zt1 29 (by decide +kernel)) rfl) (zin (zt1 30 (by decide +kernel)) rfl) (Nat.le_of_ble_eq_true rfl) (Nat.le_of_ble_eq_true rfl) (fun v1 => ?_)
  refine z_aload_n (pc := 4) (i := 0) 0 X dX8_init_4 rfl rfl ?_
  refine z_bipush (pc := 5) (z := 12) X dX8_init_5 rfl ⟨by decide, by decide⟩ ?_
  refine z_newJo (pc := 7) (c1 := 1) (s1 := 12) 12 X dX8_init_7 (zin (zt1 61 (by decide +kernel)) rfl) rfl (by decide) (by decide) (by decide) rfl rfl (fun h2 => ?_)
  refine z_putFR (pc := 9) (C := RX8) (T := TX8) (N := 30) (ci := 9) 0 X dX8_init_9 inz_X8 tyX8_ok nmX8 rfl (by decide) fw_X8_7 rfl hnm9 rfl ⟨"x", Or.inr ⟨_, rfl⟩⟩ (fun h3 => ?_)
  refine z_aload_n (pc := 12) (i := 0) 0 X dX8_init_12 rfl rfl ?_
  refine z_bipush (pc := 13) (z := 12) X dX8_init_13 rfl ⟨by decide, by decide⟩ ?_
  refine z_newJo (pc := 15) (c1 := 2) (s1 := 24) 12 X dX8_init_15 (zin (zt1 61 (by decide +kernel)) rfl) rfl (by decide) (by decide) (by decide) rfl rfl (fun h4 => ?_)
  refine z_putFR (pc := 17) (C := RX8) (T := TX8) (N := 30) (ci := 9) 1 X dX8_init_17 inz_X8 tyX8_ok nmX8 rfl (by decide) fw_X8_13 rfl hnm9 rfl ⟨"x", Or.inr ⟨_, rfl⟩⟩ (fun h5 => ?_)
  refine z_aload_n (pc := 20) (i := 0) 0 X dX8_init_20 rfl rfl ?_
  refine z_bipush (pc := 21) (z := 12) X dX8_init_21 rfl ⟨by decide, by decide⟩ ?_
  refine z_newIo (pc := 23) (c1 := 3) (s1 := 36) 12 X dX8_init_23 (zin (zt1 62 (by decide +kernel)) rfl) rfl (by decide) (by decide) (by decide) rfl rfl (fun h6 => ?_)
  refine z_putFR (pc := 25) (C := RX8) (T := TX8) (N := 30) (ci := 9) 2 X dX8_init_25 inz_X8 tyX8_ok nmX8 rfl (by decide) fw_X8_16 rfl hnm9 rfl ⟨"x", Or.inr ⟨_, rfl⟩⟩ (fun h7 => ?_)
  refine z_aload_n (pc := 28) (i := 0) 0 X dX8_init_28 rfl rfl ?_
  refine z_bipush (pc := 29) (z := 12) X dX8_init_29 rfl ⟨by decide, by decide⟩ ?_
  refine z_newCo (pc := 31) (c1 := 4) (s1 := 48) 12 X dX8_init_31 (zin (zt5 36 (by decide +kernel)) rfl) rfl (by decide) (by decide) (by decide) rfl rfl (fun h8 => ?_)
  refine z_putFR (pc := 33) (C := RX8) (T := TX8) (N := 30) (ci := 9) 3 X dX8_init_33 inz_X8 tyX8_ok nmX8 rfl (by decide) fw_X8_20 rfl hnm9 rfl ⟨"x", Or.inr ⟨_, rfl⟩⟩ (fun h9 => ?_)
  refine z_aload_n (pc := 36) (i := 0) 0 X dX8_init_36 rfl rfl ?_
  refine z_bipush (pc := 37) (z := 12) X dX8_init_37 rfl ⟨by decide, by decide⟩ ?_
  refine z_newZo (pc := 39) (c1 := 5) (s1 := 60) 12 X dX8_init_39 (zin (zt1 92 (by decide +kernel)) rfl) rfl (by decide) (by decide) (by decide) rfl rfl (fun h10 => ?_)
  refine z_putFR (pc := 41) (C := RX8) (T := TX8) (N := 30) (ci := 9) 4 X dX8_init_41 inz_X8 tyX8_ok nmX8 rfl (by decide) fw_X8_24 rfl hnm9 rfl ⟨"x", Or.inr ⟨_, rfl⟩⟩ (fun h11 => ?_)
  refine z_aload_n (pc := 44) (i := 0) 0 X dX8_init_44 rfl rfl ?_
  refine z_bipush (pc := 45) (z := 12) X dX8_init_45 rfl ⟨by decide, by decide⟩ ?_
  refine z_newZo (pc := 47) (c1 := 6) (s1 := 72) 12 X dX8_init_47 (zin (zt1 92 (by decide +kernel)) rfl) rfl (by decide) (by decide) (by decide) rfl rfl (fun h12 => ?_)
  refine z_putFR (pc := 49) (C := RX8) (T := TX8) (N := 30) (ci := 9) 5 X dX8_init_49 inz_X8 tyX8_ok nmX8 rfl (by decide) fw_X8_28 rfl hnm9 rfl ⟨"x", Or.inr ⟨_, rfl⟩⟩ (fun h13 => ?_)
  refine z_aload_n (pc := 52) (i := 0) 0 X dX8_init_52 rfl rfl ?_
  refine z_bipush (pc := 53) (z := 12) X dX8_init_53 rfl ⟨by decide, by decide⟩ ?_
  refine z_newIo (pc := 55) (c1 := 7) (s1 := 84) 12 X dX8_init_55 (zin (zt1 62 (by decide +kernel)) rfl) rfl (by decide) (by decide) (by decide) rfl rfl (fun h14 => ?_)
  refine z_putFR (pc := 57) (C := RX8) (T := TX8) (N := 30) (ci := 9) 6 X dX8_init_57 inz_X8 tyX8_ok nmX8 rfl (by decide) fw_X8_31 rfl hnm9 rfl ⟨"x", Or.inr ⟨_, rfl⟩⟩ (fun h15 => ?_)
  refine z_aload_n (pc := 60) (i := 0) 0 X dX8_init_60 rfl rfl ?_
  refine z_bipush (pc := 61) (z := 80) X dX8_init_61 rfl ⟨by decide, by decide⟩ ?_
  refine z_newIo (pc := 63) (c1 := 8) (s1 := 164) 80 X dX8_init_63 (zin (zt1 62 (by decide +kernel)) rfl) rfl (by decide) (by decide) (by decide) rfl rfl (fun h16 => ?_)
  refine z_putFR (pc := 65) (C := RX8) (T := TX8) (N := 30) (ci := 9) 8 X dX8_init_65 inz_X8 tyX8_ok nmX8 rfl (by decide) fw_X8_34 rfl hnm9 rfl ⟨"x", Or.inr ⟨_, rfl⟩⟩ (fun h17 => ?_)
  refine z_aload_n (pc := 68) (i := 0) 0 X dX8_init_68 rfl rfl ?_
  refine z_bipush (pc := 69) (z := 80) X dX8_init_69 rfl ⟨by decide, by decide⟩ ?_
  refine z_newIo (pc := 71) (c1 := 9) (s1 := 244) 80 X dX8_init_71 (zin (zt1 62 (by decide +kernel)) rfl) rfl (by decide) (by decide) (by decide) rfl rfl (fun h18 => ?_)
  refine z_putFR (pc := 73) (C := RX8) (T := TX8) (N := 30) (ci := 9) 9 X dX8_init_73 inz_X8 tyX8_ok nmX8 rfl (by decide) fw_X8_37 rfl hnm9 rfl ⟨"x", Or.inr ⟨_, rfl⟩⟩ (fun h19 => ?_)
  refine z_aload_n (pc := 76) (i := 0) 0 X dX8_init_76 rfl rfl ?_
  refine z_bipush (pc := 77) (z := 80) X dX8_init_77 rfl ⟨by decide, by decide⟩ ?_
  refine z_newCo (pc := 79) (c1 := 10) (s1 := 324) 80 X dX8_init_79 (zin (zt5 36 (by decide +kernel)) rfl) rfl (by decide) (by decide) (by decide) rfl rfl (fun h20 => ?_)
  refine z_putFR (pc := 81) (C := RX8) (T := TX8) (N := 30) (ci := 9) 10 X dX8_init_81 inz_X8 tyX8_ok nmX8 rfl (by decide) fw_X8_40 rfl hnm9 rfl ⟨"x", Or.inr ⟨_, rfl⟩⟩ (fun h21 => ?_)
  refine z_aload_n (pc := 84) (i := 0) 0 X dX8_init_84 rfl rfl ?_
  refine z_bipush (pc := 85) (z := 80) X dX8_init_85 rfl ⟨by decide, by decide⟩ ?_
  refine z_newIo (pc := 87) (c1 := 11) (s1 := 404) 80 X dX8_init_87 (zin (zt1 62 (by decide +kernel)) rfl) rfl (by decide) (by decide) (by decide) rfl rfl (fun h22 => ?_)
  refine z_putFR (pc := 89) (C := RX8) (T := TX8) (N := 30) (ci := 9) 11 X dX8_init_89 inz_X8 tyX8_ok nmX8 rfl (by decide) fw_X8_43 rfl hnm9 rfl ⟨"x", Or.inr ⟨_, rfl⟩⟩ (fun h23 => ?_)
  refine z_aload_n (pc := 92) (i := 0) 0 X dX8_init_92 rfl rfl ?_
  refine z_bipush (pc := 93) (z := 40) X dX8_init_93 rfl ⟨by decide, by decide⟩ ?_
  refine z_newZo (pc := 95) (c1 := 12) (s1 := 444) 40 X dX8_init_95 (zin (zt1 92 (by decide +kernel)) rfl) rfl (by decide) (by decide) (by decide) rfl rfl (fun h24 => ?_)
  refine z_putFR (pc := 97) (C := RX8) (T := TX8) (N := 30) (ci := 9) 12 X dX8_init_97 inz_X8 tyX8_ok nmX8 rfl (by decide) fw_X8_46 rfl hnm9 rfl ⟨"x", Or.inr ⟨_, rfl⟩⟩ (fun h25 => ?_)
  refine z_aload_n (pc := 100) (i := 0) 0 X dX8_init_100 rfl rfl ?_
  refine z_bipush (pc := 101) (z := 40) X dX8_init_101 rfl ⟨by decide, by decide⟩ ?_
  refine z_newIo (pc := 103) (c1 := 13) (s1 := 484) 40 X dX8_init_103 (zin (zt1 62 (by decide +kernel)) rfl) rfl (by decide) (by decide) (by decide) rfl rfl (fun h26 => ?_)
  refine z_putFR (pc := 105) (C := RX8) (T := TX8) (N := 30) (ci := 9) 13 X dX8_init_105 inz_X8 tyX8_ok nmX8 rfl (by decide) fw_X8_49 rfl hnm9 rfl ⟨"x", Or.inr ⟨_, rfl⟩⟩ (fun h27 => ?_)
  refine z_aload_n (pc := 108) (i := 0) 0 X dX8_init_108 rfl rfl ?_
  refine z_sipush (pc := 109) (z := 200) X dX8_init_109 rfl ⟨by decide, by decide⟩ ?_
  refine z_newJo (pc := 112) (c1 := 14) (s1 := 684) 200 X dX8_init_112 (zin (zt1 61 (by decide +kernel)) rfl) rfl (by decide) (by decide) (by decide) rfl rfl (fun h28 => ?_)
  refine z_putFR (pc := 114) (C := RX8) (T := TX8) (N := 30) (ci := 9) 15 X dX8_init_114 inz_X8 tyX8_ok nmX8 rfl (by decide) fw_X8_52 rfl hnm9 rfl ⟨"x", Or.inr ⟨_, rfl⟩⟩ (fun h29 => ?_)
  refine z_aload_n (pc := 117) (i := 0) 0 X dX8_init_117 rfl rfl ?_
  refine z_sipush (pc := 118) (z := 200) X dX8_init_118 rfl ⟨by decide, by decide⟩ ?_
  refine z_newIo (pc := 121) (c1 := 15) (s1 := 884) 200 X dX8_init_121 (zin (zt1 62 (by decide +kernel)) rfl) rfl (by decide) (by decide) (by decide) rfl rfl (fun h30 => ?_)
  refine z_putFR (pc := 123) (C := RX8) (T := TX8) (N := 30) (ci := 9) 16 X dX8_init_123 inz_X8 tyX8_ok nmX8 rfl (by decide) fw_X8_55 rfl hnm9 rfl ⟨"x", Or.inr ⟨_, rfl⟩⟩ (fun h31 => ?_)
  refine z_aload_n (pc := 126) (i := 0) 0 X dX8_init_126 rfl rfl ?_
  refine z_sipush (pc := 127) (z := 200) X dX8_init_127 rfl ⟨by decide, by decide⟩ ?_
  refine z_newIo (pc := 130) (c1 := 16) (s1 := 1084) 200 X dX8_init_130 (zin (zt1 62 (by decide +kernel)) rfl) rfl (by decide) (by decide) (by decide) rfl rfl (fun h32 => ?_)
  refine z_putFR (pc := 132) (C := RX8) (T := TX8) (N := 30) (ci := 9) 17 X dX8_init_132 inz_X8 tyX8_ok nmX8 rfl (by decide) fw_X8_58 rfl hnm9 rfl ⟨"x", Or.inr ⟨_, rfl⟩⟩ (fun h33 => ?_)
  refine z_aload_n (pc := 135) (i := 0) 0 X dX8_init_135 rfl rfl ?_
  refine z_sipush (pc := 136) (z := 200) X dX8_init_136 rfl ⟨by decide, by decide⟩ ?_
  refine z_newIo (pc := 139) (c1 := 17) (s1 := 1284) 200 X dX8_init_139 (zin (zt1 62 (by decide +kernel)) rfl) rfl (by decide) (by decide) (by decide) rfl rfl (fun h34 => ?_)
  refine z_putFR (pc := 141) (C := RX8) (T := TX8) (N := 30) (ci := 9) 18 X dX8_init_141 inz_X8 tyX8_ok nmX8 rfl (by decide) fw_X8_61 rfl hnm9 rfl ⟨"x", Or.inr ⟨_, rfl⟩⟩ (fun h35 => ?_)
  refine z_aload_n (pc := 144) (i := 0) 0 X dX8_init_144 rfl rfl ?_
  refine z_bipush (pc := 145) (z := 80) X dX8_init_145 rfl ⟨by decide, by decide⟩ ?_
  refine z_newIo (pc := 147) (c1 := 18) (s1 := 1364) 80 X dX8_init_147 (zin (zt1 62 (by decide +kernel)) rfl) rfl (by decide) (by decide) (by decide) rfl rfl (fun h36 => ?_)
  refine z_putFR (pc := 149) (C := RX8) (T := TX8) (N := 30) (ci := 9) 20 X dX8_init_149 inz_X8 tyX8_ok nmX8 rfl (by decide) fw_X8_64 rfl hnm9 rfl ⟨"x", Or.inr ⟨_, rfl⟩⟩ (fun h37 => ?_)
  refine z_aload_n (pc := 152) (i := 0) 0 X dX8_init_152 rfl rfl ?_
  refine z_bipush (pc := 153) (z := 80) X dX8_init_153 rfl ⟨by decide, by decide⟩ ?_
  refine z_newIo (pc := 155) (c1 := 19) (s1 := 1444) 80 X dX8_init_155 (zin (zt1 62 (by decide +kernel)) rfl) rfl (by decide) (by decide) (by decide) rfl rfl (fun h38 => ?_)
  refine z_putFR (pc := 157) (C := RX8) (T := TX8) (N := 30) (ci := 9) 21 X dX8_init_157 inz_X8 tyX8_ok nmX8 rfl (by decide) fw_X8_67 rfl hnm9 rfl ⟨"x", Or.inr ⟨_, rfl⟩⟩ (fun h39 => ?_)
  refine z_aload_n (pc := 160) (i := 0) 0 X dX8_init_160 rfl rfl ?_
  refine z_bipush (pc := 161) (z := 80) X dX8_init_161 rfl ⟨by decide, by decide⟩ ?_
  refine z_newCo (pc := 163) (c1 := 20) (s1 := 1524) 80 X dX8_init_163 (zin (zt5 36 (by decide +kernel)) rfl) rfl (by decide) (by decide) (by decide) rfl rfl (fun h40 => ?_)
  refine z_putFR (pc := 165) (C := RX8) (T := TX8) (N := 30) (ci := 9) 22 X dX8_init_165 inz_X8 tyX8_ok nmX8 rfl (by decide) fw_X8_70 rfl hnm9 rfl ⟨"x", Or.inr ⟨_, rfl⟩⟩ (fun h41 => ?_)
  refine z_aload_n (pc := 168) (i := 0) 0 X dX8_init_168 rfl rfl ?_
  refine z_bipush (pc := 169) (z := 80) X dX8_init_169 rfl ⟨by decide, by decide⟩ ?_
  refine z_newIo (pc := 171) (c1 := 21) (s1 := 1604) 80 X dX8_init_171 (zin (zt1 62 (by decide +kernel)) rfl) rfl (by decide) (by decide) (by decide) rfl rfl (fun h42 => ?_)
  refine z_putFR (pc := 173) (C := RX8) (T := TX8) (N := 30) (ci := 9) 23 X dX8_init_173 inz_X8 tyX8_ok nmX8 rfl (by decide) fw_X8_73 rfl hnm9 rfl ⟨"x", Or.inr ⟨_, rfl⟩⟩ (fun h43 => ?_)
  refine z_aload_n (pc := 176) (i := 0) 0 X dX8_init_176 rfl rfl ?_
  refine z_bipush (pc := 177) (z := 40) X dX8_init_177 rfl ⟨by decide, by decide⟩ ?_
  refine z_newIo (pc := 179) (c1 := 22) (s1 := 1644) 40 X dX8_init_179 (zin (zt1 62 (by decide +kernel)) rfl) rfl (by decide) (by decide) (by decide) rfl rfl (fun h44 => ?_)
  refine z_putFR (pc := 181) (C := RX8) (T := TX8) (N := 30) (ci := 9) 24 X dX8_init_181 inz_X8 tyX8_ok nmX8 rfl (by decide) fw_X8_76 rfl hnm9 rfl ⟨"x", Or.inr ⟨_, rfl⟩⟩ (fun h45 => ?_)
  refine z_iconst (pc := 184) (z := 0) X dX8_init_184 rfl ⟨by decide, by decide⟩ ?_
  refine z_istore_n (pc := 185) (i := 1) (lv' := [(1, zI 0), (0, zR a0)]) X dX8_init_185 rfl (hN _ (by decide)) rfl ?_
  refine z_pick [1, 0] (lv' := [(0, zR a0), (1, zI 0)]) rfl ?_
  refine z_bind (z_loop (body := X8_init_b186 a0) (fun s47 : Int × zH => zJ K 22 1644 186 [(0, zR a0), (1, zI s47.1)] [] s47.2) (fun e48 : zH => zJ K 22 1644 212 [] [] e48) (fun s47 => ?_) zN (0, h45)) (fun e48 => ?_)
  · unfold X8_init_b186
    refine z_iload_n (pc := 186) (i := 1) 1 X dX8_init_186 rfl rfl ?_
    refine z_bipush (pc := 187) (z := 80) X dX8_init_187 rfl ⟨by decide, by decide⟩ ?_
    refine z_icmp_ge (pc := 189) 212 X dX8_init_189 (by decide) (fun _ => ?_) (fun _ => ?_)
    · refine z_pick [] (lv' := []) rfl ?_
      exact z_exit
    · refine z_aload_n (pc := 192) (i := 0) 0 X dX8_init_192 rfl rfl ?_
      refine z_getR (pc := 193) (C := RX8) (T := TX8) (N := 30) (ci := 9) 8 X dX8_init_193 inz_X8 rfl (by decide) fw_X8_34 (fun v49 => ?_)
      refine z_iload_n (pc := 196) (i := 1) 1 X dX8_init_196 rfl rfl ?_
      refine z_iconst (pc := 197) (z := -1) X dX8_init_197 rfl ⟨by decide, by decide⟩ ?_
      refine z_iastore (pc := 198) X dX8_init_198 (fun h50 => ?_)
      refine z_aload_n (pc := 199) (i := 0) 0 X dX8_init_199 rfl rfl ?_
      refine z_getR (pc := 200) (C := RX8) (T := TX8) (N := 30) (ci := 9) 11 X dX8_init_200 inz_X8 rfl (by decide) fw_X8_43 (fun v51 => ?_)
      refine z_iload_n (pc := 203) (i := 1) 1 X dX8_init_203 rfl rfl ?_
      refine z_iconst (pc := 204) (z := -1) X dX8_init_204 rfl ⟨by decide, by decide⟩ ?_
      refine z_iastore (pc := 205) X dX8_init_205 (fun h52 => ?_)
      refine z_iinc (pc := 206) (i := 1) (n := 1) (lv' := fun v53 => [(1, zI v53), (0, zR a0)]) 1 X dX8_init_206 rfl (hN _ (by decide)) (fun _ => rfl) (fun v53 _ _ => ?_)
      refine z_goto (pc := 209) 186 X dX8_init_209 (by decide) ?_
      refine z_pick [1, 0] (lv' := [(0, zR a0), (1, zI v53)]) rfl ?_
      exact z_back
  · refine z_fin (fun e9 => ?_)
    subst e9
    exact hret _ _ _ _ (by decide) (by decide) dX8_init_212
def X8_isBetween (hp : zH) (a0 : Int) (a1 : Int) (a2 : Int) : Option Int :=
  if a0 < a1 then
    some 0
  else
    if a2 < a0 then
      some 0
    else
      some 1
set_option maxRecDepth 20000 in
theorem c_X8_isBetween (hp : zH) (a0 : Int) (a1 : Int) (a2 : Int) : ∀ r, X8_isBetween hp a0 a1 a2 = some r → zMi yX8_isBetween (Cond.code yX8_isBetween cX8_isBetween 3 (some .boolean) :: zALL) { frames := 0, cells := 0, slots := 0, locals := 0 } 0 0 [zI a0, zI a1, zI a2] hp r hp := by
  refine zMi_of (own := RX8) (cc := cX8_isBetween) (maxL := 3) (res := fun r => r) (hp2 := fun _ => hp) (by decide) rfl (Or.inr (Or.inl rfl)) (by exact Nat.le_of_ble_eq_true rfl) ?_
  intro K r0 X hnL hret
  have hN : ∀ i, i < 3 → i < K.2.2.2.2.2.2.2.2.2.2.2.2.2.2.1 := by rw [hnL]; exact fun _ h => h
  show zS _ _ (zJ K 0 0 0 [(0, zI a0), (1, zI a1), (2, zI a2)] [] hp)
  unfold X8_isBetween
  refine z_iload_n (pc := 0) (i := 0) 0 X dX8_isBetween_0 rfl rfl ?_
  refine z_iload_n (pc := 1) (i := 1) 1 X dX8_isBetween_1 rfl rfl ?_
  refine z_icmp_lt (pc := 2) 14 X dX8_isBetween_2 (by decide) (fun _ => ?_) (fun _ => ?_)
  · refine z_iconst (pc := 14) (z := 0) X dX8_isBetween_14 rfl ⟨by decide, by decide⟩ ?_
    refine z_fin (fun e9 => ?_)
    subst e9
    exact hret _ _ _ _ (by decide) (by decide) dX8_isBetween_15 (Or.inl rfl)
  · refine z_iload_n (pc := 5) (i := 0) 0 X dX8_isBetween_5 rfl rfl ?_
    refine z_iload_n (pc := 6) (i := 2) 2 X dX8_isBetween_6 rfl rfl ?_
    refine z_icmp_gt (pc := 7) 14 X dX8_isBetween_7 (by decide) (fun _ => ?_) (fun _ => ?_)
    · refine z_iconst (pc := 14) (z := 0) X dX8_isBetween_14 rfl ⟨by decide, by decide⟩ ?_
      refine z_fin (fun e9 => ?_)
      subst e9
      exact hret _ _ _ _ (by decide) (by decide) dX8_isBetween_15 (Or.inl rfl)
    · refine z_iconst (pc := 10) (z := 1) X dX8_isBetween_10 rfl ⟨by decide, by decide⟩ ?_
      refine z_goto (pc := 11) 15 X dX8_isBetween_11 (by decide) ?_
      refine z_fin (fun e9 => ?_)
      subst e9
      exact hret _ _ _ _ (by decide) (by decide) dX8_isBetween_15 (Or.inr rfl)
def X8_isDoor (hp : zH) (a0 : Option Nat) (a1 : Int) : Option Int :=
  (zgI hp a0 9 14).bind fun v1 =>
  (zchk (v1 - 1)).bind fun v2 =>
  (X8_isBetween hp a1 0 v2).bind fun x3 =>
  (zchkZ x3).bind fun _ =>
  some x3
set_option maxRecDepth 20000 in
theorem c_X8_isDoor (hp : zH) (a0 : Option Nat) (a1 : Int) : ∀ r, X8_isDoor hp a0 a1 = some r → zMi yX8_isDoor (Cond.code yX8_isDoor cX8_isDoor 2 (some .boolean) :: zALL) { frames := 1, cells := 0, slots := 0, locals := 22 } 0 0 [zR a0, zI a1] hp r hp := by
  refine zMi_of (own := RX8) (cc := cX8_isDoor) (maxL := 2) (res := fun r => r) (hp2 := fun _ => hp) (by decide) rfl (Or.inr (Or.inl rfl)) (by exact Nat.le_of_ble_eq_true rfl) ?_
  intro K r0 X hnL hret
  have hN : ∀ i, i < 2 → i < K.2.2.2.2.2.2.2.2.2.2.2.2.2.2.1 := by rw [hnL]; exact fun _ h => h
  show zS _ _ (zJ K 0 0 0 [(0, zR a0), (1, zI a1)] [] hp)
  unfold X8_isDoor
  refine z_iload_n (pc := 0) (i := 1) 1 X dX8_isDoor_0 rfl rfl ?_
  refine z_iconst (pc := 1) (z := 0) X dX8_isDoor_1 rfl ⟨by decide, by decide⟩ ?_
  refine z_aload_n (pc := 2) (i := 0) 0 X dX8_isDoor_2 rfl rfl ?_
  refine z_getI (pc := 3) (C := RX8) (T := TX8) (N := 30) (ci := 9) 14 X dX8_isDoor_3 inz_X8 rfl (by decide) fw_X8_90 (fun v1 => ?_)
  refine z_iconst (pc := 6) (z := 1) X dX8_isDoor_6 rfl ⟨by decide, by decide⟩ ?_
  refine z_isub (pc := 7) X dX8_isDoor_7 (fun v2 _ _ => ?_)
  refine z_callS_i (pc := 8) (cells := 0) (slots := 0) [zI a1, zI 0, zI v2] X dX8_isDoor_8 (c_X8_isBetween hp a1 0 v2) kw_X8_86 rfl ⟨rfl, rfl, ⟨by decide, by decide⟩, ⟨by decide, by decide⟩⟩ (Nat.le_of_ble_eq_true rfl) rfl (fun x3 => ?_)
  refine z_chkZ (fun hf9 => ?_)
  refine z_fin (fun e9 => ?_)
  subst e9
  exact hret _ _ _ _ (by decide) (by decide) dX8_isDoor_11 hf9
def X8_no (hp : zH) (a0 : Option Nat) (a1 : Int) (a2 : Int) : Option (Int × zH) :=
  if a1 = 0 then
    (zpI hp a0 9 29 a2).bind fun h1 =>
    if a1 = 0 then
      some (1, h1)
    else
      some (0, h1)
  else
    (zpI hp a0 9 29 0).bind fun h2 =>
    if a1 = 0 then
      some (1, h2)
    else
      some (0, h2)
set_option maxRecDepth 20000 in
theorem c_X8_no (hp : zH) (a0 : Option Nat) (a1 : Int) (a2 : Int) : ∀ r, X8_no hp a0 a1 a2 = some r → zMi yX8_no (Cond.code yX8_no cX8_no 3 (some .boolean) :: zALL) { frames := 0, cells := 0, slots := 0, locals := 0 } 0 0 [zR a0, zI a1, zI a2] hp r.1 r.2 := by
  refine zMi_of (own := RX8) (cc := cX8_no) (maxL := 3) (ε := (Int × zH)) (res := fun r => r.1) (hp2 := fun r => r.2) (by decide) rfl (Or.inr (Or.inl rfl)) (by exact Nat.le_of_ble_eq_true rfl) ?_
  intro K r0 X hnL hret
  have hN : ∀ i, i < 3 → i < K.2.2.2.2.2.2.2.2.2.2.2.2.2.2.1 := by rw [hnL]; exact fun _ h => h
  show zS _ _ (zJ K 0 0 0 [(0, zR a0), (1, zI a1), (2, zI a2)] [] hp)
  unfold X8_no
  refine z_aload_n (pc := 0) (i := 0) 0 X dX8_no_0 rfl rfl ?_
  refine z_iload_n (pc := 1) (i := 1) 1 X dX8_no_1 rfl rfl ?_
  refine z_if_eq (pc := 2) 9 X dX8_no_2 (by decide) (fun _ => ?_) (fun _ => ?_)
  · refine z_iload_n (pc := 9) (i := 2) 2 X dX8_no_9 rfl rfl ?_
    refine z_putI (pc := 10) (C := RX8) (T := TX8) (N := 30) (ci := 9) 29 X dX8_no_10 inz_X8 tyX8_ok nmX8 rfl (by decide) fw_X8_79 rfl rfl (fun h1 => ?_)
    refine z_iload_n (pc := 13) (i := 1) 1 X dX8_no_13 rfl rfl ?_
    refine z_if_ne (pc := 14) 21 X dX8_no_14 (by decide) (fun _ => ?_) (fun _ => ?_)
    · refine z_iconst (pc := 21) (z := 0) X dX8_no_21 rfl ⟨by decide, by decide⟩ ?_
      refine z_fin (fun e9 => ?_)
      subst e9
      exact hret _ _ _ _ (by decide) (by decide) dX8_no_22 (Or.inl rfl)
    · refine z_iconst (pc := 17) (z := 1) X dX8_no_17 rfl ⟨by decide, by decide⟩ ?_
      refine z_goto (pc := 18) 22 X dX8_no_18 (by decide) ?_
      refine z_fin (fun e9 => ?_)
      subst e9
      exact hret _ _ _ _ (by decide) (by decide) dX8_no_22 (Or.inr rfl)
  · refine z_iconst (pc := 5) (z := 0) X dX8_no_5 rfl ⟨by decide, by decide⟩ ?_
    refine z_goto (pc := 6) 10 X dX8_no_6 (by decide) ?_
    refine z_putI (pc := 10) (C := RX8) (T := TX8) (N := 30) (ci := 9) 29 X dX8_no_10 inz_X8 tyX8_ok nmX8 rfl (by decide) fw_X8_79 rfl rfl (fun h2 => ?_)
    refine z_iload_n (pc := 13) (i := 1) 1 X dX8_no_13 rfl rfl ?_
    refine z_if_ne (pc := 14) 21 X dX8_no_14 (by decide) (fun _ => ?_) (fun _ => ?_)
    · refine z_iconst (pc := 21) (z := 0) X dX8_no_21 rfl ⟨by decide, by decide⟩ ?_
      refine z_fin (fun e9 => ?_)
      subst e9
      exact hret _ _ _ _ (by decide) (by decide) dX8_no_22 (Or.inl rfl)
    · refine z_iconst (pc := 17) (z := 1) X dX8_no_17 rfl ⟨by decide, by decide⟩ ?_
      refine z_goto (pc := 18) 22 X dX8_no_18 (by decide) ?_
      refine z_fin (fun e9 => ?_)
      subst e9
      exact hret _ _ _ _ (by decide) (by decide) dX8_no_22 (Or.inr rfl)
def X8_placeOf (hp : zH) (a0 : Option Nat) (a1 : Int) (a2 : Int) : Option Int :=
  (zchk (2 * a1)).bind fun v1 =>
  if a2 = 0 then
    (zchk (v1 + 0)).bind fun v2 =>
    some v2
  else
    (zchk (v1 + 1)).bind fun v3 =>
    some v3
set_option maxRecDepth 20000 in
theorem c_X8_placeOf (hp : zH) (a0 : Option Nat) (a1 : Int) (a2 : Int) : ∀ r, X8_placeOf hp a0 a1 a2 = some r → zMi yX8_placeOf (Cond.code yX8_placeOf cX8_placeOf 3 (some .int) :: zALL) { frames := 0, cells := 0, slots := 0, locals := 0 } 0 0 [zR a0, zI a1, zI a2] hp r hp := by
  refine zMi_of (own := RX8) (cc := cX8_placeOf) (maxL := 3) (res := fun r => r) (hp2 := fun _ => hp) (by decide) rfl (Or.inl rfl) (by exact Nat.le_of_ble_eq_true rfl) ?_
  intro K r0 X hnL hret
  have hN : ∀ i, i < 3 → i < K.2.2.2.2.2.2.2.2.2.2.2.2.2.2.1 := by rw [hnL]; exact fun _ h => h
  show zS _ _ (zJ K 0 0 0 [(0, zR a0), (1, zI a1), (2, zI a2)] [] hp)
  unfold X8_placeOf
  refine z_iconst (pc := 0) (z := 2) X dX8_placeOf_0 rfl ⟨by decide, by decide⟩ ?_
  refine z_iload_n (pc := 1) (i := 1) 1 X dX8_placeOf_1 rfl rfl ?_
  refine z_imul (pc := 2) X dX8_placeOf_2 (fun v1 _ _ => ?_)
  refine z_iload_n (pc := 3) (i := 2) 2 X dX8_placeOf_3 rfl rfl ?_
  refine z_if_eq (pc := 4) 11 X dX8_placeOf_4 (by decide) (fun _ => ?_) (fun _ => ?_)
  · refine z_iconst (pc := 11) (z := 0) X dX8_placeOf_11 rfl ⟨by decide, by decide⟩ ?_
    refine z_iadd (pc := 12) X dX8_placeOf_12 (fun v2 _ _ => ?_)
    refine z_fin (fun e9 => ?_)
    subst e9
    exact hret _ _ _ _ (by decide) (by decide) dX8_placeOf_13 trivial
  · refine z_iconst (pc := 7) (z := 1) X dX8_placeOf_7 rfl ⟨by decide, by decide⟩ ?_
    refine z_goto (pc := 8) 12 X dX8_placeOf_8 (by decide) ?_
    refine z_iadd (pc := 12) X dX8_placeOf_12 (fun v3 _ _ => ?_)
    refine z_fin (fun e9 => ?_)
    subst e9
    exact hret _ _ _ _ (by decide) (by decide) dX8_placeOf_13 trivial
def X8_address_j34 (a0 : Option Nat) (a1 : Int) (a2 : Int) (x2 : (Int × zH)) (j6 : Int) : Option (Int × zH) :=
  ((zobj x2.2 a0 9).bind fun _ => X8_no x2.2 a0 j6 2).bind fun x7 =>
  if x7.1 = 0 then
    (zgR x7.2 a0 9 11).bind fun v8 =>
    ((zobj x7.2 a0 9).bind fun _ => X8_placeOf x7.2 a0 a1 a2).bind fun x9 =>
    (zaI x7.2 0 v8 x9).bind fun v10 =>
    some (v10, x7.2)
  else
    some (0, x7.2)
def X8_address (hp : zH) (a0 : Option Nat) (a1 : Int) (a2 : Int) : Option (Int × zH) :=
  ((zobj hp a0 9).bind fun _ => X8_isDoor hp a0 a1).bind fun x1 =>
  ((zobj hp a0 9).bind fun _ => X8_no hp a0 x1 1).bind fun x2 =>
  if x2.1 = 0 then
    (zgR x2.2 a0 9 8).bind fun v3 =>
    ((zobj x2.2 a0 9).bind fun _ => X8_placeOf x2.2 a0 a1 a2).bind fun x4 =>
    (zaI x2.2 0 v3 x4).bind fun v5 =>
    if v5 = (-1) then
      X8_address_j34 a0 a1 a2 x2 0
    else
      X8_address_j34 a0 a1 a2 x2 1
  else
    some (0, x2.2)
set_option maxRecDepth 20000 in
theorem c_X8_address (hp : zH) (a0 : Option Nat) (a1 : Int) (a2 : Int) : ∀ r, X8_address hp a0 a1 a2 = some r → zMi yX8_address (Cond.code yX8_address cX8_address 3 (some .int) :: zALL) { frames := 2, cells := 0, slots := 0, locals := 43 } 0 0 [zR a0, zI a1, zI a2] hp r.1 r.2 := by
  refine zMi_of (own := RX8) (cc := cX8_address) (maxL := 3) (ε := (Int × zH)) (res := fun r => r.1) (hp2 := fun r => r.2) (by decide) rfl (Or.inl rfl) (by exact Nat.le_of_ble_eq_true rfl) ?_
  intro K r0 X hnL hret
  have hN : ∀ i, i < 3 → i < K.2.2.2.2.2.2.2.2.2.2.2.2.2.2.1 := by rw [hnL]; exact fun _ h => h
  show zS _ _ (zJ K 0 0 0 [(0, zR a0), (1, zI a1), (2, zI a2)] [] hp)
  unfold X8_address
  refine z_aload_n (pc := 0) (i := 0) 0 X dX8_address_0 rfl rfl ?_
  refine z_aload_n (pc := 1) (i := 0) 0 X dX8_address_1 rfl rfl ?_
  refine z_iload_n (pc := 2) (i := 1) 1 X dX8_address_2 rfl rfl ?_
  refine z_callV_i (pc := 3) (cells := 0) (slots := 0) (C := RX8) (T := TX8) (N := 30) (ci := 9) [zI a1] X dX8_address_3 (c_X8_isDoor hp a0 a1) kw_X8_169 rfl rfl ⟨rfl, rfl, ⟨by decide, by decide⟩, ⟨by decide, by decide⟩⟩ (Nat.le_of_ble_eq_true rfl) rfl (fun x1 => ?_)
  refine z_iconst (pc := 6) (z := 1) X dX8_address_6 rfl ⟨by decide, by decide⟩ ?_
  refine z_callV_i (pc := 7) (cells := 0) (slots := 0) (C := RX8) (T := TX8) (N := 30) (ci := 9) [zI x1, zI 1] X dX8_address_7 (c_X8_no hp a0 x1 1) kw_X8_93 rfl rfl ⟨rfl, rfl, ⟨by decide, by decide⟩, ⟨by decide, by decide⟩⟩ (Nat.le_of_ble_eq_true rfl) rfl (fun x2 => ?_)
  refine z_if_ne (pc := 10) 41 X dX8_address_10 (by decide) (fun _ => ?_) (fun _ => ?_)
  · refine z_iconst (pc := 41) (z := 0) X dX8_address_41 rfl ⟨by decide, by decide⟩ ?_
    refine z_goto (pc := 42) 56 X dX8_address_42 (by decide) ?_
    refine z_fin (fun e9 => ?_)
    subst e9
    exact hret _ _ _ _ (by decide) (by decide) dX8_address_56 trivial
  · refine z_aload_n (pc := 13) (i := 0) 0 X dX8_address_13 rfl rfl ?_
    refine z_aload_n (pc := 14) (i := 0) 0 X dX8_address_14 rfl rfl ?_
    refine z_getR (pc := 15) (C := RX8) (T := TX8) (N := 30) (ci := 9) 8 X dX8_address_15 inz_X8 rfl (by decide) fw_X8_34 (fun v3 => ?_)
    refine z_aload_n (pc := 18) (i := 0) 0 X dX8_address_18 rfl rfl ?_
    refine z_iload_n (pc := 19) (i := 1) 1 X dX8_address_19 rfl rfl ?_
    refine z_iload_n (pc := 20) (i := 2) 2 X dX8_address_20 rfl rfl ?_
    refine z_callV_i (pc := 21) (cells := 0) (slots := 0) (C := RX8) (T := TX8) (N := 30) (ci := 9) [zI a1, zI a2] X dX8_address_21 (c_X8_placeOf x2.2 a0 a1 a2) kw_X8_200 rfl rfl ⟨rfl, rfl, ⟨by decide, by decide⟩, ⟨by decide, by decide⟩⟩ (Nat.le_of_ble_eq_true rfl) rfl (fun x4 => ?_)
    refine z_iaload (pc := 24) X dX8_address_24 (fun v5 => ?_)
    refine z_iconst (pc := 25) (z := -1) X dX8_address_25 rfl ⟨by decide, by decide⟩ ?_
    have hJ34 : ∀ (j6 : Int), zS (X8_address_j34 a0 a1 a2 x2 j6) (fun r => r = r0) (zJ K 0 0 34 [(0, zR a0), (1, zI a1), (2, zI a2)] [zI j6, zR a0] x2.2) := by
      intro j6
      unfold X8_address_j34
      refine z_iconst (pc := 34) (z := 2) X dX8_address_34 rfl ⟨by decide, by decide⟩ ?_
      refine z_callV_i (pc := 35) (cells := 0) (slots := 0) (C := RX8) (T := TX8) (N := 30) (ci := 9) [zI j6, zI 2] X dX8_address_35 (c_X8_no x2.2 a0 j6 2) kw_X8_93 rfl rfl ⟨rfl, rfl, ⟨by decide, by decide⟩, ⟨by decide, by decide⟩⟩ (Nat.le_of_ble_eq_true rfl) rfl (fun x7 => ?_)
      refine z_if_eq (pc := 38) 45 X dX8_address_38 (by decide) (fun _ => ?_) (fun _ => ?_)
      · refine z_aload_n (pc := 45) (i := 0) 0 X dX8_address_45 rfl rfl ?_
        refine z_getR (pc := 46) (C := RX8) (T := TX8) (N := 30) (ci := 9) 11 X dX8_address_46 inz_X8 rfl (by decide) fw_X8_43 (fun v8 => ?_)
        refine z_aload_n (pc := 49) (i := 0) 0 X dX8_address_49 rfl rfl ?_
        refine z_iload_n (pc := 50) (i := 1) 1 X dX8_address_50 rfl rfl ?_
        refine z_iload_n (pc := 51) (i := 2) 2 X dX8_address_51 rfl rfl ?_
        refine z_callV_i (pc := 52) (cells := 0) (slots := 0) (C := RX8) (T := TX8) (N := 30) (ci := 9) [zI a1, zI a2] X dX8_address_52 (c_X8_placeOf x7.2 a0 a1 a2) kw_X8_200 rfl rfl ⟨rfl, rfl, ⟨by decide, by decide⟩, ⟨by decide, by decide⟩⟩ (Nat.le_of_ble_eq_true rfl) rfl (fun x9 => ?_)
        refine z_iaload (pc := 55) X dX8_address_55 (fun v10 => ?_)
        refine z_fin (fun e9 => ?_)
        subst e9
        exact hret _ _ _ _ (by decide) (by decide) dX8_address_56 trivial
      · refine z_iconst (pc := 41) (z := 0) X dX8_address_41 rfl ⟨by decide, by decide⟩ ?_
        refine z_goto (pc := 42) 56 X dX8_address_42 (by decide) ?_
        refine z_fin (fun e9 => ?_)
        subst e9
        exact hret _ _ _ _ (by decide) (by decide) dX8_address_56 trivial
    refine z_icmp_eq (pc := 26) 33 X dX8_address_26 (by decide) (fun _ => ?_) (fun _ => ?_)
    · refine z_iconst (pc := 33) (z := 0) X dX8_address_33 rfl ⟨by decide, by decide⟩ ?_
      exact hJ34 0
    · refine z_iconst (pc := 29) (z := 1) X dX8_address_29 rfl ⟨by decide, by decide⟩ ?_
      refine z_goto (pc := 30) 34 X dX8_address_30 (by decide) ?_
      exact hJ34 1
def X8_doorsOf_b4 (p1 : Option Nat) (p2 : Int) (h4 : zH) (s3 : Int × Int) : Option ((Int × Int) ⊕ (Int)) :=
  if 80 ≤ s3.2 then
    some (Sum.inr (s3.1))
  else
    (zgR h4 p1 9 8).bind fun v6 =>
    (zaI h4 0 v6 s3.2).bind fun v7 =>
    if v7 = p2 then
      (zchk (s3.1 + 1)).bind fun v10 =>
      (zchk (s3.2 + 1)).bind fun v11 =>
      some (Sum.inl (v10, v11))
    else
      (zchk (s3.1 + 0)).bind fun v8 =>
      (zchk (s3.2 + 1)).bind fun v9 =>
      some (Sum.inl (v8, v9))
def X8_doorsOf (hp : zH) (a0 : Option Nat) (a1 : Int) : Option Int :=
  (zloop (X8_doorsOf_b4 a0 a1 hp) zN (0, 0)).bind fun e5 =>
  some e5
set_option maxRecDepth 20000 in
theorem c_X8_doorsOf (hp : zH) (a0 : Option Nat) (a1 : Int) : ∀ r, X8_doorsOf hp a0 a1 = some r → zMi yX8_doorsOf (Cond.code yX8_doorsOf cX8_doorsOf 4 (some .int) :: zALL) { frames := 0, cells := 0, slots := 0, locals := 0 } 0 0 [zR a0, zI a1] hp r hp := by
  refine zMi_of (own := RX8) (cc := cX8_doorsOf) (maxL := 4) (res := fun r => r) (hp2 := fun _ => hp) (by decide) rfl (Or.inl rfl) (by exact Nat.le_of_ble_eq_true rfl) ?_
  intro K r0 X hnL hret
  have hN : ∀ i, i < 4 → i < K.2.2.2.2.2.2.2.2.2.2.2.2.2.2.1 := by rw [hnL]; exact fun _ h => h
  show zS _ _ (zJ K 0 0 0 [(0, zR a0), (1, zI a1)] [] hp)
  unfold X8_doorsOf
  refine z_iconst (pc := 0) (z := 0) X dX8_doorsOf_0 rfl ⟨by decide, by decide⟩ ?_
  refine z_istore_n (pc := 1) (i := 2) (lv' := [(2, zI 0), (0, zR a0), (1, zI a1)]) X dX8_doorsOf_1 rfl (hN _ (by decide)) rfl ?_
  refine z_iconst (pc := 2) (z := 0) X dX8_doorsOf_2 rfl ⟨by decide, by decide⟩ ?_
  refine z_istore_n (pc := 3) (i := 3) (lv' := [(3, zI 0), (2, zI 0), (0, zR a0), (1, zI a1)]) X dX8_doorsOf_3 rfl (hN _ (by decide)) rfl ?_
  refine z_pick [2, 3, 1, 0] (lv' := [(0, zR a0), (1, zI a1), (2, zI 0), (3, zI 0)]) rfl ?_
  refine z_bind (z_loop (body := X8_doorsOf_b4 a0 a1 hp) (fun s3 : Int × Int => zJ K 0 0 4 [(0, zR a0), (1, zI a1), (2, zI s3.1), (3, zI s3.2)] [] hp) (fun e5 : Int => zJ K 0 0 34 [(2, zI e5)] [] hp) (fun s3 => ?_) zN (0, 0)) (fun e5 => ?_)
  · unfold X8_doorsOf_b4
    refine z_iload_n (pc := 4) (i := 3) 3 X dX8_doorsOf_4 rfl rfl ?_
    refine z_bipush (pc := 5) (z := 80) X dX8_doorsOf_5 rfl ⟨by decide, by decide⟩ ?_
    refine z_icmp_ge (pc := 7) 34 X dX8_doorsOf_7 (by decide) (fun _ => ?_) (fun _ => ?_)
    · refine z_pick [2] (lv' := [(2, zI s3.1)]) rfl ?_
      exact z_exit
    · refine z_iload_n (pc := 10) (i := 2) 2 X dX8_doorsOf_10 rfl rfl ?_
      refine z_aload_n (pc := 11) (i := 0) 0 X dX8_doorsOf_11 rfl rfl ?_
      refine z_getR (pc := 12) (C := RX8) (T := TX8) (N := 30) (ci := 9) 8 X dX8_doorsOf_12 inz_X8 rfl (by decide) fw_X8_34 (fun v6 => ?_)
      refine z_iload_n (pc := 15) (i := 3) 3 X dX8_doorsOf_15 rfl rfl ?_
      refine z_iaload (pc := 16) X dX8_doorsOf_16 (fun v7 => ?_)
      refine z_iload_n (pc := 17) (i := 1) 1 X dX8_doorsOf_17 rfl rfl ?_
      refine z_icmp_ne (pc := 18) 25 X dX8_doorsOf_18 (by decide) (fun _ => ?_) (fun _ => ?_)
      · refine z_iconst (pc := 25) (z := 0) X dX8_doorsOf_25 rfl ⟨by decide, by decide⟩ ?_
        refine z_iadd (pc := 26) X dX8_doorsOf_26 (fun v8 _ _ => ?_)
        refine z_istore_n (pc := 27) (i := 2) (lv' := [(2, zI v8), (0, zR a0), (1, zI a1), (3, zI s3.2)]) X dX8_doorsOf_27 rfl (hN _ (by decide)) rfl ?_
        refine z_iinc (pc := 28) (i := 3) (n := 1) (lv' := fun v9 => [(3, zI v9), (2, zI v8), (0, zR a0), (1, zI a1)]) 3 X dX8_doorsOf_28 rfl (hN _ (by decide)) (fun _ => rfl) (fun v9 _ _ => ?_)
        refine z_goto (pc := 31) 4 X dX8_doorsOf_31 (by decide) ?_
        refine z_pick [2, 3, 1, 0] (lv' := [(0, zR a0), (1, zI a1), (2, zI v8), (3, zI v9)]) rfl ?_
        exact z_back
      · refine z_iconst (pc := 21) (z := 1) X dX8_doorsOf_21 rfl ⟨by decide, by decide⟩ ?_
        refine z_goto (pc := 22) 26 X dX8_doorsOf_22 (by decide) ?_
        refine z_iadd (pc := 26) X dX8_doorsOf_26 (fun v10 _ _ => ?_)
        refine z_istore_n (pc := 27) (i := 2) (lv' := [(2, zI v10), (0, zR a0), (1, zI a1), (3, zI s3.2)]) X dX8_doorsOf_27 rfl (hN _ (by decide)) rfl ?_
        refine z_iinc (pc := 28) (i := 3) (n := 1) (lv' := fun v11 => [(3, zI v11), (2, zI v10), (0, zR a0), (1, zI a1)]) 3 X dX8_doorsOf_28 rfl (hN _ (by decide)) (fun _ => rfl) (fun v11 _ _ => ?_)
        refine z_goto (pc := 31) 4 X dX8_doorsOf_31 (by decide) ?_
        refine z_pick [2, 3, 1, 0] (lv' := [(0, zR a0), (1, zI a1), (2, zI v10), (3, zI v11)]) rfl ?_
        exact z_back
  · refine z_iload_n (pc := 34) (i := 2) 0 X dX8_doorsOf_34 rfl rfl ?_
    refine z_fin (fun e9 => ?_)
    subst e9
    exact hret _ _ _ _ (by decide) (by decide) dX8_doorsOf_35 trivial
def X8_checksum_b6 (p1 : Option Nat) (h3 : zH) (s2 : Int64 × Int) : Option ((Int64 × Int) ⊕ (Int64)) :=
  (zgI h3 p1 9 7).bind fun v5 =>
  if v5 ≤ s2.2 then
    some (Sum.inr (s2.1))
  else
    (zgR h3 p1 9 5).bind fun v6 =>
    (zaI h3 2 v6 s2.2).bind fun v7 =>
    if v7 = 0 then
      (zgR h3 p1 9 2).bind fun v8 =>
      (zaI h3 0 v8 s2.2).bind fun v9 =>
      ((zobj h3 p1 9).bind fun _ => X8_doorsOf h3 p1 s2.2).bind fun x10 =>
      (zchk (s2.2 + 1)).bind fun v11 =>
      some (Sum.inl (((31 * ((31 * s2.1) + (Int64.ofInt v9))) + (Int64.ofInt x10)), v11))
    else
      (zchk (s2.2 + 1)).bind fun v12 =>
      some (Sum.inl (s2.1, v12))
def X8_checksum_b61 (p13 : Option Nat) (h15 : zH) (s14 : Int64 × Int) : Option ((Int64 × Int) ⊕ (Int64)) :=
  (zgI h15 p13 9 14).bind fun v17 =>
  if v17 ≤ s14.2 then
    some (Sum.inr (s14.1))
  else
    (zgR h15 p13 9 12).bind fun v18 =>
    (zaI h15 2 v18 s14.2).bind fun v19 =>
    if v19 = 0 then
      (zgR h15 p13 9 11).bind fun v20 =>
      (zchk (2 * s14.2)).bind fun v21 =>
      (zaI h15 0 v20 v21).bind fun v22 =>
      (zgR h15 p13 9 8).bind fun v23 =>
      (zchk (2 * s14.2)).bind fun v24 =>
      (zchk (v24 + 1)).bind fun v25 =>
      (zaI h15 0 v23 v25).bind fun v26 =>
      if v26 = (-1) then
        (zchk (s14.2 + 1)).bind fun v27 =>
        some (Sum.inl (((31 * s14.1) + (Int64.ofInt v22)), v27))
      else
        (zgR h15 p13 9 11).bind fun v28 =>
        (zchk (2 * s14.2)).bind fun v29 =>
        (zchk (v29 + 1)).bind fun v30 =>
        (zaI h15 0 v28 v30).bind fun v31 =>
        (zchk (s14.2 + 1)).bind fun v32 =>
        some (Sum.inl (((31 * ((31 * s14.1) + (Int64.ofInt v22))) + (Int64.ofInt v31)), v32))
    else
      (zchk (s14.2 + 1)).bind fun v33 =>
      some (Sum.inl (s14.1, v33))
def X8_checksum (hp : zH) (a0 : Option Nat) : Option Int64 :=
  (zloop (X8_checksum_b6 a0 hp) zN (7, 0)).bind fun e4 =>
  (zloop (X8_checksum_b61 a0 hp) zN (e4, 0)).bind fun e16 =>
  (zgI hp a0 9 19).bind fun v34 =>
  some (((31 * e16) + (Int64.ofInt v34)))
set_option maxRecDepth 20000 in
theorem c_X8_checksum (hp : zH) (a0 : Option Nat) : ∀ r, X8_checksum hp a0 = some r → zMl yX8_checksum (Cond.code yX8_checksum cX8_checksum 4 (some .long) :: zALL) { frames := 1, cells := 0, slots := 0, locals := 23 } 0 0 [zR a0] hp r hp := by
  refine zMl_of (own := RX8) (cc := cX8_checksum) (maxL := 4) (res := fun r => r) (hp2 := fun _ => hp) (by decide) rfl (by exact Nat.le_of_ble_eq_true rfl) ?_
  intro K r0 X hnL hret
  have hN : ∀ i, i < 4 → i < K.2.2.2.2.2.2.2.2.2.2.2.2.2.2.1 := by rw [hnL]; exact fun _ h => h
  show zS _ _ (zJ K 0 0 0 [(0, zR a0)] [] hp)
  unfold X8_checksum
  refine z_ldc2 (pc := 0) (z := 7) X dX8_checksum_0 (zin (zt6 42 (by decide +kernel)) rfl) ?_
  refine z_lstore_n (pc := 3) (i := 1) (lv' := [(1, zL 7), (0, zR a0)]) X dX8_checksum_3 rfl (hN _ (by decide)) rfl ?_
  refine z_iconst (pc := 4) (z := 0) X dX8_checksum_4 rfl ⟨by decide, by decide⟩ ?_
  refine z_istore_n (pc := 5) (i := 3) (lv' := [(3, zI 0), (1, zL 7), (0, zR a0)]) X dX8_checksum_5 rfl (hN _ (by decide)) rfl ?_
  refine z_pick [2, 1, 0] (lv' := [(0, zR a0), (1, zL 7), (3, zI 0)]) rfl ?_
  refine z_bind (z_loop (body := X8_checksum_b6 a0 hp) (fun s2 : Int64 × Int => zJ K 0 0 6 [(0, zR a0), (1, zL s2.1), (3, zI s2.2)] [] hp) (fun e4 : Int64 => zJ K 0 0 59 [(0, zR a0), (1, zL e4)] [] hp) (fun s2 => ?_) zN (7, 0)) (fun e4 => ?_)
  · unfold X8_checksum_b6
    refine z_iload_n (pc := 6) (i := 3) 2 X dX8_checksum_6 rfl rfl ?_
    refine z_aload_n (pc := 7) (i := 0) 0 X dX8_checksum_7 rfl rfl ?_
    refine z_getI (pc := 8) (C := RX8) (T := TX8) (N := 30) (ci := 9) 7 X dX8_checksum_8 inz_X8 rfl (by decide) fw_X8_83 (fun v5 => ?_)
    refine z_icmp_ge (pc := 11) 59 X dX8_checksum_11 (by decide) (fun _ => ?_) (fun _ => ?_)
    · refine z_pick [0, 1] (lv' := [(0, zR a0), (1, zL s2.1)]) rfl ?_
      exact z_exit
    · refine z_aload_n (pc := 14) (i := 0) 0 X dX8_checksum_14 rfl rfl ?_
      refine z_getR (pc := 15) (C := RX8) (T := TX8) (N := 30) (ci := 9) 5 X dX8_checksum_15 inz_X8 rfl (by decide) fw_X8_28 (fun v6 => ?_)
      refine z_iload_n (pc := 18) (i := 3) 2 X dX8_checksum_18 rfl rfl ?_
      refine z_zaload (pc := 19) X dX8_checksum_19 (fun v7 => ?_)
      refine z_if_eq (pc := 20) 26 X dX8_checksum_20 (by decide) (fun _ => ?_) (fun _ => ?_)
      · refine z_ldc2 (pc := 26) (z := 31) X dX8_checksum_26 (zin (zt6 43 (by decide +kernel)) rfl) ?_
        refine z_lload_n (pc := 29) (i := 1) 1 X dX8_checksum_29 rfl rfl ?_
        refine z_lmul (pc := 30) X dX8_checksum_30 ?_
        refine z_aload_n (pc := 31) (i := 0) 0 X dX8_checksum_31 rfl rfl ?_
        refine z_getR (pc := 32) (C := RX8) (T := TX8) (N := 30) (ci := 9) 2 X dX8_checksum_32 inz_X8 rfl (by decide) fw_X8_16 (fun v8 => ?_)
        refine z_iload_n (pc := 35) (i := 3) 2 X dX8_checksum_35 rfl rfl ?_
        refine z_iaload (pc := 36) X dX8_checksum_36 (fun v9 => ?_)
        refine z_i2l (pc := 37) X dX8_checksum_37 ?_
        refine z_ladd (pc := 38) X dX8_checksum_38 ?_
        refine z_lstore_n (pc := 39) (i := 1) (lv' := [(1, zL ((31 * s2.1) + (Int64.ofInt v9))), (0, zR a0), (3, zI s2.2)]) X dX8_checksum_39 rfl (hN _ (by decide)) rfl ?_
        refine z_ldc2 (pc := 40) (z := 31) X dX8_checksum_40 (zin (zt6 43 (by decide +kernel)) rfl) ?_
        refine z_lload_n (pc := 43) (i := 1) 0 X dX8_checksum_43 rfl rfl ?_
        refine z_lmul (pc := 44) X dX8_checksum_44 ?_
        refine z_aload_n (pc := 45) (i := 0) 1 X dX8_checksum_45 rfl rfl ?_
        refine z_iload_n (pc := 46) (i := 3) 2 X dX8_checksum_46 rfl rfl ?_
        refine z_callV_i (pc := 47) (cells := 0) (slots := 0) (C := RX8) (T := TX8) (N := 30) (ci := 9) [zI s2.2] X dX8_checksum_47 (c_X8_doorsOf hp a0 s2.2) kw_X8_209 rfl rfl ⟨rfl, rfl, ⟨by decide, by decide⟩, ⟨by decide, by decide⟩⟩ (Nat.le_of_ble_eq_true rfl) rfl (fun x10 => ?_)
        refine z_i2l (pc := 50) X dX8_checksum_50 ?_
        refine z_ladd (pc := 51) X dX8_checksum_51 ?_
        refine z_lstore_n (pc := 52) (i := 1) (lv' := [(1, zL ((31 * ((31 * s2.1) + (Int64.ofInt v9))) + (Int64.ofInt x10))), (0, zR a0), (3, zI s2.2)]) X dX8_checksum_52 rfl (hN _ (by decide)) rfl ?_
        refine z_iinc (pc := 53) (i := 3) (n := 1) (lv' := fun v11 => [(3, zI v11), (1, zL ((31 * ((31 * s2.1) + (Int64.ofInt v9))) + (Int64.ofInt x10))), (0, zR a0)]) 2 X dX8_checksum_53 rfl (hN _ (by decide)) (fun _ => rfl) (fun v11 _ _ => ?_)
        refine z_goto (pc := 56) 6 X dX8_checksum_56 (by decide) ?_
        refine z_pick [2, 1, 0] (lv' := [(0, zR a0), (1, zL ((31 * ((31 * s2.1) + (Int64.ofInt v9))) + (Int64.ofInt x10))), (3, zI v11)]) rfl ?_
        exact z_back
      · refine z_goto (pc := 23) 53 X dX8_checksum_23 (by decide) ?_
        refine z_iinc (pc := 53) (i := 3) (n := 1) (lv' := fun v12 => [(3, zI v12), (0, zR a0), (1, zL s2.1)]) 2 X dX8_checksum_53 rfl (hN _ (by decide)) (fun _ => rfl) (fun v12 _ _ => ?_)
        refine z_goto (pc := 56) 6 X dX8_checksum_56 (by decide) ?_
        refine z_pick [1, 2, 0] (lv' := [(0, zR a0), (1, zL s2.1), (3, zI v12)]) rfl ?_
        exact z_back
  · refine z_iconst (pc := 59) (z := 0) X dX8_checksum_59 rfl ⟨by decide, by decide⟩ ?_
    refine z_istore_n (pc := 60) (i := 3) (lv' := [(3, zI 0), (0, zR a0), (1, zL e4)]) X dX8_checksum_60 rfl (hN _ (by decide)) rfl ?_
    refine z_pick [1, 2, 0] (lv' := [(0, zR a0), (1, zL e4), (3, zI 0)]) rfl ?_
    refine z_bind (z_loop (body := X8_checksum_b61 a0 hp) (fun s14 : Int64 × Int => zJ K 0 0 61 [(0, zR a0), (1, zL s14.1), (3, zI s14.2)] [] hp) (fun e16 : Int64 => zJ K 0 0 135 [(0, zR a0), (1, zL e16)] [] hp) (fun s14 => ?_) zN (e4, 0)) (fun e16 => ?_)
    · unfold X8_checksum_b61
      refine z_iload_n (pc := 61) (i := 3) 2 X dX8_checksum_61 rfl rfl ?_
      refine z_aload_n (pc := 62) (i := 0) 0 X dX8_checksum_62 rfl rfl ?_
      refine z_getI (pc := 63) (C := RX8) (T := TX8) (N := 30) (ci := 9) 14 X dX8_checksum_63 inz_X8 rfl (by decide) fw_X8_90 (fun v17 => ?_)
      refine z_icmp_ge (pc := 66) 135 X dX8_checksum_66 (by decide) (fun _ => ?_) (fun _ => ?_)
      · refine z_pick [0, 1] (lv' := [(0, zR a0), (1, zL s14.1)]) rfl ?_
        exact z_exit
      · refine z_aload_n (pc := 69) (i := 0) 0 X dX8_checksum_69 rfl rfl ?_
        refine z_getR (pc := 70) (C := RX8) (T := TX8) (N := 30) (ci := 9) 12 X dX8_checksum_70 inz_X8 rfl (by decide) fw_X8_46 (fun v18 => ?_)
        refine z_iload_n (pc := 73) (i := 3) 2 X dX8_checksum_73 rfl rfl ?_
        refine z_zaload (pc := 74) X dX8_checksum_74 (fun v19 => ?_)
        refine z_if_eq (pc := 75) 81 X dX8_checksum_75 (by decide) (fun _ => ?_) (fun _ => ?_)
        · refine z_ldc2 (pc := 81) (z := 31) X dX8_checksum_81 (zin (zt6 43 (by decide +kernel)) rfl) ?_
          refine z_lload_n (pc := 84) (i := 1) 1 X dX8_checksum_84 rfl rfl ?_
          refine z_lmul (pc := 85) X dX8_checksum_85 ?_
          refine z_aload_n (pc := 86) (i := 0) 0 X dX8_checksum_86 rfl rfl ?_
          refine z_getR (pc := 87) (C := RX8) (T := TX8) (N := 30) (ci := 9) 11 X dX8_checksum_87 inz_X8 rfl (by decide) fw_X8_43 (fun v20 => ?_)
          refine z_iconst (pc := 90) (z := 2) X dX8_checksum_90 rfl ⟨by decide, by decide⟩ ?_
          refine z_iload_n (pc := 91) (i := 3) 2 X dX8_checksum_91 rfl rfl ?_
          refine z_imul (pc := 92) X dX8_checksum_92 (fun v21 _ _ => ?_)
          refine z_iaload (pc := 93) X dX8_checksum_93 (fun v22 => ?_)
          refine z_i2l (pc := 94) X dX8_checksum_94 ?_
          refine z_ladd (pc := 95) X dX8_checksum_95 ?_
          refine z_lstore_n (pc := 96) (i := 1) (lv' := [(1, zL ((31 * s14.1) + (Int64.ofInt v22))), (0, zR a0), (3, zI s14.2)]) X dX8_checksum_96 rfl (hN _ (by decide)) rfl ?_
          refine z_aload_n (pc := 97) (i := 0) 1 X dX8_checksum_97 rfl rfl ?_
          refine z_getR (pc := 98) (C := RX8) (T := TX8) (N := 30) (ci := 9) 8 X dX8_checksum_98 inz_X8 rfl (by decide) fw_X8_34 (fun v23 => ?_)
          refine z_iconst (pc := 101) (z := 2) X dX8_checksum_101 rfl ⟨by decide, by decide⟩ ?_
          refine z_iload_n (pc := 102) (i := 3) 2 X dX8_checksum_102 rfl rfl ?_
          refine z_imul (pc := 103) X dX8_checksum_103 (fun v24 _ _ => ?_)
          refine z_iconst (pc := 104) (z := 1) X dX8_checksum_104 rfl ⟨by decide, by decide⟩ ?_
          refine z_iadd (pc := 105) X dX8_checksum_105 (fun v25 _ _ => ?_)
          refine z_iaload (pc := 106) X dX8_checksum_106 (fun v26 => ?_)
          refine z_iconst (pc := 107) (z := -1) X dX8_checksum_107 rfl ⟨by decide, by decide⟩ ?_
          refine z_icmp_eq (pc := 108) 129 X dX8_checksum_108 (by decide) (fun _ => ?_) (fun _ => ?_)
          · refine z_iinc (pc := 129) (i := 3) (n := 1) (lv' := fun v27 => [(3, zI v27), (1, zL ((31 * s14.1) + (Int64.ofInt v22))), (0, zR a0)]) 2 X dX8_checksum_129 rfl (hN _ (by decide)) (fun _ => rfl) (fun v27 _ _ => ?_)
            refine z_goto (pc := 132) 61 X dX8_checksum_132 (by decide) ?_
            refine z_pick [2, 1, 0] (lv' := [(0, zR a0), (1, zL ((31 * s14.1) + (Int64.ofInt v22))), (3, zI v27)]) rfl ?_
            exact z_back
          · refine z_ldc2 (pc := 111) (z := 31) X dX8_checksum_111 (zin (zt6 43 (by decide +kernel)) rfl) ?_
            refine z_lload_n (pc := 114) (i := 1) 0 X dX8_checksum_114 rfl rfl ?_
            refine z_lmul (pc := 115) X dX8_checksum_115 ?_
            refine z_aload_n (pc := 116) (i := 0) 1 X dX8_checksum_116 rfl rfl ?_
            refine z_getR (pc := 117) (C := RX8) (T := TX8) (N := 30) (ci := 9) 11 X dX8_checksum_117 inz_X8 rfl (by decide) fw_X8_43 (fun v28 => ?_)
            refine z_iconst (pc := 120) (z := 2) X dX8_checksum_120 rfl ⟨by decide, by decide⟩ ?_
            refine z_iload_n (pc := 121) (i := 3) 2 X dX8_checksum_121 rfl rfl ?_
            refine z_imul (pc := 122) X dX8_checksum_122 (fun v29 _ _ => ?_)
            refine z_iconst (pc := 123) (z := 1) X dX8_checksum_123 rfl ⟨by decide, by decide⟩ ?_
            refine z_iadd (pc := 124) X dX8_checksum_124 (fun v30 _ _ => ?_)
            refine z_iaload (pc := 125) X dX8_checksum_125 (fun v31 => ?_)
            refine z_i2l (pc := 126) X dX8_checksum_126 ?_
            refine z_ladd (pc := 127) X dX8_checksum_127 ?_
            refine z_lstore_n (pc := 128) (i := 1) (lv' := [(1, zL ((31 * ((31 * s14.1) + (Int64.ofInt v22))) + (Int64.ofInt v31))), (0, zR a0), (3, zI s14.2)]) X dX8_checksum_128 rfl (hN _ (by decide)) rfl ?_
            refine z_iinc (pc := 129) (i := 3) (n := 1) (lv' := fun v32 => [(3, zI v32), (1, zL ((31 * ((31 * s14.1) + (Int64.ofInt v22))) + (Int64.ofInt v31))), (0, zR a0)]) 2 X dX8_checksum_129 rfl (hN _ (by decide)) (fun _ => rfl) (fun v32 _ _ => ?_)
            refine z_goto (pc := 132) 61 X dX8_checksum_132 (by decide) ?_
            refine z_pick [2, 1, 0] (lv' := [(0, zR a0), (1, zL ((31 * ((31 * s14.1) + (Int64.ofInt v22))) + (Int64.ofInt v31))), (3, zI v32)]) rfl ?_
            exact z_back
        · refine z_goto (pc := 78) 129 X dX8_checksum_78 (by decide) ?_
          refine z_iinc (pc := 129) (i := 3) (n := 1) (lv' := fun v33 => [(3, zI v33), (0, zR a0), (1, zL s14.1)]) 2 X dX8_checksum_129 rfl (hN _ (by decide)) (fun _ => rfl) (fun v33 _ _ => ?_)
          refine z_goto (pc := 132) 61 X dX8_checksum_132 (by decide) ?_
          refine z_pick [1, 2, 0] (lv' := [(0, zR a0), (1, zL s14.1), (3, zI v33)]) rfl ?_
          exact z_back
    · refine z_ldc2 (pc := 135) (z := 31) X dX8_checksum_135 (zin (zt6 43 (by decide +kernel)) rfl) ?_
      refine z_lload_n (pc := 138) (i := 1) 1 X dX8_checksum_138 rfl rfl ?_
      refine z_lmul (pc := 139) X dX8_checksum_139 ?_
      refine z_aload_n (pc := 140) (i := 0) 0 X dX8_checksum_140 rfl rfl ?_
      refine z_getI (pc := 141) (C := RX8) (T := TX8) (N := 30) (ci := 9) 19 X dX8_checksum_141 inz_X8 rfl (by decide) fw_X8_118 (fun v34 => ?_)
      refine z_i2l (pc := 144) X dX8_checksum_144 ?_
      refine z_ladd (pc := 145) X dX8_checksum_145 ?_
      refine z_fin (fun e9 => ?_)
      subst e9
      exact hret _ _ _ _ (by decide) (by decide) dX8_checksum_146
def X8_isStreet (hp : zH) (a0 : Option Nat) (a1 : Int) : Option Int :=
  (zgI hp a0 9 7).bind fun v1 =>
  (zchk (v1 - 1)).bind fun v2 =>
  (X8_isBetween hp a1 0 v2).bind fun x3 =>
  if x3 = 0 then
    some 0
  else
    (zgR hp a0 9 5).bind fun v4 =>
    (zaI hp 2 v4 a1).bind fun v5 =>
    if v5 = 0 then
      some 1
    else
      some 0
set_option maxRecDepth 20000 in
theorem c_X8_isStreet (hp : zH) (a0 : Option Nat) (a1 : Int) : ∀ r, X8_isStreet hp a0 a1 = some r → zMi yX8_isStreet (Cond.code yX8_isStreet cX8_isStreet 2 (some .boolean) :: zALL) { frames := 1, cells := 0, slots := 0, locals := 22 } 0 0 [zR a0, zI a1] hp r hp := by
  refine zMi_of (own := RX8) (cc := cX8_isStreet) (maxL := 2) (res := fun r => r) (hp2 := fun _ => hp) (by decide) rfl (Or.inr (Or.inl rfl)) (by exact Nat.le_of_ble_eq_true rfl) ?_
  intro K r0 X hnL hret
  have hN : ∀ i, i < 2 → i < K.2.2.2.2.2.2.2.2.2.2.2.2.2.2.1 := by rw [hnL]; exact fun _ h => h
  show zS _ _ (zJ K 0 0 0 [(0, zR a0), (1, zI a1)] [] hp)
  unfold X8_isStreet
  refine z_iload_n (pc := 0) (i := 1) 1 X dX8_isStreet_0 rfl rfl ?_
  refine z_iconst (pc := 1) (z := 0) X dX8_isStreet_1 rfl ⟨by decide, by decide⟩ ?_
  refine z_aload_n (pc := 2) (i := 0) 0 X dX8_isStreet_2 rfl rfl ?_
  refine z_getI (pc := 3) (C := RX8) (T := TX8) (N := 30) (ci := 9) 7 X dX8_isStreet_3 inz_X8 rfl (by decide) fw_X8_83 (fun v1 => ?_)
  refine z_iconst (pc := 6) (z := 1) X dX8_isStreet_6 rfl ⟨by decide, by decide⟩ ?_
  refine z_isub (pc := 7) X dX8_isStreet_7 (fun v2 _ _ => ?_)
  refine z_callS_i (pc := 8) (cells := 0) (slots := 0) [zI a1, zI 0, zI v2] X dX8_isStreet_8 (c_X8_isBetween hp a1 0 v2) kw_X8_86 rfl ⟨rfl, rfl, ⟨by decide, by decide⟩, ⟨by decide, by decide⟩⟩ (Nat.le_of_ble_eq_true rfl) rfl (fun x3 => ?_)
  refine z_if_eq (pc := 11) 27 X dX8_isStreet_11 (by decide) (fun _ => ?_) (fun _ => ?_)
  · refine z_iconst (pc := 27) (z := 0) X dX8_isStreet_27 rfl ⟨by decide, by decide⟩ ?_
    refine z_fin (fun e9 => ?_)
    subst e9
    exact hret _ _ _ _ (by decide) (by decide) dX8_isStreet_28 (Or.inl rfl)
  · refine z_aload_n (pc := 14) (i := 0) 0 X dX8_isStreet_14 rfl rfl ?_
    refine z_getR (pc := 15) (C := RX8) (T := TX8) (N := 30) (ci := 9) 5 X dX8_isStreet_15 inz_X8 rfl (by decide) fw_X8_28 (fun v4 => ?_)
    refine z_iload_n (pc := 18) (i := 1) 1 X dX8_isStreet_18 rfl rfl ?_
    refine z_zaload (pc := 19) X dX8_isStreet_19 (fun v5 => ?_)
    refine z_if_ne (pc := 20) 27 X dX8_isStreet_20 (by decide) (fun _ => ?_) (fun _ => ?_)
    · refine z_iconst (pc := 27) (z := 0) X dX8_isStreet_27 rfl ⟨by decide, by decide⟩ ?_
      refine z_fin (fun e9 => ?_)
      subst e9
      exact hret _ _ _ _ (by decide) (by decide) dX8_isStreet_28 (Or.inl rfl)
    · refine z_iconst (pc := 23) (z := 1) X dX8_isStreet_23 rfl ⟨by decide, by decide⟩ ?_
      refine z_goto (pc := 24) 28 X dX8_isStreet_24 (by decide) ?_
      refine z_fin (fun e9 => ?_)
      subst e9
      exact hret _ _ _ _ (by decide) (by decide) dX8_isStreet_28 (Or.inr rfl)
def X8_from (hp : zH) (a0 : Option Nat) (a1 : Int) (a2 : Int) : Option Int :=
  (zgR hp a0 9 4).bind fun v1 =>
  (zaI hp 2 v1 a1).bind fun v2 =>
  if v2 = 0 then
    some a2
  else
    (zgR hp a0 9 2).bind fun v3 =>
    (zaI hp 0 v3 a1).bind fun v4 =>
    (zchk (v4 - a2)).bind fun v5 =>
    some v5
set_option maxRecDepth 20000 in
theorem c_X8_from (hp : zH) (a0 : Option Nat) (a1 : Int) (a2 : Int) : ∀ r, X8_from hp a0 a1 a2 = some r → zMi yX8_from (Cond.code yX8_from cX8_from 3 (some .int) :: zALL) { frames := 0, cells := 0, slots := 0, locals := 0 } 0 0 [zR a0, zI a1, zI a2] hp r hp := by
  refine zMi_of (own := RX8) (cc := cX8_from) (maxL := 3) (res := fun r => r) (hp2 := fun _ => hp) (by decide) rfl (Or.inl rfl) (by exact Nat.le_of_ble_eq_true rfl) ?_
  intro K r0 X hnL hret
  have hN : ∀ i, i < 3 → i < K.2.2.2.2.2.2.2.2.2.2.2.2.2.2.1 := by rw [hnL]; exact fun _ h => h
  show zS _ _ (zJ K 0 0 0 [(0, zR a0), (1, zI a1), (2, zI a2)] [] hp)
  unfold X8_from
  refine z_aload_n (pc := 0) (i := 0) 0 X dX8_from_0 rfl rfl ?_
  refine z_getR (pc := 1) (C := RX8) (T := TX8) (N := 30) (ci := 9) 4 X dX8_from_1 inz_X8 rfl (by decide) fw_X8_24 (fun v1 => ?_)
  refine z_iload_n (pc := 4) (i := 1) 1 X dX8_from_4 rfl rfl ?_
  refine z_zaload (pc := 5) X dX8_from_5 (fun v2 => ?_)
  refine z_if_eq (pc := 6) 20 X dX8_from_6 (by decide) (fun _ => ?_) (fun _ => ?_)
  · refine z_iload_n (pc := 20) (i := 2) 2 X dX8_from_20 rfl rfl ?_
    refine z_fin (fun e9 => ?_)
    subst e9
    exact hret _ _ _ _ (by decide) (by decide) dX8_from_21 trivial
  · refine z_aload_n (pc := 9) (i := 0) 0 X dX8_from_9 rfl rfl ?_
    refine z_getR (pc := 10) (C := RX8) (T := TX8) (N := 30) (ci := 9) 2 X dX8_from_10 inz_X8 rfl (by decide) fw_X8_16 (fun v3 => ?_)
    refine z_iload_n (pc := 13) (i := 1) 1 X dX8_from_13 rfl rfl ?_
    refine z_iaload (pc := 14) X dX8_from_14 (fun v4 => ?_)
    refine z_iload_n (pc := 15) (i := 2) 2 X dX8_from_15 rfl rfl ?_
    refine z_isub (pc := 16) X dX8_from_16 (fun v5 _ _ => ?_)
    refine z_goto (pc := 17) 21 X dX8_from_17 (by decide) ?_
    refine z_fin (fun e9 => ?_)
    subst e9
    exact hret _ _ _ _ (by decide) (by decide) dX8_from_21 trivial
def X8_isFarther (hp : zH) (a0 : Option Nat) (a1 : Int) (a2 : Int) (a3 : Int) : Option Int :=
  (zgR hp a0 9 9).bind fun v1 =>
  (zaI hp 0 v1 a2).bind fun v2 =>
  ((zobj hp a0 9).bind fun _ => X8_from hp a0 a1 v2).bind fun x3 =>
  (zgR hp a0 9 9).bind fun v4 =>
  (zaI hp 0 v4 a3).bind fun v5 =>
  ((zobj hp a0 9).bind fun _ => X8_from hp a0 a1 v5).bind fun x6 =>
  if x6 < x3 then
    some 1
  else
    if x3 = x6 then
      (zdiv a2 2).bind fun v7 =>
      (zdiv a3 2).bind fun v8 =>
      if v7 ≤ v8 then
        some 0
      else
        some 1
    else
      some 0
set_option maxRecDepth 20000 in
theorem c_X8_isFarther (hp : zH) (a0 : Option Nat) (a1 : Int) (a2 : Int) (a3 : Int) : ∀ r, X8_isFarther hp a0 a1 a2 a3 = some r → zMi yX8_isFarther (Cond.code yX8_isFarther cX8_isFarther 6 (some .boolean) :: zALL) { frames := 1, cells := 0, slots := 0, locals := 22 } 0 0 [zR a0, zI a1, zI a2, zI a3] hp r hp := by
  refine zMi_of (own := RX8) (cc := cX8_isFarther) (maxL := 6) (res := fun r => r) (hp2 := fun _ => hp) (by decide) rfl (Or.inr (Or.inl rfl)) (by exact Nat.le_of_ble_eq_true rfl) ?_
  intro K r0 X hnL hret
  have hN : ∀ i, i < 6 → i < K.2.2.2.2.2.2.2.2.2.2.2.2.2.2.1 := by rw [hnL]; exact fun _ h => h
  show zS _ _ (zJ K 0 0 0 [(0, zR a0), (1, zI a1), (2, zI a2), (3, zI a3)] [] hp)
  unfold X8_isFarther
  refine z_aload_n (pc := 0) (i := 0) 0 X dX8_isFarther_0 rfl rfl ?_
  refine z_iload_n (pc := 1) (i := 1) 1 X dX8_isFarther_1 rfl rfl ?_
  refine z_aload_n (pc := 2) (i := 0) 0 X dX8_isFarther_2 rfl rfl ?_
  refine z_getR (pc := 3) (C := RX8) (T := TX8) (N := 30) (ci := 9) 9 X dX8_isFarther_3 inz_X8 rfl (by decide) fw_X8_37 (fun v1 => ?_)
  refine z_iload_n (pc := 6) (i := 2) 2 X dX8_isFarther_6 rfl rfl ?_
  refine z_iaload (pc := 7) X dX8_isFarther_7 (fun v2 => ?_)
  refine z_callV_i (pc := 8) (cells := 0) (slots := 0) (C := RX8) (T := TX8) (N := 30) (ci := 9) [zI a1, zI v2] X dX8_isFarther_8 (c_X8_from hp a0 a1 v2) kw_X8_144 rfl rfl ⟨rfl, rfl, ⟨by decide, by decide⟩, ⟨by decide, by decide⟩⟩ (Nat.le_of_ble_eq_true rfl) rfl (fun x3 => ?_)
  refine z_istore (pc := 11) (i := 4) (lv' := [(4, zI x3), (0, zR a0), (1, zI a1), (2, zI a2), (3, zI a3)]) X dX8_isFarther_11 (hN _ (by decide)) rfl ?_
  refine z_aload_n (pc := 13) (i := 0) 1 X dX8_isFarther_13 rfl rfl ?_
  refine z_iload_n (pc := 14) (i := 1) 2 X dX8_isFarther_14 rfl rfl ?_
  refine z_aload_n (pc := 15) (i := 0) 1 X dX8_isFarther_15 rfl rfl ?_
  refine z_getR (pc := 16) (C := RX8) (T := TX8) (N := 30) (ci := 9) 9 X dX8_isFarther_16 inz_X8 rfl (by decide) fw_X8_37 (fun v4 => ?_)
  refine z_iload_n (pc := 19) (i := 3) 4 X dX8_isFarther_19 rfl rfl ?_
  refine z_iaload (pc := 20) X dX8_isFarther_20 (fun v5 => ?_)
  refine z_callV_i (pc := 21) (cells := 0) (slots := 0) (C := RX8) (T := TX8) (N := 30) (ci := 9) [zI a1, zI v5] X dX8_isFarther_21 (c_X8_from hp a0 a1 v5) kw_X8_144 rfl rfl ⟨rfl, rfl, ⟨by decide, by decide⟩, ⟨by decide, by decide⟩⟩ (Nat.le_of_ble_eq_true rfl) rfl (fun x6 => ?_)
  refine z_istore (pc := 24) (i := 5) (lv' := [(5, zI x6), (4, zI x3), (0, zR a0), (1, zI a1), (2, zI a2), (3, zI a3)]) X dX8_isFarther_24 (hN _ (by decide)) rfl ?_
  refine z_iload (pc := 26) (i := 4) 1 X dX8_isFarther_26 rfl ?_
  refine z_iload (pc := 28) (i := 5) 0 X dX8_isFarther_28 rfl ?_
  refine z_icmp_gt (pc := 30) 49 X dX8_isFarther_30 (by decide) (fun _ => ?_) (fun _ => ?_)
  · refine z_iconst (pc := 49) (z := 1) X dX8_isFarther_49 rfl ⟨by decide, by decide⟩ ?_
    refine z_goto (pc := 50) 54 X dX8_isFarther_50 (by decide) ?_
    refine z_fin (fun e9 => ?_)
    subst e9
    exact hret _ _ _ _ (by decide) (by decide) dX8_isFarther_54 (Or.inr rfl)
  · refine z_iload (pc := 33) (i := 4) 1 X dX8_isFarther_33 rfl ?_
    refine z_iload (pc := 35) (i := 5) 0 X dX8_isFarther_35 rfl ?_
    refine z_icmp_ne (pc := 37) 53 X dX8_isFarther_37 (by decide) (fun _ => ?_) (fun _ => ?_)
    · refine z_iconst (pc := 53) (z := 0) X dX8_isFarther_53 rfl ⟨by decide, by decide⟩ ?_
      refine z_fin (fun e9 => ?_)
      subst e9
      exact hret _ _ _ _ (by decide) (by decide) dX8_isFarther_54 (Or.inl rfl)
    · refine z_iload_n (pc := 40) (i := 2) 4 X dX8_isFarther_40 rfl rfl ?_
      refine z_iconst (pc := 41) (z := 2) X dX8_isFarther_41 rfl ⟨by decide, by decide⟩ ?_
      refine z_idiv (pc := 42) X dX8_isFarther_42 (fun v7 => ?_)
      refine z_iload_n (pc := 43) (i := 3) 5 X dX8_isFarther_43 rfl rfl ?_
      refine z_iconst (pc := 44) (z := 2) X dX8_isFarther_44 rfl ⟨by decide, by decide⟩ ?_
      refine z_idiv (pc := 45) X dX8_isFarther_45 (fun v8 => ?_)
      refine z_icmp_le (pc := 46) 53 X dX8_isFarther_46 (by decide) (fun _ => ?_) (fun _ => ?_)
      · refine z_iconst (pc := 53) (z := 0) X dX8_isFarther_53 rfl ⟨by decide, by decide⟩ ?_
        refine z_fin (fun e9 => ?_)
        subst e9
        exact hret _ _ _ _ (by decide) (by decide) dX8_isFarther_54 (Or.inl rfl)
      · refine z_iconst (pc := 49) (z := 1) X dX8_isFarther_49 rfl ⟨by decide, by decide⟩ ?_
        refine z_goto (pc := 50) 54 X dX8_isFarther_50 (by decide) ?_
        refine z_fin (fun e9 => ?_)
        subst e9
        exact hret _ _ _ _ (by decide) (by decide) dX8_isFarther_54 (Or.inr rfl)
def X8_clashes_j91 (p10 : Option Nat) (p11 : Int) (p12 : Int) (h14 : zH) (s13 : Int × Int) (j18 : Int) : Option ((Int × Int) ⊕ (Int)) :=
  if j18 = 0 then
    (zchk (s13.1 + 0)).bind fun v19 =>
    (zchk (s13.2 + 1)).bind fun v20 =>
    some (Sum.inl (v19, v20))
  else
    ((zobj h14 p10 9).bind fun _ => X8_isFarther h14 p10 p11 p12 s13.2).bind fun x21 =>
    if x21 = 0 then
      (zchk (s13.1 + 0)).bind fun v22 =>
      (zchk (s13.2 + 1)).bind fun v23 =>
      some (Sum.inl (v22, v23))
    else
      (zgR h14 p10 9 11).bind fun v24 =>
      (zaI h14 0 v24 p12).bind fun v25 =>
      (zgR h14 p10 9 11).bind fun v26 =>
      (zaI h14 0 v26 s13.2).bind fun v27 =>
      if v27 ≤ v25 then
        (zchk (s13.1 + 0)).bind fun v28 =>
        (zchk (s13.2 + 1)).bind fun v29 =>
        some (Sum.inl (v28, v29))
      else
        (zchk (s13.1 + 1)).bind fun v30 =>
        (zchk (s13.2 + 1)).bind fun v31 =>
        some (Sum.inl (v30, v31))
def X8_clashes_j90 (p10 : Option Nat) (p11 : Int) (p12 : Int) (h14 : zH) (s13 : Int × Int) : Option ((Int × Int) ⊕ (Int)) :=
  X8_clashes_j91 p10 p11 p12 h14 s13 0
def X8_clashes_b32 (p10 : Option Nat) (p11 : Int) (p12 : Int) (h14 : zH) (s13 : Int × Int) : Option ((Int × Int) ⊕ (Int)) :=
  (zgI h14 p10 9 14).bind fun v16 =>
  (zchk (2 * v16)).bind fun v17 =>
  if v17 ≤ s13.2 then
    some (Sum.inr (s13.1))
  else
    if p12 = s13.2 then
      X8_clashes_j90 p10 p11 p12 h14 s13
    else
      (zgR h14 p10 9 8).bind fun v32 =>
      (zaI h14 0 v32 p12).bind fun v33 =>
      if v33 = p11 then
        (zgR h14 p10 9 8).bind fun v34 =>
        (zaI h14 0 v34 s13.2).bind fun v35 =>
        if v35 = p11 then
          (zgR h14 p10 9 10).bind fun v36 =>
          (zaI h14 3 v36 p12).bind fun v37 =>
          (zgR h14 p10 9 10).bind fun v38 =>
          (zaI h14 3 v38 s13.2).bind fun v39 =>
          if v37 = v39 then
            X8_clashes_j91 p10 p11 p12 h14 s13 1
          else
            X8_clashes_j90 p10 p11 p12 h14 s13
        else
          X8_clashes_j90 p10 p11 p12 h14 s13
      else
        X8_clashes_j90 p10 p11 p12 h14 s13
def X8_clashes_b19 (p3 : Option Nat) (p4 : Int) (h6 : zH) (s5 : Int × Int) : Option ((Int × Int) ⊕ (Int)) :=
  (zgI h6 p3 9 14).bind fun v8 =>
  (zchk (2 * v8)).bind fun v9 =>
  if v9 ≤ s5.2 then
    some (Sum.inr (s5.1))
  else
    (zloop (X8_clashes_b32 p3 p4 s5.2 h6) zN (s5.1, 0)).bind fun e15 =>
    (zchk (s5.2 + 1)).bind fun v40 =>
    some (Sum.inl (e15, v40))
def X8_clashes (hp : zH) (a0 : Option Nat) (a1 : Int) : Option (Int × zH) :=
  ((zobj hp a0 9).bind fun _ => X8_isStreet hp a0 a1).bind fun x1 =>
  ((zobj hp a0 9).bind fun _ => X8_no hp a0 x1 1).bind fun x2 =>
  if x2.1 = 0 then
    (zloop (X8_clashes_b19 a0 a1 x2.2) zN (0, 0)).bind fun e7 =>
    some (e7, x2.2)
  else
    some (0, x2.2)
set_option maxRecDepth 20000 in
theorem c_X8_clashes (hp : zH) (a0 : Option Nat) (a1 : Int) : ∀ r, X8_clashes hp a0 a1 = some r → zMi yX8_clashes (Cond.code yX8_clashes cX8_clashes 6 (some .int) :: zALL) { frames := 2, cells := 0, slots := 0, locals := 47 } 0 0 [zR a0, zI a1] hp r.1 r.2 := by
  refine zMi_of (own := RX8) (cc := cX8_clashes) (maxL := 6) (ε := (Int × zH)) (res := fun r => r.1) (hp2 := fun r => r.2) (by decide) rfl (Or.inl rfl) (by exact Nat.le_of_ble_eq_true rfl) ?_
  intro K r0 X hnL hret
  have hN : ∀ i, i < 6 → i < K.2.2.2.2.2.2.2.2.2.2.2.2.2.2.1 := by rw [hnL]; exact fun _ h => h
  show zS _ _ (zJ K 0 0 0 [(0, zR a0), (1, zI a1)] [] hp)
  unfold X8_clashes
  refine z_aload_n (pc := 0) (i := 0) 0 X dX8_clashes_0 rfl rfl ?_
  refine z_aload_n (pc := 1) (i := 0) 0 X dX8_clashes_1 rfl rfl ?_
  refine z_iload_n (pc := 2) (i := 1) 1 X dX8_clashes_2 rfl rfl ?_
  refine z_callV_i (pc := 3) (cells := 0) (slots := 0) (C := RX8) (T := TX8) (N := 30) (ci := 9) [zI a1] X dX8_clashes_3 (c_X8_isStreet hp a0 a1) kw_X8_132 rfl rfl ⟨rfl, rfl, ⟨by decide, by decide⟩, ⟨by decide, by decide⟩⟩ (Nat.le_of_ble_eq_true rfl) rfl (fun x1 => ?_)
  refine z_iconst (pc := 6) (z := 1) X dX8_clashes_6 rfl ⟨by decide, by decide⟩ ?_
  refine z_callV_i (pc := 7) (cells := 0) (slots := 0) (C := RX8) (T := TX8) (N := 30) (ci := 9) [zI x1, zI 1] X dX8_clashes_7 (c_X8_no hp a0 x1 1) kw_X8_93 rfl rfl ⟨rfl, rfl, ⟨by decide, by decide⟩, ⟨by decide, by decide⟩⟩ (Nat.le_of_ble_eq_true rfl) rfl (fun x2 => ?_)
  refine z_if_eq (pc := 10) 15 X dX8_clashes_10 (by decide) (fun _ => ?_) (fun _ => ?_)
  · refine z_iconst (pc := 15) (z := 0) X dX8_clashes_15 rfl ⟨by decide, by decide⟩ ?_
    refine z_istore_n (pc := 16) (i := 2) (lv' := [(2, zI 0), (0, zR a0), (1, zI a1)]) X dX8_clashes_16 rfl (hN _ (by decide)) rfl ?_
    refine z_iconst (pc := 17) (z := 0) X dX8_clashes_17 rfl ⟨by decide, by decide⟩ ?_
    refine z_istore_n (pc := 18) (i := 3) (lv' := [(3, zI 0), (2, zI 0), (0, zR a0), (1, zI a1)]) X dX8_clashes_18 rfl (hN _ (by decide)) rfl ?_
    refine z_pick [2, 3, 1, 0] (lv' := [(0, zR a0), (1, zI a1), (2, zI 0), (3, zI 0)]) rfl ?_
    refine z_bind (z_loop (body := X8_clashes_b19 a0 a1 x2.2) (fun s5 : Int × Int => zJ K 0 0 19 [(0, zR a0), (1, zI a1), (2, zI s5.1), (3, zI s5.2)] [] x2.2) (fun e7 : Int => zJ K 0 0 145 [(2, zI e7)] [] x2.2) (fun s5 => ?_) zN (0, 0)) (fun e7 => ?_)
    · unfold X8_clashes_b19
      refine z_iload_n (pc := 19) (i := 3) 3 X dX8_clashes_19 rfl rfl ?_
      refine z_iconst (pc := 20) (z := 2) X dX8_clashes_20 rfl ⟨by decide, by decide⟩ ?_
      refine z_aload_n (pc := 21) (i := 0) 0 X dX8_clashes_21 rfl rfl ?_
      refine z_getI (pc := 22) (C := RX8) (T := TX8) (N := 30) (ci := 9) 14 X dX8_clashes_22 inz_X8 rfl (by decide) fw_X8_90 (fun v8 => ?_)
      refine z_imul (pc := 25) X dX8_clashes_25 (fun v9 _ _ => ?_)
      refine z_icmp_ge (pc := 26) 145 X dX8_clashes_26 (by decide) (fun _ => ?_) (fun _ => ?_)
      · refine z_pick [2] (lv' := [(2, zI s5.1)]) rfl ?_
        exact z_exit
      · refine z_iconst (pc := 29) (z := 0) X dX8_clashes_29 rfl ⟨by decide, by decide⟩ ?_
        refine z_istore (pc := 30) (i := 4) (lv' := [(4, zI 0), (0, zR a0), (1, zI a1), (2, zI s5.1), (3, zI s5.2)]) X dX8_clashes_30 (hN _ (by decide)) rfl ?_
        refine z_pick [1, 2, 3, 4, 0] (lv' := [(0, zR a0), (1, zI a1), (2, zI s5.1), (3, zI s5.2), (4, zI 0)]) rfl ?_
        refine z_bind (z_loop (body := X8_clashes_b32 a0 a1 s5.2 x2.2) (fun s13 : Int × Int => zJ K 0 0 32 [(0, zR a0), (1, zI a1), (2, zI s13.1), (3, zI s5.2), (4, zI s13.2)] [] x2.2) (fun e15 : Int => zJ K 0 0 139 [(0, zR a0), (1, zI a1), (2, zI e15), (3, zI s5.2)] [] x2.2) (fun s13 => ?_) zN (s5.1, 0)) (fun e15 => ?_)
        · unfold X8_clashes_b32
          refine z_iload (pc := 32) (i := 4) 4 X dX8_clashes_32 rfl ?_
          refine z_iconst (pc := 34) (z := 2) X dX8_clashes_34 rfl ⟨by decide, by decide⟩ ?_
          refine z_aload_n (pc := 35) (i := 0) 0 X dX8_clashes_35 rfl rfl ?_
          refine z_getI (pc := 36) (C := RX8) (T := TX8) (N := 30) (ci := 9) 14 X dX8_clashes_36 inz_X8 rfl (by decide) fw_X8_90 (fun v16 => ?_)
          refine z_imul (pc := 39) X dX8_clashes_39 (fun v17 _ _ => ?_)
          refine z_icmp_ge (pc := 40) 139 X dX8_clashes_40 (by decide) (fun _ => ?_) (fun _ => ?_)
          · refine z_pick [0, 1, 2, 3] (lv' := [(0, zR a0), (1, zI a1), (2, zI s13.1), (3, zI s5.2)]) rfl ?_
            exact z_exit
          · refine z_iload_n (pc := 43) (i := 3) 3 X dX8_clashes_43 rfl rfl ?_
            refine z_iload (pc := 44) (i := 4) 4 X dX8_clashes_44 rfl ?_
            have hJ91 : ∀ (j18 : Int), zS (X8_clashes_j91 a0 a1 s5.2 x2.2 s13 j18) (zLG (fun s13 : Int × Int => zJ K 0 0 32 [(0, zR a0), (1, zI a1), (2, zI s13.1), (3, zI s5.2), (4, zI s13.2)] [] x2.2) (fun e15 : Int => zJ K 0 0 139 [(0, zR a0), (1, zI a1), (2, zI e15), (3, zI s5.2)] [] x2.2)) (zJ K 0 0 91 [(0, zR a0), (1, zI a1), (2, zI s13.1), (3, zI s5.2), (4, zI s13.2)] [zI j18] x2.2) := by
              intro j18
              unfold X8_clashes_j91
              refine z_istore (pc := 91) (i := 5) (lv' := [(5, zI j18), (0, zR a0), (1, zI a1), (2, zI s13.1), (3, zI s5.2), (4, zI s13.2)]) X dX8_clashes_91 (hN _ (by decide)) rfl ?_
              refine z_iload_n (pc := 93) (i := 2) 3 X dX8_clashes_93 rfl rfl ?_
              refine z_iload (pc := 94) (i := 5) 0 X dX8_clashes_94 rfl ?_
              refine z_if_eq (pc := 96) 130 X dX8_clashes_96 (by decide) (fun _ => ?_) (fun _ => ?_)
              · refine z_iconst (pc := 130) (z := 0) X dX8_clashes_130 rfl ⟨by decide, by decide⟩ ?_
                refine z_iadd (pc := 131) X dX8_clashes_131 (fun v19 _ _ => ?_)
                refine z_istore_n (pc := 132) (i := 2) (lv' := [(2, zI v19), (5, zI j18), (0, zR a0), (1, zI a1), (3, zI s5.2), (4, zI s13.2)]) X dX8_clashes_132 rfl (hN _ (by decide)) rfl ?_
                refine z_iinc (pc := 133) (i := 4) (n := 1) (lv' := fun v20 => [(4, zI v20), (2, zI v19), (5, zI j18), (0, zR a0), (1, zI a1), (3, zI s5.2)]) 5 X dX8_clashes_133 rfl (hN _ (by decide)) (fun _ => rfl) (fun v20 _ _ => ?_)
                refine z_goto (pc := 136) 32 X dX8_clashes_136 (by decide) ?_
                refine z_pick [3, 4, 1, 5, 0] (lv' := [(0, zR a0), (1, zI a1), (2, zI v19), (3, zI s5.2), (4, zI v20)]) rfl ?_
                exact z_back
              · refine z_aload_n (pc := 99) (i := 0) 1 X dX8_clashes_99 rfl rfl ?_
                refine z_iload_n (pc := 100) (i := 1) 2 X dX8_clashes_100 rfl rfl ?_
                refine z_iload_n (pc := 101) (i := 3) 4 X dX8_clashes_101 rfl rfl ?_
                refine z_iload (pc := 102) (i := 4) 5 X dX8_clashes_102 rfl ?_
                refine z_callV_i (pc := 104) (cells := 0) (slots := 0) (C := RX8) (T := TX8) (N := 30) (ci := 9) [zI a1, zI s5.2, zI s13.2] X dX8_clashes_104 (c_X8_isFarther x2.2 a0 a1 s5.2 s13.2) kw_X8_151 rfl rfl ⟨rfl, rfl, ⟨by decide, by decide⟩, ⟨by decide, by decide⟩⟩ (Nat.le_of_ble_eq_true rfl) rfl (fun x21 => ?_)
                refine z_if_eq (pc := 107) 130 X dX8_clashes_107 (by decide) (fun _ => ?_) (fun _ => ?_)
                · refine z_iconst (pc := 130) (z := 0) X dX8_clashes_130 rfl ⟨by decide, by decide⟩ ?_
                  refine z_iadd (pc := 131) X dX8_clashes_131 (fun v22 _ _ => ?_)
                  refine z_istore_n (pc := 132) (i := 2) (lv' := [(2, zI v22), (5, zI j18), (0, zR a0), (1, zI a1), (3, zI s5.2), (4, zI s13.2)]) X dX8_clashes_132 rfl (hN _ (by decide)) rfl ?_
                  refine z_iinc (pc := 133) (i := 4) (n := 1) (lv' := fun v23 => [(4, zI v23), (2, zI v22), (5, zI j18), (0, zR a0), (1, zI a1), (3, zI s5.2)]) 5 X dX8_clashes_133 rfl (hN _ (by decide)) (fun _ => rfl) (fun v23 _ _ => ?_)
                  refine z_goto (pc := 136) 32 X dX8_clashes_136 (by decide) ?_
                  refine z_pick [3, 4, 1, 5, 0] (lv' := [(0, zR a0), (1, zI a1), (2, zI v22), (3, zI s5.2), (4, zI v23)]) rfl ?_
                  exact z_back
                · refine z_aload_n (pc := 110) (i := 0) 1 X dX8_clashes_110 rfl rfl ?_
                  refine z_getR (pc := 111) (C := RX8) (T := TX8) (N := 30) (ci := 9) 11 X dX8_clashes_111 inz_X8 rfl (by decide) fw_X8_43 (fun v24 => ?_)
                  refine z_iload_n (pc := 114) (i := 3) 4 X dX8_clashes_114 rfl rfl ?_
                  refine z_iaload (pc := 115) X dX8_clashes_115 (fun v25 => ?_)
                  refine z_aload_n (pc := 116) (i := 0) 1 X dX8_clashes_116 rfl rfl ?_
                  refine z_getR (pc := 117) (C := RX8) (T := TX8) (N := 30) (ci := 9) 11 X dX8_clashes_117 inz_X8 rfl (by decide) fw_X8_43 (fun v26 => ?_)
                  refine z_iload (pc := 120) (i := 4) 5 X dX8_clashes_120 rfl ?_
                  refine z_iaload (pc := 122) X dX8_clashes_122 (fun v27 => ?_)
                  refine z_icmp_ge (pc := 123) 130 X dX8_clashes_123 (by decide) (fun _ => ?_) (fun _ => ?_)
                  · refine z_iconst (pc := 130) (z := 0) X dX8_clashes_130 rfl ⟨by decide, by decide⟩ ?_
                    refine z_iadd (pc := 131) X dX8_clashes_131 (fun v28 _ _ => ?_)
                    refine z_istore_n (pc := 132) (i := 2) (lv' := [(2, zI v28), (5, zI j18), (0, zR a0), (1, zI a1), (3, zI s5.2), (4, zI s13.2)]) X dX8_clashes_132 rfl (hN _ (by decide)) rfl ?_
                    refine z_iinc (pc := 133) (i := 4) (n := 1) (lv' := fun v29 => [(4, zI v29), (2, zI v28), (5, zI j18), (0, zR a0), (1, zI a1), (3, zI s5.2)]) 5 X dX8_clashes_133 rfl (hN _ (by decide)) (fun _ => rfl) (fun v29 _ _ => ?_)
                    refine z_goto (pc := 136) 32 X dX8_clashes_136 (by decide) ?_
                    refine z_pick [3, 4, 1, 5, 0] (lv' := [(0, zR a0), (1, zI a1), (2, zI v28), (3, zI s5.2), (4, zI v29)]) rfl ?_
                    exact z_back
                  · refine z_iconst (pc := 126) (z := 1) X dX8_clashes_126 rfl ⟨by decide, by decide⟩ ?_
                    refine z_goto (pc := 127) 131 X dX8_clashes_127 (by decide) ?_
                    refine z_iadd (pc := 131) X dX8_clashes_131 (fun v30 _ _ => ?_)
                    refine z_istore_n (pc := 132) (i := 2) (lv' := [(2, zI v30), (5, zI j18), (0, zR a0), (1, zI a1), (3, zI s5.2), (4, zI s13.2)]) X dX8_clashes_132 rfl (hN _ (by decide)) rfl ?_
                    refine z_iinc (pc := 133) (i := 4) (n := 1) (lv' := fun v31 => [(4, zI v31), (2, zI v30), (5, zI j18), (0, zR a0), (1, zI a1), (3, zI s5.2)]) 5 X dX8_clashes_133 rfl (hN _ (by decide)) (fun _ => rfl) (fun v31 _ _ => ?_)
                    refine z_goto (pc := 136) 32 X dX8_clashes_136 (by decide) ?_
                    refine z_pick [3, 4, 1, 5, 0] (lv' := [(0, zR a0), (1, zI a1), (2, zI v30), (3, zI s5.2), (4, zI v31)]) rfl ?_
                    exact z_back
            have hJ90 : zS (X8_clashes_j90 a0 a1 s5.2 x2.2 s13) (zLG (fun s13 : Int × Int => zJ K 0 0 32 [(0, zR a0), (1, zI a1), (2, zI s13.1), (3, zI s5.2), (4, zI s13.2)] [] x2.2) (fun e15 : Int => zJ K 0 0 139 [(0, zR a0), (1, zI a1), (2, zI e15), (3, zI s5.2)] [] x2.2)) (zJ K 0 0 90 [(0, zR a0), (1, zI a1), (2, zI s13.1), (3, zI s5.2), (4, zI s13.2)] [] x2.2) := by
              unfold X8_clashes_j90
              refine z_iconst (pc := 90) (z := 0) X dX8_clashes_90 rfl ⟨by decide, by decide⟩ ?_
              exact hJ91 0
            refine z_icmp_eq (pc := 46) 90 X dX8_clashes_46 (by decide) (fun _ => ?_) (fun _ => ?_)
            · exact hJ90
            · refine z_aload_n (pc := 49) (i := 0) 0 X dX8_clashes_49 rfl rfl ?_
              refine z_getR (pc := 50) (C := RX8) (T := TX8) (N := 30) (ci := 9) 8 X dX8_clashes_50 inz_X8 rfl (by decide) fw_X8_34 (fun v32 => ?_)
              refine z_iload_n (pc := 53) (i := 3) 3 X dX8_clashes_53 rfl rfl ?_
              refine z_iaload (pc := 54) X dX8_clashes_54 (fun v33 => ?_)
              refine z_iload_n (pc := 55) (i := 1) 1 X dX8_clashes_55 rfl rfl ?_
              refine z_icmp_ne (pc := 56) 90 X dX8_clashes_56 (by decide) (fun _ => ?_) (fun _ => ?_)
              · exact hJ90
              · refine z_aload_n (pc := 59) (i := 0) 0 X dX8_clashes_59 rfl rfl ?_
                refine z_getR (pc := 60) (C := RX8) (T := TX8) (N := 30) (ci := 9) 8 X dX8_clashes_60 inz_X8 rfl (by decide) fw_X8_34 (fun v34 => ?_)
                refine z_iload (pc := 63) (i := 4) 4 X dX8_clashes_63 rfl ?_
                refine z_iaload (pc := 65) X dX8_clashes_65 (fun v35 => ?_)
                refine z_iload_n (pc := 66) (i := 1) 1 X dX8_clashes_66 rfl rfl ?_
                refine z_icmp_ne (pc := 67) 90 X dX8_clashes_67 (by decide) (fun _ => ?_) (fun _ => ?_)
                · exact hJ90
                · refine z_aload_n (pc := 70) (i := 0) 0 X dX8_clashes_70 rfl rfl ?_
                  refine z_getR (pc := 71) (C := RX8) (T := TX8) (N := 30) (ci := 9) 10 X dX8_clashes_71 inz_X8 rfl (by decide) fw_X8_40 (fun v36 => ?_)
                  refine z_iload_n (pc := 74) (i := 3) 3 X dX8_clashes_74 rfl rfl ?_
                  refine z_caload (pc := 75) X dX8_clashes_75 (fun v37 => ?_)
                  refine z_aload_n (pc := 76) (i := 0) 0 X dX8_clashes_76 rfl rfl ?_
                  refine z_getR (pc := 77) (C := RX8) (T := TX8) (N := 30) (ci := 9) 10 X dX8_clashes_77 inz_X8 rfl (by decide) fw_X8_40 (fun v38 => ?_)
                  refine z_iload (pc := 80) (i := 4) 4 X dX8_clashes_80 rfl ?_
                  refine z_caload (pc := 82) X dX8_clashes_82 (fun v39 => ?_)
                  refine z_icmp_ne (pc := 83) 90 X dX8_clashes_83 (by decide) (fun _ => ?_) (fun _ => ?_)
                  · exact hJ90
                  · refine z_iconst (pc := 86) (z := 1) X dX8_clashes_86 rfl ⟨by decide, by decide⟩ ?_
                    refine z_goto (pc := 87) 91 X dX8_clashes_87 (by decide) ?_
                    exact hJ91 1
        · refine z_iinc (pc := 139) (i := 3) (n := 1) (lv' := fun v40 => [(3, zI v40), (0, zR a0), (1, zI a1), (2, zI e15)]) 3 X dX8_clashes_139 rfl (hN _ (by decide)) (fun _ => rfl) (fun v40 _ _ => ?_)
          refine z_goto (pc := 142) 19 X dX8_clashes_142 (by decide) ?_
          refine z_pick [1, 2, 3, 0] (lv' := [(0, zR a0), (1, zI a1), (2, zI e15), (3, zI v40)]) rfl ?_
          exact z_back
    · refine z_iload_n (pc := 145) (i := 2) 0 X dX8_clashes_145 rfl rfl ?_
      refine z_fin (fun e9 => ?_)
      subst e9
      exact hret _ _ _ _ (by decide) (by decide) dX8_clashes_146 trivial
  · refine z_iconst (pc := 13) (z := 0) X dX8_clashes_13 rfl ⟨by decide, by decide⟩ ?_
    refine z_fin (fun e9 => ?_)
    subst e9
    exact hret _ _ _ _ (by decide) (by decide) dX8_clashes_14 trivial
