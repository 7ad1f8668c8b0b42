/-! methods, as functions over the pure heap, and their contracts (by program) -/
def X7_letGo (hp : zH) (a0 : Option Nat) (a1 : Option Nat) : Option zH :=
  (zgR hp a1 2 1).bind fun v1 =>
  ((zobj hp a0 8).bind fun _ => X7_rememberBoth hp a0 v1).bind fun x2 =>
  (zgR x2 a1 2 2).bind fun v3 =>
  ((zobj x2 a0 8).bind fun _ => X7_rememberBoth x2 a0 v3).bind fun x4 =>
  (zpR x4 a1 2 1 none).bind fun h5 =>
  (zpR h5 a1 2 2 none).bind fun h6 =>
  (zpZ h6 a1 2 3 1).bind fun h7 =>
  some h7
set_option maxRecDepth 20000 in
theorem c_X7_letGo (hp : zH) (a0 : Option Nat) (a1 : Option Nat) : ∀ r, X7_letGo hp a0 a1 = some r → zMv yX7_letGo (Cond.code yX7_letGo cX7_letGo 2 none :: zALL) { frames := 4, cells := 0, slots := 0, locals := 93 } 0 0 [zR a0, zR a1] hp r := by
  refine zMv_of (own := RX7) (cc := cX7_letGo) (maxL := 2) (hp2 := fun r => r) (by decide) rfl (by exact Nat.le_of_ble_eq_true rfl) ?_
  intro K r0 X hnL hnm9 hret
  have hN : ∀ i, i < 2 → i < K.2.2.2.2.2.2.2.2.2.2.2.2.2.2.1 := by rw [hnL]; exact fun _ h => h
  show zS _ _ (zJ K 0 0 0 [(0, zR a0), (1, zR a1)] [] hp)
  unfold X7_letGo
  refine z_aload_n (pc := 0) (i := 0) 0 X dX7_letGo_0 rfl rfl ?_
  refine z_aload_n (pc := 1) (i := 1) 1 X dX7_letGo_1 rfl rfl ?_
  refine z_getR (pc := 2) (C := RX0) (T := TX0) (N := 5) (ci := 2) 1 X dX7_letGo_2 inz_X0 rfl (by decide) fw_X7_242 (fun v1 => ?_)
  refine z_callV_v (pc := 5) (cells := 0) (slots := 0) (C := RX7) (T := TX7) (N := 9) (ci := 8) [zR v1] X dX7_letGo_5 (c_X7_rememberBoth hp a0 v1) kw_X7_367 rfl rfl ⟨rfl, rfl, ⟨by decide, by decide⟩, ⟨by decide, by decide⟩⟩ (Nat.le_of_ble_eq_true rfl) rfl (fun x2 => ?_)
  refine z_aload_n (pc := 8) (i := 0) 0 X dX7_letGo_8 rfl rfl ?_
  refine z_aload_n (pc := 9) (i := 1) 1 X dX7_letGo_9 rfl rfl ?_
  refine z_getR (pc := 10) (C := RX0) (T := TX0) (N := 5) (ci := 2) 2 X dX7_letGo_10 inz_X0 rfl (by decide) fw_X7_214 (fun v3 => ?_)
  refine z_callV_v (pc := 13) (cells := 0) (slots := 0) (C := RX7) (T := TX7) (N := 9) (ci := 8) [zR v3] X dX7_letGo_13 (c_X7_rememberBoth x2 a0 v3) kw_X7_367 rfl rfl ⟨rfl, rfl, ⟨by decide, by decide⟩, ⟨by decide, by decide⟩⟩ (Nat.le_of_ble_eq_true rfl) rfl (fun x4 => ?_)
  refine z_aload_n (pc := 16) (i := 1) 1 X dX7_letGo_16 rfl rfl ?_
  refine z_null (pc := 17) X dX7_letGo_17 ?_
  refine z_putR (pc := 18) (C := RX0) (T := TX0) (N := 5) (ci := 2) 1 X dX7_letGo_18 inz_X0 tyX0_ok nmX0 rfl (by decide) fw_X7_242 rfl ⟨_, Or.inl rfl⟩ (fun h5 => ?_)
  refine z_aload_n (pc := 21) (i := 1) 1 X dX7_letGo_21 rfl rfl ?_
  refine z_null (pc := 22) X dX7_letGo_22 ?_
  refine z_putR (pc := 23) (C := RX0) (T := TX0) (N := 5) (ci := 2) 2 X dX7_letGo_23 inz_X0 tyX0_ok nmX0 rfl (by decide) fw_X7_214 rfl ⟨_, Or.inl rfl⟩ (fun h6 => ?_)
  refine z_aload_n (pc := 26) (i := 1) 1 X dX7_letGo_26 rfl rfl ?_
  refine z_iconst (pc := 27) (z := 1) X dX7_letGo_27 rfl ⟨by decide, by decide⟩ ?_
  refine z_putZ (pc := 28) (C := RX0) (T := TX0) (N := 5) (ci := 2) 3 X dX7_letGo_28 inz_X0 tyX0_ok nmX0 rfl (by decide) fw_X7_213 rfl rfl (fun h7 => ?_)
  refine z_fin (fun e9 => ?_)
  subst e9
  exact hret _ _ _ _ (by decide) (by decide) dX7_letGo_31
def X7_letter_j24 (hp : zH) (a3 : Int) (j4 : Int64) : Option (Int ⊕ Nat) :=
  if a3 < 0 then
    some (Sum.inr 4)
  else
    (X2_lengthOf hp j4).bind fun x5 =>
    if a3 < x5 then
      (X2_letterOf hp j4 a3).bind fun x6 =>
      (zchkC x6).bind fun _ =>
      some (Sum.inl x6)
    else
      some (Sum.inr 4)
def X7_letter (hp : zH) (a0 : Option Nat) (a1 : Int) (a2 : Int) (a3 : Int) : Option (Int ⊕ Nat) :=
  ((zobj hp a0 8).bind fun _ => X7_standing hp a0 a1).bind fun x1 =>
  match x1 with
  | Sum.inl v2 =>
    if a2 = 0 then
      (zgJ hp v2 7 1).bind fun v7 =>
      X7_letter_j24 hp a3 v7
    else
      (zgJ hp v2 7 2).bind fun v8 =>
      X7_letter_j24 hp a3 v8
  | Sum.inr k3 =>
    some (Sum.inr k3)
set_option maxRecDepth 20000 in
theorem c_X7_letter (hp : zH) (a0 : Option Nat) (a1 : Int) (a2 : Int) (a3 : Int) : ∀ r, X7_letter hp a0 a1 a2 a3 = some r → zXi yX7_letter (Cond.code yX7_letter cX7_letter 7 (some .char) :: zALL) { frames := 7, cells := 2, slots := 12, locals := 103 } 2 12 [zR a0, zI a1, zI a2, zI a3] hp r hp := by
  refine zXi_of (own := RX7) (cc := cX7_letter) (maxL := 7) (res := fun r => r) (hp2 := fun _ => hp) (by decide) rfl (Or.inr (Or.inr rfl)) (by exact Nat.le_of_ble_eq_true rfl) ?_
  intro K r0 X hnL hret hthr hnew
  have hN : ∀ i, i < 7 → i < K.2.2.2.2.2.2.2.2.2.2.2.2.2.2.1 := by rw [hnL]; exact fun _ h => h
  show zS _ _ (zJ K 0 0 0 [(0, zR a0), (1, zI a1), (2, zI a2), (3, zI a3)] [] hp)
  unfold X7_letter
  refine z_aload_n (pc := 0) (i := 0) 0 X dX7_letter_0 rfl rfl ?_
  refine z_iload_n (pc := 1) (i := 1) 1 X dX7_letter_1 rfl rfl ?_
  refine z_callXV_q (pc := 2) (cells := 0) (slots := 0) (C := RX7) (T := TX7) (N := 9) (ci := 8) [zI a1] X dX7_letter_2 (c_X7_standing hp a0 a1) kw_X7_78 rfl rfl ⟨rfl, rfl, ⟨by decide, by decide⟩, ⟨by decide, by decide⟩⟩ (Nat.le_of_ble_eq_true rfl) rfl (fun x1 v2 hz9 => ?_) (fun x1 k3 hz9 => ?_)
  · have hz9 : x1 = Sum.inl v2 := hz9
    subst hz9
    refine z_astore (pc := 5) (i := 4) (lv' := [(4, zR v2), (0, zR a0), (1, zI a1), (2, zI a2), (3, zI a3)]) X dX7_letter_5 (hN _ (by decide)) rfl ?_
    refine z_iload_n (pc := 7) (i := 2) 3 X dX7_letter_7 rfl rfl ?_
    have hJ24 : ∀ (j4 : Int64), zS (X7_letter_j24 hp a3 j4) (fun r => r = r0) (zJ K 1 6 24 [(3, zI a3)] [zL j4] hp) := by
      intro j4
      unfold X7_letter_j24
      refine z_lstore (pc := 24) (i := 5) (lv' := [(5, zL j4), (3, zI a3)]) X dX7_letter_24 (hN _ (by decide)) rfl ?_
      refine z_iload_n (pc := 26) (i := 3) 1 X dX7_letter_26 rfl rfl ?_
      refine z_if_lt (pc := 27) 39 X dX7_letter_27 (by decide) (fun _ => ?_) (fun _ => ?_)
      · refine z_fin (fun e9 => ?_)
        subst e9
        exact hnew 1 6 39 _ 4 106 108 110 "no such letter" 9 6 rfl dX7_letter_39 dX7_letter_42 (Or.inl ⟨dX7_letter_43, rfl⟩) dX7_letter_45 rfl dX7_letter_48 (zin (zt3 14 (by decide +kernel)) rfl) (zin (zt1 18 (by decide +kernel)) rfl) rfl (zt3 23 (by decide +kernel)) thr_110 (by decide) (by decide) (by decide) ⟨by decide, by decide⟩ ⟨by decide, by decide⟩
      · refine z_iload_n (pc := 30) (i := 3) 1 X dX7_letter_30 rfl rfl ?_
        refine z_lload (pc := 31) (i := 5) 0 X dX7_letter_31 rfl ?_
        refine z_callS_i (pc := 33) (cells := 1) (slots := 6) [zL j4] X dX7_letter_33 (c_X2_lengthOf hp j4) kw_X7_65 rfl ⟨rfl, rfl, ⟨by decide, by decide⟩, ⟨by decide, by decide⟩⟩ (Nat.le_of_ble_eq_true rfl) rfl (fun x5 => ?_)
        refine z_icmp_lt (pc := 36) 49 X dX7_letter_36 (by decide) (fun _ => ?_) (fun _ => ?_)
        · refine z_lload (pc := 49) (i := 5) 0 X dX7_letter_49 rfl ?_
          refine z_iload_n (pc := 51) (i := 3) 1 X dX7_letter_51 rfl rfl ?_
          refine z_callS_i (pc := 52) (cells := 1) (slots := 6) [zL j4, zI a3] X dX7_letter_52 (c_X2_letterOf hp j4 a3) kw_X7_111 rfl ⟨rfl, rfl, ⟨by decide, by decide⟩, ⟨by decide, by decide⟩⟩ (Nat.le_of_ble_eq_true rfl) rfl (fun x6 => ?_)
          refine z_chkC (fun hf9 => ?_)
          refine z_fin (fun e9 => ?_)
          subst e9
          exact hret _ _ _ _ _ rfl (by decide) (by decide) dX7_letter_55 hf9
        · refine z_fin (fun e9 => ?_)
          subst e9
          exact hnew 1 6 39 _ 4 106 108 110 "no such letter" 9 6 rfl dX7_letter_39 dX7_letter_42 (Or.inl ⟨dX7_letter_43, rfl⟩) dX7_letter_45 rfl dX7_letter_48 (zin (zt3 14 (by decide +kernel)) rfl) (zin (zt1 18 (by decide +kernel)) rfl) rfl (zt3 23 (by decide +kernel)) thr_110 (by decide) (by decide) (by decide) ⟨by decide, by decide⟩ ⟨by decide, by decide⟩
    refine z_if_eq (pc := 8) 19 X dX7_letter_8 (by decide) (fun _ => ?_) (fun _ => ?_)
    · refine z_aload (pc := 19) (i := 4) 0 X dX7_letter_19 rfl ?_
      refine z_getJ (pc := 21) (C := RX6) (T := TX6) (N := 8) (ci := 7) 1 X dX7_letter_21 inz_X6 rfl (by decide) fw_X7_91 (fun v7 => ?_)
      refine z_pick [4] (lv' := [(3, zI a3)]) rfl ?_
      exact hJ24 v7
    · refine z_aload (pc := 11) (i := 4) 0 X dX7_letter_11 rfl ?_
      refine z_getJ (pc := 13) (C := RX6) (T := TX6) (N := 8) (ci := 7) 2 X dX7_letter_13 inz_X6 rfl (by decide) fw_X7_103 (fun v8 => ?_)
      refine z_goto (pc := 16) 24 X dX7_letter_16 (by decide) ?_
      refine z_pick [4] (lv' := [(3, zI a3)]) rfl ?_
      exact hJ24 v8
  · have hz9 : x1 = Sum.inr k3 := hz9
    subst hz9
    refine z_fin (fun e9 => ?_)
    subst e9
    exact hthr _ _ _ _ _ rfl (by decide) (by decide)
def X7_meanDoors_b16 (p3 : Option Nat) (p4 : Option Nat) (p5 : Int) (h7 : zH) (s6 : Int × Int × Int) : Option ((Int × Int × Int) ⊕ (Int × Int)) :=
  if p5 ≤ s6.2.2 then
    some (Sum.inr (s6.1, s6.2.1))
  else
    (zaR h7 5 p4 s6.2.2).bind fun v9 =>
    (X7_isStanding h7 v9).bind fun x10 =>
    if x10 = 0 then
      (zchk (s6.2.2 + 1)).bind fun v11 =>
      some (Sum.inl (s6.1, s6.2.1, v11))
    else
      (zchk (s6.1 + 1)).bind fun v12 =>
      ((zobj h7 p3 8).bind fun _ => X7_doorsOn h7 p3 v9).bind fun x13 =>
      (zchk (s6.2.1 + x13)).bind fun v14 =>
      (zchk (s6.2.2 + 1)).bind fun v15 =>
      some (Sum.inl (v12, v14, v15))
def X7_meanDoors (hp : zH) (a0 : Option Nat) : Option (UInt64 ⊕ Nat) :=
  (zgR hp a0 8 0).bind fun v1 =>
  (zlen hp v1).bind fun v2 =>
  (zloop (X7_meanDoors_b16 a0 v1 v2 hp) zN (0, 0, 0)).bind fun e8 =>
  if e8.1 = 0 then
    some (Sum.inr 5)
  else
    (zddiv (zi2d e8.2) (zi2d e8.1)).bind fun v16 =>
    some (Sum.inl v16)
set_option maxRecDepth 20000 in
theorem c_X7_meanDoors (hp : zH) (a0 : Option Nat) : ∀ r, X7_meanDoors hp a0 = some r → zXd yX7_meanDoors (Cond.code yX7_meanDoors cX7_meanDoors 7 (some .double) :: zALL) { frames := 6, cells := 1, slots := 6, locals := 82 } 1 6 [zR a0] hp r hp := by
  refine zXd_of (own := RX7) (cc := cX7_meanDoors) (maxL := 7) (res := fun r => r) (hp2 := fun _ => hp) (by decide) rfl (by exact Nat.le_of_ble_eq_true rfl) ?_
  intro K r0 X hnL hret hthr hnew
  have hN : ∀ i, i < 7 → i < K.2.2.2.2.2.2.2.2.2.2.2.2.2.2.1 := by rw [hnL]; exact fun _ h => h
  show zS _ _ (zJ K 0 0 0 [(0, zR a0)] [] hp)
  unfold X7_meanDoors
  refine z_iconst (pc := 0) (z := 0) X dX7_meanDoors_0 rfl ⟨by decide, by decide⟩ ?_
  refine z_istore_n (pc := 1) (i := 1) (lv' := [(1, zI 0), (0, zR a0)]) X dX7_meanDoors_1 rfl (hN _ (by decide)) rfl ?_
  refine z_iconst (pc := 2) (z := 0) X dX7_meanDoors_2 rfl ⟨by decide, by decide⟩ ?_
  refine z_istore_n (pc := 3) (i := 2) (lv' := [(2, zI 0), (1, zI 0), (0, zR a0)]) X dX7_meanDoors_3 rfl (hN _ (by decide)) rfl ?_
  refine z_aload_n (pc := 4) (i := 0) 2 X dX7_meanDoors_4 rfl rfl ?_
  refine z_getR (pc := 5) (C := RX7) (T := TX7) (N := 9) (ci := 8) 0 X dX7_meanDoors_5 inz_X7 rfl (by decide) fw_X7_11 (fun v1 => ?_)
  refine z_astore_n (pc := 8) (i := 3) (lv' := [(3, zR v1), (2, zI 0), (1, zI 0), (0, zR a0)]) X dX7_meanDoors_8 rfl (hN _ (by decide)) rfl ?_
  refine z_aload_n (pc := 9) (i := 3) 0 X dX7_meanDoors_9 rfl rfl ?_
  refine z_alen (pc := 10) X dX7_meanDoors_10 (fun v2 => ?_)
  refine z_istore (pc := 11) (i := 4) (lv' := [(4, zI v2), (3, zR v1), (2, zI 0), (1, zI 0), (0, zR a0)]) X dX7_meanDoors_11 (hN _ (by decide)) rfl ?_
  refine z_iconst (pc := 13) (z := 0) X dX7_meanDoors_13 rfl ⟨by decide, by decide⟩ ?_
  refine z_istore (pc := 14) (i := 5) (lv' := [(5, zI 0), (4, zI v2), (3, zR v1), (2, zI 0), (1, zI 0), (0, zR a0)]) X dX7_meanDoors_14 (hN _ (by decide)) rfl ?_
  refine z_pick [5, 4, 3, 2, 1, 0] (lv' := [(0, zR a0), (1, zI 0), (2, zI 0), (3, zR v1), (4, zI v2), (5, zI 0)]) rfl ?_
  refine z_bind (z_loop (body := X7_meanDoors_b16 a0 v1 v2 hp) (fun s6 : Int × Int × Int => zJ K 0 0 16 [(0, zR a0), (1, zI s6.1), (2, zI s6.2.1), (3, zR v1), (4, zI v2), (5, zI s6.2.2)] [] hp) (fun e8 : Int × Int => zJ K 0 0 55 [(1, zI e8.1), (2, zI e8.2)] [] hp) (fun s6 => ?_) zN (0, 0, 0)) (fun e8 => ?_)
  · unfold X7_meanDoors_b16
    refine z_iload (pc := 16) (i := 5) 5 X dX7_meanDoors_16 rfl ?_
    refine z_iload (pc := 18) (i := 4) 4 X dX7_meanDoors_18 rfl ?_
    refine z_icmp_ge (pc := 20) 55 X dX7_meanDoors_20 (by decide) (fun _ => ?_) (fun _ => ?_)
    · refine z_pick [1, 2] (lv' := [(1, zI s6.1), (2, zI s6.2.1)]) rfl ?_
      exact z_exit
    · refine z_aload_n (pc := 23) (i := 3) 3 X dX7_meanDoors_23 rfl rfl ?_
      refine z_iload (pc := 24) (i := 5) 5 X dX7_meanDoors_24 rfl ?_
      refine z_aaload5 (pc := 26) X dX7_meanDoors_26 (fun v9 => ?_)
      refine z_astore (pc := 27) (i := 6) (lv' := [(6, zR v9), (0, zR a0), (1, zI s6.1), (2, zI s6.2.1), (3, zR v1), (4, zI v2), (5, zI s6.2.2)]) X dX7_meanDoors_27 (hN _ (by decide)) rfl ?_
      refine z_aload (pc := 29) (i := 6) 0 X dX7_meanDoors_29 rfl ?_
      refine z_callS_i (pc := 31) (cells := 0) (slots := 0) [zR v9] X dX7_meanDoors_31 (c_X7_isStanding hp v9) kw_X7_179 rfl ⟨rfl, rfl, ⟨by decide, by decide⟩, ⟨by decide, by decide⟩⟩ (Nat.le_of_ble_eq_true rfl) rfl (fun x10 => ?_)
      refine z_if_eq (pc := 34) 49 X dX7_meanDoors_34 (by decide) (fun _ => ?_) (fun _ => ?_)
      · refine z_iinc (pc := 49) (i := 5) (n := 1) (lv' := fun v11 => [(5, zI v11), (6, zR v9), (0, zR a0), (1, zI s6.1), (2, zI s6.2.1), (3, zR v1), (4, zI v2)]) 6 X dX7_meanDoors_49 rfl (hN _ (by decide)) (fun _ => rfl) (fun v11 _ _ => ?_)
        refine z_goto (pc := 52) 16 X dX7_meanDoors_52 (by decide) ?_
        refine z_pick [2, 3, 4, 5, 6, 0] (lv' := [(0, zR a0), (1, zI s6.1), (2, zI s6.2.1), (3, zR v1), (4, zI v2), (5, zI v11)]) rfl ?_
        exact z_back
      · refine z_iinc (pc := 37) (i := 1) (n := 1) (lv' := fun v12 => [(1, zI v12), (6, zR v9), (0, zR a0), (2, zI s6.2.1), (3, zR v1), (4, zI v2), (5, zI s6.2.2)]) 2 X dX7_meanDoors_37 rfl (hN _ (by decide)) (fun _ => rfl) (fun v12 _ _ => ?_)
        refine z_iload_n (pc := 40) (i := 2) 3 X dX7_meanDoors_40 rfl rfl ?_
        refine z_aload_n (pc := 41) (i := 0) 2 X dX7_meanDoors_41 rfl rfl ?_
        refine z_aload (pc := 42) (i := 6) 1 X dX7_meanDoors_42 rfl ?_
        refine z_callV_i (pc := 44) (cells := 0) (slots := 0) (C := RX7) (T := TX7) (N := 9) (ci := 8) [zR v9] X dX7_meanDoors_44 (c_X7_doorsOn hp a0 v9) kw_X7_256 rfl rfl ⟨rfl, rfl, ⟨by decide, by decide⟩, ⟨by decide, by decide⟩⟩ (Nat.le_of_ble_eq_true rfl) rfl (fun x13 => ?_)
        refine z_iadd (pc := 47) X dX7_meanDoors_47 (fun v14 _ _ => ?_)
        refine z_istore_n (pc := 48) (i := 2) (lv' := [(2, zI v14), (1, zI v12), (6, zR v9), (0, zR a0), (3, zR v1), (4, zI v2), (5, zI s6.2.2)]) X dX7_meanDoors_48 rfl (hN _ (by decide)) rfl ?_
        refine z_iinc (pc := 49) (i := 5) (n := 1) (lv' := fun v15 => [(5, zI v15), (2, zI v14), (1, zI v12), (6, zR v9), (0, zR a0), (3, zR v1), (4, zI v2)]) 6 X dX7_meanDoors_49 rfl (hN _ (by decide)) (fun _ => rfl) (fun v15 _ _ => ?_)
        refine z_goto (pc := 52) 16 X dX7_meanDoors_52 (by decide) ?_
        refine z_pick [4, 2, 1, 5, 6, 0] (lv' := [(0, zR a0), (1, zI v12), (2, zI v14), (3, zR v1), (4, zI v2), (5, zI v15)]) rfl ?_
        exact z_back
  · refine z_iload_n (pc := 55) (i := 1) 0 X dX7_meanDoors_55 rfl rfl ?_
    refine z_if_ne (pc := 56) 70 X dX7_meanDoors_56 (by decide) (fun _ => ?_) (fun _ => ?_)
    · refine z_iload_n (pc := 70) (i := 2) 1 X dX7_meanDoors_70 rfl rfl ?_
      refine z_i2d (pc := 71) X dX7_meanDoors_71 ?_
      refine z_iload_n (pc := 72) (i := 1) 0 X dX7_meanDoors_72 rfl rfl ?_
      refine z_i2d (pc := 73) X dX7_meanDoors_73 ?_
      refine z_ddiv (pc := 74) X dX7_meanDoors_74 (fun v16 => ?_)
      refine z_fin (fun e9 => ?_)
      subst e9
      exact hret _ _ _ _ _ rfl (by decide) (by decide) dX7_meanDoors_75
    · refine z_fin (fun e9 => ?_)
      subst e9
      exact hnew 0 0 59 _ 5 318 323 322 "no streets" 10 7 rfl dX7_meanDoors_59 dX7_meanDoors_62 (Or.inr ⟨dX7_meanDoors_63, rfl⟩) dX7_meanDoors_66 rfl dX7_meanDoors_69 (zin (zt4 168 (by decide +kernel)) rfl) (zin (zt1 22 (by decide +kernel)) rfl) rfl (zt4 178 (by decide +kernel)) thr_322 (by decide) (by decide) (by decide) ⟨by decide, by decide⟩ ⟨by decide, by decide⟩
def X7_merge (hp : zH) (a0 : Option Nat) (a1 : Int) (a2 : Int) : Option ((Int ⊕ Nat) × zH) :=
  ((zobj hp a0 8).bind fun _ => X7_known hp a0 a1).bind fun x1 =>
  match x1 with
  | Sum.inl v2 =>
    ((zobj hp a0 8).bind fun _ => X7_known hp a0 a2).bind fun x4 =>
    match x4 with
    | Sum.inl v5 =>
      if v2 = v5 then
        some (Sum.inr 0, hp)
      else
        (zgI hp v2 2 3).bind fun v7 =>
        if v7 = 0 then
          (zgI hp v5 2 3).bind fun v8 =>
          if v8 = 0 then
            ((zobj hp a0 8).bind fun _ => X7_letGo hp a0 v2).bind fun x9 =>
            (zpR x9 v2 2 4 v5).bind fun h10 =>
            ((zobj h10 a0 8).bind fun _ => X7_leadingTo h10 a0 v5).bind fun x11 =>
            some (Sum.inl x11, h10)
          else
            some (Sum.inr 2, hp)
        else
          some (Sum.inr 2, hp)
    | Sum.inr k6 =>
      some (Sum.inr k6, hp)
  | Sum.inr k3 =>
    some (Sum.inr k3, hp)
set_option maxRecDepth 20000 in
theorem c_X7_merge (hp : zH) (a0 : Option Nat) (a1 : Int) (a2 : Int) : ∀ r, X7_merge hp a0 a1 a2 = some r → zXi yX7_merge (Cond.code yX7_merge cX7_merge 5 (some .int) :: zALL) { frames := 7, cells := 3, slots := 18, locals := 114 } 3 18 [zR a0, zI a1, zI a2] hp r.1 r.2 := by
  refine zXi_of (own := RX7) (cc := cX7_merge) (maxL := 5) (ε := ((Int ⊕ Nat) × zH)) (res := fun r => r.1) (hp2 := fun r => r.2) (by decide) rfl (Or.inl rfl) (by exact Nat.le_of_ble_eq_true rfl) ?_
  intro K r0 X hnL hret hthr hnew
  have hN : ∀ i, i < 5 → i < K.2.2.2.2.2.2.2.2.2.2.2.2.2.2.1 := by rw [hnL]; exact fun _ h => h
  show zS _ _ (zJ K 0 0 0 [(0, zR a0), (1, zI a1), (2, zI a2)] [] hp)
  unfold X7_merge
  refine z_aload_n (pc := 0) (i := 0) 0 X dX7_merge_0 rfl rfl ?_
  refine z_iload_n (pc := 1) (i := 1) 1 X dX7_merge_1 rfl rfl ?_
  refine z_callXV_q (pc := 2) (cells := 0) (slots := 0) (C := RX7) (T := TX7) (N := 9) (ci := 8) [zI a1] X dX7_merge_2 (c_X7_known hp a0 a1) kw_X7_209 rfl rfl ⟨rfl, rfl, ⟨by decide, by decide⟩, ⟨by decide, by decide⟩⟩ (Nat.le_of_ble_eq_true rfl) rfl (fun x1 v2 hz9 => ?_) (fun x1 k3 hz9 => ?_)
  · have hz9 : x1 = Sum.inl v2 := hz9
    subst hz9
    refine z_astore_n (pc := 5) (i := 3) (lv' := [(3, zR v2), (0, zR a0), (1, zI a1), (2, zI a2)]) X dX7_merge_5 rfl (hN _ (by decide)) rfl ?_
    refine z_aload_n (pc := 6) (i := 0) 1 X dX7_merge_6 rfl rfl ?_
    refine z_iload_n (pc := 7) (i := 2) 3 X dX7_merge_7 rfl rfl ?_
    refine z_callXV_q (pc := 8) (cells := 1) (slots := 6) (C := RX7) (T := TX7) (N := 9) (ci := 8) [zI a2] X dX7_merge_8 (c_X7_known hp a0 a2) kw_X7_209 rfl rfl ⟨rfl, rfl, ⟨by decide, by decide⟩, ⟨by decide, by decide⟩⟩ (Nat.le_of_ble_eq_true rfl) rfl (fun x4 v5 hz9 => ?_) (fun x4 k6 hz9 => ?_)
    · have hz9 : x4 = Sum.inl v5 := hz9
      subst hz9
      refine z_astore (pc := 11) (i := 4) (lv' := [(4, zR v5), (3, zR v2), (0, zR a0), (1, zI a1), (2, zI a2)]) X dX7_merge_11 (hN _ (by decide)) rfl ?_
      refine z_aload_n (pc := 13) (i := 3) 1 X dX7_merge_13 rfl rfl ?_
      refine z_aload (pc := 14) (i := 4) 0 X dX7_merge_14 rfl ?_
      refine z_acmp_ne (pc := 16) 29 X dX7_merge_16 (by decide) (fun _ => ?_) (fun _ => ?_)
      · refine z_aload_n (pc := 29) (i := 3) 1 X dX7_merge_29 rfl rfl ?_
        refine z_getI (pc := 30) (C := RX0) (T := TX0) (N := 5) (ci := 2) 3 X dX7_merge_30 inz_X0 rfl (by decide) fw_X7_213 (fun v7 => ?_)
        refine z_if_ne (pc := 33) 44 X dX7_merge_33 (by decide) (fun _ => ?_) (fun _ => ?_)
        · refine z_fin (fun e9 => ?_)
          subst e9
          exact hnew 2 12 44 _ 2 86 226 90 "one is gone" 9 6 rfl dX7_merge_44 dX7_merge_47 (Or.inl ⟨dX7_merge_48, rfl⟩) dX7_merge_50 rfl dX7_merge_53 (zin (zt2 115 (by decide +kernel)) rfl) (zin (zt1 12 (by decide +kernel)) rfl) rfl (zt3 181 (by decide +kernel)) thr_90 (by decide) (by decide) (by decide) ⟨by decide, by decide⟩ ⟨by decide, by decide⟩
        · refine z_aload (pc := 36) (i := 4) 0 X dX7_merge_36 rfl ?_
          refine z_getI (pc := 38) (C := RX0) (T := TX0) (N := 5) (ci := 2) 3 X dX7_merge_38 inz_X0 rfl (by decide) fw_X7_213 (fun v8 => ?_)
          refine z_if_eq (pc := 41) 54 X dX7_merge_41 (by decide) (fun _ => ?_) (fun _ => ?_)
          · refine z_aload_n (pc := 54) (i := 0) 2 X dX7_merge_54 rfl rfl ?_
            refine z_aload_n (pc := 55) (i := 3) 1 X dX7_merge_55 rfl rfl ?_
            refine z_callV_v (pc := 56) (cells := 2) (slots := 12) (C := RX7) (T := TX7) (N := 9) (ci := 8) [zR v2] X dX7_merge_56 (c_X7_letGo hp a0 v2) kw_X7_228 rfl rfl ⟨rfl, rfl, ⟨by decide, by decide⟩, ⟨by decide, by decide⟩⟩ (Nat.le_of_ble_eq_true rfl) rfl (fun x9 => ?_)
            refine z_aload_n (pc := 59) (i := 3) 1 X dX7_merge_59 rfl rfl ?_
            refine z_aload (pc := 60) (i := 4) 0 X dX7_merge_60 rfl ?_
            refine z_putR (pc := 62) (C := RX0) (T := TX0) (N := 5) (ci := 2) 4 X dX7_merge_62 inz_X0 tyX0_ok nmX0 rfl (by decide) fw_X7_232 rfl ⟨_, Or.inl rfl⟩ (fun h10 => ?_)
            refine z_aload_n (pc := 65) (i := 0) 2 X dX7_merge_65 rfl rfl ?_
            refine z_aload (pc := 66) (i := 4) 0 X dX7_merge_66 rfl ?_
            refine z_callV_i (pc := 68) (cells := 2) (slots := 12) (C := RX7) (T := TX7) (N := 9) (ci := 8) [zR v5] X dX7_merge_68 (c_X7_leadingTo h10 a0 v5) kw_X7_236 rfl rfl ⟨rfl, rfl, ⟨by decide, by decide⟩, ⟨by decide, by decide⟩⟩ (Nat.le_of_ble_eq_true rfl) rfl (fun x11 => ?_)
            refine z_fin (fun e9 => ?_)
            subst e9
            exact hret _ _ _ _ _ rfl (by decide) (by decide) dX7_merge_71 trivial
          · refine z_fin (fun e9 => ?_)
            subst e9
            exact hnew 2 12 44 _ 2 86 226 90 "one is gone" 9 6 rfl dX7_merge_44 dX7_merge_47 (Or.inl ⟨dX7_merge_48, rfl⟩) dX7_merge_50 rfl dX7_merge_53 (zin (zt2 115 (by decide +kernel)) rfl) (zin (zt1 12 (by decide +kernel)) rfl) rfl (zt3 181 (by decide +kernel)) thr_90 (by decide) (by decide) (by decide) ⟨by decide, by decide⟩ ⟨by decide, by decide⟩
      · refine z_fin (fun e9 => ?_)
        subst e9
        exact hnew 2 12 19 _ 0 58 224 62 "the same door" 9 6 rfl dX7_merge_19 dX7_merge_22 (Or.inl ⟨dX7_merge_23, rfl⟩) dX7_merge_25 rfl dX7_merge_28 (zin (zt2 8 (by decide +kernel)) rfl) (zin (zt1 9 (by decide +kernel)) rfl) rfl (zt3 180 (by decide +kernel)) thr_62 (by decide) (by decide) (by decide) ⟨by decide, by decide⟩ ⟨by decide, by decide⟩
    · have hz9 : x4 = Sum.inr k6 := hz9
      subst hz9
      refine z_fin (fun e9 => ?_)
      subst e9
      exact hthr _ _ _ _ _ rfl (by decide) (by decide)
  · have hz9 : x1 = Sum.inr k3 := hz9
    subst hz9
    refine z_fin (fun e9 => ?_)
    subst e9
    exact hthr _ _ _ _ _ rfl (by decide) (by decide)
def X7_olds (hp : zH) (a0 : Option Nat) : Option Int :=
  (zgR hp a0 8 2).bind fun v1 =>
  (zgI hp v1 4 4).bind fun v2 =>
  some v2
set_option maxRecDepth 20000 in
theorem c_X7_olds (hp : zH) (a0 : Option Nat) : ∀ r, X7_olds hp a0 = some r → zMi yX7_olds (Cond.code yX7_olds cX7_olds 1 (some .int) :: zALL) { frames := 0, cells := 0, slots := 0, locals := 0 } 0 0 [zR a0] hp r hp := by
  refine zMi_of (own := RX7) (cc := cX7_olds) (maxL := 1) (res := fun r => r) (hp2 := fun _ => hp) (by decide) rfl (Or.inl rfl) (by exact Nat.le_of_ble_eq_true rfl) ?_
  intro K r0 X hnL hret
  have hN : ∀ i, i < 1 → i < K.2.2.2.2.2.2.2.2.2.2.2.2.2.2.1 := by rw [hnL]; exact fun _ h => h
  show zS _ _ (zJ K 0 0 0 [(0, zR a0)] [] hp)
  unfold X7_olds
  refine z_aload_n (pc := 0) (i := 0) 0 X dX7_olds_0 rfl rfl ?_
  refine z_getR (pc := 1) (C := RX7) (T := TX7) (N := 9) (ci := 8) 2 X dX7_olds_1 inz_X7 rfl (by decide) fw_X7_24 (fun v1 => ?_)
  refine z_getI (pc := 4) (C := RX3) (T := TX3) (N := 6) (ci := 4) 4 X dX7_olds_4 inz_X3 rfl (by decide) fw_X7_98 (fun v2 => ?_)
  refine z_fin (fun e9 => ?_)
  subst e9
  exact hret _ _ _ _ (by decide) (by decide) dX7_olds_7 trivial
def X7_orderForRenumbering_b18 (p5 : Option Nat) (p6 : Option Nat) (p7 : Option Nat) (p8 : Int) (s9 : Int × zH) : Option ((Int × zH) ⊕ (zH)) :=
  if p8 ≤ s9.1 then
    some (Sum.inr (s9.2))
  else
    (zaR s9.2 6 p7 s9.1).bind fun v11 =>
    (X7_placeOf s9.2 v11 p6).bind fun x12 =>
    if x12 = none then
      (zchk (s9.1 + 1)).bind fun v13 =>
      some (Sum.inl (v13, s9.2))
    else
      (zgR s9.2 p5 8 4).bind fun v14 =>
      (zgI s9.2 p6 7 4).bind fun v15 =>
      if v15 = 121 then
        (zgI s9.2 x12 6 0).bind fun v21 =>
        ((zobj s9.2 v14 5).bind fun _ => X4_put s9.2 v14 0 v21).bind fun x22 =>
        (zchk (s9.1 + 1)).bind fun v23 =>
        some (Sum.inl (v23, x22))
      else
        (zgI s9.2 x12 6 2).bind fun v16 =>
        ((zobj s9.2 p6 7).bind fun _ => X6_farness s9.2 p6 v16).bind fun x17 =>
        (zgI s9.2 x12 6 0).bind fun v18 =>
        ((zobj s9.2 v14 5).bind fun _ => X4_put s9.2 v14 x17 v18).bind fun x19 =>
        (zchk (s9.1 + 1)).bind fun v20 =>
        some (Sum.inl (v20, x19))
def X7_orderForRenumbering (hp : zH) (a0 : Option Nat) (a1 : Option Nat) : Option zH :=
  (zgR hp a0 8 4).bind fun v1 =>
  ((zobj hp v1 5).bind fun _ => X4_clear hp v1).bind fun x2 =>
  (zgR x2 a0 8 1).bind fun v3 =>
  (zlen x2 v3).bind fun v4 =>
  (zloop (X7_orderForRenumbering_b18 a0 a1 v3 v4) zN (0, x2)).bind fun e10 =>
  some e10
set_option maxRecDepth 20000 in
theorem c_X7_orderForRenumbering (hp : zH) (a0 : Option Nat) (a1 : Option Nat) : ∀ r, X7_orderForRenumbering hp a0 a1 = some r → zMv yX7_orderForRenumbering (Cond.code yX7_orderForRenumbering cX7_orderForRenumbering 7 none :: zALL) { frames := 2, cells := 0, slots := 0, locals := 42 } 0 0 [zR a0, zR a1] hp r := by
  refine zMv_of (own := RX7) (cc := cX7_orderForRenumbering) (maxL := 7) (hp2 := fun r => r) (by decide) rfl (by exact Nat.le_of_ble_eq_true rfl) ?_
  intro K r0 X hnL hnm9 hret
  have hN : ∀ i, i < 7 → i < K.2.2.2.2.2.2.2.2.2.2.2.2.2.2.1 := by rw [hnL]; exact fun _ h => h
  show zS _ _ (zJ K 0 0 0 [(0, zR a0), (1, zR a1)] [] hp)
  unfold X7_orderForRenumbering
  refine z_aload_n (pc := 0) (i := 0) 0 X dX7_orderForRenumbering_0 rfl rfl ?_
  refine z_getR (pc := 1) (C := RX7) (T := TX7) (N := 9) (ci := 8) 4 X dX7_orderForRenumbering_1 inz_X7 rfl (by decide) fw_X7_38 (fun v1 => ?_)
  refine z_callV_v (pc := 4) (cells := 0) (slots := 0) (C := RX4) (T := TX4) (N := 2) (ci := 5) [] X dX7_orderForRenumbering_4 (c_X4_clear hp v1) kw_X7_388 rfl rfl ⟨rfl, rfl, ⟨by decide, by decide⟩, ⟨by decide, by decide⟩⟩ (Nat.le_of_ble_eq_true rfl) rfl (fun x2 => ?_)
  refine z_aload_n (pc := 7) (i := 0) 0 X dX7_orderForRenumbering_7 rfl rfl ?_
  refine z_getR (pc := 8) (C := RX7) (T := TX7) (N := 9) (ci := 8) 1 X dX7_orderForRenumbering_8 inz_X7 rfl (by decide) fw_X7_17 (fun v3 => ?_)
  refine z_astore_n (pc := 11) (i := 2) (lv' := [(2, zR v3), (0, zR a0), (1, zR a1)]) X dX7_orderForRenumbering_11 rfl (hN _ (by decide)) rfl ?_
  refine z_aload_n (pc := 12) (i := 2) 0 X dX7_orderForRenumbering_12 rfl rfl ?_
  refine z_alen (pc := 13) X dX7_orderForRenumbering_13 (fun v4 => ?_)
  refine z_istore_n (pc := 14) (i := 3) (lv' := [(3, zI v4), (2, zR v3), (0, zR a0), (1, zR a1)]) X dX7_orderForRenumbering_14 rfl (hN _ (by decide)) rfl ?_
  refine z_iconst (pc := 15) (z := 0) X dX7_orderForRenumbering_15 rfl ⟨by decide, by decide⟩ ?_
  refine z_istore (pc := 16) (i := 4) (lv' := [(4, zI 0), (3, zI v4), (2, zR v3), (0, zR a0), (1, zR a1)]) X dX7_orderForRenumbering_16 (hN _ (by decide)) rfl ?_
  refine z_pick [3, 4, 2, 1, 0] (lv' := [(0, zR a0), (1, zR a1), (2, zR v3), (3, zI v4), (4, zI 0)]) rfl ?_
  refine z_bind (z_loop (body := X7_orderForRenumbering_b18 a0 a1 v3 v4) (fun s9 : Int × zH => zJ K 0 0 18 [(0, zR a0), (1, zR a1), (2, zR v3), (3, zI v4), (4, zI s9.1)] [] s9.2) (fun e10 : zH => zJ K 0 0 83 [] [] e10) (fun s9 => ?_) zN (0, x2)) (fun e10 => ?_)
  · unfold X7_orderForRenumbering_b18
    refine z_iload (pc := 18) (i := 4) 4 X dX7_orderForRenumbering_18 rfl ?_
    refine z_iload_n (pc := 20) (i := 3) 3 X dX7_orderForRenumbering_20 rfl rfl ?_
    refine z_icmp_ge (pc := 21) 83 X dX7_orderForRenumbering_21 (by decide) (fun _ => ?_) (fun _ => ?_)
    · refine z_pick [] (lv' := []) rfl ?_
      exact z_exit
    · refine z_aload_n (pc := 24) (i := 2) 2 X dX7_orderForRenumbering_24 rfl rfl ?_
      refine z_iload (pc := 25) (i := 4) 4 X dX7_orderForRenumbering_25 rfl ?_
      refine z_aaload6 (pc := 27) X dX7_orderForRenumbering_27 (fun v11 => ?_)
      refine z_astore (pc := 28) (i := 5) (lv' := [(5, zR v11), (0, zR a0), (1, zR a1), (2, zR v3), (3, zI v4), (4, zI s9.1)]) X dX7_orderForRenumbering_28 (hN _ (by decide)) rfl ?_
      refine z_aload (pc := 30) (i := 5) 0 X dX7_orderForRenumbering_30 rfl ?_
      refine z_aload_n (pc := 32) (i := 1) 2 X dX7_orderForRenumbering_32 rfl rfl ?_
      refine z_callS_q (pc := 33) (cells := 0) (slots := 0) [zR v11, zR a1] X dX7_orderForRenumbering_33 (c_X7_placeOf s9.2 v11 a1) kw_X7_299 rfl ⟨rfl, rfl, ⟨by decide, by decide⟩, ⟨by decide, by decide⟩⟩ (Nat.le_of_ble_eq_true rfl) rfl (fun x12 => ?_)
      refine z_astore (pc := 36) (i := 6) (lv' := [(6, zR x12), (5, zR v11), (0, zR a0), (1, zR a1), (2, zR v3), (3, zI v4), (4, zI s9.1)]) X dX7_orderForRenumbering_36 (hN _ (by decide)) rfl ?_
      refine z_aload (pc := 38) (i := 6) 0 X dX7_orderForRenumbering_38 rfl ?_
      refine z_ifnull (pc := 40) 77 X dX7_orderForRenumbering_40 (by decide) (fun _ => ?_) (fun _ => ?_)
      · refine z_iinc (pc := 77) (i := 4) (n := 1) (lv' := fun v13 => [(4, zI v13), (6, zR x12), (5, zR v11), (0, zR a0), (1, zR a1), (2, zR v3), (3, zI v4)]) 6 X dX7_orderForRenumbering_77 rfl (hN _ (by decide)) (fun _ => rfl) (fun v13 _ _ => ?_)
        refine z_goto (pc := 80) 18 X dX7_orderForRenumbering_80 (by decide) ?_
        refine z_pick [3, 4, 5, 6, 0] (lv' := [(0, zR a0), (1, zR a1), (2, zR v3), (3, zI v4), (4, zI v13)]) rfl ?_
        exact z_back
      · refine z_aload_n (pc := 43) (i := 0) 2 X dX7_orderForRenumbering_43 rfl rfl ?_
        refine z_getR (pc := 44) (C := RX7) (T := TX7) (N := 9) (ci := 8) 4 X dX7_orderForRenumbering_44 inz_X7 rfl (by decide) fw_X7_38 (fun v14 => ?_)
        refine z_aload_n (pc := 47) (i := 1) 3 X dX7_orderForRenumbering_47 rfl rfl ?_
        refine z_getI (pc := 48) (C := RX6) (T := TX6) (N := 8) (ci := 7) 4 X dX7_orderForRenumbering_48 inz_X6 rfl (by decide) fw_X7_128 (fun v15 => ?_)
        refine z_bipush (pc := 51) (z := 121) X dX7_orderForRenumbering_51 rfl ⟨by decide, by decide⟩ ?_
        refine z_icmp_ne (pc := 53) 60 X dX7_orderForRenumbering_53 (by decide) (fun _ => ?_) (fun _ => ?_)
        · refine z_aload_n (pc := 60) (i := 1) 3 X dX7_orderForRenumbering_60 rfl rfl ?_
          refine z_aload (pc := 61) (i := 6) 0 X dX7_orderForRenumbering_61 rfl ?_
          refine z_getI (pc := 63) (C := RX5) (T := TX5) (N := 5) (ci := 6) 2 X dX7_orderForRenumbering_63 inz_X5 rfl (by decide) fw_X7_303 (fun v16 => ?_)
          refine z_callV_i (pc := 66) (cells := 0) (slots := 0) (C := RX6) (T := TX6) (N := 8) (ci := 7) [zI v16] X dX7_orderForRenumbering_66 (c_X6_farness s9.2 a1 v16) kw_X7_391 rfl rfl ⟨rfl, rfl, ⟨by decide, by decide⟩, ⟨by decide, by decide⟩⟩ (Nat.le_of_ble_eq_true rfl) rfl (fun x17 => ?_)
          refine z_aload (pc := 69) (i := 6) 0 X dX7_orderForRenumbering_69 rfl ?_
          refine z_getI (pc := 71) (C := RX5) (T := TX5) (N := 5) (ci := 6) 0 X dX7_orderForRenumbering_71 inz_X5 rfl (by decide) fw_X7_356 (fun v18 => ?_)
          refine z_callV_v (pc := 74) (cells := 0) (slots := 0) (C := RX4) (T := TX4) (N := 2) (ci := 5) [zI x17, zI v18] X dX7_orderForRenumbering_74 (c_X4_put s9.2 v14 x17 v18) kw_X7_394 rfl rfl ⟨rfl, rfl, ⟨by decide, by decide⟩, ⟨by decide, by decide⟩⟩ (Nat.le_of_ble_eq_true rfl) rfl (fun x19 => ?_)
          refine z_iinc (pc := 77) (i := 4) (n := 1) (lv' := fun v20 => [(4, zI v20), (6, zR x12), (5, zR v11), (0, zR a0), (1, zR a1), (2, zR v3), (3, zI v4)]) 6 X dX7_orderForRenumbering_77 rfl (hN _ (by decide)) (fun _ => rfl) (fun v20 _ _ => ?_)
          refine z_goto (pc := 80) 18 X dX7_orderForRenumbering_80 (by decide) ?_
          refine z_pick [3, 4, 5, 6, 0] (lv' := [(0, zR a0), (1, zR a1), (2, zR v3), (3, zI v4), (4, zI v20)]) rfl ?_
          exact z_back
        · refine z_iconst (pc := 56) (z := 0) X dX7_orderForRenumbering_56 rfl ⟨by decide, by decide⟩ ?_
          refine z_goto (pc := 57) 69 X dX7_orderForRenumbering_57 (by decide) ?_
          refine z_aload (pc := 69) (i := 6) 0 X dX7_orderForRenumbering_69 rfl ?_
          refine z_getI (pc := 71) (C := RX5) (T := TX5) (N := 5) (ci := 6) 0 X dX7_orderForRenumbering_71 inz_X5 rfl (by decide) fw_X7_356 (fun v21 => ?_)
          refine z_callV_v (pc := 74) (cells := 0) (slots := 0) (C := RX4) (T := TX4) (N := 2) (ci := 5) [zI 0, zI v21] X dX7_orderForRenumbering_74 (c_X4_put s9.2 v14 0 v21) kw_X7_394 rfl rfl ⟨rfl, rfl, ⟨by decide, by decide⟩, ⟨by decide, by decide⟩⟩ (Nat.le_of_ble_eq_true rfl) rfl (fun x22 => ?_)
          refine z_iinc (pc := 77) (i := 4) (n := 1) (lv' := fun v23 => [(4, zI v23), (6, zR x12), (5, zR v11), (0, zR a0), (1, zR a1), (2, zR v3), (3, zI v4)]) 6 X dX7_orderForRenumbering_77 rfl (hN _ (by decide)) (fun _ => rfl) (fun v23 _ _ => ?_)
          refine z_goto (pc := 80) 18 X dX7_orderForRenumbering_80 (by decide) ?_
          refine z_pick [3, 4, 5, 6, 0] (lv' := [(0, zR a0), (1, zR a1), (2, zR v3), (3, zI v4), (4, zI v23)]) rfl ?_
          exact z_back
  · refine z_fin (fun e9 => ?_)
    subst e9
    exact hret _ _ _ _ (by decide) (by decide) dX7_orderForRenumbering_83
def X7_orderForWalking_b18 (p5 : Option Nat) (p6 : Option Nat) (p7 : Option Nat) (p8 : Int) (s9 : Int × zH) : Option ((Int × zH) ⊕ (zH)) :=
  if p8 ≤ s9.1 then
    some (Sum.inr (s9.2))
  else
    (zaR s9.2 6 p7 s9.1).bind fun v11 =>
    (X7_placeOf s9.2 v11 p6).bind fun x12 =>
    if x12 = none then
      (zchk (s9.1 + 1)).bind fun v13 =>
      some (Sum.inl (v13, s9.2))
    else
      (zgR s9.2 p5 8 4).bind fun v14 =>
      (zgI s9.2 x12 6 3).bind fun v15 =>
      if v15 = 0 then
        (zgI s9.2 x12 6 2).bind fun v16 =>
        (zchk (1999 - v16)).bind fun v17 =>
        (zgI s9.2 x12 6 0).bind fun v18 =>
        ((zobj s9.2 v14 5).bind fun _ => X4_put s9.2 v14 v17 v18).bind fun x19 =>
        (zchk (s9.1 + 1)).bind fun v20 =>
        some (Sum.inl (v20, x19))
      else
        (zgI s9.2 x12 6 2).bind fun v21 =>
        (zgI s9.2 x12 6 0).bind fun v22 =>
        ((zobj s9.2 v14 5).bind fun _ => X4_put s9.2 v14 v21 v22).bind fun x23 =>
        (zchk (s9.1 + 1)).bind fun v24 =>
        some (Sum.inl (v24, x23))
def X7_orderForWalking (hp : zH) (a0 : Option Nat) (a1 : Option Nat) : Option zH :=
  (zgR hp a0 8 4).bind fun v1 =>
  ((zobj hp v1 5).bind fun _ => X4_clear hp v1).bind fun x2 =>
  (zgR x2 a0 8 1).bind fun v3 =>
  (zlen x2 v3).bind fun v4 =>
  (zloop (X7_orderForWalking_b18 a0 a1 v3 v4) zN (0, x2)).bind fun e10 =>
  some e10
set_option maxRecDepth 20000 in
theorem c_X7_orderForWalking (hp : zH) (a0 : Option Nat) (a1 : Option Nat) : ∀ r, X7_orderForWalking hp a0 a1 = some r → zMv yX7_orderForWalking (Cond.code yX7_orderForWalking cX7_orderForWalking 7 none :: zALL) { frames := 2, cells := 0, slots := 0, locals := 42 } 0 0 [zR a0, zR a1] hp r := by
  refine zMv_of (own := RX7) (cc := cX7_orderForWalking) (maxL := 7) (hp2 := fun r => r) (by decide) rfl (by exact Nat.le_of_ble_eq_true rfl) ?_
  intro K r0 X hnL hnm9 hret
  have hN : ∀ i, i < 7 → i < K.2.2.2.2.2.2.2.2.2.2.2.2.2.2.1 := by rw [hnL]; exact fun _ h => h
  show zS _ _ (zJ K 0 0 0 [(0, zR a0), (1, zR a1)] [] hp)
  unfold X7_orderForWalking
  refine z_aload_n (pc := 0) (i := 0) 0 X dX7_orderForWalking_0 rfl rfl ?_
  refine z_getR (pc := 1) (C := RX7) (T := TX7) (N := 9) (ci := 8) 4 X dX7_orderForWalking_1 inz_X7 rfl (by decide) fw_X7_38 (fun v1 => ?_)
  refine z_callV_v (pc := 4) (cells := 0) (slots := 0) (C := RX4) (T := TX4) (N := 2) (ci := 5) [] X dX7_orderForWalking_4 (c_X4_clear hp v1) kw_X7_388 rfl rfl ⟨rfl, rfl, ⟨by decide, by decide⟩, ⟨by decide, by decide⟩⟩ (Nat.le_of_ble_eq_true rfl) rfl (fun x2 => ?_)
  refine z_aload_n (pc := 7) (i := 0) 0 X dX7_orderForWalking_7 rfl rfl ?_
  refine z_getR (pc := 8) (C := RX7) (T := TX7) (N := 9) (ci := 8) 1 X dX7_orderForWalking_8 inz_X7 rfl (by decide) fw_X7_17 (fun v3 => ?_)
  refine z_astore_n (pc := 11) (i := 2) (lv' := [(2, zR v3), (0, zR a0), (1, zR a1)]) X dX7_orderForWalking_11 rfl (hN _ (by decide)) rfl ?_
  refine z_aload_n (pc := 12) (i := 2) 0 X dX7_orderForWalking_12 rfl rfl ?_
  refine z_alen (pc := 13) X dX7_orderForWalking_13 (fun v4 => ?_)
  refine z_istore_n (pc := 14) (i := 3) (lv' := [(3, zI v4), (2, zR v3), (0, zR a0), (1, zR a1)]) X dX7_orderForWalking_14 rfl (hN _ (by decide)) rfl ?_
  refine z_iconst (pc := 15) (z := 0) X dX7_orderForWalking_15 rfl ⟨by decide, by decide⟩ ?_
  refine z_istore (pc := 16) (i := 4) (lv' := [(4, zI 0), (3, zI v4), (2, zR v3), (0, zR a0), (1, zR a1)]) X dX7_orderForWalking_16 (hN _ (by decide)) rfl ?_
  refine z_pick [3, 4, 2, 1, 0] (lv' := [(0, zR a0), (1, zR a1), (2, zR v3), (3, zI v4), (4, zI 0)]) rfl ?_
  refine z_bind (z_loop (body := X7_orderForWalking_b18 a0 a1 v3 v4) (fun s9 : Int × zH => zJ K 0 0 18 [(0, zR a0), (1, zR a1), (2, zR v3), (3, zI v4), (4, zI s9.1)] [] s9.2) (fun e10 : zH => zJ K 0 0 86 [] [] e10) (fun s9 => ?_) zN (0, x2)) (fun e10 => ?_)
  · unfold X7_orderForWalking_b18
    refine z_iload (pc := 18) (i := 4) 4 X dX7_orderForWalking_18 rfl ?_
    refine z_iload_n (pc := 20) (i := 3) 3 X dX7_orderForWalking_20 rfl rfl ?_
    refine z_icmp_ge (pc := 21) 86 X dX7_orderForWalking_21 (by decide) (fun _ => ?_) (fun _ => ?_)
    · refine z_pick [] (lv' := []) rfl ?_
      exact z_exit
    · refine z_aload_n (pc := 24) (i := 2) 2 X dX7_orderForWalking_24 rfl rfl ?_
      refine z_iload (pc := 25) (i := 4) 4 X dX7_orderForWalking_25 rfl ?_
      refine z_aaload6 (pc := 27) X dX7_orderForWalking_27 (fun v11 => ?_)
      refine z_astore (pc := 28) (i := 5) (lv' := [(5, zR v11), (0, zR a0), (1, zR a1), (2, zR v3), (3, zI v4), (4, zI s9.1)]) X dX7_orderForWalking_28 (hN _ (by decide)) rfl ?_
      refine z_aload (pc := 30) (i := 5) 0 X dX7_orderForWalking_30 rfl ?_
      refine z_aload_n (pc := 32) (i := 1) 2 X dX7_orderForWalking_32 rfl rfl ?_
      refine z_callS_q (pc := 33) (cells := 0) (slots := 0) [zR v11, zR a1] X dX7_orderForWalking_33 (c_X7_placeOf s9.2 v11 a1) kw_X7_299 rfl ⟨rfl, rfl, ⟨by decide, by decide⟩, ⟨by decide, by decide⟩⟩ (Nat.le_of_ble_eq_true rfl) rfl (fun x12 => ?_)
      refine z_astore (pc := 36) (i := 6) (lv' := [(6, zR x12), (5, zR v11), (0, zR a0), (1, zR a1), (2, zR v3), (3, zI v4), (4, zI s9.1)]) X dX7_orderForWalking_36 (hN _ (by decide)) rfl ?_
      refine z_aload (pc := 38) (i := 6) 0 X dX7_orderForWalking_38 rfl ?_
      refine z_ifnull (pc := 40) 80 X dX7_orderForWalking_40 (by decide) (fun _ => ?_) (fun _ => ?_)
      · refine z_iinc (pc := 80) (i := 4) (n := 1) (lv' := fun v13 => [(4, zI v13), (6, zR x12), (5, zR v11), (0, zR a0), (1, zR a1), (2, zR v3), (3, zI v4)]) 6 X dX7_orderForWalking_80 rfl (hN _ (by decide)) (fun _ => rfl) (fun v13 _ _ => ?_)
        refine z_goto (pc := 83) 18 X dX7_orderForWalking_83 (by decide) ?_
        refine z_pick [3, 4, 5, 6, 0] (lv' := [(0, zR a0), (1, zR a1), (2, zR v3), (3, zI v4), (4, zI v13)]) rfl ?_
        exact z_back
      · refine z_aload_n (pc := 43) (i := 0) 2 X dX7_orderForWalking_43 rfl rfl ?_
        refine z_getR (pc := 44) (C := RX7) (T := TX7) (N := 9) (ci := 8) 4 X dX7_orderForWalking_44 inz_X7 rfl (by decide) fw_X7_38 (fun v14 => ?_)
        refine z_aload (pc := 47) (i := 6) 0 X dX7_orderForWalking_47 rfl ?_
        refine z_getI (pc := 49) (C := RX5) (T := TX5) (N := 5) (ci := 6) 3 X dX7_orderForWalking_49 inz_X5 rfl (by decide) fw_X7_311 (fun v15 => ?_)
        refine z_if_eq (pc := 52) 63 X dX7_orderForWalking_52 (by decide) (fun _ => ?_) (fun _ => ?_)
        · refine z_sipush (pc := 63) (z := 1999) X dX7_orderForWalking_63 rfl ⟨by decide, by decide⟩ ?_
          refine z_aload (pc := 66) (i := 6) 0 X dX7_orderForWalking_66 rfl ?_
          refine z_getI (pc := 68) (C := RX5) (T := TX5) (N := 5) (ci := 6) 2 X dX7_orderForWalking_68 inz_X5 rfl (by decide) fw_X7_303 (fun v16 => ?_)
          refine z_isub (pc := 71) X dX7_orderForWalking_71 (fun v17 _ _ => ?_)
          refine z_aload (pc := 72) (i := 6) 0 X dX7_orderForWalking_72 rfl ?_
          refine z_getI (pc := 74) (C := RX5) (T := TX5) (N := 5) (ci := 6) 0 X dX7_orderForWalking_74 inz_X5 rfl (by decide) fw_X7_356 (fun v18 => ?_)
          refine z_callV_v (pc := 77) (cells := 0) (slots := 0) (C := RX4) (T := TX4) (N := 2) (ci := 5) [zI v17, zI v18] X dX7_orderForWalking_77 (c_X4_put s9.2 v14 v17 v18) kw_X7_394 rfl rfl ⟨rfl, rfl, ⟨by decide, by decide⟩, ⟨by decide, by decide⟩⟩ (Nat.le_of_ble_eq_true rfl) rfl (fun x19 => ?_)
          refine z_iinc (pc := 80) (i := 4) (n := 1) (lv' := fun v20 => [(4, zI v20), (6, zR x12), (5, zR v11), (0, zR a0), (1, zR a1), (2, zR v3), (3, zI v4)]) 6 X dX7_orderForWalking_80 rfl (hN _ (by decide)) (fun _ => rfl) (fun v20 _ _ => ?_)
          refine z_goto (pc := 83) 18 X dX7_orderForWalking_83 (by decide) ?_
          refine z_pick [3, 4, 5, 6, 0] (lv' := [(0, zR a0), (1, zR a1), (2, zR v3), (3, zI v4), (4, zI v20)]) rfl ?_
          exact z_back
        · refine z_aload (pc := 55) (i := 6) 0 X dX7_orderForWalking_55 rfl ?_
          refine z_getI (pc := 57) (C := RX5) (T := TX5) (N := 5) (ci := 6) 2 X dX7_orderForWalking_57 inz_X5 rfl (by decide) fw_X7_303 (fun v21 => ?_)
          refine z_goto (pc := 60) 72 X dX7_orderForWalking_60 (by decide) ?_
          refine z_aload (pc := 72) (i := 6) 0 X dX7_orderForWalking_72 rfl ?_
          refine z_getI (pc := 74) (C := RX5) (T := TX5) (N := 5) (ci := 6) 0 X dX7_orderForWalking_74 inz_X5 rfl (by decide) fw_X7_356 (fun v22 => ?_)
          refine z_callV_v (pc := 77) (cells := 0) (slots := 0) (C := RX4) (T := TX4) (N := 2) (ci := 5) [zI v21, zI v22] X dX7_orderForWalking_77 (c_X4_put s9.2 v14 v21 v22) kw_X7_394 rfl rfl ⟨rfl, rfl, ⟨by decide, by decide⟩, ⟨by decide, by decide⟩⟩ (Nat.le_of_ble_eq_true rfl) rfl (fun x23 => ?_)
          refine z_iinc (pc := 80) (i := 4) (n := 1) (lv' := fun v24 => [(4, zI v24), (6, zR x12), (5, zR v11), (0, zR a0), (1, zR a1), (2, zR v3), (3, zI v4)]) 6 X dX7_orderForWalking_80 rfl (hN _ (by decide)) (fun _ => rfl) (fun v24 _ _ => ?_)
          refine z_goto (pc := 83) 18 X dX7_orderForWalking_83 (by decide) ?_
          refine z_pick [3, 4, 5, 6, 0] (lv' := [(0, zR a0), (1, zR a1), (2, zR v3), (3, zI v4), (4, zI v24)]) rfl ?_
          exact z_back
  · refine z_fin (fun e9 => ?_)
    subst e9
    exact hret _ _ _ _ (by decide) (by decide) dX7_orderForWalking_86
def X7_rememberAll_b14 (p3 : Option Nat) (p4 : Option Nat) (p5 : Int64) (p6 : Option Nat) (p7 : Int) (s8 : Int × zH) : Option ((Int × zH) ⊕ (zH)) :=
  if p7 ≤ s8.1 then
    some (Sum.inr (s8.2))
  else
    (zaR s8.2 6 p6 s8.1).bind fun v10 =>
    (X7_placeOf s8.2 v10 p4).bind fun x11 =>
    ((zobj s8.2 p3 8).bind fun _ => X7_remember s8.2 p3 p5 x11).bind fun x12 =>
    (zchk (s8.1 + 1)).bind fun v13 =>
    some (Sum.inl (v13, x12))
def X7_rememberAll (hp : zH) (a0 : Option Nat) (a1 : Option Nat) (a2 : Int64) : Option zH :=
  (zgR hp a0 8 1).bind fun v1 =>
  (zlen hp v1).bind fun v2 =>
  (zloop (X7_rememberAll_b14 a0 a1 a2 v1 v2) zN (0, hp)).bind fun e9 =>
  some e9
set_option maxRecDepth 20000 in
theorem c_X7_rememberAll (hp : zH) (a0 : Option Nat) (a1 : Option Nat) (a2 : Int64) : ∀ r, X7_rememberAll hp a0 a1 a2 = some r → zMv yX7_rememberAll (Cond.code yX7_rememberAll cX7_rememberAll 8 none :: zALL) { frames := 3, cells := 0, slots := 0, locals := 72 } 0 0 [zR a0, zR a1, zL a2] hp r := by
  refine zMv_of (own := RX7) (cc := cX7_rememberAll) (maxL := 8) (hp2 := fun r => r) (by decide) rfl (by exact Nat.le_of_ble_eq_true rfl) ?_
  intro K r0 X hnL hnm9 hret
  have hN : ∀ i, i < 8 → i < K.2.2.2.2.2.2.2.2.2.2.2.2.2.2.1 := by rw [hnL]; exact fun _ h => h
  show zS _ _ (zJ K 0 0 0 [(0, zR a0), (1, zR a1), (2, zL a2)] [] hp)
  unfold X7_rememberAll
  refine z_aload_n (pc := 0) (i := 0) 0 X dX7_rememberAll_0 rfl rfl ?_
  refine z_getR (pc := 1) (C := RX7) (T := TX7) (N := 9) (ci := 8) 1 X dX7_rememberAll_1 inz_X7 rfl (by decide) fw_X7_17 (fun v1 => ?_)
  refine z_astore (pc := 4) (i := 4) (lv' := [(4, zR v1), (0, zR a0), (1, zR a1), (2, zL a2)]) X dX7_rememberAll_4 (hN _ (by decide)) rfl ?_
  refine z_aload (pc := 6) (i := 4) 0 X dX7_rememberAll_6 rfl ?_
  refine z_alen (pc := 8) X dX7_rememberAll_8 (fun v2 => ?_)
  refine z_istore (pc := 9) (i := 5) (lv' := [(5, zI v2), (4, zR v1), (0, zR a0), (1, zR a1), (2, zL a2)]) X dX7_rememberAll_9 (hN _ (by decide)) rfl ?_
  refine z_iconst (pc := 11) (z := 0) X dX7_rememberAll_11 rfl ⟨by decide, by decide⟩ ?_
  refine z_istore (pc := 12) (i := 6) (lv' := [(6, zI 0), (5, zI v2), (4, zR v1), (0, zR a0), (1, zR a1), (2, zL a2)]) X dX7_rememberAll_12 (hN _ (by decide)) rfl ?_
  refine z_pick [3, 4, 5, 2, 1, 0] (lv' := [(0, zR a0), (1, zR a1), (2, zL a2), (4, zR v1), (5, zI v2), (6, zI 0)]) rfl ?_
  refine z_bind (z_loop (body := X7_rememberAll_b14 a0 a1 a2 v1 v2) (fun s8 : Int × zH => zJ K 0 0 14 [(0, zR a0), (1, zR a1), (2, zL a2), (4, zR v1), (5, zI v2), (6, zI s8.1)] [] s8.2) (fun e9 : zH => zJ K 0 0 45 [] [] e9) (fun s8 => ?_) zN (0, hp)) (fun e9 => ?_)
  · unfold X7_rememberAll_b14
    refine z_iload (pc := 14) (i := 6) 5 X dX7_rememberAll_14 rfl ?_
    refine z_iload (pc := 16) (i := 5) 4 X dX7_rememberAll_16 rfl ?_
    refine z_icmp_ge (pc := 18) 45 X dX7_rememberAll_18 (by decide) (fun _ => ?_) (fun _ => ?_)
    · refine z_pick [] (lv' := []) rfl ?_
      exact z_exit
    · refine z_aload (pc := 21) (i := 4) 3 X dX7_rememberAll_21 rfl ?_
      refine z_iload (pc := 23) (i := 6) 5 X dX7_rememberAll_23 rfl ?_
      refine z_aaload6 (pc := 25) X dX7_rememberAll_25 (fun v10 => ?_)
      refine z_astore (pc := 26) (i := 7) (lv' := [(7, zR v10), (0, zR a0), (1, zR a1), (2, zL a2), (4, zR v1), (5, zI v2), (6, zI s8.1)]) X dX7_rememberAll_26 (hN _ (by decide)) rfl ?_
      refine z_aload_n (pc := 28) (i := 0) 1 X dX7_rememberAll_28 rfl rfl ?_
      refine z_lload_n (pc := 29) (i := 2) 3 X dX7_rememberAll_29 rfl rfl ?_
      refine z_aload (pc := 30) (i := 7) 0 X dX7_rememberAll_30 rfl ?_
      refine z_aload_n (pc := 32) (i := 1) 2 X dX7_rememberAll_32 rfl rfl ?_
      refine z_callS_q (pc := 33) (cells := 0) (slots := 0) [zR v10, zR a1] X dX7_rememberAll_33 (c_X7_placeOf s8.2 v10 a1) kw_X7_299 rfl ⟨rfl, rfl, ⟨by decide, by decide⟩, ⟨by decide, by decide⟩⟩ (Nat.le_of_ble_eq_true rfl) rfl (fun x11 => ?_)
      refine z_callV_v (pc := 36) (cells := 0) (slots := 0) (C := RX7) (T := TX7) (N := 9) (ci := 8) [zL a2, zR x11] X dX7_rememberAll_36 (c_X7_remember s8.2 a0 a2 x11) kw_X7_363 rfl rfl ⟨rfl, rfl, ⟨by decide, by decide⟩, ⟨by decide, by decide⟩⟩ (Nat.le_of_ble_eq_true rfl) rfl (fun x12 => ?_)
      refine z_iinc (pc := 39) (i := 6) (n := 1) (lv' := fun v13 => [(6, zI v13), (7, zR v10), (0, zR a0), (1, zR a1), (2, zL a2), (4, zR v1), (5, zI v2)]) 6 X dX7_rememberAll_39 rfl (hN _ (by decide)) (fun _ => rfl) (fun v13 _ _ => ?_)
      refine z_goto (pc := 42) 14 X dX7_rememberAll_42 (by decide) ?_
      refine z_pick [2, 3, 4, 5, 6, 0] (lv' := [(0, zR a0), (1, zR a1), (2, zL a2), (4, zR v1), (5, zI v2), (6, zI v13)]) rfl ?_
      exact z_back
  · refine z_fin (fun e9 => ?_)
    subst e9
    exact hret _ _ _ _ (by decide) (by decide) dX7_rememberAll_45
def X7_remove (hp : zH) (a0 : Option Nat) (a1 : Int) : Option ((Int ⊕ Nat) × zH) :=
  ((zobj hp a0 8).bind fun _ => X7_known hp a0 a1).bind fun x1 =>
  match x1 with
  | Sum.inl v2 =>
    (zgI hp v2 2 3).bind fun v4 =>
    if v4 = 0 then
      ((zobj hp a0 8).bind fun _ => X7_letGo hp a0 v2).bind fun x5 =>
      (zgR x5 a0 8 2).bind fun v6 =>
      (zgI x5 v6 4 4).bind fun v7 =>
      some (Sum.inl v7, x5)
    else
      some (Sum.inr 2, hp)
  | Sum.inr k3 =>
    some (Sum.inr k3, hp)
set_option maxRecDepth 20000 in
theorem c_X7_remove (hp : zH) (a0 : Option Nat) (a1 : Int) : ∀ r, X7_remove hp a0 a1 = some r → zXi yX7_remove (Cond.code yX7_remove cX7_remove 3 (some .int) :: zALL) { frames := 7, cells := 2, slots := 12, locals := 114 } 2 12 [zR a0, zI a1] hp r.1 r.2 := by
  refine zXi_of (own := RX7) (cc := cX7_remove) (maxL := 3) (ε := ((Int ⊕ Nat) × zH)) (res := fun r => r.1) (hp2 := fun r => r.2) (by decide) rfl (Or.inl rfl) (by exact Nat.le_of_ble_eq_true rfl) ?_
  intro K r0 X hnL hret hthr hnew
  have hN : ∀ i, i < 3 → i < K.2.2.2.2.2.2.2.2.2.2.2.2.2.2.1 := by rw [hnL]; exact fun _ h => h
  show zS _ _ (zJ K 0 0 0 [(0, zR a0), (1, zI a1)] [] hp)
  unfold X7_remove
  refine z_aload_n (pc := 0) (i := 0) 0 X dX7_remove_0 rfl rfl ?_
  refine z_iload_n (pc := 1) (i := 1) 1 X dX7_remove_1 rfl rfl ?_
  refine z_callXV_q (pc := 2) (cells := 0) (slots := 0) (C := RX7) (T := TX7) (N := 9) (ci := 8) [zI a1] X dX7_remove_2 (c_X7_known hp a0 a1) kw_X7_209 rfl rfl ⟨rfl, rfl, ⟨by decide, by decide⟩, ⟨by decide, by decide⟩⟩ (Nat.le_of_ble_eq_true rfl) rfl (fun x1 v2 hz9 => ?_) (fun x1 k3 hz9 => ?_)
  · have hz9 : x1 = Sum.inl v2 := hz9
    subst hz9
    refine z_astore_n (pc := 5) (i := 2) (lv' := [(2, zR v2), (0, zR a0), (1, zI a1)]) X dX7_remove_5 rfl (hN _ (by decide)) rfl ?_
    refine z_aload_n (pc := 6) (i := 2) 0 X dX7_remove_6 rfl rfl ?_
    refine z_getI (pc := 7) (C := RX0) (T := TX0) (N := 5) (ci := 2) 3 X dX7_remove_7 inz_X0 rfl (by decide) fw_X7_213 (fun v4 => ?_)
    refine z_if_eq (pc := 10) 23 X dX7_remove_10 (by decide) (fun _ => ?_) (fun _ => ?_)
    · refine z_aload_n (pc := 23) (i := 0) 1 X dX7_remove_23 rfl rfl ?_
      refine z_aload_n (pc := 24) (i := 2) 0 X dX7_remove_24 rfl rfl ?_
      refine z_callV_v (pc := 25) (cells := 1) (slots := 6) (C := RX7) (T := TX7) (N := 9) (ci := 8) [zR v2] X dX7_remove_25 (c_X7_letGo hp a0 v2) kw_X7_228 rfl rfl ⟨rfl, rfl, ⟨by decide, by decide⟩, ⟨by decide, by decide⟩⟩ (Nat.le_of_ble_eq_true rfl) rfl (fun x5 => ?_)
      refine z_aload_n (pc := 28) (i := 0) 1 X dX7_remove_28 rfl rfl ?_
      refine z_getR (pc := 29) (C := RX7) (T := TX7) (N := 9) (ci := 8) 2 X dX7_remove_29 inz_X7 rfl (by decide) fw_X7_24 (fun v6 => ?_)
      refine z_getI (pc := 32) (C := RX3) (T := TX3) (N := 6) (ci := 4) 4 X dX7_remove_32 inz_X3 rfl (by decide) fw_X7_98 (fun v7 => ?_)
      refine z_fin (fun e9 => ?_)
      subst e9
      exact hret _ _ _ _ _ rfl (by decide) (by decide) dX7_remove_35 trivial
    · refine z_fin (fun e9 => ?_)
      subst e9
      exact hnew 1 6 13 _ 2 86 240 90 "it is gone" 9 6 rfl dX7_remove_13 dX7_remove_16 (Or.inl ⟨dX7_remove_17, rfl⟩) dX7_remove_19 rfl dX7_remove_22 (zin (zt2 115 (by decide +kernel)) rfl) (zin (zt1 12 (by decide +kernel)) rfl) rfl (zt3 201 (by decide +kernel)) thr_90 (by decide) (by decide) (by decide) ⟨by decide, by decide⟩ ⟨by decide, by decide⟩
  · have hz9 : x1 = Sum.inr k3 := hz9
    subst hz9
    refine z_fin (fun e9 => ?_)
    subst e9
    exact hthr _ _ _ _ _ rfl (by decide) (by decide)
def X7_rename (hp : zH) (a0 : Option Nat) (a1 : Int) : Option ((Int ⊕ Nat) × zH) :=
  ((zobj hp a0 8).bind fun _ => X7_standing hp a0 a1).bind fun x1 =>
  match x1 with
  | Sum.inl v2 =>
    (zgJ hp a0 8 7).bind fun v4 =>
    if (zcmp v4 0) = 0 then
      some (Sum.inr 2, hp)
    else
      (zgJ hp a0 8 7).bind fun v5 =>
      ((zobj hp a0 8).bind fun _ => X7_isInUse hp a0 v5).bind fun x6 =>
      if x6 = 0 then
        (zgJ hp v2 7 1).bind fun v7 =>
        ((zobj hp a0 8).bind fun _ => X7_rememberAll hp a0 v2 v7).bind fun x8 =>
        (zgJ x8 a0 8 7).bind fun v9 =>
        (zpJ x8 v2 7 1 v9).bind fun h10 =>
        (zpJ h10 a0 8 7 0).bind fun h11 =>
        (zgR h11 a0 8 2).bind fun v12 =>
        (zgI h11 v12 4 4).bind fun v13 =>
        some (Sum.inl v13, h11)
      else
        some (Sum.inr 2, hp)
  | Sum.inr k3 =>
    some (Sum.inr k3, hp)
set_option maxRecDepth 20000 in
theorem c_X7_rename (hp : zH) (a0 : Option Nat) (a1 : Int) : ∀ r, X7_rename hp a0 a1 = some r → zXi yX7_rename (Cond.code yX7_rename cX7_rename 3 (some .int) :: zALL) { frames := 7, cells := 2, slots := 12, locals := 103 } 2 12 [zR a0, zI a1] hp r.1 r.2 := by
  refine zXi_of (own := RX7) (cc := cX7_rename) (maxL := 3) (ε := ((Int ⊕ Nat) × zH)) (res := fun r => r.1) (hp2 := fun r => r.2) (by decide) rfl (Or.inl rfl) (by exact Nat.le_of_ble_eq_true rfl) ?_
  intro K r0 X hnL hret hthr hnew
  have hN : ∀ i, i < 3 → i < K.2.2.2.2.2.2.2.2.2.2.2.2.2.2.1 := by rw [hnL]; exact fun _ h => h
  show zS _ _ (zJ K 0 0 0 [(0, zR a0), (1, zI a1)] [] hp)
  unfold X7_rename
  refine z_aload_n (pc := 0) (i := 0) 0 X dX7_rename_0 rfl rfl ?_
  refine z_iload_n (pc := 1) (i := 1) 1 X dX7_rename_1 rfl rfl ?_
  refine z_callXV_q (pc := 2) (cells := 0) (slots := 0) (C := RX7) (T := TX7) (N := 9) (ci := 8) [zI a1] X dX7_rename_2 (c_X7_standing hp a0 a1) kw_X7_78 rfl rfl ⟨rfl, rfl, ⟨by decide, by decide⟩, ⟨by decide, by decide⟩⟩ (Nat.le_of_ble_eq_true rfl) rfl (fun x1 v2 hz9 => ?_) (fun x1 k3 hz9 => ?_)
  · have hz9 : x1 = Sum.inl v2 := hz9
    subst hz9
    refine z_astore_n (pc := 5) (i := 2) (lv' := [(2, zR v2), (0, zR a0), (1, zI a1)]) X dX7_rename_5 rfl (hN _ (by decide)) rfl ?_
    refine z_aload_n (pc := 6) (i := 0) 1 X dX7_rename_6 rfl rfl ?_
    refine z_getJ (pc := 7) (C := RX7) (T := TX7) (N := 9) (ci := 8) 7 X dX7_rename_7 inz_X7 rfl (by decide) fw_X7_51 (fun v4 => ?_)
    refine z_lconst (pc := 10) (z := 0) X dX7_rename_10 rfl ?_
    refine z_lcmp (pc := 11) X dX7_rename_11 ?_
    refine z_if_eq (pc := 12) 26 X dX7_rename_12 (by decide) (fun _ => ?_) (fun _ => ?_)
    · refine z_fin (fun e9 => ?_)
      subst e9
      exact hnew 1 6 26 _ 2 86 88 90 "no name, or one in use" 9 6 rfl dX7_rename_26 dX7_rename_29 (Or.inl ⟨dX7_rename_30, rfl⟩) dX7_rename_32 rfl dX7_rename_35 (zin (zt2 115 (by decide +kernel)) rfl) (zin (zt1 12 (by decide +kernel)) rfl) rfl (zt2 124 (by decide +kernel)) thr_90 (by decide) (by decide) (by decide) ⟨by decide, by decide⟩ ⟨by decide, by decide⟩
    · refine z_aload_n (pc := 15) (i := 0) 1 X dX7_rename_15 rfl rfl ?_
      refine z_aload_n (pc := 16) (i := 0) 1 X dX7_rename_16 rfl rfl ?_
      refine z_getJ (pc := 17) (C := RX7) (T := TX7) (N := 9) (ci := 8) 7 X dX7_rename_17 inz_X7 rfl (by decide) fw_X7_51 (fun v5 => ?_)
      refine z_callV_i (pc := 20) (cells := 1) (slots := 6) (C := RX7) (T := TX7) (N := 9) (ci := 8) [zL v5] X dX7_rename_20 (c_X7_isInUse hp a0 v5) kw_X7_82 rfl rfl ⟨rfl, rfl, ⟨by decide, by decide⟩, ⟨by decide, by decide⟩⟩ (Nat.le_of_ble_eq_true rfl) rfl (fun x6 => ?_)
      refine z_if_eq (pc := 23) 36 X dX7_rename_23 (by decide) (fun _ => ?_) (fun _ => ?_)
      · refine z_aload_n (pc := 36) (i := 0) 1 X dX7_rename_36 rfl rfl ?_
        refine z_aload_n (pc := 37) (i := 2) 0 X dX7_rename_37 rfl rfl ?_
        refine z_aload_n (pc := 38) (i := 2) 0 X dX7_rename_38 rfl rfl ?_
        refine z_getJ (pc := 39) (C := RX6) (T := TX6) (N := 8) (ci := 7) 1 X dX7_rename_39 inz_X6 rfl (by decide) fw_X7_91 (fun v7 => ?_)
        refine z_callV_v (pc := 42) (cells := 1) (slots := 6) (C := RX7) (T := TX7) (N := 9) (ci := 8) [zR v2, zL v7] X dX7_rename_42 (c_X7_rememberAll hp a0 v2 v7) kw_X7_94 rfl rfl ⟨rfl, rfl, ⟨by decide, by decide⟩, ⟨by decide, by decide⟩⟩ (Nat.le_of_ble_eq_true rfl) rfl (fun x8 => ?_)
        refine z_aload_n (pc := 45) (i := 2) 0 X dX7_rename_45 rfl rfl ?_
        refine z_aload_n (pc := 46) (i := 0) 1 X dX7_rename_46 rfl rfl ?_
        refine z_getJ (pc := 47) (C := RX7) (T := TX7) (N := 9) (ci := 8) 7 X dX7_rename_47 inz_X7 rfl (by decide) fw_X7_51 (fun v9 => ?_)
        refine z_putJ (pc := 50) (C := RX6) (T := TX6) (N := 8) (ci := 7) 1 X dX7_rename_50 inz_X6 tyX6_ok nmX6 rfl (by decide) fw_X7_91 rfl rfl (fun h10 => ?_)
        refine z_aload_n (pc := 53) (i := 0) 1 X dX7_rename_53 rfl rfl ?_
        refine z_lconst (pc := 54) (z := 0) X dX7_rename_54 rfl ?_
        refine z_putJ (pc := 55) (C := RX7) (T := TX7) (N := 9) (ci := 8) 7 X dX7_rename_55 inz_X7 tyX7_ok nmX7 rfl (by decide) fw_X7_51 rfl rfl (fun h11 => ?_)
        refine z_aload_n (pc := 58) (i := 0) 1 X dX7_rename_58 rfl rfl ?_
        refine z_getR (pc := 59) (C := RX7) (T := TX7) (N := 9) (ci := 8) 2 X dX7_rename_59 inz_X7 rfl (by decide) fw_X7_24 (fun v12 => ?_)
        refine z_getI (pc := 62) (C := RX3) (T := TX3) (N := 6) (ci := 4) 4 X dX7_rename_62 inz_X3 rfl (by decide) fw_X7_98 (fun v13 => ?_)
        refine z_fin (fun e9 => ?_)
        subst e9
        exact hret _ _ _ _ _ rfl (by decide) (by decide) dX7_rename_65 trivial
      · refine z_fin (fun e9 => ?_)
        subst e9
        exact hnew 1 6 26 _ 2 86 88 90 "no name, or one in use" 9 6 rfl dX7_rename_26 dX7_rename_29 (Or.inl ⟨dX7_rename_30, rfl⟩) dX7_rename_32 rfl dX7_rename_35 (zin (zt2 115 (by decide +kernel)) rfl) (zin (zt1 12 (by decide +kernel)) rfl) rfl (zt2 124 (by decide +kernel)) thr_90 (by decide) (by decide) (by decide) ⟨by decide, by decide⟩ ⟨by decide, by decide⟩
  · have hz9 : x1 = Sum.inr k3 := hz9
    subst hz9
    refine z_fin (fun e9 => ?_)
    subst e9
    exact hthr _ _ _ _ _ rfl (by decide) (by decide)
def X7_takeNewCodes_b14 (p3 : Option Nat) (p4 : Option Nat) (p5 : Option Nat) (p6 : Int) (s7 : Int × Int × zH) : Option ((Int × Int × zH) ⊕ (Int × zH)) :=
  if p6 ≤ s7.2.1 then
    some (Sum.inr (s7.1, s7.2.2))
  else
    (zaR s7.2.2 6 p5 s7.2.1).bind fun v9 =>
    (X7_placeOf s7.2.2 v9 p4).bind fun x10 =>
    if x10 = none then
      (zchk (s7.2.1 + 1)).bind fun v11 =>
      some (Sum.inl (s7.1, v11, s7.2.2))
    else
      (zgI s7.2.2 x10 6 4).bind fun v12 =>
      (zgR s7.2.2 p3 8 3).bind fun v13 =>
      (zgI s7.2.2 x10 6 0).bind fun v14 =>
      ((zobj s7.2.2 v13 3).bind fun _ => X1_codeOf s7.2.2 v13 v14).bind fun x15 =>
      if v12 = x15 then
        (zchk (s7.2.1 + 1)).bind fun v16 =>
        some (Sum.inl (s7.1, v16, s7.2.2))
      else
        ((zobj s7.2.2 p3 8).bind fun _ => X7_rememberBoth s7.2.2 p3 x10).bind fun x17 =>
        (zgR x17 p3 8 3).bind fun v18 =>
        (zgI x17 x10 6 0).bind fun v19 =>
        ((zobj x17 v18 3).bind fun _ => X1_codeOf x17 v18 v19).bind fun x20 =>
        (zpI x17 x10 6 4 x20).bind fun h21 =>
        (zchk (s7.1 + 1)).bind fun v22 =>
        (zchk (s7.2.1 + 1)).bind fun v23 =>
        some (Sum.inl (v22, v23, h21))
def X7_takeNewCodes (hp : zH) (a0 : Option Nat) (a1 : Option Nat) : Option (Int × zH) :=
  (zgR hp a0 8 1).bind fun v1 =>
  (zlen hp v1).bind fun v2 =>
  (zloop (X7_takeNewCodes_b14 a0 a1 v1 v2) zN (0, 0, hp)).bind fun e8 =>
  some (e8.1, e8.2)
set_option maxRecDepth 20000 in
theorem c_X7_takeNewCodes (hp : zH) (a0 : Option Nat) (a1 : Option Nat) : ∀ r, X7_takeNewCodes hp a0 a1 = some r → zMi yX7_takeNewCodes (Cond.code yX7_takeNewCodes cX7_takeNewCodes 8 (some .int) :: zALL) { frames := 4, cells := 0, slots := 0, locals := 93 } 0 0 [zR a0, zR a1] hp r.1 r.2 := by
  refine zMi_of (own := RX7) (cc := cX7_takeNewCodes) (maxL := 8) (ε := (Int × zH)) (res := fun r => r.1) (hp2 := fun r => r.2) (by decide) rfl (Or.inl rfl) (by exact Nat.le_of_ble_eq_true rfl) ?_
  intro K r0 X hnL hret
  have hN : ∀ i, i < 8 → i < K.2.2.2.2.2.2.2.2.2.2.2.2.2.2.1 := by rw [hnL]; exact fun _ h => h
  show zS _ _ (zJ K 0 0 0 [(0, zR a0), (1, zR a1)] [] hp)
  unfold X7_takeNewCodes
  refine z_iconst (pc := 0) (z := 0) X dX7_takeNewCodes_0 rfl ⟨by decide, by decide⟩ ?_
  refine z_istore_n (pc := 1) (i := 2) (lv' := [(2, zI 0), (0, zR a0), (1, zR a1)]) X dX7_takeNewCodes_1 rfl (hN _ (by decide)) rfl ?_
  refine z_aload_n (pc := 2) (i := 0) 1 X dX7_takeNewCodes_2 rfl rfl ?_
  refine z_getR (pc := 3) (C := RX7) (T := TX7) (N := 9) (ci := 8) 1 X dX7_takeNewCodes_3 inz_X7 rfl (by decide) fw_X7_17 (fun v1 => ?_)
  refine z_astore_n (pc := 6) (i := 3) (lv' := [(3, zR v1), (2, zI 0), (0, zR a0), (1, zR a1)]) X dX7_takeNewCodes_6 rfl (hN _ (by decide)) rfl ?_
  refine z_aload_n (pc := 7) (i := 3) 0 X dX7_takeNewCodes_7 rfl rfl ?_
  refine z_alen (pc := 8) X dX7_takeNewCodes_8 (fun v2 => ?_)
  refine z_istore (pc := 9) (i := 4) (lv' := [(4, zI v2), (3, zR v1), (2, zI 0), (0, zR a0), (1, zR a1)]) X dX7_takeNewCodes_9 (hN _ (by decide)) rfl ?_
  refine z_iconst (pc := 11) (z := 0) X dX7_takeNewCodes_11 rfl ⟨by decide, by decide⟩ ?_
  refine z_istore (pc := 12) (i := 5) (lv' := [(5, zI 0), (4, zI v2), (3, zR v1), (2, zI 0), (0, zR a0), (1, zR a1)]) X dX7_takeNewCodes_12 (hN _ (by decide)) rfl ?_
  refine z_pick [4, 5, 3, 2, 1, 0] (lv' := [(0, zR a0), (1, zR a1), (2, zI 0), (3, zR v1), (4, zI v2), (5, zI 0)]) rfl ?_
  refine z_bind (z_loop (body := X7_takeNewCodes_b14 a0 a1 v1 v2) (fun s7 : Int × Int × zH => zJ K 0 0 14 [(0, zR a0), (1, zR a1), (2, zI s7.1), (3, zR v1), (4, zI v2), (5, zI s7.2.1)] [] s7.2.2) (fun e8 : Int × zH => zJ K 0 0 92 [(2, zI e8.1)] [] e8.2) (fun s7 => ?_) zN (0, 0, hp)) (fun e8 => ?_)
  · unfold X7_takeNewCodes_b14
    refine z_iload (pc := 14) (i := 5) 5 X dX7_takeNewCodes_14 rfl ?_
    refine z_iload (pc := 16) (i := 4) 4 X dX7_takeNewCodes_16 rfl ?_
    refine z_icmp_ge (pc := 18) 92 X dX7_takeNewCodes_18 (by decide) (fun _ => ?_) (fun _ => ?_)
    · refine z_pick [2] (lv' := [(2, zI s7.1)]) rfl ?_
      exact z_exit
    · refine z_aload_n (pc := 21) (i := 3) 3 X dX7_takeNewCodes_21 rfl rfl ?_
      refine z_iload (pc := 22) (i := 5) 5 X dX7_takeNewCodes_22 rfl ?_
      refine z_aaload6 (pc := 24) X dX7_takeNewCodes_24 (fun v9 => ?_)
      refine z_astore (pc := 25) (i := 6) (lv' := [(6, zR v9), (0, zR a0), (1, zR a1), (2, zI s7.1), (3, zR v1), (4, zI v2), (5, zI s7.2.1)]) X dX7_takeNewCodes_25 (hN _ (by decide)) rfl ?_
      refine z_aload (pc := 27) (i := 6) 0 X dX7_takeNewCodes_27 rfl ?_
      refine z_aload_n (pc := 29) (i := 1) 2 X dX7_takeNewCodes_29 rfl rfl ?_
      refine z_callS_q (pc := 30) (cells := 0) (slots := 0) [zR v9, zR a1] X dX7_takeNewCodes_30 (c_X7_placeOf s7.2.2 v9 a1) kw_X7_299 rfl ⟨rfl, rfl, ⟨by decide, by decide⟩, ⟨by decide, by decide⟩⟩ (Nat.le_of_ble_eq_true rfl) rfl (fun x10 => ?_)
      refine z_astore (pc := 33) (i := 7) (lv' := [(7, zR x10), (6, zR v9), (0, zR a0), (1, zR a1), (2, zI s7.1), (3, zR v1), (4, zI v2), (5, zI s7.2.1)]) X dX7_takeNewCodes_33 (hN _ (by decide)) rfl ?_
      refine z_aload (pc := 35) (i := 7) 0 X dX7_takeNewCodes_35 rfl ?_
      refine z_ifnull (pc := 37) 86 X dX7_takeNewCodes_37 (by decide) (fun _ => ?_) (fun _ => ?_)
      · refine z_iinc (pc := 86) (i := 5) (n := 1) (lv' := fun v11 => [(5, zI v11), (7, zR x10), (6, zR v9), (0, zR a0), (1, zR a1), (2, zI s7.1), (3, zR v1), (4, zI v2)]) 7 X dX7_takeNewCodes_86 rfl (hN _ (by decide)) (fun _ => rfl) (fun v11 _ _ => ?_)
        refine z_goto (pc := 89) 14 X dX7_takeNewCodes_89 (by decide) ?_
        refine z_pick [3, 4, 5, 6, 7, 0] (lv' := [(0, zR a0), (1, zR a1), (2, zI s7.1), (3, zR v1), (4, zI v2), (5, zI v11)]) rfl ?_
        exact z_back
      · refine z_aload (pc := 40) (i := 7) 0 X dX7_takeNewCodes_40 rfl ?_
        refine z_getI (pc := 42) (C := RX5) (T := TX5) (N := 5) (ci := 6) 4 X dX7_takeNewCodes_42 inz_X5 rfl (by decide) fw_X7_200 (fun v12 => ?_)
        refine z_aload_n (pc := 45) (i := 0) 2 X dX7_takeNewCodes_45 rfl rfl ?_
        refine z_getR (pc := 46) (C := RX7) (T := TX7) (N := 9) (ci := 8) 3 X dX7_takeNewCodes_46 inz_X7 rfl (by decide) fw_X7_31 (fun v13 => ?_)
        refine z_aload (pc := 49) (i := 7) 0 X dX7_takeNewCodes_49 rfl ?_
        refine z_getI (pc := 51) (C := RX5) (T := TX5) (N := 5) (ci := 6) 0 X dX7_takeNewCodes_51 inz_X5 rfl (by decide) fw_X7_356 (fun v14 => ?_)
        refine z_callV_i (pc := 54) (cells := 0) (slots := 0) (C := RX1) (T := TX1) (N := 7) (ci := 3) [zI v14] X dX7_takeNewCodes_54 (c_X1_codeOf s7.2.2 v13 v14) kw_X7_382 rfl rfl ⟨rfl, rfl, ⟨by decide, by decide⟩, ⟨by decide, by decide⟩⟩ (Nat.le_of_ble_eq_true rfl) rfl (fun x15 => ?_)
        refine z_icmp_eq (pc := 57) 86 X dX7_takeNewCodes_57 (by decide) (fun _ => ?_) (fun _ => ?_)
        · refine z_iinc (pc := 86) (i := 5) (n := 1) (lv' := fun v16 => [(5, zI v16), (7, zR x10), (6, zR v9), (0, zR a0), (1, zR a1), (2, zI s7.1), (3, zR v1), (4, zI v2)]) 7 X dX7_takeNewCodes_86 rfl (hN _ (by decide)) (fun _ => rfl) (fun v16 _ _ => ?_)
          refine z_goto (pc := 89) 14 X dX7_takeNewCodes_89 (by decide) ?_
          refine z_pick [3, 4, 5, 6, 7, 0] (lv' := [(0, zR a0), (1, zR a1), (2, zI s7.1), (3, zR v1), (4, zI v2), (5, zI v16)]) rfl ?_
          exact z_back
        · refine z_aload_n (pc := 60) (i := 0) 2 X dX7_takeNewCodes_60 rfl rfl ?_
          refine z_aload (pc := 61) (i := 7) 0 X dX7_takeNewCodes_61 rfl ?_
          refine z_callV_v (pc := 63) (cells := 0) (slots := 0) (C := RX7) (T := TX7) (N := 9) (ci := 8) [zR x10] X dX7_takeNewCodes_63 (c_X7_rememberBoth s7.2.2 a0 x10) kw_X7_367 rfl rfl ⟨rfl, rfl, ⟨by decide, by decide⟩, ⟨by decide, by decide⟩⟩ (Nat.le_of_ble_eq_true rfl) rfl (fun x17 => ?_)
          refine z_aload (pc := 66) (i := 7) 0 X dX7_takeNewCodes_66 rfl ?_
          refine z_aload_n (pc := 68) (i := 0) 2 X dX7_takeNewCodes_68 rfl rfl ?_
          refine z_getR (pc := 69) (C := RX7) (T := TX7) (N := 9) (ci := 8) 3 X dX7_takeNewCodes_69 inz_X7 rfl (by decide) fw_X7_31 (fun v18 => ?_)
          refine z_aload (pc := 72) (i := 7) 0 X dX7_takeNewCodes_72 rfl ?_
          refine z_getI (pc := 74) (C := RX5) (T := TX5) (N := 5) (ci := 6) 0 X dX7_takeNewCodes_74 inz_X5 rfl (by decide) fw_X7_356 (fun v19 => ?_)
          refine z_callV_i (pc := 77) (cells := 0) (slots := 0) (C := RX1) (T := TX1) (N := 7) (ci := 3) [zI v19] X dX7_takeNewCodes_77 (c_X1_codeOf x17 v18 v19) kw_X7_382 rfl rfl ⟨rfl, rfl, ⟨by decide, by decide⟩, ⟨by decide, by decide⟩⟩ (Nat.le_of_ble_eq_true rfl) rfl (fun x20 => ?_)
          refine z_putI (pc := 80) (C := RX5) (T := TX5) (N := 5) (ci := 6) 4 X dX7_takeNewCodes_80 inz_X5 tyX5_ok nmX5 rfl (by decide) fw_X7_200 rfl rfl (fun h21 => ?_)
          refine z_iinc (pc := 83) (i := 2) (n := 1) (lv' := fun v22 => [(2, zI v22), (7, zR x10), (6, zR v9), (0, zR a0), (1, zR a1), (3, zR v1), (4, zI v2), (5, zI s7.2.1)]) 4 X dX7_takeNewCodes_83 rfl (hN _ (by decide)) (fun _ => rfl) (fun v22 _ _ => ?_)
          refine z_iinc (pc := 86) (i := 5) (n := 1) (lv' := fun v23 => [(5, zI v23), (2, zI v22), (7, zR x10), (6, zR v9), (0, zR a0), (1, zR a1), (3, zR v1), (4, zI v2)]) 7 X dX7_takeNewCodes_86 rfl (hN _ (by decide)) (fun _ => rfl) (fun v23 _ _ => ?_)
          refine z_goto (pc := 89) 14 X dX7_takeNewCodes_89 (by decide) ?_
          refine z_pick [4, 5, 1, 6, 7, 0] (lv' := [(0, zR a0), (1, zR a1), (2, zI v22), (3, zR v1), (4, zI v2), (5, zI v23)]) rfl ?_
          exact z_back
  · refine z_iload_n (pc := 92) (i := 2) 0 X dX7_takeNewCodes_92 rfl rfl ?_
    refine z_fin (fun e9 => ?_)
    subst e9
    exact hret _ _ _ _ (by decide) (by decide) dX7_takeNewCodes_93 trivial
def X7_renumber (hp : zH) (a0 : Option Nat) (a1 : Int) : Option ((Int ⊕ Nat) × zH) :=
  ((zobj hp a0 8).bind fun _ => X7_standing hp a0 a1).bind fun x1 =>
  match x1 with
  | Sum.inl v2 =>
    (zgR hp a0 8 3).bind fun v4 =>
    (zgI hp v2 7 3).bind fun v5 =>
    ((zobj hp v4 3).bind fun _ => X1_open hp v4 v2 v5 0).bind fun x6 =>
    ((zobj x6 a0 8).bind fun _ => X7_orderForRenumbering x6 a0 v2).bind fun x7 =>
    ((zobj x7 a0 8).bind fun _ => X7_enterInOrder x7 a0 v2 0).bind fun x8 =>
    if x8.1 = 0 then
      some (Sum.inr 2, x8.2)
    else
      (zgR x8.2 a0 8 3).bind fun v9 =>
      (zgI x8.2 v9 3 6).bind fun v10 =>
      (zpI x8.2 v2 7 7 v10).bind fun h11 =>
      ((zobj h11 a0 8).bind fun _ => X7_takeNewCodes h11 a0 v2).bind fun x12 =>
      some (Sum.inl x12.1, x12.2)
  | Sum.inr k3 =>
    some (Sum.inr k3, hp)
set_option maxRecDepth 20000 in
theorem c_X7_renumber (hp : zH) (a0 : Option Nat) (a1 : Int) : ∀ r, X7_renumber hp a0 a1 = some r → zXi yX7_renumber (Cond.code yX7_renumber cX7_renumber 3 (some .int) :: zALL) { frames := 7, cells := 2, slots := 12, locals := 126 } 2 12 [zR a0, zI a1] hp r.1 r.2 := by
  refine zXi_of (own := RX7) (cc := cX7_renumber) (maxL := 3) (ε := ((Int ⊕ Nat) × zH)) (res := fun r => r.1) (hp2 := fun r => r.2) (by decide) rfl (Or.inl rfl) (by exact Nat.le_of_ble_eq_true rfl) ?_
  intro K r0 X hnL hret hthr hnew
  have hN : ∀ i, i < 3 → i < K.2.2.2.2.2.2.2.2.2.2.2.2.2.2.1 := by rw [hnL]; exact fun _ h => h
  show zS _ _ (zJ K 0 0 0 [(0, zR a0), (1, zI a1)] [] hp)
  unfold X7_renumber
  refine z_aload_n (pc := 0) (i := 0) 0 X dX7_renumber_0 rfl rfl ?_
  refine z_iload_n (pc := 1) (i := 1) 1 X dX7_renumber_1 rfl rfl ?_
  refine z_callXV_q (pc := 2) (cells := 0) (slots := 0) (C := RX7) (T := TX7) (N := 9) (ci := 8) [zI a1] X dX7_renumber_2 (c_X7_standing hp a0 a1) kw_X7_78 rfl rfl ⟨rfl, rfl, ⟨by decide, by decide⟩, ⟨by decide, by decide⟩⟩ (Nat.le_of_ble_eq_true rfl) rfl (fun x1 v2 hz9 => ?_) (fun x1 k3 hz9 => ?_)
  · have hz9 : x1 = Sum.inl v2 := hz9
    subst hz9
    refine z_astore_n (pc := 5) (i := 2) (lv' := [(2, zR v2), (0, zR a0), (1, zI a1)]) X dX7_renumber_5 rfl (hN _ (by decide)) rfl ?_
    refine z_aload_n (pc := 6) (i := 0) 1 X dX7_renumber_6 rfl rfl ?_
    refine z_getR (pc := 7) (C := RX7) (T := TX7) (N := 9) (ci := 8) 3 X dX7_renumber_7 inz_X7 rfl (by decide) fw_X7_31 (fun v4 => ?_)
    refine z_aload_n (pc := 10) (i := 2) 0 X dX7_renumber_10 rfl rfl ?_
    refine z_aload_n (pc := 11) (i := 2) 0 X dX7_renumber_11 rfl rfl ?_
    refine z_getI (pc := 12) (C := RX6) (T := TX6) (N := 8) (ci := 7) 3 X dX7_renumber_12 inz_X6 rfl (by decide) fw_X7_136 (fun v5 => ?_)
    refine z_iconst (pc := 15) (z := 0) X dX7_renumber_15 rfl ⟨by decide, by decide⟩ ?_
    refine z_callV_v (pc := 16) (cells := 1) (slots := 6) (C := RX1) (T := TX1) (N := 7) (ci := 3) [zR v2, zI v5, zI 0] X dX7_renumber_16 (c_X1_open hp v4 v2 v5 0) kw_X7_139 rfl rfl ⟨rfl, rfl, ⟨by decide, by decide⟩, ⟨by decide, by decide⟩⟩ (Nat.le_of_ble_eq_true rfl) rfl (fun x6 => ?_)
    refine z_aload_n (pc := 19) (i := 0) 1 X dX7_renumber_19 rfl rfl ?_
    refine z_aload_n (pc := 20) (i := 2) 0 X dX7_renumber_20 rfl rfl ?_
    refine z_callV_v (pc := 21) (cells := 1) (slots := 6) (C := RX7) (T := TX7) (N := 9) (ci := 8) [zR v2] X dX7_renumber_21 (c_X7_orderForRenumbering x6 a0 v2) kw_X7_143 rfl rfl ⟨rfl, rfl, ⟨by decide, by decide⟩, ⟨by decide, by decide⟩⟩ (Nat.le_of_ble_eq_true rfl) rfl (fun x7 => ?_)
    refine z_aload_n (pc := 24) (i := 0) 1 X dX7_renumber_24 rfl rfl ?_
    refine z_aload_n (pc := 25) (i := 2) 0 X dX7_renumber_25 rfl rfl ?_
    refine z_iconst (pc := 26) (z := 0) X dX7_renumber_26 rfl ⟨by decide, by decide⟩ ?_
    refine z_callV_i (pc := 27) (cells := 1) (slots := 6) (C := RX7) (T := TX7) (N := 9) (ci := 8) [zR v2, zI 0] X dX7_renumber_27 (c_X7_enterInOrder x7 a0 v2 0) kw_X7_147 rfl rfl ⟨rfl, rfl, ⟨by decide, by decide⟩, ⟨by decide, by decide⟩⟩ (Nat.le_of_ble_eq_true rfl) rfl (fun x8 => ?_)
    refine z_if_ne (pc := 30) 43 X dX7_renumber_30 (by decide) (fun _ => ?_) (fun _ => ?_)
    · refine z_aload_n (pc := 43) (i := 2) 0 X dX7_renumber_43 rfl rfl ?_
      refine z_aload_n (pc := 44) (i := 0) 1 X dX7_renumber_44 rfl rfl ?_
      refine z_getR (pc := 45) (C := RX7) (T := TX7) (N := 9) (ci := 8) 3 X dX7_renumber_45 inz_X7 rfl (by decide) fw_X7_31 (fun v9 => ?_)
      refine z_getI (pc := 48) (C := RX1) (T := TX1) (N := 7) (ci := 3) 6 X dX7_renumber_48 inz_X1 rfl (by decide) fw_X7_153 (fun v10 => ?_)
      refine z_putI (pc := 51) (C := RX6) (T := TX6) (N := 8) (ci := 7) 7 X dX7_renumber_51 inz_X6 tyX6_ok nmX6 rfl (by decide) fw_X7_156 rfl rfl (fun h11 => ?_)
      refine z_aload_n (pc := 54) (i := 0) 1 X dX7_renumber_54 rfl rfl ?_
      refine z_aload_n (pc := 55) (i := 2) 0 X dX7_renumber_55 rfl rfl ?_
      refine z_callV_i (pc := 56) (cells := 1) (slots := 6) (C := RX7) (T := TX7) (N := 9) (ci := 8) [zR v2] X dX7_renumber_56 (c_X7_takeNewCodes h11 a0 v2) kw_X7_157 rfl rfl ⟨rfl, rfl, ⟨by decide, by decide⟩, ⟨by decide, by decide⟩⟩ (Nat.le_of_ble_eq_true rfl) rfl (fun x12 => ?_)
      refine z_fin (fun e9 => ?_)
      subst e9
      exact hret _ _ _ _ _ rfl (by decide) (by decide) dX7_renumber_59 trivial
    · refine z_fin (fun e9 => ?_)
      subst e9
      exact hnew 1 6 33 _ 2 86 151 90 "a door could not come" 9 6 rfl dX7_renumber_33 dX7_renumber_36 (Or.inl ⟨dX7_renumber_37, rfl⟩) dX7_renumber_39 rfl dX7_renumber_42 (zin (zt2 115 (by decide +kernel)) rfl) (zin (zt1 12 (by decide +kernel)) rfl) rfl (zt3 233 (by decide +kernel)) thr_90 (by decide) (by decide) (by decide) ⟨by decide, by decide⟩ ⟨by decide, by decide⟩
  · have hz9 : x1 = Sum.inr k3 := hz9
    subst hz9
    refine z_fin (fun e9 => ?_)
    subst e9
    exact hthr _ _ _ _ _ rfl (by decide) (by decide)
def X7_send (hp : zH) (a0 : Option Nat) (a1 : Int) : Option (Int ⊕ Nat) :=
  (zgJ hp a0 8 7).bind fun v1 =>
  ((zobj hp a0 8).bind fun _ => X7_doorNow hp a0 v1 a1).bind fun x2 =>
  if x2 = none then
    (zgR hp a0 8 2).bind fun v3 =>
    (zgJ hp a0 8 7).bind fun v4 =>
    ((zobj hp v3 4).bind fun _ => X3_newest hp v3 v4 a1).bind fun x5 =>
    if 0 ≤ x5 then
      (zgR hp a0 8 2).bind fun v6 =>
      ((zobj hp v6 4).bind fun _ => X3_doorIn hp v6 x5).bind fun x7 =>
      ((zobj hp a0 8).bind fun _ => X7_doorAt hp a0 x7).bind fun x8 =>
      (X7_endOf hp x8).bind fun x9 =>
      if x9 = none then
        some (Sum.inr 2)
      else
        (zgI hp x9 2 0).bind fun v10 =>
        some (Sum.inl v10)
    else
      some (Sum.inr 4)
  else
    (zgI hp x2 2 0).bind fun v11 =>
    some (Sum.inl v11)
set_option maxRecDepth 20000 in
theorem c_X7_send (hp : zH) (a0 : Option Nat) (a1 : Int) : ∀ r, X7_send hp a0 a1 = some r → zXi yX7_send (Cond.code yX7_send cX7_send 5 (some .int) :: zALL) { frames := 6, cells := 1, slots := 6, locals := 95 } 1 6 [zR a0, zI a1] hp r hp := by
  refine zXi_of (own := RX7) (cc := cX7_send) (maxL := 5) (res := fun r => r) (hp2 := fun _ => hp) (by decide) rfl (Or.inl rfl) (by exact Nat.le_of_ble_eq_true rfl) ?_
  intro K r0 X hnL hret hthr hnew
  have hN : ∀ i, i < 5 → i < K.2.2.2.2.2.2.2.2.2.2.2.2.2.2.1 := by rw [hnL]; exact fun _ h => h
  show zS _ _ (zJ K 0 0 0 [(0, zR a0), (1, zI a1)] [] hp)
  unfold X7_send
  refine z_aload_n (pc := 0) (i := 0) 0 X dX7_send_0 rfl rfl ?_
  refine z_aload_n (pc := 1) (i := 0) 0 X dX7_send_1 rfl rfl ?_
  refine z_getJ (pc := 2) (C := RX7) (T := TX7) (N := 9) (ci := 8) 7 X dX7_send_2 inz_X7 rfl (by decide) fw_X7_51 (fun v1 => ?_)
  refine z_iload_n (pc := 5) (i := 1) 1 X dX7_send_5 rfl rfl ?_
  refine z_callV_q (pc := 6) (cells := 0) (slots := 0) (C := RX7) (T := TX7) (N := 9) (ci := 8) [zL v1, zI a1] X dX7_send_6 (c_X7_doorNow hp a0 v1 a1) kw_X7_261 rfl rfl ⟨rfl, rfl, ⟨by decide, by decide⟩, ⟨by decide, by decide⟩⟩ (Nat.le_of_ble_eq_true rfl) rfl (fun x2 => ?_)
  refine z_astore_n (pc := 9) (i := 2) (lv' := [(2, zR x2), (0, zR a0), (1, zI a1)]) X dX7_send_9 rfl (hN _ (by decide)) rfl ?_
  refine z_aload_n (pc := 10) (i := 2) 0 X dX7_send_10 rfl rfl ?_
  refine z_ifnull (pc := 11) 19 X dX7_send_11 (by decide) (fun _ => ?_) (fun _ => ?_)
  · refine z_aload_n (pc := 19) (i := 0) 1 X dX7_send_19 rfl rfl ?_
    refine z_getR (pc := 20) (C := RX7) (T := TX7) (N := 9) (ci := 8) 2 X dX7_send_20 inz_X7 rfl (by decide) fw_X7_24 (fun v3 => ?_)
    refine z_aload_n (pc := 23) (i := 0) 1 X dX7_send_23 rfl rfl ?_
    refine z_getJ (pc := 24) (C := RX7) (T := TX7) (N := 9) (ci := 8) 7 X dX7_send_24 inz_X7 rfl (by decide) fw_X7_51 (fun v4 => ?_)
    refine z_iload_n (pc := 27) (i := 1) 2 X dX7_send_27 rfl rfl ?_
    refine z_callV_i (pc := 28) (cells := 0) (slots := 0) (C := RX3) (T := TX3) (N := 6) (ci := 4) [zL v4, zI a1] X dX7_send_28 (c_X3_newest hp v3 v4 a1) kw_X7_268 rfl rfl ⟨rfl, rfl, ⟨by decide, by decide⟩, ⟨by decide, by decide⟩⟩ (Nat.le_of_ble_eq_true rfl) rfl (fun x5 => ?_)
    refine z_istore_n (pc := 31) (i := 3) (lv' := [(3, zI x5), (2, zR x2), (0, zR a0), (1, zI a1)]) X dX7_send_31 rfl (hN _ (by decide)) rfl ?_
    refine z_iload_n (pc := 32) (i := 3) 0 X dX7_send_32 rfl rfl ?_
    refine z_if_ge (pc := 33) 47 X dX7_send_33 (by decide) (fun _ => ?_) (fun _ => ?_)
    · refine z_aload_n (pc := 47) (i := 0) 2 X dX7_send_47 rfl rfl ?_
      refine z_aload_n (pc := 48) (i := 0) 2 X dX7_send_48 rfl rfl ?_
      refine z_getR (pc := 49) (C := RX7) (T := TX7) (N := 9) (ci := 8) 2 X dX7_send_49 inz_X7 rfl (by decide) fw_X7_24 (fun v6 => ?_)
      refine z_iload_n (pc := 52) (i := 3) 0 X dX7_send_52 rfl rfl ?_
      refine z_callV_i (pc := 53) (cells := 0) (slots := 0) (C := RX3) (T := TX3) (N := 6) (ci := 4) [zI x5] X dX7_send_53 (c_X3_doorIn hp v6 x5) kw_X7_274 rfl rfl ⟨rfl, rfl, ⟨by decide, by decide⟩, ⟨by decide, by decide⟩⟩ (Nat.le_of_ble_eq_true rfl) rfl (fun x7 => ?_)
      refine z_callV_q (pc := 56) (cells := 0) (slots := 0) (C := RX7) (T := TX7) (N := 9) (ci := 8) [zI x7] X dX7_send_56 (c_X7_doorAt hp a0 x7) kw_X7_278 rfl rfl ⟨rfl, rfl, ⟨by decide, by decide⟩, ⟨by decide, by decide⟩⟩ (Nat.le_of_ble_eq_true rfl) rfl (fun x8 => ?_)
      refine z_callS_q (pc := 59) (cells := 0) (slots := 0) [zR x8] X dX7_send_59 (c_X7_endOf hp x8) kw_X7_281 rfl ⟨rfl, rfl, ⟨by decide, by decide⟩, ⟨by decide, by decide⟩⟩ (Nat.le_of_ble_eq_true rfl) rfl (fun x9 => ?_)
      refine z_astore (pc := 62) (i := 4) (lv' := [(4, zR x9), (3, zI x5), (2, zR x2), (0, zR a0), (1, zI a1)]) X dX7_send_62 (hN _ (by decide)) rfl ?_
      refine z_aload (pc := 64) (i := 4) 0 X dX7_send_64 rfl ?_
      refine z_ifnonnull (pc := 66) 80 X dX7_send_66 (by decide) (fun _ => ?_) (fun _ => ?_)
      · refine z_aload (pc := 80) (i := 4) 0 X dX7_send_80 rfl ?_
        refine z_getI (pc := 82) (C := RX0) (T := TX0) (N := 5) (ci := 2) 0 X dX7_send_82 inz_X0 rfl (by decide) fw_X7_267 (fun v10 => ?_)
        refine z_fin (fun e9 => ?_)
        subst e9
        exact hret _ _ _ _ _ rfl (by decide) (by decide) dX7_send_85 trivial
      · refine z_fin (fun e9 => ?_)
        subst e9
        exact hnew 0 0 69 _ 2 86 285 90 "the letter is lost" 10 7 rfl dX7_send_69 dX7_send_72 (Or.inr ⟨dX7_send_73, rfl⟩) dX7_send_76 rfl dX7_send_79 (zin (zt2 115 (by decide +kernel)) rfl) (zin (zt1 12 (by decide +kernel)) rfl) rfl (zt4 94 (by decide +kernel)) thr_90 (by decide) (by decide) (by decide) ⟨by decide, by decide⟩ ⟨by decide, by decide⟩
    · refine z_fin (fun e9 => ?_)
      subst e9
      exact hnew 0 0 36 _ 4 106 272 110 "no such address, now or old" 10 7 rfl dX7_send_36 dX7_send_39 (Or.inr ⟨dX7_send_40, rfl⟩) dX7_send_43 rfl dX7_send_46 (zin (zt3 14 (by decide +kernel)) rfl) (zin (zt1 18 (by decide +kernel)) rfl) rfl (zt4 89 (by decide +kernel)) thr_110 (by decide) (by decide) (by decide) ⟨by decide, by decide⟩ ⟨by decide, by decide⟩
  · refine z_aload_n (pc := 14) (i := 2) 0 X dX7_send_14 rfl rfl ?_
    refine z_getI (pc := 15) (C := RX0) (T := TX0) (N := 5) (ci := 2) 0 X dX7_send_15 inz_X0 rfl (by decide) fw_X7_267 (fun v11 => ?_)
    refine z_fin (fun e9 => ?_)
    subst e9
    exact hret _ _ _ _ _ rfl (by decide) (by decide) dX7_send_18 trivial
def X7_steps_b19 (p5 : Option Nat) (p6 : Option Nat) (h8 : zH) (s7 : Int × Option Nat × Int) : Option ((Int × Option Nat × Int) ⊕ (Int)) :=
  (zgR h8 p5 8 4).bind fun v10 =>
  (zgI h8 v10 5 1).bind fun v11 =>
  if v11 ≤ s7.2.2 then
    some (Sum.inr (s7.1))
  else
    (zgR h8 p5 8 4).bind fun v12 =>
    ((zobj h8 v12 5).bind fun _ => X4_doorIn h8 v12 s7.2.2).bind fun x13 =>
    ((zobj h8 p5 8).bind fun _ => X7_doorAt h8 p5 x13).bind fun x14 =>
    (X7_placeOf h8 x14 p6).bind fun x15 =>
    if s7.2.1 = none then
      (zchk (s7.2.2 + 1)).bind fun v16 =>
      some (Sum.inl (s7.1, x15, v16))
    else
      if x15 = none then
        (zchk (s7.2.2 + 1)).bind fun v17 =>
        some (Sum.inl (s7.1, x15, v17))
      else
        (zgI h8 x15 6 2).bind fun v18 =>
        (zgI h8 s7.2.1 6 2).bind fun v19 =>
        (zchk (v18 - v19)).bind fun v20 =>
        (zabsO v20).bind fun v21 =>
        (zchk (s7.1 + v21)).bind fun v22 =>
        (zgI h8 x15 6 3).bind fun v23 =>
        (zgI h8 s7.2.1 6 3).bind fun v24 =>
        if v23 = v24 then
          (zchk (v22 + 0)).bind fun v27 =>
          (zchk (s7.2.2 + 1)).bind fun v28 =>
          some (Sum.inl (v27, x15, v28))
        else
          (zchk (v22 + 5)).bind fun v25 =>
          (zchk (s7.2.2 + 1)).bind fun v26 =>
          some (Sum.inl (v25, x15, v26))
def X7_steps (hp : zH) (a0 : Option Nat) (a1 : Int) : Option ((Int ⊕ Nat) × zH) :=
  ((zobj hp a0 8).bind fun _ => X7_standing hp a0 a1).bind fun x1 =>
  match x1 with
  | Sum.inl v2 =>
    ((zobj hp a0 8).bind fun _ => X7_orderForWalking hp a0 v2).bind fun x4 =>
    (zloop (X7_steps_b19 a0 v2 x4) zN (0, none, 0)).bind fun e9 =>
    some (Sum.inl e9, x4)
  | Sum.inr k3 =>
    some (Sum.inr k3, hp)
set_option maxRecDepth 20000 in
theorem c_X7_steps (hp : zH) (a0 : Option Nat) (a1 : Int) : ∀ r, X7_steps hp a0 a1 = some r → zXi yX7_steps (Cond.code yX7_steps cX7_steps 7 (some .int) :: zALL) { frames := 7, cells := 1, slots := 6, locals := 103 } 1 6 [zR a0, zI a1] hp r.1 r.2 := by
  refine zXi_of (own := RX7) (cc := cX7_steps) (maxL := 7) (ε := ((Int ⊕ Nat) × zH)) (res := fun r => r.1) (hp2 := fun r => r.2) (by decide) rfl (Or.inl rfl) (by exact Nat.le_of_ble_eq_true rfl) ?_
  intro K r0 X hnL hret hthr hnew
  have hN : ∀ i, i < 7 → i < K.2.2.2.2.2.2.2.2.2.2.2.2.2.2.1 := by rw [hnL]; exact fun _ h => h
  show zS _ _ (zJ K 0 0 0 [(0, zR a0), (1, zI a1)] [] hp)
  unfold X7_steps
  refine z_aload_n (pc := 0) (i := 0) 0 X dX7_steps_0 rfl rfl ?_
  refine z_iload_n (pc := 1) (i := 1) 1 X dX7_steps_1 rfl rfl ?_
  refine z_callXV_q (pc := 2) (cells := 0) (slots := 0) (C := RX7) (T := TX7) (N := 9) (ci := 8) [zI a1] X dX7_steps_2 (c_X7_standing hp a0 a1) kw_X7_78 rfl rfl ⟨rfl, rfl, ⟨by decide, by decide⟩, ⟨by decide, by decide⟩⟩ (Nat.le_of_ble_eq_true rfl) rfl (fun x1 v2 hz9 => ?_) (fun x1 k3 hz9 => ?_)
  · have hz9 : x1 = Sum.inl v2 := hz9
    subst hz9
    refine z_astore_n (pc := 5) (i := 2) (lv' := [(2, zR v2), (0, zR a0), (1, zI a1)]) X dX7_steps_5 rfl (hN _ (by decide)) rfl ?_
    refine z_aload_n (pc := 6) (i := 0) 1 X dX7_steps_6 rfl rfl ?_
    refine z_aload_n (pc := 7) (i := 2) 0 X dX7_steps_7 rfl rfl ?_
    refine z_callV_v (pc := 8) (cells := 1) (slots := 6) (C := RX7) (T := TX7) (N := 9) (ci := 8) [zR v2] X dX7_steps_8 (c_X7_orderForWalking hp a0 v2) kw_X7_292 rfl rfl ⟨rfl, rfl, ⟨by decide, by decide⟩, ⟨by decide, by decide⟩⟩ (Nat.le_of_ble_eq_true rfl) rfl (fun x4 => ?_)
    refine z_iconst (pc := 11) (z := 0) X dX7_steps_11 rfl ⟨by decide, by decide⟩ ?_
    refine z_istore_n (pc := 12) (i := 3) (lv' := [(3, zI 0), (2, zR v2), (0, zR a0), (1, zI a1)]) X dX7_steps_12 rfl (hN _ (by decide)) rfl ?_
    refine z_null (pc := 13) X dX7_steps_13 ?_
    refine z_astore (pc := 14) (i := 4) (lv' := [(4, zR none), (3, zI 0), (2, zR v2), (0, zR a0), (1, zI a1)]) X dX7_steps_14 (hN _ (by decide)) rfl ?_
    refine z_iconst (pc := 16) (z := 0) X dX7_steps_16 rfl ⟨by decide, by decide⟩ ?_
    refine z_istore (pc := 17) (i := 5) (lv' := [(5, zI 0), (4, zR none), (3, zI 0), (2, zR v2), (0, zR a0), (1, zI a1)]) X dX7_steps_17 (hN _ (by decide)) rfl ?_
    refine z_pick [4, 3, 2, 1, 0] (lv' := [(0, zR a0), (2, zR v2), (3, zI 0), (4, zR none), (5, zI 0)]) rfl ?_
    refine z_bind (z_loop (body := X7_steps_b19 a0 v2 x4) (fun s7 : Int × Option Nat × Int => zJ K 1 6 19 [(0, zR a0), (2, zR v2), (3, zI s7.1), (4, zR s7.2.1), (5, zI s7.2.2)] [] x4) (fun e9 : Int => zJ K 1 6 108 [(3, zI e9)] [] x4) (fun s7 => ?_) zN (0, none, 0)) (fun e9 => ?_)
    · unfold X7_steps_b19
      refine z_iload (pc := 19) (i := 5) 4 X dX7_steps_19 rfl ?_
      refine z_aload_n (pc := 21) (i := 0) 0 X dX7_steps_21 rfl rfl ?_
      refine z_getR (pc := 22) (C := RX7) (T := TX7) (N := 9) (ci := 8) 4 X dX7_steps_22 inz_X7 rfl (by decide) fw_X7_38 (fun v10 => ?_)
      refine z_getI (pc := 25) (C := RX4) (T := TX4) (N := 2) (ci := 5) 1 X dX7_steps_25 inz_X4 rfl (by decide) fw_X7_295 (fun v11 => ?_)
      refine z_icmp_ge (pc := 28) 108 X dX7_steps_28 (by decide) (fun _ => ?_) (fun _ => ?_)
      · refine z_pick [2] (lv' := [(3, zI s7.1)]) rfl ?_
        exact z_exit
      · refine z_aload_n (pc := 31) (i := 0) 0 X dX7_steps_31 rfl rfl ?_
        refine z_aload_n (pc := 32) (i := 0) 0 X dX7_steps_32 rfl rfl ?_
        refine z_getR (pc := 33) (C := RX7) (T := TX7) (N := 9) (ci := 8) 4 X dX7_steps_33 inz_X7 rfl (by decide) fw_X7_38 (fun v12 => ?_)
        refine z_iload (pc := 36) (i := 5) 4 X dX7_steps_36 rfl ?_
        refine z_callV_i (pc := 38) (cells := 1) (slots := 6) (C := RX4) (T := TX4) (N := 2) (ci := 5) [zI s7.2.2] X dX7_steps_38 (c_X4_doorIn x4 v12 s7.2.2) kw_X7_298 rfl rfl ⟨rfl, rfl, ⟨by decide, by decide⟩, ⟨by decide, by decide⟩⟩ (Nat.le_of_ble_eq_true rfl) rfl (fun x13 => ?_)
        refine z_callV_q (pc := 41) (cells := 1) (slots := 6) (C := RX7) (T := TX7) (N := 9) (ci := 8) [zI x13] X dX7_steps_41 (c_X7_doorAt x4 a0 x13) kw_X7_278 rfl rfl ⟨rfl, rfl, ⟨by decide, by decide⟩, ⟨by decide, by decide⟩⟩ (Nat.le_of_ble_eq_true rfl) rfl (fun x14 => ?_)
        refine z_aload_n (pc := 44) (i := 2) 1 X dX7_steps_44 rfl rfl ?_
        refine z_callS_q (pc := 45) (cells := 1) (slots := 6) [zR x14, zR v2] X dX7_steps_45 (c_X7_placeOf x4 x14 v2) kw_X7_299 rfl ⟨rfl, rfl, ⟨by decide, by decide⟩, ⟨by decide, by decide⟩⟩ (Nat.le_of_ble_eq_true rfl) rfl (fun x15 => ?_)
        refine z_astore (pc := 48) (i := 6) (lv' := [(6, zR x15), (0, zR a0), (2, zR v2), (3, zI s7.1), (4, zR s7.2.1), (5, zI s7.2.2)]) X dX7_steps_48 (hN _ (by decide)) rfl ?_
        refine z_aload (pc := 50) (i := 4) 4 X dX7_steps_50 rfl ?_
        refine z_ifnull (pc := 52) 98 X dX7_steps_52 (by decide) (fun _ => ?_) (fun _ => ?_)
        · refine z_aload (pc := 98) (i := 6) 0 X dX7_steps_98 rfl ?_
          refine z_astore (pc := 100) (i := 4) (lv' := [(4, zR x15), (6, zR x15), (0, zR a0), (2, zR v2), (3, zI s7.1), (5, zI s7.2.2)]) X dX7_steps_100 (hN _ (by decide)) rfl ?_
          refine z_iinc (pc := 102) (i := 5) (n := 1) (lv' := fun v16 => [(5, zI v16), (4, zR x15), (6, zR x15), (0, zR a0), (2, zR v2), (3, zI s7.1)]) 5 X dX7_steps_102 rfl (hN _ (by decide)) (fun _ => rfl) (fun v16 _ _ => ?_)
          refine z_goto (pc := 105) 19 X dX7_steps_105 (by decide) ?_
          refine z_pick [3, 4, 5, 1, 0] (lv' := [(0, zR a0), (2, zR v2), (3, zI s7.1), (4, zR x15), (5, zI v16)]) rfl ?_
          exact z_back
        · refine z_aload (pc := 55) (i := 6) 0 X dX7_steps_55 rfl ?_
          refine z_ifnull (pc := 57) 98 X dX7_steps_57 (by decide) (fun _ => ?_) (fun _ => ?_)
          · refine z_aload (pc := 98) (i := 6) 0 X dX7_steps_98 rfl ?_
            refine z_astore (pc := 100) (i := 4) (lv' := [(4, zR x15), (6, zR x15), (0, zR a0), (2, zR v2), (3, zI s7.1), (5, zI s7.2.2)]) X dX7_steps_100 (hN _ (by decide)) rfl ?_
            refine z_iinc (pc := 102) (i := 5) (n := 1) (lv' := fun v17 => [(5, zI v17), (4, zR x15), (6, zR x15), (0, zR a0), (2, zR v2), (3, zI s7.1)]) 5 X dX7_steps_102 rfl (hN _ (by decide)) (fun _ => rfl) (fun v17 _ _ => ?_)
            refine z_goto (pc := 105) 19 X dX7_steps_105 (by decide) ?_
            refine z_pick [3, 4, 5, 1, 0] (lv' := [(0, zR a0), (2, zR v2), (3, zI s7.1), (4, zR x15), (5, zI v17)]) rfl ?_
            exact z_back
          · refine z_iload_n (pc := 60) (i := 3) 3 X dX7_steps_60 rfl rfl ?_
            refine z_aload (pc := 61) (i := 6) 0 X dX7_steps_61 rfl ?_
            refine z_getI (pc := 63) (C := RX5) (T := TX5) (N := 5) (ci := 6) 2 X dX7_steps_63 inz_X5 rfl (by decide) fw_X7_303 (fun v18 => ?_)
            refine z_aload (pc := 66) (i := 4) 4 X dX7_steps_66 rfl ?_
            refine z_getI (pc := 68) (C := RX5) (T := TX5) (N := 5) (ci := 6) 2 X dX7_steps_68 inz_X5 rfl (by decide) fw_X7_303 (fun v19 => ?_)
            refine z_isub (pc := 71) X dX7_steps_71 (fun v20 _ _ => ?_)
            refine z_absO (pc := 72) X dX7_steps_72 (zin (zt4 133 (by decide +kernel)) rfl) (zin (zt4 134 (by decide +kernel)) rfl) (zin (zt1 17 (by decide +kernel)) rfl) (zin (zt4 135 (by decide +kernel)) rfl) (Nat.le_of_ble_eq_true rfl) (Nat.le_of_ble_eq_true rfl) (Nat.le_of_ble_eq_true rfl) (Nat.le_of_ble_eq_true rfl) (fun v21 => ?_)
            refine z_iadd (pc := 75) X dX7_steps_75 (fun v22 _ _ => ?_)
            refine z_istore_n (pc := 76) (i := 3) (lv' := [(3, zI v22), (6, zR x15), (0, zR a0), (2, zR v2), (4, zR s7.2.1), (5, zI s7.2.2)]) X dX7_steps_76 rfl (hN _ (by decide)) rfl ?_
            refine z_iload_n (pc := 77) (i := 3) 0 X dX7_steps_77 rfl rfl ?_
            refine z_aload (pc := 78) (i := 6) 1 X dX7_steps_78 rfl ?_
            refine z_getI (pc := 80) (C := RX5) (T := TX5) (N := 5) (ci := 6) 3 X dX7_steps_80 inz_X5 rfl (by decide) fw_X7_311 (fun v23 => ?_)
            refine z_aload (pc := 83) (i := 4) 4 X dX7_steps_83 rfl ?_
            refine z_getI (pc := 85) (C := RX5) (T := TX5) (N := 5) (ci := 6) 3 X dX7_steps_85 inz_X5 rfl (by decide) fw_X7_311 (fun v24 => ?_)
            refine z_icmp_ne (pc := 88) 95 X dX7_steps_88 (by decide) (fun _ => ?_) (fun _ => ?_)
            · refine z_iconst (pc := 95) (z := 5) X dX7_steps_95 rfl ⟨by decide, by decide⟩ ?_
              refine z_iadd (pc := 96) X dX7_steps_96 (fun v25 _ _ => ?_)
              refine z_istore_n (pc := 97) (i := 3) (lv' := [(3, zI v25), (6, zR x15), (0, zR a0), (2, zR v2), (4, zR s7.2.1), (5, zI s7.2.2)]) X dX7_steps_97 rfl (hN _ (by decide)) rfl ?_
              refine z_aload (pc := 98) (i := 6) 1 X dX7_steps_98 rfl ?_
              refine z_astore (pc := 100) (i := 4) (lv' := [(4, zR x15), (3, zI v25), (6, zR x15), (0, zR a0), (2, zR v2), (5, zI s7.2.2)]) X dX7_steps_100 (hN _ (by decide)) rfl ?_
              refine z_iinc (pc := 102) (i := 5) (n := 1) (lv' := fun v26 => [(5, zI v26), (4, zR x15), (3, zI v25), (6, zR x15), (0, zR a0), (2, zR v2)]) 5 X dX7_steps_102 rfl (hN _ (by decide)) (fun _ => rfl) (fun v26 _ _ => ?_)
              refine z_goto (pc := 105) 19 X dX7_steps_105 (by decide) ?_
              refine z_pick [4, 5, 2, 1, 0] (lv' := [(0, zR a0), (2, zR v2), (3, zI v25), (4, zR x15), (5, zI v26)]) rfl ?_
              exact z_back
            · refine z_iconst (pc := 91) (z := 0) X dX7_steps_91 rfl ⟨by decide, by decide⟩ ?_
              refine z_goto (pc := 92) 96 X dX7_steps_92 (by decide) ?_
              refine z_iadd (pc := 96) X dX7_steps_96 (fun v27 _ _ => ?_)
              refine z_istore_n (pc := 97) (i := 3) (lv' := [(3, zI v27), (6, zR x15), (0, zR a0), (2, zR v2), (4, zR s7.2.1), (5, zI s7.2.2)]) X dX7_steps_97 rfl (hN _ (by decide)) rfl ?_
              refine z_aload (pc := 98) (i := 6) 1 X dX7_steps_98 rfl ?_
              refine z_astore (pc := 100) (i := 4) (lv' := [(4, zR x15), (3, zI v27), (6, zR x15), (0, zR a0), (2, zR v2), (5, zI s7.2.2)]) X dX7_steps_100 (hN _ (by decide)) rfl ?_
              refine z_iinc (pc := 102) (i := 5) (n := 1) (lv' := fun v28 => [(5, zI v28), (4, zR x15), (3, zI v27), (6, zR x15), (0, zR a0), (2, zR v2)]) 5 X dX7_steps_102 rfl (hN _ (by decide)) (fun _ => rfl) (fun v28 _ _ => ?_)
              refine z_goto (pc := 105) 19 X dX7_steps_105 (by decide) ?_
              refine z_pick [4, 5, 2, 1, 0] (lv' := [(0, zR a0), (2, zR v2), (3, zI v27), (4, zR x15), (5, zI v28)]) rfl ?_
              exact z_back
    · refine z_iload_n (pc := 108) (i := 3) 0 X dX7_steps_108 rfl rfl ?_
      refine z_fin (fun e9 => ?_)
      subst e9
      exact hret _ _ _ _ _ rfl (by decide) (by decide) dX7_steps_109 trivial
  · have hz9 : x1 = Sum.inr k3 := hz9
    subst hz9
    refine z_fin (fun e9 => ?_)
    subst e9
    exact hthr _ _ _ _ _ rfl (by decide) (by decide)
def X7_street (hp : zH) (a0 : Option Nat) (a1 : Int) (a2 : Int) (a3 : Int) : Option ((Int ⊕ Nat) × zH) :=
  (X7_isWay hp a2).bind fun x1 =>
  if x1 = 0 then
    some (Sum.inr 0, hp)
  else
    if a1 < 10 then
      some (Sum.inr 0, hp)
    else
      if a1 ≤ 999 then
        (zgJ hp a0 8 7).bind fun v2 =>
        if (zcmp v2 0) = 0 then
          some (Sum.inr 2, hp)
        else
          (zgJ hp a0 8 7).bind fun v3 =>
          ((zobj hp a0 8).bind fun _ => X7_isInUse hp a0 v3).bind fun x4 =>
          if x4 = 0 then
            (zgI hp a0 8 5).bind fun v5 =>
            if v5 < 0 then
              some (Sum.inr 1, hp)
            else
              (zgR hp a0 8 0).bind fun v6 =>
              (zlen hp v6).bind fun v7 =>
              if v5 < v7 then
                (zgR hp a0 8 0).bind fun v8 =>
                (znew hp 7 nf_X6).bind fun h9 =>
                (zgJ h9 a0 8 7).bind fun v10 =>
                ((zobj h9 ((some hp.length)) 7).bind fun _ => X6_init h9 ((some hp.length)) v5 v10 a1 a2 a3).bind fun x11 =>
                (zsR x11 5 v8 v5 ((some hp.length)) 7).bind fun h12 =>
                (zchk (v5 + 1)).bind fun v13 =>
                (zpI h12 a0 8 5 v13).bind fun h14 =>
                (zpJ h14 a0 8 7 0).bind fun h15 =>
                some (Sum.inl v5, h15)
              else
                some (Sum.inr 1, hp)
          else
            some (Sum.inr 2, hp)
      else
        some (Sum.inr 0, hp)
set_option maxRecDepth 20000 in
theorem c_X7_street (hp : zH) (a0 : Option Nat) (a1 : Int) (a2 : Int) (a3 : Int) : ∀ r, X7_street hp a0 a1 a2 a3 = some r → zXi yX7_street (Cond.code yX7_street cX7_street 5 (some .int) :: zALL) { frames := 6, cells := 1, slots := 8, locals := 82 } 1 8 [zR a0, zI a1, zI a2, zI a3] hp r.1 r.2 := by
  refine zXi_of (own := RX7) (cc := cX7_street) (maxL := 5) (ε := ((Int ⊕ Nat) × zH)) (res := fun r => r.1) (hp2 := fun r => r.2) (by decide) rfl (Or.inl rfl) (by exact Nat.le_of_ble_eq_true rfl) ?_
  intro K r0 X hnL hret hthr hnew
  have hN : ∀ i, i < 5 → i < K.2.2.2.2.2.2.2.2.2.2.2.2.2.2.1 := by rw [hnL]; exact fun _ h => h
  show zS _ _ (zJ K 0 0 0 [(0, zR a0), (1, zI a1), (2, zI a2), (3, zI a3)] [] hp)
  unfold X7_street
  refine z_iload_n (pc := 0) (i := 2) 2 X dX7_street_0 rfl rfl ?_
  refine z_callS_i (pc := 1) (cells := 0) (slots := 0) [zI a2] X dX7_street_1 (c_X7_isWay hp a2) kw_X7_115 rfl ⟨rfl, rfl, ⟨by decide, by decide⟩, ⟨by decide, by decide⟩⟩ (Nat.le_of_ble_eq_true rfl) rfl (fun x1 => ?_)
  refine z_if_eq (pc := 4) 20 X dX7_street_4 (by decide) (fun _ => ?_) (fun _ => ?_)
  · refine z_fin (fun e9 => ?_)
    subst e9
    exact hnew 0 0 20 _ 0 58 119 62 "no such way or length" 9 6 rfl dX7_street_20 dX7_street_23 (Or.inl ⟨dX7_street_24, rfl⟩) dX7_street_26 rfl dX7_street_29 (zin (zt2 8 (by decide +kernel)) rfl) (zin (zt1 9 (by decide +kernel)) rfl) rfl (zt2 110 (by decide +kernel)) thr_62 (by decide) (by decide) (by decide) ⟨by decide, by decide⟩ ⟨by decide, by decide⟩
  · refine z_iload_n (pc := 7) (i := 1) 1 X dX7_street_7 rfl rfl ?_
    refine z_bipush (pc := 8) (z := 10) X dX7_street_8 rfl ⟨by decide, by decide⟩ ?_
    refine z_icmp_lt (pc := 10) 20 X dX7_street_10 (by decide) (fun _ => ?_) (fun _ => ?_)
    · refine z_fin (fun e9 => ?_)
      subst e9
      exact hnew 0 0 20 _ 0 58 119 62 "no such way or length" 9 6 rfl dX7_street_20 dX7_street_23 (Or.inl ⟨dX7_street_24, rfl⟩) dX7_street_26 rfl dX7_street_29 (zin (zt2 8 (by decide +kernel)) rfl) (zin (zt1 9 (by decide +kernel)) rfl) rfl (zt2 110 (by decide +kernel)) thr_62 (by decide) (by decide) (by decide) ⟨by decide, by decide⟩ ⟨by decide, by decide⟩
    · refine z_iload_n (pc := 13) (i := 1) 1 X dX7_street_13 rfl rfl ?_
      refine z_sipush (pc := 14) (z := 999) X dX7_street_14 rfl ⟨by decide, by decide⟩ ?_
      refine z_icmp_le (pc := 17) 30 X dX7_street_17 (by decide) (fun _ => ?_) (fun _ => ?_)
      · refine z_aload_n (pc := 30) (i := 0) 0 X dX7_street_30 rfl rfl ?_
        refine z_getJ (pc := 31) (C := RX7) (T := TX7) (N := 9) (ci := 8) 7 X dX7_street_31 inz_X7 rfl (by decide) fw_X7_51 (fun v2 => ?_)
        refine z_lconst (pc := 34) (z := 0) X dX7_street_34 rfl ?_
        refine z_lcmp (pc := 35) X dX7_street_35 ?_
        refine z_if_eq (pc := 36) 50 X dX7_street_36 (by decide) (fun _ => ?_) (fun _ => ?_)
        · refine z_fin (fun e9 => ?_)
          subst e9
          exact hnew 0 0 50 _ 2 86 88 90 "no name, or one in use" 9 6 rfl dX7_street_50 dX7_street_53 (Or.inl ⟨dX7_street_54, rfl⟩) dX7_street_56 rfl dX7_street_59 (zin (zt2 115 (by decide +kernel)) rfl) (zin (zt1 12 (by decide +kernel)) rfl) rfl (zt2 124 (by decide +kernel)) thr_90 (by decide) (by decide) (by decide) ⟨by decide, by decide⟩ ⟨by decide, by decide⟩
        · refine z_aload_n (pc := 39) (i := 0) 0 X dX7_street_39 rfl rfl ?_
          refine z_aload_n (pc := 40) (i := 0) 0 X dX7_street_40 rfl rfl ?_
          refine z_getJ (pc := 41) (C := RX7) (T := TX7) (N := 9) (ci := 8) 7 X dX7_street_41 inz_X7 rfl (by decide) fw_X7_51 (fun v3 => ?_)
          refine z_callV_i (pc := 44) (cells := 0) (slots := 0) (C := RX7) (T := TX7) (N := 9) (ci := 8) [zL v3] X dX7_street_44 (c_X7_isInUse hp a0 v3) kw_X7_82 rfl rfl ⟨rfl, rfl, ⟨by decide, by decide⟩, ⟨by decide, by decide⟩⟩ (Nat.le_of_ble_eq_true rfl) rfl (fun x4 => ?_)
          refine z_if_eq (pc := 47) 60 X dX7_street_47 (by decide) (fun _ => ?_) (fun _ => ?_)
          · refine z_aload_n (pc := 60) (i := 0) 0 X dX7_street_60 rfl rfl ?_
            refine z_getI (pc := 61) (C := RX7) (T := TX7) (N := 9) (ci := 8) 5 X dX7_street_61 inz_X7 rfl (by decide) fw_X7_42 (fun v5 => ?_)
            refine z_istore (pc := 64) (i := 4) (lv' := [(4, zI v5), (0, zR a0), (1, zI a1), (2, zI a2), (3, zI a3)]) X dX7_street_64 (hN _ (by decide)) rfl ?_
            refine z_iload (pc := 66) (i := 4) 0 X dX7_street_66 rfl ?_
            refine z_if_lt (pc := 68) 81 X dX7_street_68 (by decide) (fun _ => ?_) (fun _ => ?_)
            · refine z_fin (fun e9 => ?_)
              subst e9
              exact hnew 0 0 81 _ 1 69 121 73 "no more streets" 9 6 rfl dX7_street_81 dX7_street_84 (Or.inl ⟨dX7_street_85, rfl⟩) dX7_street_87 rfl dX7_street_90 (zin (zt2 80 (by decide +kernel)) rfl) (zin (zt1 11 (by decide +kernel)) rfl) rfl (zt2 131 (by decide +kernel)) thr_73 (by decide) (by decide) (by decide) ⟨by decide, by decide⟩ ⟨by decide, by decide⟩
            · refine z_iload (pc := 71) (i := 4) 0 X dX7_street_71 rfl ?_
              refine z_aload_n (pc := 73) (i := 0) 1 X dX7_street_73 rfl rfl ?_
              refine z_getR (pc := 74) (C := RX7) (T := TX7) (N := 9) (ci := 8) 0 X dX7_street_74 inz_X7 rfl (by decide) fw_X7_11 (fun v6 => ?_)
              refine z_alen (pc := 77) X dX7_street_77 (fun v7 => ?_)
              refine z_icmp_lt (pc := 78) 91 X dX7_street_78 (by decide) (fun _ => ?_) (fun _ => ?_)
              · refine z_aload_n (pc := 91) (i := 0) 1 X dX7_street_91 rfl rfl ?_
                refine z_getR (pc := 92) (C := RX7) (T := TX7) (N := 9) (ci := 8) 0 X dX7_street_92 inz_X7 rfl (by decide) fw_X7_11 (fun v8 => ?_)
                refine z_iload (pc := 95) (i := 4) 0 X dX7_street_95 rfl ?_
                refine z_newo (pc := 97) (c1 := 1) (s1 := 8) X dX7_street_97 inz_X6 tyX6_ok (zin (zt1 31 (by decide +kernel)) rfl) (zin (zt2 132 (by decide +kernel)) rfl) (zin (zt1 13 (by decide +kernel)) rfl) rfl nf_X6_d nf_X6_ok (by decide) (by decide) rfl rfl (fun h9 => ?_)
                refine z_dup (pc := 100) X dX7_street_100 rfl ?_
                refine z_iload (pc := 101) (i := 4) 0 X dX7_street_101 rfl ?_
                refine z_aload_n (pc := 103) (i := 0) 1 X dX7_street_103 rfl rfl ?_
                refine z_getJ (pc := 104) (C := RX7) (T := TX7) (N := 9) (ci := 8) 7 X dX7_street_104 inz_X7 rfl (by decide) fw_X7_51 (fun v10 => ?_)
                refine z_iload_n (pc := 107) (i := 1) 2 X dX7_street_107 rfl rfl ?_
                refine z_iload_n (pc := 108) (i := 2) 3 X dX7_street_108 rfl rfl ?_
                refine z_iload_n (pc := 109) (i := 3) 4 X dX7_street_109 rfl rfl ?_
                refine z_callI_v (pc := 110) (cells := 1) (slots := 8) (C := RX6) (T := TX6) (N := 8) (ci := 7) [zI v5, zL v10, zI a1, zI a2, zI a3] X dX7_street_110 (c_X6_init h9 ((some hp.length)) v5 v10 a1 a2 a3) kw_X7_123 rfl rfl ⟨rfl, rfl, ⟨by decide, by decide⟩, ⟨by decide, by decide⟩⟩ (Nat.le_of_ble_eq_true rfl) rfl (fun x11 => ?_)
                refine z_aastore5 (pc := 113) X dX7_street_113 (fun h12 => ?_)
                refine z_aload_n (pc := 114) (i := 0) 1 X dX7_street_114 rfl rfl ?_
                refine z_iload (pc := 115) (i := 4) 0 X dX7_street_115 rfl ?_
                refine z_iconst (pc := 117) (z := 1) X dX7_street_117 rfl ⟨by decide, by decide⟩ ?_
                refine z_iadd (pc := 118) X dX7_street_118 (fun v13 _ _ => ?_)
                refine z_putI (pc := 119) (C := RX7) (T := TX7) (N := 9) (ci := 8) 5 X dX7_street_119 inz_X7 tyX7_ok nmX7 rfl (by decide) fw_X7_42 rfl rfl (fun h14 => ?_)
                refine z_aload_n (pc := 122) (i := 0) 1 X dX7_street_122 rfl rfl ?_
                refine z_lconst (pc := 123) (z := 0) X dX7_street_123 rfl ?_
                refine z_putJ (pc := 124) (C := RX7) (T := TX7) (N := 9) (ci := 8) 7 X dX7_street_124 inz_X7 tyX7_ok nmX7 rfl (by decide) fw_X7_51 rfl rfl (fun h15 => ?_)
                refine z_iload (pc := 127) (i := 4) 0 X dX7_street_127 rfl ?_
                refine z_fin (fun e9 => ?_)
                subst e9
                exact hret _ _ _ _ _ rfl (by decide) (by decide) dX7_street_129 trivial
              · refine z_fin (fun e9 => ?_)
                subst e9
                exact hnew 0 0 81 _ 1 69 121 73 "no more streets" 9 6 rfl dX7_street_81 dX7_street_84 (Or.inl ⟨dX7_street_85, rfl⟩) dX7_street_87 rfl dX7_street_90 (zin (zt2 80 (by decide +kernel)) rfl) (zin (zt1 11 (by decide +kernel)) rfl) rfl (zt2 131 (by decide +kernel)) thr_73 (by decide) (by decide) (by decide) ⟨by decide, by decide⟩ ⟨by decide, by decide⟩
          · refine z_fin (fun e9 => ?_)
            subst e9
            exact hnew 0 0 50 _ 2 86 88 90 "no name, or one in use" 9 6 rfl dX7_street_50 dX7_street_53 (Or.inl ⟨dX7_street_54, rfl⟩) dX7_street_56 rfl dX7_street_59 (zin (zt2 115 (by decide +kernel)) rfl) (zin (zt1 12 (by decide +kernel)) rfl) rfl (zt2 124 (by decide +kernel)) thr_90 (by decide) (by decide) (by decide) ⟨by decide, by decide⟩ ⟨by decide, by decide⟩
      · refine z_fin (fun e9 => ?_)
        subst e9
        exact hnew 0 0 20 _ 0 58 119 62 "no such way or length" 9 6 rfl dX7_street_20 dX7_street_23 (Or.inl ⟨dX7_street_24, rfl⟩) dX7_street_26 rfl dX7_street_29 (zin (zt2 8 (by decide +kernel)) rfl) (zin (zt1 9 (by decide +kernel)) rfl) rfl (zt2 110 (by decide +kernel)) thr_62 (by decide) (by decide) (by decide) ⟨by decide, by decide⟩ ⟨by decide, by decide⟩
