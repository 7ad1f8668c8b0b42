/-! methods, as functions over the pure heap, and their contracts (by program) -/
def X7_day (hp : zH) (a0 : Option Nat) (a1 : Int) : Option ((Int ⊕ Nat) × zH) :=
  if a1 < 1 then
    some (Sum.inr 0, hp)
  else
    if a1 ≤ 9999 then
      (zgI hp a0 8 8).bind fun v1 =>
      (zchk (v1 + a1)).bind fun v2 =>
      (zpI hp a0 8 8 v2).bind fun h3 =>
      (zgI h3 a0 8 8).bind fun v4 =>
      some (Sum.inl v4, h3)
    else
      some (Sum.inr 0, hp)
set_option maxRecDepth 20000 in
theorem c_X7_day (hp : zH) (a0 : Option Nat) (a1 : Int) : ∀ r, X7_day hp a0 a1 = some r → zXi yX7_day (Cond.code yX7_day cX7_day 2 (some .int) :: zALL) { frames := 6, cells := 1, slots := 6, locals := 82 } 1 6 [zR a0, zI a1] hp r.1 r.2 := by
  refine zXi_of (own := RX7) (cc := cX7_day) (maxL := 2) (ε := ((Int ⊕ Nat) × zH)) (res := fun r => r.1) (hp2 := fun r => r.2) (by decide) rfl (Or.inl rfl) (by exact Nat.le_of_ble_eq_true rfl) ?_
  intro K r0 X hnL hret hthr hnew
  have hN : ∀ i, i < 2 → i < K.2.2.2.2.2.2.2.2.2.2.2.2.2.2.1 := by rw [hnL]; exact fun _ h => h
  show zS _ _ (zJ K 0 0 0 [(0, zR a0), (1, zI a1)] [] hp)
  unfold X7_day
  refine z_iload_n (pc := 0) (i := 1) 1 X dX7_day_0 rfl rfl ?_
  refine z_iconst (pc := 1) (z := 1) X dX7_day_1 rfl ⟨by decide, by decide⟩ ?_
  refine z_icmp_lt (pc := 2) 12 X dX7_day_2 (by decide) (fun _ => ?_) (fun _ => ?_)
  · refine z_fin (fun e9 => ?_)
    subst e9
    exact hnew 0 0 12 _ 0 58 259 62 "no such number of days" 10 7 rfl dX7_day_12 dX7_day_15 (Or.inr ⟨dX7_day_16, rfl⟩) dX7_day_19 rfl dX7_day_22 (zin (zt2 8 (by decide +kernel)) rfl) (zin (zt1 9 (by decide +kernel)) rfl) rfl (zt4 33 (by decide +kernel)) thr_62 (by decide) (by decide) (by decide) ⟨by decide, by decide⟩ ⟨by decide, by decide⟩
  · refine z_iload_n (pc := 5) (i := 1) 1 X dX7_day_5 rfl rfl ?_
    refine z_sipush (pc := 6) (z := 9999) X dX7_day_6 rfl ⟨by decide, by decide⟩ ?_
    refine z_icmp_le (pc := 9) 23 X dX7_day_9 (by decide) (fun _ => ?_) (fun _ => ?_)
    · refine z_aload_n (pc := 23) (i := 0) 0 X dX7_day_23 rfl rfl ?_
      refine z_aload_n (pc := 24) (i := 0) 0 X dX7_day_24 rfl rfl ?_
      refine z_getI (pc := 25) (C := RX7) (T := TX7) (N := 9) (ci := 8) 8 X dX7_day_25 inz_X7 rfl (by decide) fw_X7_55 (fun v1 => ?_)
      refine z_iload_n (pc := 28) (i := 1) 1 X dX7_day_28 rfl rfl ?_
      refine z_iadd (pc := 29) X dX7_day_29 (fun v2 _ _ => ?_)
      refine z_putI (pc := 30) (C := RX7) (T := TX7) (N := 9) (ci := 8) 8 X dX7_day_30 inz_X7 tyX7_ok nmX7 rfl (by decide) fw_X7_55 rfl rfl (fun h3 => ?_)
      refine z_aload_n (pc := 33) (i := 0) 0 X dX7_day_33 rfl rfl ?_
      refine z_getI (pc := 34) (C := RX7) (T := TX7) (N := 9) (ci := 8) 8 X dX7_day_34 inz_X7 rfl (by decide) fw_X7_55 (fun v4 => ?_)
      refine z_fin (fun e9 => ?_)
      subst e9
      exact hret _ _ _ _ _ rfl (by decide) (by decide) dX7_day_37 trivial
    · refine z_fin (fun e9 => ?_)
      subst e9
      exact hnew 0 0 12 _ 0 58 259 62 "no such number of days" 10 7 rfl dX7_day_12 dX7_day_15 (Or.inr ⟨dX7_day_16, rfl⟩) dX7_day_19 rfl dX7_day_22 (zin (zt2 8 (by decide +kernel)) rfl) (zin (zt1 9 (by decide +kernel)) rfl) rfl (zt4 33 (by decide +kernel)) thr_62 (by decide) (by decide) (by decide) ⟨by decide, by decide⟩ ⟨by decide, by decide⟩
def X7_door (hp : zH) (a0 : Option Nat) (a1 : Int) (a2 : Int) (a3 : Int) : Option ((Int ⊕ Nat) × zH) :=
  ((zobj hp a0 8).bind fun _ => X7_standing hp a0 a1).bind fun x1 =>
  match x1 with
  | Sum.inl v2 =>
    (X7_isPlace hp v2 a2 a3).bind fun x4 =>
    if x4 = 0 then
      some (Sum.inr 0, hp)
    else
      (zgI hp a0 8 6).bind fun v5 =>
      ((zobj hp a0 8).bind fun _ => X7_arrival hp a0 v5 v2 a2 a3).bind fun x6 =>
      if x6.1 = none then
        some (Sum.inr 2, x6.2)
      else
        if v5 < 0 then
          some (Sum.inr 1, x6.2)
        else
          (zgR x6.2 a0 8 1).bind fun v7 =>
          (zlen x6.2 v7).bind fun v8 =>
          if v5 < v8 then
            (zgR x6.2 a0 8 1).bind fun v9 =>
            (znew x6.2 2 nf_X0).bind fun h10 =>
            ((zobj h10 ((some x6.2.length)) 2).bind fun _ => X0_init h10 ((some x6.2.length)) v5 x6.1).bind fun x11 =>
            (zsR x11 6 v9 v5 ((some x6.2.length)) 2).bind fun h12 =>
            (zchk (v5 + 1)).bind fun v13 =>
            (zpI h12 a0 8 6 v13).bind fun h14 =>
            (zgI h14 x6.1 6 4).bind fun v15 =>
            ((zobj h14 v2 7).bind fun _ => X6_notice h14 v2 v15).bind fun x16 =>
            some (Sum.inl v5, x16)
          else
            some (Sum.inr 1, x6.2)
  | Sum.inr k3 =>
    some (Sum.inr k3, hp)
set_option maxRecDepth 20000 in
theorem c_X7_door (hp : zH) (a0 : Option Nat) (a1 : Int) (a2 : Int) (a3 : Int) : ∀ r, X7_door hp a0 a1 a2 a3 = some r → zXi yX7_door (Cond.code yX7_door cX7_door 7 (some .int) :: zALL) { frames := 7, cells := 3, slots := 17, locals := 126 } 3 17 [zR a0, zI a1, zI a2, zI a3] hp r.1 r.2 := by
  refine zXi_of (own := RX7) (cc := cX7_door) (maxL := 7) (ε := ((Int ⊕ Nat) × zH)) (res := fun r => r.1) (hp2 := fun r => r.2) (by decide) rfl (Or.inl rfl) (by exact Nat.le_of_ble_eq_true rfl) ?_
  intro K r0 X hnL hret hthr hnew
  have hN : ∀ i, i < 7 → i < K.2.2.2.2.2.2.2.2.2.2.2.2.2.2.1 := by rw [hnL]; exact fun _ h => h
  show zS _ _ (zJ K 0 0 0 [(0, zR a0), (1, zI a1), (2, zI a2), (3, zI a3)] [] hp)
  unfold X7_door
  refine z_aload_n (pc := 0) (i := 0) 0 X dX7_door_0 rfl rfl ?_
  refine z_iload_n (pc := 1) (i := 1) 1 X dX7_door_1 rfl rfl ?_
  refine z_callXV_q (pc := 2) (cells := 0) (slots := 0) (C := RX7) (T := TX7) (N := 9) (ci := 8) [zI a1] X dX7_door_2 (c_X7_standing hp a0 a1) kw_X7_78 rfl rfl ⟨rfl, rfl, ⟨by decide, by decide⟩, ⟨by decide, by decide⟩⟩ (Nat.le_of_ble_eq_true rfl) rfl (fun x1 v2 hz9 => ?_) (fun x1 k3 hz9 => ?_)
  · have hz9 : x1 = Sum.inl v2 := hz9
    subst hz9
    refine z_astore (pc := 5) (i := 4) (lv' := [(4, zR v2), (0, zR a0), (1, zI a1), (2, zI a2), (3, zI a3)]) X dX7_door_5 (hN _ (by decide)) rfl ?_
    refine z_aload (pc := 7) (i := 4) 0 X dX7_door_7 rfl ?_
    refine z_iload_n (pc := 9) (i := 2) 3 X dX7_door_9 rfl rfl ?_
    refine z_iload_n (pc := 10) (i := 3) 4 X dX7_door_10 rfl rfl ?_
    refine z_callS_i (pc := 11) (cells := 1) (slots := 6) [zR v2, zI a2, zI a3] X dX7_door_11 (c_X7_isPlace hp v2 a2 a3) kw_X7_183 rfl ⟨rfl, rfl, ⟨by decide, by decide⟩, ⟨by decide, by decide⟩⟩ (Nat.le_of_ble_eq_true rfl) rfl (fun x4 => ?_)
    refine z_if_ne (pc := 14) 27 X dX7_door_14 (by decide) (fun _ => ?_) (fun _ => ?_)
    · refine z_aload_n (pc := 27) (i := 0) 1 X dX7_door_27 rfl rfl ?_
      refine z_getI (pc := 28) (C := RX7) (T := TX7) (N := 9) (ci := 8) 6 X dX7_door_28 inz_X7 rfl (by decide) fw_X7_46 (fun v5 => ?_)
      refine z_istore (pc := 31) (i := 5) (lv' := [(5, zI v5), (4, zR v2), (0, zR a0), (1, zI a1), (2, zI a2), (3, zI a3)]) X dX7_door_31 (hN _ (by decide)) rfl ?_
      refine z_aload_n (pc := 33) (i := 0) 2 X dX7_door_33 rfl rfl ?_
      refine z_iload (pc := 34) (i := 5) 0 X dX7_door_34 rfl ?_
      refine z_aload (pc := 36) (i := 4) 1 X dX7_door_36 rfl ?_
      refine z_iload_n (pc := 38) (i := 2) 4 X dX7_door_38 rfl rfl ?_
      refine z_iload_n (pc := 39) (i := 3) 5 X dX7_door_39 rfl rfl ?_
      refine z_callV_q (pc := 40) (cells := 1) (slots := 6) (C := RX7) (T := TX7) (N := 9) (ci := 8) [zI v5, zR v2, zI a2, zI a3] X dX7_door_40 (c_X7_arrival hp a0 v5 v2 a2 a3) kw_X7_189 rfl rfl ⟨rfl, rfl, ⟨by decide, by decide⟩, ⟨by decide, by decide⟩⟩ (Nat.le_of_ble_eq_true rfl) rfl (fun x6 => ?_)
      refine z_astore (pc := 43) (i := 6) (lv' := [(6, zR x6.1), (5, zI v5), (4, zR v2), (0, zR a0), (1, zI a1), (2, zI a2), (3, zI a3)]) X dX7_door_43 (hN _ (by decide)) rfl ?_
      refine z_aload (pc := 45) (i := 6) 0 X dX7_door_45 rfl ?_
      refine z_ifnonnull (pc := 47) 60 X dX7_door_47 (by decide) (fun _ => ?_) (fun _ => ?_)
      · refine z_iload (pc := 60) (i := 5) 1 X dX7_door_60 rfl ?_
        refine z_if_lt (pc := 62) 75 X dX7_door_62 (by decide) (fun _ => ?_) (fun _ => ?_)
        · refine z_fin (fun e9 => ?_)
          subst e9
          exact hnew 2 11 75 _ 1 69 195 73 "no more doors" 9 6 rfl dX7_door_75 dX7_door_78 (Or.inl ⟨dX7_door_79, rfl⟩) dX7_door_81 rfl dX7_door_84 (zin (zt2 80 (by decide +kernel)) rfl) (zin (zt1 11 (by decide +kernel)) rfl) rfl (zt3 124 (by decide +kernel)) thr_73 (by decide) (by decide) (by decide) ⟨by decide, by decide⟩ ⟨by decide, by decide⟩
        · refine z_iload (pc := 65) (i := 5) 1 X dX7_door_65 rfl ?_
          refine z_aload_n (pc := 67) (i := 0) 3 X dX7_door_67 rfl rfl ?_
          refine z_getR (pc := 68) (C := RX7) (T := TX7) (N := 9) (ci := 8) 1 X dX7_door_68 inz_X7 rfl (by decide) fw_X7_17 (fun v7 => ?_)
          refine z_alen (pc := 71) X dX7_door_71 (fun v8 => ?_)
          refine z_icmp_lt (pc := 72) 85 X dX7_door_72 (by decide) (fun _ => ?_) (fun _ => ?_)
          · refine z_aload_n (pc := 85) (i := 0) 3 X dX7_door_85 rfl rfl ?_
            refine z_getR (pc := 86) (C := RX7) (T := TX7) (N := 9) (ci := 8) 1 X dX7_door_86 inz_X7 rfl (by decide) fw_X7_17 (fun v9 => ?_)
            refine z_iload (pc := 89) (i := 5) 1 X dX7_door_89 rfl ?_
            refine z_newo (pc := 91) (c1 := 3) (s1 := 16) X dX7_door_91 inz_X0 tyX0_ok (zin (zt1 33 (by decide +kernel)) rfl) (zin (zt3 125 (by decide +kernel)) rfl) (zin (zt1 21 (by decide +kernel)) rfl) rfl nf_X0_d nf_X0_ok (by decide) (by decide) rfl rfl (fun h10 => ?_)
            refine z_dup (pc := 94) X dX7_door_94 rfl ?_
            refine z_iload (pc := 95) (i := 5) 1 X dX7_door_95 rfl ?_
            refine z_aload (pc := 97) (i := 6) 0 X dX7_door_97 rfl ?_
            refine z_callI_v (pc := 99) (cells := 3) (slots := 16) (C := RX0) (T := TX0) (N := 5) (ci := 2) [zI v5, zR x6.1] X dX7_door_99 (c_X0_init h10 ((some x6.2.length)) v5 x6.1) kw_X7_197 rfl rfl ⟨rfl, rfl, ⟨by decide, by decide⟩, ⟨by decide, by decide⟩⟩ (Nat.le_of_ble_eq_true rfl) rfl (fun x11 => ?_)
            refine z_aastore6 (pc := 102) X dX7_door_102 (fun h12 => ?_)
            refine z_aload_n (pc := 103) (i := 0) 3 X dX7_door_103 rfl rfl ?_
            refine z_iload (pc := 104) (i := 5) 1 X dX7_door_104 rfl ?_
            refine z_iconst (pc := 106) (z := 1) X dX7_door_106 rfl ⟨by decide, by decide⟩ ?_
            refine z_iadd (pc := 107) X dX7_door_107 (fun v13 _ _ => ?_)
            refine z_putI (pc := 108) (C := RX7) (T := TX7) (N := 9) (ci := 8) 6 X dX7_door_108 inz_X7 tyX7_ok nmX7 rfl (by decide) fw_X7_46 rfl rfl (fun h14 => ?_)
            refine z_aload (pc := 111) (i := 4) 2 X dX7_door_111 rfl ?_
            refine z_aload (pc := 113) (i := 6) 0 X dX7_door_113 rfl ?_
            refine z_getI (pc := 115) (C := RX5) (T := TX5) (N := 5) (ci := 6) 4 X dX7_door_115 inz_X5 rfl (by decide) fw_X7_200 (fun v15 => ?_)
            refine z_callV_v (pc := 118) (cells := 3) (slots := 16) (C := RX6) (T := TX6) (N := 8) (ci := 7) [zI v15] X dX7_door_118 (c_X6_notice h14 v2 v15) kw_X7_205 rfl rfl ⟨rfl, rfl, ⟨by decide, by decide⟩, ⟨by decide, by decide⟩⟩ (Nat.le_of_ble_eq_true rfl) rfl (fun x16 => ?_)
            refine z_iload (pc := 121) (i := 5) 1 X dX7_door_121 rfl ?_
            refine z_fin (fun e9 => ?_)
            subst e9
            exact hret _ _ _ _ _ rfl (by decide) (by decide) dX7_door_123 trivial
          · refine z_fin (fun e9 => ?_)
            subst e9
            exact hnew 2 11 75 _ 1 69 195 73 "no more doors" 9 6 rfl dX7_door_75 dX7_door_78 (Or.inl ⟨dX7_door_79, rfl⟩) dX7_door_81 rfl dX7_door_84 (zin (zt2 80 (by decide +kernel)) rfl) (zin (zt1 11 (by decide +kernel)) rfl) rfl (zt3 124 (by decide +kernel)) thr_73 (by decide) (by decide) (by decide) ⟨by decide, by decide⟩ ⟨by decide, by decide⟩
      · refine z_fin (fun e9 => ?_)
        subst e9
        exact hnew 2 11 50 _ 2 86 193 90 "the door cannot come" 9 6 rfl dX7_door_50 dX7_door_53 (Or.inl ⟨dX7_door_54, rfl⟩) dX7_door_56 rfl dX7_door_59 (zin (zt2 115 (by decide +kernel)) rfl) (zin (zt1 12 (by decide +kernel)) rfl) rfl (zt3 123 (by decide +kernel)) thr_90 (by decide) (by decide) (by decide) ⟨by decide, by decide⟩ ⟨by decide, by decide⟩
    · refine z_fin (fun e9 => ?_)
      subst e9
      exact hnew 1 6 17 _ 0 58 187 62 "no such metre or side" 9 6 rfl dX7_door_17 dX7_door_20 (Or.inl ⟨dX7_door_21, rfl⟩) dX7_door_23 rfl dX7_door_26 (zin (zt2 8 (by decide +kernel)) rfl) (zin (zt1 9 (by decide +kernel)) rfl) rfl (zt3 52 (by decide +kernel)) thr_62 (by decide) (by decide) (by decide) ⟨by decide, by decide⟩ ⟨by decide, by decide⟩
  · have hz9 : x1 = Sum.inr k3 := hz9
    subst hz9
    refine z_fin (fun e9 => ?_)
    subst e9
    exact hthr _ _ _ _ _ rfl (by decide) (by decide)
def X7_doorNow_b14 (p3 : Int64) (p4 : Int) (p5 : Option Nat) (p6 : Int) (h8 : zH) (s7 : Int) : Option ((Int) ⊕ ((Unit) ⊕ (Option Nat))) :=
  if p6 ≤ s7 then
    some (Sum.inr (Sum.inl ()))
  else
    (zaR h8 6 p5 s7).bind fun v10 =>
    if v10 = none then
      (zchk (s7 + 1)).bind fun v11 =>
      some (Sum.inl (v11))
    else
      ((zobj h8 v10 2).bind fun _ => X0_hasAddress h8 v10 p3 p4).bind fun x12 =>
      if x12 = 0 then
        (zchk (s7 + 1)).bind fun v13 =>
        some (Sum.inl (v13))
      else
        some (Sum.inr (Sum.inr (v10)))
def X7_doorNow (hp : zH) (a0 : Option Nat) (a1 : Int64) (a2 : Int) : Option (Option Nat) :=
  (zgR hp a0 8 1).bind fun v1 =>
  (zlen hp v1).bind fun v2 =>
  (zloop (X7_doorNow_b14 a1 a2 v1 v2 hp) zN 0).bind fun e9 =>
  match e9 with
  | Sum.inl e9 =>
    some none
  | Sum.inr e9 =>
    some e9
set_option maxRecDepth 20000 in
theorem c_X7_doorNow (hp : zH) (a0 : Option Nat) (a1 : Int64) (a2 : Int) : ∀ r, X7_doorNow hp a0 a1 a2 = some r → zMq yX7_doorNow (Cond.code yX7_doorNow cX7_doorNow 8 (some (.object "StreetNamer$Door")) :: zALL) { frames := 3, cells := 0, slots := 0, locals := 68 } 0 0 [zR a0, zL a1, zI a2] hp r hp := by
  refine zMq_of (own := RX7) (cc := cX7_doorNow) (maxL := 8) (res := fun r => r) (hp2 := fun _ => hp) (by decide) rfl (Or.inl ⟨_, rfl⟩) (by exact Nat.le_of_ble_eq_true rfl) ?_
  intro K r0 X hnL hret
  have hN : ∀ i, i < 8 → i < K.2.2.2.2.2.2.2.2.2.2.2.2.2.2.1 := by rw [hnL]; exact fun _ h => h
  show zS _ _ (zJ K 0 0 0 [(0, zR a0), (1, zL a1), (3, zI a2)] [] hp)
  unfold X7_doorNow
  refine z_aload_n (pc := 0) (i := 0) 0 X dX7_doorNow_0 rfl rfl ?_
  refine z_getR (pc := 1) (C := RX7) (T := TX7) (N := 9) (ci := 8) 1 X dX7_doorNow_1 inz_X7 rfl (by decide) fw_X7_17 (fun v1 => ?_)
  refine z_astore (pc := 4) (i := 4) (lv' := [(4, zR v1), (0, zR a0), (1, zL a1), (3, zI a2)]) X dX7_doorNow_4 (hN _ (by decide)) rfl ?_
  refine z_aload (pc := 6) (i := 4) 0 X dX7_doorNow_6 rfl ?_
  refine z_alen (pc := 8) X dX7_doorNow_8 (fun v2 => ?_)
  refine z_istore (pc := 9) (i := 5) (lv' := [(5, zI v2), (4, zR v1), (0, zR a0), (1, zL a1), (3, zI a2)]) X dX7_doorNow_9 (hN _ (by decide)) rfl ?_
  refine z_iconst (pc := 11) (z := 0) X dX7_doorNow_11 rfl ⟨by decide, by decide⟩ ?_
  refine z_istore (pc := 12) (i := 6) (lv' := [(6, zI 0), (5, zI v2), (4, zR v1), (0, zR a0), (1, zL a1), (3, zI a2)]) X dX7_doorNow_12 (hN _ (by decide)) rfl ?_
  refine z_pick [4, 5, 2, 1, 0] (lv' := [(1, zL a1), (3, zI a2), (4, zR v1), (5, zI v2), (6, zI 0)]) rfl ?_
  refine z_bind (z_loop (body := X7_doorNow_b14 a1 a2 v1 v2 hp) (fun s7 : Int => zJ K 0 0 14 [(1, zL a1), (3, zI a2), (4, zR v1), (5, zI v2), (6, zI s7)] [] hp) (fun e9 : ((Unit) ⊕ (Option Nat)) => (match e9 with | Sum.inl e9 => zJ K 0 0 52 [] [] hp | Sum.inr e9 => zJ K 0 0 43 [(7, zR e9)] [] hp)) (fun s7 => ?_) zN 0) (fun e9 => ?_)
  · unfold X7_doorNow_b14
    refine z_iload (pc := 14) (i := 6) 4 X dX7_doorNow_14 rfl ?_
    refine z_iload (pc := 16) (i := 5) 3 X dX7_doorNow_16 rfl ?_
    refine z_icmp_ge (pc := 18) 52 X dX7_doorNow_18 (by decide) (fun _ => ?_) (fun _ => ?_)
    · refine z_pick [] (lv' := []) rfl ?_
      exact z_exit
    · refine z_aload (pc := 21) (i := 4) 2 X dX7_doorNow_21 rfl ?_
      refine z_iload (pc := 23) (i := 6) 4 X dX7_doorNow_23 rfl ?_
      refine z_aaload6 (pc := 25) X dX7_doorNow_25 (fun v10 => ?_)
      refine z_astore (pc := 26) (i := 7) (lv' := [(7, zR v10), (1, zL a1), (3, zI a2), (4, zR v1), (5, zI v2), (6, zI s7)]) X dX7_doorNow_26 (hN _ (by decide)) rfl ?_
      refine z_aload (pc := 28) (i := 7) 0 X dX7_doorNow_28 rfl ?_
      refine z_ifnull (pc := 30) 46 X dX7_doorNow_30 (by decide) (fun _ => ?_) (fun _ => ?_)
      · refine z_iinc (pc := 46) (i := 6) (n := 1) (lv' := fun v11 => [(6, zI v11), (7, zR v10), (1, zL a1), (3, zI a2), (4, zR v1), (5, zI v2)]) 5 X dX7_doorNow_46 rfl (hN _ (by decide)) (fun _ => rfl) (fun v11 _ _ => ?_)
        refine z_goto (pc := 49) 14 X dX7_doorNow_49 (by decide) ?_
        refine z_pick [2, 3, 4, 5, 0] (lv' := [(1, zL a1), (3, zI a2), (4, zR v1), (5, zI v2), (6, zI v11)]) rfl ?_
        exact z_back
      · refine z_aload (pc := 33) (i := 7) 0 X dX7_doorNow_33 rfl ?_
        refine z_lload_n (pc := 35) (i := 1) 1 X dX7_doorNow_35 rfl rfl ?_
        refine z_iload_n (pc := 36) (i := 3) 2 X dX7_doorNow_36 rfl rfl ?_
        refine z_callV_i (pc := 37) (cells := 0) (slots := 0) (C := RX0) (T := TX0) (N := 5) (ci := 2) [zL a1, zI a2] X dX7_doorNow_37 (c_X0_hasAddress hp v10 a1 a2) kw_X7_352 rfl rfl ⟨rfl, rfl, ⟨by decide, by decide⟩, ⟨by decide, by decide⟩⟩ (Nat.le_of_ble_eq_true rfl) rfl (fun x12 => ?_)
        refine z_if_eq (pc := 40) 46 X dX7_doorNow_40 (by decide) (fun _ => ?_) (fun _ => ?_)
        · refine z_iinc (pc := 46) (i := 6) (n := 1) (lv' := fun v13 => [(6, zI v13), (7, zR v10), (1, zL a1), (3, zI a2), (4, zR v1), (5, zI v2)]) 5 X dX7_doorNow_46 rfl (hN _ (by decide)) (fun _ => rfl) (fun v13 _ _ => ?_)
          refine z_goto (pc := 49) 14 X dX7_doorNow_49 (by decide) ?_
          refine z_pick [2, 3, 4, 5, 0] (lv' := [(1, zL a1), (3, zI a2), (4, zR v1), (5, zI v2), (6, zI v13)]) rfl ?_
          exact z_back
        · refine z_pick [0] (lv' := [(7, zR v10)]) rfl ?_
          exact z_exit
  · rcases e9 with e9 | e9
    · refine z_null (pc := 52) X dX7_doorNow_52 ?_
      refine z_fin (fun e9 => ?_)
      subst e9
      exact hret _ _ _ _ (by decide) (by decide) dX7_doorNow_53
    · refine z_aload (pc := 43) (i := 7) 0 X dX7_doorNow_43 rfl ?_
      refine z_fin (fun e9 => ?_)
      subst e9
      exact hret _ _ _ _ (by decide) (by decide) dX7_doorNow_45
def X7_doors (hp : zH) (a0 : Option Nat) (a1 : Int) : Option (Int ⊕ Nat) :=
  ((zobj hp a0 8).bind fun _ => X7_standing hp a0 a1).bind fun x1 =>
  match x1 with
  | Sum.inl v2 =>
    ((zobj hp a0 8).bind fun _ => X7_doorsOn hp a0 v2).bind fun x4 =>
    some (Sum.inl x4)
  | Sum.inr k3 =>
    some (Sum.inr k3)
set_option maxRecDepth 20000 in
theorem c_X7_doors (hp : zH) (a0 : Option Nat) (a1 : Int) : ∀ r, X7_doors hp a0 a1 = some r → zXi yX7_doors (Cond.code yX7_doors cX7_doors 2 (some .int) :: zALL) { frames := 7, cells := 1, slots := 6, locals := 103 } 1 6 [zR a0, zI a1] hp r hp := by
  refine zXi_of (own := RX7) (cc := cX7_doors) (maxL := 2) (res := fun r => r) (hp2 := fun _ => hp) (by decide) rfl (Or.inl rfl) (by exact Nat.le_of_ble_eq_true rfl) ?_
  intro K r0 X hnL hret hthr hnew
  have hN : ∀ i, i < 2 → i < K.2.2.2.2.2.2.2.2.2.2.2.2.2.2.1 := by rw [hnL]; exact fun _ h => h
  show zS _ _ (zJ K 0 0 0 [(0, zR a0), (1, zI a1)] [] hp)
  unfold X7_doors
  refine z_aload_n (pc := 0) (i := 0) 0 X dX7_doors_0 rfl rfl ?_
  refine z_aload_n (pc := 1) (i := 0) 0 X dX7_doors_1 rfl rfl ?_
  refine z_iload_n (pc := 2) (i := 1) 1 X dX7_doors_2 rfl rfl ?_
  refine z_callXV_q (pc := 3) (cells := 0) (slots := 0) (C := RX7) (T := TX7) (N := 9) (ci := 8) [zI a1] X dX7_doors_3 (c_X7_standing hp a0 a1) kw_X7_78 rfl rfl ⟨rfl, rfl, ⟨by decide, by decide⟩, ⟨by decide, by decide⟩⟩ (Nat.le_of_ble_eq_true rfl) rfl (fun x1 v2 hz9 => ?_) (fun x1 k3 hz9 => ?_)
  · have hz9 : x1 = Sum.inl v2 := hz9
    subst hz9
    refine z_callV_i (pc := 6) (cells := 1) (slots := 6) (C := RX7) (T := TX7) (N := 9) (ci := 8) [zR v2] X dX7_doors_6 (c_X7_doorsOn hp a0 v2) kw_X7_256 rfl rfl ⟨rfl, rfl, ⟨by decide, by decide⟩, ⟨by decide, by decide⟩⟩ (Nat.le_of_ble_eq_true rfl) rfl (fun x4 => ?_)
    refine z_fin (fun e9 => ?_)
    subst e9
    exact hret _ _ _ _ _ rfl (by decide) (by decide) dX7_doors_9 trivial
  · have hz9 : x1 = Sum.inr k3 := hz9
    subst hz9
    refine z_fin (fun e9 => ?_)
    subst e9
    exact hthr _ _ _ _ _ rfl (by decide) (by decide)
def X7_enterInOrder_b2 (p1 : Option Nat) (p2 : Option Nat) (p3 : Int) (s4 : Int × zH) : Option ((Int × zH) ⊕ ((zH) ⊕ (zH))) :=
  (zgR s4.2 p1 8 4).bind fun v6 =>
  (zgI s4.2 v6 5 1).bind fun v7 =>
  if v7 ≤ s4.1 then
    some (Sum.inr (Sum.inl (s4.2)))
  else
    (zgR s4.2 p1 8 4).bind fun v8 =>
    ((zobj s4.2 v8 5).bind fun _ => X4_doorIn s4.2 v8 s4.1).bind fun x9 =>
    ((zobj s4.2 p1 8).bind fun _ => X7_doorAt s4.2 p1 x9).bind fun x10 =>
    (X7_placeOf s4.2 x10 p2).bind fun x11 =>
    if x11 = none then
      (zchk (s4.1 + 1)).bind fun v12 =>
      some (Sum.inl (v12, s4.2))
    else
      (zgI s4.2 x11 6 2).bind fun v13 =>
      (zchk (v13 + p3)).bind fun v14 =>
      (zgR s4.2 p1 8 3).bind fun v15 =>
      (zgI s4.2 x11 6 0).bind fun v16 =>
      (zgI s4.2 x11 6 3).bind fun v17 =>
      ((zobj s4.2 v15 3).bind fun _ => X1_codeFor s4.2 v15 v16 v14 v17).bind fun x18 =>
      if x18 = 0 then
        some (Sum.inr (Sum.inr (s4.2)))
      else
        (zgR s4.2 p1 8 3).bind fun v19 =>
        (zgI s4.2 x11 6 0).bind fun v20 =>
        (zgI s4.2 x11 6 3).bind fun v21 =>
        ((zobj s4.2 v19 3).bind fun _ => X1_enter s4.2 v19 v20 v14 v21 x18).bind fun x22 =>
        (zchk (s4.1 + 1)).bind fun v23 =>
        some (Sum.inl (v23, x22))
def X7_enterInOrder (hp : zH) (a0 : Option Nat) (a1 : Option Nat) (a2 : Int) : Option (Int × zH) :=
  (zloop (X7_enterInOrder_b2 a0 a1 a2) zN (0, hp)).bind fun e5 =>
  match e5 with
  | Sum.inl e5 =>
    some (1, e5)
  | Sum.inr e5 =>
    some (0, e5)
set_option maxRecDepth 20000 in
theorem c_X7_enterInOrder (hp : zH) (a0 : Option Nat) (a1 : Option Nat) (a2 : Int) : ∀ r, X7_enterInOrder hp a0 a1 a2 = some r → zMi yX7_enterInOrder (Cond.code yX7_enterInOrder cX7_enterInOrder 7 (some .boolean) :: zALL) { frames := 4, cells := 0, slots := 0, locals := 100 } 0 0 [zR a0, zR a1, zI a2] hp r.1 r.2 := by
  refine zMi_of (own := RX7) (cc := cX7_enterInOrder) (maxL := 7) (ε := (Int × zH)) (res := fun r => r.1) (hp2 := fun r => r.2) (by decide) rfl (Or.inr (Or.inl rfl)) (by exact Nat.le_of_ble_eq_true rfl) ?_
  intro K r0 X hnL hret
  have hN : ∀ i, i < 7 → i < K.2.2.2.2.2.2.2.2.2.2.2.2.2.2.1 := by rw [hnL]; exact fun _ h => h
  show zS _ _ (zJ K 0 0 0 [(0, zR a0), (1, zR a1), (2, zI a2)] [] hp)
  unfold X7_enterInOrder
  refine z_iconst (pc := 0) (z := 0) X dX7_enterInOrder_0 rfl ⟨by decide, by decide⟩ ?_
  refine z_istore_n (pc := 1) (i := 3) (lv' := [(3, zI 0), (0, zR a0), (1, zR a1), (2, zI a2)]) X dX7_enterInOrder_1 rfl (hN _ (by decide)) rfl ?_
  refine z_pick [1, 2, 3, 0] (lv' := [(0, zR a0), (1, zR a1), (2, zI a2), (3, zI 0)]) rfl ?_
  refine z_bind (z_loop (body := X7_enterInOrder_b2 a0 a1 a2) (fun s4 : Int × zH => zJ K 0 0 2 [(0, zR a0), (1, zR a1), (2, zI a2), (3, zI s4.1)] [] s4.2) (fun e5 : ((zH) ⊕ (zH)) => (match e5 with | Sum.inl e5 => zJ K 0 0 100 [] [] e5 | Sum.inr e5 => zJ K 0 0 71 [] [] e5)) (fun s4 => ?_) zN (0, hp)) (fun e5 => ?_)
  · unfold X7_enterInOrder_b2
    refine z_iload_n (pc := 2) (i := 3) 3 X dX7_enterInOrder_2 rfl rfl ?_
    refine z_aload_n (pc := 3) (i := 0) 0 X dX7_enterInOrder_3 rfl rfl ?_
    refine z_getR (pc := 4) (C := RX7) (T := TX7) (N := 9) (ci := 8) 4 X dX7_enterInOrder_4 inz_X7 rfl (by decide) fw_X7_38 (fun v6 => ?_)
    refine z_getI (pc := 7) (C := RX4) (T := TX4) (N := 2) (ci := 5) 1 X dX7_enterInOrder_7 inz_X4 rfl (by decide) fw_X7_295 (fun v7 => ?_)
    refine z_icmp_ge (pc := 10) 100 X dX7_enterInOrder_10 (by decide) (fun _ => ?_) (fun _ => ?_)
    · refine z_pick [] (lv' := []) rfl ?_
      exact z_exit
    · refine z_aload_n (pc := 13) (i := 0) 0 X dX7_enterInOrder_13 rfl rfl ?_
      refine z_aload_n (pc := 14) (i := 0) 0 X dX7_enterInOrder_14 rfl rfl ?_
      refine z_getR (pc := 15) (C := RX7) (T := TX7) (N := 9) (ci := 8) 4 X dX7_enterInOrder_15 inz_X7 rfl (by decide) fw_X7_38 (fun v8 => ?_)
      refine z_iload_n (pc := 18) (i := 3) 3 X dX7_enterInOrder_18 rfl rfl ?_
      refine z_callV_i (pc := 19) (cells := 0) (slots := 0) (C := RX4) (T := TX4) (N := 2) (ci := 5) [zI s4.1] X dX7_enterInOrder_19 (c_X4_doorIn s4.2 v8 s4.1) kw_X7_298 rfl rfl ⟨rfl, rfl, ⟨by decide, by decide⟩, ⟨by decide, by decide⟩⟩ (Nat.le_of_ble_eq_true rfl) rfl (fun x9 => ?_)
      refine z_callV_q (pc := 22) (cells := 0) (slots := 0) (C := RX7) (T := TX7) (N := 9) (ci := 8) [zI x9] X dX7_enterInOrder_22 (c_X7_doorAt s4.2 a0 x9) kw_X7_278 rfl rfl ⟨rfl, rfl, ⟨by decide, by decide⟩, ⟨by decide, by decide⟩⟩ (Nat.le_of_ble_eq_true rfl) rfl (fun x10 => ?_)
      refine z_aload_n (pc := 25) (i := 1) 1 X dX7_enterInOrder_25 rfl rfl ?_
      refine z_callS_q (pc := 26) (cells := 0) (slots := 0) [zR x10, zR a1] X dX7_enterInOrder_26 (c_X7_placeOf s4.2 x10 a1) kw_X7_299 rfl ⟨rfl, rfl, ⟨by decide, by decide⟩, ⟨by decide, by decide⟩⟩ (Nat.le_of_ble_eq_true rfl) rfl (fun x11 => ?_)
      refine z_astore (pc := 29) (i := 4) (lv' := [(4, zR x11), (0, zR a0), (1, zR a1), (2, zI a2), (3, zI s4.1)]) X dX7_enterInOrder_29 (hN _ (by decide)) rfl ?_
      refine z_aload (pc := 31) (i := 4) 0 X dX7_enterInOrder_31 rfl ?_
      refine z_ifnull (pc := 33) 94 X dX7_enterInOrder_33 (by decide) (fun _ => ?_) (fun _ => ?_)
      · refine z_iinc (pc := 94) (i := 3) (n := 1) (lv' := fun v12 => [(3, zI v12), (4, zR x11), (0, zR a0), (1, zR a1), (2, zI a2)]) 4 X dX7_enterInOrder_94 rfl (hN _ (by decide)) (fun _ => rfl) (fun v12 _ _ => ?_)
        refine z_goto (pc := 97) 2 X dX7_enterInOrder_97 (by decide) ?_
        refine z_pick [2, 3, 4, 0] (lv' := [(0, zR a0), (1, zR a1), (2, zI a2), (3, zI v12)]) rfl ?_
        exact z_back
      · refine z_aload (pc := 36) (i := 4) 0 X dX7_enterInOrder_36 rfl ?_
        refine z_getI (pc := 38) (C := RX5) (T := TX5) (N := 5) (ci := 6) 2 X dX7_enterInOrder_38 inz_X5 rfl (by decide) fw_X7_303 (fun v13 => ?_)
        refine z_iload_n (pc := 41) (i := 2) 3 X dX7_enterInOrder_41 rfl rfl ?_
        refine z_iadd (pc := 42) X dX7_enterInOrder_42 (fun v14 _ _ => ?_)
        refine z_istore (pc := 43) (i := 5) (lv' := [(5, zI v14), (4, zR x11), (0, zR a0), (1, zR a1), (2, zI a2), (3, zI s4.1)]) X dX7_enterInOrder_43 (hN _ (by decide)) rfl ?_
        refine z_aload_n (pc := 45) (i := 0) 2 X dX7_enterInOrder_45 rfl rfl ?_
        refine z_getR (pc := 46) (C := RX7) (T := TX7) (N := 9) (ci := 8) 3 X dX7_enterInOrder_46 inz_X7 rfl (by decide) fw_X7_31 (fun v15 => ?_)
        refine z_aload (pc := 49) (i := 4) 1 X dX7_enterInOrder_49 rfl ?_
        refine z_getI (pc := 51) (C := RX5) (T := TX5) (N := 5) (ci := 6) 0 X dX7_enterInOrder_51 inz_X5 rfl (by decide) fw_X7_356 (fun v16 => ?_)
        refine z_iload (pc := 54) (i := 5) 0 X dX7_enterInOrder_54 rfl ?_
        refine z_aload (pc := 56) (i := 4) 1 X dX7_enterInOrder_56 rfl ?_
        refine z_getI (pc := 58) (C := RX5) (T := TX5) (N := 5) (ci := 6) 3 X dX7_enterInOrder_58 inz_X5 rfl (by decide) fw_X7_311 (fun v17 => ?_)
        refine z_callV_i (pc := 61) (cells := 0) (slots := 0) (C := RX1) (T := TX1) (N := 7) (ci := 3) [zI v16, zI v14, zI v17] X dX7_enterInOrder_61 (c_X1_codeFor s4.2 v15 v16 v14 v17) kw_X7_371 rfl rfl ⟨rfl, rfl, ⟨by decide, by decide⟩, ⟨by decide, by decide⟩⟩ (Nat.le_of_ble_eq_true rfl) rfl (fun x18 => ?_)
        refine z_istore (pc := 64) (i := 6) (lv' := [(6, zI x18), (5, zI v14), (4, zR x11), (0, zR a0), (1, zR a1), (2, zI a2), (3, zI s4.1)]) X dX7_enterInOrder_64 (hN _ (by decide)) rfl ?_
        refine z_iload (pc := 66) (i := 6) 0 X dX7_enterInOrder_66 rfl ?_
        refine z_if_ne (pc := 68) 73 X dX7_enterInOrder_68 (by decide) (fun _ => ?_) (fun _ => ?_)
        · refine z_aload_n (pc := 73) (i := 0) 3 X dX7_enterInOrder_73 rfl rfl ?_
          refine z_getR (pc := 74) (C := RX7) (T := TX7) (N := 9) (ci := 8) 3 X dX7_enterInOrder_74 inz_X7 rfl (by decide) fw_X7_31 (fun v19 => ?_)
          refine z_aload (pc := 77) (i := 4) 2 X dX7_enterInOrder_77 rfl ?_
          refine z_getI (pc := 79) (C := RX5) (T := TX5) (N := 5) (ci := 6) 0 X dX7_enterInOrder_79 inz_X5 rfl (by decide) fw_X7_356 (fun v20 => ?_)
          refine z_iload (pc := 82) (i := 5) 1 X dX7_enterInOrder_82 rfl ?_
          refine z_aload (pc := 84) (i := 4) 2 X dX7_enterInOrder_84 rfl ?_
          refine z_getI (pc := 86) (C := RX5) (T := TX5) (N := 5) (ci := 6) 3 X dX7_enterInOrder_86 inz_X5 rfl (by decide) fw_X7_311 (fun v21 => ?_)
          refine z_iload (pc := 89) (i := 6) 0 X dX7_enterInOrder_89 rfl ?_
          refine z_callV_v (pc := 91) (cells := 0) (slots := 0) (C := RX1) (T := TX1) (N := 7) (ci := 3) [zI v20, zI v14, zI v21, zI x18] X dX7_enterInOrder_91 (c_X1_enter s4.2 v19 v20 v14 v21 x18) kw_X7_378 rfl rfl ⟨rfl, rfl, ⟨by decide, by decide⟩, ⟨by decide, by decide⟩⟩ (Nat.le_of_ble_eq_true rfl) rfl (fun x22 => ?_)
          refine z_iinc (pc := 94) (i := 3) (n := 1) (lv' := fun v23 => [(3, zI v23), (6, zI x18), (5, zI v14), (4, zR x11), (0, zR a0), (1, zR a1), (2, zI a2)]) 6 X dX7_enterInOrder_94 rfl (hN _ (by decide)) (fun _ => rfl) (fun v23 _ _ => ?_)
          refine z_goto (pc := 97) 2 X dX7_enterInOrder_97 (by decide) ?_
          refine z_pick [4, 5, 6, 0] (lv' := [(0, zR a0), (1, zR a1), (2, zI a2), (3, zI v23)]) rfl ?_
          exact z_back
        · refine z_pick [] (lv' := []) rfl ?_
          exact z_exit
  · rcases e5 with e5 | e5
    · refine z_iconst (pc := 100) (z := 1) X dX7_enterInOrder_100 rfl ⟨by decide, by decide⟩ ?_
      refine z_fin (fun e9 => ?_)
      subst e9
      exact hret _ _ _ _ (by decide) (by decide) dX7_enterInOrder_101 (Or.inr rfl)
    · refine z_iconst (pc := 71) (z := 0) X dX7_enterInOrder_71 rfl ⟨by decide, by decide⟩ ?_
      refine z_fin (fun e9 => ?_)
      subst e9
      exact hret _ _ _ _ (by decide) (by decide) dX7_enterInOrder_72 (Or.inl rfl)
def X7_find (hp : zH) (a0 : Option Nat) (a1 : Int) : Option (Int ⊕ Nat) :=
  (zgJ hp a0 8 7).bind fun v1 =>
  ((zobj hp a0 8).bind fun _ => X7_doorNow hp a0 v1 a1).bind fun x2 =>
  if x2 = none then
    some (Sum.inr 4)
  else
    (zgI hp x2 2 0).bind fun v3 =>
    some (Sum.inl v3)
set_option maxRecDepth 20000 in
theorem c_X7_find (hp : zH) (a0 : Option Nat) (a1 : Int) : ∀ r, X7_find hp a0 a1 = some r → zXi yX7_find (Cond.code yX7_find cX7_find 3 (some .int) :: zALL) { frames := 6, cells := 1, slots := 6, locals := 95 } 1 6 [zR a0, zI a1] hp r hp := by
  refine zXi_of (own := RX7) (cc := cX7_find) (maxL := 3) (res := fun r => r) (hp2 := fun _ => hp) (by decide) rfl (Or.inl rfl) (by exact Nat.le_of_ble_eq_true rfl) ?_
  intro K r0 X hnL hret hthr hnew
  have hN : ∀ i, i < 3 → i < K.2.2.2.2.2.2.2.2.2.2.2.2.2.2.1 := by rw [hnL]; exact fun _ h => h
  show zS _ _ (zJ K 0 0 0 [(0, zR a0), (1, zI a1)] [] hp)
  unfold X7_find
  refine z_aload_n (pc := 0) (i := 0) 0 X dX7_find_0 rfl rfl ?_
  refine z_aload_n (pc := 1) (i := 0) 0 X dX7_find_1 rfl rfl ?_
  refine z_getJ (pc := 2) (C := RX7) (T := TX7) (N := 9) (ci := 8) 7 X dX7_find_2 inz_X7 rfl (by decide) fw_X7_51 (fun v1 => ?_)
  refine z_iload_n (pc := 5) (i := 1) 1 X dX7_find_5 rfl rfl ?_
  refine z_callV_q (pc := 6) (cells := 0) (slots := 0) (C := RX7) (T := TX7) (N := 9) (ci := 8) [zL v1, zI a1] X dX7_find_6 (c_X7_doorNow hp a0 v1 a1) kw_X7_261 rfl rfl ⟨rfl, rfl, ⟨by decide, by decide⟩, ⟨by decide, by decide⟩⟩ (Nat.le_of_ble_eq_true rfl) rfl (fun x2 => ?_)
  refine z_astore_n (pc := 9) (i := 2) (lv' := [(2, zR x2), (0, zR a0), (1, zI a1)]) X dX7_find_9 rfl (hN _ (by decide)) rfl ?_
  refine z_aload_n (pc := 10) (i := 2) 0 X dX7_find_10 rfl rfl ?_
  refine z_ifnonnull (pc := 11) 25 X dX7_find_11 (by decide) (fun _ => ?_) (fun _ => ?_)
  · refine z_aload_n (pc := 25) (i := 2) 0 X dX7_find_25 rfl rfl ?_
    refine z_getI (pc := 26) (C := RX0) (T := TX0) (N := 5) (ci := 2) 0 X dX7_find_26 inz_X0 rfl (by decide) fw_X7_267 (fun v3 => ?_)
    refine z_fin (fun e9 => ?_)
    subst e9
    exact hret _ _ _ _ _ rfl (by decide) (by decide) dX7_find_29 trivial
  · refine z_fin (fun e9 => ?_)
    subst e9
    exact hnew 0 0 14 _ 4 106 265 110 "no door has the address" 10 7 rfl dX7_find_14 dX7_find_17 (Or.inr ⟨dX7_find_18, rfl⟩) dX7_find_21 rfl dX7_find_24 (zin (zt3 14 (by decide +kernel)) rfl) (zin (zt1 18 (by decide +kernel)) rfl) rfl (zt4 77 (by decide +kernel)) thr_110 (by decide) (by decide) (by decide) ⟨by decide, by decide⟩ ⟨by decide, by decide⟩
def X7_goneShare_b34 (p4 : Int) (p5 : Option Nat) (p6 : Int) (h8 : zH) (s7 : Int × Int) : Option ((Int × Int) ⊕ (Int)) :=
  if p6 ≤ s7.2 then
    some (Sum.inr (s7.1))
  else
    (zaR h8 6 p5 s7.2).bind fun v10 =>
    if v10 = none then
      (zchk (s7.2 + 1)).bind fun v11 =>
      some (Sum.inl (s7.1, v11))
    else
      (zgI h8 v10 2 3).bind fun v12 =>
      if v12 = 0 then
        (zchk (s7.2 + 1)).bind fun v13 =>
        some (Sum.inl (s7.1, v13))
      else
        (zchk (s7.1 + 1)).bind fun v14 =>
        (zchk (s7.2 + 1)).bind fun v15 =>
        some (Sum.inl (v14, v15))
def X7_goneShare (hp : zH) (a0 : Option Nat) : Option (UInt32 ⊕ Nat) :=
  (zgI hp a0 8 6).bind fun v1 =>
  if v1 = 0 then
    some (Sum.inr 5)
  else
    (zgR hp a0 8 1).bind fun v2 =>
    (zlen hp v2).bind fun v3 =>
    (zloop (X7_goneShare_b34 v1 v2 v3 hp) zN (0, 0)).bind fun e9 =>
    (zfdiv (zi2f e9) (zi2f v1)).bind fun v16 =>
    some (Sum.inl v16)
set_option maxRecDepth 20000 in
theorem c_X7_goneShare (hp : zH) (a0 : Option Nat) : ∀ r, X7_goneShare hp a0 = some r → zXf yX7_goneShare (Cond.code yX7_goneShare cX7_goneShare 7 (some .float) :: zALL) { frames := 6, cells := 1, slots := 6, locals := 82 } 1 6 [zR a0] hp r hp := by
  refine zXf_of (own := RX7) (cc := cX7_goneShare) (maxL := 7) (res := fun r => r) (hp2 := fun _ => hp) (by decide) rfl (by exact Nat.le_of_ble_eq_true rfl) ?_
  intro K r0 X hnL hret hthr hnew
  have hN : ∀ i, i < 7 → i < K.2.2.2.2.2.2.2.2.2.2.2.2.2.2.1 := by rw [hnL]; exact fun _ h => h
  show zS _ _ (zJ K 0 0 0 [(0, zR a0)] [] hp)
  unfold X7_goneShare
  refine z_aload_n (pc := 0) (i := 0) 0 X dX7_goneShare_0 rfl rfl ?_
  refine z_getI (pc := 1) (C := RX7) (T := TX7) (N := 9) (ci := 8) 6 X dX7_goneShare_1 inz_X7 rfl (by decide) fw_X7_46 (fun v1 => ?_)
  refine z_istore_n (pc := 4) (i := 1) (lv' := [(1, zI v1), (0, zR a0)]) X dX7_goneShare_4 rfl (hN _ (by decide)) rfl ?_
  refine z_iload_n (pc := 5) (i := 1) 0 X dX7_goneShare_5 rfl rfl ?_
  refine z_if_ne (pc := 6) 20 X dX7_goneShare_6 (by decide) (fun _ => ?_) (fun _ => ?_)
  · refine z_iconst (pc := 20) (z := 0) X dX7_goneShare_20 rfl ⟨by decide, by decide⟩ ?_
    refine z_istore_n (pc := 21) (i := 2) (lv' := [(2, zI 0), (1, zI v1), (0, zR a0)]) X dX7_goneShare_21 rfl (hN _ (by decide)) rfl ?_
    refine z_aload_n (pc := 22) (i := 0) 2 X dX7_goneShare_22 rfl rfl ?_
    refine z_getR (pc := 23) (C := RX7) (T := TX7) (N := 9) (ci := 8) 1 X dX7_goneShare_23 inz_X7 rfl (by decide) fw_X7_17 (fun v2 => ?_)
    refine z_astore_n (pc := 26) (i := 3) (lv' := [(3, zR v2), (2, zI 0), (1, zI v1), (0, zR a0)]) X dX7_goneShare_26 rfl (hN _ (by decide)) rfl ?_
    refine z_aload_n (pc := 27) (i := 3) 0 X dX7_goneShare_27 rfl rfl ?_
    refine z_alen (pc := 28) X dX7_goneShare_28 (fun v3 => ?_)
    refine z_istore (pc := 29) (i := 4) (lv' := [(4, zI v3), (3, zR v2), (2, zI 0), (1, zI v1), (0, zR a0)]) X dX7_goneShare_29 (hN _ (by decide)) rfl ?_
    refine z_iconst (pc := 31) (z := 0) X dX7_goneShare_31 rfl ⟨by decide, by decide⟩ ?_
    refine z_istore (pc := 32) (i := 5) (lv' := [(5, zI 0), (4, zI v3), (3, zR v2), (2, zI 0), (1, zI v1), (0, zR a0)]) X dX7_goneShare_32 (hN _ (by decide)) rfl ?_
    refine z_pick [4, 3, 2, 1, 0] (lv' := [(1, zI v1), (2, zI 0), (3, zR v2), (4, zI v3), (5, zI 0)]) rfl ?_
    refine z_bind (z_loop (body := X7_goneShare_b34 v1 v2 v3 hp) (fun s7 : Int × Int => zJ K 0 0 34 [(1, zI v1), (2, zI s7.1), (3, zR v2), (4, zI v3), (5, zI s7.2)] [] hp) (fun e9 : Int => zJ K 0 0 69 [(1, zI v1), (2, zI e9)] [] hp) (fun s7 => ?_) zN (0, 0)) (fun e9 => ?_)
    · unfold X7_goneShare_b34
      refine z_iload (pc := 34) (i := 5) 4 X dX7_goneShare_34 rfl ?_
      refine z_iload (pc := 36) (i := 4) 3 X dX7_goneShare_36 rfl ?_
      refine z_icmp_ge (pc := 38) 69 X dX7_goneShare_38 (by decide) (fun _ => ?_) (fun _ => ?_)
      · refine z_pick [0, 1] (lv' := [(1, zI v1), (2, zI s7.1)]) rfl ?_
        exact z_exit
      · refine z_aload_n (pc := 41) (i := 3) 2 X dX7_goneShare_41 rfl rfl ?_
        refine z_iload (pc := 42) (i := 5) 4 X dX7_goneShare_42 rfl ?_
        refine z_aaload6 (pc := 44) X dX7_goneShare_44 (fun v10 => ?_)
        refine z_astore (pc := 45) (i := 6) (lv' := [(6, zR v10), (1, zI v1), (2, zI s7.1), (3, zR v2), (4, zI v3), (5, zI s7.2)]) X dX7_goneShare_45 (hN _ (by decide)) rfl ?_
        refine z_aload (pc := 47) (i := 6) 0 X dX7_goneShare_47 rfl ?_
        refine z_ifnull (pc := 49) 63 X dX7_goneShare_49 (by decide) (fun _ => ?_) (fun _ => ?_)
        · refine z_iinc (pc := 63) (i := 5) (n := 1) (lv' := fun v11 => [(5, zI v11), (6, zR v10), (1, zI v1), (2, zI s7.1), (3, zR v2), (4, zI v3)]) 5 X dX7_goneShare_63 rfl (hN _ (by decide)) (fun _ => rfl) (fun v11 _ _ => ?_)
          refine z_goto (pc := 66) 34 X dX7_goneShare_66 (by decide) ?_
          refine z_pick [2, 3, 4, 5, 0] (lv' := [(1, zI v1), (2, zI s7.1), (3, zR v2), (4, zI v3), (5, zI v11)]) rfl ?_
          exact z_back
        · refine z_aload (pc := 52) (i := 6) 0 X dX7_goneShare_52 rfl ?_
          refine z_getI (pc := 54) (C := RX0) (T := TX0) (N := 5) (ci := 2) 3 X dX7_goneShare_54 inz_X0 rfl (by decide) fw_X7_213 (fun v12 => ?_)
          refine z_if_eq (pc := 57) 63 X dX7_goneShare_57 (by decide) (fun _ => ?_) (fun _ => ?_)
          · refine z_iinc (pc := 63) (i := 5) (n := 1) (lv' := fun v13 => [(5, zI v13), (6, zR v10), (1, zI v1), (2, zI s7.1), (3, zR v2), (4, zI v3)]) 5 X dX7_goneShare_63 rfl (hN _ (by decide)) (fun _ => rfl) (fun v13 _ _ => ?_)
            refine z_goto (pc := 66) 34 X dX7_goneShare_66 (by decide) ?_
            refine z_pick [2, 3, 4, 5, 0] (lv' := [(1, zI v1), (2, zI s7.1), (3, zR v2), (4, zI v3), (5, zI v13)]) rfl ?_
            exact z_back
          · refine z_iinc (pc := 60) (i := 2) (n := 1) (lv' := fun v14 => [(2, zI v14), (6, zR v10), (1, zI v1), (3, zR v2), (4, zI v3), (5, zI s7.2)]) 2 X dX7_goneShare_60 rfl (hN _ (by decide)) (fun _ => rfl) (fun v14 _ _ => ?_)
            refine z_iinc (pc := 63) (i := 5) (n := 1) (lv' := fun v15 => [(5, zI v15), (2, zI v14), (6, zR v10), (1, zI v1), (3, zR v2), (4, zI v3)]) 5 X dX7_goneShare_63 rfl (hN _ (by decide)) (fun _ => rfl) (fun v15 _ _ => ?_)
            refine z_goto (pc := 66) 34 X dX7_goneShare_66 (by decide) ?_
            refine z_pick [3, 1, 4, 5, 0] (lv' := [(1, zI v1), (2, zI v14), (3, zR v2), (4, zI v3), (5, zI v15)]) rfl ?_
            exact z_back
    · refine z_iload_n (pc := 69) (i := 2) 1 X dX7_goneShare_69 rfl rfl ?_
      refine z_i2f (pc := 70) X dX7_goneShare_70 ?_
      refine z_iload_n (pc := 71) (i := 1) 0 X dX7_goneShare_71 rfl rfl ?_
      refine z_i2f (pc := 72) X dX7_goneShare_72 ?_
      refine z_fdiv (pc := 73) X dX7_goneShare_73 (fun v16 => ?_)
      refine z_fin (fun e9 => ?_)
      subst e9
      exact hret _ _ _ _ _ rfl (by decide) (by decide) dX7_goneShare_74
  · refine z_fin (fun e9 => ?_)
    subst e9
    exact hnew 0 0 9 _ 5 318 320 322 "no doors" 10 7 rfl dX7_goneShare_9 dX7_goneShare_12 (Or.inr ⟨dX7_goneShare_13, rfl⟩) dX7_goneShare_16 rfl dX7_goneShare_19 (zin (zt4 168 (by decide +kernel)) rfl) (zin (zt1 22 (by decide +kernel)) rfl) rfl (zt4 169 (by decide +kernel)) thr_322 (by decide) (by decide) (by decide) ⟨by decide, by decide⟩ ⟨by decide, by decide⟩
def X7_isGone (hp : zH) (a0 : Option Nat) (a1 : Int) : Option (Int ⊕ Nat) :=
  ((zobj hp a0 8).bind fun _ => X7_known hp a0 a1).bind fun x1 =>
  match x1 with
  | Sum.inl v2 =>
    (zgI hp v2 2 3).bind fun v4 =>
    (zchkZ v4).bind fun _ =>
    some (Sum.inl v4)
  | Sum.inr k3 =>
    some (Sum.inr k3)
set_option maxRecDepth 20000 in
theorem c_X7_isGone (hp : zH) (a0 : Option Nat) (a1 : Int) : ∀ r, X7_isGone hp a0 a1 = some r → zXi yX7_isGone (Cond.code yX7_isGone cX7_isGone 2 (some .boolean) :: zALL) { frames := 7, cells := 1, slots := 6, locals := 104 } 1 6 [zR a0, zI a1] hp r hp := by
  refine zXi_of (own := RX7) (cc := cX7_isGone) (maxL := 2) (res := fun r => r) (hp2 := fun _ => hp) (by decide) rfl (Or.inr (Or.inl rfl)) (by exact Nat.le_of_ble_eq_true rfl) ?_
  intro K r0 X hnL hret hthr hnew
  have hN : ∀ i, i < 2 → i < K.2.2.2.2.2.2.2.2.2.2.2.2.2.2.1 := by rw [hnL]; exact fun _ h => h
  show zS _ _ (zJ K 0 0 0 [(0, zR a0), (1, zI a1)] [] hp)
  unfold X7_isGone
  refine z_aload_n (pc := 0) (i := 0) 0 X dX7_isGone_0 rfl rfl ?_
  refine z_iload_n (pc := 1) (i := 1) 1 X dX7_isGone_1 rfl rfl ?_
  refine z_callXV_q (pc := 2) (cells := 0) (slots := 0) (C := RX7) (T := TX7) (N := 9) (ci := 8) [zI a1] X dX7_isGone_2 (c_X7_known hp a0 a1) kw_X7_209 rfl rfl ⟨rfl, rfl, ⟨by decide, by decide⟩, ⟨by decide, by decide⟩⟩ (Nat.le_of_ble_eq_true rfl) rfl (fun x1 v2 hz9 => ?_) (fun x1 k3 hz9 => ?_)
  · have hz9 : x1 = Sum.inl v2 := hz9
    subst hz9
    refine z_getI (pc := 5) (C := RX0) (T := TX0) (N := 5) (ci := 2) 3 X dX7_isGone_5 inz_X0 rfl (by decide) fw_X7_213 (fun v4 => ?_)
    refine z_chkZ (fun hf9 => ?_)
    refine z_fin (fun e9 => ?_)
    subst e9
    exact hret _ _ _ _ _ rfl (by decide) (by decide) dX7_isGone_8 hf9
  · have hz9 : x1 = Sum.inr k3 := hz9
    subst hz9
    refine z_fin (fun e9 => ?_)
    subst e9
    exact hthr _ _ _ _ _ rfl (by decide) (by decide)
def X7_isInUse_b12 (p3 : Int64) (p4 : Option Nat) (p5 : Int) (h7 : zH) (s6 : Int) : Option ((Int) ⊕ ((Unit) ⊕ (Unit))) :=
  if p5 ≤ s6 then
    some (Sum.inr (Sum.inl ()))
  else
    (zaR h7 5 p4 s6).bind fun v9 =>
    (X7_isStanding h7 v9).bind fun x10 =>
    if x10 = 0 then
      (zchk (s6 + 1)).bind fun v11 =>
      some (Sum.inl (v11))
    else
      ((zobj h7 v9 7).bind fun _ => X6_hasName h7 v9 p3).bind fun x12 =>
      if x12 = 0 then
        (zchk (s6 + 1)).bind fun v13 =>
        some (Sum.inl (v13))
      else
        some (Sum.inr (Sum.inr ()))
def X7_isInUse (hp : zH) (a0 : Option Nat) (a1 : Int64) : Option Int :=
  (zgR hp a0 8 0).bind fun v1 =>
  (zlen hp v1).bind fun v2 =>
  (zloop (X7_isInUse_b12 a1 v1 v2 hp) zN 0).bind fun e8 =>
  match e8 with
  | Sum.inl e8 =>
    some 0
  | Sum.inr e8 =>
    some 1
set_option maxRecDepth 20000 in
theorem c_X7_isInUse (hp : zH) (a0 : Option Nat) (a1 : Int64) : ∀ r, X7_isInUse hp a0 a1 = some r → zMi yX7_isInUse (Cond.code yX7_isInUse cX7_isInUse 7 (some .boolean) :: zALL) { frames := 1, cells := 0, slots := 0, locals := 22 } 0 0 [zR a0, zL a1] hp r hp := by
  refine zMi_of (own := RX7) (cc := cX7_isInUse) (maxL := 7) (res := fun r => r) (hp2 := fun _ => hp) (by decide) rfl (Or.inr (Or.inl rfl)) (by exact Nat.le_of_ble_eq_true rfl) ?_
  intro K r0 X hnL hret
  have hN : ∀ i, i < 7 → i < K.2.2.2.2.2.2.2.2.2.2.2.2.2.2.1 := by rw [hnL]; exact fun _ h => h
  show zS _ _ (zJ K 0 0 0 [(0, zR a0), (1, zL a1)] [] hp)
  unfold X7_isInUse
  refine z_aload_n (pc := 0) (i := 0) 0 X dX7_isInUse_0 rfl rfl ?_
  refine z_getR (pc := 1) (C := RX7) (T := TX7) (N := 9) (ci := 8) 0 X dX7_isInUse_1 inz_X7 rfl (by decide) fw_X7_11 (fun v1 => ?_)
  refine z_astore_n (pc := 4) (i := 3) (lv' := [(3, zR v1), (0, zR a0), (1, zL a1)]) X dX7_isInUse_4 rfl (hN _ (by decide)) rfl ?_
  refine z_aload_n (pc := 5) (i := 3) 0 X dX7_isInUse_5 rfl rfl ?_
  refine z_alen (pc := 6) X dX7_isInUse_6 (fun v2 => ?_)
  refine z_istore (pc := 7) (i := 4) (lv' := [(4, zI v2), (3, zR v1), (0, zR a0), (1, zL a1)]) X dX7_isInUse_7 (hN _ (by decide)) rfl ?_
  refine z_iconst (pc := 9) (z := 0) X dX7_isInUse_9 rfl ⟨by decide, by decide⟩ ?_
  refine z_istore (pc := 10) (i := 5) (lv' := [(5, zI 0), (4, zI v2), (3, zR v1), (0, zR a0), (1, zL a1)]) X dX7_isInUse_10 (hN _ (by decide)) rfl ?_
  refine z_pick [4, 2, 1, 0] (lv' := [(1, zL a1), (3, zR v1), (4, zI v2), (5, zI 0)]) rfl ?_
  refine z_bind (z_loop (body := X7_isInUse_b12 a1 v1 v2 hp) (fun s6 : Int => zJ K 0 0 12 [(1, zL a1), (3, zR v1), (4, zI v2), (5, zI s6)] [] hp) (fun e8 : ((Unit) ⊕ (Unit)) => (match e8 with | Sum.inl e8 => zJ K 0 0 50 [] [] hp | Sum.inr e8 => zJ K 0 0 42 [] [] hp)) (fun s6 => ?_) zN 0) (fun e8 => ?_)
  · unfold X7_isInUse_b12
    refine z_iload (pc := 12) (i := 5) 3 X dX7_isInUse_12 rfl ?_
    refine z_iload (pc := 14) (i := 4) 2 X dX7_isInUse_14 rfl ?_
    refine z_icmp_ge (pc := 16) 50 X dX7_isInUse_16 (by decide) (fun _ => ?_) (fun _ => ?_)
    · refine z_pick [] (lv' := []) rfl ?_
      exact z_exit
    · refine z_aload_n (pc := 19) (i := 3) 1 X dX7_isInUse_19 rfl rfl ?_
      refine z_iload (pc := 20) (i := 5) 3 X dX7_isInUse_20 rfl ?_
      refine z_aaload5 (pc := 22) X dX7_isInUse_22 (fun v9 => ?_)
      refine z_astore (pc := 23) (i := 6) (lv' := [(6, zR v9), (1, zL a1), (3, zR v1), (4, zI v2), (5, zI s6)]) X dX7_isInUse_23 (hN _ (by decide)) rfl ?_
      refine z_aload (pc := 25) (i := 6) 0 X dX7_isInUse_25 rfl ?_
      refine z_callS_i (pc := 27) (cells := 0) (slots := 0) [zR v9] X dX7_isInUse_27 (c_X7_isStanding hp v9) kw_X7_179 rfl ⟨rfl, rfl, ⟨by decide, by decide⟩, ⟨by decide, by decide⟩⟩ (Nat.le_of_ble_eq_true rfl) rfl (fun x10 => ?_)
      refine z_if_eq (pc := 30) 44 X dX7_isInUse_30 (by decide) (fun _ => ?_) (fun _ => ?_)
      · refine z_iinc (pc := 44) (i := 5) (n := 1) (lv' := fun v11 => [(5, zI v11), (6, zR v9), (1, zL a1), (3, zR v1), (4, zI v2)]) 4 X dX7_isInUse_44 rfl (hN _ (by decide)) (fun _ => rfl) (fun v11 _ _ => ?_)
        refine z_goto (pc := 47) 12 X dX7_isInUse_47 (by decide) ?_
        refine z_pick [2, 3, 4, 0] (lv' := [(1, zL a1), (3, zR v1), (4, zI v2), (5, zI v11)]) rfl ?_
        exact z_back
      · refine z_aload (pc := 33) (i := 6) 0 X dX7_isInUse_33 rfl ?_
        refine z_lload_n (pc := 35) (i := 1) 1 X dX7_isInUse_35 rfl rfl ?_
        refine z_callV_i (pc := 36) (cells := 0) (slots := 0) (C := RX6) (T := TX6) (N := 8) (ci := 7) [zL a1] X dX7_isInUse_36 (c_X6_hasName hp v9 a1) kw_X7_349 rfl rfl ⟨rfl, rfl, ⟨by decide, by decide⟩, ⟨by decide, by decide⟩⟩ (Nat.le_of_ble_eq_true rfl) rfl (fun x12 => ?_)
        refine z_if_eq (pc := 39) 44 X dX7_isInUse_39 (by decide) (fun _ => ?_) (fun _ => ?_)
        · refine z_iinc (pc := 44) (i := 5) (n := 1) (lv' := fun v13 => [(5, zI v13), (6, zR v9), (1, zL a1), (3, zR v1), (4, zI v2)]) 4 X dX7_isInUse_44 rfl (hN _ (by decide)) (fun _ => rfl) (fun v13 _ _ => ?_)
          refine z_goto (pc := 47) 12 X dX7_isInUse_47 (by decide) ?_
          refine z_pick [2, 3, 4, 0] (lv' := [(1, zL a1), (3, zR v1), (4, zI v2), (5, zI v13)]) rfl ?_
          exact z_back
        · refine z_pick [] (lv' := []) rfl ?_
          exact z_exit
  · rcases e8 with e8 | e8
    · refine z_iconst (pc := 50) (z := 0) X dX7_isInUse_50 rfl ⟨by decide, by decide⟩ ?_
      refine z_fin (fun e9 => ?_)
      subst e9
      exact hret _ _ _ _ (by decide) (by decide) dX7_isInUse_51 (Or.inl rfl)
    · refine z_iconst (pc := 42) (z := 1) X dX7_isInUse_42 rfl ⟨by decide, by decide⟩ ?_
      refine z_fin (fun e9 => ?_)
      subst e9
      exact hret _ _ _ _ (by decide) (by decide) dX7_isInUse_43 (Or.inr rfl)
def X7_isTrue (hp : zH) (a0 : Option Nat) : Option (Int × zH) :=
  ((zobj hp a0 8).bind fun _ => X7_areAddressesSingle hp a0).bind fun x1 =>
  if x1.1 = 0 then
    some (0, x1.2)
  else
    ((zobj x1.2 a0 8).bind fun _ => X7_areAddressesThere x1.2 a0).bind fun x2 =>
    if x2 = 0 then
      some (0, x1.2)
    else
      ((zobj x1.2 a0 8).bind fun _ => X7_areNamesSingle x1.2 a0).bind fun x3 =>
      if x3 = 0 then
        some (0, x1.2)
      else
        ((zobj x1.2 a0 8).bind fun _ => X7_areLeadsEnding x1.2 a0).bind fun x4 =>
        if x4 = 0 then
          some (0, x1.2)
        else
          some (1, x1.2)
set_option maxRecDepth 20000 in
theorem c_X7_isTrue (hp : zH) (a0 : Option Nat) : ∀ r, X7_isTrue hp a0 = some r → zMi yX7_isTrue (Cond.code yX7_isTrue cX7_isTrue 1 (some .boolean) :: zALL) { frames := 5, cells := 0, slots := 0, locals := 118 } 0 0 [zR a0] hp r.1 r.2 := by
  refine zMi_of (own := RX7) (cc := cX7_isTrue) (maxL := 1) (ε := (Int × zH)) (res := fun r => r.1) (hp2 := fun r => r.2) (by decide) rfl (Or.inr (Or.inl rfl)) (by exact Nat.le_of_ble_eq_true rfl) ?_
  intro K r0 X hnL hret
  have hN : ∀ i, i < 1 → i < K.2.2.2.2.2.2.2.2.2.2.2.2.2.2.1 := by rw [hnL]; exact fun _ h => h
  show zS _ _ (zJ K 0 0 0 [(0, zR a0)] [] hp)
  unfold X7_isTrue
  refine z_aload_n (pc := 0) (i := 0) 0 X dX7_isTrue_0 rfl rfl ?_
  refine z_callV_i (pc := 1) (cells := 0) (slots := 0) (C := RX7) (T := TX7) (N := 9) (ci := 8) [] X dX7_isTrue_1 (c_X7_areAddressesSingle hp a0) kw_X7_329 rfl rfl ⟨rfl, rfl, ⟨by decide, by decide⟩, ⟨by decide, by decide⟩⟩ (Nat.le_of_ble_eq_true rfl) rfl (fun x1 => ?_)
  refine z_if_eq (pc := 4) 32 X dX7_isTrue_4 (by decide) (fun _ => ?_) (fun _ => ?_)
  · refine z_iconst (pc := 32) (z := 0) X dX7_isTrue_32 rfl ⟨by decide, by decide⟩ ?_
    refine z_fin (fun e9 => ?_)
    subst e9
    exact hret _ _ _ _ (by decide) (by decide) dX7_isTrue_33 (Or.inl rfl)
  · refine z_aload_n (pc := 7) (i := 0) 0 X dX7_isTrue_7 rfl rfl ?_
    refine z_callV_i (pc := 8) (cells := 0) (slots := 0) (C := RX7) (T := TX7) (N := 9) (ci := 8) [] X dX7_isTrue_8 (c_X7_areAddressesThere x1.2 a0) kw_X7_333 rfl rfl ⟨rfl, rfl, ⟨by decide, by decide⟩, ⟨by decide, by decide⟩⟩ (Nat.le_of_ble_eq_true rfl) rfl (fun x2 => ?_)
    refine z_if_eq (pc := 11) 32 X dX7_isTrue_11 (by decide) (fun _ => ?_) (fun _ => ?_)
    · refine z_iconst (pc := 32) (z := 0) X dX7_isTrue_32 rfl ⟨by decide, by decide⟩ ?_
      refine z_fin (fun e9 => ?_)
      subst e9
      exact hret _ _ _ _ (by decide) (by decide) dX7_isTrue_33 (Or.inl rfl)
    · refine z_aload_n (pc := 14) (i := 0) 0 X dX7_isTrue_14 rfl rfl ?_
      refine z_callV_i (pc := 15) (cells := 0) (slots := 0) (C := RX7) (T := TX7) (N := 9) (ci := 8) [] X dX7_isTrue_15 (c_X7_areNamesSingle x1.2 a0) kw_X7_336 rfl rfl ⟨rfl, rfl, ⟨by decide, by decide⟩, ⟨by decide, by decide⟩⟩ (Nat.le_of_ble_eq_true rfl) rfl (fun x3 => ?_)
      refine z_if_eq (pc := 18) 32 X dX7_isTrue_18 (by decide) (fun _ => ?_) (fun _ => ?_)
      · refine z_iconst (pc := 32) (z := 0) X dX7_isTrue_32 rfl ⟨by decide, by decide⟩ ?_
        refine z_fin (fun e9 => ?_)
        subst e9
        exact hret _ _ _ _ (by decide) (by decide) dX7_isTrue_33 (Or.inl rfl)
      · refine z_aload_n (pc := 21) (i := 0) 0 X dX7_isTrue_21 rfl rfl ?_
        refine z_callV_i (pc := 22) (cells := 0) (slots := 0) (C := RX7) (T := TX7) (N := 9) (ci := 8) [] X dX7_isTrue_22 (c_X7_areLeadsEnding x1.2 a0) kw_X7_339 rfl rfl ⟨rfl, rfl, ⟨by decide, by decide⟩, ⟨by decide, by decide⟩⟩ (Nat.le_of_ble_eq_true rfl) rfl (fun x4 => ?_)
        refine z_if_eq (pc := 25) 32 X dX7_isTrue_25 (by decide) (fun _ => ?_) (fun _ => ?_)
        · refine z_iconst (pc := 32) (z := 0) X dX7_isTrue_32 rfl ⟨by decide, by decide⟩ ?_
          refine z_fin (fun e9 => ?_)
          subst e9
          exact hret _ _ _ _ (by decide) (by decide) dX7_isTrue_33 (Or.inl rfl)
        · refine z_iconst (pc := 28) (z := 1) X dX7_isTrue_28 rfl ⟨by decide, by decide⟩ ?_
          refine z_goto (pc := 29) 33 X dX7_isTrue_29 (by decide) ?_
          refine z_fin (fun e9 => ?_)
          subst e9
          exact hret _ _ _ _ (by decide) (by decide) dX7_isTrue_33 (Or.inr rfl)
def X7_isWay (hp : zH) (a0 : Int) : Option Int :=
  if a0 = 115 then
    some 1
  else
    if a0 = 109 then
      some 1
    else
      if a0 = 121 then
        some 1
      else
        some 0
set_option maxRecDepth 20000 in
theorem c_X7_isWay (hp : zH) (a0 : Int) : ∀ r, X7_isWay hp a0 = some r → zMi yX7_isWay (Cond.code yX7_isWay cX7_isWay 1 (some .boolean) :: zALL) { frames := 0, cells := 0, slots := 0, locals := 0 } 0 0 [zI a0] hp r hp := by
  refine zMi_of (own := RX7) (cc := cX7_isWay) (maxL := 1) (res := fun r => r) (hp2 := fun _ => hp) (by decide) rfl (Or.inr (Or.inl rfl)) (by exact Nat.le_of_ble_eq_true rfl) ?_
  intro K r0 X hnL hret
  have hN : ∀ i, i < 1 → i < K.2.2.2.2.2.2.2.2.2.2.2.2.2.2.1 := by rw [hnL]; exact fun _ h => h
  show zS _ _ (zJ K 0 0 0 [(0, zI a0)] [] hp)
  unfold X7_isWay
  refine z_iload_n (pc := 0) (i := 0) 0 X dX7_isWay_0 rfl rfl ?_
  refine z_bipush (pc := 1) (z := 115) X dX7_isWay_1 rfl ⟨by decide, by decide⟩ ?_
  refine z_icmp_eq (pc := 3) 18 X dX7_isWay_3 (by decide) (fun _ => ?_) (fun _ => ?_)
  · refine z_iconst (pc := 18) (z := 1) X dX7_isWay_18 rfl ⟨by decide, by decide⟩ ?_
    refine z_goto (pc := 19) 23 X dX7_isWay_19 (by decide) ?_
    refine z_fin (fun e9 => ?_)
    subst e9
    exact hret _ _ _ _ (by decide) (by decide) dX7_isWay_23 (Or.inr rfl)
  · refine z_iload_n (pc := 6) (i := 0) 0 X dX7_isWay_6 rfl rfl ?_
    refine z_bipush (pc := 7) (z := 109) X dX7_isWay_7 rfl ⟨by decide, by decide⟩ ?_
    refine z_icmp_eq (pc := 9) 18 X dX7_isWay_9 (by decide) (fun _ => ?_) (fun _ => ?_)
    · refine z_iconst (pc := 18) (z := 1) X dX7_isWay_18 rfl ⟨by decide, by decide⟩ ?_
      refine z_goto (pc := 19) 23 X dX7_isWay_19 (by decide) ?_
      refine z_fin (fun e9 => ?_)
      subst e9
      exact hret _ _ _ _ (by decide) (by decide) dX7_isWay_23 (Or.inr rfl)
    · refine z_iload_n (pc := 12) (i := 0) 0 X dX7_isWay_12 rfl rfl ?_
      refine z_bipush (pc := 13) (z := 121) X dX7_isWay_13 rfl ⟨by decide, by decide⟩ ?_
      refine z_icmp_ne (pc := 15) 22 X dX7_isWay_15 (by decide) (fun _ => ?_) (fun _ => ?_)
      · refine z_iconst (pc := 22) (z := 0) X dX7_isWay_22 rfl ⟨by decide, by decide⟩ ?_
        refine z_fin (fun e9 => ?_)
        subst e9
        exact hret _ _ _ _ (by decide) (by decide) dX7_isWay_23 (Or.inl rfl)
      · refine z_iconst (pc := 18) (z := 1) X dX7_isWay_18 rfl ⟨by decide, by decide⟩ ?_
        refine z_goto (pc := 19) 23 X dX7_isWay_19 (by decide) ?_
        refine z_fin (fun e9 => ?_)
        subst e9
        exact hret _ _ _ _ (by decide) (by decide) dX7_isWay_23 (Or.inr rfl)
def X7_orderForJoining_b19 (p5 : Option Nat) (p6 : Option Nat) (p7 : Option Nat) (p8 : Option Nat) (p9 : Int) (s10 : Int × zH) : Option ((Int × zH) ⊕ (zH)) :=
  if p9 ≤ s10.1 then
    some (Sum.inr (s10.2))
  else
    (zaR s10.2 6 p8 s10.1).bind fun v12 =>
    (X7_placeOf s10.2 v12 p7).bind fun x13 =>
    if x13 = none then
      (zchk (s10.1 + 1)).bind fun v14 =>
      some (Sum.inl (v14, s10.2))
    else
      (X7_placeOf s10.2 v12 p6).bind fun x15 =>
      if x15 = none then
        (zgR s10.2 p5 8 4).bind fun v17 =>
        (zgI s10.2 x13 6 2).bind fun v18 =>
        ((zobj s10.2 p7 7).bind fun _ => X6_farness s10.2 p7 v18).bind fun x19 =>
        (zgI s10.2 x13 6 0).bind fun v20 =>
        ((zobj s10.2 v17 5).bind fun _ => X4_put s10.2 v17 x19 v20).bind fun x21 =>
        (zchk (s10.1 + 1)).bind fun v22 =>
        some (Sum.inl (v22, x21))
      else
        (zchk (s10.1 + 1)).bind fun v16 =>
        some (Sum.inl (v16, s10.2))
def X7_orderForJoining (hp : zH) (a0 : Option Nat) (a1 : Option Nat) (a2 : Option Nat) : Option zH :=
  (zgR hp a0 8 4).bind fun v1 =>
  ((zobj hp v1 5).bind fun _ => X4_clear hp v1).bind fun x2 =>
  (zgR x2 a0 8 1).bind fun v3 =>
  (zlen x2 v3).bind fun v4 =>
  (zloop (X7_orderForJoining_b19 a0 a1 a2 v3 v4) zN (0, x2)).bind fun e11 =>
  some e11
set_option maxRecDepth 20000 in
theorem c_X7_orderForJoining (hp : zH) (a0 : Option Nat) (a1 : Option Nat) (a2 : Option Nat) : ∀ r, X7_orderForJoining hp a0 a1 a2 = some r → zMv yX7_orderForJoining (Cond.code yX7_orderForJoining cX7_orderForJoining 8 none :: zALL) { frames := 2, cells := 0, slots := 0, locals := 42 } 0 0 [zR a0, zR a1, zR a2] hp r := by
  refine zMv_of (own := RX7) (cc := cX7_orderForJoining) (maxL := 8) (hp2 := fun r => r) (by decide) rfl (by exact Nat.le_of_ble_eq_true rfl) ?_
  intro K r0 X hnL hnm9 hret
  have hN : ∀ i, i < 8 → i < K.2.2.2.2.2.2.2.2.2.2.2.2.2.2.1 := by rw [hnL]; exact fun _ h => h
  show zS _ _ (zJ K 0 0 0 [(0, zR a0), (1, zR a1), (2, zR a2)] [] hp)
  unfold X7_orderForJoining
  refine z_aload_n (pc := 0) (i := 0) 0 X dX7_orderForJoining_0 rfl rfl ?_
  refine z_getR (pc := 1) (C := RX7) (T := TX7) (N := 9) (ci := 8) 4 X dX7_orderForJoining_1 inz_X7 rfl (by decide) fw_X7_38 (fun v1 => ?_)
  refine z_callV_v (pc := 4) (cells := 0) (slots := 0) (C := RX4) (T := TX4) (N := 2) (ci := 5) [] X dX7_orderForJoining_4 (c_X4_clear hp v1) kw_X7_388 rfl rfl ⟨rfl, rfl, ⟨by decide, by decide⟩, ⟨by decide, by decide⟩⟩ (Nat.le_of_ble_eq_true rfl) rfl (fun x2 => ?_)
  refine z_aload_n (pc := 7) (i := 0) 0 X dX7_orderForJoining_7 rfl rfl ?_
  refine z_getR (pc := 8) (C := RX7) (T := TX7) (N := 9) (ci := 8) 1 X dX7_orderForJoining_8 inz_X7 rfl (by decide) fw_X7_17 (fun v3 => ?_)
  refine z_astore_n (pc := 11) (i := 3) (lv' := [(3, zR v3), (0, zR a0), (1, zR a1), (2, zR a2)]) X dX7_orderForJoining_11 rfl (hN _ (by decide)) rfl ?_
  refine z_aload_n (pc := 12) (i := 3) 0 X dX7_orderForJoining_12 rfl rfl ?_
  refine z_alen (pc := 13) X dX7_orderForJoining_13 (fun v4 => ?_)
  refine z_istore (pc := 14) (i := 4) (lv' := [(4, zI v4), (3, zR v3), (0, zR a0), (1, zR a1), (2, zR a2)]) X dX7_orderForJoining_14 (hN _ (by decide)) rfl ?_
  refine z_iconst (pc := 16) (z := 0) X dX7_orderForJoining_16 rfl ⟨by decide, by decide⟩ ?_
  refine z_istore (pc := 17) (i := 5) (lv' := [(5, zI 0), (4, zI v4), (3, zR v3), (0, zR a0), (1, zR a1), (2, zR a2)]) X dX7_orderForJoining_17 (hN _ (by decide)) rfl ?_
  refine z_pick [3, 4, 5, 2, 1, 0] (lv' := [(0, zR a0), (1, zR a1), (2, zR a2), (3, zR v3), (4, zI v4), (5, zI 0)]) rfl ?_
  refine z_bind (z_loop (body := X7_orderForJoining_b19 a0 a1 a2 v3 v4) (fun s10 : Int × zH => zJ K 0 0 19 [(0, zR a0), (1, zR a1), (2, zR a2), (3, zR v3), (4, zI v4), (5, zI s10.1)] [] s10.2) (fun e11 : zH => zJ K 0 0 81 [] [] e11) (fun s10 => ?_) zN (0, x2)) (fun e11 => ?_)
  · unfold X7_orderForJoining_b19
    refine z_iload (pc := 19) (i := 5) 5 X dX7_orderForJoining_19 rfl ?_
    refine z_iload (pc := 21) (i := 4) 4 X dX7_orderForJoining_21 rfl ?_
    refine z_icmp_ge (pc := 23) 81 X dX7_orderForJoining_23 (by decide) (fun _ => ?_) (fun _ => ?_)
    · refine z_pick [] (lv' := []) rfl ?_
      exact z_exit
    · refine z_aload_n (pc := 26) (i := 3) 3 X dX7_orderForJoining_26 rfl rfl ?_
      refine z_iload (pc := 27) (i := 5) 5 X dX7_orderForJoining_27 rfl ?_
      refine z_aaload6 (pc := 29) X dX7_orderForJoining_29 (fun v12 => ?_)
      refine z_astore (pc := 30) (i := 6) (lv' := [(6, zR v12), (0, zR a0), (1, zR a1), (2, zR a2), (3, zR v3), (4, zI v4), (5, zI s10.1)]) X dX7_orderForJoining_30 (hN _ (by decide)) rfl ?_
      refine z_aload (pc := 32) (i := 6) 0 X dX7_orderForJoining_32 rfl ?_
      refine z_aload_n (pc := 34) (i := 2) 3 X dX7_orderForJoining_34 rfl rfl ?_
      refine z_callS_q (pc := 35) (cells := 0) (slots := 0) [zR v12, zR a2] X dX7_orderForJoining_35 (c_X7_placeOf s10.2 v12 a2) kw_X7_299 rfl ⟨rfl, rfl, ⟨by decide, by decide⟩, ⟨by decide, by decide⟩⟩ (Nat.le_of_ble_eq_true rfl) rfl (fun x13 => ?_)
      refine z_astore (pc := 38) (i := 7) (lv' := [(7, zR x13), (6, zR v12), (0, zR a0), (1, zR a1), (2, zR a2), (3, zR v3), (4, zI v4), (5, zI s10.1)]) X dX7_orderForJoining_38 (hN _ (by decide)) rfl ?_
      refine z_aload (pc := 40) (i := 7) 0 X dX7_orderForJoining_40 rfl ?_
      refine z_ifnull (pc := 42) 75 X dX7_orderForJoining_42 (by decide) (fun _ => ?_) (fun _ => ?_)
      · refine z_iinc (pc := 75) (i := 5) (n := 1) (lv' := fun v14 => [(5, zI v14), (7, zR x13), (6, zR v12), (0, zR a0), (1, zR a1), (2, zR a2), (3, zR v3), (4, zI v4)]) 7 X dX7_orderForJoining_75 rfl (hN _ (by decide)) (fun _ => rfl) (fun v14 _ _ => ?_)
        refine z_goto (pc := 78) 19 X dX7_orderForJoining_78 (by decide) ?_
        refine z_pick [3, 4, 5, 6, 7, 0] (lv' := [(0, zR a0), (1, zR a1), (2, zR a2), (3, zR v3), (4, zI v4), (5, zI v14)]) rfl ?_
        exact z_back
      · refine z_aload (pc := 45) (i := 6) 1 X dX7_orderForJoining_45 rfl ?_
        refine z_aload_n (pc := 47) (i := 1) 3 X dX7_orderForJoining_47 rfl rfl ?_
        refine z_callS_q (pc := 48) (cells := 0) (slots := 0) [zR v12, zR a1] X dX7_orderForJoining_48 (c_X7_placeOf s10.2 v12 a1) kw_X7_299 rfl ⟨rfl, rfl, ⟨by decide, by decide⟩, ⟨by decide, by decide⟩⟩ (Nat.le_of_ble_eq_true rfl) rfl (fun x15 => ?_)
        refine z_ifnonnull (pc := 51) 75 X dX7_orderForJoining_51 (by decide) (fun _ => ?_) (fun _ => ?_)
        · refine z_iinc (pc := 75) (i := 5) (n := 1) (lv' := fun v16 => [(5, zI v16), (7, zR x13), (6, zR v12), (0, zR a0), (1, zR a1), (2, zR a2), (3, zR v3), (4, zI v4)]) 7 X dX7_orderForJoining_75 rfl (hN _ (by decide)) (fun _ => rfl) (fun v16 _ _ => ?_)
          refine z_goto (pc := 78) 19 X dX7_orderForJoining_78 (by decide) ?_
          refine z_pick [3, 4, 5, 6, 7, 0] (lv' := [(0, zR a0), (1, zR a1), (2, zR a2), (3, zR v3), (4, zI v4), (5, zI v16)]) rfl ?_
          exact z_back
        · refine z_aload_n (pc := 54) (i := 0) 2 X dX7_orderForJoining_54 rfl rfl ?_
          refine z_getR (pc := 55) (C := RX7) (T := TX7) (N := 9) (ci := 8) 4 X dX7_orderForJoining_55 inz_X7 rfl (by decide) fw_X7_38 (fun v17 => ?_)
          refine z_aload_n (pc := 58) (i := 2) 4 X dX7_orderForJoining_58 rfl rfl ?_
          refine z_aload (pc := 59) (i := 7) 0 X dX7_orderForJoining_59 rfl ?_
          refine z_getI (pc := 61) (C := RX5) (T := TX5) (N := 5) (ci := 6) 2 X dX7_orderForJoining_61 inz_X5 rfl (by decide) fw_X7_303 (fun v18 => ?_)
          refine z_callV_i (pc := 64) (cells := 0) (slots := 0) (C := RX6) (T := TX6) (N := 8) (ci := 7) [zI v18] X dX7_orderForJoining_64 (c_X6_farness s10.2 a2 v18) kw_X7_391 rfl rfl ⟨rfl, rfl, ⟨by decide, by decide⟩, ⟨by decide, by decide⟩⟩ (Nat.le_of_ble_eq_true rfl) rfl (fun x19 => ?_)
          refine z_aload (pc := 67) (i := 7) 0 X dX7_orderForJoining_67 rfl ?_
          refine z_getI (pc := 69) (C := RX5) (T := TX5) (N := 5) (ci := 6) 0 X dX7_orderForJoining_69 inz_X5 rfl (by decide) fw_X7_356 (fun v20 => ?_)
          refine z_callV_v (pc := 72) (cells := 0) (slots := 0) (C := RX4) (T := TX4) (N := 2) (ci := 5) [zI x19, zI v20] X dX7_orderForJoining_72 (c_X4_put s10.2 v17 x19 v20) kw_X7_394 rfl rfl ⟨rfl, rfl, ⟨by decide, by decide⟩, ⟨by decide, by decide⟩⟩ (Nat.le_of_ble_eq_true rfl) rfl (fun x21 => ?_)
          refine z_iinc (pc := 75) (i := 5) (n := 1) (lv' := fun v22 => [(5, zI v22), (7, zR x13), (6, zR v12), (0, zR a0), (1, zR a1), (2, zR a2), (3, zR v3), (4, zI v4)]) 7 X dX7_orderForJoining_75 rfl (hN _ (by decide)) (fun _ => rfl) (fun v22 _ _ => ?_)
          refine z_goto (pc := 78) 19 X dX7_orderForJoining_78 (by decide) ?_
          refine z_pick [3, 4, 5, 6, 7, 0] (lv' := [(0, zR a0), (1, zR a1), (2, zR a2), (3, zR v3), (4, zI v4), (5, zI v22)]) rfl ?_
          exact z_back
  · refine z_fin (fun e9 => ?_)
    subst e9
    exact hret _ _ _ _ (by decide) (by decide) dX7_orderForJoining_81
def X7_remember (hp : zH) (a0 : Option Nat) (a1 : Int64) (a2 : Option Nat) : Option zH :=
  if (zcmp a1 0) = 0 then
    some hp
  else
    if a2 = none then
      some hp
    else
      (zgR hp a0 8 2).bind fun v1 =>
      (zgI hp a2 6 4).bind fun v2 =>
      (zgI hp a2 6 0).bind fun v3 =>
      (zgI hp a0 8 8).bind fun v4 =>
      ((zobj hp v1 4).bind fun _ => X3_keep hp v1 a1 v2 v3 v4).bind fun x5 =>
      some x5
set_option maxRecDepth 20000 in
theorem c_X7_remember (hp : zH) (a0 : Option Nat) (a1 : Int64) (a2 : Option Nat) : ∀ r, X7_remember hp a0 a1 a2 = some r → zMv yX7_remember (Cond.code yX7_remember cX7_remember 4 none :: zALL) { frames := 2, cells := 0, slots := 0, locals := 49 } 0 0 [zR a0, zL a1, zR a2] hp r := by
  refine zMv_of (own := RX7) (cc := cX7_remember) (maxL := 4) (hp2 := fun r => r) (by decide) rfl (by exact Nat.le_of_ble_eq_true rfl) ?_
  intro K r0 X hnL hnm9 hret
  have hN : ∀ i, i < 4 → i < K.2.2.2.2.2.2.2.2.2.2.2.2.2.2.1 := by rw [hnL]; exact fun _ h => h
  show zS _ _ (zJ K 0 0 0 [(0, zR a0), (1, zL a1), (3, zR a2)] [] hp)
  unfold X7_remember
  refine z_lload_n (pc := 0) (i := 1) 1 X dX7_remember_0 rfl rfl ?_
  refine z_lconst (pc := 1) (z := 0) X dX7_remember_1 rfl ?_
  refine z_lcmp (pc := 2) X dX7_remember_2 ?_
  refine z_if_eq (pc := 3) 30 X dX7_remember_3 (by decide) (fun _ => ?_) (fun _ => ?_)
  · refine z_fin (fun e9 => ?_)
    subst e9
    exact hret _ _ _ _ (by decide) (by decide) dX7_remember_30
  · refine z_aload_n (pc := 6) (i := 3) 2 X dX7_remember_6 rfl rfl ?_
    refine z_ifnull (pc := 7) 30 X dX7_remember_7 (by decide) (fun _ => ?_) (fun _ => ?_)
    · refine z_fin (fun e9 => ?_)
      subst e9
      exact hret _ _ _ _ (by decide) (by decide) dX7_remember_30
    · refine z_aload_n (pc := 10) (i := 0) 0 X dX7_remember_10 rfl rfl ?_
      refine z_getR (pc := 11) (C := RX7) (T := TX7) (N := 9) (ci := 8) 2 X dX7_remember_11 inz_X7 rfl (by decide) fw_X7_24 (fun v1 => ?_)
      refine z_lload_n (pc := 14) (i := 1) 1 X dX7_remember_14 rfl rfl ?_
      refine z_aload_n (pc := 15) (i := 3) 2 X dX7_remember_15 rfl rfl ?_
      refine z_getI (pc := 16) (C := RX5) (T := TX5) (N := 5) (ci := 6) 4 X dX7_remember_16 inz_X5 rfl (by decide) fw_X7_200 (fun v2 => ?_)
      refine z_aload_n (pc := 19) (i := 3) 2 X dX7_remember_19 rfl rfl ?_
      refine z_getI (pc := 20) (C := RX5) (T := TX5) (N := 5) (ci := 6) 0 X dX7_remember_20 inz_X5 rfl (by decide) fw_X7_356 (fun v3 => ?_)
      refine z_aload_n (pc := 23) (i := 0) 0 X dX7_remember_23 rfl rfl ?_
      refine z_getI (pc := 24) (C := RX7) (T := TX7) (N := 9) (ci := 8) 8 X dX7_remember_24 inz_X7 rfl (by decide) fw_X7_55 (fun v4 => ?_)
      refine z_callV_v (pc := 27) (cells := 0) (slots := 0) (C := RX3) (T := TX3) (N := 6) (ci := 4) [zL a1, zI v2, zI v3, zI v4] X dX7_remember_27 (c_X3_keep hp v1 a1 v2 v3 v4) kw_X7_359 rfl rfl ⟨rfl, rfl, ⟨by decide, by decide⟩, ⟨by decide, by decide⟩⟩ (Nat.le_of_ble_eq_true rfl) rfl (fun x5 => ?_)
      refine z_fin (fun e9 => ?_)
      subst e9
      exact hret _ _ _ _ (by decide) (by decide) dX7_remember_30
def X7_rememberBoth (hp : zH) (a0 : Option Nat) (a1 : Option Nat) : Option zH :=
  if a1 = none then
    some hp
  else
    (zgR hp a1 6 1).bind fun v1 =>
    if v1 = none then
      some hp
    else
      (zgR hp a1 6 1).bind fun v2 =>
      (zgJ hp v2 7 1).bind fun v3 =>
      ((zobj hp a0 8).bind fun _ => X7_remember hp a0 v3 a1).bind fun x4 =>
      (zgR x4 a1 6 1).bind fun v5 =>
      (zgJ x4 v5 7 2).bind fun v6 =>
      ((zobj x4 a0 8).bind fun _ => X7_remember x4 a0 v6 a1).bind fun x7 =>
      some x7
set_option maxRecDepth 20000 in
theorem c_X7_rememberBoth (hp : zH) (a0 : Option Nat) (a1 : Option Nat) : ∀ r, X7_rememberBoth hp a0 a1 = some r → zMv yX7_rememberBoth (Cond.code yX7_rememberBoth cX7_rememberBoth 2 none :: zALL) { frames := 3, cells := 0, slots := 0, locals := 72 } 0 0 [zR a0, zR a1] hp r := by
  refine zMv_of (own := RX7) (cc := cX7_rememberBoth) (maxL := 2) (hp2 := fun r => r) (by decide) rfl (by exact Nat.le_of_ble_eq_true rfl) ?_
  intro K r0 X hnL hnm9 hret
  have hN : ∀ i, i < 2 → i < K.2.2.2.2.2.2.2.2.2.2.2.2.2.2.1 := by rw [hnL]; exact fun _ h => h
  show zS _ _ (zJ K 0 0 0 [(0, zR a0), (1, zR a1)] [] hp)
  unfold X7_rememberBoth
  refine z_aload_n (pc := 0) (i := 1) 1 X dX7_rememberBoth_0 rfl rfl ?_
  refine z_ifnull (pc := 1) 35 X dX7_rememberBoth_1 (by decide) (fun _ => ?_) (fun _ => ?_)
  · refine z_fin (fun e9 => ?_)
    subst e9
    exact hret _ _ _ _ (by decide) (by decide) dX7_rememberBoth_35
  · refine z_aload_n (pc := 4) (i := 1) 1 X dX7_rememberBoth_4 rfl rfl ?_
    refine z_getR (pc := 5) (C := RX5) (T := TX5) (N := 5) (ci := 6) 1 X dX7_rememberBoth_5 inz_X5 rfl (by decide) fw_X7_247 (fun v1 => ?_)
    refine z_ifnull (pc := 8) 35 X dX7_rememberBoth_8 (by decide) (fun _ => ?_) (fun _ => ?_)
    · refine z_fin (fun e9 => ?_)
      subst e9
      exact hret _ _ _ _ (by decide) (by decide) dX7_rememberBoth_35
    · refine z_aload_n (pc := 11) (i := 0) 0 X dX7_rememberBoth_11 rfl rfl ?_
      refine z_aload_n (pc := 12) (i := 1) 1 X dX7_rememberBoth_12 rfl rfl ?_
      refine z_getR (pc := 13) (C := RX5) (T := TX5) (N := 5) (ci := 6) 1 X dX7_rememberBoth_13 inz_X5 rfl (by decide) fw_X7_247 (fun v2 => ?_)
      refine z_getJ (pc := 16) (C := RX6) (T := TX6) (N := 8) (ci := 7) 1 X dX7_rememberBoth_16 inz_X6 rfl (by decide) fw_X7_91 (fun v3 => ?_)
      refine z_aload_n (pc := 19) (i := 1) 1 X dX7_rememberBoth_19 rfl rfl ?_
      refine z_callV_v (pc := 20) (cells := 0) (slots := 0) (C := RX7) (T := TX7) (N := 9) (ci := 8) [zL v3, zR a1] X dX7_rememberBoth_20 (c_X7_remember hp a0 v3 a1) kw_X7_363 rfl rfl ⟨rfl, rfl, ⟨by decide, by decide⟩, ⟨by decide, by decide⟩⟩ (Nat.le_of_ble_eq_true rfl) rfl (fun x4 => ?_)
      refine z_aload_n (pc := 23) (i := 0) 0 X dX7_rememberBoth_23 rfl rfl ?_
      refine z_aload_n (pc := 24) (i := 1) 1 X dX7_rememberBoth_24 rfl rfl ?_
      refine z_getR (pc := 25) (C := RX5) (T := TX5) (N := 5) (ci := 6) 1 X dX7_rememberBoth_25 inz_X5 rfl (by decide) fw_X7_247 (fun v5 => ?_)
      refine z_getJ (pc := 28) (C := RX6) (T := TX6) (N := 8) (ci := 7) 2 X dX7_rememberBoth_28 inz_X6 rfl (by decide) fw_X7_103 (fun v6 => ?_)
      refine z_aload_n (pc := 31) (i := 1) 1 X dX7_rememberBoth_31 rfl rfl ?_
      refine z_callV_v (pc := 32) (cells := 0) (slots := 0) (C := RX7) (T := TX7) (N := 9) (ci := 8) [zL v6, zR a1] X dX7_rememberBoth_32 (c_X7_remember x4 a0 v6 a1) kw_X7_363 rfl rfl ⟨rfl, rfl, ⟨by decide, by decide⟩, ⟨by decide, by decide⟩⟩ (Nat.le_of_ble_eq_true rfl) rfl (fun x7 => ?_)
      refine z_fin (fun e9 => ?_)
      subst e9
      exact hret _ _ _ _ (by decide) (by decide) dX7_rememberBoth_35
def X7_rememberAll__b11 (p3 : Option Nat) (p4 : Option Nat) (p5 : Option Nat) (p6 : Int) (s7 : Int × zH) : Option ((Int × zH) ⊕ (zH)) :=
  if p6 ≤ s7.1 then
    some (Sum.inr (s7.2))
  else
    (zaR s7.2 6 p5 s7.1).bind fun v9 =>
    (X7_placeOf s7.2 v9 p4).bind fun x10 =>
    ((zobj s7.2 p3 8).bind fun _ => X7_rememberBoth s7.2 p3 x10).bind fun x11 =>
    (zchk (s7.1 + 1)).bind fun v12 =>
    some (Sum.inl (v12, x11))
def X7_rememberAll_ (hp : zH) (a0 : Option Nat) (a1 : Option Nat) : Option zH :=
  (zgR hp a0 8 1).bind fun v1 =>
  (zlen hp v1).bind fun v2 =>
  (zloop (X7_rememberAll__b11 a0 a1 v1 v2) zN (0, hp)).bind fun e8 =>
  some e8
set_option maxRecDepth 20000 in
theorem c_X7_rememberAll_ (hp : zH) (a0 : Option Nat) (a1 : Option Nat) : ∀ r, X7_rememberAll_ hp a0 a1 = some r → zMv yX7_rememberAll_ (Cond.code yX7_rememberAll_ cX7_rememberAll_ 6 none :: zALL) { frames := 4, cells := 0, slots := 0, locals := 93 } 0 0 [zR a0, zR a1] hp r := by
  refine zMv_of (own := RX7) (cc := cX7_rememberAll_) (maxL := 6) (hp2 := fun r => r) (by decide) rfl (by exact Nat.le_of_ble_eq_true rfl) ?_
  intro K r0 X hnL hnm9 hret
  have hN : ∀ i, i < 6 → i < K.2.2.2.2.2.2.2.2.2.2.2.2.2.2.1 := by rw [hnL]; exact fun _ h => h
  show zS _ _ (zJ K 0 0 0 [(0, zR a0), (1, zR a1)] [] hp)
  unfold X7_rememberAll_
  refine z_aload_n (pc := 0) (i := 0) 0 X dX7_rememberAll__0 rfl rfl ?_
  refine z_getR (pc := 1) (C := RX7) (T := TX7) (N := 9) (ci := 8) 1 X dX7_rememberAll__1 inz_X7 rfl (by decide) fw_X7_17 (fun v1 => ?_)
  refine z_astore_n (pc := 4) (i := 2) (lv' := [(2, zR v1), (0, zR a0), (1, zR a1)]) X dX7_rememberAll__4 rfl (hN _ (by decide)) rfl ?_
  refine z_aload_n (pc := 5) (i := 2) 0 X dX7_rememberAll__5 rfl rfl ?_
  refine z_alen (pc := 6) X dX7_rememberAll__6 (fun v2 => ?_)
  refine z_istore_n (pc := 7) (i := 3) (lv' := [(3, zI v2), (2, zR v1), (0, zR a0), (1, zR a1)]) X dX7_rememberAll__7 rfl (hN _ (by decide)) rfl ?_
  refine z_iconst (pc := 8) (z := 0) X dX7_rememberAll__8 rfl ⟨by decide, by decide⟩ ?_
  refine z_istore (pc := 9) (i := 4) (lv' := [(4, zI 0), (3, zI v2), (2, zR v1), (0, zR a0), (1, zR a1)]) X dX7_rememberAll__9 (hN _ (by decide)) rfl ?_
  refine z_pick [3, 4, 2, 1, 0] (lv' := [(0, zR a0), (1, zR a1), (2, zR v1), (3, zI v2), (4, zI 0)]) rfl ?_
  refine z_bind (z_loop (body := X7_rememberAll__b11 a0 a1 v1 v2) (fun s7 : Int × zH => zJ K 0 0 11 [(0, zR a0), (1, zR a1), (2, zR v1), (3, zI v2), (4, zI s7.1)] [] s7.2) (fun e8 : zH => zJ K 0 0 39 [] [] e8) (fun s7 => ?_) zN (0, hp)) (fun e8 => ?_)
  · unfold X7_rememberAll__b11
    refine z_iload (pc := 11) (i := 4) 4 X dX7_rememberAll__11 rfl ?_
    refine z_iload_n (pc := 13) (i := 3) 3 X dX7_rememberAll__13 rfl rfl ?_
    refine z_icmp_ge (pc := 14) 39 X dX7_rememberAll__14 (by decide) (fun _ => ?_) (fun _ => ?_)
    · refine z_pick [] (lv' := []) rfl ?_
      exact z_exit
    · refine z_aload_n (pc := 17) (i := 2) 2 X dX7_rememberAll__17 rfl rfl ?_
      refine z_iload (pc := 18) (i := 4) 4 X dX7_rememberAll__18 rfl ?_
      refine z_aaload6 (pc := 20) X dX7_rememberAll__20 (fun v9 => ?_)
      refine z_astore (pc := 21) (i := 5) (lv' := [(5, zR v9), (0, zR a0), (1, zR a1), (2, zR v1), (3, zI v2), (4, zI s7.1)]) X dX7_rememberAll__21 (hN _ (by decide)) rfl ?_
      refine z_aload_n (pc := 23) (i := 0) 1 X dX7_rememberAll__23 rfl rfl ?_
      refine z_aload (pc := 24) (i := 5) 0 X dX7_rememberAll__24 rfl ?_
      refine z_aload_n (pc := 26) (i := 1) 2 X dX7_rememberAll__26 rfl rfl ?_
      refine z_callS_q (pc := 27) (cells := 0) (slots := 0) [zR v9, zR a1] X dX7_rememberAll__27 (c_X7_placeOf s7.2 v9 a1) kw_X7_299 rfl ⟨rfl, rfl, ⟨by decide, by decide⟩, ⟨by decide, by decide⟩⟩ (Nat.le_of_ble_eq_true rfl) rfl (fun x10 => ?_)
      refine z_callV_v (pc := 30) (cells := 0) (slots := 0) (C := RX7) (T := TX7) (N := 9) (ci := 8) [zR x10] X dX7_rememberAll__30 (c_X7_rememberBoth s7.2 a0 x10) kw_X7_367 rfl rfl ⟨rfl, rfl, ⟨by decide, by decide⟩, ⟨by decide, by decide⟩⟩ (Nat.le_of_ble_eq_true rfl) rfl (fun x11 => ?_)
      refine z_iinc (pc := 33) (i := 4) (n := 1) (lv' := fun v12 => [(4, zI v12), (5, zR v9), (0, zR a0), (1, zR a1), (2, zR v1), (3, zI v2)]) 5 X dX7_rememberAll__33 rfl (hN _ (by decide)) (fun _ => rfl) (fun v12 _ _ => ?_)
      refine z_goto (pc := 36) 11 X dX7_rememberAll__36 (by decide) ?_
      refine z_pick [2, 3, 4, 5, 0] (lv' := [(0, zR a0), (1, zR a1), (2, zR v1), (3, zI v2), (4, zI v12)]) rfl ?_
      exact z_back
  · refine z_fin (fun e9 => ?_)
    subst e9
    exact hret _ _ _ _ (by decide) (by decide) dX7_rememberAll__39
def X7_moveDoors_b12 (p3 : Option Nat) (p4 : Option Nat) (p5 : Option Nat) (p6 : Option Nat) (p7 : Int) (s8 : Int × zH) : Option ((Int × zH) ⊕ (zH)) :=
  if p7 ≤ s8.1 then
    some (Sum.inr (s8.2))
  else
    (zaR s8.2 6 p6 s8.1).bind fun v10 =>
    (X7_placeOf s8.2 v10 p5).bind fun x11 =>
    if v10 = none then
      (zchk (s8.1 + 1)).bind fun v12 =>
      some (Sum.inl (v12, s8.2))
    else
      if x11 = none then
        (zchk (s8.1 + 1)).bind fun v26 =>
        some (Sum.inl (v26, s8.2))
      else
        ((zobj s8.2 v10 2).bind fun _ => X0_placeOn s8.2 v10 p4).bind fun x13 =>
        if x13 = none then
          (zpR s8.2 x11 6 1 p4).bind fun h14 =>
          (zgI h14 x11 6 2).bind fun v15 =>
          (zgI h14 p4 7 3).bind fun v16 =>
          (zchk (v15 + v16)).bind fun v17 =>
          (zpI h14 x11 6 2 v17).bind fun h18 =>
          (zgR h18 p3 8 3).bind fun v19 =>
          (zgI h18 x11 6 0).bind fun v20 =>
          ((zobj h18 v19 3).bind fun _ => X1_codeOf h18 v19 v20).bind fun x21 =>
          (zpI h18 x11 6 4 x21).bind fun h22 =>
          (zchk (s8.1 + 1)).bind fun v23 =>
          some (Sum.inl (v23, h22))
        else
          ((zobj s8.2 v10 2).bind fun _ => X0_losePlaceOn s8.2 v10 p5).bind fun x24 =>
          (zchk (s8.1 + 1)).bind fun v25 =>
          some (Sum.inl (v25, x24))
def X7_moveDoors (hp : zH) (a0 : Option Nat) (a1 : Option Nat) (a2 : Option Nat) : Option zH :=
  (zgR hp a0 8 1).bind fun v1 =>
  (zlen hp v1).bind fun v2 =>
  (zloop (X7_moveDoors_b12 a0 a1 a2 v1 v2) zN (0, hp)).bind fun e9 =>
  some e9
set_option maxRecDepth 20000 in
theorem c_X7_moveDoors (hp : zH) (a0 : Option Nat) (a1 : Option Nat) (a2 : Option Nat) : ∀ r, X7_moveDoors hp a0 a1 a2 = some r → zMv yX7_moveDoors (Cond.code yX7_moveDoors cX7_moveDoors 8 none :: zALL) { frames := 2, cells := 0, slots := 0, locals := 42 } 0 0 [zR a0, zR a1, zR a2] hp r := by
  refine zMv_of (own := RX7) (cc := cX7_moveDoors) (maxL := 8) (hp2 := fun r => r) (by decide) rfl (by exact Nat.le_of_ble_eq_true rfl) ?_
  intro K r0 X hnL hnm9 hret
  have hN : ∀ i, i < 8 → i < K.2.2.2.2.2.2.2.2.2.2.2.2.2.2.1 := by rw [hnL]; exact fun _ h => h
  show zS _ _ (zJ K 0 0 0 [(0, zR a0), (1, zR a1), (2, zR a2)] [] hp)
  unfold X7_moveDoors
  refine z_aload_n (pc := 0) (i := 0) 0 X dX7_moveDoors_0 rfl rfl ?_
  refine z_getR (pc := 1) (C := RX7) (T := TX7) (N := 9) (ci := 8) 1 X dX7_moveDoors_1 inz_X7 rfl (by decide) fw_X7_17 (fun v1 => ?_)
  refine z_astore_n (pc := 4) (i := 3) (lv' := [(3, zR v1), (0, zR a0), (1, zR a1), (2, zR a2)]) X dX7_moveDoors_4 rfl (hN _ (by decide)) rfl ?_
  refine z_aload_n (pc := 5) (i := 3) 0 X dX7_moveDoors_5 rfl rfl ?_
  refine z_alen (pc := 6) X dX7_moveDoors_6 (fun v2 => ?_)
  refine z_istore (pc := 7) (i := 4) (lv' := [(4, zI v2), (3, zR v1), (0, zR a0), (1, zR a1), (2, zR a2)]) X dX7_moveDoors_7 (hN _ (by decide)) rfl ?_
  refine z_iconst (pc := 9) (z := 0) X dX7_moveDoors_9 rfl ⟨by decide, by decide⟩ ?_
  refine z_istore (pc := 10) (i := 5) (lv' := [(5, zI 0), (4, zI v2), (3, zR v1), (0, zR a0), (1, zR a1), (2, zR a2)]) X dX7_moveDoors_10 (hN _ (by decide)) rfl ?_
  refine z_pick [3, 4, 5, 2, 1, 0] (lv' := [(0, zR a0), (1, zR a1), (2, zR a2), (3, zR v1), (4, zI v2), (5, zI 0)]) rfl ?_
  refine z_bind (z_loop (body := X7_moveDoors_b12 a0 a1 a2 v1 v2) (fun s8 : Int × zH => zJ K 0 0 12 [(0, zR a0), (1, zR a1), (2, zR a2), (3, zR v1), (4, zI v2), (5, zI s8.1)] [] s8.2) (fun e9 : zH => zJ K 0 0 108 [] [] e9) (fun s8 => ?_) zN (0, hp)) (fun e9 => ?_)
  · unfold X7_moveDoors_b12
    refine z_iload (pc := 12) (i := 5) 5 X dX7_moveDoors_12 rfl ?_
    refine z_iload (pc := 14) (i := 4) 4 X dX7_moveDoors_14 rfl ?_
    refine z_icmp_ge (pc := 16) 108 X dX7_moveDoors_16 (by decide) (fun _ => ?_) (fun _ => ?_)
    · refine z_pick [] (lv' := []) rfl ?_
      exact z_exit
    · refine z_aload_n (pc := 19) (i := 3) 3 X dX7_moveDoors_19 rfl rfl ?_
      refine z_iload (pc := 20) (i := 5) 5 X dX7_moveDoors_20 rfl ?_
      refine z_aaload6 (pc := 22) X dX7_moveDoors_22 (fun v10 => ?_)
      refine z_astore (pc := 23) (i := 6) (lv' := [(6, zR v10), (0, zR a0), (1, zR a1), (2, zR a2), (3, zR v1), (4, zI v2), (5, zI s8.1)]) X dX7_moveDoors_23 (hN _ (by decide)) rfl ?_
      refine z_aload (pc := 25) (i := 6) 0 X dX7_moveDoors_25 rfl ?_
      refine z_aload_n (pc := 27) (i := 2) 3 X dX7_moveDoors_27 rfl rfl ?_
      refine z_callS_q (pc := 28) (cells := 0) (slots := 0) [zR v10, zR a2] X dX7_moveDoors_28 (c_X7_placeOf s8.2 v10 a2) kw_X7_299 rfl ⟨rfl, rfl, ⟨by decide, by decide⟩, ⟨by decide, by decide⟩⟩ (Nat.le_of_ble_eq_true rfl) rfl (fun x11 => ?_)
      refine z_astore (pc := 31) (i := 7) (lv' := [(7, zR x11), (6, zR v10), (0, zR a0), (1, zR a1), (2, zR a2), (3, zR v1), (4, zI v2), (5, zI s8.1)]) X dX7_moveDoors_31 (hN _ (by decide)) rfl ?_
      refine z_aload (pc := 33) (i := 6) 1 X dX7_moveDoors_33 rfl ?_
      refine z_ifnull (pc := 35) 102 X dX7_moveDoors_35 (by decide) (fun _ => ?_) (fun _ => ?_)
      · refine z_iinc (pc := 102) (i := 5) (n := 1) (lv' := fun v12 => [(5, zI v12), (7, zR x11), (6, zR v10), (0, zR a0), (1, zR a1), (2, zR a2), (3, zR v1), (4, zI v2)]) 7 X dX7_moveDoors_102 rfl (hN _ (by decide)) (fun _ => rfl) (fun v12 _ _ => ?_)
        refine z_goto (pc := 105) 12 X dX7_moveDoors_105 (by decide) ?_
        refine z_pick [3, 4, 5, 6, 7, 0] (lv' := [(0, zR a0), (1, zR a1), (2, zR a2), (3, zR v1), (4, zI v2), (5, zI v12)]) rfl ?_
        exact z_back
      · refine z_aload (pc := 38) (i := 7) 0 X dX7_moveDoors_38 rfl ?_
        refine z_ifnonnull (pc := 40) 46 X dX7_moveDoors_40 (by decide) (fun _ => ?_) (fun _ => ?_)
        · refine z_aload (pc := 46) (i := 6) 1 X dX7_moveDoors_46 rfl ?_
          refine z_aload_n (pc := 48) (i := 1) 3 X dX7_moveDoors_48 rfl rfl ?_
          refine z_callV_q (pc := 49) (cells := 0) (slots := 0) (C := RX0) (T := TX0) (N := 5) (ci := 2) [zR a1] X dX7_moveDoors_49 (c_X0_placeOn s8.2 v10 a1) kw_X7_218 rfl rfl ⟨rfl, rfl, ⟨by decide, by decide⟩, ⟨by decide, by decide⟩⟩ (Nat.le_of_ble_eq_true rfl) rfl (fun x13 => ?_)
          refine z_ifnull (pc := 52) 64 X dX7_moveDoors_52 (by decide) (fun _ => ?_) (fun _ => ?_)
          · refine z_aload (pc := 64) (i := 7) 0 X dX7_moveDoors_64 rfl ?_
            refine z_aload_n (pc := 66) (i := 1) 3 X dX7_moveDoors_66 rfl rfl ?_
            refine z_putR (pc := 67) (C := RX5) (T := TX5) (N := 5) (ci := 6) 1 X dX7_moveDoors_67 inz_X5 tyX5_ok nmX5 rfl (by decide) fw_X7_247 rfl ⟨_, Or.inl rfl⟩ (fun h14 => ?_)
            refine z_aload (pc := 70) (i := 7) 0 X dX7_moveDoors_70 rfl ?_
            refine z_aload (pc := 72) (i := 7) 0 X dX7_moveDoors_72 rfl ?_
            refine z_getI (pc := 74) (C := RX5) (T := TX5) (N := 5) (ci := 6) 2 X dX7_moveDoors_74 inz_X5 rfl (by decide) fw_X7_303 (fun v15 => ?_)
            refine z_aload_n (pc := 77) (i := 1) 3 X dX7_moveDoors_77 rfl rfl ?_
            refine z_getI (pc := 78) (C := RX6) (T := TX6) (N := 8) (ci := 7) 3 X dX7_moveDoors_78 inz_X6 rfl (by decide) fw_X7_136 (fun v16 => ?_)
            refine z_iadd (pc := 81) X dX7_moveDoors_81 (fun v17 _ _ => ?_)
            refine z_putI (pc := 82) (C := RX5) (T := TX5) (N := 5) (ci := 6) 2 X dX7_moveDoors_82 inz_X5 tyX5_ok nmX5 rfl (by decide) fw_X7_303 rfl rfl (fun h18 => ?_)
            refine z_aload (pc := 85) (i := 7) 0 X dX7_moveDoors_85 rfl ?_
            refine z_aload_n (pc := 87) (i := 0) 2 X dX7_moveDoors_87 rfl rfl ?_
            refine z_getR (pc := 88) (C := RX7) (T := TX7) (N := 9) (ci := 8) 3 X dX7_moveDoors_88 inz_X7 rfl (by decide) fw_X7_31 (fun v19 => ?_)
            refine z_aload (pc := 91) (i := 7) 0 X dX7_moveDoors_91 rfl ?_
            refine z_getI (pc := 93) (C := RX5) (T := TX5) (N := 5) (ci := 6) 0 X dX7_moveDoors_93 inz_X5 rfl (by decide) fw_X7_356 (fun v20 => ?_)
            refine z_callV_i (pc := 96) (cells := 0) (slots := 0) (C := RX1) (T := TX1) (N := 7) (ci := 3) [zI v20] X dX7_moveDoors_96 (c_X1_codeOf h18 v19 v20) kw_X7_382 rfl rfl ⟨rfl, rfl, ⟨by decide, by decide⟩, ⟨by decide, by decide⟩⟩ (Nat.le_of_ble_eq_true rfl) rfl (fun x21 => ?_)
            refine z_putI (pc := 99) (C := RX5) (T := TX5) (N := 5) (ci := 6) 4 X dX7_moveDoors_99 inz_X5 tyX5_ok nmX5 rfl (by decide) fw_X7_200 rfl rfl (fun h22 => ?_)
            refine z_iinc (pc := 102) (i := 5) (n := 1) (lv' := fun v23 => [(5, zI v23), (7, zR x11), (6, zR v10), (0, zR a0), (1, zR a1), (2, zR a2), (3, zR v1), (4, zI v2)]) 7 X dX7_moveDoors_102 rfl (hN _ (by decide)) (fun _ => rfl) (fun v23 _ _ => ?_)
            refine z_goto (pc := 105) 12 X dX7_moveDoors_105 (by decide) ?_
            refine z_pick [3, 4, 5, 6, 7, 0] (lv' := [(0, zR a0), (1, zR a1), (2, zR a2), (3, zR v1), (4, zI v2), (5, zI v23)]) rfl ?_
            exact z_back
          · refine z_aload (pc := 55) (i := 6) 1 X dX7_moveDoors_55 rfl ?_
            refine z_aload_n (pc := 57) (i := 2) 4 X dX7_moveDoors_57 rfl rfl ?_
            refine z_callV_v (pc := 58) (cells := 0) (slots := 0) (C := RX0) (T := TX0) (N := 5) (ci := 2) [zR a2] X dX7_moveDoors_58 (c_X0_losePlaceOn s8.2 v10 a2) kw_X7_385 rfl rfl ⟨rfl, rfl, ⟨by decide, by decide⟩, ⟨by decide, by decide⟩⟩ (Nat.le_of_ble_eq_true rfl) rfl (fun x24 => ?_)
            refine z_goto (pc := 61) 102 X dX7_moveDoors_61 (by decide) ?_
            refine z_iinc (pc := 102) (i := 5) (n := 1) (lv' := fun v25 => [(5, zI v25), (7, zR x11), (6, zR v10), (0, zR a0), (1, zR a1), (2, zR a2), (3, zR v1), (4, zI v2)]) 7 X dX7_moveDoors_102 rfl (hN _ (by decide)) (fun _ => rfl) (fun v25 _ _ => ?_)
            refine z_goto (pc := 105) 12 X dX7_moveDoors_105 (by decide) ?_
            refine z_pick [3, 4, 5, 6, 7, 0] (lv' := [(0, zR a0), (1, zR a1), (2, zR a2), (3, zR v1), (4, zI v2), (5, zI v25)]) rfl ?_
            exact z_back
        · refine z_goto (pc := 43) 102 X dX7_moveDoors_43 (by decide) ?_
          refine z_iinc (pc := 102) (i := 5) (n := 1) (lv' := fun v26 => [(5, zI v26), (7, zR x11), (6, zR v10), (0, zR a0), (1, zR a1), (2, zR a2), (3, zR v1), (4, zI v2)]) 7 X dX7_moveDoors_102 rfl (hN _ (by decide)) (fun _ => rfl) (fun v26 _ _ => ?_)
          refine z_goto (pc := 105) 12 X dX7_moveDoors_105 (by decide) ?_
          refine z_pick [3, 4, 5, 6, 7, 0] (lv' := [(0, zR a0), (1, zR a1), (2, zR a2), (3, zR v1), (4, zI v2), (5, zI v26)]) rfl ?_
          exact z_back
  · refine z_fin (fun e9 => ?_)
    subst e9
    exact hret _ _ _ _ (by decide) (by decide) dX7_moveDoors_108
def X7_join (hp : zH) (a0 : Option Nat) (a1 : Int) (a2 : Int) : Option ((Int ⊕ Nat) × zH) :=
  ((zobj hp a0 8).bind fun _ => X7_standing hp a0 a1).bind fun x1 =>
  match x1 with
  | Sum.inl v2 =>
    ((zobj hp a0 8).bind fun _ => X7_standing hp a0 a2).bind fun x4 =>
    match x4 with
    | Sum.inl v5 =>
      (zgI hp v2 7 3).bind fun v7 =>
      (zgI hp v5 7 3).bind fun v8 =>
      (zchk (v7 + v8)).bind fun v9 =>
      if v2 = v5 then
        some (Sum.inr 0, hp)
      else
        if v9 ≤ 999 then
          ((zobj hp a0 8).bind fun _ => X7_openLedger hp a0 v2 v9).bind fun x10 =>
          ((zobj x10 a0 8).bind fun _ => X7_orderForJoining x10 a0 v2 v5).bind fun x11 =>
          (zgI x11 v2 7 3).bind fun v12 =>
          ((zobj x11 a0 8).bind fun _ => X7_enterInOrder x11 a0 v5 v12).bind fun x13 =>
          if x13.1 = 0 then
            some (Sum.inr 2, x13.2)
          else
            ((zobj x13.2 a0 8).bind fun _ => X7_rememberAll_ x13.2 a0 v5).bind fun x14 =>
            ((zobj x14 a0 8).bind fun _ => X7_moveDoors x14 a0 v2 v5).bind fun x15 =>
            (zgR x15 a0 8 3).bind fun v16 =>
            (zgI x15 v16 3 6).bind fun v17 =>
            (zpI x15 v2 7 7 v17).bind fun h18 =>
            (zpI h18 v2 7 3 v9).bind fun h19 =>
            (zpZ h19 v5 7 6 1).bind fun h20 =>
            some (Sum.inl v9, h20)
        else
          some (Sum.inr 0, hp)
    | Sum.inr k6 =>
      some (Sum.inr k6, hp)
  | Sum.inr k3 =>
    some (Sum.inr k3, hp)
set_option maxRecDepth 20000 in
theorem c_X7_join (hp : zH) (a0 : Option Nat) (a1 : Int) (a2 : Int) : ∀ r, X7_join hp a0 a1 a2 = some r → zXi yX7_join (Cond.code yX7_join cX7_join 6 (some .int) :: zALL) { frames := 7, cells := 3, slots := 18, locals := 126 } 3 18 [zR a0, zI a1, zI a2] hp r.1 r.2 := by
  refine zXi_of (own := RX7) (cc := cX7_join) (maxL := 6) (ε := ((Int ⊕ Nat) × zH)) (res := fun r => r.1) (hp2 := fun r => r.2) (by decide) rfl (Or.inl rfl) (by exact Nat.le_of_ble_eq_true rfl) ?_
  intro K r0 X hnL hret hthr hnew
  have hN : ∀ i, i < 6 → i < K.2.2.2.2.2.2.2.2.2.2.2.2.2.2.1 := by rw [hnL]; exact fun _ h => h
  show zS _ _ (zJ K 0 0 0 [(0, zR a0), (1, zI a1), (2, zI a2)] [] hp)
  unfold X7_join
  refine z_aload_n (pc := 0) (i := 0) 0 X dX7_join_0 rfl rfl ?_
  refine z_iload_n (pc := 1) (i := 1) 1 X dX7_join_1 rfl rfl ?_
  refine z_callXV_q (pc := 2) (cells := 0) (slots := 0) (C := RX7) (T := TX7) (N := 9) (ci := 8) [zI a1] X dX7_join_2 (c_X7_standing hp a0 a1) kw_X7_78 rfl rfl ⟨rfl, rfl, ⟨by decide, by decide⟩, ⟨by decide, by decide⟩⟩ (Nat.le_of_ble_eq_true rfl) rfl (fun x1 v2 hz9 => ?_) (fun x1 k3 hz9 => ?_)
  · have hz9 : x1 = Sum.inl v2 := hz9
    subst hz9
    refine z_astore_n (pc := 5) (i := 3) (lv' := [(3, zR v2), (0, zR a0), (1, zI a1), (2, zI a2)]) X dX7_join_5 rfl (hN _ (by decide)) rfl ?_
    refine z_aload_n (pc := 6) (i := 0) 1 X dX7_join_6 rfl rfl ?_
    refine z_iload_n (pc := 7) (i := 2) 3 X dX7_join_7 rfl rfl ?_
    refine z_callXV_q (pc := 8) (cells := 1) (slots := 6) (C := RX7) (T := TX7) (N := 9) (ci := 8) [zI a2] X dX7_join_8 (c_X7_standing hp a0 a2) kw_X7_78 rfl rfl ⟨rfl, rfl, ⟨by decide, by decide⟩, ⟨by decide, by decide⟩⟩ (Nat.le_of_ble_eq_true rfl) rfl (fun x4 v5 hz9 => ?_) (fun x4 k6 hz9 => ?_)
    · have hz9 : x4 = Sum.inl v5 := hz9
      subst hz9
      refine z_astore (pc := 11) (i := 4) (lv' := [(4, zR v5), (3, zR v2), (0, zR a0), (1, zI a1), (2, zI a2)]) X dX7_join_11 (hN _ (by decide)) rfl ?_
      refine z_aload_n (pc := 13) (i := 3) 1 X dX7_join_13 rfl rfl ?_
      refine z_getI (pc := 14) (C := RX6) (T := TX6) (N := 8) (ci := 7) 3 X dX7_join_14 inz_X6 rfl (by decide) fw_X7_136 (fun v7 => ?_)
      refine z_aload (pc := 17) (i := 4) 0 X dX7_join_17 rfl ?_
      refine z_getI (pc := 19) (C := RX6) (T := TX6) (N := 8) (ci := 7) 3 X dX7_join_19 inz_X6 rfl (by decide) fw_X7_136 (fun v8 => ?_)
      refine z_iadd (pc := 22) X dX7_join_22 (fun v9 _ _ => ?_)
      refine z_istore (pc := 23) (i := 5) (lv' := [(5, zI v9), (4, zR v5), (3, zR v2), (0, zR a0), (1, zI a1), (2, zI a2)]) X dX7_join_23 (hN _ (by decide)) rfl ?_
      refine z_aload_n (pc := 25) (i := 3) 2 X dX7_join_25 rfl rfl ?_
      refine z_aload (pc := 26) (i := 4) 1 X dX7_join_26 rfl ?_
      refine z_acmp_eq (pc := 28) 39 X dX7_join_28 (by decide) (fun _ => ?_) (fun _ => ?_)
      · refine z_fin (fun e9 => ?_)
        subst e9
        exact hnew 2 12 39 _ 0 58 161 62 "the same street, or too long" 9 6 rfl dX7_join_39 dX7_join_42 (Or.inl ⟨dX7_join_43, rfl⟩) dX7_join_45 rfl dX7_join_48 (zin (zt2 8 (by decide +kernel)) rfl) (zin (zt1 9 (by decide +kernel)) rfl) rfl (zt4 9 (by decide +kernel)) thr_62 (by decide) (by decide) (by decide) ⟨by decide, by decide⟩ ⟨by decide, by decide⟩
      · refine z_iload (pc := 31) (i := 5) 0 X dX7_join_31 rfl ?_
        refine z_sipush (pc := 33) (z := 999) X dX7_join_33 rfl ⟨by decide, by decide⟩ ?_
        refine z_icmp_le (pc := 36) 49 X dX7_join_36 (by decide) (fun _ => ?_) (fun _ => ?_)
        · refine z_aload_n (pc := 49) (i := 0) 3 X dX7_join_49 rfl rfl ?_
          refine z_aload_n (pc := 50) (i := 3) 2 X dX7_join_50 rfl rfl ?_
          refine z_iload (pc := 51) (i := 5) 0 X dX7_join_51 rfl ?_
          refine z_callV_v (pc := 53) (cells := 2) (slots := 12) (C := RX7) (T := TX7) (N := 9) (ci := 8) [zR v2, zI v9] X dX7_join_53 (c_X7_openLedger hp a0 v2 v9) kw_X7_163 rfl rfl ⟨rfl, rfl, ⟨by decide, by decide⟩, ⟨by decide, by decide⟩⟩ (Nat.le_of_ble_eq_true rfl) rfl (fun x10 => ?_)
          refine z_aload_n (pc := 56) (i := 0) 3 X dX7_join_56 rfl rfl ?_
          refine z_aload_n (pc := 57) (i := 3) 2 X dX7_join_57 rfl rfl ?_
          refine z_aload (pc := 58) (i := 4) 1 X dX7_join_58 rfl ?_
          refine z_callV_v (pc := 60) (cells := 2) (slots := 12) (C := RX7) (T := TX7) (N := 9) (ci := 8) [zR v2, zR v5] X dX7_join_60 (c_X7_orderForJoining x10 a0 v2 v5) kw_X7_167 rfl rfl ⟨rfl, rfl, ⟨by decide, by decide⟩, ⟨by decide, by decide⟩⟩ (Nat.le_of_ble_eq_true rfl) rfl (fun x11 => ?_)
          refine z_aload_n (pc := 63) (i := 0) 3 X dX7_join_63 rfl rfl ?_
          refine z_aload (pc := 64) (i := 4) 1 X dX7_join_64 rfl ?_
          refine z_aload_n (pc := 66) (i := 3) 2 X dX7_join_66 rfl rfl ?_
          refine z_getI (pc := 67) (C := RX6) (T := TX6) (N := 8) (ci := 7) 3 X dX7_join_67 inz_X6 rfl (by decide) fw_X7_136 (fun v12 => ?_)
          refine z_callV_i (pc := 70) (cells := 2) (slots := 12) (C := RX7) (T := TX7) (N := 9) (ci := 8) [zR v5, zI v12] X dX7_join_70 (c_X7_enterInOrder x11 a0 v5 v12) kw_X7_147 rfl rfl ⟨rfl, rfl, ⟨by decide, by decide⟩, ⟨by decide, by decide⟩⟩ (Nat.le_of_ble_eq_true rfl) rfl (fun x13 => ?_)
          refine z_if_ne (pc := 73) 86 X dX7_join_73 (by decide) (fun _ => ?_) (fun _ => ?_)
          · refine z_aload_n (pc := 86) (i := 0) 3 X dX7_join_86 rfl rfl ?_
            refine z_aload (pc := 87) (i := 4) 1 X dX7_join_87 rfl ?_
            refine z_callV_v (pc := 89) (cells := 2) (slots := 12) (C := RX7) (T := TX7) (N := 9) (ci := 8) [zR v5] X dX7_join_89 (c_X7_rememberAll_ x13.2 a0 v5) kw_X7_171 rfl rfl ⟨rfl, rfl, ⟨by decide, by decide⟩, ⟨by decide, by decide⟩⟩ (Nat.le_of_ble_eq_true rfl) rfl (fun x14 => ?_)
            refine z_aload_n (pc := 92) (i := 0) 3 X dX7_join_92 rfl rfl ?_
            refine z_aload_n (pc := 93) (i := 3) 2 X dX7_join_93 rfl rfl ?_
            refine z_aload (pc := 94) (i := 4) 1 X dX7_join_94 rfl ?_
            refine z_callV_v (pc := 96) (cells := 2) (slots := 12) (C := RX7) (T := TX7) (N := 9) (ci := 8) [zR v2, zR v5] X dX7_join_96 (c_X7_moveDoors x14 a0 v2 v5) kw_X7_173 rfl rfl ⟨rfl, rfl, ⟨by decide, by decide⟩, ⟨by decide, by decide⟩⟩ (Nat.le_of_ble_eq_true rfl) rfl (fun x15 => ?_)
            refine z_aload_n (pc := 99) (i := 3) 2 X dX7_join_99 rfl rfl ?_
            refine z_aload_n (pc := 100) (i := 0) 3 X dX7_join_100 rfl rfl ?_
            refine z_getR (pc := 101) (C := RX7) (T := TX7) (N := 9) (ci := 8) 3 X dX7_join_101 inz_X7 rfl (by decide) fw_X7_31 (fun v16 => ?_)
            refine z_getI (pc := 104) (C := RX1) (T := TX1) (N := 7) (ci := 3) 6 X dX7_join_104 inz_X1 rfl (by decide) fw_X7_153 (fun v17 => ?_)
            refine z_putI (pc := 107) (C := RX6) (T := TX6) (N := 8) (ci := 7) 7 X dX7_join_107 inz_X6 tyX6_ok nmX6 rfl (by decide) fw_X7_156 rfl rfl (fun h18 => ?_)
            refine z_aload_n (pc := 110) (i := 3) 2 X dX7_join_110 rfl rfl ?_
            refine z_iload (pc := 111) (i := 5) 0 X dX7_join_111 rfl ?_
            refine z_putI (pc := 113) (C := RX6) (T := TX6) (N := 8) (ci := 7) 3 X dX7_join_113 inz_X6 tyX6_ok nmX6 rfl (by decide) fw_X7_136 rfl rfl (fun h19 => ?_)
            refine z_aload (pc := 116) (i := 4) 1 X dX7_join_116 rfl ?_
            refine z_iconst (pc := 118) (z := 1) X dX7_join_118 rfl ⟨by decide, by decide⟩ ?_
            refine z_putZ (pc := 119) (C := RX6) (T := TX6) (N := 8) (ci := 7) 6 X dX7_join_119 inz_X6 tyX6_ok nmX6 rfl (by decide) fw_X7_176 rfl rfl (fun h20 => ?_)
            refine z_iload (pc := 122) (i := 5) 0 X dX7_join_122 rfl ?_
            refine z_fin (fun e9 => ?_)
            subst e9
            exact hret _ _ _ _ _ rfl (by decide) (by decide) dX7_join_124 trivial
          · refine z_fin (fun e9 => ?_)
            subst e9
            exact hnew 2 12 76 _ 2 86 151 90 "a door could not come" 9 6 rfl dX7_join_76 dX7_join_79 (Or.inl ⟨dX7_join_80, rfl⟩) dX7_join_82 rfl dX7_join_85 (zin (zt2 115 (by decide +kernel)) rfl) (zin (zt1 12 (by decide +kernel)) rfl) rfl (zt3 233 (by decide +kernel)) thr_90 (by decide) (by decide) (by decide) ⟨by decide, by decide⟩ ⟨by decide, by decide⟩
        · refine z_fin (fun e9 => ?_)
          subst e9
          exact hnew 2 12 39 _ 0 58 161 62 "the same street, or too long" 9 6 rfl dX7_join_39 dX7_join_42 (Or.inl ⟨dX7_join_43, rfl⟩) dX7_join_45 rfl dX7_join_48 (zin (zt2 8 (by decide +kernel)) rfl) (zin (zt1 9 (by decide +kernel)) rfl) rfl (zt4 9 (by decide +kernel)) thr_62 (by decide) (by decide) (by decide) ⟨by decide, by decide⟩ ⟨by decide, by decide⟩
    · have hz9 : x4 = Sum.inr k6 := hz9
      subst hz9
      refine z_fin (fun e9 => ?_)
      subst e9
      exact hthr _ _ _ _ _ rfl (by decide) (by decide)
  · have hz9 : x1 = Sum.inr k3 := hz9
    subst hz9
    refine z_fin (fun e9 => ?_)
    subst e9
    exact hthr _ _ _ _ _ rfl (by decide) (by decide)
def X7_leadingTo_b14 (p3 : Option Nat) (p4 : Option Nat) (p5 : Int) (h7 : zH) (s6 : Int × Int) : Option ((Int × Int) ⊕ (Int)) :=
  if p5 ≤ s6.2 then
    some (Sum.inr (s6.1))
  else
    (zaR h7 6 p4 s6.2).bind fun v9 =>
    if v9 = none then
      (zchk (s6.2 + 1)).bind fun v10 =>
      some (Sum.inl (s6.1, v10))
    else
      if v9 = p3 then
        (zchk (s6.2 + 1)).bind fun v11 =>
        some (Sum.inl (s6.1, v11))
      else
        (X7_endOf h7 v9).bind fun x12 =>
        if x12 = p3 then
          (zchk (s6.1 + 1)).bind fun v14 =>
          (zchk (s6.2 + 1)).bind fun v15 =>
          some (Sum.inl (v14, v15))
        else
          (zchk (s6.2 + 1)).bind fun v13 =>
          some (Sum.inl (s6.1, v13))
def X7_leadingTo (hp : zH) (a0 : Option Nat) (a1 : Option Nat) : Option Int :=
  (zgR hp a0 8 1).bind fun v1 =>
  (zlen hp v1).bind fun v2 =>
  (zloop (X7_leadingTo_b14 a1 v1 v2 hp) zN (0, 0)).bind fun e8 =>
  some e8
set_option maxRecDepth 20000 in
theorem c_X7_leadingTo (hp : zH) (a0 : Option Nat) (a1 : Option Nat) : ∀ r, X7_leadingTo hp a0 a1 = some r → zMi yX7_leadingTo (Cond.code yX7_leadingTo cX7_leadingTo 7 (some .int) :: zALL) { frames := 1, cells := 0, slots := 0, locals := 22 } 0 0 [zR a0, zR a1] hp r hp := by
  refine zMi_of (own := RX7) (cc := cX7_leadingTo) (maxL := 7) (res := fun r => r) (hp2 := fun _ => hp) (by decide) rfl (Or.inl rfl) (by exact Nat.le_of_ble_eq_true rfl) ?_
  intro K r0 X hnL hret
  have hN : ∀ i, i < 7 → i < K.2.2.2.2.2.2.2.2.2.2.2.2.2.2.1 := by rw [hnL]; exact fun _ h => h
  show zS _ _ (zJ K 0 0 0 [(0, zR a0), (1, zR a1)] [] hp)
  unfold X7_leadingTo
  refine z_iconst (pc := 0) (z := 0) X dX7_leadingTo_0 rfl ⟨by decide, by decide⟩ ?_
  refine z_istore_n (pc := 1) (i := 2) (lv' := [(2, zI 0), (0, zR a0), (1, zR a1)]) X dX7_leadingTo_1 rfl (hN _ (by decide)) rfl ?_
  refine z_aload_n (pc := 2) (i := 0) 1 X dX7_leadingTo_2 rfl rfl ?_
  refine z_getR (pc := 3) (C := RX7) (T := TX7) (N := 9) (ci := 8) 1 X dX7_leadingTo_3 inz_X7 rfl (by decide) fw_X7_17 (fun v1 => ?_)
  refine z_astore_n (pc := 6) (i := 3) (lv' := [(3, zR v1), (2, zI 0), (0, zR a0), (1, zR a1)]) X dX7_leadingTo_6 rfl (hN _ (by decide)) rfl ?_
  refine z_aload_n (pc := 7) (i := 3) 0 X dX7_leadingTo_7 rfl rfl ?_
  refine z_alen (pc := 8) X dX7_leadingTo_8 (fun v2 => ?_)
  refine z_istore (pc := 9) (i := 4) (lv' := [(4, zI v2), (3, zR v1), (2, zI 0), (0, zR a0), (1, zR a1)]) X dX7_leadingTo_9 (hN _ (by decide)) rfl ?_
  refine z_iconst (pc := 11) (z := 0) X dX7_leadingTo_11 rfl ⟨by decide, by decide⟩ ?_
  refine z_istore (pc := 12) (i := 5) (lv' := [(5, zI 0), (4, zI v2), (3, zR v1), (2, zI 0), (0, zR a0), (1, zR a1)]) X dX7_leadingTo_12 (hN _ (by decide)) rfl ?_
  refine z_pick [5, 3, 2, 1, 0] (lv' := [(1, zR a1), (2, zI 0), (3, zR v1), (4, zI v2), (5, zI 0)]) rfl ?_
  refine z_bind (z_loop (body := X7_leadingTo_b14 a1 v1 v2 hp) (fun s6 : Int × Int => zJ K 0 0 14 [(1, zR a1), (2, zI s6.1), (3, zR v1), (4, zI v2), (5, zI s6.2)] [] hp) (fun e8 : Int => zJ K 0 0 56 [(2, zI e8)] [] hp) (fun s6 => ?_) zN (0, 0)) (fun e8 => ?_)
  · unfold X7_leadingTo_b14
    refine z_iload (pc := 14) (i := 5) 4 X dX7_leadingTo_14 rfl ?_
    refine z_iload (pc := 16) (i := 4) 3 X dX7_leadingTo_16 rfl ?_
    refine z_icmp_ge (pc := 18) 56 X dX7_leadingTo_18 (by decide) (fun _ => ?_) (fun _ => ?_)
    · refine z_pick [1] (lv' := [(2, zI s6.1)]) rfl ?_
      exact z_exit
    · refine z_aload_n (pc := 21) (i := 3) 2 X dX7_leadingTo_21 rfl rfl ?_
      refine z_iload (pc := 22) (i := 5) 4 X dX7_leadingTo_22 rfl ?_
      refine z_aaload6 (pc := 24) X dX7_leadingTo_24 (fun v9 => ?_)
      refine z_astore (pc := 25) (i := 6) (lv' := [(6, zR v9), (1, zR a1), (2, zI s6.1), (3, zR v1), (4, zI v2), (5, zI s6.2)]) X dX7_leadingTo_25 (hN _ (by decide)) rfl ?_
      refine z_aload (pc := 27) (i := 6) 0 X dX7_leadingTo_27 rfl ?_
      refine z_ifnull (pc := 29) 50 X dX7_leadingTo_29 (by decide) (fun _ => ?_) (fun _ => ?_)
      · refine z_iinc (pc := 50) (i := 5) (n := 1) (lv' := fun v10 => [(5, zI v10), (6, zR v9), (1, zR a1), (2, zI s6.1), (3, zR v1), (4, zI v2)]) 5 X dX7_leadingTo_50 rfl (hN _ (by decide)) (fun _ => rfl) (fun v10 _ _ => ?_)
        refine z_goto (pc := 53) 14 X dX7_leadingTo_53 (by decide) ?_
        refine z_pick [2, 3, 4, 5, 0] (lv' := [(1, zR a1), (2, zI s6.1), (3, zR v1), (4, zI v2), (5, zI v10)]) rfl ?_
        exact z_back
      · refine z_aload (pc := 32) (i := 6) 0 X dX7_leadingTo_32 rfl ?_
        refine z_aload_n (pc := 34) (i := 1) 1 X dX7_leadingTo_34 rfl rfl ?_
        refine z_acmp_eq (pc := 35) 50 X dX7_leadingTo_35 (by decide) (fun _ => ?_) (fun _ => ?_)
        · refine z_iinc (pc := 50) (i := 5) (n := 1) (lv' := fun v11 => [(5, zI v11), (6, zR v9), (1, zR a1), (2, zI s6.1), (3, zR v1), (4, zI v2)]) 5 X dX7_leadingTo_50 rfl (hN _ (by decide)) (fun _ => rfl) (fun v11 _ _ => ?_)
          refine z_goto (pc := 53) 14 X dX7_leadingTo_53 (by decide) ?_
          refine z_pick [2, 3, 4, 5, 0] (lv' := [(1, zR a1), (2, zI s6.1), (3, zR v1), (4, zI v2), (5, zI v11)]) rfl ?_
          exact z_back
        · refine z_aload (pc := 38) (i := 6) 0 X dX7_leadingTo_38 rfl ?_
          refine z_callS_q (pc := 40) (cells := 0) (slots := 0) [zR v9] X dX7_leadingTo_40 (c_X7_endOf hp v9) kw_X7_281 rfl ⟨rfl, rfl, ⟨by decide, by decide⟩, ⟨by decide, by decide⟩⟩ (Nat.le_of_ble_eq_true rfl) rfl (fun x12 => ?_)
          refine z_aload_n (pc := 43) (i := 1) 1 X dX7_leadingTo_43 rfl rfl ?_
          refine z_acmp_ne (pc := 44) 50 X dX7_leadingTo_44 (by decide) (fun _ => ?_) (fun _ => ?_)
          · refine z_iinc (pc := 50) (i := 5) (n := 1) (lv' := fun v13 => [(5, zI v13), (6, zR v9), (1, zR a1), (2, zI s6.1), (3, zR v1), (4, zI v2)]) 5 X dX7_leadingTo_50 rfl (hN _ (by decide)) (fun _ => rfl) (fun v13 _ _ => ?_)
            refine z_goto (pc := 53) 14 X dX7_leadingTo_53 (by decide) ?_
            refine z_pick [2, 3, 4, 5, 0] (lv' := [(1, zR a1), (2, zI s6.1), (3, zR v1), (4, zI v2), (5, zI v13)]) rfl ?_
            exact z_back
          · refine z_iinc (pc := 47) (i := 2) (n := 1) (lv' := fun v14 => [(2, zI v14), (6, zR v9), (1, zR a1), (3, zR v1), (4, zI v2), (5, zI s6.2)]) 2 X dX7_leadingTo_47 rfl (hN _ (by decide)) (fun _ => rfl) (fun v14 _ _ => ?_)
            refine z_iinc (pc := 50) (i := 5) (n := 1) (lv' := fun v15 => [(5, zI v15), (2, zI v14), (6, zR v9), (1, zR a1), (3, zR v1), (4, zI v2)]) 5 X dX7_leadingTo_50 rfl (hN _ (by decide)) (fun _ => rfl) (fun v15 _ _ => ?_)
            refine z_goto (pc := 53) 14 X dX7_leadingTo_53 (by decide) ?_
            refine z_pick [3, 1, 4, 5, 0] (lv' := [(1, zR a1), (2, zI v14), (3, zR v1), (4, zI v2), (5, zI v15)]) rfl ?_
            exact z_back
  · refine z_iload_n (pc := 56) (i := 2) 0 X dX7_leadingTo_56 rfl rfl ?_
    refine z_fin (fun e9 => ?_)
    subst e9
    exact hret _ _ _ _ (by decide) (by decide) dX7_leadingTo_57 trivial
