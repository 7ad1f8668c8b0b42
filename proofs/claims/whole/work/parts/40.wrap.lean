/-! the law's own callers (by program) -/
theorem kw_L_66 : zkV RL 66 RX7 yX7_address cX7_address 5 (some .int) 2 := ⟨⟨zin (zt4 37 (by decide +kernel)) rfl, zin (zt4 40 (by decide +kernel)) rfl, zin (zt1 1 (by decide +kernel)) rfl, ⟨by decide, by decide, by decide +kernel⟩⟩, zin (zt4 38 (by decide +kernel)) rfl, zin (zt4 39 (by decide +kernel)) rfl⟩
theorem kw_L_95 : zkV RL 95 RX7 yX7_clashes cX7_clashes 3 (some .int) 1 := ⟨⟨zin (zt4 139 (by decide +kernel)) rfl, zin (zt4 142 (by decide +kernel)) rfl, zin (zt1 1 (by decide +kernel)) rfl, ⟨by decide, by decide, by decide +kernel⟩⟩, zin (zt4 140 (by decide +kernel)) rfl, zin (zt4 141 (by decide +kernel)) rfl⟩
theorem kw_L_46 : zkV RL 46 RX7 yX7_corner cX7_corner 8 (some .int) 4 := ⟨⟨zin (zt3 159 (by decide +kernel)) rfl, zin (zt3 162 (by decide +kernel)) rfl, zin (zt1 1 (by decide +kernel)) rfl, ⟨by decide, by decide, by decide +kernel⟩⟩, zin (zt3 160 (by decide +kernel)) rfl, zin (zt3 161 (by decide +kernel)) rfl⟩
theorem kw_L_63 : zkV RL 63 RX7 yX7_day cX7_day 2 (some .int) 1 := ⟨⟨zin (zt4 29 (by decide +kernel)) rfl, zin (zt4 32 (by decide +kernel)) rfl, zin (zt1 1 (by decide +kernel)) rfl, ⟨by decide, by decide, by decide +kernel⟩⟩, zin (zt4 30 (by decide +kernel)) rfl, zin (zt4 31 (by decide +kernel)) rfl⟩
theorem kw_L_42 : zkV RL 42 RX7 yX7_door cX7_door 7 (some .int) 3 := ⟨⟨zin (zt3 45 (by decide +kernel)) rfl, zin (zt3 48 (by decide +kernel)) rfl, zin (zt1 1 (by decide +kernel)) rfl, ⟨by decide, by decide, by decide +kernel⟩⟩, zin (zt3 46 (by decide +kernel)) rfl, zin (zt3 47 (by decide +kernel)) rfl⟩
theorem kw_L_86 : zkV RL 86 RX7 yX7_doors cX7_doors 2 (some .int) 1 := ⟨⟨zin (zt4 110 (by decide +kernel)) rfl, zin (zt4 113 (by decide +kernel)) rfl, zin (zt1 1 (by decide +kernel)) rfl, ⟨by decide, by decide, by decide +kernel⟩⟩, zin (zt4 111 (by decide +kernel)) rfl, zin (zt4 112 (by decide +kernel)) rfl⟩
theorem kw_L_77 : zkV RL 77 RX7 yX7_find cX7_find 3 (some .int) 1 := ⟨⟨zin (zt4 60 (by decide +kernel)) rfl, zin (zt4 63 (by decide +kernel)) rfl, zin (zt1 1 (by decide +kernel)) rfl, ⟨by decide, by decide, by decide +kernel⟩⟩, zin (zt4 61 (by decide +kernel)) rfl, zin (zt4 62 (by decide +kernel)) rfl⟩
theorem kw_L_98 : zkV RL 98 RX7 yX7_goneShare cX7_goneShare 7 (some .float) 0 := ⟨⟨zin (zt4 164 (by decide +kernel)) rfl, zin (zt4 167 (by decide +kernel)) rfl, zin (zt1 1 (by decide +kernel)) rfl, ⟨by decide, by decide, by decide +kernel⟩⟩, zin (zt4 165 (by decide +kernel)) rfl, zin (zt4 166 (by decide +kernel)) rfl⟩
theorem kw_L_73 : zkV RL 73 RX7 yX7_isGone cX7_isGone 2 (some .boolean) 1 := ⟨⟨zin (zt4 53 (by decide +kernel)) rfl, zin (zt4 56 (by decide +kernel)) rfl, zin (zt1 1 (by decide +kernel)) rfl, ⟨by decide, by decide, by decide +kernel⟩⟩, zin (zt4 54 (by decide +kernel)) rfl, zin (zt4 55 (by decide +kernel)) rfl⟩
theorem kw_L_60 : zkV RL 60 RX7 yX7_join cX7_join 6 (some .int) 2 := ⟨⟨zin (zt4 5 (by decide +kernel)) rfl, zin (zt4 8 (by decide +kernel)) rfl, zin (zt1 1 (by decide +kernel)) rfl, ⟨by decide, by decide, by decide +kernel⟩⟩, zin (zt4 6 (by decide +kernel)) rfl, zin (zt4 7 (by decide +kernel)) rfl⟩
theorem kw_L_32 : zkV RL 32 RX7 yX7_letter cX7_letter 7 (some .char) 3 := ⟨⟨zin (zt3 10 (by decide +kernel)) rfl, zin (zt3 13 (by decide +kernel)) rfl, zin (zt1 1 (by decide +kernel)) rfl, ⟨by decide, by decide, by decide +kernel⟩⟩, zin (zt3 11 (by decide +kernel)) rfl, zin (zt3 12 (by decide +kernel)) rfl⟩
theorem kw_L_104 : zkV RL 104 RX7 yX7_meanDoors cX7_meanDoors 7 (some .double) 0 := ⟨⟨zin (zt4 174 (by decide +kernel)) rfl, zin (zt4 177 (by decide +kernel)) rfl, zin (zt1 1 (by decide +kernel)) rfl, ⟨by decide, by decide, by decide +kernel⟩⟩, zin (zt4 175 (by decide +kernel)) rfl, zin (zt4 176 (by decide +kernel)) rfl⟩
theorem kw_L_50 : zkV RL 50 RX7 yX7_merge cX7_merge 5 (some .int) 2 := ⟨⟨zin (zt3 176 (by decide +kernel)) rfl, zin (zt3 179 (by decide +kernel)) rfl, zin (zt1 1 (by decide +kernel)) rfl, ⟨by decide, by decide, by decide +kernel⟩⟩, zin (zt3 177 (by decide +kernel)) rfl, zin (zt3 178 (by decide +kernel)) rfl⟩
theorem kw_L_54 : zkV RL 54 RX7 yX7_remove cX7_remove 3 (some .int) 1 := ⟨⟨zin (zt3 197 (by decide +kernel)) rfl, zin (zt3 200 (by decide +kernel)) rfl, zin (zt1 1 (by decide +kernel)) rfl, ⟨by decide, by decide, by decide +kernel⟩⟩, zin (zt3 198 (by decide +kernel)) rfl, zin (zt3 199 (by decide +kernel)) rfl⟩
theorem kw_L_23 : zkV RL 23 RX7 yX7_rename cX7_rename 3 (some .int) 1 := ⟨⟨zin (zt2 199 (by decide +kernel)) rfl, zin (zt2 202 (by decide +kernel)) rfl, zin (zt1 1 (by decide +kernel)) rfl, ⟨by decide, by decide, by decide +kernel⟩⟩, zin (zt2 200 (by decide +kernel)) rfl, zin (zt2 201 (by decide +kernel)) rfl⟩
theorem kw_L_57 : zkV RL 57 RX7 yX7_renumber cX7_renumber 3 (some .int) 1 := ⟨⟨zin (zt3 205 (by decide +kernel)) rfl, zin (zt3 208 (by decide +kernel)) rfl, zin (zt1 1 (by decide +kernel)) rfl, ⟨by decide, by decide, by decide +kernel⟩⟩, zin (zt3 206 (by decide +kernel)) rfl, zin (zt3 207 (by decide +kernel)) rfl⟩
theorem kw_L_80 : zkV RL 80 RX7 yX7_send cX7_send 5 (some .int) 1 := ⟨⟨zin (zt4 81 (by decide +kernel)) rfl, zin (zt4 84 (by decide +kernel)) rfl, zin (zt1 1 (by decide +kernel)) rfl, ⟨by decide, by decide, by decide +kernel⟩⟩, zin (zt4 82 (by decide +kernel)) rfl, zin (zt4 83 (by decide +kernel)) rfl⟩
theorem kw_L_92 : zkV RL 92 RX7 yX7_steps cX7_steps 7 (some .int) 1 := ⟨⟨zin (zt4 129 (by decide +kernel)) rfl, zin (zt4 132 (by decide +kernel)) rfl, zin (zt1 1 (by decide +kernel)) rfl, ⟨by decide, by decide, by decide +kernel⟩⟩, zin (zt4 130 (by decide +kernel)) rfl, zin (zt4 131 (by decide +kernel)) rfl⟩
theorem kw_L_17 : zkV RL 17 RX7 yX7_street cX7_street 5 (some .int) 3 := ⟨⟨zin (zt2 103 (by decide +kernel)) rfl, zin (zt2 106 (by decide +kernel)) rfl, zin (zt1 1 (by decide +kernel)) rfl, ⟨by decide, by decide, by decide +kernel⟩⟩, zin (zt2 104 (by decide +kernel)) rfl, zin (zt2 105 (by decide +kernel)) rfl⟩
theorem kw_L_70 : zkV RL 70 RX7 yX7_streetOf cX7_streetOf 5 (some .int) 2 := ⟨⟨zin (zt4 45 (by decide +kernel)) rfl, zin (zt4 48 (by decide +kernel)) rfl, zin (zt1 1 (by decide +kernel)) rfl, ⟨by decide, by decide, by decide +kernel⟩⟩, zin (zt4 46 (by decide +kernel)) rfl, zin (zt4 47 (by decide +kernel)) rfl⟩
theorem kw_L_29 : zkV RL 29 RX7 yX7_translate cX7_translate 3 (some .int) 1 := ⟨⟨zin (zt3 1 (by decide +kernel)) rfl, zin (zt3 4 (by decide +kernel)) rfl, zin (zt1 1 (by decide +kernel)) rfl, ⟨by decide, by decide, by decide +kernel⟩⟩, zin (zt3 2 (by decide +kernel)) rfl, zin (zt3 3 (by decide +kernel)) rfl⟩
theorem kw_L_7 : zkV RL 7 RX7 yX7_type cX7_type 3 (some .int) 1 := ⟨⟨zin (zt2 4 (by decide +kernel)) rfl, zin (zt2 7 (by decide +kernel)) rfl, zin (zt1 1 (by decide +kernel)) rfl, ⟨by decide, by decide, by decide +kernel⟩⟩, zin (zt2 5 (by decide +kernel)) rfl, zin (zt2 6 (by decide +kernel)) rfl⟩
theorem kw_L_83 : zkV RL 83 RX7 yX7_until cX7_until 3 (some .int) 1 := ⟨⟨zin (zt4 98 (by decide +kernel)) rfl, zin (zt4 101 (by decide +kernel)) rfl, zin (zt1 1 (by decide +kernel)) rfl, ⟨by decide, by decide, by decide +kernel⟩⟩, zin (zt4 99 (by decide +kernel)) rfl, zin (zt4 100 (by decide +kernel)) rfl⟩
theorem kw_L_89 : zkV RL 89 RX7 yX7_walk cX7_walk 3 (some .int) 2 := ⟨⟨zin (zt4 117 (by decide +kernel)) rfl, zin (zt4 120 (by decide +kernel)) rfl, zin (zt1 1 (by decide +kernel)) rfl, ⟨by decide, by decide, by decide +kernel⟩⟩, zin (zt4 118 (by decide +kernel)) rfl, zin (zt4 119 (by decide +kernel)) rfl⟩
theorem kw_L_38 : zkV RL 38 RX7 yX7_way cX7_way 6 (some .char) 3 := ⟨⟨zin (zt3 37 (by decide +kernel)) rfl, zin (zt3 40 (by decide +kernel)) rfl, zin (zt1 1 (by decide +kernel)) rfl, ⟨by decide, by decide, by decide +kernel⟩⟩, zin (zt3 38 (by decide +kernel)) rfl, zin (zt3 39 (by decide +kernel)) rfl⟩
def L_address (hp : zH) (a0 : Option Nat) (a1 : Int) (a2 : Int) (a3 : Option Nat) : Option (Int × zH) :=
  ((zobj hp a0 8).bind fun _ => X7_address hp a0 a1 a2).bind fun x1 =>
  match x1 with
  | Sum.inl v2 =>
    (zsJ hp a3 0 ((Int64.ofInt v2))).bind fun h4 =>
    some (0, h4)
  | Sum.inr k3 =>
    if k3 = 3 then
      some (1, hp)
    else
      if k3 = 4 then
        some (2, hp)
      else
        none
set_option maxRecDepth 20000 in
theorem c_L_address (hp : zH) (a0 : Option Nat) (a1 : Int) (a2 : Int) (a3 : Option Nat) : ∀ r, L_address hp a0 a1 a2 a3 = some r → zMw yL_address (Cond.codeWith yL_address cL_address 5 (some .int) [(0, 10, 13, 27), (0, 10, 17, 36)] :: zALL) { frames := 8, cells := 2, slots := 12, locals := 128 } 2 12 [zR a0, zI a1, zI a2, zR a3] hp r.1 r.2 := by
  refine zMw_of (own := RL) (cc := cL_address) (maxL := 5) (ε := Int × zH) (res := fun r => r.1) (hp2 := fun r => r.2) (by decide) rfl (by exact Nat.le_of_ble_eq_true rfl) ?_
  intro K r0 X hnL hTab hret
  have hN : ∀ i, i < 5 → i < K.2.2.2.2.2.2.2.2.2.2.2.2.2.2.1 := by rw [hnL]; exact fun _ h => h
  show zS _ _ (zJ K 0 0 0 [(0, zR a0), (1, zI a1), (2, zI a2), (3, zR a3)] [] hp)
  unfold L_address
  refine z_aload_n (pc := 0) (i := 3) 3 X dL_address_0 rfl rfl ?_
  refine z_iconst (pc := 1) (z := 0) X dL_address_1 rfl ⟨by decide, by decide⟩ ?_
  refine z_aload_n (pc := 2) (i := 0) 0 X dL_address_2 rfl rfl ?_
  refine z_iload_n (pc := 3) (i := 1) 1 X dL_address_3 rfl rfl ?_
  refine z_iload_n (pc := 4) (i := 2) 2 X dL_address_4 rfl rfl ?_
  refine z_callXV_i (pc := 5) (cells := 0) (slots := 0) (C := RX7) (T := TX7) (N := 9) (ci := 8) [zI a1, zI a2] X dL_address_5 (c_X7_address hp a0 a1 a2) kw_L_66 rfl rfl ⟨rfl, rfl, ⟨by decide, by decide⟩, ⟨by decide, by decide⟩⟩ (Nat.le_of_ble_eq_true rfl) rfl (fun x1 v2 hz9 => ?_) (fun x1 k3 hz9 => ?_)
  · have hz9 : x1 = Sum.inl v2 := hz9
    subst hz9
    refine z_i2l (pc := 8) X dL_address_8 ?_
    refine z_lastore (pc := 9) X dL_address_9 (fun h4 => ?_)
    refine z_goto (pc := 10) 21 X dL_address_10 (by decide) ?_
    refine z_iconst (pc := 21) (z := 0) X dL_address_21 rfl ⟨by decide, by decide⟩ ?_
    refine z_fin (fun e9 => ?_)
    subst e9
    exact hret _ _ _ _ (by decide) (by decide) dL_address_22
  · have hz9 : x1 = Sum.inr k3 := hz9
    subst hz9
    refine z_ite _ (fun hk9 => ?_) (fun _ => ?_)
    · subst hk9
      refine z_catch 3 (pc := 5) [] [(0, 10, 17, 36)] 0 10 13 27 X hTab rfl (fun z hz => by cases hz) (by decide) (by decide) (zin (zt2 175 (by decide +kernel)) rfl) (zt2 209 (by decide +kernel)) (fun q6 => ?_)
      refine z_astoreA (pc := 13) (i := 4) (lv' := [(4, zA q6), (0, zR a0), (1, zI a1), (2, zI a2), (3, zR a3)]) X dL_address_13 (hN _ (by decide)) rfl ?_
      refine z_iconst (pc := 15) (z := 1) X dL_address_15 rfl ⟨by decide, by decide⟩ ?_
      refine z_fin (fun e9 => ?_)
      subst e9
      exact hret _ _ _ _ (by decide) (by decide) dL_address_16
    · refine z_ite _ (fun hk9 => ?_) (fun _ => ?_)
      · subst hk9
        refine z_catch 4 (pc := 5) [(0, 10, 13, 27)] [] 0 10 17 36 X hTab rfl (fun z hz => by
            simp only [List.mem_cons, List.not_mem_nil, or_false] at hz
            rcases hz with rfl
            · exact ⟨by decide, "java/lang/IndexOutOfBoundsException", zin (zt2 175 (by decide +kernel)) rfl, by decide +kernel⟩) (by decide) (by decide) (zin (zt3 9 (by decide +kernel)) rfl) (zt3 16 (by decide +kernel)) (fun q5 => ?_)
        refine z_astoreA (pc := 17) (i := 4) (lv' := [(4, zA q5), (0, zR a0), (1, zI a1), (2, zI a2), (3, zR a3)]) X dL_address_17 (hN _ (by decide)) rfl ?_
        refine z_iconst (pc := 19) (z := 2) X dL_address_19 rfl ⟨by decide, by decide⟩ ?_
        refine z_fin (fun e9 => ?_)
        subst e9
        exact hret _ _ _ _ (by decide) (by decide) dL_address_20
      · exact z_none
def L_clashes (hp : zH) (a0 : Option Nat) (a1 : Int) (a2 : Option Nat) : Option (Int × zH) :=
  ((zobj hp a0 8).bind fun _ => X7_clashes hp a0 a1).bind fun x1 =>
  match x1 with
  | (Sum.inl v2, h4) =>
    (zsJ h4 a2 0 ((Int64.ofInt v2))).bind fun h5 =>
    some (0, h5)
  | (Sum.inr k3, h4) =>
    if k3 = 3 then
      some (1, h4)
    else
      none
set_option maxRecDepth 20000 in
theorem c_L_clashes (hp : zH) (a0 : Option Nat) (a1 : Int) (a2 : Option Nat) : ∀ r, L_clashes hp a0 a1 a2 = some r → zMw yL_clashes (Cond.codeWith yL_clashes cL_clashes 4 (some .int) [(0, 9, 12, 27)] :: zALL) { frames := 8, cells := 1, slots := 6, locals := 125 } 1 6 [zR a0, zI a1, zR a2] hp r.1 r.2 := by
  refine zMw_of (own := RL) (cc := cL_clashes) (maxL := 4) (ε := Int × zH) (res := fun r => r.1) (hp2 := fun r => r.2) (by decide) rfl (by exact Nat.le_of_ble_eq_true rfl) ?_
  intro K r0 X hnL hTab hret
  have hN : ∀ i, i < 4 → i < K.2.2.2.2.2.2.2.2.2.2.2.2.2.2.1 := by rw [hnL]; exact fun _ h => h
  show zS _ _ (zJ K 0 0 0 [(0, zR a0), (1, zI a1), (2, zR a2)] [] hp)
  unfold L_clashes
  refine z_aload_n (pc := 0) (i := 2) 2 X dL_clashes_0 rfl rfl ?_
  refine z_iconst (pc := 1) (z := 0) X dL_clashes_1 rfl ⟨by decide, by decide⟩ ?_
  refine z_aload_n (pc := 2) (i := 0) 0 X dL_clashes_2 rfl rfl ?_
  refine z_iload_n (pc := 3) (i := 1) 1 X dL_clashes_3 rfl rfl ?_
  refine z_callXV_i (pc := 4) (cells := 0) (slots := 0) (C := RX7) (T := TX7) (N := 9) (ci := 8) [zI a1] X dL_clashes_4 (c_X7_clashes hp a0 a1) kw_L_95 rfl rfl ⟨rfl, rfl, ⟨by decide, by decide⟩, ⟨by decide, by decide⟩⟩ (Nat.le_of_ble_eq_true rfl) rfl (fun x1 v2 hz9 => ?_) (fun x1 k3 hz9 => ?_)
  · obtain ⟨x1, h4⟩ := x1
    have hz9 : x1 = Sum.inl v2 := hz9
    subst hz9
    refine z_i2l (pc := 7) X dL_clashes_7 ?_
    refine z_lastore (pc := 8) X dL_clashes_8 (fun h5 => ?_)
    refine z_goto (pc := 9) 15 X dL_clashes_9 (by decide) ?_
    refine z_iconst (pc := 15) (z := 0) X dL_clashes_15 rfl ⟨by decide, by decide⟩ ?_
    refine z_fin (fun e9 => ?_)
    subst e9
    exact hret _ _ _ _ (by decide) (by decide) dL_clashes_16
  · obtain ⟨x1, h4⟩ := x1
    have hz9 : x1 = Sum.inr k3 := hz9
    subst hz9
    refine z_ite _ (fun hk9 => ?_) (fun _ => ?_)
    · subst hk9
      refine z_catch 3 (pc := 4) [] [] 0 9 12 27 X hTab rfl (fun z hz => by cases hz) (by decide) (by decide) (zin (zt2 175 (by decide +kernel)) rfl) (zt2 209 (by decide +kernel)) (fun q6 => ?_)
      refine z_astore_nA (pc := 12) (i := 3) (lv' := [(3, zA q6), (0, zR a0), (1, zI a1), (2, zR a2)]) X dL_clashes_12 rfl (hN _ (by decide)) rfl ?_
      refine z_iconst (pc := 13) (z := 1) X dL_clashes_13 rfl ⟨by decide, by decide⟩ ?_
      refine z_fin (fun e9 => ?_)
      subst e9
      exact hret _ _ _ _ (by decide) (by decide) dL_clashes_14
    · exact z_none
def L_corner (hp : zH) (a0 : Option Nat) (a1 : Int) (a2 : Int) (a3 : Int) (a4 : Int) (a5 : Option Nat) : Option (Int × zH) :=
  ((zobj hp a0 8).bind fun _ => X7_corner hp a0 a1 a2 a3 a4).bind fun x1 =>
  match x1 with
  | (Sum.inl v2, h4) =>
    (zsJ h4 a5 0 ((Int64.ofInt v2))).bind fun h5 =>
    some (0, h5)
  | (Sum.inr k3, h4) =>
    if k3 = 0 then
      some (2, h4)
    else
      if k3 = 2 then
        some (3, h4)
      else
        if k3 = 3 then
          some (1, h4)
        else
          none
set_option maxRecDepth 20000 in
theorem c_L_corner (hp : zH) (a0 : Option Nat) (a1 : Int) (a2 : Int) (a3 : Int) (a4 : Int) (a5 : Option Nat) : ∀ r, L_corner hp a0 a1 a2 a3 a4 a5 = some r → zMw yL_corner (Cond.codeWith yL_corner cL_corner 7 (some .int) [(0, 14, 17, 27), (0, 14, 21, 13), (0, 14, 25, 21)] :: zALL) { frames := 8, cells := 4, slots := 23, locals := 153 } 4 23 [zR a0, zI a1, zI a2, zI a3, zI a4, zR a5] hp r.1 r.2 := by
  refine zMw_of (own := RL) (cc := cL_corner) (maxL := 7) (ε := Int × zH) (res := fun r => r.1) (hp2 := fun r => r.2) (by decide) rfl (by exact Nat.le_of_ble_eq_true rfl) ?_
  intro K r0 X hnL hTab hret
  have hN : ∀ i, i < 7 → i < K.2.2.2.2.2.2.2.2.2.2.2.2.2.2.1 := by rw [hnL]; exact fun _ h => h
  show zS _ _ (zJ K 0 0 0 [(0, zR a0), (1, zI a1), (2, zI a2), (3, zI a3), (4, zI a4), (5, zR a5)] [] hp)
  unfold L_corner
  refine z_aload (pc := 0) (i := 5) 5 X dL_corner_0 rfl ?_
  refine z_iconst (pc := 2) (z := 0) X dL_corner_2 rfl ⟨by decide, by decide⟩ ?_
  refine z_aload_n (pc := 3) (i := 0) 0 X dL_corner_3 rfl rfl ?_
  refine z_iload_n (pc := 4) (i := 1) 1 X dL_corner_4 rfl rfl ?_
  refine z_iload_n (pc := 5) (i := 2) 2 X dL_corner_5 rfl rfl ?_
  refine z_iload_n (pc := 6) (i := 3) 3 X dL_corner_6 rfl rfl ?_
  refine z_iload (pc := 7) (i := 4) 4 X dL_corner_7 rfl ?_
  refine z_callXV_i (pc := 9) (cells := 0) (slots := 0) (C := RX7) (T := TX7) (N := 9) (ci := 8) [zI a1, zI a2, zI a3, zI a4] X dL_corner_9 (c_X7_corner hp a0 a1 a2 a3 a4) kw_L_46 rfl rfl ⟨rfl, rfl, ⟨by decide, by decide⟩, ⟨by decide, by decide⟩⟩ (Nat.le_of_ble_eq_true rfl) rfl (fun x1 v2 hz9 => ?_) (fun x1 k3 hz9 => ?_)
  · obtain ⟨x1, h4⟩ := x1
    have hz9 : x1 = Sum.inl v2 := hz9
    subst hz9
    refine z_i2l (pc := 12) X dL_corner_12 ?_
    refine z_lastore (pc := 13) X dL_corner_13 (fun h5 => ?_)
    refine z_goto (pc := 14) 29 X dL_corner_14 (by decide) ?_
    refine z_iconst (pc := 29) (z := 0) X dL_corner_29 rfl ⟨by decide, by decide⟩ ?_
    refine z_fin (fun e9 => ?_)
    subst e9
    exact hret _ _ _ _ (by decide) (by decide) dL_corner_30
  · obtain ⟨x1, h4⟩ := x1
    have hz9 : x1 = Sum.inr k3 := hz9
    subst hz9
    refine z_ite _ (fun hk9 => ?_) (fun _ => ?_)
    · subst hk9
      refine z_catch 0 (pc := 9) [(0, 14, 17, 27)] [(0, 14, 25, 21)] 0 14 21 13 X hTab rfl (fun z hz => by
          simp only [List.mem_cons, List.not_mem_nil, or_false] at hz
          rcases hz with rfl
          · exact ⟨by decide, "java/lang/IndexOutOfBoundsException", zin (zt2 175 (by decide +kernel)) rfl, by decide +kernel⟩) (by decide) (by decide) (zin (zt2 2 (by decide +kernel)) rfl) (zt2 10 (by decide +kernel)) (fun q8 => ?_)
      refine z_astoreA (pc := 21) (i := 6) (lv' := [(6, zA q8), (0, zR a0), (1, zI a1), (2, zI a2), (3, zI a3), (4, zI a4), (5, zR a5)]) X dL_corner_21 (hN _ (by decide)) rfl ?_
      refine z_iconst (pc := 23) (z := 2) X dL_corner_23 rfl ⟨by decide, by decide⟩ ?_
      refine z_fin (fun e9 => ?_)
      subst e9
      exact hret _ _ _ _ (by decide) (by decide) dL_corner_24
    · refine z_ite _ (fun hk9 => ?_) (fun _ => ?_)
      · subst hk9
        refine z_catch 2 (pc := 9) [(0, 14, 17, 27), (0, 14, 21, 13)] [] 0 14 25 21 X hTab rfl (fun z hz => by
            simp only [List.mem_cons, List.not_mem_nil, or_false] at hz
            rcases hz with rfl | rfl
            · exact ⟨by decide, "java/lang/IndexOutOfBoundsException", zin (zt2 175 (by decide +kernel)) rfl, by decide +kernel⟩
            · exact ⟨by decide, "java/lang/IllegalArgumentException", zin (zt2 2 (by decide +kernel)) rfl, by decide +kernel⟩) (by decide) (by decide) (zin (zt2 102 (by decide +kernel)) rfl) (zt2 117 (by decide +kernel)) (fun q7 => ?_)
        refine z_astoreA (pc := 25) (i := 6) (lv' := [(6, zA q7), (0, zR a0), (1, zI a1), (2, zI a2), (3, zI a3), (4, zI a4), (5, zR a5)]) X dL_corner_25 (hN _ (by decide)) rfl ?_
        refine z_iconst (pc := 27) (z := 3) X dL_corner_27 rfl ⟨by decide, by decide⟩ ?_
        refine z_fin (fun e9 => ?_)
        subst e9
        exact hret _ _ _ _ (by decide) (by decide) dL_corner_28
      · refine z_ite _ (fun hk9 => ?_) (fun _ => ?_)
        · subst hk9
          refine z_catch 3 (pc := 9) [] [(0, 14, 21, 13), (0, 14, 25, 21)] 0 14 17 27 X hTab rfl (fun z hz => by cases hz) (by decide) (by decide) (zin (zt2 175 (by decide +kernel)) rfl) (zt2 209 (by decide +kernel)) (fun q6 => ?_)
          refine z_astoreA (pc := 17) (i := 6) (lv' := [(6, zA q6), (0, zR a0), (1, zI a1), (2, zI a2), (3, zI a3), (4, zI a4), (5, zR a5)]) X dL_corner_17 (hN _ (by decide)) rfl ?_
          refine z_iconst (pc := 19) (z := 1) X dL_corner_19 rfl ⟨by decide, by decide⟩ ?_
          refine z_fin (fun e9 => ?_)
          subst e9
          exact hret _ _ _ _ (by decide) (by decide) dL_corner_20
        · exact z_none
def L_day (hp : zH) (a0 : Option Nat) (a1 : Int) (a2 : Option Nat) : Option (Int × zH) :=
  ((zobj hp a0 8).bind fun _ => X7_day hp a0 a1).bind fun x1 =>
  match x1 with
  | (Sum.inl v2, h4) =>
    (zsJ h4 a2 0 ((Int64.ofInt v2))).bind fun h5 =>
    some (0, h5)
  | (Sum.inr k3, h4) =>
    if k3 = 0 then
      some (1, h4)
    else
      none
set_option maxRecDepth 20000 in
theorem c_L_day (hp : zH) (a0 : Option Nat) (a1 : Int) (a2 : Option Nat) : ∀ r, L_day hp a0 a1 a2 = some r → zMw yL_day (Cond.codeWith yL_day cL_day 4 (some .int) [(0, 9, 12, 13)] :: zALL) { frames := 7, cells := 1, slots := 6, locals := 103 } 1 6 [zR a0, zI a1, zR a2] hp r.1 r.2 := by
  refine zMw_of (own := RL) (cc := cL_day) (maxL := 4) (ε := Int × zH) (res := fun r => r.1) (hp2 := fun r => r.2) (by decide) rfl (by exact Nat.le_of_ble_eq_true rfl) ?_
  intro K r0 X hnL hTab hret
  have hN : ∀ i, i < 4 → i < K.2.2.2.2.2.2.2.2.2.2.2.2.2.2.1 := by rw [hnL]; exact fun _ h => h
  show zS _ _ (zJ K 0 0 0 [(0, zR a0), (1, zI a1), (2, zR a2)] [] hp)
  unfold L_day
  refine z_aload_n (pc := 0) (i := 2) 2 X dL_day_0 rfl rfl ?_
  refine z_iconst (pc := 1) (z := 0) X dL_day_1 rfl ⟨by decide, by decide⟩ ?_
  refine z_aload_n (pc := 2) (i := 0) 0 X dL_day_2 rfl rfl ?_
  refine z_iload_n (pc := 3) (i := 1) 1 X dL_day_3 rfl rfl ?_
  refine z_callXV_i (pc := 4) (cells := 0) (slots := 0) (C := RX7) (T := TX7) (N := 9) (ci := 8) [zI a1] X dL_day_4 (c_X7_day hp a0 a1) kw_L_63 rfl rfl ⟨rfl, rfl, ⟨by decide, by decide⟩, ⟨by decide, by decide⟩⟩ (Nat.le_of_ble_eq_true rfl) rfl (fun x1 v2 hz9 => ?_) (fun x1 k3 hz9 => ?_)
  · obtain ⟨x1, h4⟩ := x1
    have hz9 : x1 = Sum.inl v2 := hz9
    subst hz9
    refine z_i2l (pc := 7) X dL_day_7 ?_
    refine z_lastore (pc := 8) X dL_day_8 (fun h5 => ?_)
    refine z_goto (pc := 9) 15 X dL_day_9 (by decide) ?_
    refine z_iconst (pc := 15) (z := 0) X dL_day_15 rfl ⟨by decide, by decide⟩ ?_
    refine z_fin (fun e9 => ?_)
    subst e9
    exact hret _ _ _ _ (by decide) (by decide) dL_day_16
  · obtain ⟨x1, h4⟩ := x1
    have hz9 : x1 = Sum.inr k3 := hz9
    subst hz9
    refine z_ite _ (fun hk9 => ?_) (fun _ => ?_)
    · subst hk9
      refine z_catch 0 (pc := 4) [] [] 0 9 12 13 X hTab rfl (fun z hz => by cases hz) (by decide) (by decide) (zin (zt2 2 (by decide +kernel)) rfl) (zt2 10 (by decide +kernel)) (fun q6 => ?_)
      refine z_astore_nA (pc := 12) (i := 3) (lv' := [(3, zA q6), (0, zR a0), (1, zI a1), (2, zR a2)]) X dL_day_12 rfl (hN _ (by decide)) rfl ?_
      refine z_iconst (pc := 13) (z := 1) X dL_day_13 rfl ⟨by decide, by decide⟩ ?_
      refine z_fin (fun e9 => ?_)
      subst e9
      exact hret _ _ _ _ (by decide) (by decide) dL_day_14
    · exact z_none
def L_door (hp : zH) (a0 : Option Nat) (a1 : Int) (a2 : Int) (a3 : Int) (a4 : Option Nat) : Option (Int × zH) :=
  ((zobj hp a0 8).bind fun _ => X7_door hp a0 a1 a2 a3).bind fun x1 =>
  match x1 with
  | (Sum.inl v2, h4) =>
    (zsJ h4 a4 0 ((Int64.ofInt v2))).bind fun h5 =>
    some (0, h5)
  | (Sum.inr k3, h4) =>
    if k3 = 0 then
      some (2, h4)
    else
      if k3 = 1 then
        some (4, h4)
      else
        if k3 = 2 then
          some (3, h4)
        else
          if k3 = 3 then
            some (1, h4)
          else
            none
set_option maxRecDepth 20000 in
theorem c_L_door (hp : zH) (a0 : Option Nat) (a1 : Int) (a2 : Int) (a3 : Int) (a4 : Option Nat) : ∀ r, L_door hp a0 a1 a2 a3 a4 = some r → zMw yL_door (Cond.codeWith yL_door cL_door 6 (some .int) [(0, 12, 15, 27), (0, 12, 19, 13), (0, 12, 23, 21), (0, 12, 27, 15)] :: zALL) { frames := 8, cells := 3, slots := 17, locals := 152 } 3 17 [zR a0, zI a1, zI a2, zI a3, zR a4] hp r.1 r.2 := by
  refine zMw_of (own := RL) (cc := cL_door) (maxL := 6) (ε := Int × zH) (res := fun r => r.1) (hp2 := fun r => r.2) (by decide) rfl (by exact Nat.le_of_ble_eq_true rfl) ?_
  intro K r0 X hnL hTab hret
  have hN : ∀ i, i < 6 → i < K.2.2.2.2.2.2.2.2.2.2.2.2.2.2.1 := by rw [hnL]; exact fun _ h => h
  show zS _ _ (zJ K 0 0 0 [(0, zR a0), (1, zI a1), (2, zI a2), (3, zI a3), (4, zR a4)] [] hp)
  unfold L_door
  refine z_aload (pc := 0) (i := 4) 4 X dL_door_0 rfl ?_
  refine z_iconst (pc := 2) (z := 0) X dL_door_2 rfl ⟨by decide, by decide⟩ ?_
  refine z_aload_n (pc := 3) (i := 0) 0 X dL_door_3 rfl rfl ?_
  refine z_iload_n (pc := 4) (i := 1) 1 X dL_door_4 rfl rfl ?_
  refine z_iload_n (pc := 5) (i := 2) 2 X dL_door_5 rfl rfl ?_
  refine z_iload_n (pc := 6) (i := 3) 3 X dL_door_6 rfl rfl ?_
  refine z_callXV_i (pc := 7) (cells := 0) (slots := 0) (C := RX7) (T := TX7) (N := 9) (ci := 8) [zI a1, zI a2, zI a3] X dL_door_7 (c_X7_door hp a0 a1 a2 a3) kw_L_42 rfl rfl ⟨rfl, rfl, ⟨by decide, by decide⟩, ⟨by decide, by decide⟩⟩ (Nat.le_of_ble_eq_true rfl) rfl (fun x1 v2 hz9 => ?_) (fun x1 k3 hz9 => ?_)
  · obtain ⟨x1, h4⟩ := x1
    have hz9 : x1 = Sum.inl v2 := hz9
    subst hz9
    refine z_i2l (pc := 10) X dL_door_10 ?_
    refine z_lastore (pc := 11) X dL_door_11 (fun h5 => ?_)
    refine z_goto (pc := 12) 31 X dL_door_12 (by decide) ?_
    refine z_iconst (pc := 31) (z := 0) X dL_door_31 rfl ⟨by decide, by decide⟩ ?_
    refine z_fin (fun e9 => ?_)
    subst e9
    exact hret _ _ _ _ (by decide) (by decide) dL_door_32
  · obtain ⟨x1, h4⟩ := x1
    have hz9 : x1 = Sum.inr k3 := hz9
    subst hz9
    refine z_ite _ (fun hk9 => ?_) (fun _ => ?_)
    · subst hk9
      refine z_catch 0 (pc := 7) [(0, 12, 15, 27)] [(0, 12, 23, 21), (0, 12, 27, 15)] 0 12 19 13 X hTab rfl (fun z hz => by
          simp only [List.mem_cons, List.not_mem_nil, or_false] at hz
          rcases hz with rfl
          · exact ⟨by decide, "java/lang/IndexOutOfBoundsException", zin (zt2 175 (by decide +kernel)) rfl, by decide +kernel⟩) (by decide) (by decide) (zin (zt2 2 (by decide +kernel)) rfl) (zt2 10 (by decide +kernel)) (fun q9 => ?_)
      refine z_astoreA (pc := 19) (i := 5) (lv' := [(5, zA q9), (0, zR a0), (1, zI a1), (2, zI a2), (3, zI a3), (4, zR a4)]) X dL_door_19 (hN _ (by decide)) rfl ?_
      refine z_iconst (pc := 21) (z := 2) X dL_door_21 rfl ⟨by decide, by decide⟩ ?_
      refine z_fin (fun e9 => ?_)
      subst e9
      exact hret _ _ _ _ (by decide) (by decide) dL_door_22
    · refine z_ite _ (fun hk9 => ?_) (fun _ => ?_)
      · subst hk9
        refine z_catch 1 (pc := 7) [(0, 12, 15, 27), (0, 12, 19, 13), (0, 12, 23, 21)] [] 0 12 27 15 X hTab rfl (fun z hz => by
            simp only [List.mem_cons, List.not_mem_nil, or_false] at hz
            rcases hz with rfl | rfl | rfl
            · exact ⟨by decide, "java/lang/IndexOutOfBoundsException", zin (zt2 175 (by decide +kernel)) rfl, by decide +kernel⟩
            · exact ⟨by decide, "java/lang/IllegalArgumentException", zin (zt2 2 (by decide +kernel)) rfl, by decide +kernel⟩
            · exact ⟨by decide, "java/lang/UnsupportedOperationException", zin (zt2 102 (by decide +kernel)) rfl, by decide +kernel⟩) (by decide) (by decide) (zin (zt2 3 (by decide +kernel)) rfl) (zt2 82 (by decide +kernel)) (fun q8 => ?_)
        refine z_astoreA (pc := 27) (i := 5) (lv' := [(5, zA q8), (0, zR a0), (1, zI a1), (2, zI a2), (3, zI a3), (4, zR a4)]) X dL_door_27 (hN _ (by decide)) rfl ?_
        refine z_iconst (pc := 29) (z := 4) X dL_door_29 rfl ⟨by decide, by decide⟩ ?_
        refine z_fin (fun e9 => ?_)
        subst e9
        exact hret _ _ _ _ (by decide) (by decide) dL_door_30
      · refine z_ite _ (fun hk9 => ?_) (fun _ => ?_)
        · subst hk9
          refine z_catch 2 (pc := 7) [(0, 12, 15, 27), (0, 12, 19, 13)] [(0, 12, 27, 15)] 0 12 23 21 X hTab rfl (fun z hz => by
              simp only [List.mem_cons, List.not_mem_nil, or_false] at hz
              rcases hz with rfl | rfl
              · exact ⟨by decide, "java/lang/IndexOutOfBoundsException", zin (zt2 175 (by decide +kernel)) rfl, by decide +kernel⟩
              · exact ⟨by decide, "java/lang/IllegalArgumentException", zin (zt2 2 (by decide +kernel)) rfl, by decide +kernel⟩) (by decide) (by decide) (zin (zt2 102 (by decide +kernel)) rfl) (zt2 117 (by decide +kernel)) (fun q7 => ?_)
          refine z_astoreA (pc := 23) (i := 5) (lv' := [(5, zA q7), (0, zR a0), (1, zI a1), (2, zI a2), (3, zI a3), (4, zR a4)]) X dL_door_23 (hN _ (by decide)) rfl ?_
          refine z_iconst (pc := 25) (z := 3) X dL_door_25 rfl ⟨by decide, by decide⟩ ?_
          refine z_fin (fun e9 => ?_)
          subst e9
          exact hret _ _ _ _ (by decide) (by decide) dL_door_26
        · refine z_ite _ (fun hk9 => ?_) (fun _ => ?_)
          · subst hk9
            refine z_catch 3 (pc := 7) [] [(0, 12, 19, 13), (0, 12, 23, 21), (0, 12, 27, 15)] 0 12 15 27 X hTab rfl (fun z hz => by cases hz) (by decide) (by decide) (zin (zt2 175 (by decide +kernel)) rfl) (zt2 209 (by decide +kernel)) (fun q6 => ?_)
            refine z_astoreA (pc := 15) (i := 5) (lv' := [(5, zA q6), (0, zR a0), (1, zI a1), (2, zI a2), (3, zI a3), (4, zR a4)]) X dL_door_15 (hN _ (by decide)) rfl ?_
            refine z_iconst (pc := 17) (z := 1) X dL_door_17 rfl ⟨by decide, by decide⟩ ?_
            refine z_fin (fun e9 => ?_)
            subst e9
            exact hret _ _ _ _ (by decide) (by decide) dL_door_18
          · exact z_none
def L_doors (hp : zH) (a0 : Option Nat) (a1 : Int) (a2 : Option Nat) : Option (Int × zH) :=
  ((zobj hp a0 8).bind fun _ => X7_doors hp a0 a1).bind fun x1 =>
  match x1 with
  | Sum.inl v2 =>
    (zsJ hp a2 0 ((Int64.ofInt v2))).bind fun h4 =>
    some (0, h4)
  | Sum.inr k3 =>
    if k3 = 3 then
      some (1, hp)
    else
      none
set_option maxRecDepth 20000 in
theorem c_L_doors (hp : zH) (a0 : Option Nat) (a1 : Int) (a2 : Option Nat) : ∀ r, L_doors hp a0 a1 a2 = some r → zMw yL_doors (Cond.codeWith yL_doors cL_doors 4 (some .int) [(0, 9, 12, 27)] :: zALL) { frames := 8, cells := 1, slots := 6, locals := 124 } 1 6 [zR a0, zI a1, zR a2] hp r.1 r.2 := by
  refine zMw_of (own := RL) (cc := cL_doors) (maxL := 4) (ε := Int × zH) (res := fun r => r.1) (hp2 := fun r => r.2) (by decide) rfl (by exact Nat.le_of_ble_eq_true rfl) ?_
  intro K r0 X hnL hTab hret
  have hN : ∀ i, i < 4 → i < K.2.2.2.2.2.2.2.2.2.2.2.2.2.2.1 := by rw [hnL]; exact fun _ h => h
  show zS _ _ (zJ K 0 0 0 [(0, zR a0), (1, zI a1), (2, zR a2)] [] hp)
  unfold L_doors
  refine z_aload_n (pc := 0) (i := 2) 2 X dL_doors_0 rfl rfl ?_
  refine z_iconst (pc := 1) (z := 0) X dL_doors_1 rfl ⟨by decide, by decide⟩ ?_
  refine z_aload_n (pc := 2) (i := 0) 0 X dL_doors_2 rfl rfl ?_
  refine z_iload_n (pc := 3) (i := 1) 1 X dL_doors_3 rfl rfl ?_
  refine z_callXV_i (pc := 4) (cells := 0) (slots := 0) (C := RX7) (T := TX7) (N := 9) (ci := 8) [zI a1] X dL_doors_4 (c_X7_doors hp a0 a1) kw_L_86 rfl rfl ⟨rfl, rfl, ⟨by decide, by decide⟩, ⟨by decide, by decide⟩⟩ (Nat.le_of_ble_eq_true rfl) rfl (fun x1 v2 hz9 => ?_) (fun x1 k3 hz9 => ?_)
  · have hz9 : x1 = Sum.inl v2 := hz9
    subst hz9
    refine z_i2l (pc := 7) X dL_doors_7 ?_
    refine z_lastore (pc := 8) X dL_doors_8 (fun h4 => ?_)
    refine z_goto (pc := 9) 15 X dL_doors_9 (by decide) ?_
    refine z_iconst (pc := 15) (z := 0) X dL_doors_15 rfl ⟨by decide, by decide⟩ ?_
    refine z_fin (fun e9 => ?_)
    subst e9
    exact hret _ _ _ _ (by decide) (by decide) dL_doors_16
  · have hz9 : x1 = Sum.inr k3 := hz9
    subst hz9
    refine z_ite _ (fun hk9 => ?_) (fun _ => ?_)
    · subst hk9
      refine z_catch 3 (pc := 4) [] [] 0 9 12 27 X hTab rfl (fun z hz => by cases hz) (by decide) (by decide) (zin (zt2 175 (by decide +kernel)) rfl) (zt2 209 (by decide +kernel)) (fun q5 => ?_)
      refine z_astore_nA (pc := 12) (i := 3) (lv' := [(3, zA q5), (0, zR a0), (1, zI a1), (2, zR a2)]) X dL_doors_12 rfl (hN _ (by decide)) rfl ?_
      refine z_iconst (pc := 13) (z := 1) X dL_doors_13 rfl ⟨by decide, by decide⟩ ?_
      refine z_fin (fun e9 => ?_)
      subst e9
      exact hret _ _ _ _ (by decide) (by decide) dL_doors_14
    · exact z_none
def L_find (hp : zH) (a0 : Option Nat) (a1 : Int) (a2 : Option Nat) : Option (Int × zH) :=
  ((zobj hp a0 8).bind fun _ => X7_find hp a0 a1).bind fun x1 =>
  match x1 with
  | Sum.inl v2 =>
    (zsJ hp a2 0 ((Int64.ofInt v2))).bind fun h4 =>
    some (0, h4)
  | Sum.inr k3 =>
    if k3 = 4 then
      some (1, hp)
    else
      none
set_option maxRecDepth 20000 in
theorem c_L_find (hp : zH) (a0 : Option Nat) (a1 : Int) (a2 : Option Nat) : ∀ r, L_find hp a0 a1 a2 = some r → zMw yL_find (Cond.codeWith yL_find cL_find 4 (some .int) [(0, 9, 12, 36)] :: zALL) { frames := 7, cells := 1, slots := 6, locals := 117 } 1 6 [zR a0, zI a1, zR a2] hp r.1 r.2 := by
  refine zMw_of (own := RL) (cc := cL_find) (maxL := 4) (ε := Int × zH) (res := fun r => r.1) (hp2 := fun r => r.2) (by decide) rfl (by exact Nat.le_of_ble_eq_true rfl) ?_
  intro K r0 X hnL hTab hret
  have hN : ∀ i, i < 4 → i < K.2.2.2.2.2.2.2.2.2.2.2.2.2.2.1 := by rw [hnL]; exact fun _ h => h
  show zS _ _ (zJ K 0 0 0 [(0, zR a0), (1, zI a1), (2, zR a2)] [] hp)
  unfold L_find
  refine z_aload_n (pc := 0) (i := 2) 2 X dL_find_0 rfl rfl ?_
  refine z_iconst (pc := 1) (z := 0) X dL_find_1 rfl ⟨by decide, by decide⟩ ?_
  refine z_aload_n (pc := 2) (i := 0) 0 X dL_find_2 rfl rfl ?_
  refine z_iload_n (pc := 3) (i := 1) 1 X dL_find_3 rfl rfl ?_
  refine z_callXV_i (pc := 4) (cells := 0) (slots := 0) (C := RX7) (T := TX7) (N := 9) (ci := 8) [zI a1] X dL_find_4 (c_X7_find hp a0 a1) kw_L_77 rfl rfl ⟨rfl, rfl, ⟨by decide, by decide⟩, ⟨by decide, by decide⟩⟩ (Nat.le_of_ble_eq_true rfl) rfl (fun x1 v2 hz9 => ?_) (fun x1 k3 hz9 => ?_)
  · have hz9 : x1 = Sum.inl v2 := hz9
    subst hz9
    refine z_i2l (pc := 7) X dL_find_7 ?_
    refine z_lastore (pc := 8) X dL_find_8 (fun h4 => ?_)
    refine z_goto (pc := 9) 15 X dL_find_9 (by decide) ?_
    refine z_iconst (pc := 15) (z := 0) X dL_find_15 rfl ⟨by decide, by decide⟩ ?_
    refine z_fin (fun e9 => ?_)
    subst e9
    exact hret _ _ _ _ (by decide) (by decide) dL_find_16
  · have hz9 : x1 = Sum.inr k3 := hz9
    subst hz9
    refine z_ite _ (fun hk9 => ?_) (fun _ => ?_)
    · subst hk9
      refine z_catch 4 (pc := 4) [] [] 0 9 12 36 X hTab rfl (fun z hz => by cases hz) (by decide) (by decide) (zin (zt3 9 (by decide +kernel)) rfl) (zt3 16 (by decide +kernel)) (fun q5 => ?_)
      refine z_astore_nA (pc := 12) (i := 3) (lv' := [(3, zA q5), (0, zR a0), (1, zI a1), (2, zR a2)]) X dL_find_12 rfl (hN _ (by decide)) rfl ?_
      refine z_iconst (pc := 13) (z := 1) X dL_find_13 rfl ⟨by decide, by decide⟩ ?_
      refine z_fin (fun e9 => ?_)
      subst e9
      exact hret _ _ _ _ (by decide) (by decide) dL_find_14
    · exact z_none
def L_goneShare (hp : zH) (a0 : Option Nat) (a1 : Option Nat) : Option (Int × zH) :=
  ((zobj hp a0 8).bind fun _ => X7_goneShare hp a0).bind fun x1 =>
  match x1 with
  | Sum.inl v2 =>
    (zf2d v2).bind fun v4 =>
    (zsD hp a1 0 v4).bind fun h5 =>
    some (0, h5)
  | Sum.inr k3 =>
    if k3 = 5 then
      some (1, hp)
    else
      none
set_option maxRecDepth 20000 in
theorem c_L_goneShare (hp : zH) (a0 : Option Nat) (a1 : Option Nat) : ∀ r, L_goneShare hp a0 a1 = some r → zMw yL_goneShare (Cond.codeWith yL_goneShare cL_goneShare 3 (some .int) [(0, 8, 11, 102)] :: zALL) { frames := 7, cells := 1, slots := 6, locals := 108 } 1 6 [zR a0, zR a1] hp r.1 r.2 := by
  refine zMw_of (own := RL) (cc := cL_goneShare) (maxL := 3) (ε := Int × zH) (res := fun r => r.1) (hp2 := fun r => r.2) (by decide) rfl (by exact Nat.le_of_ble_eq_true rfl) ?_
  intro K r0 X hnL hTab hret
  have hN : ∀ i, i < 3 → i < K.2.2.2.2.2.2.2.2.2.2.2.2.2.2.1 := by rw [hnL]; exact fun _ h => h
  show zS _ _ (zJ K 0 0 0 [(0, zR a0), (1, zR a1)] [] hp)
  unfold L_goneShare
  refine z_aload_n (pc := 0) (i := 1) 1 X dL_goneShare_0 rfl rfl ?_
  refine z_iconst (pc := 1) (z := 0) X dL_goneShare_1 rfl ⟨by decide, by decide⟩ ?_
  refine z_aload_n (pc := 2) (i := 0) 0 X dL_goneShare_2 rfl rfl ?_
  refine z_callXV_f (pc := 3) (cells := 0) (slots := 0) (C := RX7) (T := TX7) (N := 9) (ci := 8) [] X dL_goneShare_3 (c_X7_goneShare hp a0) kw_L_98 rfl rfl ⟨rfl, rfl, ⟨by decide, by decide⟩, ⟨by decide, by decide⟩⟩ (Nat.le_of_ble_eq_true rfl) rfl (fun x1 v2 hz9 => ?_) (fun x1 k3 hz9 => ?_)
  · have hz9 : x1 = Sum.inl v2 := hz9
    subst hz9
    refine z_f2d (pc := 6) X dL_goneShare_6 (fun v4 => ?_)
    refine z_dastore (pc := 7) X dL_goneShare_7 (fun h5 => ?_)
    refine z_goto (pc := 8) 14 X dL_goneShare_8 (by decide) ?_
    refine z_iconst (pc := 14) (z := 0) X dL_goneShare_14 rfl ⟨by decide, by decide⟩ ?_
    refine z_fin (fun e9 => ?_)
    subst e9
    exact hret _ _ _ _ (by decide) (by decide) dL_goneShare_15
  · have hz9 : x1 = Sum.inr k3 := hz9
    subst hz9
    refine z_ite _ (fun hk9 => ?_) (fun _ => ?_)
    · subst hk9
      refine z_catch 5 (pc := 3) [] [] 0 8 11 102 X hTab rfl (fun z hz => by cases hz) (by decide) (by decide) (zin (zt4 150 (by decide +kernel)) rfl) (zt4 162 (by decide +kernel)) (fun q6 => ?_)
      refine z_astore_nA (pc := 11) (i := 2) (lv' := [(2, zA q6), (0, zR a0), (1, zR a1)]) X dL_goneShare_11 rfl (hN _ (by decide)) rfl ?_
      refine z_iconst (pc := 12) (z := 1) X dL_goneShare_12 rfl ⟨by decide, by decide⟩ ?_
      refine z_fin (fun e9 => ?_)
      subst e9
      exact hret _ _ _ _ (by decide) (by decide) dL_goneShare_13
    · exact z_none
def L_isGone (hp : zH) (a0 : Option Nat) (a1 : Int) (a2 : Option Nat) : Option (Int × zH) :=
  ((zobj hp a0 8).bind fun _ => X7_isGone hp a0 a1).bind fun x1 =>
  match x1 with
  | Sum.inl v2 =>
    if v2 = 0 then
      (zsJ hp a2 0 0).bind fun h4 =>
      some (0, h4)
    else
      (zsJ hp a2 0 1).bind fun h5 =>
      some (0, h5)
  | Sum.inr k3 =>
    if k3 = 3 then
      some (1, hp)
    else
      none
set_option maxRecDepth 20000 in
theorem c_L_isGone (hp : zH) (a0 : Option Nat) (a1 : Int) (a2 : Option Nat) : ∀ r, L_isGone hp a0 a1 a2 = some r → zMw yL_isGone (Cond.codeWith yL_isGone cL_isGone 4 (some .int) [(0, 16, 19, 27)] :: zALL) { frames := 8, cells := 1, slots := 6, locals := 125 } 1 6 [zR a0, zI a1, zR a2] hp r.1 r.2 := by
  refine zMw_of (own := RL) (cc := cL_isGone) (maxL := 4) (ε := Int × zH) (res := fun r => r.1) (hp2 := fun r => r.2) (by decide) rfl (by exact Nat.le_of_ble_eq_true rfl) ?_
  intro K r0 X hnL hTab hret
  have hN : ∀ i, i < 4 → i < K.2.2.2.2.2.2.2.2.2.2.2.2.2.2.1 := by rw [hnL]; exact fun _ h => h
  show zS _ _ (zJ K 0 0 0 [(0, zR a0), (1, zI a1), (2, zR a2)] [] hp)
  unfold L_isGone
  refine z_aload_n (pc := 0) (i := 2) 2 X dL_isGone_0 rfl rfl ?_
  refine z_iconst (pc := 1) (z := 0) X dL_isGone_1 rfl ⟨by decide, by decide⟩ ?_
  refine z_aload_n (pc := 2) (i := 0) 0 X dL_isGone_2 rfl rfl ?_
  refine z_iload_n (pc := 3) (i := 1) 1 X dL_isGone_3 rfl rfl ?_
  refine z_callXV_i (pc := 4) (cells := 0) (slots := 0) (C := RX7) (T := TX7) (N := 9) (ci := 8) [zI a1] X dL_isGone_4 (c_X7_isGone hp a0 a1) kw_L_73 rfl rfl ⟨rfl, rfl, ⟨by decide, by decide⟩, ⟨by decide, by decide⟩⟩ (Nat.le_of_ble_eq_true rfl) rfl (fun x1 v2 hz9 => ?_) (fun x1 k3 hz9 => ?_)
  · have hz9 : x1 = Sum.inl v2 := hz9
    subst hz9
    refine z_if_eq (pc := 7) 14 X dL_isGone_7 (by decide) (fun _ => ?_) (fun _ => ?_)
    · refine z_lconst (pc := 14) (z := 0) X dL_isGone_14 rfl ?_
      refine z_lastore (pc := 15) X dL_isGone_15 (fun h4 => ?_)
      refine z_goto (pc := 16) 22 X dL_isGone_16 (by decide) ?_
      refine z_iconst (pc := 22) (z := 0) X dL_isGone_22 rfl ⟨by decide, by decide⟩ ?_
      refine z_fin (fun e9 => ?_)
      subst e9
      exact hret _ _ _ _ (by decide) (by decide) dL_isGone_23
    · refine z_lconst (pc := 10) (z := 1) X dL_isGone_10 rfl ?_
      refine z_goto (pc := 11) 15 X dL_isGone_11 (by decide) ?_
      refine z_lastore (pc := 15) X dL_isGone_15 (fun h5 => ?_)
      refine z_goto (pc := 16) 22 X dL_isGone_16 (by decide) ?_
      refine z_iconst (pc := 22) (z := 0) X dL_isGone_22 rfl ⟨by decide, by decide⟩ ?_
      refine z_fin (fun e9 => ?_)
      subst e9
      exact hret _ _ _ _ (by decide) (by decide) dL_isGone_23
  · have hz9 : x1 = Sum.inr k3 := hz9
    subst hz9
    refine z_ite _ (fun hk9 => ?_) (fun _ => ?_)
    · subst hk9
      refine z_catch 3 (pc := 4) [] [] 0 16 19 27 X hTab rfl (fun z hz => by cases hz) (by decide) (by decide) (zin (zt2 175 (by decide +kernel)) rfl) (zt2 209 (by decide +kernel)) (fun q6 => ?_)
      refine z_astore_nA (pc := 19) (i := 3) (lv' := [(3, zA q6), (0, zR a0), (1, zI a1), (2, zR a2)]) X dL_isGone_19 rfl (hN _ (by decide)) rfl ?_
      refine z_iconst (pc := 20) (z := 1) X dL_isGone_20 rfl ⟨by decide, by decide⟩ ?_
      refine z_fin (fun e9 => ?_)
      subst e9
      exact hret _ _ _ _ (by decide) (by decide) dL_isGone_21
    · exact z_none
def L_join (hp : zH) (a0 : Option Nat) (a1 : Int) (a2 : Int) (a3 : Option Nat) : Option (Int × zH) :=
  ((zobj hp a0 8).bind fun _ => X7_join hp a0 a1 a2).bind fun x1 =>
  match x1 with
  | (Sum.inl v2, h4) =>
    (zsJ h4 a3 0 ((Int64.ofInt v2))).bind fun h5 =>
    some (0, h5)
  | (Sum.inr k3, h4) =>
    if k3 = 0 then
      some (2, h4)
    else
      if k3 = 2 then
        some (3, h4)
      else
        if k3 = 3 then
          some (1, h4)
        else
          none
set_option maxRecDepth 20000 in
theorem c_L_join (hp : zH) (a0 : Option Nat) (a1 : Int) (a2 : Int) (a3 : Option Nat) : ∀ r, L_join hp a0 a1 a2 a3 = some r → zMw yL_join (Cond.codeWith yL_join cL_join 5 (some .int) [(0, 10, 13, 27), (0, 10, 17, 13), (0, 10, 21, 21)] :: zALL) { frames := 8, cells := 3, slots := 18, locals := 151 } 3 18 [zR a0, zI a1, zI a2, zR a3] hp r.1 r.2 := by
  refine zMw_of (own := RL) (cc := cL_join) (maxL := 5) (ε := Int × zH) (res := fun r => r.1) (hp2 := fun r => r.2) (by decide) rfl (by exact Nat.le_of_ble_eq_true rfl) ?_
  intro K r0 X hnL hTab hret
  have hN : ∀ i, i < 5 → i < K.2.2.2.2.2.2.2.2.2.2.2.2.2.2.1 := by rw [hnL]; exact fun _ h => h
  show zS _ _ (zJ K 0 0 0 [(0, zR a0), (1, zI a1), (2, zI a2), (3, zR a3)] [] hp)
  unfold L_join
  refine z_aload_n (pc := 0) (i := 3) 3 X dL_join_0 rfl rfl ?_
  refine z_iconst (pc := 1) (z := 0) X dL_join_1 rfl ⟨by decide, by decide⟩ ?_
  refine z_aload_n (pc := 2) (i := 0) 0 X dL_join_2 rfl rfl ?_
  refine z_iload_n (pc := 3) (i := 1) 1 X dL_join_3 rfl rfl ?_
  refine z_iload_n (pc := 4) (i := 2) 2 X dL_join_4 rfl rfl ?_
  refine z_callXV_i (pc := 5) (cells := 0) (slots := 0) (C := RX7) (T := TX7) (N := 9) (ci := 8) [zI a1, zI a2] X dL_join_5 (c_X7_join hp a0 a1 a2) kw_L_60 rfl rfl ⟨rfl, rfl, ⟨by decide, by decide⟩, ⟨by decide, by decide⟩⟩ (Nat.le_of_ble_eq_true rfl) rfl (fun x1 v2 hz9 => ?_) (fun x1 k3 hz9 => ?_)
  · obtain ⟨x1, h4⟩ := x1
    have hz9 : x1 = Sum.inl v2 := hz9
    subst hz9
    refine z_i2l (pc := 8) X dL_join_8 ?_
    refine z_lastore (pc := 9) X dL_join_9 (fun h5 => ?_)
    refine z_goto (pc := 10) 25 X dL_join_10 (by decide) ?_
    refine z_iconst (pc := 25) (z := 0) X dL_join_25 rfl ⟨by decide, by decide⟩ ?_
    refine z_fin (fun e9 => ?_)
    subst e9
    exact hret _ _ _ _ (by decide) (by decide) dL_join_26
  · obtain ⟨x1, h4⟩ := x1
    have hz9 : x1 = Sum.inr k3 := hz9
    subst hz9
    refine z_ite _ (fun hk9 => ?_) (fun _ => ?_)
    · subst hk9
      refine z_catch 0 (pc := 5) [(0, 10, 13, 27)] [(0, 10, 21, 21)] 0 10 17 13 X hTab rfl (fun z hz => by
          simp only [List.mem_cons, List.not_mem_nil, or_false] at hz
          rcases hz with rfl
          · exact ⟨by decide, "java/lang/IndexOutOfBoundsException", zin (zt2 175 (by decide +kernel)) rfl, by decide +kernel⟩) (by decide) (by decide) (zin (zt2 2 (by decide +kernel)) rfl) (zt2 10 (by decide +kernel)) (fun q8 => ?_)
      refine z_astoreA (pc := 17) (i := 4) (lv' := [(4, zA q8), (0, zR a0), (1, zI a1), (2, zI a2), (3, zR a3)]) X dL_join_17 (hN _ (by decide)) rfl ?_
      refine z_iconst (pc := 19) (z := 2) X dL_join_19 rfl ⟨by decide, by decide⟩ ?_
      refine z_fin (fun e9 => ?_)
      subst e9
      exact hret _ _ _ _ (by decide) (by decide) dL_join_20
    · refine z_ite _ (fun hk9 => ?_) (fun _ => ?_)
      · subst hk9
        refine z_catch 2 (pc := 5) [(0, 10, 13, 27), (0, 10, 17, 13)] [] 0 10 21 21 X hTab rfl (fun z hz => by
            simp only [List.mem_cons, List.not_mem_nil, or_false] at hz
            rcases hz with rfl | rfl
            · exact ⟨by decide, "java/lang/IndexOutOfBoundsException", zin (zt2 175 (by decide +kernel)) rfl, by decide +kernel⟩
            · exact ⟨by decide, "java/lang/IllegalArgumentException", zin (zt2 2 (by decide +kernel)) rfl, by decide +kernel⟩) (by decide) (by decide) (zin (zt2 102 (by decide +kernel)) rfl) (zt2 117 (by decide +kernel)) (fun q7 => ?_)
        refine z_astoreA (pc := 21) (i := 4) (lv' := [(4, zA q7), (0, zR a0), (1, zI a1), (2, zI a2), (3, zR a3)]) X dL_join_21 (hN _ (by decide)) rfl ?_
        refine z_iconst (pc := 23) (z := 3) X dL_join_23 rfl ⟨by decide, by decide⟩ ?_
        refine z_fin (fun e9 => ?_)
        subst e9
        exact hret _ _ _ _ (by decide) (by decide) dL_join_24
      · refine z_ite _ (fun hk9 => ?_) (fun _ => ?_)
        · subst hk9
          refine z_catch 3 (pc := 5) [] [(0, 10, 17, 13), (0, 10, 21, 21)] 0 10 13 27 X hTab rfl (fun z hz => by cases hz) (by decide) (by decide) (zin (zt2 175 (by decide +kernel)) rfl) (zt2 209 (by decide +kernel)) (fun q6 => ?_)
          refine z_astoreA (pc := 13) (i := 4) (lv' := [(4, zA q6), (0, zR a0), (1, zI a1), (2, zI a2), (3, zR a3)]) X dL_join_13 (hN _ (by decide)) rfl ?_
          refine z_iconst (pc := 15) (z := 1) X dL_join_15 rfl ⟨by decide, by decide⟩ ?_
          refine z_fin (fun e9 => ?_)
          subst e9
          exact hret _ _ _ _ (by decide) (by decide) dL_join_16
        · exact z_none
def L_letter (hp : zH) (a0 : Option Nat) (a1 : Int) (a2 : Int) (a3 : Int) (a4 : Option Nat) : Option (Int × zH) :=
  ((zobj hp a0 8).bind fun _ => X7_letter hp a0 a1 a2 a3).bind fun x1 =>
  match x1 with
  | Sum.inl v2 =>
    (zsJ hp a4 0 ((Int64.ofInt v2))).bind fun h4 =>
    some (0, h4)
  | Sum.inr k3 =>
    if k3 = 3 then
      some (1, hp)
    else
      if k3 = 4 then
        some (2, hp)
      else
        none
set_option maxRecDepth 20000 in
theorem c_L_letter (hp : zH) (a0 : Option Nat) (a1 : Int) (a2 : Int) (a3 : Int) (a4 : Option Nat) : ∀ r, L_letter hp a0 a1 a2 a3 a4 = some r → zMw yL_letter (Cond.codeWith yL_letter cL_letter 6 (some .int) [(0, 12, 15, 27), (0, 12, 19, 36)] :: zALL) { frames := 8, cells := 2, slots := 12, locals := 129 } 2 12 [zR a0, zI a1, zI a2, zI a3, zR a4] hp r.1 r.2 := by
  refine zMw_of (own := RL) (cc := cL_letter) (maxL := 6) (ε := Int × zH) (res := fun r => r.1) (hp2 := fun r => r.2) (by decide) rfl (by exact Nat.le_of_ble_eq_true rfl) ?_
  intro K r0 X hnL hTab hret
  have hN : ∀ i, i < 6 → i < K.2.2.2.2.2.2.2.2.2.2.2.2.2.2.1 := by rw [hnL]; exact fun _ h => h
  show zS _ _ (zJ K 0 0 0 [(0, zR a0), (1, zI a1), (2, zI a2), (3, zI a3), (4, zR a4)] [] hp)
  unfold L_letter
  refine z_aload (pc := 0) (i := 4) 4 X dL_letter_0 rfl ?_
  refine z_iconst (pc := 2) (z := 0) X dL_letter_2 rfl ⟨by decide, by decide⟩ ?_
  refine z_aload_n (pc := 3) (i := 0) 0 X dL_letter_3 rfl rfl ?_
  refine z_iload_n (pc := 4) (i := 1) 1 X dL_letter_4 rfl rfl ?_
  refine z_iload_n (pc := 5) (i := 2) 2 X dL_letter_5 rfl rfl ?_
  refine z_iload_n (pc := 6) (i := 3) 3 X dL_letter_6 rfl rfl ?_
  refine z_callXV_i (pc := 7) (cells := 0) (slots := 0) (C := RX7) (T := TX7) (N := 9) (ci := 8) [zI a1, zI a2, zI a3] X dL_letter_7 (c_X7_letter hp a0 a1 a2 a3) kw_L_32 rfl rfl ⟨rfl, rfl, ⟨by decide, by decide⟩, ⟨by decide, by decide⟩⟩ (Nat.le_of_ble_eq_true rfl) rfl (fun x1 v2 hz9 => ?_) (fun x1 k3 hz9 => ?_)
  · have hz9 : x1 = Sum.inl v2 := hz9
    subst hz9
    refine z_i2l (pc := 10) X dL_letter_10 ?_
    refine z_lastore (pc := 11) X dL_letter_11 (fun h4 => ?_)
    refine z_goto (pc := 12) 23 X dL_letter_12 (by decide) ?_
    refine z_iconst (pc := 23) (z := 0) X dL_letter_23 rfl ⟨by decide, by decide⟩ ?_
    refine z_fin (fun e9 => ?_)
    subst e9
    exact hret _ _ _ _ (by decide) (by decide) dL_letter_24
  · have hz9 : x1 = Sum.inr k3 := hz9
    subst hz9
    refine z_ite _ (fun hk9 => ?_) (fun _ => ?_)
    · subst hk9
      refine z_catch 3 (pc := 7) [] [(0, 12, 19, 36)] 0 12 15 27 X hTab rfl (fun z hz => by cases hz) (by decide) (by decide) (zin (zt2 175 (by decide +kernel)) rfl) (zt2 209 (by decide +kernel)) (fun q6 => ?_)
      refine z_astoreA (pc := 15) (i := 5) (lv' := [(5, zA q6), (0, zR a0), (1, zI a1), (2, zI a2), (3, zI a3), (4, zR a4)]) X dL_letter_15 (hN _ (by decide)) rfl ?_
      refine z_iconst (pc := 17) (z := 1) X dL_letter_17 rfl ⟨by decide, by decide⟩ ?_
      refine z_fin (fun e9 => ?_)
      subst e9
      exact hret _ _ _ _ (by decide) (by decide) dL_letter_18
    · refine z_ite _ (fun hk9 => ?_) (fun _ => ?_)
      · subst hk9
        refine z_catch 4 (pc := 7) [(0, 12, 15, 27)] [] 0 12 19 36 X hTab rfl (fun z hz => by
            simp only [List.mem_cons, List.not_mem_nil, or_false] at hz
            rcases hz with rfl
            · exact ⟨by decide, "java/lang/IndexOutOfBoundsException", zin (zt2 175 (by decide +kernel)) rfl, by decide +kernel⟩) (by decide) (by decide) (zin (zt3 9 (by decide +kernel)) rfl) (zt3 16 (by decide +kernel)) (fun q5 => ?_)
        refine z_astoreA (pc := 19) (i := 5) (lv' := [(5, zA q5), (0, zR a0), (1, zI a1), (2, zI a2), (3, zI a3), (4, zR a4)]) X dL_letter_19 (hN _ (by decide)) rfl ?_
        refine z_iconst (pc := 21) (z := 2) X dL_letter_21 rfl ⟨by decide, by decide⟩ ?_
        refine z_fin (fun e9 => ?_)
        subst e9
        exact hret _ _ _ _ (by decide) (by decide) dL_letter_22
      · exact z_none
def L_meanDoors (hp : zH) (a0 : Option Nat) (a1 : Option Nat) : Option (Int × zH) :=
  ((zobj hp a0 8).bind fun _ => X7_meanDoors hp a0).bind fun x1 =>
  match x1 with
  | Sum.inl v2 =>
    (zsD hp a1 0 v2).bind fun h4 =>
    some (0, h4)
  | Sum.inr k3 =>
    if k3 = 5 then
      some (1, hp)
    else
      none
set_option maxRecDepth 20000 in
theorem c_L_meanDoors (hp : zH) (a0 : Option Nat) (a1 : Option Nat) : ∀ r, L_meanDoors hp a0 a1 = some r → zMw yL_meanDoors (Cond.codeWith yL_meanDoors cL_meanDoors 3 (some .int) [(0, 7, 10, 102)] :: zALL) { frames := 7, cells := 1, slots := 6, locals := 108 } 1 6 [zR a0, zR a1] hp r.1 r.2 := by
  refine zMw_of (own := RL) (cc := cL_meanDoors) (maxL := 3) (ε := Int × zH) (res := fun r => r.1) (hp2 := fun r => r.2) (by decide) rfl (by exact Nat.le_of_ble_eq_true rfl) ?_
  intro K r0 X hnL hTab hret
  have hN : ∀ i, i < 3 → i < K.2.2.2.2.2.2.2.2.2.2.2.2.2.2.1 := by rw [hnL]; exact fun _ h => h
  show zS _ _ (zJ K 0 0 0 [(0, zR a0), (1, zR a1)] [] hp)
  unfold L_meanDoors
  refine z_aload_n (pc := 0) (i := 1) 1 X dL_meanDoors_0 rfl rfl ?_
  refine z_iconst (pc := 1) (z := 0) X dL_meanDoors_1 rfl ⟨by decide, by decide⟩ ?_
  refine z_aload_n (pc := 2) (i := 0) 0 X dL_meanDoors_2 rfl rfl ?_
  refine z_callXV_d (pc := 3) (cells := 0) (slots := 0) (C := RX7) (T := TX7) (N := 9) (ci := 8) [] X dL_meanDoors_3 (c_X7_meanDoors hp a0) kw_L_104 rfl rfl ⟨rfl, rfl, ⟨by decide, by decide⟩, ⟨by decide, by decide⟩⟩ (Nat.le_of_ble_eq_true rfl) rfl (fun x1 v2 hz9 => ?_) (fun x1 k3 hz9 => ?_)
  · have hz9 : x1 = Sum.inl v2 := hz9
    subst hz9
    refine z_dastore (pc := 6) X dL_meanDoors_6 (fun h4 => ?_)
    refine z_goto (pc := 7) 13 X dL_meanDoors_7 (by decide) ?_
    refine z_iconst (pc := 13) (z := 0) X dL_meanDoors_13 rfl ⟨by decide, by decide⟩ ?_
    refine z_fin (fun e9 => ?_)
    subst e9
    exact hret _ _ _ _ (by decide) (by decide) dL_meanDoors_14
  · have hz9 : x1 = Sum.inr k3 := hz9
    subst hz9
    refine z_ite _ (fun hk9 => ?_) (fun _ => ?_)
    · subst hk9
      refine z_catch 5 (pc := 3) [] [] 0 7 10 102 X hTab rfl (fun z hz => by cases hz) (by decide) (by decide) (zin (zt4 150 (by decide +kernel)) rfl) (zt4 162 (by decide +kernel)) (fun q5 => ?_)
      refine z_astore_nA (pc := 10) (i := 2) (lv' := [(2, zA q5), (0, zR a0), (1, zR a1)]) X dL_meanDoors_10 rfl (hN _ (by decide)) rfl ?_
      refine z_iconst (pc := 11) (z := 1) X dL_meanDoors_11 rfl ⟨by decide, by decide⟩ ?_
      refine z_fin (fun e9 => ?_)
      subst e9
      exact hret _ _ _ _ (by decide) (by decide) dL_meanDoors_12
    · exact z_none
def L_merge (hp : zH) (a0 : Option Nat) (a1 : Int) (a2 : Int) (a3 : Option Nat) : Option (Int × zH) :=
  ((zobj hp a0 8).bind fun _ => X7_merge hp a0 a1 a2).bind fun x1 =>
  match x1 with
  | (Sum.inl v2, h4) =>
    (zsJ h4 a3 0 ((Int64.ofInt v2))).bind fun h5 =>
    some (0, h5)
  | (Sum.inr k3, h4) =>
    if k3 = 0 then
      some (2, h4)
    else
      if k3 = 2 then
        some (3, h4)
      else
        if k3 = 3 then
          some (1, h4)
        else
          none
set_option maxRecDepth 20000 in
theorem c_L_merge (hp : zH) (a0 : Option Nat) (a1 : Int) (a2 : Int) (a3 : Option Nat) : ∀ r, L_merge hp a0 a1 a2 a3 = some r → zMw yL_merge (Cond.codeWith yL_merge cL_merge 5 (some .int) [(0, 10, 13, 27), (0, 10, 17, 13), (0, 10, 21, 21)] :: zALL) { frames := 8, cells := 3, slots := 18, locals := 138 } 3 18 [zR a0, zI a1, zI a2, zR a3] hp r.1 r.2 := by
  refine zMw_of (own := RL) (cc := cL_merge) (maxL := 5) (ε := Int × zH) (res := fun r => r.1) (hp2 := fun r => r.2) (by decide) rfl (by exact Nat.le_of_ble_eq_true rfl) ?_
  intro K r0 X hnL hTab hret
  have hN : ∀ i, i < 5 → i < K.2.2.2.2.2.2.2.2.2.2.2.2.2.2.1 := by rw [hnL]; exact fun _ h => h
  show zS _ _ (zJ K 0 0 0 [(0, zR a0), (1, zI a1), (2, zI a2), (3, zR a3)] [] hp)
  unfold L_merge
  refine z_aload_n (pc := 0) (i := 3) 3 X dL_merge_0 rfl rfl ?_
  refine z_iconst (pc := 1) (z := 0) X dL_merge_1 rfl ⟨by decide, by decide⟩ ?_
  refine z_aload_n (pc := 2) (i := 0) 0 X dL_merge_2 rfl rfl ?_
  refine z_iload_n (pc := 3) (i := 1) 1 X dL_merge_3 rfl rfl ?_
  refine z_iload_n (pc := 4) (i := 2) 2 X dL_merge_4 rfl rfl ?_
  refine z_callXV_i (pc := 5) (cells := 0) (slots := 0) (C := RX7) (T := TX7) (N := 9) (ci := 8) [zI a1, zI a2] X dL_merge_5 (c_X7_merge hp a0 a1 a2) kw_L_50 rfl rfl ⟨rfl, rfl, ⟨by decide, by decide⟩, ⟨by decide, by decide⟩⟩ (Nat.le_of_ble_eq_true rfl) rfl (fun x1 v2 hz9 => ?_) (fun x1 k3 hz9 => ?_)
  · obtain ⟨x1, h4⟩ := x1
    have hz9 : x1 = Sum.inl v2 := hz9
    subst hz9
    refine z_i2l (pc := 8) X dL_merge_8 ?_
    refine z_lastore (pc := 9) X dL_merge_9 (fun h5 => ?_)
    refine z_goto (pc := 10) 25 X dL_merge_10 (by decide) ?_
    refine z_iconst (pc := 25) (z := 0) X dL_merge_25 rfl ⟨by decide, by decide⟩ ?_
    refine z_fin (fun e9 => ?_)
    subst e9
    exact hret _ _ _ _ (by decide) (by decide) dL_merge_26
  · obtain ⟨x1, h4⟩ := x1
    have hz9 : x1 = Sum.inr k3 := hz9
    subst hz9
    refine z_ite _ (fun hk9 => ?_) (fun _ => ?_)
    · subst hk9
      refine z_catch 0 (pc := 5) [(0, 10, 13, 27)] [(0, 10, 21, 21)] 0 10 17 13 X hTab rfl (fun z hz => by
          simp only [List.mem_cons, List.not_mem_nil, or_false] at hz
          rcases hz with rfl
          · exact ⟨by decide, "java/lang/IndexOutOfBoundsException", zin (zt2 175 (by decide +kernel)) rfl, by decide +kernel⟩) (by decide) (by decide) (zin (zt2 2 (by decide +kernel)) rfl) (zt2 10 (by decide +kernel)) (fun q8 => ?_)
      refine z_astoreA (pc := 17) (i := 4) (lv' := [(4, zA q8), (0, zR a0), (1, zI a1), (2, zI a2), (3, zR a3)]) X dL_merge_17 (hN _ (by decide)) rfl ?_
      refine z_iconst (pc := 19) (z := 2) X dL_merge_19 rfl ⟨by decide, by decide⟩ ?_
      refine z_fin (fun e9 => ?_)
      subst e9
      exact hret _ _ _ _ (by decide) (by decide) dL_merge_20
    · refine z_ite _ (fun hk9 => ?_) (fun _ => ?_)
      · subst hk9
        refine z_catch 2 (pc := 5) [(0, 10, 13, 27), (0, 10, 17, 13)] [] 0 10 21 21 X hTab rfl (fun z hz => by
            simp only [List.mem_cons, List.not_mem_nil, or_false] at hz
            rcases hz with rfl | rfl
            · exact ⟨by decide, "java/lang/IndexOutOfBoundsException", zin (zt2 175 (by decide +kernel)) rfl, by decide +kernel⟩
            · exact ⟨by decide, "java/lang/IllegalArgumentException", zin (zt2 2 (by decide +kernel)) rfl, by decide +kernel⟩) (by decide) (by decide) (zin (zt2 102 (by decide +kernel)) rfl) (zt2 117 (by decide +kernel)) (fun q7 => ?_)
        refine z_astoreA (pc := 21) (i := 4) (lv' := [(4, zA q7), (0, zR a0), (1, zI a1), (2, zI a2), (3, zR a3)]) X dL_merge_21 (hN _ (by decide)) rfl ?_
        refine z_iconst (pc := 23) (z := 3) X dL_merge_23 rfl ⟨by decide, by decide⟩ ?_
        refine z_fin (fun e9 => ?_)
        subst e9
        exact hret _ _ _ _ (by decide) (by decide) dL_merge_24
      · refine z_ite _ (fun hk9 => ?_) (fun _ => ?_)
        · subst hk9
          refine z_catch 3 (pc := 5) [] [(0, 10, 17, 13), (0, 10, 21, 21)] 0 10 13 27 X hTab rfl (fun z hz => by cases hz) (by decide) (by decide) (zin (zt2 175 (by decide +kernel)) rfl) (zt2 209 (by decide +kernel)) (fun q6 => ?_)
          refine z_astoreA (pc := 13) (i := 4) (lv' := [(4, zA q6), (0, zR a0), (1, zI a1), (2, zI a2), (3, zR a3)]) X dL_merge_13 (hN _ (by decide)) rfl ?_
          refine z_iconst (pc := 15) (z := 1) X dL_merge_15 rfl ⟨by decide, by decide⟩ ?_
          refine z_fin (fun e9 => ?_)
          subst e9
          exact hret _ _ _ _ (by decide) (by decide) dL_merge_16
        · exact z_none
def L_remove (hp : zH) (a0 : Option Nat) (a1 : Int) (a2 : Option Nat) : Option (Int × zH) :=
  ((zobj hp a0 8).bind fun _ => X7_remove hp a0 a1).bind fun x1 =>
  match x1 with
  | (Sum.inl v2, h4) =>
    (zsJ h4 a2 0 ((Int64.ofInt v2))).bind fun h5 =>
    some (0, h5)
  | (Sum.inr k3, h4) =>
    if k3 = 2 then
      some (2, h4)
    else
      if k3 = 3 then
        some (1, h4)
      else
        none
set_option maxRecDepth 20000 in
theorem c_L_remove (hp : zH) (a0 : Option Nat) (a1 : Int) (a2 : Option Nat) : ∀ r, L_remove hp a0 a1 a2 = some r → zMw yL_remove (Cond.codeWith yL_remove cL_remove 4 (some .int) [(0, 9, 12, 27), (0, 9, 15, 21)] :: zALL) { frames := 8, cells := 2, slots := 12, locals := 136 } 2 12 [zR a0, zI a1, zR a2] hp r.1 r.2 := by
  refine zMw_of (own := RL) (cc := cL_remove) (maxL := 4) (ε := Int × zH) (res := fun r => r.1) (hp2 := fun r => r.2) (by decide) rfl (by exact Nat.le_of_ble_eq_true rfl) ?_
  intro K r0 X hnL hTab hret
  have hN : ∀ i, i < 4 → i < K.2.2.2.2.2.2.2.2.2.2.2.2.2.2.1 := by rw [hnL]; exact fun _ h => h
  show zS _ _ (zJ K 0 0 0 [(0, zR a0), (1, zI a1), (2, zR a2)] [] hp)
  unfold L_remove
  refine z_aload_n (pc := 0) (i := 2) 2 X dL_remove_0 rfl rfl ?_
  refine z_iconst (pc := 1) (z := 0) X dL_remove_1 rfl ⟨by decide, by decide⟩ ?_
  refine z_aload_n (pc := 2) (i := 0) 0 X dL_remove_2 rfl rfl ?_
  refine z_iload_n (pc := 3) (i := 1) 1 X dL_remove_3 rfl rfl ?_
  refine z_callXV_i (pc := 4) (cells := 0) (slots := 0) (C := RX7) (T := TX7) (N := 9) (ci := 8) [zI a1] X dL_remove_4 (c_X7_remove hp a0 a1) kw_L_54 rfl rfl ⟨rfl, rfl, ⟨by decide, by decide⟩, ⟨by decide, by decide⟩⟩ (Nat.le_of_ble_eq_true rfl) rfl (fun x1 v2 hz9 => ?_) (fun x1 k3 hz9 => ?_)
  · obtain ⟨x1, h4⟩ := x1
    have hz9 : x1 = Sum.inl v2 := hz9
    subst hz9
    refine z_i2l (pc := 7) X dL_remove_7 ?_
    refine z_lastore (pc := 8) X dL_remove_8 (fun h5 => ?_)
    refine z_goto (pc := 9) 18 X dL_remove_9 (by decide) ?_
    refine z_iconst (pc := 18) (z := 0) X dL_remove_18 rfl ⟨by decide, by decide⟩ ?_
    refine z_fin (fun e9 => ?_)
    subst e9
    exact hret _ _ _ _ (by decide) (by decide) dL_remove_19
  · obtain ⟨x1, h4⟩ := x1
    have hz9 : x1 = Sum.inr k3 := hz9
    subst hz9
    refine z_ite _ (fun hk9 => ?_) (fun _ => ?_)
    · subst hk9
      refine z_catch 2 (pc := 4) [(0, 9, 12, 27)] [] 0 9 15 21 X hTab rfl (fun z hz => by
          simp only [List.mem_cons, List.not_mem_nil, or_false] at hz
          rcases hz with rfl
          · exact ⟨by decide, "java/lang/IndexOutOfBoundsException", zin (zt2 175 (by decide +kernel)) rfl, by decide +kernel⟩) (by decide) (by decide) (zin (zt2 102 (by decide +kernel)) rfl) (zt2 117 (by decide +kernel)) (fun q7 => ?_)
      refine z_astore_nA (pc := 15) (i := 3) (lv' := [(3, zA q7), (0, zR a0), (1, zI a1), (2, zR a2)]) X dL_remove_15 rfl (hN _ (by decide)) rfl ?_
      refine z_iconst (pc := 16) (z := 2) X dL_remove_16 rfl ⟨by decide, by decide⟩ ?_
      refine z_fin (fun e9 => ?_)
      subst e9
      exact hret _ _ _ _ (by decide) (by decide) dL_remove_17
    · refine z_ite _ (fun hk9 => ?_) (fun _ => ?_)
      · subst hk9
        refine z_catch 3 (pc := 4) [] [(0, 9, 15, 21)] 0 9 12 27 X hTab rfl (fun z hz => by cases hz) (by decide) (by decide) (zin (zt2 175 (by decide +kernel)) rfl) (zt2 209 (by decide +kernel)) (fun q6 => ?_)
        refine z_astore_nA (pc := 12) (i := 3) (lv' := [(3, zA q6), (0, zR a0), (1, zI a1), (2, zR a2)]) X dL_remove_12 rfl (hN _ (by decide)) rfl ?_
        refine z_iconst (pc := 13) (z := 1) X dL_remove_13 rfl ⟨by decide, by decide⟩ ?_
        refine z_fin (fun e9 => ?_)
        subst e9
        exact hret _ _ _ _ (by decide) (by decide) dL_remove_14
      · exact z_none
def L_rename (hp : zH) (a0 : Option Nat) (a1 : Int) (a2 : Option Nat) : Option (Int × zH) :=
  ((zobj hp a0 8).bind fun _ => X7_rename hp a0 a1).bind fun x1 =>
  match x1 with
  | (Sum.inl v2, h4) =>
    (zsJ h4 a2 0 ((Int64.ofInt v2))).bind fun h5 =>
    some (0, h5)
  | (Sum.inr k3, h4) =>
    if k3 = 2 then
      some (2, h4)
    else
      if k3 = 3 then
        some (1, h4)
      else
        none
set_option maxRecDepth 20000 in
theorem c_L_rename (hp : zH) (a0 : Option Nat) (a1 : Int) (a2 : Option Nat) : ∀ r, L_rename hp a0 a1 a2 = some r → zMw yL_rename (Cond.codeWith yL_rename cL_rename 4 (some .int) [(0, 9, 12, 27), (0, 9, 15, 21)] :: zALL) { frames := 8, cells := 2, slots := 12, locals := 125 } 2 12 [zR a0, zI a1, zR a2] hp r.1 r.2 := by
  refine zMw_of (own := RL) (cc := cL_rename) (maxL := 4) (ε := Int × zH) (res := fun r => r.1) (hp2 := fun r => r.2) (by decide) rfl (by exact Nat.le_of_ble_eq_true rfl) ?_
  intro K r0 X hnL hTab hret
  have hN : ∀ i, i < 4 → i < K.2.2.2.2.2.2.2.2.2.2.2.2.2.2.1 := by rw [hnL]; exact fun _ h => h
  show zS _ _ (zJ K 0 0 0 [(0, zR a0), (1, zI a1), (2, zR a2)] [] hp)
  unfold L_rename
  refine z_aload_n (pc := 0) (i := 2) 2 X dL_rename_0 rfl rfl ?_
  refine z_iconst (pc := 1) (z := 0) X dL_rename_1 rfl ⟨by decide, by decide⟩ ?_
  refine z_aload_n (pc := 2) (i := 0) 0 X dL_rename_2 rfl rfl ?_
  refine z_iload_n (pc := 3) (i := 1) 1 X dL_rename_3 rfl rfl ?_
  refine z_callXV_i (pc := 4) (cells := 0) (slots := 0) (C := RX7) (T := TX7) (N := 9) (ci := 8) [zI a1] X dL_rename_4 (c_X7_rename hp a0 a1) kw_L_23 rfl rfl ⟨rfl, rfl, ⟨by decide, by decide⟩, ⟨by decide, by decide⟩⟩ (Nat.le_of_ble_eq_true rfl) rfl (fun x1 v2 hz9 => ?_) (fun x1 k3 hz9 => ?_)
  · obtain ⟨x1, h4⟩ := x1
    have hz9 : x1 = Sum.inl v2 := hz9
    subst hz9
    refine z_i2l (pc := 7) X dL_rename_7 ?_
    refine z_lastore (pc := 8) X dL_rename_8 (fun h5 => ?_)
    refine z_goto (pc := 9) 18 X dL_rename_9 (by decide) ?_
    refine z_iconst (pc := 18) (z := 0) X dL_rename_18 rfl ⟨by decide, by decide⟩ ?_
    refine z_fin (fun e9 => ?_)
    subst e9
    exact hret _ _ _ _ (by decide) (by decide) dL_rename_19
  · obtain ⟨x1, h4⟩ := x1
    have hz9 : x1 = Sum.inr k3 := hz9
    subst hz9
    refine z_ite _ (fun hk9 => ?_) (fun _ => ?_)
    · subst hk9
      refine z_catch 2 (pc := 4) [(0, 9, 12, 27)] [] 0 9 15 21 X hTab rfl (fun z hz => by
          simp only [List.mem_cons, List.not_mem_nil, or_false] at hz
          rcases hz with rfl
          · exact ⟨by decide, "java/lang/IndexOutOfBoundsException", zin (zt2 175 (by decide +kernel)) rfl, by decide +kernel⟩) (by decide) (by decide) (zin (zt2 102 (by decide +kernel)) rfl) (zt2 117 (by decide +kernel)) (fun q7 => ?_)
      refine z_astore_nA (pc := 15) (i := 3) (lv' := [(3, zA q7), (0, zR a0), (1, zI a1), (2, zR a2)]) X dL_rename_15 rfl (hN _ (by decide)) rfl ?_
      refine z_iconst (pc := 16) (z := 2) X dL_rename_16 rfl ⟨by decide, by decide⟩ ?_
      refine z_fin (fun e9 => ?_)
      subst e9
      exact hret _ _ _ _ (by decide) (by decide) dL_rename_17
    · refine z_ite _ (fun hk9 => ?_) (fun _ => ?_)
      · subst hk9
        refine z_catch 3 (pc := 4) [] [(0, 9, 15, 21)] 0 9 12 27 X hTab rfl (fun z hz => by cases hz) (by decide) (by decide) (zin (zt2 175 (by decide +kernel)) rfl) (zt2 209 (by decide +kernel)) (fun q6 => ?_)
        refine z_astore_nA (pc := 12) (i := 3) (lv' := [(3, zA q6), (0, zR a0), (1, zI a1), (2, zR a2)]) X dL_rename_12 rfl (hN _ (by decide)) rfl ?_
        refine z_iconst (pc := 13) (z := 1) X dL_rename_13 rfl ⟨by decide, by decide⟩ ?_
        refine z_fin (fun e9 => ?_)
        subst e9
        exact hret _ _ _ _ (by decide) (by decide) dL_rename_14
      · exact z_none
def L_renumber (hp : zH) (a0 : Option Nat) (a1 : Int) (a2 : Option Nat) : Option (Int × zH) :=
  ((zobj hp a0 8).bind fun _ => X7_renumber hp a0 a1).bind fun x1 =>
  match x1 with
  | (Sum.inl v2, h4) =>
    (zsJ h4 a2 0 ((Int64.ofInt v2))).bind fun h5 =>
    some (0, h5)
  | (Sum.inr k3, h4) =>
    if k3 = 2 then
      some (2, h4)
    else
      if k3 = 3 then
        some (1, h4)
      else
        none
set_option maxRecDepth 20000 in
theorem c_L_renumber (hp : zH) (a0 : Option Nat) (a1 : Int) (a2 : Option Nat) : ∀ r, L_renumber hp a0 a1 a2 = some r → zMw yL_renumber (Cond.codeWith yL_renumber cL_renumber 4 (some .int) [(0, 9, 12, 27), (0, 9, 15, 21)] :: zALL) { frames := 8, cells := 2, slots := 12, locals := 148 } 2 12 [zR a0, zI a1, zR a2] hp r.1 r.2 := by
  refine zMw_of (own := RL) (cc := cL_renumber) (maxL := 4) (ε := Int × zH) (res := fun r => r.1) (hp2 := fun r => r.2) (by decide) rfl (by exact Nat.le_of_ble_eq_true rfl) ?_
  intro K r0 X hnL hTab hret
  have hN : ∀ i, i < 4 → i < K.2.2.2.2.2.2.2.2.2.2.2.2.2.2.1 := by rw [hnL]; exact fun _ h => h
  show zS _ _ (zJ K 0 0 0 [(0, zR a0), (1, zI a1), (2, zR a2)] [] hp)
  unfold L_renumber
  refine z_aload_n (pc := 0) (i := 2) 2 X dL_renumber_0 rfl rfl ?_
  refine z_iconst (pc := 1) (z := 0) X dL_renumber_1 rfl ⟨by decide, by decide⟩ ?_
  refine z_aload_n (pc := 2) (i := 0) 0 X dL_renumber_2 rfl rfl ?_
  refine z_iload_n (pc := 3) (i := 1) 1 X dL_renumber_3 rfl rfl ?_
  refine z_callXV_i (pc := 4) (cells := 0) (slots := 0) (C := RX7) (T := TX7) (N := 9) (ci := 8) [zI a1] X dL_renumber_4 (c_X7_renumber hp a0 a1) kw_L_57 rfl rfl ⟨rfl, rfl, ⟨by decide, by decide⟩, ⟨by decide, by decide⟩⟩ (Nat.le_of_ble_eq_true rfl) rfl (fun x1 v2 hz9 => ?_) (fun x1 k3 hz9 => ?_)
  · obtain ⟨x1, h4⟩ := x1
    have hz9 : x1 = Sum.inl v2 := hz9
    subst hz9
    refine z_i2l (pc := 7) X dL_renumber_7 ?_
    refine z_lastore (pc := 8) X dL_renumber_8 (fun h5 => ?_)
    refine z_goto (pc := 9) 18 X dL_renumber_9 (by decide) ?_
    refine z_iconst (pc := 18) (z := 0) X dL_renumber_18 rfl ⟨by decide, by decide⟩ ?_
    refine z_fin (fun e9 => ?_)
    subst e9
    exact hret _ _ _ _ (by decide) (by decide) dL_renumber_19
  · obtain ⟨x1, h4⟩ := x1
    have hz9 : x1 = Sum.inr k3 := hz9
    subst hz9
    refine z_ite _ (fun hk9 => ?_) (fun _ => ?_)
    · subst hk9
      refine z_catch 2 (pc := 4) [(0, 9, 12, 27)] [] 0 9 15 21 X hTab rfl (fun z hz => by
          simp only [List.mem_cons, List.not_mem_nil, or_false] at hz
          rcases hz with rfl
          · exact ⟨by decide, "java/lang/IndexOutOfBoundsException", zin (zt2 175 (by decide +kernel)) rfl, by decide +kernel⟩) (by decide) (by decide) (zin (zt2 102 (by decide +kernel)) rfl) (zt2 117 (by decide +kernel)) (fun q7 => ?_)
      refine z_astore_nA (pc := 15) (i := 3) (lv' := [(3, zA q7), (0, zR a0), (1, zI a1), (2, zR a2)]) X dL_renumber_15 rfl (hN _ (by decide)) rfl ?_
      refine z_iconst (pc := 16) (z := 2) X dL_renumber_16 rfl ⟨by decide, by decide⟩ ?_
      refine z_fin (fun e9 => ?_)
      subst e9
      exact hret _ _ _ _ (by decide) (by decide) dL_renumber_17
    · refine z_ite _ (fun hk9 => ?_) (fun _ => ?_)
      · subst hk9
        refine z_catch 3 (pc := 4) [] [(0, 9, 15, 21)] 0 9 12 27 X hTab rfl (fun z hz => by cases hz) (by decide) (by decide) (zin (zt2 175 (by decide +kernel)) rfl) (zt2 209 (by decide +kernel)) (fun q6 => ?_)
        refine z_astore_nA (pc := 12) (i := 3) (lv' := [(3, zA q6), (0, zR a0), (1, zI a1), (2, zR a2)]) X dL_renumber_12 rfl (hN _ (by decide)) rfl ?_
        refine z_iconst (pc := 13) (z := 1) X dL_renumber_13 rfl ⟨by decide, by decide⟩ ?_
        refine z_fin (fun e9 => ?_)
        subst e9
        exact hret _ _ _ _ (by decide) (by decide) dL_renumber_14
      · exact z_none
def L_send (hp : zH) (a0 : Option Nat) (a1 : Int) (a2 : Option Nat) : Option (Int × zH) :=
  ((zobj hp a0 8).bind fun _ => X7_send hp a0 a1).bind fun x1 =>
  match x1 with
  | Sum.inl v2 =>
    (zsJ hp a2 0 ((Int64.ofInt v2))).bind fun h4 =>
    some (0, h4)
  | Sum.inr k3 =>
    if k3 = 2 then
      some (2, hp)
    else
      if k3 = 4 then
        some (1, hp)
      else
        none
set_option maxRecDepth 20000 in
theorem c_L_send (hp : zH) (a0 : Option Nat) (a1 : Int) (a2 : Option Nat) : ∀ r, L_send hp a0 a1 a2 = some r → zMw yL_send (Cond.codeWith yL_send cL_send 4 (some .int) [(0, 9, 12, 36), (0, 9, 15, 21)] :: zALL) { frames := 7, cells := 1, slots := 6, locals := 119 } 1 6 [zR a0, zI a1, zR a2] hp r.1 r.2 := by
  refine zMw_of (own := RL) (cc := cL_send) (maxL := 4) (ε := Int × zH) (res := fun r => r.1) (hp2 := fun r => r.2) (by decide) rfl (by exact Nat.le_of_ble_eq_true rfl) ?_
  intro K r0 X hnL hTab hret
  have hN : ∀ i, i < 4 → i < K.2.2.2.2.2.2.2.2.2.2.2.2.2.2.1 := by rw [hnL]; exact fun _ h => h
  show zS _ _ (zJ K 0 0 0 [(0, zR a0), (1, zI a1), (2, zR a2)] [] hp)
  unfold L_send
  refine z_aload_n (pc := 0) (i := 2) 2 X dL_send_0 rfl rfl ?_
  refine z_iconst (pc := 1) (z := 0) X dL_send_1 rfl ⟨by decide, by decide⟩ ?_
  refine z_aload_n (pc := 2) (i := 0) 0 X dL_send_2 rfl rfl ?_
  refine z_iload_n (pc := 3) (i := 1) 1 X dL_send_3 rfl rfl ?_
  refine z_callXV_i (pc := 4) (cells := 0) (slots := 0) (C := RX7) (T := TX7) (N := 9) (ci := 8) [zI a1] X dL_send_4 (c_X7_send hp a0 a1) kw_L_80 rfl rfl ⟨rfl, rfl, ⟨by decide, by decide⟩, ⟨by decide, by decide⟩⟩ (Nat.le_of_ble_eq_true rfl) rfl (fun x1 v2 hz9 => ?_) (fun x1 k3 hz9 => ?_)
  · have hz9 : x1 = Sum.inl v2 := hz9
    subst hz9
    refine z_i2l (pc := 7) X dL_send_7 ?_
    refine z_lastore (pc := 8) X dL_send_8 (fun h4 => ?_)
    refine z_goto (pc := 9) 18 X dL_send_9 (by decide) ?_
    refine z_iconst (pc := 18) (z := 0) X dL_send_18 rfl ⟨by decide, by decide⟩ ?_
    refine z_fin (fun e9 => ?_)
    subst e9
    exact hret _ _ _ _ (by decide) (by decide) dL_send_19
  · have hz9 : x1 = Sum.inr k3 := hz9
    subst hz9
    refine z_ite _ (fun hk9 => ?_) (fun _ => ?_)
    · subst hk9
      refine z_catch 2 (pc := 4) [(0, 9, 12, 36)] [] 0 9 15 21 X hTab rfl (fun z hz => by
          simp only [List.mem_cons, List.not_mem_nil, or_false] at hz
          rcases hz with rfl
          · exact ⟨by decide, "java/util/NoSuchElementException", zin (zt3 9 (by decide +kernel)) rfl, by decide +kernel⟩) (by decide) (by decide) (zin (zt2 102 (by decide +kernel)) rfl) (zt2 117 (by decide +kernel)) (fun q6 => ?_)
      refine z_astore_nA (pc := 15) (i := 3) (lv' := [(3, zA q6), (0, zR a0), (1, zI a1), (2, zR a2)]) X dL_send_15 rfl (hN _ (by decide)) rfl ?_
      refine z_iconst (pc := 16) (z := 2) X dL_send_16 rfl ⟨by decide, by decide⟩ ?_
      refine z_fin (fun e9 => ?_)
      subst e9
      exact hret _ _ _ _ (by decide) (by decide) dL_send_17
    · refine z_ite _ (fun hk9 => ?_) (fun _ => ?_)
      · subst hk9
        refine z_catch 4 (pc := 4) [] [(0, 9, 15, 21)] 0 9 12 36 X hTab rfl (fun z hz => by cases hz) (by decide) (by decide) (zin (zt3 9 (by decide +kernel)) rfl) (zt3 16 (by decide +kernel)) (fun q5 => ?_)
        refine z_astore_nA (pc := 12) (i := 3) (lv' := [(3, zA q5), (0, zR a0), (1, zI a1), (2, zR a2)]) X dL_send_12 rfl (hN _ (by decide)) rfl ?_
        refine z_iconst (pc := 13) (z := 1) X dL_send_13 rfl ⟨by decide, by decide⟩ ?_
        refine z_fin (fun e9 => ?_)
        subst e9
        exact hret _ _ _ _ (by decide) (by decide) dL_send_14
      · exact z_none
def L_steps (hp : zH) (a0 : Option Nat) (a1 : Int) (a2 : Option Nat) : Option (Int × zH) :=
  ((zobj hp a0 8).bind fun _ => X7_steps hp a0 a1).bind fun x1 =>
  match x1 with
  | (Sum.inl v2, h4) =>
    (zsJ h4 a2 0 ((Int64.ofInt v2))).bind fun h5 =>
    some (0, h5)
  | (Sum.inr k3, h4) =>
    if k3 = 3 then
      some (1, h4)
    else
      none
set_option maxRecDepth 20000 in
theorem c_L_steps (hp : zH) (a0 : Option Nat) (a1 : Int) (a2 : Option Nat) : ∀ r, L_steps hp a0 a1 a2 = some r → zMw yL_steps (Cond.codeWith yL_steps cL_steps 4 (some .int) [(0, 9, 12, 27)] :: zALL) { frames := 8, cells := 1, slots := 6, locals := 129 } 1 6 [zR a0, zI a1, zR a2] hp r.1 r.2 := by
  refine zMw_of (own := RL) (cc := cL_steps) (maxL := 4) (ε := Int × zH) (res := fun r => r.1) (hp2 := fun r => r.2) (by decide) rfl (by exact Nat.le_of_ble_eq_true rfl) ?_
  intro K r0 X hnL hTab hret
  have hN : ∀ i, i < 4 → i < K.2.2.2.2.2.2.2.2.2.2.2.2.2.2.1 := by rw [hnL]; exact fun _ h => h
  show zS _ _ (zJ K 0 0 0 [(0, zR a0), (1, zI a1), (2, zR a2)] [] hp)
  unfold L_steps
  refine z_aload_n (pc := 0) (i := 2) 2 X dL_steps_0 rfl rfl ?_
  refine z_iconst (pc := 1) (z := 0) X dL_steps_1 rfl ⟨by decide, by decide⟩ ?_
  refine z_aload_n (pc := 2) (i := 0) 0 X dL_steps_2 rfl rfl ?_
  refine z_iload_n (pc := 3) (i := 1) 1 X dL_steps_3 rfl rfl ?_
  refine z_callXV_i (pc := 4) (cells := 0) (slots := 0) (C := RX7) (T := TX7) (N := 9) (ci := 8) [zI a1] X dL_steps_4 (c_X7_steps hp a0 a1) kw_L_92 rfl rfl ⟨rfl, rfl, ⟨by decide, by decide⟩, ⟨by decide, by decide⟩⟩ (Nat.le_of_ble_eq_true rfl) rfl (fun x1 v2 hz9 => ?_) (fun x1 k3 hz9 => ?_)
  · obtain ⟨x1, h4⟩ := x1
    have hz9 : x1 = Sum.inl v2 := hz9
    subst hz9
    refine z_i2l (pc := 7) X dL_steps_7 ?_
    refine z_lastore (pc := 8) X dL_steps_8 (fun h5 => ?_)
    refine z_goto (pc := 9) 15 X dL_steps_9 (by decide) ?_
    refine z_iconst (pc := 15) (z := 0) X dL_steps_15 rfl ⟨by decide, by decide⟩ ?_
    refine z_fin (fun e9 => ?_)
    subst e9
    exact hret _ _ _ _ (by decide) (by decide) dL_steps_16
  · obtain ⟨x1, h4⟩ := x1
    have hz9 : x1 = Sum.inr k3 := hz9
    subst hz9
    refine z_ite _ (fun hk9 => ?_) (fun _ => ?_)
    · subst hk9
      refine z_catch 3 (pc := 4) [] [] 0 9 12 27 X hTab rfl (fun z hz => by cases hz) (by decide) (by decide) (zin (zt2 175 (by decide +kernel)) rfl) (zt2 209 (by decide +kernel)) (fun q6 => ?_)
      refine z_astore_nA (pc := 12) (i := 3) (lv' := [(3, zA q6), (0, zR a0), (1, zI a1), (2, zR a2)]) X dL_steps_12 rfl (hN _ (by decide)) rfl ?_
      refine z_iconst (pc := 13) (z := 1) X dL_steps_13 rfl ⟨by decide, by decide⟩ ?_
      refine z_fin (fun e9 => ?_)
      subst e9
      exact hret _ _ _ _ (by decide) (by decide) dL_steps_14
    · exact z_none
def L_street (hp : zH) (a0 : Option Nat) (a1 : Int) (a2 : Int) (a3 : Int) (a4 : Option Nat) : Option (Int × zH) :=
  ((zobj hp a0 8).bind fun _ => X7_street hp a0 a1 a2 a3).bind fun x1 =>
  match x1 with
  | (Sum.inl v2, h4) =>
    (zsJ h4 a4 0 ((Int64.ofInt v2))).bind fun h5 =>
    some (0, h5)
  | (Sum.inr k3, h4) =>
    if k3 = 0 then
      some (1, h4)
    else
      if k3 = 1 then
        some (3, h4)
      else
        if k3 = 2 then
          some (2, h4)
        else
          none
set_option maxRecDepth 20000 in
theorem c_L_street (hp : zH) (a0 : Option Nat) (a1 : Int) (a2 : Int) (a3 : Int) (a4 : Option Nat) : ∀ r, L_street hp a0 a1 a2 a3 a4 = some r → zMw yL_street (Cond.codeWith yL_street cL_street 6 (some .int) [(0, 12, 15, 13), (0, 12, 19, 21), (0, 12, 23, 15)] :: zALL) { frames := 7, cells := 1, slots := 8, locals := 106 } 1 8 [zR a0, zI a1, zI a2, zI a3, zR a4] hp r.1 r.2 := by
  refine zMw_of (own := RL) (cc := cL_street) (maxL := 6) (ε := Int × zH) (res := fun r => r.1) (hp2 := fun r => r.2) (by decide) rfl (by exact Nat.le_of_ble_eq_true rfl) ?_
  intro K r0 X hnL hTab hret
  have hN : ∀ i, i < 6 → i < K.2.2.2.2.2.2.2.2.2.2.2.2.2.2.1 := by rw [hnL]; exact fun _ h => h
  show zS _ _ (zJ K 0 0 0 [(0, zR a0), (1, zI a1), (2, zI a2), (3, zI a3), (4, zR a4)] [] hp)
  unfold L_street
  refine z_aload (pc := 0) (i := 4) 4 X dL_street_0 rfl ?_
  refine z_iconst (pc := 2) (z := 0) X dL_street_2 rfl ⟨by decide, by decide⟩ ?_
  refine z_aload_n (pc := 3) (i := 0) 0 X dL_street_3 rfl rfl ?_
  refine z_iload_n (pc := 4) (i := 1) 1 X dL_street_4 rfl rfl ?_
  refine z_iload_n (pc := 5) (i := 2) 2 X dL_street_5 rfl rfl ?_
  refine z_iload_n (pc := 6) (i := 3) 3 X dL_street_6 rfl rfl ?_
  refine z_callXV_i (pc := 7) (cells := 0) (slots := 0) (C := RX7) (T := TX7) (N := 9) (ci := 8) [zI a1, zI a2, zI a3] X dL_street_7 (c_X7_street hp a0 a1 a2 a3) kw_L_17 rfl rfl ⟨rfl, rfl, ⟨by decide, by decide⟩, ⟨by decide, by decide⟩⟩ (Nat.le_of_ble_eq_true rfl) rfl (fun x1 v2 hz9 => ?_) (fun x1 k3 hz9 => ?_)
  · obtain ⟨x1, h4⟩ := x1
    have hz9 : x1 = Sum.inl v2 := hz9
    subst hz9
    refine z_i2l (pc := 10) X dL_street_10 ?_
    refine z_lastore (pc := 11) X dL_street_11 (fun h5 => ?_)
    refine z_goto (pc := 12) 27 X dL_street_12 (by decide) ?_
    refine z_iconst (pc := 27) (z := 0) X dL_street_27 rfl ⟨by decide, by decide⟩ ?_
    refine z_fin (fun e9 => ?_)
    subst e9
    exact hret _ _ _ _ (by decide) (by decide) dL_street_28
  · obtain ⟨x1, h4⟩ := x1
    have hz9 : x1 = Sum.inr k3 := hz9
    subst hz9
    refine z_ite _ (fun hk9 => ?_) (fun _ => ?_)
    · subst hk9
      refine z_catch 0 (pc := 7) [] [(0, 12, 19, 21), (0, 12, 23, 15)] 0 12 15 13 X hTab rfl (fun z hz => by cases hz) (by decide) (by decide) (zin (zt2 2 (by decide +kernel)) rfl) (zt2 10 (by decide +kernel)) (fun q8 => ?_)
      refine z_astoreA (pc := 15) (i := 5) (lv' := [(5, zA q8), (0, zR a0), (1, zI a1), (2, zI a2), (3, zI a3), (4, zR a4)]) X dL_street_15 (hN _ (by decide)) rfl ?_
      refine z_iconst (pc := 17) (z := 1) X dL_street_17 rfl ⟨by decide, by decide⟩ ?_
      refine z_fin (fun e9 => ?_)
      subst e9
      exact hret _ _ _ _ (by decide) (by decide) dL_street_18
    · refine z_ite _ (fun hk9 => ?_) (fun _ => ?_)
      · subst hk9
        refine z_catch 1 (pc := 7) [(0, 12, 15, 13), (0, 12, 19, 21)] [] 0 12 23 15 X hTab rfl (fun z hz => by
            simp only [List.mem_cons, List.not_mem_nil, or_false] at hz
            rcases hz with rfl | rfl
            · exact ⟨by decide, "java/lang/IllegalArgumentException", zin (zt2 2 (by decide +kernel)) rfl, by decide +kernel⟩
            · exact ⟨by decide, "java/lang/UnsupportedOperationException", zin (zt2 102 (by decide +kernel)) rfl, by decide +kernel⟩) (by decide) (by decide) (zin (zt2 3 (by decide +kernel)) rfl) (zt2 82 (by decide +kernel)) (fun q7 => ?_)
        refine z_astoreA (pc := 23) (i := 5) (lv' := [(5, zA q7), (0, zR a0), (1, zI a1), (2, zI a2), (3, zI a3), (4, zR a4)]) X dL_street_23 (hN _ (by decide)) rfl ?_
        refine z_iconst (pc := 25) (z := 3) X dL_street_25 rfl ⟨by decide, by decide⟩ ?_
        refine z_fin (fun e9 => ?_)
        subst e9
        exact hret _ _ _ _ (by decide) (by decide) dL_street_26
      · refine z_ite _ (fun hk9 => ?_) (fun _ => ?_)
        · subst hk9
          refine z_catch 2 (pc := 7) [(0, 12, 15, 13)] [(0, 12, 23, 15)] 0 12 19 21 X hTab rfl (fun z hz => by
              simp only [List.mem_cons, List.not_mem_nil, or_false] at hz
              rcases hz with rfl
              · exact ⟨by decide, "java/lang/IllegalArgumentException", zin (zt2 2 (by decide +kernel)) rfl, by decide +kernel⟩) (by decide) (by decide) (zin (zt2 102 (by decide +kernel)) rfl) (zt2 117 (by decide +kernel)) (fun q6 => ?_)
          refine z_astoreA (pc := 19) (i := 5) (lv' := [(5, zA q6), (0, zR a0), (1, zI a1), (2, zI a2), (3, zI a3), (4, zR a4)]) X dL_street_19 (hN _ (by decide)) rfl ?_
          refine z_iconst (pc := 21) (z := 2) X dL_street_21 rfl ⟨by decide, by decide⟩ ?_
          refine z_fin (fun e9 => ?_)
          subst e9
          exact hret _ _ _ _ (by decide) (by decide) dL_street_22
        · exact z_none
def L_streetOf (hp : zH) (a0 : Option Nat) (a1 : Int) (a2 : Int) (a3 : Option Nat) : Option (Int × zH) :=
  ((zobj hp a0 8).bind fun _ => X7_streetOf hp a0 a1 a2).bind fun x1 =>
  match x1 with
  | Sum.inl v2 =>
    (zsJ hp a3 0 ((Int64.ofInt v2))).bind fun h4 =>
    some (0, h4)
  | Sum.inr k3 =>
    if k3 = 3 then
      some (1, hp)
    else
      if k3 = 4 then
        some (2, hp)
      else
        none
set_option maxRecDepth 20000 in
theorem c_L_streetOf (hp : zH) (a0 : Option Nat) (a1 : Int) (a2 : Int) (a3 : Option Nat) : ∀ r, L_streetOf hp a0 a1 a2 a3 = some r → zMw yL_streetOf (Cond.codeWith yL_streetOf cL_streetOf 5 (some .int) [(0, 10, 13, 27), (0, 10, 17, 36)] :: zALL) { frames := 8, cells := 2, slots := 12, locals := 128 } 2 12 [zR a0, zI a1, zI a2, zR a3] hp r.1 r.2 := by
  refine zMw_of (own := RL) (cc := cL_streetOf) (maxL := 5) (ε := Int × zH) (res := fun r => r.1) (hp2 := fun r => r.2) (by decide) rfl (by exact Nat.le_of_ble_eq_true rfl) ?_
  intro K r0 X hnL hTab hret
  have hN : ∀ i, i < 5 → i < K.2.2.2.2.2.2.2.2.2.2.2.2.2.2.1 := by rw [hnL]; exact fun _ h => h
  show zS _ _ (zJ K 0 0 0 [(0, zR a0), (1, zI a1), (2, zI a2), (3, zR a3)] [] hp)
  unfold L_streetOf
  refine z_aload_n (pc := 0) (i := 3) 3 X dL_streetOf_0 rfl rfl ?_
  refine z_iconst (pc := 1) (z := 0) X dL_streetOf_1 rfl ⟨by decide, by decide⟩ ?_
  refine z_aload_n (pc := 2) (i := 0) 0 X dL_streetOf_2 rfl rfl ?_
  refine z_iload_n (pc := 3) (i := 1) 1 X dL_streetOf_3 rfl rfl ?_
  refine z_iload_n (pc := 4) (i := 2) 2 X dL_streetOf_4 rfl rfl ?_
  refine z_callXV_i (pc := 5) (cells := 0) (slots := 0) (C := RX7) (T := TX7) (N := 9) (ci := 8) [zI a1, zI a2] X dL_streetOf_5 (c_X7_streetOf hp a0 a1 a2) kw_L_70 rfl rfl ⟨rfl, rfl, ⟨by decide, by decide⟩, ⟨by decide, by decide⟩⟩ (Nat.le_of_ble_eq_true rfl) rfl (fun x1 v2 hz9 => ?_) (fun x1 k3 hz9 => ?_)
  · have hz9 : x1 = Sum.inl v2 := hz9
    subst hz9
    refine z_i2l (pc := 8) X dL_streetOf_8 ?_
    refine z_lastore (pc := 9) X dL_streetOf_9 (fun h4 => ?_)
    refine z_goto (pc := 10) 21 X dL_streetOf_10 (by decide) ?_
    refine z_iconst (pc := 21) (z := 0) X dL_streetOf_21 rfl ⟨by decide, by decide⟩ ?_
    refine z_fin (fun e9 => ?_)
    subst e9
    exact hret _ _ _ _ (by decide) (by decide) dL_streetOf_22
  · have hz9 : x1 = Sum.inr k3 := hz9
    subst hz9
    refine z_ite _ (fun hk9 => ?_) (fun _ => ?_)
    · subst hk9
      refine z_catch 3 (pc := 5) [] [(0, 10, 17, 36)] 0 10 13 27 X hTab rfl (fun z hz => by cases hz) (by decide) (by decide) (zin (zt2 175 (by decide +kernel)) rfl) (zt2 209 (by decide +kernel)) (fun q6 => ?_)
      refine z_astoreA (pc := 13) (i := 4) (lv' := [(4, zA q6), (0, zR a0), (1, zI a1), (2, zI a2), (3, zR a3)]) X dL_streetOf_13 (hN _ (by decide)) rfl ?_
      refine z_iconst (pc := 15) (z := 1) X dL_streetOf_15 rfl ⟨by decide, by decide⟩ ?_
      refine z_fin (fun e9 => ?_)
      subst e9
      exact hret _ _ _ _ (by decide) (by decide) dL_streetOf_16
    · refine z_ite _ (fun hk9 => ?_) (fun _ => ?_)
      · subst hk9
        refine z_catch 4 (pc := 5) [(0, 10, 13, 27)] [] 0 10 17 36 X hTab rfl (fun z hz => by
            simp only [List.mem_cons, List.not_mem_nil, or_false] at hz
            rcases hz with rfl
            · exact ⟨by decide, "java/lang/IndexOutOfBoundsException", zin (zt2 175 (by decide +kernel)) rfl, by decide +kernel⟩) (by decide) (by decide) (zin (zt3 9 (by decide +kernel)) rfl) (zt3 16 (by decide +kernel)) (fun q5 => ?_)
        refine z_astoreA (pc := 17) (i := 4) (lv' := [(4, zA q5), (0, zR a0), (1, zI a1), (2, zI a2), (3, zR a3)]) X dL_streetOf_17 (hN _ (by decide)) rfl ?_
        refine z_iconst (pc := 19) (z := 2) X dL_streetOf_19 rfl ⟨by decide, by decide⟩ ?_
        refine z_fin (fun e9 => ?_)
        subst e9
        exact hret _ _ _ _ (by decide) (by decide) dL_streetOf_20
      · exact z_none
def L_translate (hp : zH) (a0 : Option Nat) (a1 : Int) (a2 : Option Nat) : Option (Int × zH) :=
  ((zobj hp a0 8).bind fun _ => X7_translate hp a0 a1).bind fun x1 =>
  match x1 with
  | (Sum.inl v2, h4) =>
    (zsJ h4 a2 0 ((Int64.ofInt v2))).bind fun h5 =>
    some (0, h5)
  | (Sum.inr k3, h4) =>
    if k3 = 2 then
      some (2, h4)
    else
      if k3 = 3 then
        some (1, h4)
      else
        none
set_option maxRecDepth 20000 in
theorem c_L_translate (hp : zH) (a0 : Option Nat) (a1 : Int) (a2 : Option Nat) : ∀ r, L_translate hp a0 a1 a2 = some r → zMw yL_translate (Cond.codeWith yL_translate cL_translate 4 (some .int) [(0, 9, 12, 27), (0, 9, 15, 21)] :: zALL) { frames := 8, cells := 2, slots := 12, locals := 125 } 2 12 [zR a0, zI a1, zR a2] hp r.1 r.2 := by
  refine zMw_of (own := RL) (cc := cL_translate) (maxL := 4) (ε := Int × zH) (res := fun r => r.1) (hp2 := fun r => r.2) (by decide) rfl (by exact Nat.le_of_ble_eq_true rfl) ?_
  intro K r0 X hnL hTab hret
  have hN : ∀ i, i < 4 → i < K.2.2.2.2.2.2.2.2.2.2.2.2.2.2.1 := by rw [hnL]; exact fun _ h => h
  show zS _ _ (zJ K 0 0 0 [(0, zR a0), (1, zI a1), (2, zR a2)] [] hp)
  unfold L_translate
  refine z_aload_n (pc := 0) (i := 2) 2 X dL_translate_0 rfl rfl ?_
  refine z_iconst (pc := 1) (z := 0) X dL_translate_1 rfl ⟨by decide, by decide⟩ ?_
  refine z_aload_n (pc := 2) (i := 0) 0 X dL_translate_2 rfl rfl ?_
  refine z_iload_n (pc := 3) (i := 1) 1 X dL_translate_3 rfl rfl ?_
  refine z_callXV_i (pc := 4) (cells := 0) (slots := 0) (C := RX7) (T := TX7) (N := 9) (ci := 8) [zI a1] X dL_translate_4 (c_X7_translate hp a0 a1) kw_L_29 rfl rfl ⟨rfl, rfl, ⟨by decide, by decide⟩, ⟨by decide, by decide⟩⟩ (Nat.le_of_ble_eq_true rfl) rfl (fun x1 v2 hz9 => ?_) (fun x1 k3 hz9 => ?_)
  · obtain ⟨x1, h4⟩ := x1
    have hz9 : x1 = Sum.inl v2 := hz9
    subst hz9
    refine z_i2l (pc := 7) X dL_translate_7 ?_
    refine z_lastore (pc := 8) X dL_translate_8 (fun h5 => ?_)
    refine z_goto (pc := 9) 18 X dL_translate_9 (by decide) ?_
    refine z_iconst (pc := 18) (z := 0) X dL_translate_18 rfl ⟨by decide, by decide⟩ ?_
    refine z_fin (fun e9 => ?_)
    subst e9
    exact hret _ _ _ _ (by decide) (by decide) dL_translate_19
  · obtain ⟨x1, h4⟩ := x1
    have hz9 : x1 = Sum.inr k3 := hz9
    subst hz9
    refine z_ite _ (fun hk9 => ?_) (fun _ => ?_)
    · subst hk9
      refine z_catch 2 (pc := 4) [(0, 9, 12, 27)] [] 0 9 15 21 X hTab rfl (fun z hz => by
          simp only [List.mem_cons, List.not_mem_nil, or_false] at hz
          rcases hz with rfl
          · exact ⟨by decide, "java/lang/IndexOutOfBoundsException", zin (zt2 175 (by decide +kernel)) rfl, by decide +kernel⟩) (by decide) (by decide) (zin (zt2 102 (by decide +kernel)) rfl) (zt2 117 (by decide +kernel)) (fun q7 => ?_)
      refine z_astore_nA (pc := 15) (i := 3) (lv' := [(3, zA q7), (0, zR a0), (1, zI a1), (2, zR a2)]) X dL_translate_15 rfl (hN _ (by decide)) rfl ?_
      refine z_iconst (pc := 16) (z := 2) X dL_translate_16 rfl ⟨by decide, by decide⟩ ?_
      refine z_fin (fun e9 => ?_)
      subst e9
      exact hret _ _ _ _ (by decide) (by decide) dL_translate_17
    · refine z_ite _ (fun hk9 => ?_) (fun _ => ?_)
      · subst hk9
        refine z_catch 3 (pc := 4) [] [(0, 9, 15, 21)] 0 9 12 27 X hTab rfl (fun z hz => by cases hz) (by decide) (by decide) (zin (zt2 175 (by decide +kernel)) rfl) (zt2 209 (by decide +kernel)) (fun q6 => ?_)
        refine z_astore_nA (pc := 12) (i := 3) (lv' := [(3, zA q6), (0, zR a0), (1, zI a1), (2, zR a2)]) X dL_translate_12 rfl (hN _ (by decide)) rfl ?_
        refine z_iconst (pc := 13) (z := 1) X dL_translate_13 rfl ⟨by decide, by decide⟩ ?_
        refine z_fin (fun e9 => ?_)
        subst e9
        exact hret _ _ _ _ (by decide) (by decide) dL_translate_14
      · exact z_none
def L_type (hp : zH) (a0 : Option Nat) (a1 : Int) (a2 : Option Nat) : Option (Int × zH) :=
  ((zobj hp a0 8).bind fun _ => X7_type hp a0 a1).bind fun x1 =>
  match x1 with
  | (Sum.inl v2, h4) =>
    (zsJ h4 a2 0 ((Int64.ofInt v2))).bind fun h5 =>
    some (0, h5)
  | (Sum.inr k3, h4) =>
    if k3 = 0 then
      some (1, h4)
    else
      if k3 = 1 then
        some (2, h4)
      else
        none
set_option maxRecDepth 20000 in
theorem c_L_type (hp : zH) (a0 : Option Nat) (a1 : Int) (a2 : Option Nat) : ∀ r, L_type hp a0 a1 a2 = some r → zMw yL_type (Cond.codeWith yL_type cL_type 4 (some .int) [(0, 9, 12, 13), (0, 9, 15, 15)] :: zALL) { frames := 7, cells := 1, slots := 6, locals := 104 } 1 6 [zR a0, zI a1, zR a2] hp r.1 r.2 := by
  refine zMw_of (own := RL) (cc := cL_type) (maxL := 4) (ε := Int × zH) (res := fun r => r.1) (hp2 := fun r => r.2) (by decide) rfl (by exact Nat.le_of_ble_eq_true rfl) ?_
  intro K r0 X hnL hTab hret
  have hN : ∀ i, i < 4 → i < K.2.2.2.2.2.2.2.2.2.2.2.2.2.2.1 := by rw [hnL]; exact fun _ h => h
  show zS _ _ (zJ K 0 0 0 [(0, zR a0), (1, zI a1), (2, zR a2)] [] hp)
  unfold L_type
  refine z_aload_n (pc := 0) (i := 2) 2 X dL_type_0 rfl rfl ?_
  refine z_iconst (pc := 1) (z := 0) X dL_type_1 rfl ⟨by decide, by decide⟩ ?_
  refine z_aload_n (pc := 2) (i := 0) 0 X dL_type_2 rfl rfl ?_
  refine z_iload_n (pc := 3) (i := 1) 1 X dL_type_3 rfl rfl ?_
  refine z_callXV_i (pc := 4) (cells := 0) (slots := 0) (C := RX7) (T := TX7) (N := 9) (ci := 8) [zI a1] X dL_type_4 (c_X7_type hp a0 a1) kw_L_7 rfl rfl ⟨rfl, rfl, ⟨by decide, by decide⟩, ⟨by decide, by decide⟩⟩ (Nat.le_of_ble_eq_true rfl) rfl (fun x1 v2 hz9 => ?_) (fun x1 k3 hz9 => ?_)
  · obtain ⟨x1, h4⟩ := x1
    have hz9 : x1 = Sum.inl v2 := hz9
    subst hz9
    refine z_i2l (pc := 7) X dL_type_7 ?_
    refine z_lastore (pc := 8) X dL_type_8 (fun h5 => ?_)
    refine z_goto (pc := 9) 18 X dL_type_9 (by decide) ?_
    refine z_iconst (pc := 18) (z := 0) X dL_type_18 rfl ⟨by decide, by decide⟩ ?_
    refine z_fin (fun e9 => ?_)
    subst e9
    exact hret _ _ _ _ (by decide) (by decide) dL_type_19
  · obtain ⟨x1, h4⟩ := x1
    have hz9 : x1 = Sum.inr k3 := hz9
    subst hz9
    refine z_ite _ (fun hk9 => ?_) (fun _ => ?_)
    · subst hk9
      refine z_catch 0 (pc := 4) [] [(0, 9, 15, 15)] 0 9 12 13 X hTab rfl (fun z hz => by cases hz) (by decide) (by decide) (zin (zt2 2 (by decide +kernel)) rfl) (zt2 10 (by decide +kernel)) (fun q7 => ?_)
      refine z_astore_nA (pc := 12) (i := 3) (lv' := [(3, zA q7), (0, zR a0), (1, zI a1), (2, zR a2)]) X dL_type_12 rfl (hN _ (by decide)) rfl ?_
      refine z_iconst (pc := 13) (z := 1) X dL_type_13 rfl ⟨by decide, by decide⟩ ?_
      refine z_fin (fun e9 => ?_)
      subst e9
      exact hret _ _ _ _ (by decide) (by decide) dL_type_14
    · refine z_ite _ (fun hk9 => ?_) (fun _ => ?_)
      · subst hk9
        refine z_catch 1 (pc := 4) [(0, 9, 12, 13)] [] 0 9 15 15 X hTab rfl (fun z hz => by
            simp only [List.mem_cons, List.not_mem_nil, or_false] at hz
            rcases hz with rfl
            · exact ⟨by decide, "java/lang/IllegalArgumentException", zin (zt2 2 (by decide +kernel)) rfl, by decide +kernel⟩) (by decide) (by decide) (zin (zt2 3 (by decide +kernel)) rfl) (zt2 82 (by decide +kernel)) (fun q6 => ?_)
        refine z_astore_nA (pc := 15) (i := 3) (lv' := [(3, zA q6), (0, zR a0), (1, zI a1), (2, zR a2)]) X dL_type_15 rfl (hN _ (by decide)) rfl ?_
        refine z_iconst (pc := 16) (z := 2) X dL_type_16 rfl ⟨by decide, by decide⟩ ?_
        refine z_fin (fun e9 => ?_)
        subst e9
        exact hret _ _ _ _ (by decide) (by decide) dL_type_17
      · exact z_none
def L_until (hp : zH) (a0 : Option Nat) (a1 : Int) (a2 : Option Nat) : Option (Int × zH) :=
  ((zobj hp a0 8).bind fun _ => X7_until hp a0 a1).bind fun x1 =>
  match x1 with
  | Sum.inl v2 =>
    (zsJ hp a2 0 ((Int64.ofInt v2))).bind fun h4 =>
    some (0, h4)
  | Sum.inr k3 =>
    if k3 = 4 then
      some (1, hp)
    else
      none
set_option maxRecDepth 20000 in
theorem c_L_until (hp : zH) (a0 : Option Nat) (a1 : Int) (a2 : Option Nat) : ∀ r, L_until hp a0 a1 a2 = some r → zMw yL_until (Cond.codeWith yL_until cL_until 4 (some .int) [(0, 9, 12, 36)] :: zALL) { frames := 7, cells := 1, slots := 6, locals := 104 } 1 6 [zR a0, zI a1, zR a2] hp r.1 r.2 := by
  refine zMw_of (own := RL) (cc := cL_until) (maxL := 4) (ε := Int × zH) (res := fun r => r.1) (hp2 := fun r => r.2) (by decide) rfl (by exact Nat.le_of_ble_eq_true rfl) ?_
  intro K r0 X hnL hTab hret
  have hN : ∀ i, i < 4 → i < K.2.2.2.2.2.2.2.2.2.2.2.2.2.2.1 := by rw [hnL]; exact fun _ h => h
  show zS _ _ (zJ K 0 0 0 [(0, zR a0), (1, zI a1), (2, zR a2)] [] hp)
  unfold L_until
  refine z_aload_n (pc := 0) (i := 2) 2 X dL_until_0 rfl rfl ?_
  refine z_iconst (pc := 1) (z := 0) X dL_until_1 rfl ⟨by decide, by decide⟩ ?_
  refine z_aload_n (pc := 2) (i := 0) 0 X dL_until_2 rfl rfl ?_
  refine z_iload_n (pc := 3) (i := 1) 1 X dL_until_3 rfl rfl ?_
  refine z_callXV_i (pc := 4) (cells := 0) (slots := 0) (C := RX7) (T := TX7) (N := 9) (ci := 8) [zI a1] X dL_until_4 (c_X7_until hp a0 a1) kw_L_83 rfl rfl ⟨rfl, rfl, ⟨by decide, by decide⟩, ⟨by decide, by decide⟩⟩ (Nat.le_of_ble_eq_true rfl) rfl (fun x1 v2 hz9 => ?_) (fun x1 k3 hz9 => ?_)
  · have hz9 : x1 = Sum.inl v2 := hz9
    subst hz9
    refine z_i2l (pc := 7) X dL_until_7 ?_
    refine z_lastore (pc := 8) X dL_until_8 (fun h4 => ?_)
    refine z_goto (pc := 9) 15 X dL_until_9 (by decide) ?_
    refine z_iconst (pc := 15) (z := 0) X dL_until_15 rfl ⟨by decide, by decide⟩ ?_
    refine z_fin (fun e9 => ?_)
    subst e9
    exact hret _ _ _ _ (by decide) (by decide) dL_until_16
  · have hz9 : x1 = Sum.inr k3 := hz9
    subst hz9
    refine z_ite _ (fun hk9 => ?_) (fun _ => ?_)
    · subst hk9
      refine z_catch 4 (pc := 4) [] [] 0 9 12 36 X hTab rfl (fun z hz => by cases hz) (by decide) (by decide) (zin (zt3 9 (by decide +kernel)) rfl) (zt3 16 (by decide +kernel)) (fun q5 => ?_)
      refine z_astore_nA (pc := 12) (i := 3) (lv' := [(3, zA q5), (0, zR a0), (1, zI a1), (2, zR a2)]) X dL_until_12 rfl (hN _ (by decide)) rfl ?_
      refine z_iconst (pc := 13) (z := 1) X dL_until_13 rfl ⟨by decide, by decide⟩ ?_
      refine z_fin (fun e9 => ?_)
      subst e9
      exact hret _ _ _ _ (by decide) (by decide) dL_until_14
    · exact z_none
def L_walk (hp : zH) (a0 : Option Nat) (a1 : Int) (a2 : Int) (a3 : Option Nat) : Option (Int × zH) :=
  ((zobj hp a0 8).bind fun _ => X7_walk hp a0 a1 a2).bind fun x1 =>
  match x1 with
  | (Sum.inl v2, h4) =>
    (zsJ h4 a3 0 ((Int64.ofInt v2))).bind fun h5 =>
    some (0, h5)
  | (Sum.inr k3, h4) =>
    if k3 = 3 then
      some (1, h4)
    else
      if k3 = 4 then
        some (2, h4)
      else
        none
set_option maxRecDepth 20000 in
theorem c_L_walk (hp : zH) (a0 : Option Nat) (a1 : Int) (a2 : Int) (a3 : Option Nat) : ∀ r, L_walk hp a0 a1 a2 a3 = some r → zMw yL_walk (Cond.codeWith yL_walk cL_walk 5 (some .int) [(0, 10, 13, 27), (0, 10, 17, 36)] :: zALL) { frames := 8, cells := 2, slots := 12, locals := 125 } 2 12 [zR a0, zI a1, zI a2, zR a3] hp r.1 r.2 := by
  refine zMw_of (own := RL) (cc := cL_walk) (maxL := 5) (ε := Int × zH) (res := fun r => r.1) (hp2 := fun r => r.2) (by decide) rfl (by exact Nat.le_of_ble_eq_true rfl) ?_
  intro K r0 X hnL hTab hret
  have hN : ∀ i, i < 5 → i < K.2.2.2.2.2.2.2.2.2.2.2.2.2.2.1 := by rw [hnL]; exact fun _ h => h
  show zS _ _ (zJ K 0 0 0 [(0, zR a0), (1, zI a1), (2, zI a2), (3, zR a3)] [] hp)
  unfold L_walk
  refine z_aload_n (pc := 0) (i := 3) 3 X dL_walk_0 rfl rfl ?_
  refine z_iconst (pc := 1) (z := 0) X dL_walk_1 rfl ⟨by decide, by decide⟩ ?_
  refine z_aload_n (pc := 2) (i := 0) 0 X dL_walk_2 rfl rfl ?_
  refine z_iload_n (pc := 3) (i := 1) 1 X dL_walk_3 rfl rfl ?_
  refine z_iload_n (pc := 4) (i := 2) 2 X dL_walk_4 rfl rfl ?_
  refine z_callXV_i (pc := 5) (cells := 0) (slots := 0) (C := RX7) (T := TX7) (N := 9) (ci := 8) [zI a1, zI a2] X dL_walk_5 (c_X7_walk hp a0 a1 a2) kw_L_89 rfl rfl ⟨rfl, rfl, ⟨by decide, by decide⟩, ⟨by decide, by decide⟩⟩ (Nat.le_of_ble_eq_true rfl) rfl (fun x1 v2 hz9 => ?_) (fun x1 k3 hz9 => ?_)
  · obtain ⟨x1, h4⟩ := x1
    have hz9 : x1 = Sum.inl v2 := hz9
    subst hz9
    refine z_i2l (pc := 8) X dL_walk_8 ?_
    refine z_lastore (pc := 9) X dL_walk_9 (fun h5 => ?_)
    refine z_goto (pc := 10) 21 X dL_walk_10 (by decide) ?_
    refine z_iconst (pc := 21) (z := 0) X dL_walk_21 rfl ⟨by decide, by decide⟩ ?_
    refine z_fin (fun e9 => ?_)
    subst e9
    exact hret _ _ _ _ (by decide) (by decide) dL_walk_22
  · obtain ⟨x1, h4⟩ := x1
    have hz9 : x1 = Sum.inr k3 := hz9
    subst hz9
    refine z_ite _ (fun hk9 => ?_) (fun _ => ?_)
    · subst hk9
      refine z_catch 3 (pc := 5) [] [(0, 10, 17, 36)] 0 10 13 27 X hTab rfl (fun z hz => by cases hz) (by decide) (by decide) (zin (zt2 175 (by decide +kernel)) rfl) (zt2 209 (by decide +kernel)) (fun q7 => ?_)
      refine z_astoreA (pc := 13) (i := 4) (lv' := [(4, zA q7), (0, zR a0), (1, zI a1), (2, zI a2), (3, zR a3)]) X dL_walk_13 (hN _ (by decide)) rfl ?_
      refine z_iconst (pc := 15) (z := 1) X dL_walk_15 rfl ⟨by decide, by decide⟩ ?_
      refine z_fin (fun e9 => ?_)
      subst e9
      exact hret _ _ _ _ (by decide) (by decide) dL_walk_16
    · refine z_ite _ (fun hk9 => ?_) (fun _ => ?_)
      · subst hk9
        refine z_catch 4 (pc := 5) [(0, 10, 13, 27)] [] 0 10 17 36 X hTab rfl (fun z hz => by
            simp only [List.mem_cons, List.not_mem_nil, or_false] at hz
            rcases hz with rfl
            · exact ⟨by decide, "java/lang/IndexOutOfBoundsException", zin (zt2 175 (by decide +kernel)) rfl, by decide +kernel⟩) (by decide) (by decide) (zin (zt3 9 (by decide +kernel)) rfl) (zt3 16 (by decide +kernel)) (fun q6 => ?_)
        refine z_astoreA (pc := 17) (i := 4) (lv' := [(4, zA q6), (0, zR a0), (1, zI a1), (2, zI a2), (3, zR a3)]) X dL_walk_17 (hN _ (by decide)) rfl ?_
        refine z_iconst (pc := 19) (z := 2) X dL_walk_19 rfl ⟨by decide, by decide⟩ ?_
        refine z_fin (fun e9 => ?_)
        subst e9
        exact hret _ _ _ _ (by decide) (by decide) dL_walk_20
      · exact z_none
def L_way (hp : zH) (a0 : Option Nat) (a1 : Int) (a2 : Int) (a3 : Int) (a4 : Option Nat) : Option (Int × zH) :=
  ((zobj hp a0 8).bind fun _ => X7_way hp a0 a1 a2 a3).bind fun x1 =>
  match x1 with
  | (Sum.inl v2, h4) =>
    (zsJ h4 a4 0 ((Int64.ofInt v2))).bind fun h5 =>
    some (0, h5)
  | (Sum.inr k3, h4) =>
    if k3 = 0 then
      some (2, h4)
    else
      if k3 = 3 then
        some (1, h4)
      else
        none
set_option maxRecDepth 20000 in
theorem c_L_way (hp : zH) (a0 : Option Nat) (a1 : Int) (a2 : Int) (a3 : Int) (a4 : Option Nat) : ∀ r, L_way hp a0 a1 a2 a3 a4 = some r → zMw yL_way (Cond.codeWith yL_way cL_way 6 (some .int) [(0, 12, 15, 27), (0, 12, 19, 13)] :: zALL) { frames := 8, cells := 2, slots := 12, locals := 128 } 2 12 [zR a0, zI a1, zI a2, zI a3, zR a4] hp r.1 r.2 := by
  refine zMw_of (own := RL) (cc := cL_way) (maxL := 6) (ε := Int × zH) (res := fun r => r.1) (hp2 := fun r => r.2) (by decide) rfl (by exact Nat.le_of_ble_eq_true rfl) ?_
  intro K r0 X hnL hTab hret
  have hN : ∀ i, i < 6 → i < K.2.2.2.2.2.2.2.2.2.2.2.2.2.2.1 := by rw [hnL]; exact fun _ h => h
  show zS _ _ (zJ K 0 0 0 [(0, zR a0), (1, zI a1), (2, zI a2), (3, zI a3), (4, zR a4)] [] hp)
  unfold L_way
  refine z_aload (pc := 0) (i := 4) 4 X dL_way_0 rfl ?_
  refine z_iconst (pc := 2) (z := 0) X dL_way_2 rfl ⟨by decide, by decide⟩ ?_
  refine z_aload_n (pc := 3) (i := 0) 0 X dL_way_3 rfl rfl ?_
  refine z_iload_n (pc := 4) (i := 1) 1 X dL_way_4 rfl rfl ?_
  refine z_iload_n (pc := 5) (i := 2) 2 X dL_way_5 rfl rfl ?_
  refine z_iload_n (pc := 6) (i := 3) 3 X dL_way_6 rfl rfl ?_
  refine z_callXV_i (pc := 7) (cells := 0) (slots := 0) (C := RX7) (T := TX7) (N := 9) (ci := 8) [zI a1, zI a2, zI a3] X dL_way_7 (c_X7_way hp a0 a1 a2 a3) kw_L_38 rfl rfl ⟨rfl, rfl, ⟨by decide, by decide⟩, ⟨by decide, by decide⟩⟩ (Nat.le_of_ble_eq_true rfl) rfl (fun x1 v2 hz9 => ?_) (fun x1 k3 hz9 => ?_)
  · obtain ⟨x1, h4⟩ := x1
    have hz9 : x1 = Sum.inl v2 := hz9
    subst hz9
    refine z_i2l (pc := 10) X dL_way_10 ?_
    refine z_lastore (pc := 11) X dL_way_11 (fun h5 => ?_)
    refine z_goto (pc := 12) 23 X dL_way_12 (by decide) ?_
    refine z_iconst (pc := 23) (z := 0) X dL_way_23 rfl ⟨by decide, by decide⟩ ?_
    refine z_fin (fun e9 => ?_)
    subst e9
    exact hret _ _ _ _ (by decide) (by decide) dL_way_24
  · obtain ⟨x1, h4⟩ := x1
    have hz9 : x1 = Sum.inr k3 := hz9
    subst hz9
    refine z_ite _ (fun hk9 => ?_) (fun _ => ?_)
    · subst hk9
      refine z_catch 0 (pc := 7) [(0, 12, 15, 27)] [] 0 12 19 13 X hTab rfl (fun z hz => by
          simp only [List.mem_cons, List.not_mem_nil, or_false] at hz
          rcases hz with rfl
          · exact ⟨by decide, "java/lang/IndexOutOfBoundsException", zin (zt2 175 (by decide +kernel)) rfl, by decide +kernel⟩) (by decide) (by decide) (zin (zt2 2 (by decide +kernel)) rfl) (zt2 10 (by decide +kernel)) (fun q7 => ?_)
      refine z_astoreA (pc := 19) (i := 5) (lv' := [(5, zA q7), (0, zR a0), (1, zI a1), (2, zI a2), (3, zI a3), (4, zR a4)]) X dL_way_19 (hN _ (by decide)) rfl ?_
      refine z_iconst (pc := 21) (z := 2) X dL_way_21 rfl ⟨by decide, by decide⟩ ?_
      refine z_fin (fun e9 => ?_)
      subst e9
      exact hret _ _ _ _ (by decide) (by decide) dL_way_22
    · refine z_ite _ (fun hk9 => ?_) (fun _ => ?_)
      · subst hk9
        refine z_catch 3 (pc := 7) [] [(0, 12, 19, 13)] 0 12 15 27 X hTab rfl (fun z hz => by cases hz) (by decide) (by decide) (zin (zt2 175 (by decide +kernel)) rfl) (zt2 209 (by decide +kernel)) (fun q6 => ?_)
        refine z_astoreA (pc := 15) (i := 5) (lv' := [(5, zA q6), (0, zR a0), (1, zI a1), (2, zI a2), (3, zI a3), (4, zR a4)]) X dL_way_15 (hN _ (by decide)) rfl ?_
        refine z_iconst (pc := 17) (z := 1) X dL_way_17 rfl ⟨by decide, by decide⟩ ?_
        refine z_fin (fun e9 => ?_)
        subst e9
        exact hret _ _ _ _ (by decide) (by decide) dL_way_18
      · exact z_none
