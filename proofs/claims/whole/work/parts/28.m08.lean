/-! methods, as functions over the pure heap, and their contracts (by program) -/
def X8_join_b112 (p18 : Option Nat) (p19 : Int) (p20 : Int) (p21 : Int) (p22 : Int) (s23 : Int × Int × zH) : Option ((Int × Int × zH) ⊕ (Int × zH)) :=
  if s23.1 = 0 then
    some (Sum.inr (s23.1, s23.2.2))
  else
    if s23.2.1 = (-1) then
      some (Sum.inr (s23.1, s23.2.2))
    else
      ((zobj s23.2.2 p18 9).bind fun _ => X8_moves s23.2.2 p18 s23.2.1 p19 p22).bind fun x25 =>
      ((zobj x25.2 p18 9).bind fun _ => X8_least x25.2 p18 p20).bind fun x26 =>
      some (Sum.inl (x25.1, x26, x25.2))
def X8_join_b178 (p28 : Option Nat) (p29 : Int) (p30 : Int) (s31 : Int × zH) : Option ((Int × zH) ⊕ (zH)) :=
  (zgI s31.2 p28 9 14).bind fun v33 =>
  (zchk (2 * v33)).bind fun v34 =>
  if v34 ≤ s31.1 then
    some (Sum.inr (s31.2))
  else
    (zgR s31.2 p28 9 20).bind fun v35 =>
    (zaI s31.2 0 v35 s31.1).bind fun v36 =>
    if v36 = p30 then
      (zgR s31.2 p28 9 0).bind fun v37 =>
      (zaJ s31.2 v37 p30).bind fun v38 =>
      (zgR s31.2 p28 9 23).bind fun v39 =>
      (zaI s31.2 0 v39 s31.1).bind fun v40 =>
      (zdiv s31.1 2).bind fun v41 =>
      ((zobj s31.2 p28 9).bind fun _ => X8_old s31.2 p28 v38 v40 v41).bind fun x42 =>
      (zgR x42 p28 9 1).bind fun v43 =>
      (zaJ x42 v43 p30).bind fun v44 =>
      (zgR x42 p28 9 23).bind fun v45 =>
      (zaI x42 0 v45 s31.1).bind fun v46 =>
      (zdiv s31.1 2).bind fun v47 =>
      ((zobj x42 p28 9).bind fun _ => X8_old x42 p28 v44 v46 v47).bind fun x48 =>
      (zchk (s31.1 + 1)).bind fun v49 =>
      some (Sum.inl (v49, x48))
    else
      (zchk (s31.1 + 1)).bind fun v50 =>
      some (Sum.inl (v50, s31.2))
def X8_join_j59 (a0 : Option Nat) (a1 : Int) (a2 : Int) (x3 : (Int × zH)) (j4 : Int) : Option (Int × zH) :=
  ((zobj x3.2 a0 9).bind fun _ => X8_no x3.2 a0 j4 2).bind fun x5 =>
  if x5.1 = 0 then
    ((zobj x5.2 a0 9).bind fun _ => X8_keeps x5.2 a0).bind fun x6 =>
    (zgR x6 a0 9 6).bind fun v7 =>
    (zaI x6 0 v7 a1).bind fun v8 =>
    (zgR x6 a0 9 2).bind fun v9 =>
    (zaI x6 0 v9 a1).bind fun v10 =>
    (zgR x6 a0 9 2).bind fun v11 =>
    (zaI x6 0 v11 a1).bind fun v12 =>
    (zgR x6 a0 9 2).bind fun v13 =>
    (zaI x6 0 v13 a2).bind fun v14 =>
    (zchk (v12 + v14)).bind fun v15 =>
    (zsI x6 0 v11 a1 v15).bind fun h16 =>
    ((zobj h16 a0 9).bind fun _ => X8_least h16 a0 a2).bind fun x17 =>
    (zloop (X8_join_b112 a0 a1 a2 v8 v10) zN (1, x17, h16)).bind fun e24 =>
    ((zobj e24.2 a0 9).bind fun _ => X8_no e24.2 a0 e24.1 3).bind fun x27 =>
    if x27.1 = 0 then
      (zloop (X8_join_b178 a0 a1 a2) zN (0, x27.2)).bind fun e32 =>
      (zgR e32 a0 9 5).bind fun v51 =>
      (zsI e32 2 v51 a2 1).bind fun h52 =>
      (zgR h52 a0 9 2).bind fun v53 =>
      (zaI h52 0 v53 a1).bind fun v54 =>
      some (v54, h52)
    else
      ((zobj x27.2 a0 9).bind fun _ => X8_givesBack x27.2 a0).bind fun x55 =>
      (zgR x55 a0 9 6).bind fun v56 =>
      (zsI x55 0 v56 a1 v8).bind fun h57 =>
      (zgR h57 a0 9 2).bind fun v58 =>
      (zsI h57 0 v58 a1 v10).bind fun h59 =>
      some (0, h59)
  else
    some (0, x5.2)
def X8_join_j58 (a0 : Option Nat) (a1 : Int) (a2 : Int) (x3 : (Int × zH)) : Option (Int × zH) :=
  X8_join_j59 a0 a1 a2 x3 0
def X8_join_j22 (hp : zH) (a0 : Option Nat) (a1 : Int) (a2 : Int) (j2 : Int) : Option (Int × zH) :=
  ((zobj hp a0 9).bind fun _ => X8_no hp a0 j2 1).bind fun x3 =>
  if x3.1 = 0 then
    if a1 = a2 then
      X8_join_j58 a0 a1 a2 x3
    else
      (zgR x3.2 a0 9 2).bind fun v60 =>
      (zaI x3.2 0 v60 a1).bind fun v61 =>
      (zgR x3.2 a0 9 2).bind fun v62 =>
      (zaI x3.2 0 v62 a2).bind fun v63 =>
      (zchk (v61 + v63)).bind fun v64 =>
      if 999 < v64 then
        X8_join_j58 a0 a1 a2 x3
      else
        X8_join_j59 a0 a1 a2 x3 1
  else
    some (0, x3.2)
def X8_join_j21 (hp : zH) (a0 : Option Nat) (a1 : Int) (a2 : Int) : Option (Int × zH) :=
  X8_join_j22 hp a0 a1 a2 0
def X8_join (hp : zH) (a0 : Option Nat) (a1 : Int) (a2 : Int) : Option (Int × zH) :=
  ((zobj hp a0 9).bind fun _ => X8_isStreet hp a0 a1).bind fun x1 =>
  if x1 = 0 then
    X8_join_j21 hp a0 a1 a2
  else
    ((zobj hp a0 9).bind fun _ => X8_isStreet hp a0 a2).bind fun x65 =>
    if x65 = 0 then
      X8_join_j21 hp a0 a1 a2
    else
      X8_join_j22 hp a0 a1 a2 1
set_option maxRecDepth 20000 in
theorem c_X8_join (hp : zH) (a0 : Option Nat) (a1 : Int) (a2 : Int) : ∀ r, X8_join hp a0 a1 a2 = some r → zMi yX8_join (Cond.code yX8_join cX8_join 7 (some .int) :: zALL) { frames := 4, cells := 0, slots := 0, locals := 105 } 0 0 [zR a0, zI a1, zI a2] hp r.1 r.2 := by
  refine zMi_of (own := RX8) (cc := cX8_join) (maxL := 7) (ε := (Int × zH)) (res := fun r => r.1) (hp2 := fun r => r.2) (by decide) rfl (Or.inl rfl) (by exact Nat.le_of_ble_eq_true rfl) ?_
  intro K r0 X hnL hret
  have hN : ∀ i, i < 7 → i < K.2.2.2.2.2.2.2.2.2.2.2.2.2.2.1 := by rw [hnL]; exact fun _ h => h
  show zS _ _ (zJ K 0 0 0 [(0, zR a0), (1, zI a1), (2, zI a2)] [] hp)
  unfold X8_join
  refine z_aload_n (pc := 0) (i := 0) 0 X dX8_join_0 rfl rfl ?_
  refine z_aload_n (pc := 1) (i := 0) 0 X dX8_join_1 rfl rfl ?_
  refine z_iload_n (pc := 2) (i := 1) 1 X dX8_join_2 rfl rfl ?_
  refine z_callV_i (pc := 3) (cells := 0) (slots := 0) (C := RX8) (T := TX8) (N := 30) (ci := 9) [zI a1] X dX8_join_3 (c_X8_isStreet hp a0 a1) kw_X8_132 rfl rfl ⟨rfl, rfl, ⟨by decide, by decide⟩, ⟨by decide, by decide⟩⟩ (Nat.le_of_ble_eq_true rfl) rfl (fun x1 => ?_)
  have hJ22 : ∀ (j2 : Int), zS (X8_join_j22 hp a0 a1 a2 j2) (fun r => r = r0) (zJ K 0 0 22 [(0, zR a0), (1, zI a1), (2, zI a2)] [zI j2, zR a0] hp) := by
    intro j2
    unfold X8_join_j22
    refine z_iconst (pc := 22) (z := 1) X dX8_join_22 rfl ⟨by decide, by decide⟩ ?_
    refine z_callV_i (pc := 23) (cells := 0) (slots := 0) (C := RX8) (T := TX8) (N := 30) (ci := 9) [zI j2, zI 1] X dX8_join_23 (c_X8_no hp a0 j2 1) kw_X8_93 rfl rfl ⟨rfl, rfl, ⟨by decide, by decide⟩, ⟨by decide, by decide⟩⟩ (Nat.le_of_ble_eq_true rfl) rfl (fun x3 => ?_)
    refine z_if_ne (pc := 26) 66 X dX8_join_26 (by decide) (fun _ => ?_) (fun _ => ?_)
    · refine z_iconst (pc := 66) (z := 0) X dX8_join_66 rfl ⟨by decide, by decide⟩ ?_
      refine z_fin (fun e9 => ?_)
      subst e9
      exact hret _ _ _ _ (by decide) (by decide) dX8_join_67 trivial
    · refine z_aload_n (pc := 29) (i := 0) 0 X dX8_join_29 rfl rfl ?_
      refine z_iload_n (pc := 30) (i := 1) 1 X dX8_join_30 rfl rfl ?_
      refine z_iload_n (pc := 31) (i := 2) 2 X dX8_join_31 rfl rfl ?_
      have hJ59 : ∀ (j4 : Int), zS (X8_join_j59 a0 a1 a2 x3 j4) (fun r => r = r0) (zJ K 0 0 59 [(0, zR a0), (1, zI a1), (2, zI a2)] [zI j4, zR a0] x3.2) := by
        intro j4
        unfold X8_join_j59
        refine z_iconst (pc := 59) (z := 2) X dX8_join_59 rfl ⟨by decide, by decide⟩ ?_
        refine z_callV_i (pc := 60) (cells := 0) (slots := 0) (C := RX8) (T := TX8) (N := 30) (ci := 9) [zI j4, zI 2] X dX8_join_60 (c_X8_no x3.2 a0 j4 2) kw_X8_93 rfl rfl ⟨rfl, rfl, ⟨by decide, by decide⟩, ⟨by decide, by decide⟩⟩ (Nat.le_of_ble_eq_true rfl) rfl (fun x5 => ?_)
        refine z_if_eq (pc := 63) 68 X dX8_join_63 (by decide) (fun _ => ?_) (fun _ => ?_)
        · refine z_aload_n (pc := 68) (i := 0) 0 X dX8_join_68 rfl rfl ?_
          refine z_callV_v (pc := 69) (cells := 0) (slots := 0) (C := RX8) (T := TX8) (N := 30) (ci := 9) [] X dX8_join_69 (c_X8_keeps x5.2 a0) kw_X8_184 rfl rfl ⟨rfl, rfl, ⟨by decide, by decide⟩, ⟨by decide, by decide⟩⟩ (Nat.le_of_ble_eq_true rfl) rfl (fun x6 => ?_)
          refine z_aload_n (pc := 72) (i := 0) 0 X dX8_join_72 rfl rfl ?_
          refine z_getR (pc := 73) (C := RX8) (T := TX8) (N := 30) (ci := 9) 6 X dX8_join_73 inz_X8 rfl (by decide) fw_X8_31 (fun v7 => ?_)
          refine z_iload_n (pc := 76) (i := 1) 1 X dX8_join_76 rfl rfl ?_
          refine z_iaload (pc := 77) X dX8_join_77 (fun v8 => ?_)
          refine z_istore_n (pc := 78) (i := 3) (lv' := [(3, zI v8), (0, zR a0), (1, zI a1), (2, zI a2)]) X dX8_join_78 rfl (hN _ (by decide)) rfl ?_
          refine z_aload_n (pc := 79) (i := 0) 1 X dX8_join_79 rfl rfl ?_
          refine z_getR (pc := 80) (C := RX8) (T := TX8) (N := 30) (ci := 9) 2 X dX8_join_80 inz_X8 rfl (by decide) fw_X8_16 (fun v9 => ?_)
          refine z_iload_n (pc := 83) (i := 1) 2 X dX8_join_83 rfl rfl ?_
          refine z_iaload (pc := 84) X dX8_join_84 (fun v10 => ?_)
          refine z_istore (pc := 85) (i := 4) (lv' := [(4, zI v10), (3, zI v8), (0, zR a0), (1, zI a1), (2, zI a2)]) X dX8_join_85 (hN _ (by decide)) rfl ?_
          refine z_aload_n (pc := 87) (i := 0) 2 X dX8_join_87 rfl rfl ?_
          refine z_getR (pc := 88) (C := RX8) (T := TX8) (N := 30) (ci := 9) 2 X dX8_join_88 inz_X8 rfl (by decide) fw_X8_16 (fun v11 => ?_)
          refine z_iload_n (pc := 91) (i := 1) 3 X dX8_join_91 rfl rfl ?_
          refine z_dup2 (pc := 92) X dX8_join_92 rfl rfl ?_
          refine z_iaload (pc := 93) X dX8_join_93 (fun v12 => ?_)
          refine z_aload_n (pc := 94) (i := 0) 2 X dX8_join_94 rfl rfl ?_
          refine z_getR (pc := 95) (C := RX8) (T := TX8) (N := 30) (ci := 9) 2 X dX8_join_95 inz_X8 rfl (by decide) fw_X8_16 (fun v13 => ?_)
          refine z_iload_n (pc := 98) (i := 2) 4 X dX8_join_98 rfl rfl ?_
          refine z_iaload (pc := 99) X dX8_join_99 (fun v14 => ?_)
          refine z_iadd (pc := 100) X dX8_join_100 (fun v15 _ _ => ?_)
          refine z_iastore (pc := 101) X dX8_join_101 (fun h16 => ?_)
          refine z_iconst (pc := 102) (z := 1) X dX8_join_102 rfl ⟨by decide, by decide⟩ ?_
          refine z_istore (pc := 103) (i := 5) (lv' := [(5, zI 1), (4, zI v10), (3, zI v8), (0, zR a0), (1, zI a1), (2, zI a2)]) X dX8_join_103 (hN _ (by decide)) rfl ?_
          refine z_aload_n (pc := 105) (i := 0) 3 X dX8_join_105 rfl rfl ?_
          refine z_iload_n (pc := 106) (i := 2) 5 X dX8_join_106 rfl rfl ?_
          refine z_callV_i (pc := 107) (cells := 0) (slots := 0) (C := RX8) (T := TX8) (N := 30) (ci := 9) [zI a2] X dX8_join_107 (c_X8_least h16 a0 a2) kw_X8_194 rfl rfl ⟨rfl, rfl, ⟨by decide, by decide⟩, ⟨by decide, by decide⟩⟩ (Nat.le_of_ble_eq_true rfl) rfl (fun x17 => ?_)
          refine z_istore (pc := 110) (i := 6) (lv' := [(6, zI x17), (5, zI 1), (4, zI v10), (3, zI v8), (0, zR a0), (1, zI a1), (2, zI a2)]) X dX8_join_110 (hN _ (by decide)) rfl ?_
          refine z_pick [4, 5, 6, 3, 2, 1, 0] (lv' := [(0, zR a0), (1, zI a1), (2, zI a2), (3, zI v8), (4, zI v10), (5, zI 1), (6, zI x17)]) rfl ?_
          refine z_bind (z_loop (body := X8_join_b112 a0 a1 a2 v8 v10) (fun s23 : Int × Int × zH => zJ K 0 0 112 [(0, zR a0), (1, zI a1), (2, zI a2), (3, zI v8), (4, zI v10), (5, zI s23.1), (6, zI s23.2.1)] [] s23.2.2) (fun e24 : Int × zH => zJ K 0 0 144 [(0, zR a0), (1, zI a1), (2, zI a2), (3, zI v8), (4, zI v10), (5, zI e24.1)] [] e24.2) (fun s23 => ?_) zN (1, x17, h16)) (fun e24 => ?_)
          · unfold X8_join_b112
            refine z_iload (pc := 112) (i := 5) 5 X dX8_join_112 rfl ?_
            refine z_if_eq (pc := 114) 144 X dX8_join_114 (by decide) (fun _ => ?_) (fun _ => ?_)
            · refine z_pick [0, 1, 2, 3, 4, 5] (lv' := [(0, zR a0), (1, zI a1), (2, zI a2), (3, zI v8), (4, zI v10), (5, zI s23.1)]) rfl ?_
              exact z_exit
            · refine z_iload (pc := 117) (i := 6) 6 X dX8_join_117 rfl ?_
              refine z_iconst (pc := 119) (z := -1) X dX8_join_119 rfl ⟨by decide, by decide⟩ ?_
              refine z_icmp_eq (pc := 120) 144 X dX8_join_120 (by decide) (fun _ => ?_) (fun _ => ?_)
              · refine z_pick [0, 1, 2, 3, 4, 5] (lv' := [(0, zR a0), (1, zI a1), (2, zI a2), (3, zI v8), (4, zI v10), (5, zI s23.1)]) rfl ?_
                exact z_exit
              · refine z_aload_n (pc := 123) (i := 0) 0 X dX8_join_123 rfl rfl ?_
                refine z_iload (pc := 124) (i := 6) 6 X dX8_join_124 rfl ?_
                refine z_iload_n (pc := 126) (i := 1) 1 X dX8_join_126 rfl rfl ?_
                refine z_iload (pc := 127) (i := 4) 4 X dX8_join_127 rfl ?_
                refine z_callV_i (pc := 129) (cells := 0) (slots := 0) (C := RX8) (T := TX8) (N := 30) (ci := 9) [zI s23.2.1, zI a1, zI v10] X dX8_join_129 (c_X8_moves s23.2.2 a0 s23.2.1 a1 v10) kw_X8_197 rfl rfl ⟨rfl, rfl, ⟨by decide, by decide⟩, ⟨by decide, by decide⟩⟩ (Nat.le_of_ble_eq_true rfl) rfl (fun x25 => ?_)
                refine z_istore (pc := 132) (i := 5) (lv' := [(5, zI x25.1), (0, zR a0), (1, zI a1), (2, zI a2), (3, zI v8), (4, zI v10), (6, zI s23.2.1)]) X dX8_join_132 (hN _ (by decide)) rfl ?_
                refine z_aload_n (pc := 134) (i := 0) 1 X dX8_join_134 rfl rfl ?_
                refine z_iload_n (pc := 135) (i := 2) 3 X dX8_join_135 rfl rfl ?_
                refine z_callV_i (pc := 136) (cells := 0) (slots := 0) (C := RX8) (T := TX8) (N := 30) (ci := 9) [zI a2] X dX8_join_136 (c_X8_least x25.2 a0 a2) kw_X8_194 rfl rfl ⟨rfl, rfl, ⟨by decide, by decide⟩, ⟨by decide, by decide⟩⟩ (Nat.le_of_ble_eq_true rfl) rfl (fun x26 => ?_)
                refine z_istore (pc := 139) (i := 6) (lv' := [(6, zI x26), (5, zI x25.1), (0, zR a0), (1, zI a1), (2, zI a2), (3, zI v8), (4, zI v10)]) X dX8_join_139 (hN _ (by decide)) rfl ?_
                refine z_goto (pc := 141) 112 X dX8_join_141 (by decide) ?_
                refine z_pick [2, 3, 4, 5, 6, 1, 0] (lv' := [(0, zR a0), (1, zI a1), (2, zI a2), (3, zI v8), (4, zI v10), (5, zI x25.1), (6, zI x26)]) rfl ?_
                exact z_back
          · refine z_aload_n (pc := 144) (i := 0) 0 X dX8_join_144 rfl rfl ?_
            refine z_iload (pc := 145) (i := 5) 5 X dX8_join_145 rfl ?_
            refine z_iconst (pc := 147) (z := 3) X dX8_join_147 rfl ⟨by decide, by decide⟩ ?_
            refine z_callV_i (pc := 148) (cells := 0) (slots := 0) (C := RX8) (T := TX8) (N := 30) (ci := 9) [zI e24.1, zI 3] X dX8_join_148 (c_X8_no e24.2 a0 e24.1 3) kw_X8_93 rfl rfl ⟨rfl, rfl, ⟨by decide, by decide⟩, ⟨by decide, by decide⟩⟩ (Nat.le_of_ble_eq_true rfl) rfl (fun x27 => ?_)
            refine z_if_eq (pc := 151) 175 X dX8_join_151 (by decide) (fun _ => ?_) (fun _ => ?_)
            · refine z_iconst (pc := 175) (z := 0) X dX8_join_175 rfl ⟨by decide, by decide⟩ ?_
              refine z_istore (pc := 176) (i := 6) (lv' := [(6, zI 0), (0, zR a0), (1, zI a1), (2, zI a2), (3, zI v8), (4, zI v10), (5, zI e24.1)]) X dX8_join_176 (hN _ (by decide)) rfl ?_
              refine z_pick [1, 2, 3, 0] (lv' := [(0, zR a0), (1, zI a1), (2, zI a2), (6, zI 0)]) rfl ?_
              refine z_bind (z_loop (body := X8_join_b178 a0 a1 a2) (fun s31 : Int × zH => zJ K 0 0 178 [(0, zR a0), (1, zI a1), (2, zI a2), (6, zI s31.1)] [] s31.2) (fun e32 : zH => zJ K 0 0 251 [(0, zR a0), (1, zI a1), (2, zI a2)] [] e32) (fun s31 => ?_) zN (0, x27.2)) (fun e32 => ?_)
              · unfold X8_join_b178
                refine z_iload (pc := 178) (i := 6) 3 X dX8_join_178 rfl ?_
                refine z_iconst (pc := 180) (z := 2) X dX8_join_180 rfl ⟨by decide, by decide⟩ ?_
                refine z_aload_n (pc := 181) (i := 0) 0 X dX8_join_181 rfl rfl ?_
                refine z_getI (pc := 182) (C := RX8) (T := TX8) (N := 30) (ci := 9) 14 X dX8_join_182 inz_X8 rfl (by decide) fw_X8_90 (fun v33 => ?_)
                refine z_imul (pc := 185) X dX8_join_185 (fun v34 _ _ => ?_)
                refine z_icmp_ge (pc := 186) 251 X dX8_join_186 (by decide) (fun _ => ?_) (fun _ => ?_)
                · refine z_pick [0, 1, 2] (lv' := [(0, zR a0), (1, zI a1), (2, zI a2)]) rfl ?_
                  exact z_exit
                · refine z_aload_n (pc := 189) (i := 0) 0 X dX8_join_189 rfl rfl ?_
                  refine z_getR (pc := 190) (C := RX8) (T := TX8) (N := 30) (ci := 9) 20 X dX8_join_190 inz_X8 rfl (by decide) fw_X8_64 (fun v35 => ?_)
                  refine z_iload (pc := 193) (i := 6) 3 X dX8_join_193 rfl ?_
                  refine z_iaload (pc := 195) X dX8_join_195 (fun v36 => ?_)
                  refine z_iload_n (pc := 196) (i := 2) 2 X dX8_join_196 rfl rfl ?_
                  refine z_icmp_eq (pc := 197) 203 X dX8_join_197 (by decide) (fun _ => ?_) (fun _ => ?_)
                  · refine z_aload_n (pc := 203) (i := 0) 0 X dX8_join_203 rfl rfl ?_
                    refine z_aload_n (pc := 204) (i := 0) 0 X dX8_join_204 rfl rfl ?_
                    refine z_getR (pc := 205) (C := RX8) (T := TX8) (N := 30) (ci := 9) 0 X dX8_join_205 inz_X8 rfl (by decide) fw_X8_7 (fun v37 => ?_)
                    refine z_iload_n (pc := 208) (i := 2) 2 X dX8_join_208 rfl rfl ?_
                    refine z_laload (pc := 209) X dX8_join_209 (fun v38 => ?_)
                    refine z_aload_n (pc := 210) (i := 0) 0 X dX8_join_210 rfl rfl ?_
                    refine z_getR (pc := 211) (C := RX8) (T := TX8) (N := 30) (ci := 9) 23 X dX8_join_211 inz_X8 rfl (by decide) fw_X8_73 (fun v39 => ?_)
                    refine z_iload (pc := 214) (i := 6) 3 X dX8_join_214 rfl ?_
                    refine z_iaload (pc := 216) X dX8_join_216 (fun v40 => ?_)
                    refine z_iload (pc := 217) (i := 6) 3 X dX8_join_217 rfl ?_
                    refine z_iconst (pc := 219) (z := 2) X dX8_join_219 rfl ⟨by decide, by decide⟩ ?_
                    refine z_idiv (pc := 220) X dX8_join_220 (fun v41 => ?_)
                    refine z_callV_v (pc := 221) (cells := 0) (slots := 0) (C := RX8) (T := TX8) (N := 30) (ci := 9) [zL v38, zI v40, zI v41] X dX8_join_221 (c_X8_old s31.2 a0 v38 v40 v41) kw_X8_128 rfl rfl ⟨rfl, rfl, ⟨by decide, by decide⟩, ⟨by decide, by decide⟩⟩ (Nat.le_of_ble_eq_true rfl) rfl (fun x42 => ?_)
                    refine z_aload_n (pc := 224) (i := 0) 0 X dX8_join_224 rfl rfl ?_
                    refine z_aload_n (pc := 225) (i := 0) 0 X dX8_join_225 rfl rfl ?_
                    refine z_getR (pc := 226) (C := RX8) (T := TX8) (N := 30) (ci := 9) 1 X dX8_join_226 inz_X8 rfl (by decide) fw_X8_13 (fun v43 => ?_)
                    refine z_iload_n (pc := 229) (i := 2) 2 X dX8_join_229 rfl rfl ?_
                    refine z_laload (pc := 230) X dX8_join_230 (fun v44 => ?_)
                    refine z_aload_n (pc := 231) (i := 0) 0 X dX8_join_231 rfl rfl ?_
                    refine z_getR (pc := 232) (C := RX8) (T := TX8) (N := 30) (ci := 9) 23 X dX8_join_232 inz_X8 rfl (by decide) fw_X8_73 (fun v45 => ?_)
                    refine z_iload (pc := 235) (i := 6) 3 X dX8_join_235 rfl ?_
                    refine z_iaload (pc := 237) X dX8_join_237 (fun v46 => ?_)
                    refine z_iload (pc := 238) (i := 6) 3 X dX8_join_238 rfl ?_
                    refine z_iconst (pc := 240) (z := 2) X dX8_join_240 rfl ⟨by decide, by decide⟩ ?_
                    refine z_idiv (pc := 241) X dX8_join_241 (fun v47 => ?_)
                    refine z_callV_v (pc := 242) (cells := 0) (slots := 0) (C := RX8) (T := TX8) (N := 30) (ci := 9) [zL v44, zI v46, zI v47] X dX8_join_242 (c_X8_old x42 a0 v44 v46 v47) kw_X8_128 rfl rfl ⟨rfl, rfl, ⟨by decide, by decide⟩, ⟨by decide, by decide⟩⟩ (Nat.le_of_ble_eq_true rfl) rfl (fun x48 => ?_)
                    refine z_iinc (pc := 245) (i := 6) (n := 1) (lv' := fun v49 => [(6, zI v49), (0, zR a0), (1, zI a1), (2, zI a2)]) 3 X dX8_join_245 rfl (hN _ (by decide)) (fun _ => rfl) (fun v49 _ _ => ?_)
                    refine z_goto (pc := 248) 178 X dX8_join_248 (by decide) ?_
                    refine z_pick [1, 2, 3, 0] (lv' := [(0, zR a0), (1, zI a1), (2, zI a2), (6, zI v49)]) rfl ?_
                    exact z_back
                  · refine z_goto (pc := 200) 245 X dX8_join_200 (by decide) ?_
                    refine z_iinc (pc := 245) (i := 6) (n := 1) (lv' := fun v50 => [(6, zI v50), (0, zR a0), (1, zI a1), (2, zI a2)]) 3 X dX8_join_245 rfl (hN _ (by decide)) (fun _ => rfl) (fun v50 _ _ => ?_)
                    refine z_goto (pc := 248) 178 X dX8_join_248 (by decide) ?_
                    refine z_pick [1, 2, 3, 0] (lv' := [(0, zR a0), (1, zI a1), (2, zI a2), (6, zI v50)]) rfl ?_
                    exact z_back
              · refine z_aload_n (pc := 251) (i := 0) 0 X dX8_join_251 rfl rfl ?_
                refine z_getR (pc := 252) (C := RX8) (T := TX8) (N := 30) (ci := 9) 5 X dX8_join_252 inz_X8 rfl (by decide) fw_X8_28 (fun v51 => ?_)
                refine z_iload_n (pc := 255) (i := 2) 2 X dX8_join_255 rfl rfl ?_
                refine z_iconst (pc := 256) (z := 1) X dX8_join_256 rfl ⟨by decide, by decide⟩ ?_
                refine z_zastore (pc := 257) X dX8_join_257 (fun h52 => ?_)
                refine z_aload_n (pc := 258) (i := 0) 0 X dX8_join_258 rfl rfl ?_
                refine z_getR (pc := 259) (C := RX8) (T := TX8) (N := 30) (ci := 9) 2 X dX8_join_259 inz_X8 rfl (by decide) fw_X8_16 (fun v53 => ?_)
                refine z_iload_n (pc := 262) (i := 1) 1 X dX8_join_262 rfl rfl ?_
                refine z_iaload (pc := 263) X dX8_join_263 (fun v54 => ?_)
                refine z_fin (fun e9 => ?_)
                subst e9
                exact hret _ _ _ _ (by decide) (by decide) dX8_join_264 trivial
            · refine z_aload_n (pc := 154) (i := 0) 0 X dX8_join_154 rfl rfl ?_
              refine z_callV_v (pc := 155) (cells := 0) (slots := 0) (C := RX8) (T := TX8) (N := 30) (ci := 9) [] X dX8_join_155 (c_X8_givesBack x27.2 a0) kw_X8_191 rfl rfl ⟨rfl, rfl, ⟨by decide, by decide⟩, ⟨by decide, by decide⟩⟩ (Nat.le_of_ble_eq_true rfl) rfl (fun x55 => ?_)
              refine z_aload_n (pc := 158) (i := 0) 0 X dX8_join_158 rfl rfl ?_
              refine z_getR (pc := 159) (C := RX8) (T := TX8) (N := 30) (ci := 9) 6 X dX8_join_159 inz_X8 rfl (by decide) fw_X8_31 (fun v56 => ?_)
              refine z_iload_n (pc := 162) (i := 1) 1 X dX8_join_162 rfl rfl ?_
              refine z_iload_n (pc := 163) (i := 3) 3 X dX8_join_163 rfl rfl ?_
              refine z_iastore (pc := 164) X dX8_join_164 (fun h57 => ?_)
              refine z_aload_n (pc := 165) (i := 0) 0 X dX8_join_165 rfl rfl ?_
              refine z_getR (pc := 166) (C := RX8) (T := TX8) (N := 30) (ci := 9) 2 X dX8_join_166 inz_X8 rfl (by decide) fw_X8_16 (fun v58 => ?_)
              refine z_iload_n (pc := 169) (i := 1) 1 X dX8_join_169 rfl rfl ?_
              refine z_iload (pc := 170) (i := 4) 4 X dX8_join_170 rfl ?_
              refine z_iastore (pc := 172) X dX8_join_172 (fun h59 => ?_)
              refine z_iconst (pc := 173) (z := 0) X dX8_join_173 rfl ⟨by decide, by decide⟩ ?_
              refine z_fin (fun e9 => ?_)
              subst e9
              exact hret _ _ _ _ (by decide) (by decide) dX8_join_174 trivial
        · refine z_iconst (pc := 66) (z := 0) X dX8_join_66 rfl ⟨by decide, by decide⟩ ?_
          refine z_fin (fun e9 => ?_)
          subst e9
          exact hret _ _ _ _ (by decide) (by decide) dX8_join_67 trivial
      have hJ58 : zS (X8_join_j58 a0 a1 a2 x3) (fun r => r = r0) (zJ K 0 0 58 [(0, zR a0), (1, zI a1), (2, zI a2)] [zR a0] x3.2) := by
        unfold X8_join_j58
        refine z_iconst (pc := 58) (z := 0) X dX8_join_58 rfl ⟨by decide, by decide⟩ ?_
        exact hJ59 0
      refine z_icmp_eq (pc := 32) 58 X dX8_join_32 (by decide) (fun _ => ?_) (fun _ => ?_)
      · exact hJ58
      · refine z_aload_n (pc := 35) (i := 0) 0 X dX8_join_35 rfl rfl ?_
        refine z_getR (pc := 36) (C := RX8) (T := TX8) (N := 30) (ci := 9) 2 X dX8_join_36 inz_X8 rfl (by decide) fw_X8_16 (fun v60 => ?_)
        refine z_iload_n (pc := 39) (i := 1) 1 X dX8_join_39 rfl rfl ?_
        refine z_iaload (pc := 40) X dX8_join_40 (fun v61 => ?_)
        refine z_aload_n (pc := 41) (i := 0) 0 X dX8_join_41 rfl rfl ?_
        refine z_getR (pc := 42) (C := RX8) (T := TX8) (N := 30) (ci := 9) 2 X dX8_join_42 inz_X8 rfl (by decide) fw_X8_16 (fun v62 => ?_)
        refine z_iload_n (pc := 45) (i := 2) 2 X dX8_join_45 rfl rfl ?_
        refine z_iaload (pc := 46) X dX8_join_46 (fun v63 => ?_)
        refine z_iadd (pc := 47) X dX8_join_47 (fun v64 _ _ => ?_)
        refine z_sipush (pc := 48) (z := 999) X dX8_join_48 rfl ⟨by decide, by decide⟩ ?_
        refine z_icmp_gt (pc := 51) 58 X dX8_join_51 (by decide) (fun _ => ?_) (fun _ => ?_)
        · exact hJ58
        · refine z_iconst (pc := 54) (z := 1) X dX8_join_54 rfl ⟨by decide, by decide⟩ ?_
          refine z_goto (pc := 55) 59 X dX8_join_55 (by decide) ?_
          exact hJ59 1
  have hJ21 : zS (X8_join_j21 hp a0 a1 a2) (fun r => r = r0) (zJ K 0 0 21 [(0, zR a0), (1, zI a1), (2, zI a2)] [zR a0] hp) := by
    unfold X8_join_j21
    refine z_iconst (pc := 21) (z := 0) X dX8_join_21 rfl ⟨by decide, by decide⟩ ?_
    exact hJ22 0
  refine z_if_eq (pc := 6) 21 X dX8_join_6 (by decide) (fun _ => ?_) (fun _ => ?_)
  · exact hJ21
  · refine z_aload_n (pc := 9) (i := 0) 0 X dX8_join_9 rfl rfl ?_
    refine z_iload_n (pc := 10) (i := 2) 2 X dX8_join_10 rfl rfl ?_
    refine z_callV_i (pc := 11) (cells := 0) (slots := 0) (C := RX8) (T := TX8) (N := 30) (ci := 9) [zI a2] X dX8_join_11 (c_X8_isStreet hp a0 a2) kw_X8_132 rfl rfl ⟨rfl, rfl, ⟨by decide, by decide⟩, ⟨by decide, by decide⟩⟩ (Nat.le_of_ble_eq_true rfl) rfl (fun x65 => ?_)
    refine z_if_eq (pc := 14) 21 X dX8_join_14 (by decide) (fun _ => ?_) (fun _ => ?_)
    · exact hJ21
    · refine z_iconst (pc := 17) (z := 1) X dX8_join_17 rfl ⟨by decide, by decide⟩ ?_
      refine z_goto (pc := 18) 22 X dX8_join_18 (by decide) ?_
      exact hJ22 1
def X8_latest_b4 (p1 : Option Nat) (p2 : Int) (h4 : zH) (s3 : Int × Int) : Option ((Int × Int) ⊕ (Int)) :=
  (zgI h4 p1 9 19).bind fun v6 =>
  if v6 ≤ s3.2 then
    some (Sum.inr (s3.1))
  else
    (zgJ h4 p1 9 26).bind fun v7 =>
    if (zcmp v7 0) = 0 then
      (zchk (s3.2 + 1)).bind fun v8 =>
      some (Sum.inl (s3.1, v8))
    else
      (zgR h4 p1 9 15).bind fun v9 =>
      (zaJ h4 v9 s3.2).bind fun v10 =>
      (zgJ h4 p1 9 26).bind fun v11 =>
      if (zcmp v10 v11) = 0 then
        (zgR h4 p1 9 16).bind fun v13 =>
        (zaI h4 0 v13 s3.2).bind fun v14 =>
        if v14 = p2 then
          (zchk (s3.2 + 1)).bind fun v16 =>
          some (Sum.inl (s3.2, v16))
        else
          (zchk (s3.2 + 1)).bind fun v15 =>
          some (Sum.inl (s3.1, v15))
      else
        (zchk (s3.2 + 1)).bind fun v12 =>
        some (Sum.inl (s3.1, v12))
def X8_latest (hp : zH) (a0 : Option Nat) (a1 : Int) : Option Int :=
  (zloop (X8_latest_b4 a0 a1 hp) zN ((-1), 0)).bind fun e5 =>
  some e5
set_option maxRecDepth 20000 in
theorem c_X8_latest (hp : zH) (a0 : Option Nat) (a1 : Int) : ∀ r, X8_latest hp a0 a1 = some r → zMi yX8_latest (Cond.code yX8_latest cX8_latest 4 (some .int) :: zALL) { frames := 0, cells := 0, slots := 0, locals := 0 } 0 0 [zR a0, zI a1] hp r hp := by
  refine zMi_of (own := RX8) (cc := cX8_latest) (maxL := 4) (res := fun r => r) (hp2 := fun _ => hp) (by decide) rfl (Or.inl rfl) (by exact Nat.le_of_ble_eq_true rfl) ?_
  intro K r0 X hnL hret
  have hN : ∀ i, i < 4 → i < K.2.2.2.2.2.2.2.2.2.2.2.2.2.2.1 := by rw [hnL]; exact fun _ h => h
  show zS _ _ (zJ K 0 0 0 [(0, zR a0), (1, zI a1)] [] hp)
  unfold X8_latest
  refine z_iconst (pc := 0) (z := -1) X dX8_latest_0 rfl ⟨by decide, by decide⟩ ?_
  refine z_istore_n (pc := 1) (i := 2) (lv' := [(2, zI (-1)), (0, zR a0), (1, zI a1)]) X dX8_latest_1 rfl (hN _ (by decide)) rfl ?_
  refine z_iconst (pc := 2) (z := 0) X dX8_latest_2 rfl ⟨by decide, by decide⟩ ?_
  refine z_istore_n (pc := 3) (i := 3) (lv' := [(3, zI 0), (2, zI (-1)), (0, zR a0), (1, zI a1)]) X dX8_latest_3 rfl (hN _ (by decide)) rfl ?_
  refine z_pick [2, 3, 1, 0] (lv' := [(0, zR a0), (1, zI a1), (2, zI (-1)), (3, zI 0)]) rfl ?_
  refine z_bind (z_loop (body := X8_latest_b4 a0 a1 hp) (fun s3 : Int × Int => zJ K 0 0 4 [(0, zR a0), (1, zI a1), (2, zI s3.1), (3, zI s3.2)] [] hp) (fun e5 : Int => zJ K 0 0 57 [(2, zI e5)] [] hp) (fun s3 => ?_) zN ((-1), 0)) (fun e5 => ?_)
  · unfold X8_latest_b4
    refine z_iload_n (pc := 4) (i := 3) 3 X dX8_latest_4 rfl rfl ?_
    refine z_aload_n (pc := 5) (i := 0) 0 X dX8_latest_5 rfl rfl ?_
    refine z_getI (pc := 6) (C := RX8) (T := TX8) (N := 30) (ci := 9) 19 X dX8_latest_6 inz_X8 rfl (by decide) fw_X8_118 (fun v6 => ?_)
    refine z_icmp_ge (pc := 9) 57 X dX8_latest_9 (by decide) (fun _ => ?_) (fun _ => ?_)
    · refine z_pick [2] (lv' := [(2, zI s3.1)]) rfl ?_
      exact z_exit
    · refine z_aload_n (pc := 12) (i := 0) 0 X dX8_latest_12 rfl rfl ?_
      refine z_getJ (pc := 13) (C := RX8) (T := TX8) (N := 30) (ci := 9) 26 X dX8_latest_13 inz_X8 rfl (by decide) fw_X8_102 (fun v7 => ?_)
      refine z_lconst (pc := 16) (z := 0) X dX8_latest_16 rfl ?_
      refine z_lcmp (pc := 17) X dX8_latest_17 ?_
      refine z_if_eq (pc := 18) 49 X dX8_latest_18 (by decide) (fun _ => ?_) (fun _ => ?_)
      · refine z_iload_n (pc := 49) (i := 2) 2 X dX8_latest_49 rfl rfl ?_
        refine z_istore_n (pc := 50) (i := 2) (lv' := [(2, zI s3.1), (0, zR a0), (1, zI a1), (3, zI s3.2)]) X dX8_latest_50 rfl (hN _ (by decide)) rfl ?_
        refine z_iinc (pc := 51) (i := 3) (n := 1) (lv' := fun v8 => [(3, zI v8), (2, zI s3.1), (0, zR a0), (1, zI a1)]) 3 X dX8_latest_51 rfl (hN _ (by decide)) (fun _ => rfl) (fun v8 _ _ => ?_)
        refine z_goto (pc := 54) 4 X dX8_latest_54 (by decide) ?_
        refine z_pick [2, 3, 1, 0] (lv' := [(0, zR a0), (1, zI a1), (2, zI s3.1), (3, zI v8)]) rfl ?_
        exact z_back
      · refine z_aload_n (pc := 21) (i := 0) 0 X dX8_latest_21 rfl rfl ?_
        refine z_getR (pc := 22) (C := RX8) (T := TX8) (N := 30) (ci := 9) 15 X dX8_latest_22 inz_X8 rfl (by decide) fw_X8_52 (fun v9 => ?_)
        refine z_iload_n (pc := 25) (i := 3) 3 X dX8_latest_25 rfl rfl ?_
        refine z_laload (pc := 26) X dX8_latest_26 (fun v10 => ?_)
        refine z_aload_n (pc := 27) (i := 0) 0 X dX8_latest_27 rfl rfl ?_
        refine z_getJ (pc := 28) (C := RX8) (T := TX8) (N := 30) (ci := 9) 26 X dX8_latest_28 inz_X8 rfl (by decide) fw_X8_102 (fun v11 => ?_)
        refine z_lcmp (pc := 31) X dX8_latest_31 ?_
        refine z_if_ne (pc := 32) 49 X dX8_latest_32 (by decide) (fun _ => ?_) (fun _ => ?_)
        · refine z_iload_n (pc := 49) (i := 2) 2 X dX8_latest_49 rfl rfl ?_
          refine z_istore_n (pc := 50) (i := 2) (lv' := [(2, zI s3.1), (0, zR a0), (1, zI a1), (3, zI s3.2)]) X dX8_latest_50 rfl (hN _ (by decide)) rfl ?_
          refine z_iinc (pc := 51) (i := 3) (n := 1) (lv' := fun v12 => [(3, zI v12), (2, zI s3.1), (0, zR a0), (1, zI a1)]) 3 X dX8_latest_51 rfl (hN _ (by decide)) (fun _ => rfl) (fun v12 _ _ => ?_)
          refine z_goto (pc := 54) 4 X dX8_latest_54 (by decide) ?_
          refine z_pick [2, 3, 1, 0] (lv' := [(0, zR a0), (1, zI a1), (2, zI s3.1), (3, zI v12)]) rfl ?_
          exact z_back
        · refine z_aload_n (pc := 35) (i := 0) 0 X dX8_latest_35 rfl rfl ?_
          refine z_getR (pc := 36) (C := RX8) (T := TX8) (N := 30) (ci := 9) 16 X dX8_latest_36 inz_X8 rfl (by decide) fw_X8_55 (fun v13 => ?_)
          refine z_iload_n (pc := 39) (i := 3) 3 X dX8_latest_39 rfl rfl ?_
          refine z_iaload (pc := 40) X dX8_latest_40 (fun v14 => ?_)
          refine z_iload_n (pc := 41) (i := 1) 1 X dX8_latest_41 rfl rfl ?_
          refine z_icmp_ne (pc := 42) 49 X dX8_latest_42 (by decide) (fun _ => ?_) (fun _ => ?_)
          · refine z_iload_n (pc := 49) (i := 2) 2 X dX8_latest_49 rfl rfl ?_
            refine z_istore_n (pc := 50) (i := 2) (lv' := [(2, zI s3.1), (0, zR a0), (1, zI a1), (3, zI s3.2)]) X dX8_latest_50 rfl (hN _ (by decide)) rfl ?_
            refine z_iinc (pc := 51) (i := 3) (n := 1) (lv' := fun v15 => [(3, zI v15), (2, zI s3.1), (0, zR a0), (1, zI a1)]) 3 X dX8_latest_51 rfl (hN _ (by decide)) (fun _ => rfl) (fun v15 _ _ => ?_)
            refine z_goto (pc := 54) 4 X dX8_latest_54 (by decide) ?_
            refine z_pick [2, 3, 1, 0] (lv' := [(0, zR a0), (1, zI a1), (2, zI s3.1), (3, zI v15)]) rfl ?_
            exact z_back
          · refine z_iload_n (pc := 45) (i := 3) 3 X dX8_latest_45 rfl rfl ?_
            refine z_goto (pc := 46) 50 X dX8_latest_46 (by decide) ?_
            refine z_istore_n (pc := 50) (i := 2) (lv' := [(2, zI s3.2), (0, zR a0), (1, zI a1), (3, zI s3.2)]) X dX8_latest_50 rfl (hN _ (by decide)) rfl ?_
            refine z_iinc (pc := 51) (i := 3) (n := 1) (lv' := fun v16 => [(3, zI v16), (2, zI s3.2), (0, zR a0), (1, zI a1)]) 3 X dX8_latest_51 rfl (hN _ (by decide)) (fun _ => rfl) (fun v16 _ _ => ?_)
            refine z_goto (pc := 54) 4 X dX8_latest_54 (by decide) ?_
            refine z_pick [2, 3, 1, 0] (lv' := [(0, zR a0), (1, zI a1), (2, zI s3.2), (3, zI v16)]) rfl ?_
            exact z_back
  · refine z_iload_n (pc := 57) (i := 2) 0 X dX8_latest_57 rfl rfl ?_
    refine z_fin (fun e9 => ?_)
    subst e9
    exact hret _ _ _ _ (by decide) (by decide) dX8_latest_58 trivial
def X8_letter_b44 (p4 : Option Nat) (p5 : Int) (p6 : Int64) (h8 : zH) (s7 : Int × Int64) : Option ((Int × Int64) ⊕ (Int)) :=
  if (zcmp s7.2 0) ≤ 0 then
    some (Sum.inr (s7.1))
  else
    (zchk (s7.1 + 1)).bind fun v10 =>
    (zldiv s7.2 27).bind fun v11 =>
    some (Sum.inl (v10, v11))
def X8_letter_b91 (p16 : Int) (h18 : zH) (s17 : Int64 × Int) : Option ((Int64 × Int) ⊕ (Int64)) :=
  if s17.2 ≤ p16 then
    some (Sum.inr (s17.1))
  else
    (zldiv s17.1 27).bind fun v20 =>
    (zchk (s17.2 + (-1))).bind fun v21 =>
    some (Sum.inl (v20, v21))
def X8_letter_j35 (a0 : Option Nat) (a3 : Int) (x2 : (Int × zH)) (j3 : Int64) : Option (Int × zH) :=
  (zloop (X8_letter_b44 a0 a3 j3 x2.2) zN (0, j3)).bind fun e9 =>
  (zchk (e9 - 1)).bind fun v12 =>
  (X8_isBetween x2.2 a3 0 v12).bind fun x13 =>
  ((zobj x2.2 a0 9).bind fun _ => X8_no x2.2 a0 x13 2).bind fun x14 =>
  if x14.1 = 0 then
    (zchk (e9 - 1)).bind fun v15 =>
    (zloop (X8_letter_b91 a3 x14.2) zN (j3, v15)).bind fun e19 =>
    (zlrem e19 27).bind fun v22 =>
    (zchk (97 + (Int64.toInt32 v22).toInt)).bind fun v23 =>
    (zchk (v23 - 1)).bind fun v24 =>
    (zchkC ((v24 % 65536))).bind fun _ =>
    some ((v24 % 65536), x14.2)
  else
    some (45, x14.2)
def X8_letter (hp : zH) (a0 : Option Nat) (a1 : Int) (a2 : Int) (a3 : Int) : Option (Int × zH) :=
  ((zobj hp a0 9).bind fun _ => X8_isStreet hp a0 a1).bind fun x1 =>
  ((zobj hp a0 9).bind fun _ => X8_no hp a0 x1 1).bind fun x2 =>
  if x2.1 = 0 then
    if a2 = 0 then
      (zgR x2.2 a0 9 0).bind fun v25 =>
      (zaJ x2.2 v25 a1).bind fun v26 =>
      X8_letter_j35 a0 a3 x2 v26
    else
      (zgR x2.2 a0 9 1).bind fun v27 =>
      (zaJ x2.2 v27 a1).bind fun v28 =>
      X8_letter_j35 a0 a3 x2 v28
  else
    some (45, x2.2)
set_option maxRecDepth 20000 in
theorem c_X8_letter (hp : zH) (a0 : Option Nat) (a1 : Int) (a2 : Int) (a3 : Int) : ∀ r, X8_letter hp a0 a1 a2 a3 = some r → zMi yX8_letter (Cond.code yX8_letter cX8_letter 9 (some .char) :: zALL) { frames := 2, cells := 0, slots := 0, locals := 43 } 0 0 [zR a0, zI a1, zI a2, zI a3] hp r.1 r.2 := by
  refine zMi_of (own := RX8) (cc := cX8_letter) (maxL := 9) (ε := (Int × zH)) (res := fun r => r.1) (hp2 := fun r => r.2) (by decide) rfl (Or.inr (Or.inr rfl)) (by exact Nat.le_of_ble_eq_true rfl) ?_
  intro K r0 X hnL hret
  have hN : ∀ i, i < 9 → i < K.2.2.2.2.2.2.2.2.2.2.2.2.2.2.1 := by rw [hnL]; exact fun _ h => h
  show zS _ _ (zJ K 0 0 0 [(0, zR a0), (1, zI a1), (2, zI a2), (3, zI a3)] [] hp)
  unfold X8_letter
  refine z_aload_n (pc := 0) (i := 0) 0 X dX8_letter_0 rfl rfl ?_
  refine z_aload_n (pc := 1) (i := 0) 0 X dX8_letter_1 rfl rfl ?_
  refine z_iload_n (pc := 2) (i := 1) 1 X dX8_letter_2 rfl rfl ?_
  refine z_callV_i (pc := 3) (cells := 0) (slots := 0) (C := RX8) (T := TX8) (N := 30) (ci := 9) [zI a1] X dX8_letter_3 (c_X8_isStreet hp a0 a1) kw_X8_132 rfl rfl ⟨rfl, rfl, ⟨by decide, by decide⟩, ⟨by decide, by decide⟩⟩ (Nat.le_of_ble_eq_true rfl) rfl (fun x1 => ?_)
  refine z_iconst (pc := 6) (z := 1) X dX8_letter_6 rfl ⟨by decide, by decide⟩ ?_
  refine z_callV_i (pc := 7) (cells := 0) (slots := 0) (C := RX8) (T := TX8) (N := 30) (ci := 9) [zI x1, zI 1] X dX8_letter_7 (c_X8_no hp a0 x1 1) kw_X8_93 rfl rfl ⟨rfl, rfl, ⟨by decide, by decide⟩, ⟨by decide, by decide⟩⟩ (Nat.le_of_ble_eq_true rfl) rfl (fun x2 => ?_)
  refine z_if_eq (pc := 10) 16 X dX8_letter_10 (by decide) (fun _ => ?_) (fun _ => ?_)
  · refine z_iload_n (pc := 16) (i := 2) 2 X dX8_letter_16 rfl rfl ?_
    have hJ35 : ∀ (j3 : Int64), zS (X8_letter_j35 a0 a3 x2 j3) (fun r => r = r0) (zJ K 0 0 35 [(0, zR a0), (3, zI a3)] [zL j3] x2.2) := by
      intro j3
      unfold X8_letter_j35
      refine z_lstore (pc := 35) (i := 4) (lv' := [(4, zL j3), (0, zR a0), (3, zI a3)]) X dX8_letter_35 (hN _ (by decide)) rfl ?_
      refine z_iconst (pc := 37) (z := 0) X dX8_letter_37 rfl ⟨by decide, by decide⟩ ?_
      refine z_istore (pc := 38) (i := 6) (lv' := [(6, zI 0), (4, zL j3), (0, zR a0), (3, zI a3)]) X dX8_letter_38 (hN _ (by decide)) rfl ?_
      refine z_lload (pc := 40) (i := 4) 1 X dX8_letter_40 rfl ?_
      refine z_lstore (pc := 42) (i := 7) (lv' := [(7, zL j3), (6, zI 0), (4, zL j3), (0, zR a0), (3, zI a3)]) X dX8_letter_42 (hN _ (by decide)) rfl ?_
      refine z_pick [3, 4, 2, 1, 0] (lv' := [(0, zR a0), (3, zI a3), (4, zL j3), (6, zI 0), (7, zL j3)]) rfl ?_
      refine z_bind (z_loop (body := X8_letter_b44 a0 a3 j3 x2.2) (fun s7 : Int × Int64 => zJ K 0 0 44 [(0, zR a0), (3, zI a3), (4, zL j3), (6, zI s7.1), (7, zL s7.2)] [] x2.2) (fun e9 : Int => zJ K 0 0 65 [(0, zR a0), (3, zI a3), (4, zL j3), (6, zI e9)] [] x2.2) (fun s7 => ?_) zN (0, j3)) (fun e9 => ?_)
      · unfold X8_letter_b44
        refine z_lload (pc := 44) (i := 7) 4 X dX8_letter_44 rfl ?_
        refine z_lconst (pc := 46) (z := 0) X dX8_letter_46 rfl ?_
        refine z_lcmp (pc := 47) X dX8_letter_47 ?_
        refine z_if_le (pc := 48) 65 X dX8_letter_48 (by decide) (fun _ => ?_) (fun _ => ?_)
        · refine z_pick [0, 1, 2, 3] (lv' := [(0, zR a0), (3, zI a3), (4, zL j3), (6, zI s7.1)]) rfl ?_
          exact z_exit
        · refine z_iinc (pc := 51) (i := 6) (n := 1) (lv' := fun v10 => [(6, zI v10), (0, zR a0), (3, zI a3), (4, zL j3), (7, zL s7.2)]) 3 X dX8_letter_51 rfl (hN _ (by decide)) (fun _ => rfl) (fun v10 _ _ => ?_)
          refine z_lload (pc := 54) (i := 7) 4 X dX8_letter_54 rfl ?_
          refine z_ldc2 (pc := 56) (z := 27) X dX8_letter_56 (zin (zt5 49 (by decide +kernel)) rfl) ?_
          refine z_ldiv (pc := 59) X dX8_letter_59 (fun v11 => ?_)
          refine z_lstore (pc := 60) (i := 7) (lv' := [(7, zL v11), (6, zI v10), (0, zR a0), (3, zI a3), (4, zL j3)]) X dX8_letter_60 (hN _ (by decide)) rfl ?_
          refine z_goto (pc := 62) 44 X dX8_letter_62 (by decide) ?_
          refine z_pick [2, 3, 4, 1, 0] (lv' := [(0, zR a0), (3, zI a3), (4, zL j3), (6, zI v10), (7, zL v11)]) rfl ?_
          exact z_back
      · refine z_aload_n (pc := 65) (i := 0) 0 X dX8_letter_65 rfl rfl ?_
        refine z_iload_n (pc := 66) (i := 3) 1 X dX8_letter_66 rfl rfl ?_
        refine z_iconst (pc := 67) (z := 0) X dX8_letter_67 rfl ⟨by decide, by decide⟩ ?_
        refine z_iload (pc := 68) (i := 6) 3 X dX8_letter_68 rfl ?_
        refine z_iconst (pc := 70) (z := 1) X dX8_letter_70 rfl ⟨by decide, by decide⟩ ?_
        refine z_isub (pc := 71) X dX8_letter_71 (fun v12 _ _ => ?_)
        refine z_callS_i (pc := 72) (cells := 0) (slots := 0) [zI a3, zI 0, zI v12] X dX8_letter_72 (c_X8_isBetween x2.2 a3 0 v12) kw_X8_86 rfl ⟨rfl, rfl, ⟨by decide, by decide⟩, ⟨by decide, by decide⟩⟩ (Nat.le_of_ble_eq_true rfl) rfl (fun x13 => ?_)
        refine z_iconst (pc := 75) (z := 2) X dX8_letter_75 rfl ⟨by decide, by decide⟩ ?_
        refine z_callV_i (pc := 76) (cells := 0) (slots := 0) (C := RX8) (T := TX8) (N := 30) (ci := 9) [zI x13, zI 2] X dX8_letter_76 (c_X8_no x2.2 a0 x13 2) kw_X8_93 rfl rfl ⟨rfl, rfl, ⟨by decide, by decide⟩, ⟨by decide, by decide⟩⟩ (Nat.le_of_ble_eq_true rfl) rfl (fun x14 => ?_)
        refine z_if_eq (pc := 79) 85 X dX8_letter_79 (by decide) (fun _ => ?_) (fun _ => ?_)
        · refine z_iload (pc := 85) (i := 6) 3 X dX8_letter_85 rfl ?_
          refine z_iconst (pc := 87) (z := 1) X dX8_letter_87 rfl ⟨by decide, by decide⟩ ?_
          refine z_isub (pc := 88) X dX8_letter_88 (fun v15 _ _ => ?_)
          refine z_istore (pc := 89) (i := 7) (lv' := [(7, zI v15), (0, zR a0), (3, zI a3), (4, zL j3), (6, zI e9)]) X dX8_letter_89 (hN _ (by decide)) rfl ?_
          refine z_pick [2, 3, 0] (lv' := [(3, zI a3), (4, zL j3), (7, zI v15)]) rfl ?_
          refine z_bind (z_loop (body := X8_letter_b91 a3 x14.2) (fun s17 : Int64 × Int => zJ K 0 0 91 [(3, zI a3), (4, zL s17.1), (7, zI s17.2)] [] x14.2) (fun e19 : Int64 => zJ K 0 0 111 [(4, zL e19)] [] x14.2) (fun s17 => ?_) zN (j3, v15)) (fun e19 => ?_)
          · unfold X8_letter_b91
            refine z_iload (pc := 91) (i := 7) 2 X dX8_letter_91 rfl ?_
            refine z_iload_n (pc := 93) (i := 3) 0 X dX8_letter_93 rfl rfl ?_
            refine z_icmp_le (pc := 94) 111 X dX8_letter_94 (by decide) (fun _ => ?_) (fun _ => ?_)
            · refine z_pick [1] (lv' := [(4, zL s17.1)]) rfl ?_
              exact z_exit
            · refine z_lload (pc := 97) (i := 4) 1 X dX8_letter_97 rfl ?_
              refine z_ldc2 (pc := 99) (z := 27) X dX8_letter_99 (zin (zt5 49 (by decide +kernel)) rfl) ?_
              refine z_ldiv (pc := 102) X dX8_letter_102 (fun v20 => ?_)
              refine z_lstore (pc := 103) (i := 4) (lv' := [(4, zL v20), (3, zI a3), (7, zI s17.2)]) X dX8_letter_103 (hN _ (by decide)) rfl ?_
              refine z_iinc (pc := 105) (i := 7) (n := -1) (lv' := fun v21 => [(7, zI v21), (4, zL v20), (3, zI a3)]) 2 X dX8_letter_105 rfl (hN _ (by decide)) (fun _ => rfl) (fun v21 _ _ => ?_)
              refine z_goto (pc := 108) 91 X dX8_letter_108 (by decide) ?_
              refine z_pick [2, 1, 0] (lv' := [(3, zI a3), (4, zL v20), (7, zI v21)]) rfl ?_
              exact z_back
          · refine z_bipush (pc := 111) (z := 97) X dX8_letter_111 rfl ⟨by decide, by decide⟩ ?_
            refine z_lload (pc := 113) (i := 4) 0 X dX8_letter_113 rfl ?_
            refine z_ldc2 (pc := 115) (z := 27) X dX8_letter_115 (zin (zt5 49 (by decide +kernel)) rfl) ?_
            refine z_lrem (pc := 118) X dX8_letter_118 (fun v22 => ?_)
            refine z_l2i (pc := 119) X dX8_letter_119 ?_
            refine z_iadd (pc := 120) X dX8_letter_120 (fun v23 _ _ => ?_)
            refine z_iconst (pc := 121) (z := 1) X dX8_letter_121 rfl ⟨by decide, by decide⟩ ?_
            refine z_isub (pc := 122) X dX8_letter_122 (fun v24 _ _ => ?_)
            refine z_i2c (pc := 123) X dX8_letter_123 ?_
            refine z_chkC (fun hf9 => ?_)
            refine z_fin (fun e9 => ?_)
            subst e9
            exact hret _ _ _ _ (by decide) (by decide) dX8_letter_124 hf9
        · refine z_bipush (pc := 82) (z := 45) X dX8_letter_82 rfl ⟨by decide, by decide⟩ ?_
          refine z_fin (fun e9 => ?_)
          subst e9
          exact hret _ _ _ _ (by decide) (by decide) dX8_letter_84 (show (0 : Int) ≤ 45 ∧ (45 : Int) ≤ 65535 from ⟨by decide, by decide⟩)
    refine z_if_eq (pc := 17) 29 X dX8_letter_17 (by decide) (fun _ => ?_) (fun _ => ?_)
    · refine z_aload_n (pc := 29) (i := 0) 0 X dX8_letter_29 rfl rfl ?_
      refine z_getR (pc := 30) (C := RX8) (T := TX8) (N := 30) (ci := 9) 0 X dX8_letter_30 inz_X8 rfl (by decide) fw_X8_7 (fun v25 => ?_)
      refine z_iload_n (pc := 33) (i := 1) 1 X dX8_letter_33 rfl rfl ?_
      refine z_laload (pc := 34) X dX8_letter_34 (fun v26 => ?_)
      refine z_pick [0, 3] (lv' := [(0, zR a0), (3, zI a3)]) rfl ?_
      exact hJ35 v26
    · refine z_aload_n (pc := 20) (i := 0) 0 X dX8_letter_20 rfl rfl ?_
      refine z_getR (pc := 21) (C := RX8) (T := TX8) (N := 30) (ci := 9) 1 X dX8_letter_21 inz_X8 rfl (by decide) fw_X8_13 (fun v27 => ?_)
      refine z_iload_n (pc := 24) (i := 1) 1 X dX8_letter_24 rfl rfl ?_
      refine z_laload (pc := 25) X dX8_letter_25 (fun v28 => ?_)
      refine z_goto (pc := 26) 35 X dX8_letter_26 (by decide) ?_
      refine z_pick [0, 3] (lv' := [(0, zR a0), (3, zI a3)]) rfl ?_
      exact hJ35 v28
  · refine z_bipush (pc := 13) (z := 45) X dX8_letter_13 rfl ⟨by decide, by decide⟩ ?_
    refine z_fin (fun e9 => ?_)
    subst e9
    exact hret _ _ _ _ (by decide) (by decide) dX8_letter_15 (show (0 : Int) ≤ 45 ∧ (45 : Int) ≤ 65535 from ⟨by decide, by decide⟩)
def X8_streets_b4 (p1 : Option Nat) (h3 : zH) (s2 : Int × Int) : Option ((Int × Int) ⊕ (Int)) :=
  (zgI h3 p1 9 7).bind fun v5 =>
  if v5 ≤ s2.2 then
    some (Sum.inr (s2.1))
  else
    (zgR h3 p1 9 5).bind fun v6 =>
    (zaI h3 2 v6 s2.2).bind fun v7 =>
    if v7 = 0 then
      (zchk (s2.1 + 1)).bind fun v8 =>
      (zchk (s2.2 + 1)).bind fun v9 =>
      some (Sum.inl (v8, v9))
    else
      (zchk (s2.1 + 0)).bind fun v10 =>
      (zchk (s2.2 + 1)).bind fun v11 =>
      some (Sum.inl (v10, v11))
def X8_streets (hp : zH) (a0 : Option Nat) : Option Int :=
  (zloop (X8_streets_b4 a0 hp) zN (0, 0)).bind fun e4 =>
  some e4
set_option maxRecDepth 20000 in
theorem c_X8_streets (hp : zH) (a0 : Option Nat) : ∀ r, X8_streets hp a0 = some r → zMi yX8_streets (Cond.code yX8_streets cX8_streets 3 (some .int) :: zALL) { frames := 0, cells := 0, slots := 0, locals := 0 } 0 0 [zR a0] hp r hp := by
  refine zMi_of (own := RX8) (cc := cX8_streets) (maxL := 3) (res := fun r => r) (hp2 := fun _ => hp) (by decide) rfl (Or.inl rfl) (by exact Nat.le_of_ble_eq_true rfl) ?_
  intro K r0 X hnL hret
  have hN : ∀ i, i < 3 → i < K.2.2.2.2.2.2.2.2.2.2.2.2.2.2.1 := by rw [hnL]; exact fun _ h => h
  show zS _ _ (zJ K 0 0 0 [(0, zR a0)] [] hp)
  unfold X8_streets
  refine z_iconst (pc := 0) (z := 0) X dX8_streets_0 rfl ⟨by decide, by decide⟩ ?_
  refine z_istore_n (pc := 1) (i := 1) (lv' := [(1, zI 0), (0, zR a0)]) X dX8_streets_1 rfl (hN _ (by decide)) rfl ?_
  refine z_iconst (pc := 2) (z := 0) X dX8_streets_2 rfl ⟨by decide, by decide⟩ ?_
  refine z_istore_n (pc := 3) (i := 2) (lv' := [(2, zI 0), (1, zI 0), (0, zR a0)]) X dX8_streets_3 rfl (hN _ (by decide)) rfl ?_
  refine z_pick [2, 1, 0] (lv' := [(0, zR a0), (1, zI 0), (2, zI 0)]) rfl ?_
  refine z_bind (z_loop (body := X8_streets_b4 a0 hp) (fun s2 : Int × Int => zJ K 0 0 4 [(0, zR a0), (1, zI s2.1), (2, zI s2.2)] [] hp) (fun e4 : Int => zJ K 0 0 35 [(1, zI e4)] [] hp) (fun s2 => ?_) zN (0, 0)) (fun e4 => ?_)
  · unfold X8_streets_b4
    refine z_iload_n (pc := 4) (i := 2) 2 X dX8_streets_4 rfl rfl ?_
    refine z_aload_n (pc := 5) (i := 0) 0 X dX8_streets_5 rfl rfl ?_
    refine z_getI (pc := 6) (C := RX8) (T := TX8) (N := 30) (ci := 9) 7 X dX8_streets_6 inz_X8 rfl (by decide) fw_X8_83 (fun v5 => ?_)
    refine z_icmp_ge (pc := 9) 35 X dX8_streets_9 (by decide) (fun _ => ?_) (fun _ => ?_)
    · refine z_pick [1] (lv' := [(1, zI s2.1)]) rfl ?_
      exact z_exit
    · refine z_iload_n (pc := 12) (i := 1) 1 X dX8_streets_12 rfl rfl ?_
      refine z_aload_n (pc := 13) (i := 0) 0 X dX8_streets_13 rfl rfl ?_
      refine z_getR (pc := 14) (C := RX8) (T := TX8) (N := 30) (ci := 9) 5 X dX8_streets_14 inz_X8 rfl (by decide) fw_X8_28 (fun v6 => ?_)
      refine z_iload_n (pc := 17) (i := 2) 2 X dX8_streets_17 rfl rfl ?_
      refine z_zaload (pc := 18) X dX8_streets_18 (fun v7 => ?_)
      refine z_if_eq (pc := 19) 26 X dX8_streets_19 (by decide) (fun _ => ?_) (fun _ => ?_)
      · refine z_iconst (pc := 26) (z := 1) X dX8_streets_26 rfl ⟨by decide, by decide⟩ ?_
        refine z_iadd (pc := 27) X dX8_streets_27 (fun v8 _ _ => ?_)
        refine z_istore_n (pc := 28) (i := 1) (lv' := [(1, zI v8), (0, zR a0), (2, zI s2.2)]) X dX8_streets_28 rfl (hN _ (by decide)) rfl ?_
        refine z_iinc (pc := 29) (i := 2) (n := 1) (lv' := fun v9 => [(2, zI v9), (1, zI v8), (0, zR a0)]) 2 X dX8_streets_29 rfl (hN _ (by decide)) (fun _ => rfl) (fun v9 _ _ => ?_)
        refine z_goto (pc := 32) 4 X dX8_streets_32 (by decide) ?_
        refine z_pick [2, 1, 0] (lv' := [(0, zR a0), (1, zI v8), (2, zI v9)]) rfl ?_
        exact z_back
      · refine z_iconst (pc := 22) (z := 0) X dX8_streets_22 rfl ⟨by decide, by decide⟩ ?_
        refine z_goto (pc := 23) 27 X dX8_streets_23 (by decide) ?_
        refine z_iadd (pc := 27) X dX8_streets_27 (fun v10 _ _ => ?_)
        refine z_istore_n (pc := 28) (i := 1) (lv' := [(1, zI v10), (0, zR a0), (2, zI s2.2)]) X dX8_streets_28 rfl (hN _ (by decide)) rfl ?_
        refine z_iinc (pc := 29) (i := 2) (n := 1) (lv' := fun v11 => [(2, zI v11), (1, zI v10), (0, zR a0)]) 2 X dX8_streets_29 rfl (hN _ (by decide)) (fun _ => rfl) (fun v11 _ _ => ?_)
        refine z_goto (pc := 32) 4 X dX8_streets_32 (by decide) ?_
        refine z_pick [2, 1, 0] (lv' := [(0, zR a0), (1, zI v10), (2, zI v11)]) rfl ?_
        exact z_back
  · refine z_iload_n (pc := 35) (i := 1) 0 X dX8_streets_35 rfl rfl ?_
    refine z_fin (fun e9 => ?_)
    subst e9
    exact hret _ _ _ _ (by decide) (by decide) dX8_streets_36 trivial
def X8_meanDoors_b4 (p1 : Option Nat) (h3 : zH) (s2 : Int × Int) : Option ((Int × Int) ⊕ (Int)) :=
  (zgI h3 p1 9 7).bind fun v5 =>
  if v5 ≤ s2.2 then
    some (Sum.inr (s2.1))
  else
    (zgR h3 p1 9 5).bind fun v6 =>
    (zaI h3 2 v6 s2.2).bind fun v7 =>
    if v7 = 0 then
      ((zobj h3 p1 9).bind fun _ => X8_doorsOf h3 p1 s2.2).bind fun x8 =>
      (zchk (s2.1 + x8)).bind fun v9 =>
      (zchk (s2.2 + 1)).bind fun v10 =>
      some (Sum.inl (v9, v10))
    else
      (zchk (s2.1 + 0)).bind fun v11 =>
      (zchk (s2.2 + 1)).bind fun v12 =>
      some (Sum.inl (v11, v12))
def X8_meanDoors_j52 (hp : zH) (a0 : Option Nat) (e4 : Int) (j14 : Int) : Option (UInt64 × zH) :=
  ((zobj hp a0 9).bind fun _ => X8_no hp a0 j14 1).bind fun x15 =>
  if x15.1 = 0 then
    ((zobj x15.2 a0 9).bind fun _ => X8_streets x15.2 a0).bind fun x16 =>
    (zddiv (zi2d e4) (zi2d x16)).bind fun v17 =>
    some (v17, x15.2)
  else
    some (FP.dconst0, x15.2)
def X8_meanDoors (hp : zH) (a0 : Option Nat) : Option (UInt64 × zH) :=
  (zloop (X8_meanDoors_b4 a0 hp) zN (0, 0)).bind fun e4 =>
  ((zobj hp a0 9).bind fun _ => X8_streets hp a0).bind fun x13 =>
  if x13 ≤ 0 then
    X8_meanDoors_j52 hp a0 e4 0
  else
    X8_meanDoors_j52 hp a0 e4 1
set_option maxRecDepth 20000 in
theorem c_X8_meanDoors (hp : zH) (a0 : Option Nat) : ∀ r, X8_meanDoors hp a0 = some r → zMd yX8_meanDoors (Cond.code yX8_meanDoors cX8_meanDoors 3 (some .double) :: zALL) { frames := 1, cells := 0, slots := 0, locals := 23 } 0 0 [zR a0] hp r.1 r.2 := by
  refine zMd_of (own := RX8) (cc := cX8_meanDoors) (maxL := 3) (ε := (UInt64 × zH)) (res := fun r => r.1) (hp2 := fun r => r.2) (by decide) rfl (by exact Nat.le_of_ble_eq_true rfl) ?_
  intro K r0 X hnL hret
  have hN : ∀ i, i < 3 → i < K.2.2.2.2.2.2.2.2.2.2.2.2.2.2.1 := by rw [hnL]; exact fun _ h => h
  show zS _ _ (zJ K 0 0 0 [(0, zR a0)] [] hp)
  unfold X8_meanDoors
  refine z_iconst (pc := 0) (z := 0) X dX8_meanDoors_0 rfl ⟨by decide, by decide⟩ ?_
  refine z_istore_n (pc := 1) (i := 1) (lv' := [(1, zI 0), (0, zR a0)]) X dX8_meanDoors_1 rfl (hN _ (by decide)) rfl ?_
  refine z_iconst (pc := 2) (z := 0) X dX8_meanDoors_2 rfl ⟨by decide, by decide⟩ ?_
  refine z_istore_n (pc := 3) (i := 2) (lv' := [(2, zI 0), (1, zI 0), (0, zR a0)]) X dX8_meanDoors_3 rfl (hN _ (by decide)) rfl ?_
  refine z_pick [2, 1, 0] (lv' := [(0, zR a0), (1, zI 0), (2, zI 0)]) rfl ?_
  refine z_bind (z_loop (body := X8_meanDoors_b4 a0 hp) (fun s2 : Int × Int => zJ K 0 0 4 [(0, zR a0), (1, zI s2.1), (2, zI s2.2)] [] hp) (fun e4 : Int => zJ K 0 0 39 [(0, zR a0), (1, zI e4)] [] hp) (fun s2 => ?_) zN (0, 0)) (fun e4 => ?_)
  · unfold X8_meanDoors_b4
    refine z_iload_n (pc := 4) (i := 2) 2 X dX8_meanDoors_4 rfl rfl ?_
    refine z_aload_n (pc := 5) (i := 0) 0 X dX8_meanDoors_5 rfl rfl ?_
    refine z_getI (pc := 6) (C := RX8) (T := TX8) (N := 30) (ci := 9) 7 X dX8_meanDoors_6 inz_X8 rfl (by decide) fw_X8_83 (fun v5 => ?_)
    refine z_icmp_ge (pc := 9) 39 X dX8_meanDoors_9 (by decide) (fun _ => ?_) (fun _ => ?_)
    · refine z_pick [0, 1] (lv' := [(0, zR a0), (1, zI s2.1)]) rfl ?_
      exact z_exit
    · refine z_iload_n (pc := 12) (i := 1) 1 X dX8_meanDoors_12 rfl rfl ?_
      refine z_aload_n (pc := 13) (i := 0) 0 X dX8_meanDoors_13 rfl rfl ?_
      refine z_getR (pc := 14) (C := RX8) (T := TX8) (N := 30) (ci := 9) 5 X dX8_meanDoors_14 inz_X8 rfl (by decide) fw_X8_28 (fun v6 => ?_)
      refine z_iload_n (pc := 17) (i := 2) 2 X dX8_meanDoors_17 rfl rfl ?_
      refine z_zaload (pc := 18) X dX8_meanDoors_18 (fun v7 => ?_)
      refine z_if_eq (pc := 19) 26 X dX8_meanDoors_19 (by decide) (fun _ => ?_) (fun _ => ?_)
      · refine z_aload_n (pc := 26) (i := 0) 0 X dX8_meanDoors_26 rfl rfl ?_
        refine z_iload_n (pc := 27) (i := 2) 2 X dX8_meanDoors_27 rfl rfl ?_
        refine z_callV_i (pc := 28) (cells := 0) (slots := 0) (C := RX8) (T := TX8) (N := 30) (ci := 9) [zI s2.2] X dX8_meanDoors_28 (c_X8_doorsOf hp a0 s2.2) kw_X8_209 rfl rfl ⟨rfl, rfl, ⟨by decide, by decide⟩, ⟨by decide, by decide⟩⟩ (Nat.le_of_ble_eq_true rfl) rfl (fun x8 => ?_)
        refine z_iadd (pc := 31) X dX8_meanDoors_31 (fun v9 _ _ => ?_)
        refine z_istore_n (pc := 32) (i := 1) (lv' := [(1, zI v9), (0, zR a0), (2, zI s2.2)]) X dX8_meanDoors_32 rfl (hN _ (by decide)) rfl ?_
        refine z_iinc (pc := 33) (i := 2) (n := 1) (lv' := fun v10 => [(2, zI v10), (1, zI v9), (0, zR a0)]) 2 X dX8_meanDoors_33 rfl (hN _ (by decide)) (fun _ => rfl) (fun v10 _ _ => ?_)
        refine z_goto (pc := 36) 4 X dX8_meanDoors_36 (by decide) ?_
        refine z_pick [2, 1, 0] (lv' := [(0, zR a0), (1, zI v9), (2, zI v10)]) rfl ?_
        exact z_back
      · refine z_iconst (pc := 22) (z := 0) X dX8_meanDoors_22 rfl ⟨by decide, by decide⟩ ?_
        refine z_goto (pc := 23) 31 X dX8_meanDoors_23 (by decide) ?_
        refine z_iadd (pc := 31) X dX8_meanDoors_31 (fun v11 _ _ => ?_)
        refine z_istore_n (pc := 32) (i := 1) (lv' := [(1, zI v11), (0, zR a0), (2, zI s2.2)]) X dX8_meanDoors_32 rfl (hN _ (by decide)) rfl ?_
        refine z_iinc (pc := 33) (i := 2) (n := 1) (lv' := fun v12 => [(2, zI v12), (1, zI v11), (0, zR a0)]) 2 X dX8_meanDoors_33 rfl (hN _ (by decide)) (fun _ => rfl) (fun v12 _ _ => ?_)
        refine z_goto (pc := 36) 4 X dX8_meanDoors_36 (by decide) ?_
        refine z_pick [2, 1, 0] (lv' := [(0, zR a0), (1, zI v11), (2, zI v12)]) rfl ?_
        exact z_back
  · refine z_aload_n (pc := 39) (i := 0) 0 X dX8_meanDoors_39 rfl rfl ?_
    refine z_aload_n (pc := 40) (i := 0) 0 X dX8_meanDoors_40 rfl rfl ?_
    refine z_callV_i (pc := 41) (cells := 0) (slots := 0) (C := RX8) (T := TX8) (N := 30) (ci := 9) [] X dX8_meanDoors_41 (c_X8_streets hp a0) kw_X8_221 rfl rfl ⟨rfl, rfl, ⟨by decide, by decide⟩, ⟨by decide, by decide⟩⟩ (Nat.le_of_ble_eq_true rfl) rfl (fun x13 => ?_)
    have hJ52 : ∀ (j14 : Int), zS (X8_meanDoors_j52 hp a0 e4 j14) (fun r => r = r0) (zJ K 0 0 52 [(0, zR a0), (1, zI e4)] [zI j14, zR a0] hp) := by
      intro j14
      unfold X8_meanDoors_j52
      refine z_iconst (pc := 52) (z := 1) X dX8_meanDoors_52 rfl ⟨by decide, by decide⟩ ?_
      refine z_callV_i (pc := 53) (cells := 0) (slots := 0) (C := RX8) (T := TX8) (N := 30) (ci := 9) [zI j14, zI 1] X dX8_meanDoors_53 (c_X8_no hp a0 j14 1) kw_X8_93 rfl rfl ⟨rfl, rfl, ⟨by decide, by decide⟩, ⟨by decide, by decide⟩⟩ (Nat.le_of_ble_eq_true rfl) rfl (fun x15 => ?_)
      refine z_if_eq (pc := 56) 63 X dX8_meanDoors_56 (by decide) (fun _ => ?_) (fun _ => ?_)
      · refine z_iload_n (pc := 63) (i := 1) 1 X dX8_meanDoors_63 rfl rfl ?_
        refine z_i2d (pc := 64) X dX8_meanDoors_64 ?_
        refine z_aload_n (pc := 65) (i := 0) 0 X dX8_meanDoors_65 rfl rfl ?_
        refine z_callV_i (pc := 66) (cells := 0) (slots := 0) (C := RX8) (T := TX8) (N := 30) (ci := 9) [] X dX8_meanDoors_66 (c_X8_streets x15.2 a0) kw_X8_221 rfl rfl ⟨rfl, rfl, ⟨by decide, by decide⟩, ⟨by decide, by decide⟩⟩ (Nat.le_of_ble_eq_true rfl) rfl (fun x16 => ?_)
        refine z_i2d (pc := 69) X dX8_meanDoors_69 ?_
        refine z_ddiv (pc := 70) X dX8_meanDoors_70 (fun v17 => ?_)
        refine z_fin (fun e9 => ?_)
        subst e9
        exact hret _ _ _ _ (by decide) (by decide) dX8_meanDoors_71
      · refine z_dconst (pc := 59) X dX8_meanDoors_59 ?_
        refine z_goto (pc := 60) 71 X dX8_meanDoors_60 (by decide) ?_
        refine z_fin (fun e9 => ?_)
        subst e9
        exact hret _ _ _ _ (by decide) (by decide) dX8_meanDoors_71
    refine z_if_le (pc := 44) 51 X dX8_meanDoors_44 (by decide) (fun _ => ?_) (fun _ => ?_)
    · refine z_iconst (pc := 51) (z := 0) X dX8_meanDoors_51 rfl ⟨by decide, by decide⟩ ?_
      exact hJ52 0
    · refine z_iconst (pc := 47) (z := 1) X dX8_meanDoors_47 rfl ⟨by decide, by decide⟩ ?_
      refine z_goto (pc := 48) 52 X dX8_meanDoors_48 (by decide) ?_
      exact hJ52 1
def X8_merge_b91 (p11 : Option Nat) (p12 : Int) (h14 : zH) (s13 : Int × Int) : Option ((Int × Int) ⊕ (Int)) :=
  (zgI h14 p11 9 14).bind fun v16 =>
  if v16 ≤ s13.2 then
    some (Sum.inr (s13.1))
  else
    if s13.2 = p12 then
      (zchk (s13.1 + 0)).bind fun v17 =>
      (zchk (s13.2 + 1)).bind fun v18 =>
      some (Sum.inl (v17, v18))
    else
      ((zobj h14 p11 9).bind fun _ => X8_endOf h14 p11 s13.2).bind fun x19 =>
      if x19 = p12 then
        (zchk (s13.1 + 1)).bind fun v22 =>
        (zchk (s13.2 + 1)).bind fun v23 =>
        some (Sum.inl (v22, v23))
      else
        (zchk (s13.1 + 0)).bind fun v20 =>
        (zchk (s13.2 + 1)).bind fun v21 =>
        some (Sum.inl (v20, v21))
def X8_merge_j71 (a0 : Option Nat) (a1 : Int) (a2 : Int) (x5 : (Int × zH)) (j8 : Int) : Option (Int × zH) :=
  ((zobj x5.2 a0 9).bind fun _ => X8_no x5.2 a0 j8 3).bind fun x9 =>
  if x9.1 = 0 then
    ((zobj x9.2 a0 9).bind fun _ => X8_goes x9.2 a0 a1 a2).bind fun x10 =>
    (zloop (X8_merge_b91 a0 a2 x10) zN (0, 0)).bind fun e15 =>
    some (e15, x10)
  else
    some (0, x9.2)
def X8_merge_j70 (a0 : Option Nat) (a1 : Int) (a2 : Int) (x5 : (Int × zH)) : Option (Int × zH) :=
  X8_merge_j71 a0 a1 a2 x5 0
def X8_merge_j40 (a0 : Option Nat) (a1 : Int) (a2 : Int) (x3 : (Int × zH)) (j4 : Int) : Option (Int × zH) :=
  ((zobj x3.2 a0 9).bind fun _ => X8_no x3.2 a0 j4 2).bind fun x5 =>
  if x5.1 = 0 then
    (zgR x5.2 a0 9 12).bind fun v6 =>
    (zaI x5.2 2 v6 a1).bind fun v7 =>
    if v7 = 0 then
      (zgR x5.2 a0 9 12).bind fun v24 =>
      (zaI x5.2 2 v24 a2).bind fun v25 =>
      if v25 = 0 then
        X8_merge_j71 a0 a1 a2 x5 1
      else
        X8_merge_j70 a0 a1 a2 x5
    else
      X8_merge_j70 a0 a1 a2 x5
  else
    some (0, x5.2)
def X8_merge_j22 (hp : zH) (a0 : Option Nat) (a1 : Int) (a2 : Int) (j2 : Int) : Option (Int × zH) :=
  ((zobj hp a0 9).bind fun _ => X8_no hp a0 j2 1).bind fun x3 =>
  if x3.1 = 0 then
    if a1 = a2 then
      X8_merge_j40 a0 a1 a2 x3 0
    else
      X8_merge_j40 a0 a1 a2 x3 1
  else
    some (0, x3.2)
def X8_merge_j21 (hp : zH) (a0 : Option Nat) (a1 : Int) (a2 : Int) : Option (Int × zH) :=
  X8_merge_j22 hp a0 a1 a2 0
def X8_merge (hp : zH) (a0 : Option Nat) (a1 : Int) (a2 : Int) : Option (Int × zH) :=
  ((zobj hp a0 9).bind fun _ => X8_isDoor hp a0 a1).bind fun x1 =>
  if x1 = 0 then
    X8_merge_j21 hp a0 a1 a2
  else
    ((zobj hp a0 9).bind fun _ => X8_isDoor hp a0 a2).bind fun x26 =>
    if x26 = 0 then
      X8_merge_j21 hp a0 a1 a2
    else
      X8_merge_j22 hp a0 a1 a2 1
set_option maxRecDepth 20000 in
theorem c_X8_merge (hp : zH) (a0 : Option Nat) (a1 : Int) (a2 : Int) : ∀ r, X8_merge hp a0 a1 a2 = some r → zMi yX8_merge (Cond.code yX8_merge cX8_merge 5 (some .int) :: zALL) { frames := 3, cells := 0, slots := 0, locals := 69 } 0 0 [zR a0, zI a1, zI a2] hp r.1 r.2 := by
  refine zMi_of (own := RX8) (cc := cX8_merge) (maxL := 5) (ε := (Int × zH)) (res := fun r => r.1) (hp2 := fun r => r.2) (by decide) rfl (Or.inl rfl) (by exact Nat.le_of_ble_eq_true rfl) ?_
  intro K r0 X hnL hret
  have hN : ∀ i, i < 5 → i < K.2.2.2.2.2.2.2.2.2.2.2.2.2.2.1 := by rw [hnL]; exact fun _ h => h
  show zS _ _ (zJ K 0 0 0 [(0, zR a0), (1, zI a1), (2, zI a2)] [] hp)
  unfold X8_merge
  refine z_aload_n (pc := 0) (i := 0) 0 X dX8_merge_0 rfl rfl ?_
  refine z_aload_n (pc := 1) (i := 0) 0 X dX8_merge_1 rfl rfl ?_
  refine z_iload_n (pc := 2) (i := 1) 1 X dX8_merge_2 rfl rfl ?_
  refine z_callV_i (pc := 3) (cells := 0) (slots := 0) (C := RX8) (T := TX8) (N := 30) (ci := 9) [zI a1] X dX8_merge_3 (c_X8_isDoor hp a0 a1) kw_X8_169 rfl rfl ⟨rfl, rfl, ⟨by decide, by decide⟩, ⟨by decide, by decide⟩⟩ (Nat.le_of_ble_eq_true rfl) rfl (fun x1 => ?_)
  have hJ22 : ∀ (j2 : Int), zS (X8_merge_j22 hp a0 a1 a2 j2) (fun r => r = r0) (zJ K 0 0 22 [(0, zR a0), (1, zI a1), (2, zI a2)] [zI j2, zR a0] hp) := by
    intro j2
    unfold X8_merge_j22
    refine z_iconst (pc := 22) (z := 1) X dX8_merge_22 rfl ⟨by decide, by decide⟩ ?_
    refine z_callV_i (pc := 23) (cells := 0) (slots := 0) (C := RX8) (T := TX8) (N := 30) (ci := 9) [zI j2, zI 1] X dX8_merge_23 (c_X8_no hp a0 j2 1) kw_X8_93 rfl rfl ⟨rfl, rfl, ⟨by decide, by decide⟩, ⟨by decide, by decide⟩⟩ (Nat.le_of_ble_eq_true rfl) rfl (fun x3 => ?_)
    refine z_if_ne (pc := 26) 78 X dX8_merge_26 (by decide) (fun _ => ?_) (fun _ => ?_)
    · refine z_iconst (pc := 78) (z := 0) X dX8_merge_78 rfl ⟨by decide, by decide⟩ ?_
      refine z_fin (fun e9 => ?_)
      subst e9
      exact hret _ _ _ _ (by decide) (by decide) dX8_merge_79 trivial
    · refine z_aload_n (pc := 29) (i := 0) 0 X dX8_merge_29 rfl rfl ?_
      refine z_iload_n (pc := 30) (i := 1) 1 X dX8_merge_30 rfl rfl ?_
      refine z_iload_n (pc := 31) (i := 2) 2 X dX8_merge_31 rfl rfl ?_
      have hJ40 : ∀ (j4 : Int), zS (X8_merge_j40 a0 a1 a2 x3 j4) (fun r => r = r0) (zJ K 0 0 40 [(0, zR a0), (1, zI a1), (2, zI a2)] [zI j4, zR a0] x3.2) := by
        intro j4
        unfold X8_merge_j40
        refine z_iconst (pc := 40) (z := 2) X dX8_merge_40 rfl ⟨by decide, by decide⟩ ?_
        refine z_callV_i (pc := 41) (cells := 0) (slots := 0) (C := RX8) (T := TX8) (N := 30) (ci := 9) [zI j4, zI 2] X dX8_merge_41 (c_X8_no x3.2 a0 j4 2) kw_X8_93 rfl rfl ⟨rfl, rfl, ⟨by decide, by decide⟩, ⟨by decide, by decide⟩⟩ (Nat.le_of_ble_eq_true rfl) rfl (fun x5 => ?_)
        refine z_if_ne (pc := 44) 78 X dX8_merge_44 (by decide) (fun _ => ?_) (fun _ => ?_)
        · refine z_iconst (pc := 78) (z := 0) X dX8_merge_78 rfl ⟨by decide, by decide⟩ ?_
          refine z_fin (fun e9 => ?_)
          subst e9
          exact hret _ _ _ _ (by decide) (by decide) dX8_merge_79 trivial
        · refine z_aload_n (pc := 47) (i := 0) 0 X dX8_merge_47 rfl rfl ?_
          refine z_aload_n (pc := 48) (i := 0) 0 X dX8_merge_48 rfl rfl ?_
          refine z_getR (pc := 49) (C := RX8) (T := TX8) (N := 30) (ci := 9) 12 X dX8_merge_49 inz_X8 rfl (by decide) fw_X8_46 (fun v6 => ?_)
          refine z_iload_n (pc := 52) (i := 1) 1 X dX8_merge_52 rfl rfl ?_
          refine z_zaload (pc := 53) X dX8_merge_53 (fun v7 => ?_)
          have hJ71 : ∀ (j8 : Int), zS (X8_merge_j71 a0 a1 a2 x5 j8) (fun r => r = r0) (zJ K 0 0 71 [(0, zR a0), (1, zI a1), (2, zI a2)] [zI j8, zR a0] x5.2) := by
            intro j8
            unfold X8_merge_j71
            refine z_iconst (pc := 71) (z := 3) X dX8_merge_71 rfl ⟨by decide, by decide⟩ ?_
            refine z_callV_i (pc := 72) (cells := 0) (slots := 0) (C := RX8) (T := TX8) (N := 30) (ci := 9) [zI j8, zI 3] X dX8_merge_72 (c_X8_no x5.2 a0 j8 3) kw_X8_93 rfl rfl ⟨rfl, rfl, ⟨by decide, by decide⟩, ⟨by decide, by decide⟩⟩ (Nat.le_of_ble_eq_true rfl) rfl (fun x9 => ?_)
            refine z_if_eq (pc := 75) 80 X dX8_merge_75 (by decide) (fun _ => ?_) (fun _ => ?_)
            · refine z_aload_n (pc := 80) (i := 0) 0 X dX8_merge_80 rfl rfl ?_
              refine z_iload_n (pc := 81) (i := 1) 1 X dX8_merge_81 rfl rfl ?_
              refine z_iload_n (pc := 82) (i := 2) 2 X dX8_merge_82 rfl rfl ?_
              refine z_callV_v (pc := 83) (cells := 0) (slots := 0) (C := RX8) (T := TX8) (N := 30) (ci := 9) [zI a1, zI a2] X dX8_merge_83 (c_X8_goes x9.2 a0 a1 a2) kw_X8_176 rfl rfl ⟨rfl, rfl, ⟨by decide, by decide⟩, ⟨by decide, by decide⟩⟩ (Nat.le_of_ble_eq_true rfl) rfl (fun x10 => ?_)
              refine z_iconst (pc := 86) (z := 0) X dX8_merge_86 rfl ⟨by decide, by decide⟩ ?_
              refine z_istore_n (pc := 87) (i := 3) (lv' := [(3, zI 0), (0, zR a0), (1, zI a1), (2, zI a2)]) X dX8_merge_87 rfl (hN _ (by decide)) rfl ?_
              refine z_iconst (pc := 88) (z := 0) X dX8_merge_88 rfl ⟨by decide, by decide⟩ ?_
              refine z_istore (pc := 89) (i := 4) (lv' := [(4, zI 0), (3, zI 0), (0, zR a0), (1, zI a1), (2, zI a2)]) X dX8_merge_89 (hN _ (by decide)) rfl ?_
              refine z_pick [2, 4, 1, 0] (lv' := [(0, zR a0), (2, zI a2), (3, zI 0), (4, zI 0)]) rfl ?_
              refine z_bind (z_loop (body := X8_merge_b91 a0 a2 x10) (fun s13 : Int × Int => zJ K 0 0 91 [(0, zR a0), (2, zI a2), (3, zI s13.1), (4, zI s13.2)] [] x10) (fun e15 : Int => zJ K 0 0 130 [(3, zI e15)] [] x10) (fun s13 => ?_) zN (0, 0)) (fun e15 => ?_)
              · unfold X8_merge_b91
                refine z_iload (pc := 91) (i := 4) 3 X dX8_merge_91 rfl ?_
                refine z_aload_n (pc := 93) (i := 0) 0 X dX8_merge_93 rfl rfl ?_
                refine z_getI (pc := 94) (C := RX8) (T := TX8) (N := 30) (ci := 9) 14 X dX8_merge_94 inz_X8 rfl (by decide) fw_X8_90 (fun v16 => ?_)
                refine z_icmp_ge (pc := 97) 130 X dX8_merge_97 (by decide) (fun _ => ?_) (fun _ => ?_)
                · refine z_pick [2] (lv' := [(3, zI s13.1)]) rfl ?_
                  exact z_exit
                · refine z_iload_n (pc := 100) (i := 3) 2 X dX8_merge_100 rfl rfl ?_
                  refine z_iload (pc := 101) (i := 4) 3 X dX8_merge_101 rfl ?_
                  refine z_iload_n (pc := 103) (i := 2) 1 X dX8_merge_103 rfl rfl ?_
                  refine z_icmp_eq (pc := 104) 121 X dX8_merge_104 (by decide) (fun _ => ?_) (fun _ => ?_)
                  · refine z_iconst (pc := 121) (z := 0) X dX8_merge_121 rfl ⟨by decide, by decide⟩ ?_
                    refine z_iadd (pc := 122) X dX8_merge_122 (fun v17 _ _ => ?_)
                    refine z_istore_n (pc := 123) (i := 3) (lv' := [(3, zI v17), (0, zR a0), (2, zI a2), (4, zI s13.2)]) X dX8_merge_123 rfl (hN _ (by decide)) rfl ?_
                    refine z_iinc (pc := 124) (i := 4) (n := 1) (lv' := fun v18 => [(4, zI v18), (3, zI v17), (0, zR a0), (2, zI a2)]) 3 X dX8_merge_124 rfl (hN _ (by decide)) (fun _ => rfl) (fun v18 _ _ => ?_)
                    refine z_goto (pc := 127) 91 X dX8_merge_127 (by decide) ?_
                    refine z_pick [2, 3, 1, 0] (lv' := [(0, zR a0), (2, zI a2), (3, zI v17), (4, zI v18)]) rfl ?_
                    exact z_back
                  · refine z_aload_n (pc := 107) (i := 0) 0 X dX8_merge_107 rfl rfl ?_
                    refine z_iload (pc := 108) (i := 4) 3 X dX8_merge_108 rfl ?_
                    refine z_callV_i (pc := 110) (cells := 0) (slots := 0) (C := RX8) (T := TX8) (N := 30) (ci := 9) [zI s13.2] X dX8_merge_110 (c_X8_endOf x10 a0 s13.2) kw_X8_180 rfl rfl ⟨rfl, rfl, ⟨by decide, by decide⟩, ⟨by decide, by decide⟩⟩ (Nat.le_of_ble_eq_true rfl) rfl (fun x19 => ?_)
                    refine z_iload_n (pc := 113) (i := 2) 1 X dX8_merge_113 rfl rfl ?_
                    refine z_icmp_ne (pc := 114) 121 X dX8_merge_114 (by decide) (fun _ => ?_) (fun _ => ?_)
                    · refine z_iconst (pc := 121) (z := 0) X dX8_merge_121 rfl ⟨by decide, by decide⟩ ?_
                      refine z_iadd (pc := 122) X dX8_merge_122 (fun v20 _ _ => ?_)
                      refine z_istore_n (pc := 123) (i := 3) (lv' := [(3, zI v20), (0, zR a0), (2, zI a2), (4, zI s13.2)]) X dX8_merge_123 rfl (hN _ (by decide)) rfl ?_
                      refine z_iinc (pc := 124) (i := 4) (n := 1) (lv' := fun v21 => [(4, zI v21), (3, zI v20), (0, zR a0), (2, zI a2)]) 3 X dX8_merge_124 rfl (hN _ (by decide)) (fun _ => rfl) (fun v21 _ _ => ?_)
                      refine z_goto (pc := 127) 91 X dX8_merge_127 (by decide) ?_
                      refine z_pick [2, 3, 1, 0] (lv' := [(0, zR a0), (2, zI a2), (3, zI v20), (4, zI v21)]) rfl ?_
                      exact z_back
                    · refine z_iconst (pc := 117) (z := 1) X dX8_merge_117 rfl ⟨by decide, by decide⟩ ?_
                      refine z_goto (pc := 118) 122 X dX8_merge_118 (by decide) ?_
                      refine z_iadd (pc := 122) X dX8_merge_122 (fun v22 _ _ => ?_)
                      refine z_istore_n (pc := 123) (i := 3) (lv' := [(3, zI v22), (0, zR a0), (2, zI a2), (4, zI s13.2)]) X dX8_merge_123 rfl (hN _ (by decide)) rfl ?_
                      refine z_iinc (pc := 124) (i := 4) (n := 1) (lv' := fun v23 => [(4, zI v23), (3, zI v22), (0, zR a0), (2, zI a2)]) 3 X dX8_merge_124 rfl (hN _ (by decide)) (fun _ => rfl) (fun v23 _ _ => ?_)
                      refine z_goto (pc := 127) 91 X dX8_merge_127 (by decide) ?_
                      refine z_pick [2, 3, 1, 0] (lv' := [(0, zR a0), (2, zI a2), (3, zI v22), (4, zI v23)]) rfl ?_
                      exact z_back
              · refine z_iload_n (pc := 130) (i := 3) 0 X dX8_merge_130 rfl rfl ?_
                refine z_fin (fun e9 => ?_)
                subst e9
                exact hret _ _ _ _ (by decide) (by decide) dX8_merge_131 trivial
            · refine z_iconst (pc := 78) (z := 0) X dX8_merge_78 rfl ⟨by decide, by decide⟩ ?_
              refine z_fin (fun e9 => ?_)
              subst e9
              exact hret _ _ _ _ (by decide) (by decide) dX8_merge_79 trivial
          have hJ70 : zS (X8_merge_j70 a0 a1 a2 x5) (fun r => r = r0) (zJ K 0 0 70 [(0, zR a0), (1, zI a1), (2, zI a2)] [zR a0] x5.2) := by
            unfold X8_merge_j70
            refine z_iconst (pc := 70) (z := 0) X dX8_merge_70 rfl ⟨by decide, by decide⟩ ?_
            exact hJ71 0
          refine z_if_ne (pc := 54) 70 X dX8_merge_54 (by decide) (fun _ => ?_) (fun _ => ?_)
          · exact hJ70
          · refine z_aload_n (pc := 57) (i := 0) 0 X dX8_merge_57 rfl rfl ?_
            refine z_getR (pc := 58) (C := RX8) (T := TX8) (N := 30) (ci := 9) 12 X dX8_merge_58 inz_X8 rfl (by decide) fw_X8_46 (fun v24 => ?_)
            refine z_iload_n (pc := 61) (i := 2) 2 X dX8_merge_61 rfl rfl ?_
            refine z_zaload (pc := 62) X dX8_merge_62 (fun v25 => ?_)
            refine z_if_ne (pc := 63) 70 X dX8_merge_63 (by decide) (fun _ => ?_) (fun _ => ?_)
            · exact hJ70
            · refine z_iconst (pc := 66) (z := 1) X dX8_merge_66 rfl ⟨by decide, by decide⟩ ?_
              refine z_goto (pc := 67) 71 X dX8_merge_67 (by decide) ?_
              exact hJ71 1
      refine z_icmp_eq (pc := 32) 39 X dX8_merge_32 (by decide) (fun _ => ?_) (fun _ => ?_)
      · refine z_iconst (pc := 39) (z := 0) X dX8_merge_39 rfl ⟨by decide, by decide⟩ ?_
        exact hJ40 0
      · refine z_iconst (pc := 35) (z := 1) X dX8_merge_35 rfl ⟨by decide, by decide⟩ ?_
        refine z_goto (pc := 36) 40 X dX8_merge_36 (by decide) ?_
        exact hJ40 1
  have hJ21 : zS (X8_merge_j21 hp a0 a1 a2) (fun r => r = r0) (zJ K 0 0 21 [(0, zR a0), (1, zI a1), (2, zI a2)] [zR a0] hp) := by
    unfold X8_merge_j21
    refine z_iconst (pc := 21) (z := 0) X dX8_merge_21 rfl ⟨by decide, by decide⟩ ?_
    exact hJ22 0
  refine z_if_eq (pc := 6) 21 X dX8_merge_6 (by decide) (fun _ => ?_) (fun _ => ?_)
  · exact hJ21
  · refine z_aload_n (pc := 9) (i := 0) 0 X dX8_merge_9 rfl rfl ?_
    refine z_iload_n (pc := 10) (i := 2) 2 X dX8_merge_10 rfl rfl ?_
    refine z_callV_i (pc := 11) (cells := 0) (slots := 0) (C := RX8) (T := TX8) (N := 30) (ci := 9) [zI a2] X dX8_merge_11 (c_X8_isDoor hp a0 a2) kw_X8_169 rfl rfl ⟨rfl, rfl, ⟨by decide, by decide⟩, ⟨by decide, by decide⟩⟩ (Nat.le_of_ble_eq_true rfl) rfl (fun x26 => ?_)
    refine z_if_eq (pc := 14) 21 X dX8_merge_14 (by decide) (fun _ => ?_) (fun _ => ?_)
    · exact hJ21
    · refine z_iconst (pc := 17) (z := 1) X dX8_merge_17 rfl ⟨by decide, by decide⟩ ?_
      refine z_goto (pc := 18) 22 X dX8_merge_18 (by decide) ?_
      exact hJ22 1
def X8_nameGoes_b3 (p1 : Option Nat) (p2 : Int) (p3 : Int64) (s4 : Int × zH) : Option ((Int × zH) ⊕ (zH)) :=
  (zgI s4.2 p1 9 14).bind fun v6 =>
  if v6 ≤ s4.1 then
    some (Sum.inr (s4.2))
  else
    ((zobj s4.2 p1 9).bind fun _ => X8_placeOn s4.2 p1 s4.1 p2).bind fun x7 =>
    if x7 = (-1) then
      (zchk (s4.1 + 1)).bind fun v8 =>
      some (Sum.inl (v8, s4.2))
    else
      (zgR s4.2 p1 9 11).bind fun v9 =>
      (zaI s4.2 0 v9 x7).bind fun v10 =>
      ((zobj s4.2 p1 9).bind fun _ => X8_old s4.2 p1 p3 v10 s4.1).bind fun x11 =>
      (zchk (s4.1 + 1)).bind fun v12 =>
      some (Sum.inl (v12, x11))
def X8_nameGoes (hp : zH) (a0 : Option Nat) (a1 : Int) (a2 : Int64) : Option zH :=
  (zloop (X8_nameGoes_b3 a0 a1 a2) zN (0, hp)).bind fun e5 =>
  some e5
set_option maxRecDepth 20000 in
theorem c_X8_nameGoes (hp : zH) (a0 : Option Nat) (a1 : Int) (a2 : Int64) : ∀ r, X8_nameGoes hp a0 a1 a2 = some r → zMv yX8_nameGoes (Cond.code yX8_nameGoes cX8_nameGoes 6 none :: zALL) { frames := 1, cells := 0, slots := 0, locals := 25 } 0 0 [zR a0, zI a1, zL a2] hp r := by
  refine zMv_of (own := RX8) (cc := cX8_nameGoes) (maxL := 6) (hp2 := fun r => r) (by decide) rfl (by exact Nat.le_of_ble_eq_true rfl) ?_
  intro K r0 X hnL hnm9 hret
  have hN : ∀ i, i < 6 → i < K.2.2.2.2.2.2.2.2.2.2.2.2.2.2.1 := by rw [hnL]; exact fun _ h => h
  show zS _ _ (zJ K 0 0 0 [(0, zR a0), (1, zI a1), (2, zL a2)] [] hp)
  unfold X8_nameGoes
  refine z_iconst (pc := 0) (z := 0) X dX8_nameGoes_0 rfl ⟨by decide, by decide⟩ ?_
  refine z_istore (pc := 1) (i := 4) (lv' := [(4, zI 0), (0, zR a0), (1, zI a1), (2, zL a2)]) X dX8_nameGoes_1 (hN _ (by decide)) rfl ?_
  refine z_pick [1, 2, 3, 0] (lv' := [(0, zR a0), (1, zI a1), (2, zL a2), (4, zI 0)]) rfl ?_
  refine z_bind (z_loop (body := X8_nameGoes_b3 a0 a1 a2) (fun s4 : Int × zH => zJ K 0 0 3 [(0, zR a0), (1, zI a1), (2, zL a2), (4, zI s4.1)] [] s4.2) (fun e5 : zH => zJ K 0 0 47 [] [] e5) (fun s4 => ?_) zN (0, hp)) (fun e5 => ?_)
  · unfold X8_nameGoes_b3
    refine z_iload (pc := 3) (i := 4) 3 X dX8_nameGoes_3 rfl ?_
    refine z_aload_n (pc := 5) (i := 0) 0 X dX8_nameGoes_5 rfl rfl ?_
    refine z_getI (pc := 6) (C := RX8) (T := TX8) (N := 30) (ci := 9) 14 X dX8_nameGoes_6 inz_X8 rfl (by decide) fw_X8_90 (fun v6 => ?_)
    refine z_icmp_ge (pc := 9) 47 X dX8_nameGoes_9 (by decide) (fun _ => ?_) (fun _ => ?_)
    · refine z_pick [] (lv' := []) rfl ?_
      exact z_exit
    · refine z_aload_n (pc := 12) (i := 0) 0 X dX8_nameGoes_12 rfl rfl ?_
      refine z_iload (pc := 13) (i := 4) 3 X dX8_nameGoes_13 rfl ?_
      refine z_iload_n (pc := 15) (i := 1) 1 X dX8_nameGoes_15 rfl rfl ?_
      refine z_callV_i (pc := 16) (cells := 0) (slots := 0) (C := RX8) (T := TX8) (N := 30) (ci := 9) [zI s4.1, zI a1] X dX8_nameGoes_16 (c_X8_placeOn s4.2 a0 s4.1 a1) kw_X8_124 rfl rfl ⟨rfl, rfl, ⟨by decide, by decide⟩, ⟨by decide, by decide⟩⟩ (Nat.le_of_ble_eq_true rfl) rfl (fun x7 => ?_)
      refine z_istore (pc := 19) (i := 5) (lv' := [(5, zI x7), (0, zR a0), (1, zI a1), (2, zL a2), (4, zI s4.1)]) X dX8_nameGoes_19 (hN _ (by decide)) rfl ?_
      refine z_iload (pc := 21) (i := 5) 0 X dX8_nameGoes_21 rfl ?_
      refine z_iconst (pc := 23) (z := -1) X dX8_nameGoes_23 rfl ⟨by decide, by decide⟩ ?_
      refine z_icmp_eq (pc := 24) 41 X dX8_nameGoes_24 (by decide) (fun _ => ?_) (fun _ => ?_)
      · refine z_iinc (pc := 41) (i := 4) (n := 1) (lv' := fun v8 => [(4, zI v8), (5, zI x7), (0, zR a0), (1, zI a1), (2, zL a2)]) 4 X dX8_nameGoes_41 rfl (hN _ (by decide)) (fun _ => rfl) (fun v8 _ _ => ?_)
        refine z_goto (pc := 44) 3 X dX8_nameGoes_44 (by decide) ?_
        refine z_pick [2, 3, 4, 0] (lv' := [(0, zR a0), (1, zI a1), (2, zL a2), (4, zI v8)]) rfl ?_
        exact z_back
      · refine z_aload_n (pc := 27) (i := 0) 1 X dX8_nameGoes_27 rfl rfl ?_
        refine z_lload_n (pc := 28) (i := 2) 3 X dX8_nameGoes_28 rfl rfl ?_
        refine z_aload_n (pc := 29) (i := 0) 1 X dX8_nameGoes_29 rfl rfl ?_
        refine z_getR (pc := 30) (C := RX8) (T := TX8) (N := 30) (ci := 9) 11 X dX8_nameGoes_30 inz_X8 rfl (by decide) fw_X8_43 (fun v9 => ?_)
        refine z_iload (pc := 33) (i := 5) 0 X dX8_nameGoes_33 rfl ?_
        refine z_iaload (pc := 35) X dX8_nameGoes_35 (fun v10 => ?_)
        refine z_iload (pc := 36) (i := 4) 4 X dX8_nameGoes_36 rfl ?_
        refine z_callV_v (pc := 38) (cells := 0) (slots := 0) (C := RX8) (T := TX8) (N := 30) (ci := 9) [zL a2, zI v10, zI s4.1] X dX8_nameGoes_38 (c_X8_old s4.2 a0 a2 v10 s4.1) kw_X8_128 rfl rfl ⟨rfl, rfl, ⟨by decide, by decide⟩, ⟨by decide, by decide⟩⟩ (Nat.le_of_ble_eq_true rfl) rfl (fun x11 => ?_)
        refine z_iinc (pc := 41) (i := 4) (n := 1) (lv' := fun v12 => [(4, zI v12), (5, zI x7), (0, zR a0), (1, zI a1), (2, zL a2)]) 4 X dX8_nameGoes_41 rfl (hN _ (by decide)) (fun _ => rfl) (fun v12 _ _ => ?_)
        refine z_goto (pc := 44) 3 X dX8_nameGoes_44 (by decide) ?_
        refine z_pick [2, 3, 4, 0] (lv' := [(0, zR a0), (1, zI a1), (2, zL a2), (4, zI v12)]) rfl ?_
        exact z_back
  · refine z_fin (fun e9 => ?_)
    subst e9
    exact hret _ _ _ _ (by decide) (by decide) dX8_nameGoes_47
def X8_next_b5 (p1 : Option Nat) (p2 : Int) (p3 : Int) (h5 : zH) (s4 : Int × Int) : Option ((Int × Int) ⊕ (Int)) :=
  (zgI h5 p1 9 14).bind fun v7 =>
  (zchk (2 * v7)).bind fun v8 =>
  if v8 ≤ s4.2 then
    some (Sum.inr (s4.1))
  else
    (zgR h5 p1 9 8).bind fun v9 =>
    (zaI h5 0 v9 s4.2).bind fun v10 =>
    if v10 = p2 then
      (zgR h5 p1 9 11).bind fun v12 =>
      (zaI h5 0 v12 s4.2).bind fun v13 =>
      if v13 < 0 then
        if s4.1 = (-1) then
          (zchk (s4.2 + 1)).bind fun v14 =>
          some (Sum.inl (s4.2, v14))
        else
          if p3 = 0 then
            ((zobj h5 p1 9).bind fun _ => X8_isFarther h5 p1 p2 s4.1 s4.2).bind fun x16 =>
            if x16 = 0 then
              (zchk (s4.2 + 1)).bind fun v17 =>
              some (Sum.inl (s4.1, v17))
            else
              (zchk (s4.2 + 1)).bind fun v18 =>
              some (Sum.inl (s4.2, v18))
          else
            (zchk (s4.2 + 1)).bind fun v15 =>
            some (Sum.inl (s4.1, v15))
      else
        (zchk (s4.2 + 1)).bind fun v19 =>
        some (Sum.inl (s4.1, v19))
    else
      (zchk (s4.2 + 1)).bind fun v11 =>
      some (Sum.inl (s4.1, v11))
def X8_next (hp : zH) (a0 : Option Nat) (a1 : Int) (a2 : Int) : Option Int :=
  (zloop (X8_next_b5 a0 a1 a2 hp) zN ((-1), 0)).bind fun e6 =>
  some e6
set_option maxRecDepth 20000 in
theorem c_X8_next (hp : zH) (a0 : Option Nat) (a1 : Int) (a2 : Int) : ∀ r, X8_next hp a0 a1 a2 = some r → zMi yX8_next (Cond.code yX8_next cX8_next 5 (some .int) :: zALL) { frames := 2, cells := 0, slots := 0, locals := 47 } 0 0 [zR a0, zI a1, zI a2] hp r hp := by
  refine zMi_of (own := RX8) (cc := cX8_next) (maxL := 5) (res := fun r => r) (hp2 := fun _ => hp) (by decide) rfl (Or.inl rfl) (by exact Nat.le_of_ble_eq_true rfl) ?_
  intro K r0 X hnL hret
  have hN : ∀ i, i < 5 → i < K.2.2.2.2.2.2.2.2.2.2.2.2.2.2.1 := by rw [hnL]; exact fun _ h => h
  show zS _ _ (zJ K 0 0 0 [(0, zR a0), (1, zI a1), (2, zI a2)] [] hp)
  unfold X8_next
  refine z_iconst (pc := 0) (z := -1) X dX8_next_0 rfl ⟨by decide, by decide⟩ ?_
  refine z_istore_n (pc := 1) (i := 3) (lv' := [(3, zI (-1)), (0, zR a0), (1, zI a1), (2, zI a2)]) X dX8_next_1 rfl (hN _ (by decide)) rfl ?_
  refine z_iconst (pc := 2) (z := 0) X dX8_next_2 rfl ⟨by decide, by decide⟩ ?_
  refine z_istore (pc := 3) (i := 4) (lv' := [(4, zI 0), (3, zI (-1)), (0, zR a0), (1, zI a1), (2, zI a2)]) X dX8_next_3 (hN _ (by decide)) rfl ?_
  refine z_pick [2, 3, 4, 1, 0] (lv' := [(0, zR a0), (1, zI a1), (2, zI a2), (3, zI (-1)), (4, zI 0)]) rfl ?_
  refine z_bind (z_loop (body := X8_next_b5 a0 a1 a2 hp) (fun s4 : Int × Int => zJ K 0 0 5 [(0, zR a0), (1, zI a1), (2, zI a2), (3, zI s4.1), (4, zI s4.2)] [] hp) (fun e6 : Int => zJ K 0 0 73 [(3, zI e6)] [] hp) (fun s4 => ?_) zN ((-1), 0)) (fun e6 => ?_)
  · unfold X8_next_b5
    refine z_iload (pc := 5) (i := 4) 4 X dX8_next_5 rfl ?_
    refine z_iconst (pc := 7) (z := 2) X dX8_next_7 rfl ⟨by decide, by decide⟩ ?_
    refine z_aload_n (pc := 8) (i := 0) 0 X dX8_next_8 rfl rfl ?_
    refine z_getI (pc := 9) (C := RX8) (T := TX8) (N := 30) (ci := 9) 14 X dX8_next_9 inz_X8 rfl (by decide) fw_X8_90 (fun v7 => ?_)
    refine z_imul (pc := 12) X dX8_next_12 (fun v8 _ _ => ?_)
    refine z_icmp_ge (pc := 13) 73 X dX8_next_13 (by decide) (fun _ => ?_) (fun _ => ?_)
    · refine z_pick [3] (lv' := [(3, zI s4.1)]) rfl ?_
      exact z_exit
    · refine z_aload_n (pc := 16) (i := 0) 0 X dX8_next_16 rfl rfl ?_
      refine z_getR (pc := 17) (C := RX8) (T := TX8) (N := 30) (ci := 9) 8 X dX8_next_17 inz_X8 rfl (by decide) fw_X8_34 (fun v9 => ?_)
      refine z_iload (pc := 20) (i := 4) 4 X dX8_next_20 rfl ?_
      refine z_iaload (pc := 22) X dX8_next_22 (fun v10 => ?_)
      refine z_iload_n (pc := 23) (i := 1) 1 X dX8_next_23 rfl rfl ?_
      refine z_icmp_ne (pc := 24) 67 X dX8_next_24 (by decide) (fun _ => ?_) (fun _ => ?_)
      · refine z_iinc (pc := 67) (i := 4) (n := 1) (lv' := fun v11 => [(4, zI v11), (0, zR a0), (1, zI a1), (2, zI a2), (3, zI s4.1)]) 4 X dX8_next_67 rfl (hN _ (by decide)) (fun _ => rfl) (fun v11 _ _ => ?_)
        refine z_goto (pc := 70) 5 X dX8_next_70 (by decide) ?_
        refine z_pick [1, 2, 3, 4, 0] (lv' := [(0, zR a0), (1, zI a1), (2, zI a2), (3, zI s4.1), (4, zI v11)]) rfl ?_
        exact z_back
      · refine z_aload_n (pc := 27) (i := 0) 0 X dX8_next_27 rfl rfl ?_
        refine z_getR (pc := 28) (C := RX8) (T := TX8) (N := 30) (ci := 9) 11 X dX8_next_28 inz_X8 rfl (by decide) fw_X8_43 (fun v12 => ?_)
        refine z_iload (pc := 31) (i := 4) 4 X dX8_next_31 rfl ?_
        refine z_iaload (pc := 33) X dX8_next_33 (fun v13 => ?_)
        refine z_if_lt (pc := 34) 40 X dX8_next_34 (by decide) (fun _ => ?_) (fun _ => ?_)
        · refine z_iload_n (pc := 40) (i := 3) 3 X dX8_next_40 rfl rfl ?_
          refine z_iconst (pc := 41) (z := -1) X dX8_next_41 rfl ⟨by decide, by decide⟩ ?_
          refine z_icmp_eq (pc := 42) 60 X dX8_next_42 (by decide) (fun _ => ?_) (fun _ => ?_)
          · refine z_iload (pc := 60) (i := 4) 4 X dX8_next_60 rfl ?_
            refine z_goto (pc := 62) 66 X dX8_next_62 (by decide) ?_
            refine z_istore_n (pc := 66) (i := 3) (lv' := [(3, zI s4.2), (0, zR a0), (1, zI a1), (2, zI a2), (4, zI s4.2)]) X dX8_next_66 rfl (hN _ (by decide)) rfl ?_
            refine z_iinc (pc := 67) (i := 4) (n := 1) (lv' := fun v14 => [(4, zI v14), (3, zI s4.2), (0, zR a0), (1, zI a1), (2, zI a2)]) 4 X dX8_next_67 rfl (hN _ (by decide)) (fun _ => rfl) (fun v14 _ _ => ?_)
            refine z_goto (pc := 70) 5 X dX8_next_70 (by decide) ?_
            refine z_pick [2, 3, 4, 1, 0] (lv' := [(0, zR a0), (1, zI a1), (2, zI a2), (3, zI s4.2), (4, zI v14)]) rfl ?_
            exact z_back
          · refine z_iload_n (pc := 45) (i := 2) 2 X dX8_next_45 rfl rfl ?_
            refine z_if_ne (pc := 46) 65 X dX8_next_46 (by decide) (fun _ => ?_) (fun _ => ?_)
            · refine z_iload_n (pc := 65) (i := 3) 3 X dX8_next_65 rfl rfl ?_
              refine z_istore_n (pc := 66) (i := 3) (lv' := [(3, zI s4.1), (0, zR a0), (1, zI a1), (2, zI a2), (4, zI s4.2)]) X dX8_next_66 rfl (hN _ (by decide)) rfl ?_
              refine z_iinc (pc := 67) (i := 4) (n := 1) (lv' := fun v15 => [(4, zI v15), (3, zI s4.1), (0, zR a0), (1, zI a1), (2, zI a2)]) 4 X dX8_next_67 rfl (hN _ (by decide)) (fun _ => rfl) (fun v15 _ _ => ?_)
              refine z_goto (pc := 70) 5 X dX8_next_70 (by decide) ?_
              refine z_pick [2, 3, 4, 1, 0] (lv' := [(0, zR a0), (1, zI a1), (2, zI a2), (3, zI s4.1), (4, zI v15)]) rfl ?_
              exact z_back
            · refine z_aload_n (pc := 49) (i := 0) 0 X dX8_next_49 rfl rfl ?_
              refine z_iload_n (pc := 50) (i := 1) 1 X dX8_next_50 rfl rfl ?_
              refine z_iload_n (pc := 51) (i := 3) 3 X dX8_next_51 rfl rfl ?_
              refine z_iload (pc := 52) (i := 4) 4 X dX8_next_52 rfl ?_
              refine z_callV_i (pc := 54) (cells := 0) (slots := 0) (C := RX8) (T := TX8) (N := 30) (ci := 9) [zI a1, zI s4.1, zI s4.2] X dX8_next_54 (c_X8_isFarther hp a0 a1 s4.1 s4.2) kw_X8_151 rfl rfl ⟨rfl, rfl, ⟨by decide, by decide⟩, ⟨by decide, by decide⟩⟩ (Nat.le_of_ble_eq_true rfl) rfl (fun x16 => ?_)
              refine z_if_eq (pc := 57) 65 X dX8_next_57 (by decide) (fun _ => ?_) (fun _ => ?_)
              · refine z_iload_n (pc := 65) (i := 3) 3 X dX8_next_65 rfl rfl ?_
                refine z_istore_n (pc := 66) (i := 3) (lv' := [(3, zI s4.1), (0, zR a0), (1, zI a1), (2, zI a2), (4, zI s4.2)]) X dX8_next_66 rfl (hN _ (by decide)) rfl ?_
                refine z_iinc (pc := 67) (i := 4) (n := 1) (lv' := fun v17 => [(4, zI v17), (3, zI s4.1), (0, zR a0), (1, zI a1), (2, zI a2)]) 4 X dX8_next_67 rfl (hN _ (by decide)) (fun _ => rfl) (fun v17 _ _ => ?_)
                refine z_goto (pc := 70) 5 X dX8_next_70 (by decide) ?_
                refine z_pick [2, 3, 4, 1, 0] (lv' := [(0, zR a0), (1, zI a1), (2, zI a2), (3, zI s4.1), (4, zI v17)]) rfl ?_
                exact z_back
              · refine z_iload (pc := 60) (i := 4) 4 X dX8_next_60 rfl ?_
                refine z_goto (pc := 62) 66 X dX8_next_62 (by decide) ?_
                refine z_istore_n (pc := 66) (i := 3) (lv' := [(3, zI s4.2), (0, zR a0), (1, zI a1), (2, zI a2), (4, zI s4.2)]) X dX8_next_66 rfl (hN _ (by decide)) rfl ?_
                refine z_iinc (pc := 67) (i := 4) (n := 1) (lv' := fun v18 => [(4, zI v18), (3, zI s4.2), (0, zR a0), (1, zI a1), (2, zI a2)]) 4 X dX8_next_67 rfl (hN _ (by decide)) (fun _ => rfl) (fun v18 _ _ => ?_)
                refine z_goto (pc := 70) 5 X dX8_next_70 (by decide) ?_
                refine z_pick [2, 3, 4, 1, 0] (lv' := [(0, zR a0), (1, zI a1), (2, zI a2), (3, zI s4.2), (4, zI v18)]) rfl ?_
                exact z_back
        · refine z_goto (pc := 37) 67 X dX8_next_37 (by decide) ?_
          refine z_iinc (pc := 67) (i := 4) (n := 1) (lv' := fun v19 => [(4, zI v19), (0, zR a0), (1, zI a1), (2, zI a2), (3, zI s4.1)]) 4 X dX8_next_67 rfl (hN _ (by decide)) (fun _ => rfl) (fun v19 _ _ => ?_)
          refine z_goto (pc := 70) 5 X dX8_next_70 (by decide) ?_
          refine z_pick [1, 2, 3, 4, 0] (lv' := [(0, zR a0), (1, zI a1), (2, zI a2), (3, zI s4.1), (4, zI v19)]) rfl ?_
          exact z_back
  · refine z_iload_n (pc := 73) (i := 3) 0 X dX8_next_73 rfl rfl ?_
    refine z_fin (fun e9 => ?_)
    subst e9
    exact hret _ _ _ _ (by decide) (by decide) dX8_next_74 trivial
def X8_olds (hp : zH) (a0 : Option Nat) : Option Int :=
  (zgI hp a0 9 19).bind fun v1 =>
  some v1
set_option maxRecDepth 20000 in
theorem c_X8_olds (hp : zH) (a0 : Option Nat) : ∀ r, X8_olds hp a0 = some r → zMi yX8_olds (Cond.code yX8_olds cX8_olds 1 (some .int) :: zALL) { frames := 0, cells := 0, slots := 0, locals := 0 } 0 0 [zR a0] hp r hp := by
  refine zMi_of (own := RX8) (cc := cX8_olds) (maxL := 1) (res := fun r => r) (hp2 := fun _ => hp) (by decide) rfl (Or.inl rfl) (by exact Nat.le_of_ble_eq_true rfl) ?_
  intro K r0 X hnL hret
  have hN : ∀ i, i < 1 → i < K.2.2.2.2.2.2.2.2.2.2.2.2.2.2.1 := by rw [hnL]; exact fun _ h => h
  show zS _ _ (zJ K 0 0 0 [(0, zR a0)] [] hp)
  unfold X8_olds
  refine z_aload_n (pc := 0) (i := 0) 0 X dX8_olds_0 rfl rfl ?_
  refine z_getI (pc := 1) (C := RX8) (T := TX8) (N := 30) (ci := 9) 19 X dX8_olds_1 inz_X8 rfl (by decide) fw_X8_118 (fun v1 => ?_)
  refine z_fin (fun e9 => ?_)
  subst e9
  exact hret _ _ _ _ (by decide) (by decide) dX8_olds_4 trivial
def X8_remove_j28 (a0 : Option Nat) (a1 : Int) (x2 : (Int × zH)) (j5 : Int) : Option (Int × zH) :=
  ((zobj x2.2 a0 9).bind fun _ => X8_no x2.2 a0 j5 2).bind fun x6 =>
  if x6.1 = 0 then
    ((zobj x6.2 a0 9).bind fun _ => X8_goes x6.2 a0 a1 ((-2))).bind fun x7 =>
    (zgI x7 a0 9 19).bind fun v8 =>
    some (v8, x7)
  else
    some (0, x6.2)
def X8_remove (hp : zH) (a0 : Option Nat) (a1 : Int) : Option (Int × zH) :=
  ((zobj hp a0 9).bind fun _ => X8_isDoor hp a0 a1).bind fun x1 =>
  ((zobj hp a0 9).bind fun _ => X8_no hp a0 x1 1).bind fun x2 =>
  if x2.1 = 0 then
    (zgR x2.2 a0 9 12).bind fun v3 =>
    (zaI x2.2 2 v3 a1).bind fun v4 =>
    if v4 = 0 then
      X8_remove_j28 a0 a1 x2 1
    else
      X8_remove_j28 a0 a1 x2 0
  else
    some (0, x2.2)
set_option maxRecDepth 20000 in
theorem c_X8_remove (hp : zH) (a0 : Option Nat) (a1 : Int) : ∀ r, X8_remove hp a0 a1 = some r → zMi yX8_remove (Cond.code yX8_remove cX8_remove 2 (some .int) :: zALL) { frames := 3, cells := 0, slots := 0, locals := 69 } 0 0 [zR a0, zI a1] hp r.1 r.2 := by
  refine zMi_of (own := RX8) (cc := cX8_remove) (maxL := 2) (ε := (Int × zH)) (res := fun r => r.1) (hp2 := fun r => r.2) (by decide) rfl (Or.inl rfl) (by exact Nat.le_of_ble_eq_true rfl) ?_
  intro K r0 X hnL hret
  have hN : ∀ i, i < 2 → i < K.2.2.2.2.2.2.2.2.2.2.2.2.2.2.1 := by rw [hnL]; exact fun _ h => h
  show zS _ _ (zJ K 0 0 0 [(0, zR a0), (1, zI a1)] [] hp)
  unfold X8_remove
  refine z_aload_n (pc := 0) (i := 0) 0 X dX8_remove_0 rfl rfl ?_
  refine z_aload_n (pc := 1) (i := 0) 0 X dX8_remove_1 rfl rfl ?_
  refine z_iload_n (pc := 2) (i := 1) 1 X dX8_remove_2 rfl rfl ?_
  refine z_callV_i (pc := 3) (cells := 0) (slots := 0) (C := RX8) (T := TX8) (N := 30) (ci := 9) [zI a1] X dX8_remove_3 (c_X8_isDoor hp a0 a1) kw_X8_169 rfl rfl ⟨rfl, rfl, ⟨by decide, by decide⟩, ⟨by decide, by decide⟩⟩ (Nat.le_of_ble_eq_true rfl) rfl (fun x1 => ?_)
  refine z_iconst (pc := 6) (z := 1) X dX8_remove_6 rfl ⟨by decide, by decide⟩ ?_
  refine z_callV_i (pc := 7) (cells := 0) (slots := 0) (C := RX8) (T := TX8) (N := 30) (ci := 9) [zI x1, zI 1] X dX8_remove_7 (c_X8_no hp a0 x1 1) kw_X8_93 rfl rfl ⟨rfl, rfl, ⟨by decide, by decide⟩, ⟨by decide, by decide⟩⟩ (Nat.le_of_ble_eq_true rfl) rfl (fun x2 => ?_)
  refine z_if_ne (pc := 10) 35 X dX8_remove_10 (by decide) (fun _ => ?_) (fun _ => ?_)
  · refine z_iconst (pc := 35) (z := 0) X dX8_remove_35 rfl ⟨by decide, by decide⟩ ?_
    refine z_fin (fun e9 => ?_)
    subst e9
    exact hret _ _ _ _ (by decide) (by decide) dX8_remove_36 trivial
  · refine z_aload_n (pc := 13) (i := 0) 0 X dX8_remove_13 rfl rfl ?_
    refine z_aload_n (pc := 14) (i := 0) 0 X dX8_remove_14 rfl rfl ?_
    refine z_getR (pc := 15) (C := RX8) (T := TX8) (N := 30) (ci := 9) 12 X dX8_remove_15 inz_X8 rfl (by decide) fw_X8_46 (fun v3 => ?_)
    refine z_iload_n (pc := 18) (i := 1) 1 X dX8_remove_18 rfl rfl ?_
    refine z_zaload (pc := 19) X dX8_remove_19 (fun v4 => ?_)
    have hJ28 : ∀ (j5 : Int), zS (X8_remove_j28 a0 a1 x2 j5) (fun r => r = r0) (zJ K 0 0 28 [(0, zR a0), (1, zI a1)] [zI j5, zR a0] x2.2) := by
      intro j5
      unfold X8_remove_j28
      refine z_iconst (pc := 28) (z := 2) X dX8_remove_28 rfl ⟨by decide, by decide⟩ ?_
      refine z_callV_i (pc := 29) (cells := 0) (slots := 0) (C := RX8) (T := TX8) (N := 30) (ci := 9) [zI j5, zI 2] X dX8_remove_29 (c_X8_no x2.2 a0 j5 2) kw_X8_93 rfl rfl ⟨rfl, rfl, ⟨by decide, by decide⟩, ⟨by decide, by decide⟩⟩ (Nat.le_of_ble_eq_true rfl) rfl (fun x6 => ?_)
      refine z_if_eq (pc := 32) 37 X dX8_remove_32 (by decide) (fun _ => ?_) (fun _ => ?_)
      · refine z_aload_n (pc := 37) (i := 0) 0 X dX8_remove_37 rfl rfl ?_
        refine z_iload_n (pc := 38) (i := 1) 1 X dX8_remove_38 rfl rfl ?_
        refine z_bipush (pc := 39) (z := -2) X dX8_remove_39 rfl ⟨by decide, by decide⟩ ?_
        refine z_callV_v (pc := 41) (cells := 0) (slots := 0) (C := RX8) (T := TX8) (N := 30) (ci := 9) [zI a1, zI (-2)] X dX8_remove_41 (c_X8_goes x6.2 a0 a1 ((-2))) kw_X8_176 rfl rfl ⟨rfl, rfl, ⟨by decide, by decide⟩, ⟨by decide, by decide⟩⟩ (Nat.le_of_ble_eq_true rfl) rfl (fun x7 => ?_)
        refine z_aload_n (pc := 44) (i := 0) 0 X dX8_remove_44 rfl rfl ?_
        refine z_getI (pc := 45) (C := RX8) (T := TX8) (N := 30) (ci := 9) 19 X dX8_remove_45 inz_X8 rfl (by decide) fw_X8_118 (fun v8 => ?_)
        refine z_fin (fun e9 => ?_)
        subst e9
        exact hret _ _ _ _ (by decide) (by decide) dX8_remove_48 trivial
      · refine z_iconst (pc := 35) (z := 0) X dX8_remove_35 rfl ⟨by decide, by decide⟩ ?_
        refine z_fin (fun e9 => ?_)
        subst e9
        exact hret _ _ _ _ (by decide) (by decide) dX8_remove_36 trivial
    refine z_if_ne (pc := 20) 27 X dX8_remove_20 (by decide) (fun _ => ?_) (fun _ => ?_)
    · refine z_iconst (pc := 27) (z := 0) X dX8_remove_27 rfl ⟨by decide, by decide⟩ ?_
      exact hJ28 0
    · refine z_iconst (pc := 23) (z := 1) X dX8_remove_23 rfl ⟨by decide, by decide⟩ ?_
      refine z_goto (pc := 24) 28 X dX8_remove_24 (by decide) ?_
      exact hJ28 1
def X8_wipe (hp : zH) (a0 : Option Nat) : Option (Int × zH) :=
  (zgI hp a0 9 27).bind fun v1 =>
  (zpJ hp a0 9 26 0).bind fun h2 =>
  (zpI h2 a0 9 27 0).bind fun h3 =>
  some (v1, h3)
set_option maxRecDepth 20000 in
theorem c_X8_wipe (hp : zH) (a0 : Option Nat) : ∀ r, X8_wipe hp a0 = some r → zMi yX8_wipe (Cond.code yX8_wipe cX8_wipe 2 (some .int) :: zALL) { frames := 0, cells := 0, slots := 0, locals := 0 } 0 0 [zR a0] hp r.1 r.2 := by
  refine zMi_of (own := RX8) (cc := cX8_wipe) (maxL := 2) (ε := (Int × zH)) (res := fun r => r.1) (hp2 := fun r => r.2) (by decide) rfl (Or.inl rfl) (by exact Nat.le_of_ble_eq_true rfl) ?_
  intro K r0 X hnL hret
  have hN : ∀ i, i < 2 → i < K.2.2.2.2.2.2.2.2.2.2.2.2.2.2.1 := by rw [hnL]; exact fun _ h => h
  show zS _ _ (zJ K 0 0 0 [(0, zR a0)] [] hp)
  unfold X8_wipe
  refine z_aload_n (pc := 0) (i := 0) 0 X dX8_wipe_0 rfl rfl ?_
  refine z_getI (pc := 1) (C := RX8) (T := TX8) (N := 30) (ci := 9) 27 X dX8_wipe_1 inz_X8 rfl (by decide) fw_X8_97 (fun v1 => ?_)
  refine z_istore_n (pc := 4) (i := 1) (lv' := [(1, zI v1), (0, zR a0)]) X dX8_wipe_4 rfl (hN _ (by decide)) rfl ?_
  refine z_aload_n (pc := 5) (i := 0) 1 X dX8_wipe_5 rfl rfl ?_
  refine z_lconst (pc := 6) (z := 0) X dX8_wipe_6 rfl ?_
  refine z_putJ (pc := 7) (C := RX8) (T := TX8) (N := 30) (ci := 9) 26 X dX8_wipe_7 inz_X8 tyX8_ok nmX8 rfl (by decide) fw_X8_102 rfl rfl (fun h2 => ?_)
  refine z_aload_n (pc := 10) (i := 0) 1 X dX8_wipe_10 rfl rfl ?_
  refine z_iconst (pc := 11) (z := 0) X dX8_wipe_11 rfl ⟨by decide, by decide⟩ ?_
  refine z_putI (pc := 12) (C := RX8) (T := TX8) (N := 30) (ci := 9) 27 X dX8_wipe_12 inz_X8 tyX8_ok nmX8 rfl (by decide) fw_X8_97 rfl rfl (fun h3 => ?_)
  refine z_iload_n (pc := 15) (i := 1) 0 X dX8_wipe_15 rfl rfl ?_
  refine z_fin (fun e9 => ?_)
  subst e9
  exact hret _ _ _ _ (by decide) (by decide) dX8_wipe_16 trivial
def X8_rename_j37 (a0 : Option Nat) (a1 : Int) (x2 : (Int × zH)) (j4 : Int) : Option (Int × zH) :=
  ((zobj x2.2 a0 9).bind fun _ => X8_no x2.2 a0 j4 2).bind fun x5 =>
  if x5.1 = 0 then
    (zgR x5.2 a0 9 0).bind fun v6 =>
    (zaJ x5.2 v6 a1).bind fun v7 =>
    ((zobj x5.2 a0 9).bind fun _ => X8_nameGoes x5.2 a0 a1 v7).bind fun x8 =>
    (zgR x8 a0 9 0).bind fun v9 =>
    (zgJ x8 a0 9 26).bind fun v10 =>
    (zsJ x8 v9 a1 v10).bind fun h11 =>
    ((zobj h11 a0 9).bind fun _ => X8_wipe h11 a0).bind fun x12 =>
    (zgI x12.2 a0 9 19).bind fun v13 =>
    some (v13, x12.2)
  else
    some (0, x5.2)
def X8_rename_j36 (a0 : Option Nat) (a1 : Int) (x2 : (Int × zH)) : Option (Int × zH) :=
  X8_rename_j37 a0 a1 x2 0
def X8_rename (hp : zH) (a0 : Option Nat) (a1 : Int) : Option (Int × zH) :=
  ((zobj hp a0 9).bind fun _ => X8_isStreet hp a0 a1).bind fun x1 =>
  ((zobj hp a0 9).bind fun _ => X8_no hp a0 x1 1).bind fun x2 =>
  if x2.1 = 0 then
    (zgI x2.2 a0 9 27).bind fun v3 =>
    if v3 ≤ 0 then
      X8_rename_j36 a0 a1 x2
    else
      (zgJ x2.2 a0 9 26).bind fun v14 =>
      ((zobj x2.2 a0 9).bind fun _ => X8_isUsed x2.2 a0 v14).bind fun x15 =>
      if x15 = 0 then
        X8_rename_j37 a0 a1 x2 1
      else
        X8_rename_j36 a0 a1 x2
  else
    some (0, x2.2)
set_option maxRecDepth 20000 in
theorem c_X8_rename (hp : zH) (a0 : Option Nat) (a1 : Int) : ∀ r, X8_rename hp a0 a1 = some r → zMi yX8_rename (Cond.code yX8_rename cX8_rename 2 (some .int) :: zALL) { frames := 2, cells := 0, slots := 0, locals := 50 } 0 0 [zR a0, zI a1] hp r.1 r.2 := by
  refine zMi_of (own := RX8) (cc := cX8_rename) (maxL := 2) (ε := (Int × zH)) (res := fun r => r.1) (hp2 := fun r => r.2) (by decide) rfl (Or.inl rfl) (by exact Nat.le_of_ble_eq_true rfl) ?_
  intro K r0 X hnL hret
  have hN : ∀ i, i < 2 → i < K.2.2.2.2.2.2.2.2.2.2.2.2.2.2.1 := by rw [hnL]; exact fun _ h => h
  show zS _ _ (zJ K 0 0 0 [(0, zR a0), (1, zI a1)] [] hp)
  unfold X8_rename
  refine z_aload_n (pc := 0) (i := 0) 0 X dX8_rename_0 rfl rfl ?_
  refine z_aload_n (pc := 1) (i := 0) 0 X dX8_rename_1 rfl rfl ?_
  refine z_iload_n (pc := 2) (i := 1) 1 X dX8_rename_2 rfl rfl ?_
  refine z_callV_i (pc := 3) (cells := 0) (slots := 0) (C := RX8) (T := TX8) (N := 30) (ci := 9) [zI a1] X dX8_rename_3 (c_X8_isStreet hp a0 a1) kw_X8_132 rfl rfl ⟨rfl, rfl, ⟨by decide, by decide⟩, ⟨by decide, by decide⟩⟩ (Nat.le_of_ble_eq_true rfl) rfl (fun x1 => ?_)
  refine z_iconst (pc := 6) (z := 1) X dX8_rename_6 rfl ⟨by decide, by decide⟩ ?_
  refine z_callV_i (pc := 7) (cells := 0) (slots := 0) (C := RX8) (T := TX8) (N := 30) (ci := 9) [zI x1, zI 1] X dX8_rename_7 (c_X8_no hp a0 x1 1) kw_X8_93 rfl rfl ⟨rfl, rfl, ⟨by decide, by decide⟩, ⟨by decide, by decide⟩⟩ (Nat.le_of_ble_eq_true rfl) rfl (fun x2 => ?_)
  refine z_if_ne (pc := 10) 44 X dX8_rename_10 (by decide) (fun _ => ?_) (fun _ => ?_)
  · refine z_iconst (pc := 44) (z := 0) X dX8_rename_44 rfl ⟨by decide, by decide⟩ ?_
    refine z_fin (fun e9 => ?_)
    subst e9
    exact hret _ _ _ _ (by decide) (by decide) dX8_rename_45 trivial
  · refine z_aload_n (pc := 13) (i := 0) 0 X dX8_rename_13 rfl rfl ?_
    refine z_aload_n (pc := 14) (i := 0) 0 X dX8_rename_14 rfl rfl ?_
    refine z_getI (pc := 15) (C := RX8) (T := TX8) (N := 30) (ci := 9) 27 X dX8_rename_15 inz_X8 rfl (by decide) fw_X8_97 (fun v3 => ?_)
    have hJ37 : ∀ (j4 : Int), zS (X8_rename_j37 a0 a1 x2 j4) (fun r => r = r0) (zJ K 0 0 37 [(0, zR a0), (1, zI a1)] [zI j4, zR a0] x2.2) := by
      intro j4
      unfold X8_rename_j37
      refine z_iconst (pc := 37) (z := 2) X dX8_rename_37 rfl ⟨by decide, by decide⟩ ?_
      refine z_callV_i (pc := 38) (cells := 0) (slots := 0) (C := RX8) (T := TX8) (N := 30) (ci := 9) [zI j4, zI 2] X dX8_rename_38 (c_X8_no x2.2 a0 j4 2) kw_X8_93 rfl rfl ⟨rfl, rfl, ⟨by decide, by decide⟩, ⟨by decide, by decide⟩⟩ (Nat.le_of_ble_eq_true rfl) rfl (fun x5 => ?_)
      refine z_if_eq (pc := 41) 46 X dX8_rename_41 (by decide) (fun _ => ?_) (fun _ => ?_)
      · refine z_aload_n (pc := 46) (i := 0) 0 X dX8_rename_46 rfl rfl ?_
        refine z_iload_n (pc := 47) (i := 1) 1 X dX8_rename_47 rfl rfl ?_
        refine z_aload_n (pc := 48) (i := 0) 0 X dX8_rename_48 rfl rfl ?_
        refine z_getR (pc := 49) (C := RX8) (T := TX8) (N := 30) (ci := 9) 0 X dX8_rename_49 inz_X8 rfl (by decide) fw_X8_7 (fun v6 => ?_)
        refine z_iload_n (pc := 52) (i := 1) 1 X dX8_rename_52 rfl rfl ?_
        refine z_laload (pc := 53) X dX8_rename_53 (fun v7 => ?_)
        refine z_callV_v (pc := 54) (cells := 0) (slots := 0) (C := RX8) (T := TX8) (N := 30) (ci := 9) [zI a1, zL v7] X dX8_rename_54 (c_X8_nameGoes x5.2 a0 a1 v7) kw_X8_136 rfl rfl ⟨rfl, rfl, ⟨by decide, by decide⟩, ⟨by decide, by decide⟩⟩ (Nat.le_of_ble_eq_true rfl) rfl (fun x8 => ?_)
        refine z_aload_n (pc := 57) (i := 0) 0 X dX8_rename_57 rfl rfl ?_
        refine z_getR (pc := 58) (C := RX8) (T := TX8) (N := 30) (ci := 9) 0 X dX8_rename_58 inz_X8 rfl (by decide) fw_X8_7 (fun v9 => ?_)
        refine z_iload_n (pc := 61) (i := 1) 1 X dX8_rename_61 rfl rfl ?_
        refine z_aload_n (pc := 62) (i := 0) 0 X dX8_rename_62 rfl rfl ?_
        refine z_getJ (pc := 63) (C := RX8) (T := TX8) (N := 30) (ci := 9) 26 X dX8_rename_63 inz_X8 rfl (by decide) fw_X8_102 (fun v10 => ?_)
        refine z_lastore (pc := 66) X dX8_rename_66 (fun h11 => ?_)
        refine z_aload_n (pc := 67) (i := 0) 0 X dX8_rename_67 rfl rfl ?_
        refine z_callV_i (pc := 68) (cells := 0) (slots := 0) (C := RX8) (T := TX8) (N := 30) (ci := 9) [] X dX8_rename_68 (c_X8_wipe h11 a0) kw_X8_114 rfl rfl ⟨rfl, rfl, ⟨by decide, by decide⟩, ⟨by decide, by decide⟩⟩ (Nat.le_of_ble_eq_true rfl) rfl (fun x12 => ?_)
        refine z_pop (pc := 71) X dX8_rename_71 rfl ?_
        refine z_aload_n (pc := 72) (i := 0) 0 X dX8_rename_72 rfl rfl ?_
        refine z_getI (pc := 73) (C := RX8) (T := TX8) (N := 30) (ci := 9) 19 X dX8_rename_73 inz_X8 rfl (by decide) fw_X8_118 (fun v13 => ?_)
        refine z_fin (fun e9 => ?_)
        subst e9
        exact hret _ _ _ _ (by decide) (by decide) dX8_rename_76 trivial
      · refine z_iconst (pc := 44) (z := 0) X dX8_rename_44 rfl ⟨by decide, by decide⟩ ?_
        refine z_fin (fun e9 => ?_)
        subst e9
        exact hret _ _ _ _ (by decide) (by decide) dX8_rename_45 trivial
    have hJ36 : zS (X8_rename_j36 a0 a1 x2) (fun r => r = r0) (zJ K 0 0 36 [(0, zR a0), (1, zI a1)] [zR a0] x2.2) := by
      unfold X8_rename_j36
      refine z_iconst (pc := 36) (z := 0) X dX8_rename_36 rfl ⟨by decide, by decide⟩ ?_
      exact hJ37 0
    refine z_if_le (pc := 18) 36 X dX8_rename_18 (by decide) (fun _ => ?_) (fun _ => ?_)
    · exact hJ36
    · refine z_aload_n (pc := 21) (i := 0) 0 X dX8_rename_21 rfl rfl ?_
      refine z_aload_n (pc := 22) (i := 0) 0 X dX8_rename_22 rfl rfl ?_
      refine z_getJ (pc := 23) (C := RX8) (T := TX8) (N := 30) (ci := 9) 26 X dX8_rename_23 inz_X8 rfl (by decide) fw_X8_102 (fun v14 => ?_)
      refine z_callV_i (pc := 26) (cells := 0) (slots := 0) (C := RX8) (T := TX8) (N := 30) (ci := 9) [zL v14] X dX8_rename_26 (c_X8_isUsed x2.2 a0 v14) kw_X8_110 rfl rfl ⟨rfl, rfl, ⟨by decide, by decide⟩, ⟨by decide, by decide⟩⟩ (Nat.le_of_ble_eq_true rfl) rfl (fun x15 => ?_)
      refine z_if_ne (pc := 29) 36 X dX8_rename_29 (by decide) (fun _ => ?_) (fun _ => ?_)
      · exact hJ36
      · refine z_iconst (pc := 32) (z := 1) X dX8_rename_32 rfl ⟨by decide, by decide⟩ ?_
        refine z_goto (pc := 33) 37 X dX8_rename_33 (by decide) ?_
        exact hJ37 1
