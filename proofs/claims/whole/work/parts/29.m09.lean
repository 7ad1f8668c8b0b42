/-! methods, as functions over the pure heap, and their contracts (by program) -/
def X8_renumber_b35 (p8 : Option Nat) (p9 : Int) (p10 : Int) (s11 : Int × zH) : Option ((Int × zH) ⊕ (zH)) :=
  if 80 ≤ s11.1 then
    some (Sum.inr (s11.2))
  else
    (zgR s11.2 p8 9 11).bind fun v13 =>
    (zgR s11.2 p8 9 8).bind fun v14 =>
    (zaI s11.2 0 v14 s11.1).bind fun v15 =>
    if v15 = p9 then
      (zsI s11.2 0 v13 s11.1 ((-1))).bind fun h20 =>
      (zchk (s11.1 + 1)).bind fun v21 =>
      some (Sum.inl (v21, h20))
    else
      (zgR s11.2 p8 9 11).bind fun v16 =>
      (zaI s11.2 0 v16 s11.1).bind fun v17 =>
      (zsI s11.2 0 v13 s11.1 v17).bind fun h18 =>
      (zchk (s11.1 + 1)).bind fun v19 =>
      some (Sum.inl (v19, h18))
def X8_renumber_j171 (p26 : Option Nat) (p27 : Int) (j37 : Int) (h38 : zH) : Option ((Int × Int × zH) ⊕ (Int × zH)) :=
  (zgR h38 p26 9 3).bind fun v39 =>
  (zaI h38 3 v39 p27).bind fun v40 =>
  if v40 = 121 then
    ((zobj h38 p26 9).bind fun _ => X8_next h38 p26 p27 1).bind fun x42 =>
    some (Sum.inl (j37, x42, h38))
  else
    ((zobj h38 p26 9).bind fun _ => X8_next h38 p26 p27 0).bind fun x41 =>
    some (Sum.inl (j37, x41, h38))
def X8_renumber_j143 (p26 : Option Nat) (p27 : Int) (s29 : Int × Int × zH) (x36 : Int) (j37 : Int) : Option ((Int × Int × zH) ⊕ (Int × zH)) :=
  if j37 = 0 then
    X8_renumber_j171 p26 p27 j37 s29.2.2
  else
    (zgR s29.2.2 p26 9 9).bind fun v43 =>
    (zaI s29.2.2 0 v43 s29.2.1).bind fun v44 =>
    (zgR s29.2.2 p26 9 10).bind fun v45 =>
    (zaI s29.2.2 3 v45 s29.2.1).bind fun v46 =>
    ((zobj s29.2.2 p26 9).bind fun _ => X8_puts s29.2.2 p26 s29.2.1 p27 v44 v46 x36).bind fun x47 =>
    X8_renumber_j171 p26 p27 j37 x47
def X8_renumber_b98 (p26 : Option Nat) (p27 : Int) (p28 : Int) (s29 : Int × Int × zH) : Option ((Int × Int × zH) ⊕ (Int × zH)) :=
  if s29.1 = 0 then
    some (Sum.inr (s29.1, s29.2.2))
  else
    if s29.2.1 = (-1) then
      some (Sum.inr (s29.1, s29.2.2))
    else
      (zdiv s29.2.1 2).bind fun v31 =>
      (zgR s29.2.2 p26 9 9).bind fun v32 =>
      (zaI s29.2.2 0 v32 s29.2.1).bind fun v33 =>
      (zgR s29.2.2 p26 9 10).bind fun v34 =>
      (zaI s29.2.2 3 v34 s29.2.1).bind fun v35 =>
      ((zobj s29.2.2 p26 9).bind fun _ => X8_comes s29.2.2 p26 p27 v31 v33 v35).bind fun x36 =>
      if x36 < 0 then
        X8_renumber_j143 p26 p27 s29 x36 0
      else
        X8_renumber_j143 p26 p27 s29 x36 1
def X8_renumber_b225 (p49 : Option Nat) (p50 : Int) (s51 : Int × Int × zH) : Option ((Int × Int × zH) ⊕ (Int × zH)) :=
  (zgI s51.2.2 p49 9 14).bind fun v53 =>
  if v53 ≤ s51.2.1 then
    some (Sum.inr (s51.1, s51.2.2))
  else
    ((zobj s51.2.2 p49 9).bind fun _ => X8_placeOn s51.2.2 p49 s51.2.1 p50).bind fun x54 =>
    if x54 = (-1) then
      (zchk (s51.2.1 + 1)).bind fun v55 =>
      some (Sum.inl (s51.1, v55, s51.2.2))
    else
      (zgR s51.2.2 p49 9 11).bind fun v56 =>
      (zaI s51.2.2 0 v56 x54).bind fun v57 =>
      (zgR s51.2.2 p49 9 23).bind fun v58 =>
      (zaI s51.2.2 0 v58 x54).bind fun v59 =>
      if v57 = v59 then
        (zchk (s51.2.1 + 1)).bind fun v72 =>
        some (Sum.inl (s51.1, v72, s51.2.2))
      else
        (zgR s51.2.2 p49 9 0).bind fun v60 =>
        (zaJ s51.2.2 v60 p50).bind fun v61 =>
        (zgR s51.2.2 p49 9 23).bind fun v62 =>
        (zaI s51.2.2 0 v62 x54).bind fun v63 =>
        ((zobj s51.2.2 p49 9).bind fun _ => X8_old s51.2.2 p49 v61 v63 s51.2.1).bind fun x64 =>
        (zgR x64 p49 9 1).bind fun v65 =>
        (zaJ x64 v65 p50).bind fun v66 =>
        (zgR x64 p49 9 23).bind fun v67 =>
        (zaI x64 0 v67 x54).bind fun v68 =>
        ((zobj x64 p49 9).bind fun _ => X8_old x64 p49 v66 v68 s51.2.1).bind fun x69 =>
        (zchk (s51.1 + 1)).bind fun v70 =>
        (zchk (s51.2.1 + 1)).bind fun v71 =>
        some (Sum.inl (v70, v71, x69))
def X8_renumber_j93 (a0 : Option Nat) (a1 : Int) (v5 : Int) (e12 : zH) (j24 : Int) : Option (Int × zH) :=
  ((zobj e12 a0 9).bind fun _ => X8_next e12 a0 a1 j24).bind fun x25 =>
  (zloop (X8_renumber_b98 a0 a1 v5) zN (1, x25, e12)).bind fun e30 =>
  ((zobj e30.2 a0 9).bind fun _ => X8_no e30.2 a0 e30.1 2).bind fun x48 =>
  if x48.1 = 0 then
    (zloop (X8_renumber_b225 a0 a1) zN (0, 0, x48.2)).bind fun e52 =>
    some (e52.1, e52.2)
  else
    ((zobj x48.2 a0 9).bind fun _ => X8_givesBack x48.2 a0).bind fun x73 =>
    (zgR x73 a0 9 6).bind fun v74 =>
    (zsI x73 0 v74 a1 v5).bind fun h75 =>
    some (0, h75)
def X8_renumber (hp : zH) (a0 : Option Nat) (a1 : Int) : Option (Int × zH) :=
  ((zobj hp a0 9).bind fun _ => X8_isStreet hp a0 a1).bind fun x1 =>
  ((zobj hp a0 9).bind fun _ => X8_no hp a0 x1 1).bind fun x2 =>
  if x2.1 = 0 then
    ((zobj x2.2 a0 9).bind fun _ => X8_keeps x2.2 a0).bind fun x3 =>
    (zgR x3 a0 9 6).bind fun v4 =>
    (zaI x3 0 v4 a1).bind fun v5 =>
    (zgR x3 a0 9 6).bind fun v6 =>
    (zsI x3 0 v6 a1 0).bind fun h7 =>
    (zloop (X8_renumber_b35 a0 a1 v5) zN (0, h7)).bind fun e12 =>
    (zgR e12 a0 9 3).bind fun v22 =>
    (zaI e12 3 v22 a1).bind fun v23 =>
    if v23 = 121 then
      X8_renumber_j93 a0 a1 v5 e12 1
    else
      X8_renumber_j93 a0 a1 v5 e12 0
  else
    some (0, x2.2)
set_option maxRecDepth 20000 in
theorem c_X8_renumber (hp : zH) (a0 : Option Nat) (a1 : Int) : ∀ r, X8_renumber hp a0 a1 = some r → zMi yX8_renumber (Cond.code yX8_renumber cX8_renumber 7 (some .int) :: zALL) { frames := 3, cells := 0, slots := 0, locals := 77 } 0 0 [zR a0, zI a1] hp r.1 r.2 := by
  refine zMi_of (own := RX8) (cc := cX8_renumber) (maxL := 7) (ε := (Int × zH)) (res := fun r => r.1) (hp2 := fun r => r.2) (by decide) rfl (Or.inl rfl) (by exact Nat.le_of_ble_eq_true rfl) ?_
  intro K r0 X hnL hret
  have hN : ∀ i, i < 7 → i < K.2.2.2.2.2.2.2.2.2.2.2.2.2.2.1 := by rw [hnL]; exact fun _ h => h
  show zS _ _ (zJ K 0 0 0 [(0, zR a0), (1, zI a1)] [] hp)
  unfold X8_renumber
  refine z_aload_n (pc := 0) (i := 0) 0 X dX8_renumber_0 rfl rfl ?_
  refine z_aload_n (pc := 1) (i := 0) 0 X dX8_renumber_1 rfl rfl ?_
  refine z_iload_n (pc := 2) (i := 1) 1 X dX8_renumber_2 rfl rfl ?_
  refine z_callV_i (pc := 3) (cells := 0) (slots := 0) (C := RX8) (T := TX8) (N := 30) (ci := 9) [zI a1] X dX8_renumber_3 (c_X8_isStreet hp a0 a1) kw_X8_132 rfl rfl ⟨rfl, rfl, ⟨by decide, by decide⟩, ⟨by decide, by decide⟩⟩ (Nat.le_of_ble_eq_true rfl) rfl (fun x1 => ?_)
  refine z_iconst (pc := 6) (z := 1) X dX8_renumber_6 rfl ⟨by decide, by decide⟩ ?_
  refine z_callV_i (pc := 7) (cells := 0) (slots := 0) (C := RX8) (T := TX8) (N := 30) (ci := 9) [zI x1, zI 1] X dX8_renumber_7 (c_X8_no hp a0 x1 1) kw_X8_93 rfl rfl ⟨rfl, rfl, ⟨by decide, by decide⟩, ⟨by decide, by decide⟩⟩ (Nat.le_of_ble_eq_true rfl) rfl (fun x2 => ?_)
  refine z_if_eq (pc := 10) 15 X dX8_renumber_10 (by decide) (fun _ => ?_) (fun _ => ?_)
  · refine z_aload_n (pc := 15) (i := 0) 0 X dX8_renumber_15 rfl rfl ?_
    refine z_callV_v (pc := 16) (cells := 0) (slots := 0) (C := RX8) (T := TX8) (N := 30) (ci := 9) [] X dX8_renumber_16 (c_X8_keeps x2.2 a0) kw_X8_184 rfl rfl ⟨rfl, rfl, ⟨by decide, by decide⟩, ⟨by decide, by decide⟩⟩ (Nat.le_of_ble_eq_true rfl) rfl (fun x3 => ?_)
    refine z_aload_n (pc := 19) (i := 0) 0 X dX8_renumber_19 rfl rfl ?_
    refine z_getR (pc := 20) (C := RX8) (T := TX8) (N := 30) (ci := 9) 6 X dX8_renumber_20 inz_X8 rfl (by decide) fw_X8_31 (fun v4 => ?_)
    refine z_iload_n (pc := 23) (i := 1) 1 X dX8_renumber_23 rfl rfl ?_
    refine z_iaload (pc := 24) X dX8_renumber_24 (fun v5 => ?_)
    refine z_istore_n (pc := 25) (i := 2) (lv' := [(2, zI v5), (0, zR a0), (1, zI a1)]) X dX8_renumber_25 rfl (hN _ (by decide)) rfl ?_
    refine z_aload_n (pc := 26) (i := 0) 1 X dX8_renumber_26 rfl rfl ?_
    refine z_getR (pc := 27) (C := RX8) (T := TX8) (N := 30) (ci := 9) 6 X dX8_renumber_27 inz_X8 rfl (by decide) fw_X8_31 (fun v6 => ?_)
    refine z_iload_n (pc := 30) (i := 1) 2 X dX8_renumber_30 rfl rfl ?_
    refine z_iconst (pc := 31) (z := 0) X dX8_renumber_31 rfl ⟨by decide, by decide⟩ ?_
    refine z_iastore (pc := 32) X dX8_renumber_32 (fun h7 => ?_)
    refine z_iconst (pc := 33) (z := 0) X dX8_renumber_33 rfl ⟨by decide, by decide⟩ ?_
    refine z_istore_n (pc := 34) (i := 3) (lv' := [(3, zI 0), (2, zI v5), (0, zR a0), (1, zI a1)]) X dX8_renumber_34 rfl (hN _ (by decide)) rfl ?_
    refine z_pick [2, 3, 1, 0] (lv' := [(0, zR a0), (1, zI a1), (2, zI v5), (3, zI 0)]) rfl ?_
    refine z_bind (z_loop (body := X8_renumber_b35 a0 a1 v5) (fun s11 : Int × zH => zJ K 0 0 35 [(0, zR a0), (1, zI a1), (2, zI v5), (3, zI s11.1)] [] s11.2) (fun e12 : zH => zJ K 0 0 73 [(0, zR a0), (1, zI a1), (2, zI v5)] [] e12) (fun s11 => ?_) zN (0, h7)) (fun e12 => ?_)
    · unfold X8_renumber_b35
      refine z_iload_n (pc := 35) (i := 3) 3 X dX8_renumber_35 rfl rfl ?_
      refine z_bipush (pc := 36) (z := 80) X dX8_renumber_36 rfl ⟨by decide, by decide⟩ ?_
      refine z_icmp_ge (pc := 38) 73 X dX8_renumber_38 (by decide) (fun _ => ?_) (fun _ => ?_)
      · refine z_pick [0, 1, 2] (lv' := [(0, zR a0), (1, zI a1), (2, zI v5)]) rfl ?_
        exact z_exit
      · refine z_aload_n (pc := 41) (i := 0) 0 X dX8_renumber_41 rfl rfl ?_
        refine z_getR (pc := 42) (C := RX8) (T := TX8) (N := 30) (ci := 9) 11 X dX8_renumber_42 inz_X8 rfl (by decide) fw_X8_43 (fun v13 => ?_)
        refine z_iload_n (pc := 45) (i := 3) 3 X dX8_renumber_45 rfl rfl ?_
        refine z_aload_n (pc := 46) (i := 0) 0 X dX8_renumber_46 rfl rfl ?_
        refine z_getR (pc := 47) (C := RX8) (T := TX8) (N := 30) (ci := 9) 8 X dX8_renumber_47 inz_X8 rfl (by decide) fw_X8_34 (fun v14 => ?_)
        refine z_iload_n (pc := 50) (i := 3) 3 X dX8_renumber_50 rfl rfl ?_
        refine z_iaload (pc := 51) X dX8_renumber_51 (fun v15 => ?_)
        refine z_iload_n (pc := 52) (i := 1) 1 X dX8_renumber_52 rfl rfl ?_
        refine z_icmp_ne (pc := 53) 60 X dX8_renumber_53 (by decide) (fun _ => ?_) (fun _ => ?_)
        · refine z_aload_n (pc := 60) (i := 0) 0 X dX8_renumber_60 rfl rfl ?_
          refine z_getR (pc := 61) (C := RX8) (T := TX8) (N := 30) (ci := 9) 11 X dX8_renumber_61 inz_X8 rfl (by decide) fw_X8_43 (fun v16 => ?_)
          refine z_iload_n (pc := 64) (i := 3) 3 X dX8_renumber_64 rfl rfl ?_
          refine z_iaload (pc := 65) X dX8_renumber_65 (fun v17 => ?_)
          refine z_iastore (pc := 66) X dX8_renumber_66 (fun h18 => ?_)
          refine z_iinc (pc := 67) (i := 3) (n := 1) (lv' := fun v19 => [(3, zI v19), (0, zR a0), (1, zI a1), (2, zI v5)]) 3 X dX8_renumber_67 rfl (hN _ (by decide)) (fun _ => rfl) (fun v19 _ _ => ?_)
          refine z_goto (pc := 70) 35 X dX8_renumber_70 (by decide) ?_
          refine z_pick [1, 2, 3, 0] (lv' := [(0, zR a0), (1, zI a1), (2, zI v5), (3, zI v19)]) rfl ?_
          exact z_back
        · refine z_iconst (pc := 56) (z := -1) X dX8_renumber_56 rfl ⟨by decide, by decide⟩ ?_
          refine z_goto (pc := 57) 66 X dX8_renumber_57 (by decide) ?_
          refine z_iastore (pc := 66) X dX8_renumber_66 (fun h20 => ?_)
          refine z_iinc (pc := 67) (i := 3) (n := 1) (lv' := fun v21 => [(3, zI v21), (0, zR a0), (1, zI a1), (2, zI v5)]) 3 X dX8_renumber_67 rfl (hN _ (by decide)) (fun _ => rfl) (fun v21 _ _ => ?_)
          refine z_goto (pc := 70) 35 X dX8_renumber_70 (by decide) ?_
          refine z_pick [1, 2, 3, 0] (lv' := [(0, zR a0), (1, zI a1), (2, zI v5), (3, zI v21)]) rfl ?_
          exact z_back
    · refine z_iconst (pc := 73) (z := 1) X dX8_renumber_73 rfl ⟨by decide, by decide⟩ ?_
      refine z_istore_n (pc := 74) (i := 3) (lv' := [(3, zI 1), (0, zR a0), (1, zI a1), (2, zI v5)]) X dX8_renumber_74 rfl (hN _ (by decide)) rfl ?_
      refine z_aload_n (pc := 75) (i := 0) 1 X dX8_renumber_75 rfl rfl ?_
      refine z_iload_n (pc := 76) (i := 1) 2 X dX8_renumber_76 rfl rfl ?_
      refine z_aload_n (pc := 77) (i := 0) 1 X dX8_renumber_77 rfl rfl ?_
      refine z_getR (pc := 78) (C := RX8) (T := TX8) (N := 30) (ci := 9) 3 X dX8_renumber_78 inz_X8 rfl (by decide) fw_X8_20 (fun v22 => ?_)
      refine z_iload_n (pc := 81) (i := 1) 2 X dX8_renumber_81 rfl rfl ?_
      refine z_caload (pc := 82) X dX8_renumber_82 (fun v23 => ?_)
      refine z_bipush (pc := 83) (z := 121) X dX8_renumber_83 rfl ⟨by decide, by decide⟩ ?_
      have hJ93 : ∀ (j24 : Int), zS (X8_renumber_j93 a0 a1 v5 e12 j24) (fun r => r = r0) (zJ K 0 0 93 [(0, zR a0), (1, zI a1), (2, zI v5), (3, zI 1)] [zI j24, zI a1, zR a0] e12) := by
        intro j24
        unfold X8_renumber_j93
        refine z_callV_i (pc := 93) (cells := 0) (slots := 0) (C := RX8) (T := TX8) (N := 30) (ci := 9) [zI a1, zI j24] X dX8_renumber_93 (c_X8_next e12 a0 a1 j24) kw_X8_187 rfl rfl ⟨rfl, rfl, ⟨by decide, by decide⟩, ⟨by decide, by decide⟩⟩ (Nat.le_of_ble_eq_true rfl) rfl (fun x25 => ?_)
        refine z_istore (pc := 96) (i := 4) (lv' := [(4, zI x25), (0, zR a0), (1, zI a1), (2, zI v5), (3, zI 1)]) X dX8_renumber_96 (hN _ (by decide)) rfl ?_
        refine z_pick [1, 2, 3, 4, 0] (lv' := [(0, zR a0), (1, zI a1), (2, zI v5), (3, zI 1), (4, zI x25)]) rfl ?_
        refine z_bind (z_loop (body := X8_renumber_b98 a0 a1 v5) (fun s29 : Int × Int × zH => zJ K 0 0 98 [(0, zR a0), (1, zI a1), (2, zI v5), (3, zI s29.1), (4, zI s29.2.1)] [] s29.2.2) (fun e30 : Int × zH => zJ K 0 0 197 [(0, zR a0), (1, zI a1), (2, zI v5), (3, zI e30.1)] [] e30.2) (fun s29 => ?_) zN (1, x25, e12)) (fun e30 => ?_)
        · unfold X8_renumber_b98
          refine z_iload_n (pc := 98) (i := 3) 3 X dX8_renumber_98 rfl rfl ?_
          refine z_if_eq (pc := 99) 197 X dX8_renumber_99 (by decide) (fun _ => ?_) (fun _ => ?_)
          · refine z_pick [0, 1, 2, 3] (lv' := [(0, zR a0), (1, zI a1), (2, zI v5), (3, zI s29.1)]) rfl ?_
            exact z_exit
          · refine z_iload (pc := 102) (i := 4) 4 X dX8_renumber_102 rfl ?_
            refine z_iconst (pc := 104) (z := -1) X dX8_renumber_104 rfl ⟨by decide, by decide⟩ ?_
            refine z_icmp_eq (pc := 105) 197 X dX8_renumber_105 (by decide) (fun _ => ?_) (fun _ => ?_)
            · refine z_pick [0, 1, 2, 3] (lv' := [(0, zR a0), (1, zI a1), (2, zI v5), (3, zI s29.1)]) rfl ?_
              exact z_exit
            · refine z_aload_n (pc := 108) (i := 0) 0 X dX8_renumber_108 rfl rfl ?_
              refine z_iload_n (pc := 109) (i := 1) 1 X dX8_renumber_109 rfl rfl ?_
              refine z_iload (pc := 110) (i := 4) 4 X dX8_renumber_110 rfl ?_
              refine z_iconst (pc := 112) (z := 2) X dX8_renumber_112 rfl ⟨by decide, by decide⟩ ?_
              refine z_idiv (pc := 113) X dX8_renumber_113 (fun v31 => ?_)
              refine z_aload_n (pc := 114) (i := 0) 0 X dX8_renumber_114 rfl rfl ?_
              refine z_getR (pc := 115) (C := RX8) (T := TX8) (N := 30) (ci := 9) 9 X dX8_renumber_115 inz_X8 rfl (by decide) fw_X8_37 (fun v32 => ?_)
              refine z_iload (pc := 118) (i := 4) 4 X dX8_renumber_118 rfl ?_
              refine z_iaload (pc := 120) X dX8_renumber_120 (fun v33 => ?_)
              refine z_aload_n (pc := 121) (i := 0) 0 X dX8_renumber_121 rfl rfl ?_
              refine z_getR (pc := 122) (C := RX8) (T := TX8) (N := 30) (ci := 9) 10 X dX8_renumber_122 inz_X8 rfl (by decide) fw_X8_40 (fun v34 => ?_)
              refine z_iload (pc := 125) (i := 4) 4 X dX8_renumber_125 rfl ?_
              refine z_caload (pc := 127) X dX8_renumber_127 (fun v35 => ?_)
              refine z_callV_i (pc := 128) (cells := 0) (slots := 0) (C := RX8) (T := TX8) (N := 30) (ci := 9) [zI a1, zI v31, zI v33, zI v35] X dX8_renumber_128 (c_X8_comes s29.2.2 a0 a1 v31 v33 v35) kw_X8_161 rfl rfl ⟨rfl, rfl, ⟨by decide, by decide⟩, ⟨by decide, by decide⟩⟩ (Nat.le_of_ble_eq_true rfl) rfl (fun x36 => ?_)
              refine z_istore (pc := 131) (i := 5) (lv' := [(5, zI x36), (0, zR a0), (1, zI a1), (2, zI v5), (3, zI s29.1), (4, zI s29.2.1)]) X dX8_renumber_131 (hN _ (by decide)) rfl ?_
              refine z_iload (pc := 133) (i := 5) 0 X dX8_renumber_133 rfl ?_
              have hJ143 : ∀ (j37 : Int), zS (X8_renumber_j143 a0 a1 s29 x36 j37) (zLG (fun s29 : Int × Int × zH => zJ K 0 0 98 [(0, zR a0), (1, zI a1), (2, zI v5), (3, zI s29.1), (4, zI s29.2.1)] [] s29.2.2) (fun e30 : Int × zH => zJ K 0 0 197 [(0, zR a0), (1, zI a1), (2, zI v5), (3, zI e30.1)] [] e30.2)) (zJ K 0 0 143 [(0, zR a0), (1, zI a1), (2, zI v5), (4, zI s29.2.1), (5, zI x36)] [zI j37] s29.2.2) := by
                intro j37
                unfold X8_renumber_j143
                refine z_istore_n (pc := 143) (i := 3) (lv' := [(3, zI j37), (0, zR a0), (1, zI a1), (2, zI v5), (4, zI s29.2.1), (5, zI x36)]) X dX8_renumber_143 rfl (hN _ (by decide)) rfl ?_
                refine z_iload_n (pc := 144) (i := 3) 0 X dX8_renumber_144 rfl rfl ?_
                have hJ171 : ∀ (h38 : zH), zS (X8_renumber_j171 a0 a1 j37 h38) (zLG (fun s29 : Int × Int × zH => zJ K 0 0 98 [(0, zR a0), (1, zI a1), (2, zI v5), (3, zI s29.1), (4, zI s29.2.1)] [] s29.2.2) (fun e30 : Int × zH => zJ K 0 0 197 [(0, zR a0), (1, zI a1), (2, zI v5), (3, zI e30.1)] [] e30.2)) (zJ K 0 0 171 [(0, zR a0), (1, zI a1), (2, zI v5), (3, zI j37)] [] h38) := by
                  intro h38
                  unfold X8_renumber_j171
                  refine z_aload_n (pc := 171) (i := 0) 0 X dX8_renumber_171 rfl rfl ?_
                  refine z_iload_n (pc := 172) (i := 1) 1 X dX8_renumber_172 rfl rfl ?_
                  refine z_aload_n (pc := 173) (i := 0) 0 X dX8_renumber_173 rfl rfl ?_
                  refine z_getR (pc := 174) (C := RX8) (T := TX8) (N := 30) (ci := 9) 3 X dX8_renumber_174 inz_X8 rfl (by decide) fw_X8_20 (fun v39 => ?_)
                  refine z_iload_n (pc := 177) (i := 1) 1 X dX8_renumber_177 rfl rfl ?_
                  refine z_caload (pc := 178) X dX8_renumber_178 (fun v40 => ?_)
                  refine z_bipush (pc := 179) (z := 121) X dX8_renumber_179 rfl ⟨by decide, by decide⟩ ?_
                  refine z_icmp_ne (pc := 181) 188 X dX8_renumber_181 (by decide) (fun _ => ?_) (fun _ => ?_)
                  · refine z_iconst (pc := 188) (z := 0) X dX8_renumber_188 rfl ⟨by decide, by decide⟩ ?_
                    refine z_callV_i (pc := 189) (cells := 0) (slots := 0) (C := RX8) (T := TX8) (N := 30) (ci := 9) [zI a1, zI 0] X dX8_renumber_189 (c_X8_next h38 a0 a1 0) kw_X8_187 rfl rfl ⟨rfl, rfl, ⟨by decide, by decide⟩, ⟨by decide, by decide⟩⟩ (Nat.le_of_ble_eq_true rfl) rfl (fun x41 => ?_)
                    refine z_istore (pc := 192) (i := 4) (lv' := [(4, zI x41), (0, zR a0), (1, zI a1), (2, zI v5), (3, zI j37)]) X dX8_renumber_192 (hN _ (by decide)) rfl ?_
                    refine z_goto (pc := 194) 98 X dX8_renumber_194 (by decide) ?_
                    refine z_pick [1, 2, 3, 4, 0] (lv' := [(0, zR a0), (1, zI a1), (2, zI v5), (3, zI j37), (4, zI x41)]) rfl ?_
                    exact z_back
                  · refine z_iconst (pc := 184) (z := 1) X dX8_renumber_184 rfl ⟨by decide, by decide⟩ ?_
                    refine z_goto (pc := 185) 189 X dX8_renumber_185 (by decide) ?_
                    refine z_callV_i (pc := 189) (cells := 0) (slots := 0) (C := RX8) (T := TX8) (N := 30) (ci := 9) [zI a1, zI 1] X dX8_renumber_189 (c_X8_next h38 a0 a1 1) kw_X8_187 rfl rfl ⟨rfl, rfl, ⟨by decide, by decide⟩, ⟨by decide, by decide⟩⟩ (Nat.le_of_ble_eq_true rfl) rfl (fun x42 => ?_)
                    refine z_istore (pc := 192) (i := 4) (lv' := [(4, zI x42), (0, zR a0), (1, zI a1), (2, zI v5), (3, zI j37)]) X dX8_renumber_192 (hN _ (by decide)) rfl ?_
                    refine z_goto (pc := 194) 98 X dX8_renumber_194 (by decide) ?_
                    refine z_pick [1, 2, 3, 4, 0] (lv' := [(0, zR a0), (1, zI a1), (2, zI v5), (3, zI j37), (4, zI x42)]) rfl ?_
                    exact z_back
                refine z_if_eq (pc := 145) 171 X dX8_renumber_145 (by decide) (fun _ => ?_) (fun _ => ?_)
                · refine z_pick [1, 2, 3, 0] (lv' := [(0, zR a0), (1, zI a1), (2, zI v5), (3, zI j37)]) rfl ?_
                  exact hJ171 s29.2.2
                · refine z_aload_n (pc := 148) (i := 0) 1 X dX8_renumber_148 rfl rfl ?_
                  refine z_iload (pc := 149) (i := 4) 4 X dX8_renumber_149 rfl ?_
                  refine z_iload_n (pc := 151) (i := 1) 2 X dX8_renumber_151 rfl rfl ?_
                  refine z_aload_n (pc := 152) (i := 0) 1 X dX8_renumber_152 rfl rfl ?_
                  refine z_getR (pc := 153) (C := RX8) (T := TX8) (N := 30) (ci := 9) 9 X dX8_renumber_153 inz_X8 rfl (by decide) fw_X8_37 (fun v43 => ?_)
                  refine z_iload (pc := 156) (i := 4) 4 X dX8_renumber_156 rfl ?_
                  refine z_iaload (pc := 158) X dX8_renumber_158 (fun v44 => ?_)
                  refine z_aload_n (pc := 159) (i := 0) 1 X dX8_renumber_159 rfl rfl ?_
                  refine z_getR (pc := 160) (C := RX8) (T := TX8) (N := 30) (ci := 9) 10 X dX8_renumber_160 inz_X8 rfl (by decide) fw_X8_40 (fun v45 => ?_)
                  refine z_iload (pc := 163) (i := 4) 4 X dX8_renumber_163 rfl ?_
                  refine z_caload (pc := 165) X dX8_renumber_165 (fun v46 => ?_)
                  refine z_iload (pc := 166) (i := 5) 5 X dX8_renumber_166 rfl ?_
                  refine z_callV_v (pc := 168) (cells := 0) (slots := 0) (C := RX8) (T := TX8) (N := 30) (ci := 9) [zI s29.2.1, zI a1, zI v44, zI v46, zI x36] X dX8_renumber_168 (c_X8_puts s29.2.2 a0 s29.2.1 a1 v44 v46 x36) kw_X8_165 rfl rfl ⟨rfl, rfl, ⟨by decide, by decide⟩, ⟨by decide, by decide⟩⟩ (Nat.le_of_ble_eq_true rfl) rfl (fun x47 => ?_)
                  refine z_pick [1, 2, 3, 0] (lv' := [(0, zR a0), (1, zI a1), (2, zI v5), (3, zI j37)]) rfl ?_
                  exact hJ171 x47
              refine z_if_lt (pc := 135) 142 X dX8_renumber_135 (by decide) (fun _ => ?_) (fun _ => ?_)
              · refine z_iconst (pc := 142) (z := 0) X dX8_renumber_142 rfl ⟨by decide, by decide⟩ ?_
                refine z_pick [1, 2, 3, 5, 0] (lv' := [(0, zR a0), (1, zI a1), (2, zI v5), (4, zI s29.2.1), (5, zI x36)]) rfl ?_
                exact hJ143 0
              · refine z_iconst (pc := 138) (z := 1) X dX8_renumber_138 rfl ⟨by decide, by decide⟩ ?_
                refine z_goto (pc := 139) 143 X dX8_renumber_139 (by decide) ?_
                refine z_pick [1, 2, 3, 5, 0] (lv' := [(0, zR a0), (1, zI a1), (2, zI v5), (4, zI s29.2.1), (5, zI x36)]) rfl ?_
                exact hJ143 1
        · refine z_aload_n (pc := 197) (i := 0) 0 X dX8_renumber_197 rfl rfl ?_
          refine z_iload_n (pc := 198) (i := 3) 3 X dX8_renumber_198 rfl rfl ?_
          refine z_iconst (pc := 199) (z := 2) X dX8_renumber_199 rfl ⟨by decide, by decide⟩ ?_
          refine z_callV_i (pc := 200) (cells := 0) (slots := 0) (C := RX8) (T := TX8) (N := 30) (ci := 9) [zI e30.1, zI 2] X dX8_renumber_200 (c_X8_no e30.2 a0 e30.1 2) kw_X8_93 rfl rfl ⟨rfl, rfl, ⟨by decide, by decide⟩, ⟨by decide, by decide⟩⟩ (Nat.le_of_ble_eq_true rfl) rfl (fun x48 => ?_)
          refine z_if_eq (pc := 203) 219 X dX8_renumber_203 (by decide) (fun _ => ?_) (fun _ => ?_)
          · refine z_iconst (pc := 219) (z := 0) X dX8_renumber_219 rfl ⟨by decide, by decide⟩ ?_
            refine z_istore (pc := 220) (i := 4) (lv' := [(4, zI 0), (0, zR a0), (1, zI a1), (2, zI v5), (3, zI e30.1)]) X dX8_renumber_220 (hN _ (by decide)) rfl ?_
            refine z_iconst (pc := 222) (z := 0) X dX8_renumber_222 rfl ⟨by decide, by decide⟩ ?_
            refine z_istore (pc := 223) (i := 5) (lv' := [(5, zI 0), (4, zI 0), (0, zR a0), (1, zI a1), (2, zI v5), (3, zI e30.1)]) X dX8_renumber_223 (hN _ (by decide)) rfl ?_
            refine z_pick [2, 3, 1, 0] (lv' := [(0, zR a0), (1, zI a1), (4, zI 0), (5, zI 0)]) rfl ?_
            refine z_bind (z_loop (body := X8_renumber_b225 a0 a1) (fun s51 : Int × Int × zH => zJ K 0 0 225 [(0, zR a0), (1, zI a1), (4, zI s51.1), (5, zI s51.2.1)] [] s51.2.2) (fun e52 : Int × zH => zJ K 0 0 316 [(4, zI e52.1)] [] e52.2) (fun s51 => ?_) zN (0, 0, x48.2)) (fun e52 => ?_)
            · unfold X8_renumber_b225
              refine z_iload (pc := 225) (i := 5) 3 X dX8_renumber_225 rfl ?_
              refine z_aload_n (pc := 227) (i := 0) 0 X dX8_renumber_227 rfl rfl ?_
              refine z_getI (pc := 228) (C := RX8) (T := TX8) (N := 30) (ci := 9) 14 X dX8_renumber_228 inz_X8 rfl (by decide) fw_X8_90 (fun v53 => ?_)
              refine z_icmp_ge (pc := 231) 316 X dX8_renumber_231 (by decide) (fun _ => ?_) (fun _ => ?_)
              · refine z_pick [2] (lv' := [(4, zI s51.1)]) rfl ?_
                exact z_exit
              · refine z_aload_n (pc := 234) (i := 0) 0 X dX8_renumber_234 rfl rfl ?_
                refine z_iload (pc := 235) (i := 5) 3 X dX8_renumber_235 rfl ?_
                refine z_iload_n (pc := 237) (i := 1) 1 X dX8_renumber_237 rfl rfl ?_
                refine z_callV_i (pc := 238) (cells := 0) (slots := 0) (C := RX8) (T := TX8) (N := 30) (ci := 9) [zI s51.2.1, zI a1] X dX8_renumber_238 (c_X8_placeOn s51.2.2 a0 s51.2.1 a1) kw_X8_124 rfl rfl ⟨rfl, rfl, ⟨by decide, by decide⟩, ⟨by decide, by decide⟩⟩ (Nat.le_of_ble_eq_true rfl) rfl (fun x54 => ?_)
                refine z_istore (pc := 241) (i := 6) (lv' := [(6, zI x54), (0, zR a0), (1, zI a1), (4, zI s51.1), (5, zI s51.2.1)]) X dX8_renumber_241 (hN _ (by decide)) rfl ?_
                refine z_iload (pc := 243) (i := 6) 0 X dX8_renumber_243 rfl ?_
                refine z_iconst (pc := 245) (z := -1) X dX8_renumber_245 rfl ⟨by decide, by decide⟩ ?_
                refine z_icmp_eq (pc := 246) 310 X dX8_renumber_246 (by decide) (fun _ => ?_) (fun _ => ?_)
                · refine z_iinc (pc := 310) (i := 5) (n := 1) (lv' := fun v55 => [(5, zI v55), (6, zI x54), (0, zR a0), (1, zI a1), (4, zI s51.1)]) 4 X dX8_renumber_310 rfl (hN _ (by decide)) (fun _ => rfl) (fun v55 _ _ => ?_)
                  refine z_goto (pc := 313) 225 X dX8_renumber_313 (by decide) ?_
                  refine z_pick [2, 3, 4, 0] (lv' := [(0, zR a0), (1, zI a1), (4, zI s51.1), (5, zI v55)]) rfl ?_
                  exact z_back
                · refine z_aload_n (pc := 249) (i := 0) 1 X dX8_renumber_249 rfl rfl ?_
                  refine z_getR (pc := 250) (C := RX8) (T := TX8) (N := 30) (ci := 9) 11 X dX8_renumber_250 inz_X8 rfl (by decide) fw_X8_43 (fun v56 => ?_)
                  refine z_iload (pc := 253) (i := 6) 0 X dX8_renumber_253 rfl ?_
                  refine z_iaload (pc := 255) X dX8_renumber_255 (fun v57 => ?_)
                  refine z_aload_n (pc := 256) (i := 0) 1 X dX8_renumber_256 rfl rfl ?_
                  refine z_getR (pc := 257) (C := RX8) (T := TX8) (N := 30) (ci := 9) 23 X dX8_renumber_257 inz_X8 rfl (by decide) fw_X8_73 (fun v58 => ?_)
                  refine z_iload (pc := 260) (i := 6) 0 X dX8_renumber_260 rfl ?_
                  refine z_iaload (pc := 262) X dX8_renumber_262 (fun v59 => ?_)
                  refine z_icmp_ne (pc := 263) 269 X dX8_renumber_263 (by decide) (fun _ => ?_) (fun _ => ?_)
                  · refine z_aload_n (pc := 269) (i := 0) 1 X dX8_renumber_269 rfl rfl ?_
                    refine z_aload_n (pc := 270) (i := 0) 1 X dX8_renumber_270 rfl rfl ?_
                    refine z_getR (pc := 271) (C := RX8) (T := TX8) (N := 30) (ci := 9) 0 X dX8_renumber_271 inz_X8 rfl (by decide) fw_X8_7 (fun v60 => ?_)
                    refine z_iload_n (pc := 274) (i := 1) 2 X dX8_renumber_274 rfl rfl ?_
                    refine z_laload (pc := 275) X dX8_renumber_275 (fun v61 => ?_)
                    refine z_aload_n (pc := 276) (i := 0) 1 X dX8_renumber_276 rfl rfl ?_
                    refine z_getR (pc := 277) (C := RX8) (T := TX8) (N := 30) (ci := 9) 23 X dX8_renumber_277 inz_X8 rfl (by decide) fw_X8_73 (fun v62 => ?_)
                    refine z_iload (pc := 280) (i := 6) 0 X dX8_renumber_280 rfl ?_
                    refine z_iaload (pc := 282) X dX8_renumber_282 (fun v63 => ?_)
                    refine z_iload (pc := 283) (i := 5) 4 X dX8_renumber_283 rfl ?_
                    refine z_callV_v (pc := 285) (cells := 0) (slots := 0) (C := RX8) (T := TX8) (N := 30) (ci := 9) [zL v61, zI v63, zI s51.2.1] X dX8_renumber_285 (c_X8_old s51.2.2 a0 v61 v63 s51.2.1) kw_X8_128 rfl rfl ⟨rfl, rfl, ⟨by decide, by decide⟩, ⟨by decide, by decide⟩⟩ (Nat.le_of_ble_eq_true rfl) rfl (fun x64 => ?_)
                    refine z_aload_n (pc := 288) (i := 0) 1 X dX8_renumber_288 rfl rfl ?_
                    refine z_aload_n (pc := 289) (i := 0) 1 X dX8_renumber_289 rfl rfl ?_
                    refine z_getR (pc := 290) (C := RX8) (T := TX8) (N := 30) (ci := 9) 1 X dX8_renumber_290 inz_X8 rfl (by decide) fw_X8_13 (fun v65 => ?_)
                    refine z_iload_n (pc := 293) (i := 1) 2 X dX8_renumber_293 rfl rfl ?_
                    refine z_laload (pc := 294) X dX8_renumber_294 (fun v66 => ?_)
                    refine z_aload_n (pc := 295) (i := 0) 1 X dX8_renumber_295 rfl rfl ?_
                    refine z_getR (pc := 296) (C := RX8) (T := TX8) (N := 30) (ci := 9) 23 X dX8_renumber_296 inz_X8 rfl (by decide) fw_X8_73 (fun v67 => ?_)
                    refine z_iload (pc := 299) (i := 6) 0 X dX8_renumber_299 rfl ?_
                    refine z_iaload (pc := 301) X dX8_renumber_301 (fun v68 => ?_)
                    refine z_iload (pc := 302) (i := 5) 4 X dX8_renumber_302 rfl ?_
                    refine z_callV_v (pc := 304) (cells := 0) (slots := 0) (C := RX8) (T := TX8) (N := 30) (ci := 9) [zL v66, zI v68, zI s51.2.1] X dX8_renumber_304 (c_X8_old x64 a0 v66 v68 s51.2.1) kw_X8_128 rfl rfl ⟨rfl, rfl, ⟨by decide, by decide⟩, ⟨by decide, by decide⟩⟩ (Nat.le_of_ble_eq_true rfl) rfl (fun x69 => ?_)
                    refine z_iinc (pc := 307) (i := 4) (n := 1) (lv' := fun v70 => [(4, zI v70), (6, zI x54), (0, zR a0), (1, zI a1), (5, zI s51.2.1)]) 3 X dX8_renumber_307 rfl (hN _ (by decide)) (fun _ => rfl) (fun v70 _ _ => ?_)
                    refine z_iinc (pc := 310) (i := 5) (n := 1) (lv' := fun v71 => [(5, zI v71), (4, zI v70), (6, zI x54), (0, zR a0), (1, zI a1)]) 4 X dX8_renumber_310 rfl (hN _ (by decide)) (fun _ => rfl) (fun v71 _ _ => ?_)
                    refine z_goto (pc := 313) 225 X dX8_renumber_313 (by decide) ?_
                    refine z_pick [3, 4, 1, 0] (lv' := [(0, zR a0), (1, zI a1), (4, zI v70), (5, zI v71)]) rfl ?_
                    exact z_back
                  · refine z_goto (pc := 266) 310 X dX8_renumber_266 (by decide) ?_
                    refine z_iinc (pc := 310) (i := 5) (n := 1) (lv' := fun v72 => [(5, zI v72), (6, zI x54), (0, zR a0), (1, zI a1), (4, zI s51.1)]) 4 X dX8_renumber_310 rfl (hN _ (by decide)) (fun _ => rfl) (fun v72 _ _ => ?_)
                    refine z_goto (pc := 313) 225 X dX8_renumber_313 (by decide) ?_
                    refine z_pick [2, 3, 4, 0] (lv' := [(0, zR a0), (1, zI a1), (4, zI s51.1), (5, zI v72)]) rfl ?_
                    exact z_back
            · refine z_iload (pc := 316) (i := 4) 0 X dX8_renumber_316 rfl ?_
              refine z_fin (fun e9 => ?_)
              subst e9
              exact hret _ _ _ _ (by decide) (by decide) dX8_renumber_318 trivial
          · refine z_aload_n (pc := 206) (i := 0) 0 X dX8_renumber_206 rfl rfl ?_
            refine z_callV_v (pc := 207) (cells := 0) (slots := 0) (C := RX8) (T := TX8) (N := 30) (ci := 9) [] X dX8_renumber_207 (c_X8_givesBack x48.2 a0) kw_X8_191 rfl rfl ⟨rfl, rfl, ⟨by decide, by decide⟩, ⟨by decide, by decide⟩⟩ (Nat.le_of_ble_eq_true rfl) rfl (fun x73 => ?_)
            refine z_aload_n (pc := 210) (i := 0) 0 X dX8_renumber_210 rfl rfl ?_
            refine z_getR (pc := 211) (C := RX8) (T := TX8) (N := 30) (ci := 9) 6 X dX8_renumber_211 inz_X8 rfl (by decide) fw_X8_31 (fun v74 => ?_)
            refine z_iload_n (pc := 214) (i := 1) 1 X dX8_renumber_214 rfl rfl ?_
            refine z_iload_n (pc := 215) (i := 2) 2 X dX8_renumber_215 rfl rfl ?_
            refine z_iastore (pc := 216) X dX8_renumber_216 (fun h75 => ?_)
            refine z_iconst (pc := 217) (z := 0) X dX8_renumber_217 rfl ⟨by decide, by decide⟩ ?_
            refine z_fin (fun e9 => ?_)
            subst e9
            exact hret _ _ _ _ (by decide) (by decide) dX8_renumber_218 trivial
      refine z_icmp_ne (pc := 85) 92 X dX8_renumber_85 (by decide) (fun _ => ?_) (fun _ => ?_)
      · refine z_iconst (pc := 92) (z := 0) X dX8_renumber_92 rfl ⟨by decide, by decide⟩ ?_
        refine z_pick [1, 2, 3, 0] (lv' := [(0, zR a0), (1, zI a1), (2, zI v5), (3, zI 1)]) rfl ?_
        exact hJ93 0
      · refine z_iconst (pc := 88) (z := 1) X dX8_renumber_88 rfl ⟨by decide, by decide⟩ ?_
        refine z_goto (pc := 89) 93 X dX8_renumber_89 (by decide) ?_
        refine z_pick [1, 2, 3, 0] (lv' := [(0, zR a0), (1, zI a1), (2, zI v5), (3, zI 1)]) rfl ?_
        exact hJ93 1
  · refine z_iconst (pc := 13) (z := 0) X dX8_renumber_13 rfl ⟨by decide, by decide⟩ ?_
    refine z_fin (fun e9 => ?_)
    subst e9
    exact hret _ _ _ _ (by decide) (by decide) dX8_renumber_14 trivial
def X8_send_j61 (a0 : Option Nat) (x2 : Int) (x4 : (Int × zH)) (j8 : Int) : Option (Int × zH) :=
  ((zobj x4.2 a0 9).bind fun _ => X8_no x4.2 a0 j8 2).bind fun x9 =>
  if x9.1 = 0 then
    (zgR x9.2 a0 9 17).bind fun v10 =>
    (zaI x9.2 0 v10 x2).bind fun v11 =>
    ((zobj x9.2 a0 9).bind fun _ => X8_endOf x9.2 a0 v11).bind fun x12 =>
    some (x12, x9.2)
  else
    some (0, x9.2)
def X8_send_j35 (hp : zH) (a0 : Option Nat) (x2 : Int) (j3 : Int) : Option (Int × zH) :=
  ((zobj hp a0 9).bind fun _ => X8_no hp a0 j3 1).bind fun x4 =>
  if x4.1 = 0 then
    (zgR x4.2 a0 9 17).bind fun v5 =>
    (zaI x4.2 0 v5 x2).bind fun v6 =>
    ((zobj x4.2 a0 9).bind fun _ => X8_endOf x4.2 a0 v6).bind fun x7 =>
    if x7 < 0 then
      X8_send_j61 a0 x2 x4 0
    else
      X8_send_j61 a0 x2 x4 1
  else
    some (0, x4.2)
def X8_send (hp : zH) (a0 : Option Nat) (a1 : Int) : Option (Int × zH) :=
  ((zobj hp a0 9).bind fun _ => X8_now hp a0 a1).bind fun x1 =>
  if x1 = (-1) then
    ((zobj hp a0 9).bind fun _ => X8_latest hp a0 a1).bind fun x2 =>
    if x2 = (-1) then
      X8_send_j35 hp a0 x2 0
    else
      X8_send_j35 hp a0 x2 1
  else
    (zpI hp a0 9 29 0).bind fun h13 =>
    some (x1, h13)
set_option maxRecDepth 20000 in
theorem c_X8_send (hp : zH) (a0 : Option Nat) (a1 : Int) : ∀ r, X8_send hp a0 a1 = some r → zMi yX8_send (Cond.code yX8_send cX8_send 4 (some .int) :: zALL) { frames := 1, cells := 0, slots := 0, locals := 24 } 0 0 [zR a0, zI a1] hp r.1 r.2 := by
  refine zMi_of (own := RX8) (cc := cX8_send) (maxL := 4) (ε := (Int × zH)) (res := fun r => r.1) (hp2 := fun r => r.2) (by decide) rfl (Or.inl rfl) (by exact Nat.le_of_ble_eq_true rfl) ?_
  intro K r0 X hnL hret
  have hN : ∀ i, i < 4 → i < K.2.2.2.2.2.2.2.2.2.2.2.2.2.2.1 := by rw [hnL]; exact fun _ h => h
  show zS _ _ (zJ K 0 0 0 [(0, zR a0), (1, zI a1)] [] hp)
  unfold X8_send
  refine z_aload_n (pc := 0) (i := 0) 0 X dX8_send_0 rfl rfl ?_
  refine z_iload_n (pc := 1) (i := 1) 1 X dX8_send_1 rfl rfl ?_
  refine z_callV_i (pc := 2) (cells := 0) (slots := 0) (C := RX8) (T := TX8) (N := 30) (ci := 9) [zI a1] X dX8_send_2 (c_X8_now hp a0 a1) kw_X8_203 rfl rfl ⟨rfl, rfl, ⟨by decide, by decide⟩, ⟨by decide, by decide⟩⟩ (Nat.le_of_ble_eq_true rfl) rfl (fun x1 => ?_)
  refine z_istore_n (pc := 5) (i := 2) (lv' := [(2, zI x1), (0, zR a0), (1, zI a1)]) X dX8_send_5 rfl (hN _ (by decide)) rfl ?_
  refine z_iload_n (pc := 6) (i := 2) 0 X dX8_send_6 rfl rfl ?_
  refine z_iconst (pc := 7) (z := -1) X dX8_send_7 rfl ⟨by decide, by decide⟩ ?_
  refine z_icmp_eq (pc := 8) 18 X dX8_send_8 (by decide) (fun _ => ?_) (fun _ => ?_)
  · refine z_aload_n (pc := 18) (i := 0) 1 X dX8_send_18 rfl rfl ?_
    refine z_iload_n (pc := 19) (i := 1) 2 X dX8_send_19 rfl rfl ?_
    refine z_callV_i (pc := 20) (cells := 0) (slots := 0) (C := RX8) (T := TX8) (N := 30) (ci := 9) [zI a1] X dX8_send_20 (c_X8_latest hp a0 a1) kw_X8_206 rfl rfl ⟨rfl, rfl, ⟨by decide, by decide⟩, ⟨by decide, by decide⟩⟩ (Nat.le_of_ble_eq_true rfl) rfl (fun x2 => ?_)
    refine z_istore_n (pc := 23) (i := 3) (lv' := [(3, zI x2), (2, zI x1), (0, zR a0), (1, zI a1)]) X dX8_send_23 rfl (hN _ (by decide)) rfl ?_
    refine z_aload_n (pc := 24) (i := 0) 2 X dX8_send_24 rfl rfl ?_
    refine z_iload_n (pc := 25) (i := 3) 0 X dX8_send_25 rfl rfl ?_
    refine z_iconst (pc := 26) (z := -1) X dX8_send_26 rfl ⟨by decide, by decide⟩ ?_
    have hJ35 : ∀ (j3 : Int), zS (X8_send_j35 hp a0 x2 j3) (fun r => r = r0) (zJ K 0 0 35 [(0, zR a0), (3, zI x2)] [zI j3, zR a0] hp) := by
      intro j3
      unfold X8_send_j35
      refine z_iconst (pc := 35) (z := 1) X dX8_send_35 rfl ⟨by decide, by decide⟩ ?_
      refine z_callV_i (pc := 36) (cells := 0) (slots := 0) (C := RX8) (T := TX8) (N := 30) (ci := 9) [zI j3, zI 1] X dX8_send_36 (c_X8_no hp a0 j3 1) kw_X8_93 rfl rfl ⟨rfl, rfl, ⟨by decide, by decide⟩, ⟨by decide, by decide⟩⟩ (Nat.le_of_ble_eq_true rfl) rfl (fun x4 => ?_)
      refine z_if_ne (pc := 39) 68 X dX8_send_39 (by decide) (fun _ => ?_) (fun _ => ?_)
      · refine z_iconst (pc := 68) (z := 0) X dX8_send_68 rfl ⟨by decide, by decide⟩ ?_
        refine z_fin (fun e9 => ?_)
        subst e9
        exact hret _ _ _ _ (by decide) (by decide) dX8_send_69 trivial
      · refine z_aload_n (pc := 42) (i := 0) 0 X dX8_send_42 rfl rfl ?_
        refine z_aload_n (pc := 43) (i := 0) 0 X dX8_send_43 rfl rfl ?_
        refine z_aload_n (pc := 44) (i := 0) 0 X dX8_send_44 rfl rfl ?_
        refine z_getR (pc := 45) (C := RX8) (T := TX8) (N := 30) (ci := 9) 17 X dX8_send_45 inz_X8 rfl (by decide) fw_X8_58 (fun v5 => ?_)
        refine z_iload_n (pc := 48) (i := 3) 1 X dX8_send_48 rfl rfl ?_
        refine z_iaload (pc := 49) X dX8_send_49 (fun v6 => ?_)
        refine z_callV_i (pc := 50) (cells := 0) (slots := 0) (C := RX8) (T := TX8) (N := 30) (ci := 9) [zI v6] X dX8_send_50 (c_X8_endOf x4.2 a0 v6) kw_X8_180 rfl rfl ⟨rfl, rfl, ⟨by decide, by decide⟩, ⟨by decide, by decide⟩⟩ (Nat.le_of_ble_eq_true rfl) rfl (fun x7 => ?_)
        have hJ61 : ∀ (j8 : Int), zS (X8_send_j61 a0 x2 x4 j8) (fun r => r = r0) (zJ K 0 0 61 [(0, zR a0), (3, zI x2)] [zI j8, zR a0] x4.2) := by
          intro j8
          unfold X8_send_j61
          refine z_iconst (pc := 61) (z := 2) X dX8_send_61 rfl ⟨by decide, by decide⟩ ?_
          refine z_callV_i (pc := 62) (cells := 0) (slots := 0) (C := RX8) (T := TX8) (N := 30) (ci := 9) [zI j8, zI 2] X dX8_send_62 (c_X8_no x4.2 a0 j8 2) kw_X8_93 rfl rfl ⟨rfl, rfl, ⟨by decide, by decide⟩, ⟨by decide, by decide⟩⟩ (Nat.le_of_ble_eq_true rfl) rfl (fun x9 => ?_)
          refine z_if_eq (pc := 65) 70 X dX8_send_65 (by decide) (fun _ => ?_) (fun _ => ?_)
          · refine z_aload_n (pc := 70) (i := 0) 0 X dX8_send_70 rfl rfl ?_
            refine z_aload_n (pc := 71) (i := 0) 0 X dX8_send_71 rfl rfl ?_
            refine z_getR (pc := 72) (C := RX8) (T := TX8) (N := 30) (ci := 9) 17 X dX8_send_72 inz_X8 rfl (by decide) fw_X8_58 (fun v10 => ?_)
            refine z_iload_n (pc := 75) (i := 3) 1 X dX8_send_75 rfl rfl ?_
            refine z_iaload (pc := 76) X dX8_send_76 (fun v11 => ?_)
            refine z_callV_i (pc := 77) (cells := 0) (slots := 0) (C := RX8) (T := TX8) (N := 30) (ci := 9) [zI v11] X dX8_send_77 (c_X8_endOf x9.2 a0 v11) kw_X8_180 rfl rfl ⟨rfl, rfl, ⟨by decide, by decide⟩, ⟨by decide, by decide⟩⟩ (Nat.le_of_ble_eq_true rfl) rfl (fun x12 => ?_)
            refine z_fin (fun e9 => ?_)
            subst e9
            exact hret _ _ _ _ (by decide) (by decide) dX8_send_80 trivial
          · refine z_iconst (pc := 68) (z := 0) X dX8_send_68 rfl ⟨by decide, by decide⟩ ?_
            refine z_fin (fun e9 => ?_)
            subst e9
            exact hret _ _ _ _ (by decide) (by decide) dX8_send_69 trivial
        refine z_if_lt (pc := 53) 60 X dX8_send_53 (by decide) (fun _ => ?_) (fun _ => ?_)
        · refine z_iconst (pc := 60) (z := 0) X dX8_send_60 rfl ⟨by decide, by decide⟩ ?_
          exact hJ61 0
        · refine z_iconst (pc := 56) (z := 1) X dX8_send_56 rfl ⟨by decide, by decide⟩ ?_
          refine z_goto (pc := 57) 61 X dX8_send_57 (by decide) ?_
          exact hJ61 1
    refine z_icmp_eq (pc := 27) 34 X dX8_send_27 (by decide) (fun _ => ?_) (fun _ => ?_)
    · refine z_iconst (pc := 34) (z := 0) X dX8_send_34 rfl ⟨by decide, by decide⟩ ?_
      refine z_pick [2, 0] (lv' := [(0, zR a0), (3, zI x2)]) rfl ?_
      exact hJ35 0
    · refine z_iconst (pc := 30) (z := 1) X dX8_send_30 rfl ⟨by decide, by decide⟩ ?_
      refine z_goto (pc := 31) 35 X dX8_send_31 (by decide) ?_
      refine z_pick [2, 0] (lv' := [(0, zR a0), (3, zI x2)]) rfl ?_
      exact hJ35 1
  · refine z_aload_n (pc := 11) (i := 0) 1 X dX8_send_11 rfl rfl ?_
    refine z_iconst (pc := 12) (z := 0) X dX8_send_12 rfl ⟨by decide, by decide⟩ ?_
    refine z_putI (pc := 13) (C := RX8) (T := TX8) (N := 30) (ci := 9) 29 X dX8_send_13 inz_X8 tyX8_ok nmX8 rfl (by decide) fw_X8_79 rfl rfl (fun h13 => ?_)
    refine z_iload_n (pc := 16) (i := 2) 0 X dX8_send_16 rfl rfl ?_
    refine z_fin (fun e9 => ?_)
    subst e9
    exact hret _ _ _ _ (by decide) (by decide) dX8_send_17 trivial
def X8_walks_b35 (p11 : Option Nat) (p12 : Int) (p13 : Int) (s14 : Int × zH) : Option ((Int × zH) ⊕ (Int × zH)) :=
  if s14.1 ≤ 0 then
    some (Sum.inr (s14.1, s14.2))
  else
    (zgR s14.2 p11 9 24).bind fun v16 =>
    (zchk (s14.1 - 1)).bind fun v17 =>
    (zaI s14.2 0 v16 v17).bind fun v18 =>
    ((zobj s14.2 p11 9).bind fun _ => X8_isAhead s14.2 p11 p13 v18).bind fun x19 =>
    if x19 = 0 then
      some (Sum.inr (s14.1, s14.2))
    else
      (zgR s14.2 p11 9 24).bind fun v20 =>
      (zgR s14.2 p11 9 24).bind fun v21 =>
      (zchk (s14.1 - 1)).bind fun v22 =>
      (zaI s14.2 0 v21 v22).bind fun v23 =>
      (zsI s14.2 0 v20 s14.1 v23).bind fun h24 =>
      (zchk (s14.1 + (-1))).bind fun v25 =>
      some (Sum.inl (v25, h24))
def X8_walks_b7 (p2 : Option Nat) (p3 : Int) (s4 : Int × zH) : Option ((Int × zH) ⊕ (zH)) :=
  (zgI s4.2 p2 9 14).bind fun v6 =>
  (zchk (2 * v6)).bind fun v7 =>
  if v7 ≤ s4.1 then
    some (Sum.inr (s4.2))
  else
    (zgR s4.2 p2 9 8).bind fun v8 =>
    (zaI s4.2 0 v8 s4.1).bind fun v9 =>
    if v9 = p3 then
      (zgI s4.2 p2 9 25).bind fun v10 =>
      (zloop (X8_walks_b35 p2 p3 s4.1) zN (v10, s4.2)).bind fun e15 =>
      (zgR e15.2 p2 9 24).bind fun v26 =>
      (zsI e15.2 0 v26 e15.1 s4.1).bind fun h27 =>
      (zgI h27 p2 9 25).bind fun v28 =>
      (zchk (v28 + 1)).bind fun v29 =>
      (zpI h27 p2 9 25 v29).bind fun h30 =>
      (zchk (s4.1 + 1)).bind fun v31 =>
      some (Sum.inl (v31, h30))
    else
      (zchk (s4.1 + 1)).bind fun v32 =>
      some (Sum.inl (v32, s4.2))
def X8_walks (hp : zH) (a0 : Option Nat) (a1 : Int) : Option zH :=
  (zpI hp a0 9 25 0).bind fun h1 =>
  (zloop (X8_walks_b7 a0 a1) zN (0, h1)).bind fun e5 =>
  some e5
set_option maxRecDepth 20000 in
theorem c_X8_walks (hp : zH) (a0 : Option Nat) (a1 : Int) : ∀ r, X8_walks hp a0 a1 = some r → zMv yX8_walks (Cond.code yX8_walks cX8_walks 4 none :: zALL) { frames := 1, cells := 0, slots := 0, locals := 22 } 0 0 [zR a0, zI a1] hp r := by
  refine zMv_of (own := RX8) (cc := cX8_walks) (maxL := 4) (hp2 := fun r => r) (by decide) rfl (by exact Nat.le_of_ble_eq_true rfl) ?_
  intro K r0 X hnL hnm9 hret
  have hN : ∀ i, i < 4 → i < K.2.2.2.2.2.2.2.2.2.2.2.2.2.2.1 := by rw [hnL]; exact fun _ h => h
  show zS _ _ (zJ K 0 0 0 [(0, zR a0), (1, zI a1)] [] hp)
  unfold X8_walks
  refine z_aload_n (pc := 0) (i := 0) 0 X dX8_walks_0 rfl rfl ?_
  refine z_iconst (pc := 1) (z := 0) X dX8_walks_1 rfl ⟨by decide, by decide⟩ ?_
  refine z_putI (pc := 2) (C := RX8) (T := TX8) (N := 30) (ci := 9) 25 X dX8_walks_2 inz_X8 tyX8_ok nmX8 rfl (by decide) fw_X8_212 rfl rfl (fun h1 => ?_)
  refine z_iconst (pc := 5) (z := 0) X dX8_walks_5 rfl ⟨by decide, by decide⟩ ?_
  refine z_istore_n (pc := 6) (i := 2) (lv' := [(2, zI 0), (0, zR a0), (1, zI a1)]) X dX8_walks_6 rfl (hN _ (by decide)) rfl ?_
  refine z_pick [1, 2, 0] (lv' := [(0, zR a0), (1, zI a1), (2, zI 0)]) rfl ?_
  refine z_bind (z_loop (body := X8_walks_b7 a0 a1) (fun s4 : Int × zH => zJ K 0 0 7 [(0, zR a0), (1, zI a1), (2, zI s4.1)] [] s4.2) (fun e5 : zH => zJ K 0 0 98 [] [] e5) (fun s4 => ?_) zN (0, h1)) (fun e5 => ?_)
  · unfold X8_walks_b7
    refine z_iload_n (pc := 7) (i := 2) 2 X dX8_walks_7 rfl rfl ?_
    refine z_iconst (pc := 8) (z := 2) X dX8_walks_8 rfl ⟨by decide, by decide⟩ ?_
    refine z_aload_n (pc := 9) (i := 0) 0 X dX8_walks_9 rfl rfl ?_
    refine z_getI (pc := 10) (C := RX8) (T := TX8) (N := 30) (ci := 9) 14 X dX8_walks_10 inz_X8 rfl (by decide) fw_X8_90 (fun v6 => ?_)
    refine z_imul (pc := 13) X dX8_walks_13 (fun v7 _ _ => ?_)
    refine z_icmp_ge (pc := 14) 98 X dX8_walks_14 (by decide) (fun _ => ?_) (fun _ => ?_)
    · refine z_pick [] (lv' := []) rfl ?_
      exact z_exit
    · refine z_aload_n (pc := 17) (i := 0) 0 X dX8_walks_17 rfl rfl ?_
      refine z_getR (pc := 18) (C := RX8) (T := TX8) (N := 30) (ci := 9) 8 X dX8_walks_18 inz_X8 rfl (by decide) fw_X8_34 (fun v8 => ?_)
      refine z_iload_n (pc := 21) (i := 2) 2 X dX8_walks_21 rfl rfl ?_
      refine z_iaload (pc := 22) X dX8_walks_22 (fun v9 => ?_)
      refine z_iload_n (pc := 23) (i := 1) 1 X dX8_walks_23 rfl rfl ?_
      refine z_icmp_eq (pc := 24) 30 X dX8_walks_24 (by decide) (fun _ => ?_) (fun _ => ?_)
      · refine z_aload_n (pc := 30) (i := 0) 0 X dX8_walks_30 rfl rfl ?_
        refine z_getI (pc := 31) (C := RX8) (T := TX8) (N := 30) (ci := 9) 25 X dX8_walks_31 inz_X8 rfl (by decide) fw_X8_212 (fun v10 => ?_)
        refine z_istore_n (pc := 34) (i := 3) (lv' := [(3, zI v10), (0, zR a0), (1, zI a1), (2, zI s4.1)]) X dX8_walks_34 rfl (hN _ (by decide)) rfl ?_
        refine z_pick [1, 2, 3, 0] (lv' := [(0, zR a0), (1, zI a1), (2, zI s4.1), (3, zI v10)]) rfl ?_
        refine z_bind (z_loop (body := X8_walks_b35 a0 a1 s4.1) (fun s14 : Int × zH => zJ K 0 0 35 [(0, zR a0), (1, zI a1), (2, zI s4.1), (3, zI s14.1)] [] s14.2) (fun e15 : Int × zH => zJ K 0 0 75 [(0, zR a0), (1, zI a1), (2, zI s4.1), (3, zI e15.1)] [] e15.2) (fun s14 => ?_) zN (v10, s4.2)) (fun e15 => ?_)
        · unfold X8_walks_b35
          refine z_iload_n (pc := 35) (i := 3) 3 X dX8_walks_35 rfl rfl ?_
          refine z_if_le (pc := 36) 75 X dX8_walks_36 (by decide) (fun _ => ?_) (fun _ => ?_)
          · exact z_exit
          · refine z_aload_n (pc := 39) (i := 0) 0 X dX8_walks_39 rfl rfl ?_
            refine z_iload_n (pc := 40) (i := 2) 2 X dX8_walks_40 rfl rfl ?_
            refine z_aload_n (pc := 41) (i := 0) 0 X dX8_walks_41 rfl rfl ?_
            refine z_getR (pc := 42) (C := RX8) (T := TX8) (N := 30) (ci := 9) 24 X dX8_walks_42 inz_X8 rfl (by decide) fw_X8_76 (fun v16 => ?_)
            refine z_iload_n (pc := 45) (i := 3) 3 X dX8_walks_45 rfl rfl ?_
            refine z_iconst (pc := 46) (z := 1) X dX8_walks_46 rfl ⟨by decide, by decide⟩ ?_
            refine z_isub (pc := 47) X dX8_walks_47 (fun v17 _ _ => ?_)
            refine z_iaload (pc := 48) X dX8_walks_48 (fun v18 => ?_)
            refine z_callV_i (pc := 49) (cells := 0) (slots := 0) (C := RX8) (T := TX8) (N := 30) (ci := 9) [zI s4.1, zI v18] X dX8_walks_49 (c_X8_isAhead s14.2 a0 s4.1 v18) kw_X8_215 rfl rfl ⟨rfl, rfl, ⟨by decide, by decide⟩, ⟨by decide, by decide⟩⟩ (Nat.le_of_ble_eq_true rfl) rfl (fun x19 => ?_)
            refine z_if_eq (pc := 52) 75 X dX8_walks_52 (by decide) (fun _ => ?_) (fun _ => ?_)
            · exact z_exit
            · refine z_aload_n (pc := 55) (i := 0) 0 X dX8_walks_55 rfl rfl ?_
              refine z_getR (pc := 56) (C := RX8) (T := TX8) (N := 30) (ci := 9) 24 X dX8_walks_56 inz_X8 rfl (by decide) fw_X8_76 (fun v20 => ?_)
              refine z_iload_n (pc := 59) (i := 3) 3 X dX8_walks_59 rfl rfl ?_
              refine z_aload_n (pc := 60) (i := 0) 0 X dX8_walks_60 rfl rfl ?_
              refine z_getR (pc := 61) (C := RX8) (T := TX8) (N := 30) (ci := 9) 24 X dX8_walks_61 inz_X8 rfl (by decide) fw_X8_76 (fun v21 => ?_)
              refine z_iload_n (pc := 64) (i := 3) 3 X dX8_walks_64 rfl rfl ?_
              refine z_iconst (pc := 65) (z := 1) X dX8_walks_65 rfl ⟨by decide, by decide⟩ ?_
              refine z_isub (pc := 66) X dX8_walks_66 (fun v22 _ _ => ?_)
              refine z_iaload (pc := 67) X dX8_walks_67 (fun v23 => ?_)
              refine z_iastore (pc := 68) X dX8_walks_68 (fun h24 => ?_)
              refine z_iinc (pc := 69) (i := 3) (n := -1) (lv' := fun v25 => [(3, zI v25), (0, zR a0), (1, zI a1), (2, zI s4.1)]) 3 X dX8_walks_69 rfl (hN _ (by decide)) (fun _ => rfl) (fun v25 _ _ => ?_)
              refine z_goto (pc := 72) 35 X dX8_walks_72 (by decide) ?_
              refine z_pick [1, 2, 3, 0] (lv' := [(0, zR a0), (1, zI a1), (2, zI s4.1), (3, zI v25)]) rfl ?_
              exact z_back
        · refine z_aload_n (pc := 75) (i := 0) 0 X dX8_walks_75 rfl rfl ?_
          refine z_getR (pc := 76) (C := RX8) (T := TX8) (N := 30) (ci := 9) 24 X dX8_walks_76 inz_X8 rfl (by decide) fw_X8_76 (fun v26 => ?_)
          refine z_iload_n (pc := 79) (i := 3) 3 X dX8_walks_79 rfl rfl ?_
          refine z_iload_n (pc := 80) (i := 2) 2 X dX8_walks_80 rfl rfl ?_
          refine z_iastore (pc := 81) X dX8_walks_81 (fun h27 => ?_)
          refine z_aload_n (pc := 82) (i := 0) 0 X dX8_walks_82 rfl rfl ?_
          refine z_dup (pc := 83) X dX8_walks_83 rfl ?_
          refine z_getI (pc := 84) (C := RX8) (T := TX8) (N := 30) (ci := 9) 25 X dX8_walks_84 inz_X8 rfl (by decide) fw_X8_212 (fun v28 => ?_)
          refine z_iconst (pc := 87) (z := 1) X dX8_walks_87 rfl ⟨by decide, by decide⟩ ?_
          refine z_iadd (pc := 88) X dX8_walks_88 (fun v29 _ _ => ?_)
          refine z_putI (pc := 89) (C := RX8) (T := TX8) (N := 30) (ci := 9) 25 X dX8_walks_89 inz_X8 tyX8_ok nmX8 rfl (by decide) fw_X8_212 rfl rfl (fun h30 => ?_)
          refine z_iinc (pc := 92) (i := 2) (n := 1) (lv' := fun v31 => [(2, zI v31), (0, zR a0), (1, zI a1), (3, zI e15.1)]) 2 X dX8_walks_92 rfl (hN _ (by decide)) (fun _ => rfl) (fun v31 _ _ => ?_)
          refine z_goto (pc := 95) 7 X dX8_walks_95 (by decide) ?_
          refine z_pick [1, 2, 0] (lv' := [(0, zR a0), (1, zI a1), (2, zI v31)]) rfl ?_
          exact z_back
      · refine z_goto (pc := 27) 92 X dX8_walks_27 (by decide) ?_
        refine z_iinc (pc := 92) (i := 2) (n := 1) (lv' := fun v32 => [(2, zI v32), (0, zR a0), (1, zI a1)]) 2 X dX8_walks_92 rfl (hN _ (by decide)) (fun _ => rfl) (fun v32 _ _ => ?_)
        refine z_goto (pc := 95) 7 X dX8_walks_95 (by decide) ?_
        refine z_pick [1, 2, 0] (lv' := [(0, zR a0), (1, zI a1), (2, zI v32)]) rfl ?_
        exact z_back
  · refine z_fin (fun e9 => ?_)
    subst e9
    exact hret _ _ _ _ (by decide) (by decide) dX8_walks_98
def X8_steps_j73 (p4 : Option Nat) (h6 : zH) (s5 : Int × Int) (j19 : Int) : Option ((Int × Int) ⊕ (Int)) :=
  (zchk (s5.1 + j19)).bind fun v20 =>
  (zgR h6 p4 9 10).bind fun v21 =>
  (zgR h6 p4 9 24).bind fun v22 =>
  (zaI h6 0 v22 s5.2).bind fun v23 =>
  (zaI h6 3 v21 v23).bind fun v24 =>
  (zgR h6 p4 9 10).bind fun v25 =>
  (zgR h6 p4 9 24).bind fun v26 =>
  (zchk (s5.2 - 1)).bind fun v27 =>
  (zaI h6 0 v26 v27).bind fun v28 =>
  (zaI h6 3 v25 v28).bind fun v29 =>
  if v24 = v29 then
    (zchk (v20 + 0)).bind fun v30 =>
    (zchk (s5.2 + 1)).bind fun v31 =>
    some (Sum.inl (v30, v31))
  else
    (zchk (v20 + 5)).bind fun v32 =>
    (zchk (s5.2 + 1)).bind fun v33 =>
    some (Sum.inl (v32, v33))
def X8_steps_b24 (p4 : Option Nat) (h6 : zH) (s5 : Int × Int) : Option ((Int × Int) ⊕ (Int)) :=
  (zgI h6 p4 9 25).bind fun v8 =>
  if v8 ≤ s5.2 then
    some (Sum.inr (s5.1))
  else
    (zgR h6 p4 9 9).bind fun v9 =>
    (zgR h6 p4 9 24).bind fun v10 =>
    (zaI h6 0 v10 s5.2).bind fun v11 =>
    (zaI h6 0 v9 v11).bind fun v12 =>
    (zgR h6 p4 9 9).bind fun v13 =>
    (zgR h6 p4 9 24).bind fun v14 =>
    (zchk (s5.2 - 1)).bind fun v15 =>
    (zaI h6 0 v14 v15).bind fun v16 =>
    (zaI h6 0 v13 v16).bind fun v17 =>
    (zchk (v12 - v17)).bind fun v18 =>
    if 0 ≤ v18 then
      X8_steps_j73 p4 h6 s5 v18
    else
      (zchk (-v18)).bind fun v34 =>
      X8_steps_j73 p4 h6 s5 v34
def X8_steps (hp : zH) (a0 : Option Nat) (a1 : Int) : Option (Int × zH) :=
  ((zobj hp a0 9).bind fun _ => X8_isStreet hp a0 a1).bind fun x1 =>
  ((zobj hp a0 9).bind fun _ => X8_no hp a0 x1 1).bind fun x2 =>
  if x2.1 = 0 then
    ((zobj x2.2 a0 9).bind fun _ => X8_walks x2.2 a0 a1).bind fun x3 =>
    (zloop (X8_steps_b24 a0 x3) zN (0, 1)).bind fun e7 =>
    some (e7, x3)
  else
    some (0, x2.2)
set_option maxRecDepth 20000 in
theorem c_X8_steps (hp : zH) (a0 : Option Nat) (a1 : Int) : ∀ r, X8_steps hp a0 a1 = some r → zMi yX8_steps (Cond.code yX8_steps cX8_steps 5 (some .int) :: zALL) { frames := 2, cells := 0, slots := 0, locals := 45 } 0 0 [zR a0, zI a1] hp r.1 r.2 := by
  refine zMi_of (own := RX8) (cc := cX8_steps) (maxL := 5) (ε := (Int × zH)) (res := fun r => r.1) (hp2 := fun r => r.2) (by decide) rfl (Or.inl rfl) (by exact Nat.le_of_ble_eq_true rfl) ?_
  intro K r0 X hnL hret
  have hN : ∀ i, i < 5 → i < K.2.2.2.2.2.2.2.2.2.2.2.2.2.2.1 := by rw [hnL]; exact fun _ h => h
  show zS _ _ (zJ K 0 0 0 [(0, zR a0), (1, zI a1)] [] hp)
  unfold X8_steps
  refine z_aload_n (pc := 0) (i := 0) 0 X dX8_steps_0 rfl rfl ?_
  refine z_aload_n (pc := 1) (i := 0) 0 X dX8_steps_1 rfl rfl ?_
  refine z_iload_n (pc := 2) (i := 1) 1 X dX8_steps_2 rfl rfl ?_
  refine z_callV_i (pc := 3) (cells := 0) (slots := 0) (C := RX8) (T := TX8) (N := 30) (ci := 9) [zI a1] X dX8_steps_3 (c_X8_isStreet hp a0 a1) kw_X8_132 rfl rfl ⟨rfl, rfl, ⟨by decide, by decide⟩, ⟨by decide, by decide⟩⟩ (Nat.le_of_ble_eq_true rfl) rfl (fun x1 => ?_)
  refine z_iconst (pc := 6) (z := 1) X dX8_steps_6 rfl ⟨by decide, by decide⟩ ?_
  refine z_callV_i (pc := 7) (cells := 0) (slots := 0) (C := RX8) (T := TX8) (N := 30) (ci := 9) [zI x1, zI 1] X dX8_steps_7 (c_X8_no hp a0 x1 1) kw_X8_93 rfl rfl ⟨rfl, rfl, ⟨by decide, by decide⟩, ⟨by decide, by decide⟩⟩ (Nat.le_of_ble_eq_true rfl) rfl (fun x2 => ?_)
  refine z_if_eq (pc := 10) 15 X dX8_steps_10 (by decide) (fun _ => ?_) (fun _ => ?_)
  · refine z_aload_n (pc := 15) (i := 0) 0 X dX8_steps_15 rfl rfl ?_
    refine z_iload_n (pc := 16) (i := 1) 1 X dX8_steps_16 rfl rfl ?_
    refine z_callV_v (pc := 17) (cells := 0) (slots := 0) (C := RX8) (T := TX8) (N := 30) (ci := 9) [zI a1] X dX8_steps_17 (c_X8_walks x2.2 a0 a1) kw_X8_218 rfl rfl ⟨rfl, rfl, ⟨by decide, by decide⟩, ⟨by decide, by decide⟩⟩ (Nat.le_of_ble_eq_true rfl) rfl (fun x3 => ?_)
    refine z_iconst (pc := 20) (z := 0) X dX8_steps_20 rfl ⟨by decide, by decide⟩ ?_
    refine z_istore_n (pc := 21) (i := 2) (lv' := [(2, zI 0), (0, zR a0), (1, zI a1)]) X dX8_steps_21 rfl (hN _ (by decide)) rfl ?_
    refine z_iconst (pc := 22) (z := 1) X dX8_steps_22 rfl ⟨by decide, by decide⟩ ?_
    refine z_istore_n (pc := 23) (i := 3) (lv' := [(3, zI 1), (2, zI 0), (0, zR a0), (1, zI a1)]) X dX8_steps_23 rfl (hN _ (by decide)) rfl ?_
    refine z_pick [2, 1, 0] (lv' := [(0, zR a0), (2, zI 0), (3, zI 1)]) rfl ?_
    refine z_bind (z_loop (body := X8_steps_b24 a0 x3) (fun s5 : Int × Int => zJ K 0 0 24 [(0, zR a0), (2, zI s5.1), (3, zI s5.2)] [] x3) (fun e7 : Int => zJ K 0 0 116 [(2, zI e7)] [] x3) (fun s5 => ?_) zN (0, 1)) (fun e7 => ?_)
    · unfold X8_steps_b24
      refine z_iload_n (pc := 24) (i := 3) 2 X dX8_steps_24 rfl rfl ?_
      refine z_aload_n (pc := 25) (i := 0) 0 X dX8_steps_25 rfl rfl ?_
      refine z_getI (pc := 26) (C := RX8) (T := TX8) (N := 30) (ci := 9) 25 X dX8_steps_26 inz_X8 rfl (by decide) fw_X8_212 (fun v8 => ?_)
      refine z_icmp_ge (pc := 29) 116 X dX8_steps_29 (by decide) (fun _ => ?_) (fun _ => ?_)
      · refine z_pick [1] (lv' := [(2, zI s5.1)]) rfl ?_
        exact z_exit
      · refine z_aload_n (pc := 32) (i := 0) 0 X dX8_steps_32 rfl rfl ?_
        refine z_getR (pc := 33) (C := RX8) (T := TX8) (N := 30) (ci := 9) 9 X dX8_steps_33 inz_X8 rfl (by decide) fw_X8_37 (fun v9 => ?_)
        refine z_aload_n (pc := 36) (i := 0) 0 X dX8_steps_36 rfl rfl ?_
        refine z_getR (pc := 37) (C := RX8) (T := TX8) (N := 30) (ci := 9) 24 X dX8_steps_37 inz_X8 rfl (by decide) fw_X8_76 (fun v10 => ?_)
        refine z_iload_n (pc := 40) (i := 3) 2 X dX8_steps_40 rfl rfl ?_
        refine z_iaload (pc := 41) X dX8_steps_41 (fun v11 => ?_)
        refine z_iaload (pc := 42) X dX8_steps_42 (fun v12 => ?_)
        refine z_aload_n (pc := 43) (i := 0) 0 X dX8_steps_43 rfl rfl ?_
        refine z_getR (pc := 44) (C := RX8) (T := TX8) (N := 30) (ci := 9) 9 X dX8_steps_44 inz_X8 rfl (by decide) fw_X8_37 (fun v13 => ?_)
        refine z_aload_n (pc := 47) (i := 0) 0 X dX8_steps_47 rfl rfl ?_
        refine z_getR (pc := 48) (C := RX8) (T := TX8) (N := 30) (ci := 9) 24 X dX8_steps_48 inz_X8 rfl (by decide) fw_X8_76 (fun v14 => ?_)
        refine z_iload_n (pc := 51) (i := 3) 2 X dX8_steps_51 rfl rfl ?_
        refine z_iconst (pc := 52) (z := 1) X dX8_steps_52 rfl ⟨by decide, by decide⟩ ?_
        refine z_isub (pc := 53) X dX8_steps_53 (fun v15 _ _ => ?_)
        refine z_iaload (pc := 54) X dX8_steps_54 (fun v16 => ?_)
        refine z_iaload (pc := 55) X dX8_steps_55 (fun v17 => ?_)
        refine z_isub (pc := 56) X dX8_steps_56 (fun v18 _ _ => ?_)
        refine z_istore (pc := 57) (i := 4) (lv' := [(4, zI v18), (0, zR a0), (2, zI s5.1), (3, zI s5.2)]) X dX8_steps_57 (hN _ (by decide)) rfl ?_
        refine z_iload_n (pc := 59) (i := 2) 2 X dX8_steps_59 rfl rfl ?_
        refine z_iload (pc := 60) (i := 4) 0 X dX8_steps_60 rfl ?_
        have hJ73 : ∀ (j19 : Int), zS (X8_steps_j73 a0 x3 s5 j19) (zLG (fun s5 : Int × Int => zJ K 0 0 24 [(0, zR a0), (2, zI s5.1), (3, zI s5.2)] [] x3) (fun e7 : Int => zJ K 0 0 116 [(2, zI e7)] [] x3)) (zJ K 0 0 73 [(0, zR a0), (3, zI s5.2)] [zI j19, zI s5.1] x3) := by
          intro j19
          unfold X8_steps_j73
          refine z_iadd (pc := 73) X dX8_steps_73 (fun v20 _ _ => ?_)
          refine z_istore_n (pc := 74) (i := 2) (lv' := [(2, zI v20), (0, zR a0), (3, zI s5.2)]) X dX8_steps_74 rfl (hN _ (by decide)) rfl ?_
          refine z_iload_n (pc := 75) (i := 2) 0 X dX8_steps_75 rfl rfl ?_
          refine z_aload_n (pc := 76) (i := 0) 1 X dX8_steps_76 rfl rfl ?_
          refine z_getR (pc := 77) (C := RX8) (T := TX8) (N := 30) (ci := 9) 10 X dX8_steps_77 inz_X8 rfl (by decide) fw_X8_40 (fun v21 => ?_)
          refine z_aload_n (pc := 80) (i := 0) 1 X dX8_steps_80 rfl rfl ?_
          refine z_getR (pc := 81) (C := RX8) (T := TX8) (N := 30) (ci := 9) 24 X dX8_steps_81 inz_X8 rfl (by decide) fw_X8_76 (fun v22 => ?_)
          refine z_iload_n (pc := 84) (i := 3) 2 X dX8_steps_84 rfl rfl ?_
          refine z_iaload (pc := 85) X dX8_steps_85 (fun v23 => ?_)
          refine z_caload (pc := 86) X dX8_steps_86 (fun v24 => ?_)
          refine z_aload_n (pc := 87) (i := 0) 1 X dX8_steps_87 rfl rfl ?_
          refine z_getR (pc := 88) (C := RX8) (T := TX8) (N := 30) (ci := 9) 10 X dX8_steps_88 inz_X8 rfl (by decide) fw_X8_40 (fun v25 => ?_)
          refine z_aload_n (pc := 91) (i := 0) 1 X dX8_steps_91 rfl rfl ?_
          refine z_getR (pc := 92) (C := RX8) (T := TX8) (N := 30) (ci := 9) 24 X dX8_steps_92 inz_X8 rfl (by decide) fw_X8_76 (fun v26 => ?_)
          refine z_iload_n (pc := 95) (i := 3) 2 X dX8_steps_95 rfl rfl ?_
          refine z_iconst (pc := 96) (z := 1) X dX8_steps_96 rfl ⟨by decide, by decide⟩ ?_
          refine z_isub (pc := 97) X dX8_steps_97 (fun v27 _ _ => ?_)
          refine z_iaload (pc := 98) X dX8_steps_98 (fun v28 => ?_)
          refine z_caload (pc := 99) X dX8_steps_99 (fun v29 => ?_)
          refine z_icmp_eq (pc := 100) 107 X dX8_steps_100 (by decide) (fun _ => ?_) (fun _ => ?_)
          · refine z_iconst (pc := 107) (z := 0) X dX8_steps_107 rfl ⟨by decide, by decide⟩ ?_
            refine z_iadd (pc := 108) X dX8_steps_108 (fun v30 _ _ => ?_)
            refine z_istore_n (pc := 109) (i := 2) (lv' := [(2, zI v30), (0, zR a0), (3, zI s5.2)]) X dX8_steps_109 rfl (hN _ (by decide)) rfl ?_
            refine z_iinc (pc := 110) (i := 3) (n := 1) (lv' := fun v31 => [(3, zI v31), (2, zI v30), (0, zR a0)]) 2 X dX8_steps_110 rfl (hN _ (by decide)) (fun _ => rfl) (fun v31 _ _ => ?_)
            refine z_goto (pc := 113) 24 X dX8_steps_113 (by decide) ?_
            refine z_pick [2, 1, 0] (lv' := [(0, zR a0), (2, zI v30), (3, zI v31)]) rfl ?_
            exact z_back
          · refine z_iconst (pc := 103) (z := 5) X dX8_steps_103 rfl ⟨by decide, by decide⟩ ?_
            refine z_goto (pc := 104) 108 X dX8_steps_104 (by decide) ?_
            refine z_iadd (pc := 108) X dX8_steps_108 (fun v32 _ _ => ?_)
            refine z_istore_n (pc := 109) (i := 2) (lv' := [(2, zI v32), (0, zR a0), (3, zI s5.2)]) X dX8_steps_109 rfl (hN _ (by decide)) rfl ?_
            refine z_iinc (pc := 110) (i := 3) (n := 1) (lv' := fun v33 => [(3, zI v33), (2, zI v32), (0, zR a0)]) 2 X dX8_steps_110 rfl (hN _ (by decide)) (fun _ => rfl) (fun v33 _ _ => ?_)
            refine z_goto (pc := 113) 24 X dX8_steps_113 (by decide) ?_
            refine z_pick [2, 1, 0] (lv' := [(0, zR a0), (2, zI v32), (3, zI v33)]) rfl ?_
            exact z_back
        refine z_if_ge (pc := 62) 71 X dX8_steps_62 (by decide) (fun _ => ?_) (fun _ => ?_)
        · refine z_iload (pc := 71) (i := 4) 0 X dX8_steps_71 rfl ?_
          refine z_pick [1, 3] (lv' := [(0, zR a0), (3, zI s5.2)]) rfl ?_
          exact hJ73 v18
        · refine z_iload (pc := 65) (i := 4) 0 X dX8_steps_65 rfl ?_
          refine z_ineg (pc := 67) X dX8_steps_67 (fun v34 _ _ => ?_)
          refine z_goto (pc := 68) 73 X dX8_steps_68 (by decide) ?_
          refine z_pick [1, 3] (lv' := [(0, zR a0), (3, zI s5.2)]) rfl ?_
          exact hJ73 v34
    · refine z_iload_n (pc := 116) (i := 2) 0 X dX8_steps_116 rfl rfl ?_
      refine z_fin (fun e9 => ?_)
      subst e9
      exact hret _ _ _ _ (by decide) (by decide) dX8_steps_117 trivial
  · refine z_iconst (pc := 13) (z := 0) X dX8_steps_13 rfl ⟨by decide, by decide⟩ ?_
    refine z_fin (fun e9 => ?_)
    subst e9
    exact hret _ _ _ _ (by decide) (by decide) dX8_steps_14 trivial
def X8_street_j78 (a0 : Option Nat) (a1 : Int) (a2 : Int) (a3 : Int) (x6 : (Int × zH)) (j8 : Int) : Option (Int × zH) :=
  ((zobj x6.2 a0 9).bind fun _ => X8_no x6.2 a0 j8 3).bind fun x9 =>
  if x9.1 = 0 then
    (zgR x9.2 a0 9 0).bind fun v10 =>
    (zgI x9.2 a0 9 7).bind fun v11 =>
    (zgJ x9.2 a0 9 26).bind fun v12 =>
    (zsJ x9.2 v10 v11 v12).bind fun h13 =>
    (zgR h13 a0 9 2).bind fun v14 =>
    (zgI h13 a0 9 7).bind fun v15 =>
    (zsI h13 0 v14 v15 a1).bind fun h16 =>
    (zgR h16 a0 9 3).bind fun v17 =>
    (zgI h16 a0 9 7).bind fun v18 =>
    (zsI h16 3 v17 v18 a2).bind fun h19 =>
    (zgR h19 a0 9 4).bind fun v20 =>
    (zgI h19 a0 9 7).bind fun v21 =>
    (zsI h19 2 v20 v21 a3).bind fun h22 =>
    (zgI h22 a0 9 7).bind fun v23 =>
    (zchk (v23 + 1)).bind fun v24 =>
    (zpI h22 a0 9 7 v24).bind fun h25 =>
    ((zobj h25 a0 9).bind fun _ => X8_wipe h25 a0).bind fun x26 =>
    (zgI x26.2 a0 9 7).bind fun v27 =>
    (zchk (v27 - 1)).bind fun v28 =>
    some (v28, x26.2)
  else
    some (0, x9.2)
def X8_street_j56 (a0 : Option Nat) (a1 : Int) (a2 : Int) (a3 : Int) (x3 : (Int × zH)) (j5 : Int) : Option (Int × zH) :=
  ((zobj x3.2 a0 9).bind fun _ => X8_no x3.2 a0 j5 2).bind fun x6 =>
  if x6.1 = 0 then
    (zgI x6.2 a0 9 7).bind fun v7 =>
    if 12 ≤ v7 then
      X8_street_j78 a0 a1 a2 a3 x6 0
    else
      X8_street_j78 a0 a1 a2 a3 x6 1
  else
    some (0, x6.2)
def X8_street_j55 (a0 : Option Nat) (a1 : Int) (a2 : Int) (a3 : Int) (x3 : (Int × zH)) : Option (Int × zH) :=
  X8_street_j56 a0 a1 a2 a3 x3 0
def X8_street_j25 (hp : zH) (a0 : Option Nat) (a1 : Int) (a2 : Int) (a3 : Int) (j2 : Int) : Option (Int × zH) :=
  ((zobj hp a0 9).bind fun _ => X8_no hp a0 j2 1).bind fun x3 =>
  if x3.1 = 0 then
    (zgI x3.2 a0 9 27).bind fun v4 =>
    if v4 ≤ 0 then
      X8_street_j55 a0 a1 a2 a3 x3
    else
      (zgJ x3.2 a0 9 26).bind fun v29 =>
      ((zobj x3.2 a0 9).bind fun _ => X8_isUsed x3.2 a0 v29).bind fun x30 =>
      if x30 = 0 then
        X8_street_j56 a0 a1 a2 a3 x3 1
      else
        X8_street_j55 a0 a1 a2 a3 x3
  else
    some (0, x3.2)
def X8_street_j24 (hp : zH) (a0 : Option Nat) (a1 : Int) (a2 : Int) (a3 : Int) : Option (Int × zH) :=
  X8_street_j25 hp a0 a1 a2 a3 0
def X8_street (hp : zH) (a0 : Option Nat) (a1 : Int) (a2 : Int) (a3 : Int) : Option (Int × zH) :=
  (X8_isWay hp a2).bind fun x1 =>
  if x1 = 0 then
    X8_street_j24 hp a0 a1 a2 a3
  else
    (X8_isBetween hp a1 10 999).bind fun x31 =>
    if x31 = 0 then
      X8_street_j24 hp a0 a1 a2 a3
    else
      X8_street_j25 hp a0 a1 a2 a3 1
set_option maxRecDepth 20000 in
theorem c_X8_street (hp : zH) (a0 : Option Nat) (a1 : Int) (a2 : Int) (a3 : Int) : ∀ r, X8_street hp a0 a1 a2 a3 = some r → zMi yX8_street (Cond.code yX8_street cX8_street 4 (some .int) :: zALL) { frames := 1, cells := 0, slots := 0, locals := 24 } 0 0 [zR a0, zI a1, zI a2, zI a3] hp r.1 r.2 := by
  refine zMi_of (own := RX8) (cc := cX8_street) (maxL := 4) (ε := (Int × zH)) (res := fun r => r.1) (hp2 := fun r => r.2) (by decide) rfl (Or.inl rfl) (by exact Nat.le_of_ble_eq_true rfl) ?_
  intro K r0 X hnL hret
  have hN : ∀ i, i < 4 → i < K.2.2.2.2.2.2.2.2.2.2.2.2.2.2.1 := by rw [hnL]; exact fun _ h => h
  show zS _ _ (zJ K 0 0 0 [(0, zR a0), (1, zI a1), (2, zI a2), (3, zI a3)] [] hp)
  unfold X8_street
  refine z_aload_n (pc := 0) (i := 0) 0 X dX8_street_0 rfl rfl ?_
  refine z_iload_n (pc := 1) (i := 2) 2 X dX8_street_1 rfl rfl ?_
  refine z_callS_i (pc := 2) (cells := 0) (slots := 0) [zI a2] X dX8_street_2 (c_X8_isWay hp a2) kw_X8_106 rfl ⟨rfl, rfl, ⟨by decide, by decide⟩, ⟨by decide, by decide⟩⟩ (Nat.le_of_ble_eq_true rfl) rfl (fun x1 => ?_)
  have hJ25 : ∀ (j2 : Int), zS (X8_street_j25 hp a0 a1 a2 a3 j2) (fun r => r = r0) (zJ K 0 0 25 [(0, zR a0), (1, zI a1), (2, zI a2), (3, zI a3)] [zI j2, zR a0] hp) := by
    intro j2
    unfold X8_street_j25
    refine z_iconst (pc := 25) (z := 1) X dX8_street_25 rfl ⟨by decide, by decide⟩ ?_
    refine z_callV_i (pc := 26) (cells := 0) (slots := 0) (C := RX8) (T := TX8) (N := 30) (ci := 9) [zI j2, zI 1] X dX8_street_26 (c_X8_no hp a0 j2 1) kw_X8_93 rfl rfl ⟨rfl, rfl, ⟨by decide, by decide⟩, ⟨by decide, by decide⟩⟩ (Nat.le_of_ble_eq_true rfl) rfl (fun x3 => ?_)
    refine z_if_ne (pc := 29) 85 X dX8_street_29 (by decide) (fun _ => ?_) (fun _ => ?_)
    · refine z_iconst (pc := 85) (z := 0) X dX8_street_85 rfl ⟨by decide, by decide⟩ ?_
      refine z_fin (fun e9 => ?_)
      subst e9
      exact hret _ _ _ _ (by decide) (by decide) dX8_street_86 trivial
    · refine z_aload_n (pc := 32) (i := 0) 0 X dX8_street_32 rfl rfl ?_
      refine z_aload_n (pc := 33) (i := 0) 0 X dX8_street_33 rfl rfl ?_
      refine z_getI (pc := 34) (C := RX8) (T := TX8) (N := 30) (ci := 9) 27 X dX8_street_34 inz_X8 rfl (by decide) fw_X8_97 (fun v4 => ?_)
      have hJ56 : ∀ (j5 : Int), zS (X8_street_j56 a0 a1 a2 a3 x3 j5) (fun r => r = r0) (zJ K 0 0 56 [(0, zR a0), (1, zI a1), (2, zI a2), (3, zI a3)] [zI j5, zR a0] x3.2) := by
        intro j5
        unfold X8_street_j56
        refine z_iconst (pc := 56) (z := 2) X dX8_street_56 rfl ⟨by decide, by decide⟩ ?_
        refine z_callV_i (pc := 57) (cells := 0) (slots := 0) (C := RX8) (T := TX8) (N := 30) (ci := 9) [zI j5, zI 2] X dX8_street_57 (c_X8_no x3.2 a0 j5 2) kw_X8_93 rfl rfl ⟨rfl, rfl, ⟨by decide, by decide⟩, ⟨by decide, by decide⟩⟩ (Nat.le_of_ble_eq_true rfl) rfl (fun x6 => ?_)
        refine z_if_ne (pc := 60) 85 X dX8_street_60 (by decide) (fun _ => ?_) (fun _ => ?_)
        · refine z_iconst (pc := 85) (z := 0) X dX8_street_85 rfl ⟨by decide, by decide⟩ ?_
          refine z_fin (fun e9 => ?_)
          subst e9
          exact hret _ _ _ _ (by decide) (by decide) dX8_street_86 trivial
        · refine z_aload_n (pc := 63) (i := 0) 0 X dX8_street_63 rfl rfl ?_
          refine z_aload_n (pc := 64) (i := 0) 0 X dX8_street_64 rfl rfl ?_
          refine z_getI (pc := 65) (C := RX8) (T := TX8) (N := 30) (ci := 9) 7 X dX8_street_65 inz_X8 rfl (by decide) fw_X8_83 (fun v7 => ?_)
          refine z_bipush (pc := 68) (z := 12) X dX8_street_68 rfl ⟨by decide, by decide⟩ ?_
          have hJ78 : ∀ (j8 : Int), zS (X8_street_j78 a0 a1 a2 a3 x6 j8) (fun r => r = r0) (zJ K 0 0 78 [(0, zR a0), (1, zI a1), (2, zI a2), (3, zI a3)] [zI j8, zR a0] x6.2) := by
            intro j8
            unfold X8_street_j78
            refine z_iconst (pc := 78) (z := 3) X dX8_street_78 rfl ⟨by decide, by decide⟩ ?_
            refine z_callV_i (pc := 79) (cells := 0) (slots := 0) (C := RX8) (T := TX8) (N := 30) (ci := 9) [zI j8, zI 3] X dX8_street_79 (c_X8_no x6.2 a0 j8 3) kw_X8_93 rfl rfl ⟨rfl, rfl, ⟨by decide, by decide⟩, ⟨by decide, by decide⟩⟩ (Nat.le_of_ble_eq_true rfl) rfl (fun x9 => ?_)
            refine z_if_eq (pc := 82) 87 X dX8_street_82 (by decide) (fun _ => ?_) (fun _ => ?_)
            · refine z_aload_n (pc := 87) (i := 0) 0 X dX8_street_87 rfl rfl ?_
              refine z_getR (pc := 88) (C := RX8) (T := TX8) (N := 30) (ci := 9) 0 X dX8_street_88 inz_X8 rfl (by decide) fw_X8_7 (fun v10 => ?_)
              refine z_aload_n (pc := 91) (i := 0) 0 X dX8_street_91 rfl rfl ?_
              refine z_getI (pc := 92) (C := RX8) (T := TX8) (N := 30) (ci := 9) 7 X dX8_street_92 inz_X8 rfl (by decide) fw_X8_83 (fun v11 => ?_)
              refine z_aload_n (pc := 95) (i := 0) 0 X dX8_street_95 rfl rfl ?_
              refine z_getJ (pc := 96) (C := RX8) (T := TX8) (N := 30) (ci := 9) 26 X dX8_street_96 inz_X8 rfl (by decide) fw_X8_102 (fun v12 => ?_)
              refine z_lastore (pc := 99) X dX8_street_99 (fun h13 => ?_)
              refine z_aload_n (pc := 100) (i := 0) 0 X dX8_street_100 rfl rfl ?_
              refine z_getR (pc := 101) (C := RX8) (T := TX8) (N := 30) (ci := 9) 2 X dX8_street_101 inz_X8 rfl (by decide) fw_X8_16 (fun v14 => ?_)
              refine z_aload_n (pc := 104) (i := 0) 0 X dX8_street_104 rfl rfl ?_
              refine z_getI (pc := 105) (C := RX8) (T := TX8) (N := 30) (ci := 9) 7 X dX8_street_105 inz_X8 rfl (by decide) fw_X8_83 (fun v15 => ?_)
              refine z_iload_n (pc := 108) (i := 1) 1 X dX8_street_108 rfl rfl ?_
              refine z_iastore (pc := 109) X dX8_street_109 (fun h16 => ?_)
              refine z_aload_n (pc := 110) (i := 0) 0 X dX8_street_110 rfl rfl ?_
              refine z_getR (pc := 111) (C := RX8) (T := TX8) (N := 30) (ci := 9) 3 X dX8_street_111 inz_X8 rfl (by decide) fw_X8_20 (fun v17 => ?_)
              refine z_aload_n (pc := 114) (i := 0) 0 X dX8_street_114 rfl rfl ?_
              refine z_getI (pc := 115) (C := RX8) (T := TX8) (N := 30) (ci := 9) 7 X dX8_street_115 inz_X8 rfl (by decide) fw_X8_83 (fun v18 => ?_)
              refine z_iload_n (pc := 118) (i := 2) 2 X dX8_street_118 rfl rfl ?_
              refine z_castore (pc := 119) X dX8_street_119 (fun h19 => ?_)
              refine z_aload_n (pc := 120) (i := 0) 0 X dX8_street_120 rfl rfl ?_
              refine z_getR (pc := 121) (C := RX8) (T := TX8) (N := 30) (ci := 9) 4 X dX8_street_121 inz_X8 rfl (by decide) fw_X8_24 (fun v20 => ?_)
              refine z_aload_n (pc := 124) (i := 0) 0 X dX8_street_124 rfl rfl ?_
              refine z_getI (pc := 125) (C := RX8) (T := TX8) (N := 30) (ci := 9) 7 X dX8_street_125 inz_X8 rfl (by decide) fw_X8_83 (fun v21 => ?_)
              refine z_iload_n (pc := 128) (i := 3) 3 X dX8_street_128 rfl rfl ?_
              refine z_zastore (pc := 129) X dX8_street_129 (fun h22 => ?_)
              refine z_aload_n (pc := 130) (i := 0) 0 X dX8_street_130 rfl rfl ?_
              refine z_dup (pc := 131) X dX8_street_131 rfl ?_
              refine z_getI (pc := 132) (C := RX8) (T := TX8) (N := 30) (ci := 9) 7 X dX8_street_132 inz_X8 rfl (by decide) fw_X8_83 (fun v23 => ?_)
              refine z_iconst (pc := 135) (z := 1) X dX8_street_135 rfl ⟨by decide, by decide⟩ ?_
              refine z_iadd (pc := 136) X dX8_street_136 (fun v24 _ _ => ?_)
              refine z_putI (pc := 137) (C := RX8) (T := TX8) (N := 30) (ci := 9) 7 X dX8_street_137 inz_X8 tyX8_ok nmX8 rfl (by decide) fw_X8_83 rfl rfl (fun h25 => ?_)
              refine z_aload_n (pc := 140) (i := 0) 0 X dX8_street_140 rfl rfl ?_
              refine z_callV_i (pc := 141) (cells := 0) (slots := 0) (C := RX8) (T := TX8) (N := 30) (ci := 9) [] X dX8_street_141 (c_X8_wipe h25 a0) kw_X8_114 rfl rfl ⟨rfl, rfl, ⟨by decide, by decide⟩, ⟨by decide, by decide⟩⟩ (Nat.le_of_ble_eq_true rfl) rfl (fun x26 => ?_)
              refine z_pop (pc := 144) X dX8_street_144 rfl ?_
              refine z_aload_n (pc := 145) (i := 0) 0 X dX8_street_145 rfl rfl ?_
              refine z_getI (pc := 146) (C := RX8) (T := TX8) (N := 30) (ci := 9) 7 X dX8_street_146 inz_X8 rfl (by decide) fw_X8_83 (fun v27 => ?_)
              refine z_iconst (pc := 149) (z := 1) X dX8_street_149 rfl ⟨by decide, by decide⟩ ?_
              refine z_isub (pc := 150) X dX8_street_150 (fun v28 _ _ => ?_)
              refine z_fin (fun e9 => ?_)
              subst e9
              exact hret _ _ _ _ (by decide) (by decide) dX8_street_151 trivial
            · refine z_iconst (pc := 85) (z := 0) X dX8_street_85 rfl ⟨by decide, by decide⟩ ?_
              refine z_fin (fun e9 => ?_)
              subst e9
              exact hret _ _ _ _ (by decide) (by decide) dX8_street_86 trivial
          refine z_icmp_ge (pc := 70) 77 X dX8_street_70 (by decide) (fun _ => ?_) (fun _ => ?_)
          · refine z_iconst (pc := 77) (z := 0) X dX8_street_77 rfl ⟨by decide, by decide⟩ ?_
            exact hJ78 0
          · refine z_iconst (pc := 73) (z := 1) X dX8_street_73 rfl ⟨by decide, by decide⟩ ?_
            refine z_goto (pc := 74) 78 X dX8_street_74 (by decide) ?_
            exact hJ78 1
      have hJ55 : zS (X8_street_j55 a0 a1 a2 a3 x3) (fun r => r = r0) (zJ K 0 0 55 [(0, zR a0), (1, zI a1), (2, zI a2), (3, zI a3)] [zR a0] x3.2) := by
        unfold X8_street_j55
        refine z_iconst (pc := 55) (z := 0) X dX8_street_55 rfl ⟨by decide, by decide⟩ ?_
        exact hJ56 0
      refine z_if_le (pc := 37) 55 X dX8_street_37 (by decide) (fun _ => ?_) (fun _ => ?_)
      · exact hJ55
      · refine z_aload_n (pc := 40) (i := 0) 0 X dX8_street_40 rfl rfl ?_
        refine z_aload_n (pc := 41) (i := 0) 0 X dX8_street_41 rfl rfl ?_
        refine z_getJ (pc := 42) (C := RX8) (T := TX8) (N := 30) (ci := 9) 26 X dX8_street_42 inz_X8 rfl (by decide) fw_X8_102 (fun v29 => ?_)
        refine z_callV_i (pc := 45) (cells := 0) (slots := 0) (C := RX8) (T := TX8) (N := 30) (ci := 9) [zL v29] X dX8_street_45 (c_X8_isUsed x3.2 a0 v29) kw_X8_110 rfl rfl ⟨rfl, rfl, ⟨by decide, by decide⟩, ⟨by decide, by decide⟩⟩ (Nat.le_of_ble_eq_true rfl) rfl (fun x30 => ?_)
        refine z_if_ne (pc := 48) 55 X dX8_street_48 (by decide) (fun _ => ?_) (fun _ => ?_)
        · exact hJ55
        · refine z_iconst (pc := 51) (z := 1) X dX8_street_51 rfl ⟨by decide, by decide⟩ ?_
          refine z_goto (pc := 52) 56 X dX8_street_52 (by decide) ?_
          exact hJ56 1
  have hJ24 : zS (X8_street_j24 hp a0 a1 a2 a3) (fun r => r = r0) (zJ K 0 0 24 [(0, zR a0), (1, zI a1), (2, zI a2), (3, zI a3)] [zR a0] hp) := by
    unfold X8_street_j24
    refine z_iconst (pc := 24) (z := 0) X dX8_street_24 rfl ⟨by decide, by decide⟩ ?_
    exact hJ25 0
  refine z_if_eq (pc := 5) 24 X dX8_street_5 (by decide) (fun _ => ?_) (fun _ => ?_)
  · exact hJ24
  · refine z_iload_n (pc := 8) (i := 1) 1 X dX8_street_8 rfl rfl ?_
    refine z_bipush (pc := 9) (z := 10) X dX8_street_9 rfl ⟨by decide, by decide⟩ ?_
    refine z_sipush (pc := 11) (z := 999) X dX8_street_11 rfl ⟨by decide, by decide⟩ ?_
    refine z_callS_i (pc := 14) (cells := 0) (slots := 0) [zI a1, zI 10, zI 999] X dX8_street_14 (c_X8_isBetween hp a1 10 999) kw_X8_86 rfl ⟨rfl, rfl, ⟨by decide, by decide⟩, ⟨by decide, by decide⟩⟩ (Nat.le_of_ble_eq_true rfl) rfl (fun x31 => ?_)
    refine z_if_eq (pc := 17) 24 X dX8_street_17 (by decide) (fun _ => ?_) (fun _ => ?_)
    · exact hJ24
    · refine z_iconst (pc := 20) (z := 1) X dX8_street_20 rfl ⟨by decide, by decide⟩ ?_
      refine z_goto (pc := 21) 25 X dX8_street_21 (by decide) ?_
      exact hJ25 1
def X8_streetOf_j34 (a0 : Option Nat) (a1 : Int) (a2 : Int) (x2 : (Int × zH)) (j6 : Int) : Option (Int × zH) :=
  ((zobj x2.2 a0 9).bind fun _ => X8_no x2.2 a0 j6 2).bind fun x7 =>
  if x7.1 = 0 then
    (zgR x7.2 a0 9 8).bind fun v8 =>
    ((zobj x7.2 a0 9).bind fun _ => X8_placeOf x7.2 a0 a1 a2).bind fun x9 =>
    (zaI x7.2 0 v8 x9).bind fun v10 =>
    some (v10, x7.2)
  else
    some (0, x7.2)
def X8_streetOf (hp : zH) (a0 : Option Nat) (a1 : Int) (a2 : Int) : Option (Int × zH) :=
  ((zobj hp a0 9).bind fun _ => X8_isDoor hp a0 a1).bind fun x1 =>
  ((zobj hp a0 9).bind fun _ => X8_no hp a0 x1 1).bind fun x2 =>
  if x2.1 = 0 then
    (zgR x2.2 a0 9 8).bind fun v3 =>
    ((zobj x2.2 a0 9).bind fun _ => X8_placeOf x2.2 a0 a1 a2).bind fun x4 =>
    (zaI x2.2 0 v3 x4).bind fun v5 =>
    if v5 = (-1) then
      X8_streetOf_j34 a0 a1 a2 x2 0
    else
      X8_streetOf_j34 a0 a1 a2 x2 1
  else
    some (0, x2.2)
set_option maxRecDepth 20000 in
theorem c_X8_streetOf (hp : zH) (a0 : Option Nat) (a1 : Int) (a2 : Int) : ∀ r, X8_streetOf hp a0 a1 a2 = some r → zMi yX8_streetOf (Cond.code yX8_streetOf cX8_streetOf 3 (some .int) :: zALL) { frames := 2, cells := 0, slots := 0, locals := 43 } 0 0 [zR a0, zI a1, zI a2] hp r.1 r.2 := by
  refine zMi_of (own := RX8) (cc := cX8_streetOf) (maxL := 3) (ε := (Int × zH)) (res := fun r => r.1) (hp2 := fun r => r.2) (by decide) rfl (Or.inl rfl) (by exact Nat.le_of_ble_eq_true rfl) ?_
  intro K r0 X hnL hret
  have hN : ∀ i, i < 3 → i < K.2.2.2.2.2.2.2.2.2.2.2.2.2.2.1 := by rw [hnL]; exact fun _ h => h
  show zS _ _ (zJ K 0 0 0 [(0, zR a0), (1, zI a1), (2, zI a2)] [] hp)
  unfold X8_streetOf
  refine z_aload_n (pc := 0) (i := 0) 0 X dX8_streetOf_0 rfl rfl ?_
  refine z_aload_n (pc := 1) (i := 0) 0 X dX8_streetOf_1 rfl rfl ?_
  refine z_iload_n (pc := 2) (i := 1) 1 X dX8_streetOf_2 rfl rfl ?_
  refine z_callV_i (pc := 3) (cells := 0) (slots := 0) (C := RX8) (T := TX8) (N := 30) (ci := 9) [zI a1] X dX8_streetOf_3 (c_X8_isDoor hp a0 a1) kw_X8_169 rfl rfl ⟨rfl, rfl, ⟨by decide, by decide⟩, ⟨by decide, by decide⟩⟩ (Nat.le_of_ble_eq_true rfl) rfl (fun x1 => ?_)
  refine z_iconst (pc := 6) (z := 1) X dX8_streetOf_6 rfl ⟨by decide, by decide⟩ ?_
  refine z_callV_i (pc := 7) (cells := 0) (slots := 0) (C := RX8) (T := TX8) (N := 30) (ci := 9) [zI x1, zI 1] X dX8_streetOf_7 (c_X8_no hp a0 x1 1) kw_X8_93 rfl rfl ⟨rfl, rfl, ⟨by decide, by decide⟩, ⟨by decide, by decide⟩⟩ (Nat.le_of_ble_eq_true rfl) rfl (fun x2 => ?_)
  refine z_if_ne (pc := 10) 41 X dX8_streetOf_10 (by decide) (fun _ => ?_) (fun _ => ?_)
  · refine z_iconst (pc := 41) (z := 0) X dX8_streetOf_41 rfl ⟨by decide, by decide⟩ ?_
    refine z_goto (pc := 42) 56 X dX8_streetOf_42 (by decide) ?_
    refine z_fin (fun e9 => ?_)
    subst e9
    exact hret _ _ _ _ (by decide) (by decide) dX8_streetOf_56 trivial
  · refine z_aload_n (pc := 13) (i := 0) 0 X dX8_streetOf_13 rfl rfl ?_
    refine z_aload_n (pc := 14) (i := 0) 0 X dX8_streetOf_14 rfl rfl ?_
    refine z_getR (pc := 15) (C := RX8) (T := TX8) (N := 30) (ci := 9) 8 X dX8_streetOf_15 inz_X8 rfl (by decide) fw_X8_34 (fun v3 => ?_)
    refine z_aload_n (pc := 18) (i := 0) 0 X dX8_streetOf_18 rfl rfl ?_
    refine z_iload_n (pc := 19) (i := 1) 1 X dX8_streetOf_19 rfl rfl ?_
    refine z_iload_n (pc := 20) (i := 2) 2 X dX8_streetOf_20 rfl rfl ?_
    refine z_callV_i (pc := 21) (cells := 0) (slots := 0) (C := RX8) (T := TX8) (N := 30) (ci := 9) [zI a1, zI a2] X dX8_streetOf_21 (c_X8_placeOf x2.2 a0 a1 a2) kw_X8_200 rfl rfl ⟨rfl, rfl, ⟨by decide, by decide⟩, ⟨by decide, by decide⟩⟩ (Nat.le_of_ble_eq_true rfl) rfl (fun x4 => ?_)
    refine z_iaload (pc := 24) X dX8_streetOf_24 (fun v5 => ?_)
    refine z_iconst (pc := 25) (z := -1) X dX8_streetOf_25 rfl ⟨by decide, by decide⟩ ?_
    have hJ34 : ∀ (j6 : Int), zS (X8_streetOf_j34 a0 a1 a2 x2 j6) (fun r => r = r0) (zJ K 0 0 34 [(0, zR a0), (1, zI a1), (2, zI a2)] [zI j6, zR a0] x2.2) := by
      intro j6
      unfold X8_streetOf_j34
      refine z_iconst (pc := 34) (z := 2) X dX8_streetOf_34 rfl ⟨by decide, by decide⟩ ?_
      refine z_callV_i (pc := 35) (cells := 0) (slots := 0) (C := RX8) (T := TX8) (N := 30) (ci := 9) [zI j6, zI 2] X dX8_streetOf_35 (c_X8_no x2.2 a0 j6 2) kw_X8_93 rfl rfl ⟨rfl, rfl, ⟨by decide, by decide⟩, ⟨by decide, by decide⟩⟩ (Nat.le_of_ble_eq_true rfl) rfl (fun x7 => ?_)
      refine z_if_eq (pc := 38) 45 X dX8_streetOf_38 (by decide) (fun _ => ?_) (fun _ => ?_)
      · refine z_aload_n (pc := 45) (i := 0) 0 X dX8_streetOf_45 rfl rfl ?_
        refine z_getR (pc := 46) (C := RX8) (T := TX8) (N := 30) (ci := 9) 8 X dX8_streetOf_46 inz_X8 rfl (by decide) fw_X8_34 (fun v8 => ?_)
        refine z_aload_n (pc := 49) (i := 0) 0 X dX8_streetOf_49 rfl rfl ?_
        refine z_iload_n (pc := 50) (i := 1) 1 X dX8_streetOf_50 rfl rfl ?_
        refine z_iload_n (pc := 51) (i := 2) 2 X dX8_streetOf_51 rfl rfl ?_
        refine z_callV_i (pc := 52) (cells := 0) (slots := 0) (C := RX8) (T := TX8) (N := 30) (ci := 9) [zI a1, zI a2] X dX8_streetOf_52 (c_X8_placeOf x7.2 a0 a1 a2) kw_X8_200 rfl rfl ⟨rfl, rfl, ⟨by decide, by decide⟩, ⟨by decide, by decide⟩⟩ (Nat.le_of_ble_eq_true rfl) rfl (fun x9 => ?_)
        refine z_iaload (pc := 55) X dX8_streetOf_55 (fun v10 => ?_)
        refine z_fin (fun e9 => ?_)
        subst e9
        exact hret _ _ _ _ (by decide) (by decide) dX8_streetOf_56 trivial
      · refine z_iconst (pc := 41) (z := 0) X dX8_streetOf_41 rfl ⟨by decide, by decide⟩ ?_
        refine z_goto (pc := 42) 56 X dX8_streetOf_42 (by decide) ?_
        refine z_fin (fun e9 => ?_)
        subst e9
        exact hret _ _ _ _ (by decide) (by decide) dX8_streetOf_56 trivial
    refine z_icmp_eq (pc := 26) 33 X dX8_streetOf_26 (by decide) (fun _ => ?_) (fun _ => ?_)
    · refine z_iconst (pc := 33) (z := 0) X dX8_streetOf_33 rfl ⟨by decide, by decide⟩ ?_
      exact hJ34 0
    · refine z_iconst (pc := 29) (z := 1) X dX8_streetOf_29 rfl ⟨by decide, by decide⟩ ?_
      refine z_goto (pc := 30) 34 X dX8_streetOf_30 (by decide) ?_
      exact hJ34 1
def X8_thrown (hp : zH) (a0 : Option Nat) : Option Int :=
  (zgI hp a0 9 29).bind fun v1 =>
  some v1
set_option maxRecDepth 20000 in
theorem c_X8_thrown (hp : zH) (a0 : Option Nat) : ∀ r, X8_thrown hp a0 = some r → zMi yX8_thrown (Cond.code yX8_thrown cX8_thrown 1 (some .int) :: zALL) { frames := 0, cells := 0, slots := 0, locals := 0 } 0 0 [zR a0] hp r hp := by
  refine zMi_of (own := RX8) (cc := cX8_thrown) (maxL := 1) (res := fun r => r) (hp2 := fun _ => hp) (by decide) rfl (Or.inl rfl) (by exact Nat.le_of_ble_eq_true rfl) ?_
  intro K r0 X hnL hret
  have hN : ∀ i, i < 1 → i < K.2.2.2.2.2.2.2.2.2.2.2.2.2.2.1 := by rw [hnL]; exact fun _ h => h
  show zS _ _ (zJ K 0 0 0 [(0, zR a0)] [] hp)
  unfold X8_thrown
  refine z_aload_n (pc := 0) (i := 0) 0 X dX8_thrown_0 rfl rfl ?_
  refine z_getI (pc := 1) (C := RX8) (T := TX8) (N := 30) (ci := 9) 29 X dX8_thrown_1 inz_X8 rfl (by decide) fw_X8_79 (fun v1 => ?_)
  refine z_fin (fun e9 => ?_)
  subst e9
  exact hret _ _ _ _ (by decide) (by decide) dX8_thrown_4 trivial
def X8_translate_j30 (a0 : Option Nat) (a1 : Int) (x2 : (Int × zH)) (j5 : Int) : Option (Int × zH) :=
  ((zobj x2.2 a0 9).bind fun _ => X8_no x2.2 a0 j5 2).bind fun x6 =>
  if x6.1 = 0 then
    (zgR x6.2 a0 9 1).bind fun v7 =>
    (zaJ x6.2 v7 a1).bind fun v8 =>
    ((zobj x6.2 a0 9).bind fun _ => X8_nameGoes x6.2 a0 a1 v8).bind fun x9 =>
    (zgR x9 a0 9 1).bind fun v10 =>
    (zgJ x9 a0 9 26).bind fun v11 =>
    (zsJ x9 v10 a1 v11).bind fun h12 =>
    ((zobj h12 a0 9).bind fun _ => X8_wipe h12 a0).bind fun x13 =>
    (zgI x13.2 a0 9 19).bind fun v14 =>
    some (v14, x13.2)
  else
    some (0, x6.2)
def X8_translate (hp : zH) (a0 : Option Nat) (a1 : Int) : Option (Int × zH) :=
  ((zobj hp a0 9).bind fun _ => X8_isStreet hp a0 a1).bind fun x1 =>
  ((zobj hp a0 9).bind fun _ => X8_no hp a0 x1 1).bind fun x2 =>
  if x2.1 = 0 then
    (zgJ x2.2 a0 9 26).bind fun v3 =>
    ((zobj x2.2 a0 9).bind fun _ => X8_isUsed x2.2 a0 v3).bind fun x4 =>
    if x4 = 0 then
      X8_translate_j30 a0 a1 x2 1
    else
      X8_translate_j30 a0 a1 x2 0
  else
    some (0, x2.2)
set_option maxRecDepth 20000 in
theorem c_X8_translate (hp : zH) (a0 : Option Nat) (a1 : Int) : ∀ r, X8_translate hp a0 a1 = some r → zMi yX8_translate (Cond.code yX8_translate cX8_translate 2 (some .int) :: zALL) { frames := 2, cells := 0, slots := 0, locals := 50 } 0 0 [zR a0, zI a1] hp r.1 r.2 := by
  refine zMi_of (own := RX8) (cc := cX8_translate) (maxL := 2) (ε := (Int × zH)) (res := fun r => r.1) (hp2 := fun r => r.2) (by decide) rfl (Or.inl rfl) (by exact Nat.le_of_ble_eq_true rfl) ?_
  intro K r0 X hnL hret
  have hN : ∀ i, i < 2 → i < K.2.2.2.2.2.2.2.2.2.2.2.2.2.2.1 := by rw [hnL]; exact fun _ h => h
  show zS _ _ (zJ K 0 0 0 [(0, zR a0), (1, zI a1)] [] hp)
  unfold X8_translate
  refine z_aload_n (pc := 0) (i := 0) 0 X dX8_translate_0 rfl rfl ?_
  refine z_aload_n (pc := 1) (i := 0) 0 X dX8_translate_1 rfl rfl ?_
  refine z_iload_n (pc := 2) (i := 1) 1 X dX8_translate_2 rfl rfl ?_
  refine z_callV_i (pc := 3) (cells := 0) (slots := 0) (C := RX8) (T := TX8) (N := 30) (ci := 9) [zI a1] X dX8_translate_3 (c_X8_isStreet hp a0 a1) kw_X8_132 rfl rfl ⟨rfl, rfl, ⟨by decide, by decide⟩, ⟨by decide, by decide⟩⟩ (Nat.le_of_ble_eq_true rfl) rfl (fun x1 => ?_)
  refine z_iconst (pc := 6) (z := 1) X dX8_translate_6 rfl ⟨by decide, by decide⟩ ?_
  refine z_callV_i (pc := 7) (cells := 0) (slots := 0) (C := RX8) (T := TX8) (N := 30) (ci := 9) [zI x1, zI 1] X dX8_translate_7 (c_X8_no hp a0 x1 1) kw_X8_93 rfl rfl ⟨rfl, rfl, ⟨by decide, by decide⟩, ⟨by decide, by decide⟩⟩ (Nat.le_of_ble_eq_true rfl) rfl (fun x2 => ?_)
  refine z_if_ne (pc := 10) 37 X dX8_translate_10 (by decide) (fun _ => ?_) (fun _ => ?_)
  · refine z_iconst (pc := 37) (z := 0) X dX8_translate_37 rfl ⟨by decide, by decide⟩ ?_
    refine z_fin (fun e9 => ?_)
    subst e9
    exact hret _ _ _ _ (by decide) (by decide) dX8_translate_38 trivial
  · refine z_aload_n (pc := 13) (i := 0) 0 X dX8_translate_13 rfl rfl ?_
    refine z_aload_n (pc := 14) (i := 0) 0 X dX8_translate_14 rfl rfl ?_
    refine z_aload_n (pc := 15) (i := 0) 0 X dX8_translate_15 rfl rfl ?_
    refine z_getJ (pc := 16) (C := RX8) (T := TX8) (N := 30) (ci := 9) 26 X dX8_translate_16 inz_X8 rfl (by decide) fw_X8_102 (fun v3 => ?_)
    refine z_callV_i (pc := 19) (cells := 0) (slots := 0) (C := RX8) (T := TX8) (N := 30) (ci := 9) [zL v3] X dX8_translate_19 (c_X8_isUsed x2.2 a0 v3) kw_X8_110 rfl rfl ⟨rfl, rfl, ⟨by decide, by decide⟩, ⟨by decide, by decide⟩⟩ (Nat.le_of_ble_eq_true rfl) rfl (fun x4 => ?_)
    have hJ30 : ∀ (j5 : Int), zS (X8_translate_j30 a0 a1 x2 j5) (fun r => r = r0) (zJ K 0 0 30 [(0, zR a0), (1, zI a1)] [zI j5, zR a0] x2.2) := by
      intro j5
      unfold X8_translate_j30
      refine z_iconst (pc := 30) (z := 2) X dX8_translate_30 rfl ⟨by decide, by decide⟩ ?_
      refine z_callV_i (pc := 31) (cells := 0) (slots := 0) (C := RX8) (T := TX8) (N := 30) (ci := 9) [zI j5, zI 2] X dX8_translate_31 (c_X8_no x2.2 a0 j5 2) kw_X8_93 rfl rfl ⟨rfl, rfl, ⟨by decide, by decide⟩, ⟨by decide, by decide⟩⟩ (Nat.le_of_ble_eq_true rfl) rfl (fun x6 => ?_)
      refine z_if_eq (pc := 34) 39 X dX8_translate_34 (by decide) (fun _ => ?_) (fun _ => ?_)
      · refine z_aload_n (pc := 39) (i := 0) 0 X dX8_translate_39 rfl rfl ?_
        refine z_iload_n (pc := 40) (i := 1) 1 X dX8_translate_40 rfl rfl ?_
        refine z_aload_n (pc := 41) (i := 0) 0 X dX8_translate_41 rfl rfl ?_
        refine z_getR (pc := 42) (C := RX8) (T := TX8) (N := 30) (ci := 9) 1 X dX8_translate_42 inz_X8 rfl (by decide) fw_X8_13 (fun v7 => ?_)
        refine z_iload_n (pc := 45) (i := 1) 1 X dX8_translate_45 rfl rfl ?_
        refine z_laload (pc := 46) X dX8_translate_46 (fun v8 => ?_)
        refine z_callV_v (pc := 47) (cells := 0) (slots := 0) (C := RX8) (T := TX8) (N := 30) (ci := 9) [zI a1, zL v8] X dX8_translate_47 (c_X8_nameGoes x6.2 a0 a1 v8) kw_X8_136 rfl rfl ⟨rfl, rfl, ⟨by decide, by decide⟩, ⟨by decide, by decide⟩⟩ (Nat.le_of_ble_eq_true rfl) rfl (fun x9 => ?_)
        refine z_aload_n (pc := 50) (i := 0) 0 X dX8_translate_50 rfl rfl ?_
        refine z_getR (pc := 51) (C := RX8) (T := TX8) (N := 30) (ci := 9) 1 X dX8_translate_51 inz_X8 rfl (by decide) fw_X8_13 (fun v10 => ?_)
        refine z_iload_n (pc := 54) (i := 1) 1 X dX8_translate_54 rfl rfl ?_
        refine z_aload_n (pc := 55) (i := 0) 0 X dX8_translate_55 rfl rfl ?_
        refine z_getJ (pc := 56) (C := RX8) (T := TX8) (N := 30) (ci := 9) 26 X dX8_translate_56 inz_X8 rfl (by decide) fw_X8_102 (fun v11 => ?_)
        refine z_lastore (pc := 59) X dX8_translate_59 (fun h12 => ?_)
        refine z_aload_n (pc := 60) (i := 0) 0 X dX8_translate_60 rfl rfl ?_
        refine z_callV_i (pc := 61) (cells := 0) (slots := 0) (C := RX8) (T := TX8) (N := 30) (ci := 9) [] X dX8_translate_61 (c_X8_wipe h12 a0) kw_X8_114 rfl rfl ⟨rfl, rfl, ⟨by decide, by decide⟩, ⟨by decide, by decide⟩⟩ (Nat.le_of_ble_eq_true rfl) rfl (fun x13 => ?_)
        refine z_pop (pc := 64) X dX8_translate_64 rfl ?_
        refine z_aload_n (pc := 65) (i := 0) 0 X dX8_translate_65 rfl rfl ?_
        refine z_getI (pc := 66) (C := RX8) (T := TX8) (N := 30) (ci := 9) 19 X dX8_translate_66 inz_X8 rfl (by decide) fw_X8_118 (fun v14 => ?_)
        refine z_fin (fun e9 => ?_)
        subst e9
        exact hret _ _ _ _ (by decide) (by decide) dX8_translate_69 trivial
      · refine z_iconst (pc := 37) (z := 0) X dX8_translate_37 rfl ⟨by decide, by decide⟩ ?_
        refine z_fin (fun e9 => ?_)
        subst e9
        exact hret _ _ _ _ (by decide) (by decide) dX8_translate_38 trivial
    refine z_if_ne (pc := 22) 29 X dX8_translate_22 (by decide) (fun _ => ?_) (fun _ => ?_)
    · refine z_iconst (pc := 29) (z := 0) X dX8_translate_29 rfl ⟨by decide, by decide⟩ ?_
      exact hJ30 0
    · refine z_iconst (pc := 25) (z := 1) X dX8_translate_25 rfl ⟨by decide, by decide⟩ ?_
      refine z_goto (pc := 26) 30 X dX8_translate_26 (by decide) ?_
      exact hJ30 1
def X8_type_j40 (a0 : Option Nat) (a1 : Int) (x2 : (Int × zH)) (j4 : Int) : Option (Int × zH) :=
  ((zobj x2.2 a0 9).bind fun _ => X8_no x2.2 a0 j4 2).bind fun x5 =>
  if x5.1 = 0 then
    (zgJ x5.2 a0 9 26).bind fun v6 =>
    (zchk (a1 - 97)).bind fun v7 =>
    (zchk (v7 + 1)).bind fun v8 =>
    (zpJ x5.2 a0 9 26 (((27 * v6) + (Int64.ofInt v8)))).bind fun h9 =>
    (zgI h9 a0 9 27).bind fun v10 =>
    (zchk (v10 + 1)).bind fun v11 =>
    (zpI h9 a0 9 27 v11).bind fun h12 =>
    (zgI h12 a0 9 27).bind fun v13 =>
    some (v13, h12)
  else
    some (0, x5.2)
def X8_type_j18 (hp : zH) (a0 : Option Nat) (a1 : Int) (j1 : Int) : Option (Int × zH) :=
  ((zobj hp a0 9).bind fun _ => X8_no hp a0 j1 1).bind fun x2 =>
  if x2.1 = 0 then
    (zgI x2.2 a0 9 27).bind fun v3 =>
    if 7 ≤ v3 then
      X8_type_j40 a0 a1 x2 0
    else
      X8_type_j40 a0 a1 x2 1
  else
    some (0, x2.2)
def X8_type_j17 (hp : zH) (a0 : Option Nat) (a1 : Int) : Option (Int × zH) :=
  X8_type_j18 hp a0 a1 0
def X8_type (hp : zH) (a0 : Option Nat) (a1 : Int) : Option (Int × zH) :=
  if a1 < 97 then
    X8_type_j17 hp a0 a1
  else
    if 122 < a1 then
      X8_type_j17 hp a0 a1
    else
      X8_type_j18 hp a0 a1 1
set_option maxRecDepth 20000 in
theorem c_X8_type (hp : zH) (a0 : Option Nat) (a1 : Int) : ∀ r, X8_type hp a0 a1 = some r → zMi yX8_type (Cond.code yX8_type cX8_type 2 (some .int) :: zALL) { frames := 1, cells := 0, slots := 0, locals := 22 } 0 0 [zR a0, zI a1] hp r.1 r.2 := by
  refine zMi_of (own := RX8) (cc := cX8_type) (maxL := 2) (ε := (Int × zH)) (res := fun r => r.1) (hp2 := fun r => r.2) (by decide) rfl (Or.inl rfl) (by exact Nat.le_of_ble_eq_true rfl) ?_
  intro K r0 X hnL hret
  have hN : ∀ i, i < 2 → i < K.2.2.2.2.2.2.2.2.2.2.2.2.2.2.1 := by rw [hnL]; exact fun _ h => h
  show zS _ _ (zJ K 0 0 0 [(0, zR a0), (1, zI a1)] [] hp)
  unfold X8_type
  refine z_aload_n (pc := 0) (i := 0) 0 X dX8_type_0 rfl rfl ?_
  refine z_iload_n (pc := 1) (i := 1) 1 X dX8_type_1 rfl rfl ?_
  refine z_bipush (pc := 2) (z := 97) X dX8_type_2 rfl ⟨by decide, by decide⟩ ?_
  have hJ18 : ∀ (j1 : Int), zS (X8_type_j18 hp a0 a1 j1) (fun r => r = r0) (zJ K 0 0 18 [(0, zR a0), (1, zI a1)] [zI j1, zR a0] hp) := by
    intro j1
    unfold X8_type_j18
    refine z_iconst (pc := 18) (z := 1) X dX8_type_18 rfl ⟨by decide, by decide⟩ ?_
    refine z_callV_i (pc := 19) (cells := 0) (slots := 0) (C := RX8) (T := TX8) (N := 30) (ci := 9) [zI j1, zI 1] X dX8_type_19 (c_X8_no hp a0 j1 1) kw_X8_93 rfl rfl ⟨rfl, rfl, ⟨by decide, by decide⟩, ⟨by decide, by decide⟩⟩ (Nat.le_of_ble_eq_true rfl) rfl (fun x2 => ?_)
    refine z_if_ne (pc := 22) 47 X dX8_type_22 (by decide) (fun _ => ?_) (fun _ => ?_)
    · refine z_iconst (pc := 47) (z := 0) X dX8_type_47 rfl ⟨by decide, by decide⟩ ?_
      refine z_fin (fun e9 => ?_)
      subst e9
      exact hret _ _ _ _ (by decide) (by decide) dX8_type_48 trivial
    · refine z_aload_n (pc := 25) (i := 0) 0 X dX8_type_25 rfl rfl ?_
      refine z_aload_n (pc := 26) (i := 0) 0 X dX8_type_26 rfl rfl ?_
      refine z_getI (pc := 27) (C := RX8) (T := TX8) (N := 30) (ci := 9) 27 X dX8_type_27 inz_X8 rfl (by decide) fw_X8_97 (fun v3 => ?_)
      refine z_bipush (pc := 30) (z := 7) X dX8_type_30 rfl ⟨by decide, by decide⟩ ?_
      have hJ40 : ∀ (j4 : Int), zS (X8_type_j40 a0 a1 x2 j4) (fun r => r = r0) (zJ K 0 0 40 [(0, zR a0), (1, zI a1)] [zI j4, zR a0] x2.2) := by
        intro j4
        unfold X8_type_j40
        refine z_iconst (pc := 40) (z := 2) X dX8_type_40 rfl ⟨by decide, by decide⟩ ?_
        refine z_callV_i (pc := 41) (cells := 0) (slots := 0) (C := RX8) (T := TX8) (N := 30) (ci := 9) [zI j4, zI 2] X dX8_type_41 (c_X8_no x2.2 a0 j4 2) kw_X8_93 rfl rfl ⟨rfl, rfl, ⟨by decide, by decide⟩, ⟨by decide, by decide⟩⟩ (Nat.le_of_ble_eq_true rfl) rfl (fun x5 => ?_)
        refine z_if_eq (pc := 44) 49 X dX8_type_44 (by decide) (fun _ => ?_) (fun _ => ?_)
        · refine z_aload_n (pc := 49) (i := 0) 0 X dX8_type_49 rfl rfl ?_
          refine z_ldc2 (pc := 50) (z := 27) X dX8_type_50 (zin (zt5 49 (by decide +kernel)) rfl) ?_
          refine z_aload_n (pc := 53) (i := 0) 0 X dX8_type_53 rfl rfl ?_
          refine z_getJ (pc := 54) (C := RX8) (T := TX8) (N := 30) (ci := 9) 26 X dX8_type_54 inz_X8 rfl (by decide) fw_X8_102 (fun v6 => ?_)
          refine z_lmul (pc := 57) X dX8_type_57 ?_
          refine z_iload_n (pc := 58) (i := 1) 1 X dX8_type_58 rfl rfl ?_
          refine z_bipush (pc := 59) (z := 97) X dX8_type_59 rfl ⟨by decide, by decide⟩ ?_
          refine z_isub (pc := 61) X dX8_type_61 (fun v7 _ _ => ?_)
          refine z_iconst (pc := 62) (z := 1) X dX8_type_62 rfl ⟨by decide, by decide⟩ ?_
          refine z_iadd (pc := 63) X dX8_type_63 (fun v8 _ _ => ?_)
          refine z_i2l (pc := 64) X dX8_type_64 ?_
          refine z_ladd (pc := 65) X dX8_type_65 ?_
          refine z_putJ (pc := 66) (C := RX8) (T := TX8) (N := 30) (ci := 9) 26 X dX8_type_66 inz_X8 tyX8_ok nmX8 rfl (by decide) fw_X8_102 rfl rfl (fun h9 => ?_)
          refine z_aload_n (pc := 69) (i := 0) 0 X dX8_type_69 rfl rfl ?_
          refine z_dup (pc := 70) X dX8_type_70 rfl ?_
          refine z_getI (pc := 71) (C := RX8) (T := TX8) (N := 30) (ci := 9) 27 X dX8_type_71 inz_X8 rfl (by decide) fw_X8_97 (fun v10 => ?_)
          refine z_iconst (pc := 74) (z := 1) X dX8_type_74 rfl ⟨by decide, by decide⟩ ?_
          refine z_iadd (pc := 75) X dX8_type_75 (fun v11 _ _ => ?_)
          refine z_putI (pc := 76) (C := RX8) (T := TX8) (N := 30) (ci := 9) 27 X dX8_type_76 inz_X8 tyX8_ok nmX8 rfl (by decide) fw_X8_97 rfl rfl (fun h12 => ?_)
          refine z_aload_n (pc := 79) (i := 0) 0 X dX8_type_79 rfl rfl ?_
          refine z_getI (pc := 80) (C := RX8) (T := TX8) (N := 30) (ci := 9) 27 X dX8_type_80 inz_X8 rfl (by decide) fw_X8_97 (fun v13 => ?_)
          refine z_fin (fun e9 => ?_)
          subst e9
          exact hret _ _ _ _ (by decide) (by decide) dX8_type_83 trivial
        · refine z_iconst (pc := 47) (z := 0) X dX8_type_47 rfl ⟨by decide, by decide⟩ ?_
          refine z_fin (fun e9 => ?_)
          subst e9
          exact hret _ _ _ _ (by decide) (by decide) dX8_type_48 trivial
      refine z_icmp_ge (pc := 32) 39 X dX8_type_32 (by decide) (fun _ => ?_) (fun _ => ?_)
      · refine z_iconst (pc := 39) (z := 0) X dX8_type_39 rfl ⟨by decide, by decide⟩ ?_
        exact hJ40 0
      · refine z_iconst (pc := 35) (z := 1) X dX8_type_35 rfl ⟨by decide, by decide⟩ ?_
        refine z_goto (pc := 36) 40 X dX8_type_36 (by decide) ?_
        exact hJ40 1
  have hJ17 : zS (X8_type_j17 hp a0 a1) (fun r => r = r0) (zJ K 0 0 17 [(0, zR a0), (1, zI a1)] [zR a0] hp) := by
    unfold X8_type_j17
    refine z_iconst (pc := 17) (z := 0) X dX8_type_17 rfl ⟨by decide, by decide⟩ ?_
    exact hJ18 0
  refine z_icmp_lt (pc := 4) 17 X dX8_type_4 (by decide) (fun _ => ?_) (fun _ => ?_)
  · exact hJ17
  · refine z_iload_n (pc := 7) (i := 1) 1 X dX8_type_7 rfl rfl ?_
    refine z_bipush (pc := 8) (z := 122) X dX8_type_8 rfl ⟨by decide, by decide⟩ ?_
    refine z_icmp_gt (pc := 10) 17 X dX8_type_10 (by decide) (fun _ => ?_) (fun _ => ?_)
    · exact hJ17
    · refine z_iconst (pc := 13) (z := 1) X dX8_type_13 rfl ⟨by decide, by decide⟩ ?_
      refine z_goto (pc := 14) 18 X dX8_type_14 (by decide) ?_
      exact hJ18 1
