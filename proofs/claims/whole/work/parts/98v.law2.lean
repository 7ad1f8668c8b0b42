-- ===== the law with that new name (by program out of 41.law: mk98v.py) =====
def L_lawN (b : Nat) (xs : Nat → Int32) (L : Nat) : Option Unit :=
  (znew ([] : zH) 8 nf_X7).bind fun h1 =>
  ((zobj h1 ((some ([] : zH).length)) 8).bind fun _ => X7_init h1 ((some ([] : zH).length))).bind fun x2 =>
  (znew x2 9 nf_X8).bind fun h3 =>
  ((zobj h3 ((some x2.length)) 9).bind fun _ => X8_init h3 ((some x2.length))).bind fun x4 =>
  (some (znm x4)).bind fun y4 =>
  (znewa y4 1 1).bind fun h5 =>
  (znewa h5 4 1).bind fun h6 =>
  (zloop (L_law_b28 xs L b ((some ([] : zH).length)) ((some x2.length)) ((some y4.length)) ((some h5.length))) zN (0, h6)).bind fun e13 =>
  some ()
set_option maxRecDepth 40000 in
set_option maxHeartbeats 4000000 in
theorem c_L_lawN (K : zK) (b L : Nat) (xs : Nat → Int32) (X : zX K cL_law RL zALL room_1) (hnL : K.2.2.2.2.2.2.2.2.2.2.2.2.2.2.1 = 9) (hscr : zscr K b L xs) (hL9 : L ≤ 2560) (hret : ∀ cells slots pc lv hp, cells ≤ 603072 → slots ≤ 7190634 → decode cL_law pc = .ok (.ireturn, 1) → zJ K cells slots pc lv [zI 1] hp) : zS (L_lawN b xs L) (fun _ => True) (zJ K 0 0 0 [(0, zA b)] [] []) := by
  have hN : ∀ i, i < 9 → i < K.2.2.2.2.2.2.2.2.2.2.2.2.2.2.1 := by rw [hnL]; exact fun _ h => h
  unfold L_lawN
  refine z_newo (pc := 0) (c1 := 1) (s1 := 9) X dL_law_0 inz_X7 tyX7_ok (zin (zt1 23 (by decide +kernel)) rfl) (zin (zt1 24 (by decide +kernel)) rfl) (zin (zt1 1 (by decide +kernel)) rfl) rfl nf_X7_d nf_X7_ok (by decide) (by decide) rfl rfl (fun h1 => ?_)
  refine z_dup (pc := 3) X dL_law_3 rfl ?_
  refine z_callI_v (pc := 4) (cells := 1) (slots := 9) (C := RX7) (T := TX7) (N := 9) (ci := 8) [] X dL_law_4 (c_X7_init h1 ((some ([] : zH).length))) kw_L_108 rfl rfl ⟨rfl, rfl, ⟨by decide, by decide⟩, ⟨by decide, by decide⟩⟩ (Nat.le_of_ble_eq_true rfl) rfl (fun x2 => ?_)
  refine z_astore_n (pc := 7) (i := 1) (lv' := [(1, zR (some ([] : zH).length)), (0, zA b)]) X dL_law_7 rfl (hN _ (by decide)) rfl ?_
  refine z_newo (pc := 8) (c1 := 15) (s1 := 1066) X dL_law_8 inz_X8 tyX8_ok (zin (zt4 179 (by decide +kernel)) rfl) (zin (zt4 180 (by decide +kernel)) rfl) (zin (zt1 5 (by decide +kernel)) rfl) rfl nf_X8_d nf_X8_ok (by decide) (by decide) rfl rfl (fun h3 => ?_)
  refine z_dup (pc := 11) X dL_law_11 rfl ?_
  refine z_callI_v (pc := 12) (cells := 15) (slots := 1066) (C := RX8) (T := TX8) (N := 30) (ci := 9) [] X dL_law_12 (c_X8_init h3 ((some x2.length))) kw_L_111 rfl rfl ⟨rfl, rfl, ⟨by decide, by decide⟩, ⟨by decide, by decide⟩⟩ (Nat.le_of_ble_eq_true rfl) rfl (fun x4 => ?_)
  refine z_nm (fun y4 => ?_)
  refine z_astore_n (pc := 15) (i := 2) (lv' := [(2, zR (some x2.length)), (1, zR (some ([] : zH).length)), (0, zA b)]) X dL_law_15 rfl (hN _ (by decide)) rfl ?_
  refine z_iconst (pc := 16) (z := 1) X dL_law_16 rfl ⟨by decide, by decide⟩ ?_
  refine z_newJo (pc := 17) (c1 := 38) (s1 := 2711) 1 X dL_law_17 (zin (zt1 61 (by decide +kernel)) rfl) rfl (by decide) (by decide) (by decide) rfl rfl (fun h5 => ?_)
  refine z_astore_n (pc := 19) (i := 3) (lv' := [(3, zR (some y4.length)), (2, zR (some x2.length)), (1, zR (some ([] : zH).length)), (0, zA b)]) X dL_law_19 rfl (hN _ (by decide)) rfl ?_
  refine z_iconst (pc := 20) (z := 1) X dL_law_20 rfl ⟨by decide, by decide⟩ ?_
  refine z_newDo (pc := 21) (c1 := 39) (s1 := 2712) 1 X dL_law_21 (zin (zt6 48 (by decide +kernel)) rfl) rfl (by decide) (by decide) (by decide) rfl rfl (fun h6 => ?_)
  refine z_astore (pc := 23) (i := 4) (lv' := [(4, zR (some h5.length)), (3, zR (some y4.length)), (2, zR (some x2.length)), (1, zR (some ([] : zH).length)), (0, zA b)]) X dL_law_23 (hN _ (by decide)) rfl ?_
  refine z_iconst (pc := 25) (z := 0) X dL_law_25 rfl ⟨by decide, by decide⟩ ?_
  refine z_istore (pc := 26) (i := 5) (lv' := [(5, zI 0), (4, zR (some h5.length)), (3, zR (some y4.length)), (2, zR (some x2.length)), (1, zR (some ([] : zH).length)), (0, zA b)]) X dL_law_26 (hN _ (by decide)) rfl ?_
  refine z_widen (c1 := 40 + (0 : Int).toNat * 8) (s1 := 3000 + (0 : Int).toNat * 64) (by decide) (by decide) ?_
  refine z_pick [5, 4, 3, 2, 1, 0] (lv' := [(0, zA b), (1, zR (some ([] : zH).length)), (2, zR (some x2.length)), (3, zR (some y4.length)), (4, zR (some h5.length)), (5, zI 0)]) rfl ?_
  refine z_bind (z_loop (body := L_law_b28 xs L b ((some ([] : zH).length)) ((some x2.length)) ((some y4.length)) ((some h5.length))) (fun s12 : Int × zH => zJ K (40 + (s12.1).toNat * 8) (3000 + (s12.1).toNat * 64) 28 [(0, zA b), (1, zR ((some ([] : zH).length))), (2, zR ((some x2.length))), (3, zR ((some y4.length))), (4, zR ((some h5.length))), (5, zI s12.1)] [] s12.2) (fun e13 : zH => zJ K 24040 195000 1960 [] [] e13) (fun s12 => ?_) zN (0, h6)) (fun e13 => ?_)
  · unfold L_law_b28
    refine z_iload (pc := 28) (i := 5) 5 X dL_law_28 rfl ?_
    refine z_aload_nA (pc := 30) (i := 0) 0 X dL_law_30 rfl rfl ?_
    refine z_slen (pc := 31) X hscr hL9 dL_law_31 ?_
    refine z_iconst (pc := 32) (z := 5) X dL_law_32 rfl ⟨by decide, by decide⟩ ?_
    refine z_isub (pc := 33) X dL_law_33 (fun v14 _ _ => ?_)
    refine z_icmp_gt (pc := 34) 1960 X dL_law_34 (by decide) (fun _ => ?_) (fun _ => ?_)
    · refine z_ite _ (fun hx9 => ?_) (fun _ => z_none)
      refine z_widen (c1 := 24040) (s1 := 195000) (by omega) (by omega) ?_
      refine z_pick [] (lv' := []) rfl ?_
      exact z_exit
    · refine z_aload_nA (pc := 37) (i := 0) 0 X dL_law_37 rfl rfl ?_
      refine z_iload (pc := 38) (i := 5) 5 X dL_law_38 rfl ?_
      refine z_sld (pc := 40) X hscr dL_law_40 (fun v15 hi0 hi1 => ?_)
      refine z_bipush (pc := 41) (z := 31) X dL_law_41 rfl ⟨by decide, by decide⟩ ?_
      refine z_iand (pc := 43) X dL_law_43 (fun v16 => ?_)
      refine z_ite _ (fun hk9 => ?_) (fun hn0 => ?_)
      · refine z_tswIn (pc := 44) (tgt := 180) 0 hk9 X dL_law_44 (by decide) (by decide) rfl (by decide) ?_
        exact cL_k0 K b L xs X hnL hscr hL9 ((some ([] : zH).length)) ((some x2.length)) ((some y4.length)) ((some h5.length)) s12 hi0 hi1
      · refine z_ite _ (fun hk9 => ?_) (fun hn1 => ?_)
        · refine z_tswIn (pc := 44) (tgt := 238) 1 hk9 X dL_law_44 (by decide) (by decide) rfl (by decide) ?_
          exact cL_k1 K b L xs X hnL hscr hL9 ((some ([] : zH).length)) ((some x2.length)) ((some y4.length)) ((some h5.length)) s12 hi0 hi1
        · refine z_ite _ (fun hk9 => ?_) (fun hn2 => ?_)
          · refine z_tswIn (pc := 44) (tgt := 251) 2 hk9 X dL_law_44 (by decide) (by decide) rfl (by decide) ?_
            exact cL_k2 K b L xs X hnL hscr hL9 ((some ([] : zH).length)) ((some x2.length)) ((some y4.length)) ((some h5.length)) s12 hi0 hi1
          · refine z_ite _ (fun hk9 => ?_) (fun hn3 => ?_)
            · refine z_tswIn (pc := 44) (tgt := 349) 3 hk9 X dL_law_44 (by decide) (by decide) rfl (by decide) ?_
              exact cL_k3 K b L xs X hnL hscr hL9 ((some ([] : zH).length)) ((some x2.length)) ((some y4.length)) ((some h5.length)) s12 hi0 hi1
            · refine z_ite _ (fun hk9 => ?_) (fun hn4 => ?_)
              · refine z_tswIn (pc := 44) (tgt := 405) 4 hk9 X dL_law_44 (by decide) (by decide) rfl (by decide) ?_
                exact cL_k4 K b L xs X hnL hscr hL9 ((some ([] : zH).length)) ((some x2.length)) ((some y4.length)) ((some h5.length)) s12 hi0 hi1
              · refine z_ite _ (fun hk9 => ?_) (fun hn5 => ?_)
                · refine z_tswIn (pc := 44) (tgt := 461) 5 hk9 X dL_law_44 (by decide) (by decide) rfl (by decide) ?_
                  exact cL_k5 K b L xs X hnL hscr hL9 ((some ([] : zH).length)) ((some x2.length)) ((some y4.length)) ((some h5.length)) s12 hi0 hi1
                · refine z_ite _ (fun hk9 => ?_) (fun hn6 => ?_)
                  · refine z_tswIn (pc := 44) (tgt := 557) 6 hk9 X dL_law_44 (by decide) (by decide) rfl (by decide) ?_
                    exact cL_k6 K b L xs X hnL hscr hL9 ((some ([] : zH).length)) ((some x2.length)) ((some y4.length)) ((some h5.length)) s12 hi0 hi1
                  · refine z_ite _ (fun hk9 => ?_) (fun hn7 => ?_)
                    · refine z_tswIn (pc := 44) (tgt := 655) 7 hk9 X dL_law_44 (by decide) (by decide) rfl (by decide) ?_
                      exact cL_k7 K b L xs X hnL hscr hL9 ((some ([] : zH).length)) ((some x2.length)) ((some y4.length)) ((some h5.length)) s12 hi0 hi1
                    · refine z_ite _ (fun hk9 => ?_) (fun hn8 => ?_)
                      · refine z_tswIn (pc := 44) (tgt := 737) 8 hk9 X dL_law_44 (by decide) (by decide) rfl (by decide) ?_
                        exact cL_k8 K b L xs X hnL hscr hL9 ((some ([] : zH).length)) ((some x2.length)) ((some y4.length)) ((some h5.length)) s12 hi0 hi1
                      · refine z_ite _ (fun hk9 => ?_) (fun hn9 => ?_)
                        · refine z_tswIn (pc := 44) (tgt := 831) 9 hk9 X dL_law_44 (by decide) (by decide) rfl (by decide) ?_
                          exact cL_k9 K b L xs X hnL hscr hL9 ((some ([] : zH).length)) ((some x2.length)) ((some y4.length)) ((some h5.length)) s12 hi0 hi1
                        · refine z_ite _ (fun hk9 => ?_) (fun hn10 => ?_)
                          · refine z_tswIn (pc := 44) (tgt := 899) 10 hk9 X dL_law_44 (by decide) (by decide) rfl (by decide) ?_
                            exact cL_k10 K b L xs X hnL hscr hL9 ((some ([] : zH).length)) ((some x2.length)) ((some y4.length)) ((some h5.length)) s12 hi0 hi1
                          · refine z_ite _ (fun hk9 => ?_) (fun hn11 => ?_)
                            · refine z_tswIn (pc := 44) (tgt := 955) 11 hk9 X dL_law_44 (by decide) (by decide) rfl (by decide) ?_
                              exact cL_k11 K b L xs X hnL hscr hL9 ((some ([] : zH).length)) ((some x2.length)) ((some y4.length)) ((some h5.length)) s12 hi0 hi1
                            · refine z_ite _ (fun hk9 => ?_) (fun hn12 => ?_)
                              · refine z_tswIn (pc := 44) (tgt := 1011) 12 hk9 X dL_law_44 (by decide) (by decide) rfl (by decide) ?_
                                exact cL_k12 K b L xs X hnL hscr hL9 ((some ([] : zH).length)) ((some x2.length)) ((some y4.length)) ((some h5.length)) s12 hi0 hi1
                              · refine z_ite _ (fun hk9 => ?_) (fun hn13 => ?_)
                                · refine z_tswIn (pc := 44) (tgt := 1079) 13 hk9 X dL_law_44 (by decide) (by decide) rfl (by decide) ?_
                                  exact cL_k13 K b L xs X hnL hscr hL9 ((some ([] : zH).length)) ((some x2.length)) ((some y4.length)) ((some h5.length)) s12 hi0 hi1
                                · refine z_ite _ (fun hk9 => ?_) (fun hn14 => ?_)
                                  · refine z_tswIn (pc := 44) (tgt := 1135) 14 hk9 X dL_law_44 (by decide) (by decide) rfl (by decide) ?_
                                    exact cL_k14 K b L xs X hnL hscr hL9 ((some ([] : zH).length)) ((some x2.length)) ((some y4.length)) ((some h5.length)) s12 hi0 hi1
                                  · refine z_ite _ (fun hk9 => ?_) (fun hn15 => ?_)
                                    · refine z_tswIn (pc := 44) (tgt := 1219) 15 hk9 X dL_law_44 (by decide) (by decide) rfl (by decide) ?_
                                      exact cL_k15 K b L xs X hnL hscr hL9 ((some ([] : zH).length)) ((some x2.length)) ((some y4.length)) ((some h5.length)) s12 hi0 hi1
                                    · refine z_ite _ (fun hk9 => ?_) (fun hn16 => ?_)
                                      · refine z_tswIn (pc := 44) (tgt := 1303) 16 hk9 X dL_law_44 (by decide) (by decide) rfl (by decide) ?_
                                        exact cL_k16 K b L xs X hnL hscr hL9 ((some ([] : zH).length)) ((some x2.length)) ((some y4.length)) ((some h5.length)) s12 hi0 hi1
                                      · refine z_ite _ (fun hk9 => ?_) (fun hn17 => ?_)
                                        · refine z_tswIn (pc := 44) (tgt := 1366) 17 hk9 X dL_law_44 (by decide) (by decide) rfl (by decide) ?_
                                          exact cL_k17 K b L xs X hnL hscr hL9 ((some ([] : zH).length)) ((some x2.length)) ((some y4.length)) ((some h5.length)) s12 hi0 hi1
                                        · refine z_ite _ (fun hk9 => ?_) (fun hn18 => ?_)
                                          · refine z_tswIn (pc := 44) (tgt := 1422) 18 hk9 X dL_law_44 (by decide) (by decide) rfl (by decide) ?_
                                            exact cL_k18 K b L xs X hnL hscr hL9 ((some ([] : zH).length)) ((some x2.length)) ((some y4.length)) ((some h5.length)) s12 hi0 hi1
                                          · refine z_ite _ (fun hk9 => ?_) (fun hn19 => ?_)
                                            · refine z_tswIn (pc := 44) (tgt := 1478) 19 hk9 X dL_law_44 (by decide) (by decide) rfl (by decide) ?_
                                              exact cL_k19 K b L xs X hnL hscr hL9 ((some ([] : zH).length)) ((some x2.length)) ((some y4.length)) ((some h5.length)) s12 hi0 hi1
                                            · refine z_ite _ (fun hk9 => ?_) (fun hn20 => ?_)
                                              · refine z_tswIn (pc := 44) (tgt := 1534) 20 hk9 X dL_law_44 (by decide) (by decide) rfl (by decide) ?_
                                                exact cL_k20 K b L xs X hnL hscr hL9 ((some ([] : zH).length)) ((some x2.length)) ((some y4.length)) ((some h5.length)) s12 hi0 hi1
                                              · refine z_ite _ (fun hk9 => ?_) (fun hn21 => ?_)
                                                · refine z_tswIn (pc := 44) (tgt := 1547) 21 hk9 X dL_law_44 (by decide) (by decide) rfl (by decide) ?_
                                                  exact cL_k21 K b L xs X hnL hscr hL9 ((some ([] : zH).length)) ((some x2.length)) ((some y4.length)) ((some h5.length)) s12 hi0 hi1
                                                · refine z_ite _ (fun hk9 => ?_) (fun hn22 => ?_)
                                                  · refine z_tswIn (pc := 44) (tgt := 1603) 22 hk9 X dL_law_44 (by decide) (by decide) rfl (by decide) ?_
                                                    exact cL_k22 K b L xs X hnL hscr hL9 ((some ([] : zH).length)) ((some x2.length)) ((some y4.length)) ((some h5.length)) s12 hi0 hi1
                                                  · refine z_ite _ (fun hk9 => ?_) (fun hn23 => ?_)
                                                    · refine z_tswIn (pc := 44) (tgt := 1671) 23 hk9 X dL_law_44 (by decide) (by decide) rfl (by decide) ?_
                                                      exact cL_k23 K b L xs X hnL hscr hL9 ((some ([] : zH).length)) ((some x2.length)) ((some y4.length)) ((some h5.length)) s12 hi0 hi1
                                                    · refine z_ite _ (fun hk9 => ?_) (fun hn24 => ?_)
                                                      · refine z_tswIn (pc := 44) (tgt := 1727) 24 hk9 X dL_law_44 (by decide) (by decide) rfl (by decide) ?_
                                                        exact cL_k24 K b L xs X hnL hscr hL9 ((some ([] : zH).length)) ((some x2.length)) ((some y4.length)) ((some h5.length)) s12 hi0 hi1
                                                      · refine z_ite _ (fun hk9 => ?_) (fun hn25 => ?_)
                                                        · refine z_tswIn (pc := 44) (tgt := 1783) 25 hk9 X dL_law_44 (by decide) (by decide) rfl (by decide) ?_
                                                          exact cL_k25 K b L xs X hnL hscr hL9 ((some ([] : zH).length)) ((some x2.length)) ((some y4.length)) ((some h5.length)) s12 hi0 hi1
                                                        · refine z_ite _ (fun hk9 => ?_) (fun hn26 => ?_)
                                                          · refine z_tswIn (pc := 44) (tgt := 1796) 26 hk9 X dL_law_44 (by decide) (by decide) rfl (by decide) ?_
                                                            exact cL_k26 K b L xs X hnL hscr hL9 ((some ([] : zH).length)) ((some x2.length)) ((some y4.length)) ((some h5.length)) s12 hi0 hi1
                                                          · refine z_ite _ (fun hk9 => ?_) (fun hn27 => ?_)
                                                            · refine z_tswIn (pc := 44) (tgt := 1862) 27 hk9 X dL_law_44 (by decide) (by decide) rfl (by decide) ?_
                                                              exact cL_k27 K b L xs X hnL hscr hL9 ((some ([] : zH).length)) ((some x2.length)) ((some y4.length)) ((some h5.length)) s12 hi0 hi1
                                                            · refine z_ite _ (fun hk9 => ?_) (fun hn28 => ?_)
                                                              · refine z_tswIn (pc := 44) (tgt := 1927) 28 hk9 X dL_law_44 (by decide) (by decide) rfl (by decide) ?_
                                                                exact cL_k28 K b L xs X hnL hscr hL9 ((some ([] : zH).length)) ((some x2.length)) ((some y4.length)) ((some h5.length)) s12 hi0 hi1
                                                              · refine z_ite _ (fun hk9 => ?_) (fun hn29 => ?_)
                                                                · refine z_tswIn (pc := 44) (tgt := 1941) 29 hk9 X dL_law_44 (by decide) (by decide) rfl (by decide) ?_
                                                                  exact cL_k29 K b L xs X hnL hscr hL9 ((some ([] : zH).length)) ((some x2.length)) ((some y4.length)) ((some h5.length)) s12 hi0 hi1
                                                                · refine z_tswOut (pc := 44) (tgt := 1954) X dL_law_44 (by omega) (by decide) ?_
                                                                  refine z_iinc (pc := 1954) (i := 5) (n := 5) (lv' := fun v17 => [(5, zI v17), (0, zA b), (1, zR ((some ([] : zH).length))), (2, zR ((some x2.length))), (3, zR ((some y4.length))), (4, zR ((some h5.length)))]) 5 X dL_law_1954 rfl (hN _ (by decide)) (fun _ => rfl) (fun v17 hR9 hv9 => ?_)
                                                                  refine z_goto (pc := 1957) 28 X dL_law_1957 (by decide) ?_
                                                                  refine z_widen (c1 := 40 + (v17).toNat * 8) (s1 := 3000 + (v17).toNat * 64) (by omega) (by omega) ?_
                                                                  refine z_pick [1, 2, 3, 4, 5, 0] (lv' := [(0, zA b), (1, zR ((some ([] : zH).length))), (2, zR ((some x2.length))), (3, zR ((some y4.length))), (4, zR ((some h5.length))), (5, zI v17)]) rfl ?_
                                                                  exact z_back
  · refine z_iconst (pc := 1960) (z := 1) X dL_law_1960 rfl ⟨by decide, by decide⟩ ?_
    exact fun _ _ _ => hret _ _ _ _ _ (by decide) (by decide) dL_law_1961
