-- ===== the start (by program: mk98w.py) =====
def zst7 : zH := [.inr (8, [zR (some 1), zR (some 2), zR (some 3), zR (some 8), zR (some 12), zI 0, zI 0, zL 0, zI 0]),
  .inl (5, 12, .inr (.inr (.inr (fun _ => none)))),
  .inl (6, 40, .inr (.inr (.inr (fun _ => none)))),
  .inr (4, [zR (some 4), zR (some 5), zR (some 6), zR (some 7), zI 0, zI 0]),
  .inl (1, 200, .inr (.inl (fun _ => 0))),
  .inl (0, 200, .inl (fun _ => 0)),
  .inl (0, 200, .inl (fun _ => 0)),
  .inl (0, 200, .inl (fun _ => 0)),
  .inr (3, [zR (some 9), zR (some 10), zR (some 11), zI 115, zI 0, zI 0, zI 0]),
  .inl (0, 40, .inl (fun _ => 0)),
  .inl (2, 40, .inl (fun _ => 0)),
  .inl (0, 40, .inl (fun _ => 0)),
  .inr (5, [zR (some 13), zI 0]),
  .inl (0, 40, .inl (fun _ => 0))]
def zst8 (u v : Nat → Int) : zH := [.inr (8, [zR (some 1), zR (some 2), zR (some 3), zR (some 8), zR (some 12), zI 0, zI 0, zL 0, zI 0]),
  .inl (5, 12, .inr (.inr (.inr (fun _ => none)))),
  .inl (6, 40, .inr (.inr (.inr (fun _ => none)))),
  .inr (4, [zR (some 4), zR (some 5), zR (some 6), zR (some 7), zI 0, zI 0]),
  .inl (1, 200, .inr (.inl (fun _ => 0))),
  .inl (0, 200, .inl (fun _ => 0)),
  .inl (0, 200, .inl (fun _ => 0)),
  .inl (0, 200, .inl (fun _ => 0)),
  .inr (3, [zR (some 9), zR (some 10), zR (some 11), zI 115, zI 0, zI 0, zI 0]),
  .inl (0, 40, .inl (fun _ => 0)),
  .inl (2, 40, .inl (fun _ => 0)),
  .inl (0, 40, .inl (fun _ => 0)),
  .inr (5, [zR (some 13), zI 0]),
  .inl (0, 40, .inl (fun _ => 0)),
  .inr (9, [zR (some 15), zR (some 16), zR (some 17), zR (some 18), zR (some 19), zR (some 20), zR (some 21), zI 0, zR (some 22), zR (some 23), zR (some 24), zR (some 25), zR (some 26), zR (some 27), zI 0, zR (some 28), zR (some 29), zR (some 30), zR (some 31), zI 0, zR (some 32), zR (some 33), zR (some 34), zR (some 35), zR (some 36), zI 0, zL 0, zI 0, zI 0, zI 0]),
  .inl (1, 12, .inr (.inl (fun _ => 0))),
  .inl (1, 12, .inr (.inl (fun _ => 0))),
  .inl (0, 12, .inl (fun _ => 0)),
  .inl (3, 12, .inl (fun _ => 0)),
  .inl (2, 12, .inl (fun _ => 0)),
  .inl (2, 12, .inl (fun _ => 0)),
  .inl (0, 12, .inl (fun _ => 0)),
  .inl (0, 80, .inl u),
  .inl (0, 80, .inl (fun _ => 0)),
  .inl (3, 80, .inl (fun _ => 0)),
  .inl (0, 80, .inl v),
  .inl (2, 40, .inl (fun _ => 0)),
  .inl (0, 40, .inl (fun _ => 0)),
  .inl (1, 200, .inr (.inl (fun _ => 0))),
  .inl (0, 200, .inl (fun _ => 0)),
  .inl (0, 200, .inl (fun _ => 0)),
  .inl (0, 200, .inl (fun _ => 0)),
  .inl (0, 80, .inl (fun _ => 0)),
  .inl (0, 80, .inl (fun _ => 0)),
  .inl (3, 80, .inl (fun _ => 0)),
  .inl (0, 80, .inl (fun _ => 0)),
  .inl (0, 40, .inl (fun _ => 0))]
def zi8 (kk : zH → Option zH) (hp : zH) (a0 : Option Nat) : Option zH :=
  a0.bind fun v1 =>
  (znewa hp 1 12).bind fun h2 =>
  (zpR h2 a0 9 0 ((some hp.length))).bind fun h3 =>
  (znewa h3 1 12).bind fun h4 =>
  (zpR h4 a0 9 1 ((some h3.length))).bind fun h5 =>
  (znewa h5 0 12).bind fun h6 =>
  (zpR h6 a0 9 2 ((some h5.length))).bind fun h7 =>
  (znewa h7 3 12).bind fun h8 =>
  (zpR h8 a0 9 3 ((some h7.length))).bind fun h9 =>
  (znewa h9 2 12).bind fun h10 =>
  (zpR h10 a0 9 4 ((some h9.length))).bind fun h11 =>
  (znewa h11 2 12).bind fun h12 =>
  (zpR h12 a0 9 5 ((some h11.length))).bind fun h13 =>
  (znewa h13 0 12).bind fun h14 =>
  (zpR h14 a0 9 6 ((some h13.length))).bind fun h15 =>
  (znewa h15 0 80).bind fun h16 =>
  (zpR h16 a0 9 8 ((some h15.length))).bind fun h17 =>
  (znewa h17 0 80).bind fun h18 =>
  (zpR h18 a0 9 9 ((some h17.length))).bind fun h19 =>
  (znewa h19 3 80).bind fun h20 =>
  (zpR h20 a0 9 10 ((some h19.length))).bind fun h21 =>
  (znewa h21 0 80).bind fun h22 =>
  (zpR h22 a0 9 11 ((some h21.length))).bind fun h23 =>
  (znewa h23 2 40).bind fun h24 =>
  (zpR h24 a0 9 12 ((some h23.length))).bind fun h25 =>
  (znewa h25 0 40).bind fun h26 =>
  (zpR h26 a0 9 13 ((some h25.length))).bind fun h27 =>
  (znewa h27 1 200).bind fun h28 =>
  (zpR h28 a0 9 15 ((some h27.length))).bind fun h29 =>
  (znewa h29 0 200).bind fun h30 =>
  (zpR h30 a0 9 16 ((some h29.length))).bind fun h31 =>
  (znewa h31 0 200).bind fun h32 =>
  (zpR h32 a0 9 17 ((some h31.length))).bind fun h33 =>
  (znewa h33 0 200).bind fun h34 =>
  (zpR h34 a0 9 18 ((some h33.length))).bind fun h35 =>
  (znewa h35 0 80).bind fun h36 =>
  (zpR h36 a0 9 20 ((some h35.length))).bind fun h37 =>
  (znewa h37 0 80).bind fun h38 =>
  (zpR h38 a0 9 21 ((some h37.length))).bind fun h39 =>
  (znewa h39 3 80).bind fun h40 =>
  (zpR h40 a0 9 22 ((some h39.length))).bind fun h41 =>
  (znewa h41 0 80).bind fun h42 =>
  (zpR h42 a0 9 23 ((some h41.length))).bind fun h43 =>
  (znewa h43 0 40).bind fun h44 =>
  (zpR h44 a0 9 24 ((some h43.length))).bind fun h45 =>
  kk h45
theorem i_7 : X7_init [.inr (8, nf_X7)] (some 0) = some zst7 := rfl
theorem i_8u : X8_init (zst7 ++ [.inr (9, nf_X8)]) (some 14) = zi8 (fun h => (zloop (X8_init_b186 (some 14)) zN (0, h)).bind fun e => some e) (zst7 ++ [.inr (9, nf_X8)]) (some 14) := rfl
theorem i_8k (kk : zH → Option zH) : zi8 kk (zst7 ++ [.inr (9, nf_X8)]) (some 14) = kk (zst8 (fun _ => 0) (fun _ => 0)) := rfl
theorem i_s22 {u v : Nat → Int} {i : Int} (h : 0 ≤ i ∧ i < 80) : zsI (zst8 u v) 0 (some 22) i (-1) = some (zst8 (zup u i.toNat (-1)) v) := by
  have hz : zarr (zst8 u v) (some 22) 0 i = some (22, 80, .inl u) := by
    show ((if 0 = 0 ∧ 0 ≤ i ∧ i < ((80 : Nat) : Int) then some (80, (.inl u : zC)) else none).bind fun q => some (22, q)) = _
    rw [if_pos ⟨rfl, h⟩]
    rfl
  unfold zsI
  rw [hz]
  rfl
theorem i_s25 {u v : Nat → Int} {i : Int} (h : 0 ≤ i ∧ i < 80) : zsI (zst8 u v) 0 (some 25) i (-1) = some (zst8 u (zup v i.toNat (-1))) := by
  have hz : zarr (zst8 u v) (some 25) 0 i = some (25, 80, .inl v) := by
    show ((if 0 = 0 ∧ 0 ≤ i ∧ i < ((80 : Nat) : Int) then some (80, (.inl v : zC)) else none).bind fun q => some (25, q)) = _
    rw [if_pos ⟨rfl, h⟩]
    rfl
  unfold zsI
  rw [hz]
  rfl
def ztl8 (i : Nat) (p : Nat) : Int := if p < i then -1 else 0
theorem ztl8_up {i : Nat} : zup (ztl8 i) i (-1) = ztl8 (i + 1) := by
  funext p
  unfold zup ztl8
  by_cases c : p = i
  · rw [if_pos c, if_pos (by omega)]
  · rw [if_neg c]
    by_cases c2 : p < i
    · rw [if_pos c2, if_pos (by omega)]
    · rw [if_neg c2, if_neg (by omega)]
theorem i_loop : zloop (X8_init_b186 (some 14)) zN (0, zst8 (fun _ => 0) (fun _ => 0)) = some (zst8 (ztl8 80) (ztl8 80)) := by
  have e : (fun _ => 0 : Nat → Int) = ztl8 0 := by
    funext p
    exact (if_neg (by omega)).symm
  rw [e]
  refine zloop_0 (fun i => ((i : Int), zst8 (ztl8 i) (ztl8 i))) 80 (fun i hi => ?_) ?_ (by omega)
  · unfold X8_init_b186
    simp only
    rw [if_neg (by omega), show zgR (zst8 (ztl8 i) (ztl8 i)) (some 14) 9 8 = some (some 22) from rfl, zb, i_s22 (by omega), zb, show ∀ w, zgR (zst8 w (ztl8 i)) (some 14) 9 11 = some (some 25) from fun _ => rfl, zb, i_s25 (by omega), zb, zckb (by omega) (by omega), Int.toNat_natCast, ztl8_up]
    rfl
  · rfl
theorem i_8 : X8_init (zst7 ++ [.inr (9, nf_X8)]) (some 14) = some (zst8 (ztl8 80) (ztl8 80)) := by
  rw [i_8u, i_8k, i_loop]
  rfl
theorem i_nm : znm (zst8 (ztl8 80) (ztl8 80)) = zst8 (fun _ => -1) (ztl8 80) := by
  have e : (fun j => if j < 80 then ztl8 80 j else -1) = (fun _ => -1 : Nat → Int) := by
    funext j
    by_cases c : j < 80
    · rw [if_pos c]
      exact if_pos c
    · exact if_neg c
  show zst8 (fun j => if j < 80 then ztl8 80 j else -1) (ztl8 80) = _
  rw [e]
def zA0 : zIT := fun c p => if c = 8 ∧ p = 3 then 115 else 0
def zI0 : zIT := fun c p => if c = 22 then -1 else if c = 25 then ztl8 80 p else 0
def zL0 : zLT := fun _ _ => 0
def zF0 : zFT := fun _ _ => none
def zE0 : zET := fun _ _ => 0
theorem i_M : zst8 (fun _ => -1) (ztl8 80) ++ [.inl (1, 1, .inr (.inl (fun _ => 0)))] ++ [.inl (4, 1, .inr (.inr (.inl (fun _ => 0))))] = zM zA0 zL0 zI0 zL0 zF0 zE0 [] := rfl
theorem i_W : zWw 0 zA0 zL0 zI0 zL0 zF0 [] := by
  have h7 : zI0 14 7 = 0 := rfl
  have h14 : zI0 14 14 = 0 := rfl
  have h19 : zI0 14 19 = 0 := rfl
  have h22 : ∀ p, zI0 22 p = -1 := fun _ => rfl
  refine ⟨fun _ => 0, fun _ => 0, fun _ => none, fun _ => 0, ⟨⟨?_, fun _ _ => rfl⟩, ⟨?_, fun _ _ => rfl⟩, fun p _ => Or.inl ⟨h22 p, rfl⟩, ⟨rfl, by decide, by decide, fun _ => rfl, ?_⟩, rfl, rfl, rfl, rfl⟩, ⟨?_, ?_, ?_, ?_, ?_, fun p _ => h22 p, ?_, ?_, ?_, ?_, ?_, zVt_w rfl rfl, ?_⟩, ?_, by decide, by decide⟩
  · intro s hs
    rw [h7] at hs
    omega
  · intro s hs
    rw [h14] at hs
    omega
  · intro s hs
    rw [h19] at hs
    omega
  · unfold zB
    rw [h7, h14, h19]
    omega
  · intro s hs
    rw [h7] at hs
    omega
  · exact fun s _ => ⟨rfl, rfl, rfl⟩
  · intro s t hs
    rw [h7] at hs
    omega
  · exact fun p _ h => absurd (h22 p) h
  · exact fun p q _ _ _ h => absurd (h22 p) h
  · exact fun p q _ _ h => absurd (h22 p) h
  · intro d _
    refine ⟨Or.inl rfl, fun _ => rfl, fun h => ?_, fun h => absurd (show zI0 26 d = 0 from rfl) (by omega)⟩
    rw [h14] at h
    omega
  · intro d hd
    rw [h14] at hd
    omega
  · intro s hs
    rw [h19] at hs
    omega
  · exact fun p _ => by
      rw [show zI0 24 p = 0 from rfl]
      omega
  · intro d hd
    rw [h14] at hd
    omega
theorem law_totalN (b : Nat) (xs : Nat → Int32) (L : Nat) (hL : L ≤ 2560) : L_lawN b xs L = some () := by
  obtain ⟨e, he⟩ := s_loop (E := zE0) (xs := xs) (N := L) (b := b) i_W hL
  unfold L_lawN
  rw [show znew ([] : zH) 8 nf_X7 = some [.inr (8, nf_X7)] from rfl, zb]
  rw [show (zobj [.inr (8, nf_X7)] (some ([] : zH).length) 8) = some (0, nf_X7) from rfl, zb, show (some ([] : zH).length) = some 0 from rfl, i_7, zb]
  rw [show znew zst7 9 nf_X8 = some (zst7 ++ [.inr (9, nf_X8)]) from rfl, zb]
  rw [show (some zst7.length) = some 14 from rfl, show (zobj (zst7 ++ [.inr (9, nf_X8)]) (some 14) 9) = some (14, nf_X8) from rfl, zb, i_8, zb, zb, i_nm]
  rw [show znewa (zst8 (fun _ => -1) (ztl8 80)) 1 1 = some (zst8 (fun _ => -1) (ztl8 80) ++ [.inl (1, 1, .inr (.inl (fun _ => 0)))]) from rfl, zb]
  rw [show ∀ h, znewa h 4 1 = some (h ++ [.inl (4, 1, .inr (.inr (.inl (fun _ => 0))))]) from fun _ => rfl, zb, i_M]
  rw [show (some (zst8 (fun _ => -1) (ztl8 80)).length) = some 37 from rfl, show ∀ x : zCell, (some (zst8 (fun _ => -1) (ztl8 80) ++ [x]).length) = some 38 from fun _ => rfl, he, zb]
