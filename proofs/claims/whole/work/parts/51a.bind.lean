/-! the rows of 50 and 51 before a bind (by program) -/
theorem zo_0b {A : zIT} {K : zLT} {I : zIT} {L : zLT} {F : zFT} {E : zET} {dyn : zH} {β : Type} {ff : _ → Option β} : (zobj (zM A K I L F E dyn) (some 0) 8).bind ff = ff (0, [zR (some 1), zR (some 2), zR (some 3), zR (some 8), zR (some 12), zI (A 0 5), zI (A 0 6), zL (K 0 7), zI (A 0 8)]) := by
  rw [zo_0]
  rfl
theorem zg_0_0b {A : zIT} {K : zLT} {I : zIT} {L : zLT} {F : zFT} {E : zET} {dyn : zH} {β : Type} {ff : _ → Option β} : (zgR (zM A K I L F E dyn) (some 0) 8 0).bind ff = ff (some 1) := by
  rw [zg_0_0]
  rfl
theorem zg_0_1b {A : zIT} {K : zLT} {I : zIT} {L : zLT} {F : zFT} {E : zET} {dyn : zH} {β : Type} {ff : _ → Option β} : (zgR (zM A K I L F E dyn) (some 0) 8 1).bind ff = ff (some 2) := by
  rw [zg_0_1]
  rfl
theorem zg_0_2b {A : zIT} {K : zLT} {I : zIT} {L : zLT} {F : zFT} {E : zET} {dyn : zH} {β : Type} {ff : _ → Option β} : (zgR (zM A K I L F E dyn) (some 0) 8 2).bind ff = ff (some 3) := by
  rw [zg_0_2]
  rfl
theorem zg_0_3b {A : zIT} {K : zLT} {I : zIT} {L : zLT} {F : zFT} {E : zET} {dyn : zH} {β : Type} {ff : _ → Option β} : (zgR (zM A K I L F E dyn) (some 0) 8 3).bind ff = ff (some 8) := by
  rw [zg_0_3]
  rfl
theorem zg_0_4b {A : zIT} {K : zLT} {I : zIT} {L : zLT} {F : zFT} {E : zET} {dyn : zH} {β : Type} {ff : _ → Option β} : (zgR (zM A K I L F E dyn) (some 0) 8 4).bind ff = ff (some 12) := by
  rw [zg_0_4]
  rfl
theorem zg_0_5b {A : zIT} {K : zLT} {I : zIT} {L : zLT} {F : zFT} {E : zET} {dyn : zH} {β : Type} {ff : _ → Option β} : (zgI (zM A K I L F E dyn) (some 0) 8 5).bind ff = ff (A 0 5) := by
  rw [zg_0_5]
  rfl
theorem zp_0_5b {A : zIT} {K : zLT} {I : zIT} {L : zLT} {F : zFT} {E : zET} {dyn : zH} {v : Int} {β : Type} {ff : _ → Option β} : (zpI (zM A K I L F E dyn) (some 0) 8 5 v).bind ff = ff (zM (zu A 0 5 v) K I L F E dyn) := by
  rw [zp_0_5]
  rfl
theorem zg_0_6b {A : zIT} {K : zLT} {I : zIT} {L : zLT} {F : zFT} {E : zET} {dyn : zH} {β : Type} {ff : _ → Option β} : (zgI (zM A K I L F E dyn) (some 0) 8 6).bind ff = ff (A 0 6) := by
  rw [zg_0_6]
  rfl
theorem zp_0_6b {A : zIT} {K : zLT} {I : zIT} {L : zLT} {F : zFT} {E : zET} {dyn : zH} {v : Int} {β : Type} {ff : _ → Option β} : (zpI (zM A K I L F E dyn) (some 0) 8 6 v).bind ff = ff (zM (zu A 0 6 v) K I L F E dyn) := by
  rw [zp_0_6]
  rfl
theorem zg_0_7b {A : zIT} {K : zLT} {I : zIT} {L : zLT} {F : zFT} {E : zET} {dyn : zH} {β : Type} {ff : _ → Option β} : (zgJ (zM A K I L F E dyn) (some 0) 8 7).bind ff = ff (K 0 7) := by
  rw [zg_0_7]
  rfl
theorem zp_0_7b {A : zIT} {K : zLT} {I : zIT} {L : zLT} {F : zFT} {E : zET} {dyn : zH} {v : Int64} {β : Type} {ff : _ → Option β} : (zpJ (zM A K I L F E dyn) (some 0) 8 7 v).bind ff = ff (zM A (zu K 0 7 v) I L F E dyn) := by
  rw [zp_0_7]
  rfl
theorem zg_0_8b {A : zIT} {K : zLT} {I : zIT} {L : zLT} {F : zFT} {E : zET} {dyn : zH} {β : Type} {ff : _ → Option β} : (zgI (zM A K I L F E dyn) (some 0) 8 8).bind ff = ff (A 0 8) := by
  rw [zg_0_8]
  rfl
theorem zp_0_8b {A : zIT} {K : zLT} {I : zIT} {L : zLT} {F : zFT} {E : zET} {dyn : zH} {v : Int} {β : Type} {ff : _ → Option β} : (zpI (zM A K I L F E dyn) (some 0) 8 8 v).bind ff = ff (zM (zu A 0 8 v) K I L F E dyn) := by
  rw [zp_0_8]
  rfl
theorem za_1b {A : zIT} {K : zLT} {I : zIT} {L : zLT} {F : zFT} {E : zET} {dyn : zH} {i : Int} (h0 : 0 ≤ i) (h1 : i < 12) {β : Type} {ff : _ → Option β} : (zaR (zM A K I L F E dyn) 5 (some 1) i).bind ff = ff (F 1 i.toNat) := by
  rw [za_1 h0 h1]
  rfl
theorem zs_1b {A : zIT} {K : zLT} {I : zIT} {L : zLT} {F : zFT} {E : zET} {dyn : zH} {i : Int} {q : Nat} {fs : List zPV} (h0 : 0 ≤ i) (h1 : i < 12) (hq : zobj (zM A K I L F E dyn) (some q) 7 = some (q, fs)) {β : Type} {ff : _ → Option β} : (zsR (zM A K I L F E dyn) 5 (some 1) i (some q) 7).bind ff = ff (zM A K I L (zu F 1 i.toNat (some q)) E dyn) := by
  rw [zs_1 h0 h1 hq]
  rfl
theorem zl_1b {A : zIT} {K : zLT} {I : zIT} {L : zLT} {F : zFT} {E : zET} {dyn : zH} {β : Type} {ff : _ → Option β} : (zlen (zM A K I L F E dyn) (some 1)).bind ff = ff 12 := by
  rw [zl_1]
  rfl
theorem za_2b {A : zIT} {K : zLT} {I : zIT} {L : zLT} {F : zFT} {E : zET} {dyn : zH} {i : Int} (h0 : 0 ≤ i) (h1 : i < 40) {β : Type} {ff : _ → Option β} : (zaR (zM A K I L F E dyn) 6 (some 2) i).bind ff = ff (F 2 i.toNat) := by
  rw [za_2 h0 h1]
  rfl
theorem zs_2b {A : zIT} {K : zLT} {I : zIT} {L : zLT} {F : zFT} {E : zET} {dyn : zH} {i : Int} {q : Nat} {fs : List zPV} (h0 : 0 ≤ i) (h1 : i < 40) (hq : zobj (zM A K I L F E dyn) (some q) 2 = some (q, fs)) {β : Type} {ff : _ → Option β} : (zsR (zM A K I L F E dyn) 6 (some 2) i (some q) 2).bind ff = ff (zM A K I L (zu F 2 i.toNat (some q)) E dyn) := by
  rw [zs_2 h0 h1 hq]
  rfl
theorem zl_2b {A : zIT} {K : zLT} {I : zIT} {L : zLT} {F : zFT} {E : zET} {dyn : zH} {β : Type} {ff : _ → Option β} : (zlen (zM A K I L F E dyn) (some 2)).bind ff = ff 40 := by
  rw [zl_2]
  rfl
theorem zo_3b {A : zIT} {K : zLT} {I : zIT} {L : zLT} {F : zFT} {E : zET} {dyn : zH} {β : Type} {ff : _ → Option β} : (zobj (zM A K I L F E dyn) (some 3) 4).bind ff = ff (3, [zR (some 4), zR (some 5), zR (some 6), zR (some 7), zI (A 3 4), zI (A 3 5)]) := by
  rw [zo_3]
  rfl
theorem zg_3_0b {A : zIT} {K : zLT} {I : zIT} {L : zLT} {F : zFT} {E : zET} {dyn : zH} {β : Type} {ff : _ → Option β} : (zgR (zM A K I L F E dyn) (some 3) 4 0).bind ff = ff (some 4) := by
  rw [zg_3_0]
  rfl
theorem zg_3_1b {A : zIT} {K : zLT} {I : zIT} {L : zLT} {F : zFT} {E : zET} {dyn : zH} {β : Type} {ff : _ → Option β} : (zgR (zM A K I L F E dyn) (some 3) 4 1).bind ff = ff (some 5) := by
  rw [zg_3_1]
  rfl
theorem zg_3_2b {A : zIT} {K : zLT} {I : zIT} {L : zLT} {F : zFT} {E : zET} {dyn : zH} {β : Type} {ff : _ → Option β} : (zgR (zM A K I L F E dyn) (some 3) 4 2).bind ff = ff (some 6) := by
  rw [zg_3_2]
  rfl
theorem zg_3_3b {A : zIT} {K : zLT} {I : zIT} {L : zLT} {F : zFT} {E : zET} {dyn : zH} {β : Type} {ff : _ → Option β} : (zgR (zM A K I L F E dyn) (some 3) 4 3).bind ff = ff (some 7) := by
  rw [zg_3_3]
  rfl
theorem zg_3_4b {A : zIT} {K : zLT} {I : zIT} {L : zLT} {F : zFT} {E : zET} {dyn : zH} {β : Type} {ff : _ → Option β} : (zgI (zM A K I L F E dyn) (some 3) 4 4).bind ff = ff (A 3 4) := by
  rw [zg_3_4]
  rfl
theorem zp_3_4b {A : zIT} {K : zLT} {I : zIT} {L : zLT} {F : zFT} {E : zET} {dyn : zH} {v : Int} {β : Type} {ff : _ → Option β} : (zpI (zM A K I L F E dyn) (some 3) 4 4 v).bind ff = ff (zM (zu A 3 4 v) K I L F E dyn) := by
  rw [zp_3_4]
  rfl
theorem zg_3_5b {A : zIT} {K : zLT} {I : zIT} {L : zLT} {F : zFT} {E : zET} {dyn : zH} {β : Type} {ff : _ → Option β} : (zgI (zM A K I L F E dyn) (some 3) 4 5).bind ff = ff (A 3 5) := by
  rw [zg_3_5]
  rfl
theorem zp_3_5b {A : zIT} {K : zLT} {I : zIT} {L : zLT} {F : zFT} {E : zET} {dyn : zH} {v : Int} {β : Type} {ff : _ → Option β} : (zpI (zM A K I L F E dyn) (some 3) 4 5 v).bind ff = ff (zM (zu A 3 5 v) K I L F E dyn) := by
  rw [zp_3_5]
  rfl
theorem za_4b {A : zIT} {K : zLT} {I : zIT} {L : zLT} {F : zFT} {E : zET} {dyn : zH} {i : Int} (h0 : 0 ≤ i) (h1 : i < 200) {β : Type} {ff : _ → Option β} : (zaJ (zM A K I L F E dyn) (some 4) i).bind ff = ff (K 4 i.toNat) := by
  rw [za_4 h0 h1]
  rfl
theorem zs_4b {A : zIT} {K : zLT} {I : zIT} {L : zLT} {F : zFT} {E : zET} {dyn : zH} {i : Int} {v : Int64} (h0 : 0 ≤ i) (h1 : i < 200) {β : Type} {ff : _ → Option β} : (zsJ (zM A K I L F E dyn) (some 4) i v).bind ff = ff (zM A (zu K 4 i.toNat v) I L F E dyn) := by
  rw [zs_4 h0 h1]
  rfl
theorem zl_4b {A : zIT} {K : zLT} {I : zIT} {L : zLT} {F : zFT} {E : zET} {dyn : zH} {β : Type} {ff : _ → Option β} : (zlen (zM A K I L F E dyn) (some 4)).bind ff = ff 200 := by
  rw [zl_4]
  rfl
theorem za_5b {A : zIT} {K : zLT} {I : zIT} {L : zLT} {F : zFT} {E : zET} {dyn : zH} {i : Int} (h0 : 0 ≤ i) (h1 : i < 200) {β : Type} {ff : _ → Option β} : (zaI (zM A K I L F E dyn) 0 (some 5) i).bind ff = ff (A 5 i.toNat) := by
  rw [za_5 h0 h1]
  rfl
theorem zs_5b {A : zIT} {K : zLT} {I : zIT} {L : zLT} {F : zFT} {E : zET} {dyn : zH} {i v : Int} (h0 : 0 ≤ i) (h1 : i < 200) {β : Type} {ff : _ → Option β} : (zsI (zM A K I L F E dyn) 0 (some 5) i v).bind ff = ff (zM (zu A 5 i.toNat v) K I L F E dyn) := by
  rw [zs_5 h0 h1]
  rfl
theorem zl_5b {A : zIT} {K : zLT} {I : zIT} {L : zLT} {F : zFT} {E : zET} {dyn : zH} {β : Type} {ff : _ → Option β} : (zlen (zM A K I L F E dyn) (some 5)).bind ff = ff 200 := by
  rw [zl_5]
  rfl
theorem za_6b {A : zIT} {K : zLT} {I : zIT} {L : zLT} {F : zFT} {E : zET} {dyn : zH} {i : Int} (h0 : 0 ≤ i) (h1 : i < 200) {β : Type} {ff : _ → Option β} : (zaI (zM A K I L F E dyn) 0 (some 6) i).bind ff = ff (A 6 i.toNat) := by
  rw [za_6 h0 h1]
  rfl
theorem zs_6b {A : zIT} {K : zLT} {I : zIT} {L : zLT} {F : zFT} {E : zET} {dyn : zH} {i v : Int} (h0 : 0 ≤ i) (h1 : i < 200) {β : Type} {ff : _ → Option β} : (zsI (zM A K I L F E dyn) 0 (some 6) i v).bind ff = ff (zM (zu A 6 i.toNat v) K I L F E dyn) := by
  rw [zs_6 h0 h1]
  rfl
theorem zl_6b {A : zIT} {K : zLT} {I : zIT} {L : zLT} {F : zFT} {E : zET} {dyn : zH} {β : Type} {ff : _ → Option β} : (zlen (zM A K I L F E dyn) (some 6)).bind ff = ff 200 := by
  rw [zl_6]
  rfl
theorem za_7b {A : zIT} {K : zLT} {I : zIT} {L : zLT} {F : zFT} {E : zET} {dyn : zH} {i : Int} (h0 : 0 ≤ i) (h1 : i < 200) {β : Type} {ff : _ → Option β} : (zaI (zM A K I L F E dyn) 0 (some 7) i).bind ff = ff (A 7 i.toNat) := by
  rw [za_7 h0 h1]
  rfl
theorem zs_7b {A : zIT} {K : zLT} {I : zIT} {L : zLT} {F : zFT} {E : zET} {dyn : zH} {i v : Int} (h0 : 0 ≤ i) (h1 : i < 200) {β : Type} {ff : _ → Option β} : (zsI (zM A K I L F E dyn) 0 (some 7) i v).bind ff = ff (zM (zu A 7 i.toNat v) K I L F E dyn) := by
  rw [zs_7 h0 h1]
  rfl
theorem zl_7b {A : zIT} {K : zLT} {I : zIT} {L : zLT} {F : zFT} {E : zET} {dyn : zH} {β : Type} {ff : _ → Option β} : (zlen (zM A K I L F E dyn) (some 7)).bind ff = ff 200 := by
  rw [zl_7]
  rfl
theorem zo_8b {A : zIT} {K : zLT} {I : zIT} {L : zLT} {F : zFT} {E : zET} {dyn : zH} {β : Type} {ff : _ → Option β} : (zobj (zM A K I L F E dyn) (some 8) 3).bind ff = ff (8, [zR (some 9), zR (some 10), zR (some 11), zI (A 8 3), zI (A 8 4), zI (A 8 5), zI (A 8 6)]) := by
  rw [zo_8]
  rfl
theorem zg_8_0b {A : zIT} {K : zLT} {I : zIT} {L : zLT} {F : zFT} {E : zET} {dyn : zH} {β : Type} {ff : _ → Option β} : (zgR (zM A K I L F E dyn) (some 8) 3 0).bind ff = ff (some 9) := by
  rw [zg_8_0]
  rfl
theorem zg_8_1b {A : zIT} {K : zLT} {I : zIT} {L : zLT} {F : zFT} {E : zET} {dyn : zH} {β : Type} {ff : _ → Option β} : (zgR (zM A K I L F E dyn) (some 8) 3 1).bind ff = ff (some 10) := by
  rw [zg_8_1]
  rfl
theorem zg_8_2b {A : zIT} {K : zLT} {I : zIT} {L : zLT} {F : zFT} {E : zET} {dyn : zH} {β : Type} {ff : _ → Option β} : (zgR (zM A K I L F E dyn) (some 8) 3 2).bind ff = ff (some 11) := by
  rw [zg_8_2]
  rfl
theorem zg_8_3b {A : zIT} {K : zLT} {I : zIT} {L : zLT} {F : zFT} {E : zET} {dyn : zH} {β : Type} {ff : _ → Option β} : (zgI (zM A K I L F E dyn) (some 8) 3 3).bind ff = ff (A 8 3) := by
  rw [zg_8_3]
  rfl
theorem zp_8_3b {A : zIT} {K : zLT} {I : zIT} {L : zLT} {F : zFT} {E : zET} {dyn : zH} {v : Int} (hv : 0 ≤ v ∧ v ≤ 65535) {β : Type} {ff : _ → Option β} : (zpC (zM A K I L F E dyn) (some 8) 3 3 v).bind ff = ff (zM (zu A 8 3 v) K I L F E dyn) := by
  rw [zp_8_3 hv]
  rfl
theorem zg_8_4b {A : zIT} {K : zLT} {I : zIT} {L : zLT} {F : zFT} {E : zET} {dyn : zH} {β : Type} {ff : _ → Option β} : (zgI (zM A K I L F E dyn) (some 8) 3 4).bind ff = ff (A 8 4) := by
  rw [zg_8_4]
  rfl
theorem zp_8_4b {A : zIT} {K : zLT} {I : zIT} {L : zLT} {F : zFT} {E : zET} {dyn : zH} {v : Int} (hv : v = 0 ∨ v = 1) {β : Type} {ff : _ → Option β} : (zpZ (zM A K I L F E dyn) (some 8) 3 4 v).bind ff = ff (zM (zu A 8 4 v) K I L F E dyn) := by
  rw [zp_8_4 hv]
  rfl
theorem zg_8_5b {A : zIT} {K : zLT} {I : zIT} {L : zLT} {F : zFT} {E : zET} {dyn : zH} {β : Type} {ff : _ → Option β} : (zgI (zM A K I L F E dyn) (some 8) 3 5).bind ff = ff (A 8 5) := by
  rw [zg_8_5]
  rfl
theorem zp_8_5b {A : zIT} {K : zLT} {I : zIT} {L : zLT} {F : zFT} {E : zET} {dyn : zH} {v : Int} {β : Type} {ff : _ → Option β} : (zpI (zM A K I L F E dyn) (some 8) 3 5 v).bind ff = ff (zM (zu A 8 5 v) K I L F E dyn) := by
  rw [zp_8_5]
  rfl
theorem zg_8_6b {A : zIT} {K : zLT} {I : zIT} {L : zLT} {F : zFT} {E : zET} {dyn : zH} {β : Type} {ff : _ → Option β} : (zgI (zM A K I L F E dyn) (some 8) 3 6).bind ff = ff (A 8 6) := by
  rw [zg_8_6]
  rfl
theorem zp_8_6b {A : zIT} {K : zLT} {I : zIT} {L : zLT} {F : zFT} {E : zET} {dyn : zH} {v : Int} {β : Type} {ff : _ → Option β} : (zpI (zM A K I L F E dyn) (some 8) 3 6 v).bind ff = ff (zM (zu A 8 6 v) K I L F E dyn) := by
  rw [zp_8_6]
  rfl
theorem za_9b {A : zIT} {K : zLT} {I : zIT} {L : zLT} {F : zFT} {E : zET} {dyn : zH} {i : Int} (h0 : 0 ≤ i) (h1 : i < 40) {β : Type} {ff : _ → Option β} : (zaI (zM A K I L F E dyn) 0 (some 9) i).bind ff = ff (A 9 i.toNat) := by
  rw [za_9 h0 h1]
  rfl
theorem zs_9b {A : zIT} {K : zLT} {I : zIT} {L : zLT} {F : zFT} {E : zET} {dyn : zH} {i v : Int} (h0 : 0 ≤ i) (h1 : i < 40) {β : Type} {ff : _ → Option β} : (zsI (zM A K I L F E dyn) 0 (some 9) i v).bind ff = ff (zM (zu A 9 i.toNat v) K I L F E dyn) := by
  rw [zs_9 h0 h1]
  rfl
theorem zl_9b {A : zIT} {K : zLT} {I : zIT} {L : zLT} {F : zFT} {E : zET} {dyn : zH} {β : Type} {ff : _ → Option β} : (zlen (zM A K I L F E dyn) (some 9)).bind ff = ff 40 := by
  rw [zl_9]
  rfl
theorem za_10b {A : zIT} {K : zLT} {I : zIT} {L : zLT} {F : zFT} {E : zET} {dyn : zH} {i : Int} (h0 : 0 ≤ i) (h1 : i < 40) {β : Type} {ff : _ → Option β} : (zaI (zM A K I L F E dyn) 2 (some 10) i).bind ff = ff (A 10 i.toNat) := by
  rw [za_10 h0 h1]
  rfl
theorem zs_10b {A : zIT} {K : zLT} {I : zIT} {L : zLT} {F : zFT} {E : zET} {dyn : zH} {i v : Int} (h0 : 0 ≤ i) (h1 : i < 40) (hv : v = 0 ∨ v = 1) {β : Type} {ff : _ → Option β} : (zsI (zM A K I L F E dyn) 2 (some 10) i v).bind ff = ff (zM (zu A 10 i.toNat v) K I L F E dyn) := by
  rw [zs_10 h0 h1 hv]
  rfl
theorem zl_10b {A : zIT} {K : zLT} {I : zIT} {L : zLT} {F : zFT} {E : zET} {dyn : zH} {β : Type} {ff : _ → Option β} : (zlen (zM A K I L F E dyn) (some 10)).bind ff = ff 40 := by
  rw [zl_10]
  rfl
theorem za_11b {A : zIT} {K : zLT} {I : zIT} {L : zLT} {F : zFT} {E : zET} {dyn : zH} {i : Int} (h0 : 0 ≤ i) (h1 : i < 40) {β : Type} {ff : _ → Option β} : (zaI (zM A K I L F E dyn) 0 (some 11) i).bind ff = ff (A 11 i.toNat) := by
  rw [za_11 h0 h1]
  rfl
theorem zs_11b {A : zIT} {K : zLT} {I : zIT} {L : zLT} {F : zFT} {E : zET} {dyn : zH} {i v : Int} (h0 : 0 ≤ i) (h1 : i < 40) {β : Type} {ff : _ → Option β} : (zsI (zM A K I L F E dyn) 0 (some 11) i v).bind ff = ff (zM (zu A 11 i.toNat v) K I L F E dyn) := by
  rw [zs_11 h0 h1]
  rfl
theorem zl_11b {A : zIT} {K : zLT} {I : zIT} {L : zLT} {F : zFT} {E : zET} {dyn : zH} {β : Type} {ff : _ → Option β} : (zlen (zM A K I L F E dyn) (some 11)).bind ff = ff 40 := by
  rw [zl_11]
  rfl
theorem zo_12b {A : zIT} {K : zLT} {I : zIT} {L : zLT} {F : zFT} {E : zET} {dyn : zH} {β : Type} {ff : _ → Option β} : (zobj (zM A K I L F E dyn) (some 12) 5).bind ff = ff (12, [zR (some 13), zI (A 12 1)]) := by
  rw [zo_12]
  rfl
theorem zg_12_0b {A : zIT} {K : zLT} {I : zIT} {L : zLT} {F : zFT} {E : zET} {dyn : zH} {β : Type} {ff : _ → Option β} : (zgR (zM A K I L F E dyn) (some 12) 5 0).bind ff = ff (some 13) := by
  rw [zg_12_0]
  rfl
theorem zg_12_1b {A : zIT} {K : zLT} {I : zIT} {L : zLT} {F : zFT} {E : zET} {dyn : zH} {β : Type} {ff : _ → Option β} : (zgI (zM A K I L F E dyn) (some 12) 5 1).bind ff = ff (A 12 1) := by
  rw [zg_12_1]
  rfl
theorem zp_12_1b {A : zIT} {K : zLT} {I : zIT} {L : zLT} {F : zFT} {E : zET} {dyn : zH} {v : Int} {β : Type} {ff : _ → Option β} : (zpI (zM A K I L F E dyn) (some 12) 5 1 v).bind ff = ff (zM (zu A 12 1 v) K I L F E dyn) := by
  rw [zp_12_1]
  rfl
theorem za_13b {A : zIT} {K : zLT} {I : zIT} {L : zLT} {F : zFT} {E : zET} {dyn : zH} {i : Int} (h0 : 0 ≤ i) (h1 : i < 40) {β : Type} {ff : _ → Option β} : (zaI (zM A K I L F E dyn) 0 (some 13) i).bind ff = ff (A 13 i.toNat) := by
  rw [za_13 h0 h1]
  rfl
theorem zs_13b {A : zIT} {K : zLT} {I : zIT} {L : zLT} {F : zFT} {E : zET} {dyn : zH} {i v : Int} (h0 : 0 ≤ i) (h1 : i < 40) {β : Type} {ff : _ → Option β} : (zsI (zM A K I L F E dyn) 0 (some 13) i v).bind ff = ff (zM (zu A 13 i.toNat v) K I L F E dyn) := by
  rw [zs_13 h0 h1]
  rfl
theorem zl_13b {A : zIT} {K : zLT} {I : zIT} {L : zLT} {F : zFT} {E : zET} {dyn : zH} {β : Type} {ff : _ → Option β} : (zlen (zM A K I L F E dyn) (some 13)).bind ff = ff 40 := by
  rw [zl_13]
  rfl
theorem zo_14b {A : zIT} {K : zLT} {I : zIT} {L : zLT} {F : zFT} {E : zET} {dyn : zH} {β : Type} {ff : _ → Option β} : (zobj (zM A K I L F E dyn) (some 14) 9).bind ff = ff (14, [zR (some 15), zR (some 16), zR (some 17), zR (some 18), zR (some 19), zR (some 20), zR (some 21), zI (I 14 7), zR (some 22), zR (some 23), zR (some 24), zR (some 25), zR (some 26), zR (some 27), zI (I 14 14), zR (some 28), zR (some 29), zR (some 30), zR (some 31), zI (I 14 19), zR (some 32), zR (some 33), zR (some 34), zR (some 35), zR (some 36), zI (I 14 25), zL (L 14 26), zI (I 14 27), zI (I 14 28), zI (I 14 29)]) := by
  rw [zo_14]
  rfl
theorem zg_14_0b {A : zIT} {K : zLT} {I : zIT} {L : zLT} {F : zFT} {E : zET} {dyn : zH} {β : Type} {ff : _ → Option β} : (zgR (zM A K I L F E dyn) (some 14) 9 0).bind ff = ff (some 15) := by
  rw [zg_14_0]
  rfl
theorem zg_14_1b {A : zIT} {K : zLT} {I : zIT} {L : zLT} {F : zFT} {E : zET} {dyn : zH} {β : Type} {ff : _ → Option β} : (zgR (zM A K I L F E dyn) (some 14) 9 1).bind ff = ff (some 16) := by
  rw [zg_14_1]
  rfl
theorem zg_14_2b {A : zIT} {K : zLT} {I : zIT} {L : zLT} {F : zFT} {E : zET} {dyn : zH} {β : Type} {ff : _ → Option β} : (zgR (zM A K I L F E dyn) (some 14) 9 2).bind ff = ff (some 17) := by
  rw [zg_14_2]
  rfl
theorem zg_14_3b {A : zIT} {K : zLT} {I : zIT} {L : zLT} {F : zFT} {E : zET} {dyn : zH} {β : Type} {ff : _ → Option β} : (zgR (zM A K I L F E dyn) (some 14) 9 3).bind ff = ff (some 18) := by
  rw [zg_14_3]
  rfl
theorem zg_14_4b {A : zIT} {K : zLT} {I : zIT} {L : zLT} {F : zFT} {E : zET} {dyn : zH} {β : Type} {ff : _ → Option β} : (zgR (zM A K I L F E dyn) (some 14) 9 4).bind ff = ff (some 19) := by
  rw [zg_14_4]
  rfl
theorem zg_14_5b {A : zIT} {K : zLT} {I : zIT} {L : zLT} {F : zFT} {E : zET} {dyn : zH} {β : Type} {ff : _ → Option β} : (zgR (zM A K I L F E dyn) (some 14) 9 5).bind ff = ff (some 20) := by
  rw [zg_14_5]
  rfl
theorem zg_14_6b {A : zIT} {K : zLT} {I : zIT} {L : zLT} {F : zFT} {E : zET} {dyn : zH} {β : Type} {ff : _ → Option β} : (zgR (zM A K I L F E dyn) (some 14) 9 6).bind ff = ff (some 21) := by
  rw [zg_14_6]
  rfl
theorem zg_14_7b {A : zIT} {K : zLT} {I : zIT} {L : zLT} {F : zFT} {E : zET} {dyn : zH} {β : Type} {ff : _ → Option β} : (zgI (zM A K I L F E dyn) (some 14) 9 7).bind ff = ff (I 14 7) := by
  rw [zg_14_7]
  rfl
theorem zp_14_7b {A : zIT} {K : zLT} {I : zIT} {L : zLT} {F : zFT} {E : zET} {dyn : zH} {v : Int} {β : Type} {ff : _ → Option β} : (zpI (zM A K I L F E dyn) (some 14) 9 7 v).bind ff = ff (zM A K (zu I 14 7 v) L F E dyn) := by
  rw [zp_14_7]
  rfl
theorem zg_14_8b {A : zIT} {K : zLT} {I : zIT} {L : zLT} {F : zFT} {E : zET} {dyn : zH} {β : Type} {ff : _ → Option β} : (zgR (zM A K I L F E dyn) (some 14) 9 8).bind ff = ff (some 22) := by
  rw [zg_14_8]
  rfl
theorem zg_14_9b {A : zIT} {K : zLT} {I : zIT} {L : zLT} {F : zFT} {E : zET} {dyn : zH} {β : Type} {ff : _ → Option β} : (zgR (zM A K I L F E dyn) (some 14) 9 9).bind ff = ff (some 23) := by
  rw [zg_14_9]
  rfl
theorem zg_14_10b {A : zIT} {K : zLT} {I : zIT} {L : zLT} {F : zFT} {E : zET} {dyn : zH} {β : Type} {ff : _ → Option β} : (zgR (zM A K I L F E dyn) (some 14) 9 10).bind ff = ff (some 24) := by
  rw [zg_14_10]
  rfl
theorem zg_14_11b {A : zIT} {K : zLT} {I : zIT} {L : zLT} {F : zFT} {E : zET} {dyn : zH} {β : Type} {ff : _ → Option β} : (zgR (zM A K I L F E dyn) (some 14) 9 11).bind ff = ff (some 25) := by
  rw [zg_14_11]
  rfl
theorem zg_14_12b {A : zIT} {K : zLT} {I : zIT} {L : zLT} {F : zFT} {E : zET} {dyn : zH} {β : Type} {ff : _ → Option β} : (zgR (zM A K I L F E dyn) (some 14) 9 12).bind ff = ff (some 26) := by
  rw [zg_14_12]
  rfl
theorem zg_14_13b {A : zIT} {K : zLT} {I : zIT} {L : zLT} {F : zFT} {E : zET} {dyn : zH} {β : Type} {ff : _ → Option β} : (zgR (zM A K I L F E dyn) (some 14) 9 13).bind ff = ff (some 27) := by
  rw [zg_14_13]
  rfl
theorem zg_14_14b {A : zIT} {K : zLT} {I : zIT} {L : zLT} {F : zFT} {E : zET} {dyn : zH} {β : Type} {ff : _ → Option β} : (zgI (zM A K I L F E dyn) (some 14) 9 14).bind ff = ff (I 14 14) := by
  rw [zg_14_14]
  rfl
theorem zp_14_14b {A : zIT} {K : zLT} {I : zIT} {L : zLT} {F : zFT} {E : zET} {dyn : zH} {v : Int} {β : Type} {ff : _ → Option β} : (zpI (zM A K I L F E dyn) (some 14) 9 14 v).bind ff = ff (zM A K (zu I 14 14 v) L F E dyn) := by
  rw [zp_14_14]
  rfl
theorem zg_14_15b {A : zIT} {K : zLT} {I : zIT} {L : zLT} {F : zFT} {E : zET} {dyn : zH} {β : Type} {ff : _ → Option β} : (zgR (zM A K I L F E dyn) (some 14) 9 15).bind ff = ff (some 28) := by
  rw [zg_14_15]
  rfl
theorem zg_14_16b {A : zIT} {K : zLT} {I : zIT} {L : zLT} {F : zFT} {E : zET} {dyn : zH} {β : Type} {ff : _ → Option β} : (zgR (zM A K I L F E dyn) (some 14) 9 16).bind ff = ff (some 29) := by
  rw [zg_14_16]
  rfl
theorem zg_14_17b {A : zIT} {K : zLT} {I : zIT} {L : zLT} {F : zFT} {E : zET} {dyn : zH} {β : Type} {ff : _ → Option β} : (zgR (zM A K I L F E dyn) (some 14) 9 17).bind ff = ff (some 30) := by
  rw [zg_14_17]
  rfl
theorem zg_14_18b {A : zIT} {K : zLT} {I : zIT} {L : zLT} {F : zFT} {E : zET} {dyn : zH} {β : Type} {ff : _ → Option β} : (zgR (zM A K I L F E dyn) (some 14) 9 18).bind ff = ff (some 31) := by
  rw [zg_14_18]
  rfl
theorem zg_14_19b {A : zIT} {K : zLT} {I : zIT} {L : zLT} {F : zFT} {E : zET} {dyn : zH} {β : Type} {ff : _ → Option β} : (zgI (zM A K I L F E dyn) (some 14) 9 19).bind ff = ff (I 14 19) := by
  rw [zg_14_19]
  rfl
theorem zp_14_19b {A : zIT} {K : zLT} {I : zIT} {L : zLT} {F : zFT} {E : zET} {dyn : zH} {v : Int} {β : Type} {ff : _ → Option β} : (zpI (zM A K I L F E dyn) (some 14) 9 19 v).bind ff = ff (zM A K (zu I 14 19 v) L F E dyn) := by
  rw [zp_14_19]
  rfl
theorem zg_14_20b {A : zIT} {K : zLT} {I : zIT} {L : zLT} {F : zFT} {E : zET} {dyn : zH} {β : Type} {ff : _ → Option β} : (zgR (zM A K I L F E dyn) (some 14) 9 20).bind ff = ff (some 32) := by
  rw [zg_14_20]
  rfl
theorem zg_14_21b {A : zIT} {K : zLT} {I : zIT} {L : zLT} {F : zFT} {E : zET} {dyn : zH} {β : Type} {ff : _ → Option β} : (zgR (zM A K I L F E dyn) (some 14) 9 21).bind ff = ff (some 33) := by
  rw [zg_14_21]
  rfl
theorem zg_14_22b {A : zIT} {K : zLT} {I : zIT} {L : zLT} {F : zFT} {E : zET} {dyn : zH} {β : Type} {ff : _ → Option β} : (zgR (zM A K I L F E dyn) (some 14) 9 22).bind ff = ff (some 34) := by
  rw [zg_14_22]
  rfl
theorem zg_14_23b {A : zIT} {K : zLT} {I : zIT} {L : zLT} {F : zFT} {E : zET} {dyn : zH} {β : Type} {ff : _ → Option β} : (zgR (zM A K I L F E dyn) (some 14) 9 23).bind ff = ff (some 35) := by
  rw [zg_14_23]
  rfl
theorem zg_14_24b {A : zIT} {K : zLT} {I : zIT} {L : zLT} {F : zFT} {E : zET} {dyn : zH} {β : Type} {ff : _ → Option β} : (zgR (zM A K I L F E dyn) (some 14) 9 24).bind ff = ff (some 36) := by
  rw [zg_14_24]
  rfl
theorem zg_14_25b {A : zIT} {K : zLT} {I : zIT} {L : zLT} {F : zFT} {E : zET} {dyn : zH} {β : Type} {ff : _ → Option β} : (zgI (zM A K I L F E dyn) (some 14) 9 25).bind ff = ff (I 14 25) := by
  rw [zg_14_25]
  rfl
theorem zp_14_25b {A : zIT} {K : zLT} {I : zIT} {L : zLT} {F : zFT} {E : zET} {dyn : zH} {v : Int} {β : Type} {ff : _ → Option β} : (zpI (zM A K I L F E dyn) (some 14) 9 25 v).bind ff = ff (zM A K (zu I 14 25 v) L F E dyn) := by
  rw [zp_14_25]
  rfl
theorem zg_14_26b {A : zIT} {K : zLT} {I : zIT} {L : zLT} {F : zFT} {E : zET} {dyn : zH} {β : Type} {ff : _ → Option β} : (zgJ (zM A K I L F E dyn) (some 14) 9 26).bind ff = ff (L 14 26) := by
  rw [zg_14_26]
  rfl
theorem zp_14_26b {A : zIT} {K : zLT} {I : zIT} {L : zLT} {F : zFT} {E : zET} {dyn : zH} {v : Int64} {β : Type} {ff : _ → Option β} : (zpJ (zM A K I L F E dyn) (some 14) 9 26 v).bind ff = ff (zM A K I (zu L 14 26 v) F E dyn) := by
  rw [zp_14_26]
  rfl
theorem zg_14_27b {A : zIT} {K : zLT} {I : zIT} {L : zLT} {F : zFT} {E : zET} {dyn : zH} {β : Type} {ff : _ → Option β} : (zgI (zM A K I L F E dyn) (some 14) 9 27).bind ff = ff (I 14 27) := by
  rw [zg_14_27]
  rfl
theorem zp_14_27b {A : zIT} {K : zLT} {I : zIT} {L : zLT} {F : zFT} {E : zET} {dyn : zH} {v : Int} {β : Type} {ff : _ → Option β} : (zpI (zM A K I L F E dyn) (some 14) 9 27 v).bind ff = ff (zM A K (zu I 14 27 v) L F E dyn) := by
  rw [zp_14_27]
  rfl
theorem zg_14_28b {A : zIT} {K : zLT} {I : zIT} {L : zLT} {F : zFT} {E : zET} {dyn : zH} {β : Type} {ff : _ → Option β} : (zgI (zM A K I L F E dyn) (some 14) 9 28).bind ff = ff (I 14 28) := by
  rw [zg_14_28]
  rfl
theorem zp_14_28b {A : zIT} {K : zLT} {I : zIT} {L : zLT} {F : zFT} {E : zET} {dyn : zH} {v : Int} {β : Type} {ff : _ → Option β} : (zpI (zM A K I L F E dyn) (some 14) 9 28 v).bind ff = ff (zM A K (zu I 14 28 v) L F E dyn) := by
  rw [zp_14_28]
  rfl
theorem zg_14_29b {A : zIT} {K : zLT} {I : zIT} {L : zLT} {F : zFT} {E : zET} {dyn : zH} {β : Type} {ff : _ → Option β} : (zgI (zM A K I L F E dyn) (some 14) 9 29).bind ff = ff (I 14 29) := by
  rw [zg_14_29]
  rfl
theorem zp_14_29b {A : zIT} {K : zLT} {I : zIT} {L : zLT} {F : zFT} {E : zET} {dyn : zH} {v : Int} {β : Type} {ff : _ → Option β} : (zpI (zM A K I L F E dyn) (some 14) 9 29 v).bind ff = ff (zM A K (zu I 14 29 v) L F E dyn) := by
  rw [zp_14_29]
  rfl
theorem za_15b {A : zIT} {K : zLT} {I : zIT} {L : zLT} {F : zFT} {E : zET} {dyn : zH} {i : Int} (h0 : 0 ≤ i) (h1 : i < 12) {β : Type} {ff : _ → Option β} : (zaJ (zM A K I L F E dyn) (some 15) i).bind ff = ff (L 15 i.toNat) := by
  rw [za_15 h0 h1]
  rfl
theorem zs_15b {A : zIT} {K : zLT} {I : zIT} {L : zLT} {F : zFT} {E : zET} {dyn : zH} {i : Int} {v : Int64} (h0 : 0 ≤ i) (h1 : i < 12) {β : Type} {ff : _ → Option β} : (zsJ (zM A K I L F E dyn) (some 15) i v).bind ff = ff (zM A K I (zu L 15 i.toNat v) F E dyn) := by
  rw [zs_15 h0 h1]
  rfl
theorem zl_15b {A : zIT} {K : zLT} {I : zIT} {L : zLT} {F : zFT} {E : zET} {dyn : zH} {β : Type} {ff : _ → Option β} : (zlen (zM A K I L F E dyn) (some 15)).bind ff = ff 12 := by
  rw [zl_15]
  rfl
theorem za_16b {A : zIT} {K : zLT} {I : zIT} {L : zLT} {F : zFT} {E : zET} {dyn : zH} {i : Int} (h0 : 0 ≤ i) (h1 : i < 12) {β : Type} {ff : _ → Option β} : (zaJ (zM A K I L F E dyn) (some 16) i).bind ff = ff (L 16 i.toNat) := by
  rw [za_16 h0 h1]
  rfl
theorem zs_16b {A : zIT} {K : zLT} {I : zIT} {L : zLT} {F : zFT} {E : zET} {dyn : zH} {i : Int} {v : Int64} (h0 : 0 ≤ i) (h1 : i < 12) {β : Type} {ff : _ → Option β} : (zsJ (zM A K I L F E dyn) (some 16) i v).bind ff = ff (zM A K I (zu L 16 i.toNat v) F E dyn) := by
  rw [zs_16 h0 h1]
  rfl
theorem zl_16b {A : zIT} {K : zLT} {I : zIT} {L : zLT} {F : zFT} {E : zET} {dyn : zH} {β : Type} {ff : _ → Option β} : (zlen (zM A K I L F E dyn) (some 16)).bind ff = ff 12 := by
  rw [zl_16]
  rfl
theorem za_17b {A : zIT} {K : zLT} {I : zIT} {L : zLT} {F : zFT} {E : zET} {dyn : zH} {i : Int} (h0 : 0 ≤ i) (h1 : i < 12) {β : Type} {ff : _ → Option β} : (zaI (zM A K I L F E dyn) 0 (some 17) i).bind ff = ff (I 17 i.toNat) := by
  rw [za_17 h0 h1]
  rfl
theorem zs_17b {A : zIT} {K : zLT} {I : zIT} {L : zLT} {F : zFT} {E : zET} {dyn : zH} {i v : Int} (h0 : 0 ≤ i) (h1 : i < 12) {β : Type} {ff : _ → Option β} : (zsI (zM A K I L F E dyn) 0 (some 17) i v).bind ff = ff (zM A K (zu I 17 i.toNat v) L F E dyn) := by
  rw [zs_17 h0 h1]
  rfl
theorem zl_17b {A : zIT} {K : zLT} {I : zIT} {L : zLT} {F : zFT} {E : zET} {dyn : zH} {β : Type} {ff : _ → Option β} : (zlen (zM A K I L F E dyn) (some 17)).bind ff = ff 12 := by
  rw [zl_17]
  rfl
theorem za_18b {A : zIT} {K : zLT} {I : zIT} {L : zLT} {F : zFT} {E : zET} {dyn : zH} {i : Int} (h0 : 0 ≤ i) (h1 : i < 12) {β : Type} {ff : _ → Option β} : (zaI (zM A K I L F E dyn) 3 (some 18) i).bind ff = ff (I 18 i.toNat) := by
  rw [za_18 h0 h1]
  rfl
theorem zs_18b {A : zIT} {K : zLT} {I : zIT} {L : zLT} {F : zFT} {E : zET} {dyn : zH} {i v : Int} (h0 : 0 ≤ i) (h1 : i < 12) (hv : 0 ≤ v ∧ v ≤ 65535) {β : Type} {ff : _ → Option β} : (zsI (zM A K I L F E dyn) 3 (some 18) i v).bind ff = ff (zM A K (zu I 18 i.toNat v) L F E dyn) := by
  rw [zs_18 h0 h1 hv]
  rfl
theorem zl_18b {A : zIT} {K : zLT} {I : zIT} {L : zLT} {F : zFT} {E : zET} {dyn : zH} {β : Type} {ff : _ → Option β} : (zlen (zM A K I L F E dyn) (some 18)).bind ff = ff 12 := by
  rw [zl_18]
  rfl
theorem za_19b {A : zIT} {K : zLT} {I : zIT} {L : zLT} {F : zFT} {E : zET} {dyn : zH} {i : Int} (h0 : 0 ≤ i) (h1 : i < 12) {β : Type} {ff : _ → Option β} : (zaI (zM A K I L F E dyn) 2 (some 19) i).bind ff = ff (I 19 i.toNat) := by
  rw [za_19 h0 h1]
  rfl
theorem zs_19b {A : zIT} {K : zLT} {I : zIT} {L : zLT} {F : zFT} {E : zET} {dyn : zH} {i v : Int} (h0 : 0 ≤ i) (h1 : i < 12) (hv : v = 0 ∨ v = 1) {β : Type} {ff : _ → Option β} : (zsI (zM A K I L F E dyn) 2 (some 19) i v).bind ff = ff (zM A K (zu I 19 i.toNat v) L F E dyn) := by
  rw [zs_19 h0 h1 hv]
  rfl
theorem zl_19b {A : zIT} {K : zLT} {I : zIT} {L : zLT} {F : zFT} {E : zET} {dyn : zH} {β : Type} {ff : _ → Option β} : (zlen (zM A K I L F E dyn) (some 19)).bind ff = ff 12 := by
  rw [zl_19]
  rfl
theorem za_20b {A : zIT} {K : zLT} {I : zIT} {L : zLT} {F : zFT} {E : zET} {dyn : zH} {i : Int} (h0 : 0 ≤ i) (h1 : i < 12) {β : Type} {ff : _ → Option β} : (zaI (zM A K I L F E dyn) 2 (some 20) i).bind ff = ff (I 20 i.toNat) := by
  rw [za_20 h0 h1]
  rfl
theorem zs_20b {A : zIT} {K : zLT} {I : zIT} {L : zLT} {F : zFT} {E : zET} {dyn : zH} {i v : Int} (h0 : 0 ≤ i) (h1 : i < 12) (hv : v = 0 ∨ v = 1) {β : Type} {ff : _ → Option β} : (zsI (zM A K I L F E dyn) 2 (some 20) i v).bind ff = ff (zM A K (zu I 20 i.toNat v) L F E dyn) := by
  rw [zs_20 h0 h1 hv]
  rfl
theorem zl_20b {A : zIT} {K : zLT} {I : zIT} {L : zLT} {F : zFT} {E : zET} {dyn : zH} {β : Type} {ff : _ → Option β} : (zlen (zM A K I L F E dyn) (some 20)).bind ff = ff 12 := by
  rw [zl_20]
  rfl
theorem za_21b {A : zIT} {K : zLT} {I : zIT} {L : zLT} {F : zFT} {E : zET} {dyn : zH} {i : Int} (h0 : 0 ≤ i) (h1 : i < 12) {β : Type} {ff : _ → Option β} : (zaI (zM A K I L F E dyn) 0 (some 21) i).bind ff = ff (I 21 i.toNat) := by
  rw [za_21 h0 h1]
  rfl
theorem zs_21b {A : zIT} {K : zLT} {I : zIT} {L : zLT} {F : zFT} {E : zET} {dyn : zH} {i v : Int} (h0 : 0 ≤ i) (h1 : i < 12) {β : Type} {ff : _ → Option β} : (zsI (zM A K I L F E dyn) 0 (some 21) i v).bind ff = ff (zM A K (zu I 21 i.toNat v) L F E dyn) := by
  rw [zs_21 h0 h1]
  rfl
theorem zl_21b {A : zIT} {K : zLT} {I : zIT} {L : zLT} {F : zFT} {E : zET} {dyn : zH} {β : Type} {ff : _ → Option β} : (zlen (zM A K I L F E dyn) (some 21)).bind ff = ff 12 := by
  rw [zl_21]
  rfl
theorem za_22b {A : zIT} {K : zLT} {I : zIT} {L : zLT} {F : zFT} {E : zET} {dyn : zH} {i : Int} (h0 : 0 ≤ i) (h1 : i < 80) {β : Type} {ff : _ → Option β} : (zaI (zM A K I L F E dyn) 0 (some 22) i).bind ff = ff (I 22 i.toNat) := by
  rw [za_22 h0 h1]
  rfl
theorem zs_22b {A : zIT} {K : zLT} {I : zIT} {L : zLT} {F : zFT} {E : zET} {dyn : zH} {i v : Int} (h0 : 0 ≤ i) (h1 : i < 80) {β : Type} {ff : _ → Option β} : (zsI (zM A K I L F E dyn) 0 (some 22) i v).bind ff = ff (zM A K (zu I 22 i.toNat v) L F E dyn) := by
  rw [zs_22 h0 h1]
  rfl
theorem zl_22b {A : zIT} {K : zLT} {I : zIT} {L : zLT} {F : zFT} {E : zET} {dyn : zH} {β : Type} {ff : _ → Option β} : (zlen (zM A K I L F E dyn) (some 22)).bind ff = ff 80 := by
  rw [zl_22]
  rfl
theorem za_23b {A : zIT} {K : zLT} {I : zIT} {L : zLT} {F : zFT} {E : zET} {dyn : zH} {i : Int} (h0 : 0 ≤ i) (h1 : i < 80) {β : Type} {ff : _ → Option β} : (zaI (zM A K I L F E dyn) 0 (some 23) i).bind ff = ff (I 23 i.toNat) := by
  rw [za_23 h0 h1]
  rfl
theorem zs_23b {A : zIT} {K : zLT} {I : zIT} {L : zLT} {F : zFT} {E : zET} {dyn : zH} {i v : Int} (h0 : 0 ≤ i) (h1 : i < 80) {β : Type} {ff : _ → Option β} : (zsI (zM A K I L F E dyn) 0 (some 23) i v).bind ff = ff (zM A K (zu I 23 i.toNat v) L F E dyn) := by
  rw [zs_23 h0 h1]
  rfl
theorem zl_23b {A : zIT} {K : zLT} {I : zIT} {L : zLT} {F : zFT} {E : zET} {dyn : zH} {β : Type} {ff : _ → Option β} : (zlen (zM A K I L F E dyn) (some 23)).bind ff = ff 80 := by
  rw [zl_23]
  rfl
theorem za_24b {A : zIT} {K : zLT} {I : zIT} {L : zLT} {F : zFT} {E : zET} {dyn : zH} {i : Int} (h0 : 0 ≤ i) (h1 : i < 80) {β : Type} {ff : _ → Option β} : (zaI (zM A K I L F E dyn) 3 (some 24) i).bind ff = ff (I 24 i.toNat) := by
  rw [za_24 h0 h1]
  rfl
theorem zs_24b {A : zIT} {K : zLT} {I : zIT} {L : zLT} {F : zFT} {E : zET} {dyn : zH} {i v : Int} (h0 : 0 ≤ i) (h1 : i < 80) (hv : 0 ≤ v ∧ v ≤ 65535) {β : Type} {ff : _ → Option β} : (zsI (zM A K I L F E dyn) 3 (some 24) i v).bind ff = ff (zM A K (zu I 24 i.toNat v) L F E dyn) := by
  rw [zs_24 h0 h1 hv]
  rfl
theorem zl_24b {A : zIT} {K : zLT} {I : zIT} {L : zLT} {F : zFT} {E : zET} {dyn : zH} {β : Type} {ff : _ → Option β} : (zlen (zM A K I L F E dyn) (some 24)).bind ff = ff 80 := by
  rw [zl_24]
  rfl
theorem za_25b {A : zIT} {K : zLT} {I : zIT} {L : zLT} {F : zFT} {E : zET} {dyn : zH} {i : Int} (h0 : 0 ≤ i) (h1 : i < 80) {β : Type} {ff : _ → Option β} : (zaI (zM A K I L F E dyn) 0 (some 25) i).bind ff = ff (I 25 i.toNat) := by
  rw [za_25 h0 h1]
  rfl
theorem zs_25b {A : zIT} {K : zLT} {I : zIT} {L : zLT} {F : zFT} {E : zET} {dyn : zH} {i v : Int} (h0 : 0 ≤ i) (h1 : i < 80) {β : Type} {ff : _ → Option β} : (zsI (zM A K I L F E dyn) 0 (some 25) i v).bind ff = ff (zM A K (zu I 25 i.toNat v) L F E dyn) := by
  rw [zs_25 h0 h1]
  rfl
theorem zl_25b {A : zIT} {K : zLT} {I : zIT} {L : zLT} {F : zFT} {E : zET} {dyn : zH} {β : Type} {ff : _ → Option β} : (zlen (zM A K I L F E dyn) (some 25)).bind ff = ff 80 := by
  rw [zl_25]
  rfl
theorem za_26b {A : zIT} {K : zLT} {I : zIT} {L : zLT} {F : zFT} {E : zET} {dyn : zH} {i : Int} (h0 : 0 ≤ i) (h1 : i < 40) {β : Type} {ff : _ → Option β} : (zaI (zM A K I L F E dyn) 2 (some 26) i).bind ff = ff (I 26 i.toNat) := by
  rw [za_26 h0 h1]
  rfl
theorem zs_26b {A : zIT} {K : zLT} {I : zIT} {L : zLT} {F : zFT} {E : zET} {dyn : zH} {i v : Int} (h0 : 0 ≤ i) (h1 : i < 40) (hv : v = 0 ∨ v = 1) {β : Type} {ff : _ → Option β} : (zsI (zM A K I L F E dyn) 2 (some 26) i v).bind ff = ff (zM A K (zu I 26 i.toNat v) L F E dyn) := by
  rw [zs_26 h0 h1 hv]
  rfl
theorem zl_26b {A : zIT} {K : zLT} {I : zIT} {L : zLT} {F : zFT} {E : zET} {dyn : zH} {β : Type} {ff : _ → Option β} : (zlen (zM A K I L F E dyn) (some 26)).bind ff = ff 40 := by
  rw [zl_26]
  rfl
theorem za_27b {A : zIT} {K : zLT} {I : zIT} {L : zLT} {F : zFT} {E : zET} {dyn : zH} {i : Int} (h0 : 0 ≤ i) (h1 : i < 40) {β : Type} {ff : _ → Option β} : (zaI (zM A K I L F E dyn) 0 (some 27) i).bind ff = ff (I 27 i.toNat) := by
  rw [za_27 h0 h1]
  rfl
theorem zs_27b {A : zIT} {K : zLT} {I : zIT} {L : zLT} {F : zFT} {E : zET} {dyn : zH} {i v : Int} (h0 : 0 ≤ i) (h1 : i < 40) {β : Type} {ff : _ → Option β} : (zsI (zM A K I L F E dyn) 0 (some 27) i v).bind ff = ff (zM A K (zu I 27 i.toNat v) L F E dyn) := by
  rw [zs_27 h0 h1]
  rfl
theorem zl_27b {A : zIT} {K : zLT} {I : zIT} {L : zLT} {F : zFT} {E : zET} {dyn : zH} {β : Type} {ff : _ → Option β} : (zlen (zM A K I L F E dyn) (some 27)).bind ff = ff 40 := by
  rw [zl_27]
  rfl
theorem za_28b {A : zIT} {K : zLT} {I : zIT} {L : zLT} {F : zFT} {E : zET} {dyn : zH} {i : Int} (h0 : 0 ≤ i) (h1 : i < 200) {β : Type} {ff : _ → Option β} : (zaJ (zM A K I L F E dyn) (some 28) i).bind ff = ff (L 28 i.toNat) := by
  rw [za_28 h0 h1]
  rfl
theorem zs_28b {A : zIT} {K : zLT} {I : zIT} {L : zLT} {F : zFT} {E : zET} {dyn : zH} {i : Int} {v : Int64} (h0 : 0 ≤ i) (h1 : i < 200) {β : Type} {ff : _ → Option β} : (zsJ (zM A K I L F E dyn) (some 28) i v).bind ff = ff (zM A K I (zu L 28 i.toNat v) F E dyn) := by
  rw [zs_28 h0 h1]
  rfl
theorem zl_28b {A : zIT} {K : zLT} {I : zIT} {L : zLT} {F : zFT} {E : zET} {dyn : zH} {β : Type} {ff : _ → Option β} : (zlen (zM A K I L F E dyn) (some 28)).bind ff = ff 200 := by
  rw [zl_28]
  rfl
theorem za_29b {A : zIT} {K : zLT} {I : zIT} {L : zLT} {F : zFT} {E : zET} {dyn : zH} {i : Int} (h0 : 0 ≤ i) (h1 : i < 200) {β : Type} {ff : _ → Option β} : (zaI (zM A K I L F E dyn) 0 (some 29) i).bind ff = ff (I 29 i.toNat) := by
  rw [za_29 h0 h1]
  rfl
theorem zs_29b {A : zIT} {K : zLT} {I : zIT} {L : zLT} {F : zFT} {E : zET} {dyn : zH} {i v : Int} (h0 : 0 ≤ i) (h1 : i < 200) {β : Type} {ff : _ → Option β} : (zsI (zM A K I L F E dyn) 0 (some 29) i v).bind ff = ff (zM A K (zu I 29 i.toNat v) L F E dyn) := by
  rw [zs_29 h0 h1]
  rfl
theorem zl_29b {A : zIT} {K : zLT} {I : zIT} {L : zLT} {F : zFT} {E : zET} {dyn : zH} {β : Type} {ff : _ → Option β} : (zlen (zM A K I L F E dyn) (some 29)).bind ff = ff 200 := by
  rw [zl_29]
  rfl
theorem za_30b {A : zIT} {K : zLT} {I : zIT} {L : zLT} {F : zFT} {E : zET} {dyn : zH} {i : Int} (h0 : 0 ≤ i) (h1 : i < 200) {β : Type} {ff : _ → Option β} : (zaI (zM A K I L F E dyn) 0 (some 30) i).bind ff = ff (I 30 i.toNat) := by
  rw [za_30 h0 h1]
  rfl
theorem zs_30b {A : zIT} {K : zLT} {I : zIT} {L : zLT} {F : zFT} {E : zET} {dyn : zH} {i v : Int} (h0 : 0 ≤ i) (h1 : i < 200) {β : Type} {ff : _ → Option β} : (zsI (zM A K I L F E dyn) 0 (some 30) i v).bind ff = ff (zM A K (zu I 30 i.toNat v) L F E dyn) := by
  rw [zs_30 h0 h1]
  rfl
theorem zl_30b {A : zIT} {K : zLT} {I : zIT} {L : zLT} {F : zFT} {E : zET} {dyn : zH} {β : Type} {ff : _ → Option β} : (zlen (zM A K I L F E dyn) (some 30)).bind ff = ff 200 := by
  rw [zl_30]
  rfl
theorem za_31b {A : zIT} {K : zLT} {I : zIT} {L : zLT} {F : zFT} {E : zET} {dyn : zH} {i : Int} (h0 : 0 ≤ i) (h1 : i < 200) {β : Type} {ff : _ → Option β} : (zaI (zM A K I L F E dyn) 0 (some 31) i).bind ff = ff (I 31 i.toNat) := by
  rw [za_31 h0 h1]
  rfl
theorem zs_31b {A : zIT} {K : zLT} {I : zIT} {L : zLT} {F : zFT} {E : zET} {dyn : zH} {i v : Int} (h0 : 0 ≤ i) (h1 : i < 200) {β : Type} {ff : _ → Option β} : (zsI (zM A K I L F E dyn) 0 (some 31) i v).bind ff = ff (zM A K (zu I 31 i.toNat v) L F E dyn) := by
  rw [zs_31 h0 h1]
  rfl
theorem zl_31b {A : zIT} {K : zLT} {I : zIT} {L : zLT} {F : zFT} {E : zET} {dyn : zH} {β : Type} {ff : _ → Option β} : (zlen (zM A K I L F E dyn) (some 31)).bind ff = ff 200 := by
  rw [zl_31]
  rfl
theorem za_32b {A : zIT} {K : zLT} {I : zIT} {L : zLT} {F : zFT} {E : zET} {dyn : zH} {i : Int} (h0 : 0 ≤ i) (h1 : i < 80) {β : Type} {ff : _ → Option β} : (zaI (zM A K I L F E dyn) 0 (some 32) i).bind ff = ff (I 32 i.toNat) := by
  rw [za_32 h0 h1]
  rfl
theorem zs_32b {A : zIT} {K : zLT} {I : zIT} {L : zLT} {F : zFT} {E : zET} {dyn : zH} {i v : Int} (h0 : 0 ≤ i) (h1 : i < 80) {β : Type} {ff : _ → Option β} : (zsI (zM A K I L F E dyn) 0 (some 32) i v).bind ff = ff (zM A K (zu I 32 i.toNat v) L F E dyn) := by
  rw [zs_32 h0 h1]
  rfl
theorem zl_32b {A : zIT} {K : zLT} {I : zIT} {L : zLT} {F : zFT} {E : zET} {dyn : zH} {β : Type} {ff : _ → Option β} : (zlen (zM A K I L F E dyn) (some 32)).bind ff = ff 80 := by
  rw [zl_32]
  rfl
theorem za_33b {A : zIT} {K : zLT} {I : zIT} {L : zLT} {F : zFT} {E : zET} {dyn : zH} {i : Int} (h0 : 0 ≤ i) (h1 : i < 80) {β : Type} {ff : _ → Option β} : (zaI (zM A K I L F E dyn) 0 (some 33) i).bind ff = ff (I 33 i.toNat) := by
  rw [za_33 h0 h1]
  rfl
theorem zs_33b {A : zIT} {K : zLT} {I : zIT} {L : zLT} {F : zFT} {E : zET} {dyn : zH} {i v : Int} (h0 : 0 ≤ i) (h1 : i < 80) {β : Type} {ff : _ → Option β} : (zsI (zM A K I L F E dyn) 0 (some 33) i v).bind ff = ff (zM A K (zu I 33 i.toNat v) L F E dyn) := by
  rw [zs_33 h0 h1]
  rfl
theorem zl_33b {A : zIT} {K : zLT} {I : zIT} {L : zLT} {F : zFT} {E : zET} {dyn : zH} {β : Type} {ff : _ → Option β} : (zlen (zM A K I L F E dyn) (some 33)).bind ff = ff 80 := by
  rw [zl_33]
  rfl
theorem za_34b {A : zIT} {K : zLT} {I : zIT} {L : zLT} {F : zFT} {E : zET} {dyn : zH} {i : Int} (h0 : 0 ≤ i) (h1 : i < 80) {β : Type} {ff : _ → Option β} : (zaI (zM A K I L F E dyn) 3 (some 34) i).bind ff = ff (I 34 i.toNat) := by
  rw [za_34 h0 h1]
  rfl
theorem zs_34b {A : zIT} {K : zLT} {I : zIT} {L : zLT} {F : zFT} {E : zET} {dyn : zH} {i v : Int} (h0 : 0 ≤ i) (h1 : i < 80) (hv : 0 ≤ v ∧ v ≤ 65535) {β : Type} {ff : _ → Option β} : (zsI (zM A K I L F E dyn) 3 (some 34) i v).bind ff = ff (zM A K (zu I 34 i.toNat v) L F E dyn) := by
  rw [zs_34 h0 h1 hv]
  rfl
theorem zl_34b {A : zIT} {K : zLT} {I : zIT} {L : zLT} {F : zFT} {E : zET} {dyn : zH} {β : Type} {ff : _ → Option β} : (zlen (zM A K I L F E dyn) (some 34)).bind ff = ff 80 := by
  rw [zl_34]
  rfl
theorem za_35b {A : zIT} {K : zLT} {I : zIT} {L : zLT} {F : zFT} {E : zET} {dyn : zH} {i : Int} (h0 : 0 ≤ i) (h1 : i < 80) {β : Type} {ff : _ → Option β} : (zaI (zM A K I L F E dyn) 0 (some 35) i).bind ff = ff (I 35 i.toNat) := by
  rw [za_35 h0 h1]
  rfl
theorem zs_35b {A : zIT} {K : zLT} {I : zIT} {L : zLT} {F : zFT} {E : zET} {dyn : zH} {i v : Int} (h0 : 0 ≤ i) (h1 : i < 80) {β : Type} {ff : _ → Option β} : (zsI (zM A K I L F E dyn) 0 (some 35) i v).bind ff = ff (zM A K (zu I 35 i.toNat v) L F E dyn) := by
  rw [zs_35 h0 h1]
  rfl
theorem zl_35b {A : zIT} {K : zLT} {I : zIT} {L : zLT} {F : zFT} {E : zET} {dyn : zH} {β : Type} {ff : _ → Option β} : (zlen (zM A K I L F E dyn) (some 35)).bind ff = ff 80 := by
  rw [zl_35]
  rfl
theorem za_36b {A : zIT} {K : zLT} {I : zIT} {L : zLT} {F : zFT} {E : zET} {dyn : zH} {i : Int} (h0 : 0 ≤ i) (h1 : i < 40) {β : Type} {ff : _ → Option β} : (zaI (zM A K I L F E dyn) 0 (some 36) i).bind ff = ff (I 36 i.toNat) := by
  rw [za_36 h0 h1]
  rfl
theorem zs_36b {A : zIT} {K : zLT} {I : zIT} {L : zLT} {F : zFT} {E : zET} {dyn : zH} {i v : Int} (h0 : 0 ≤ i) (h1 : i < 40) {β : Type} {ff : _ → Option β} : (zsI (zM A K I L F E dyn) 0 (some 36) i v).bind ff = ff (zM A K (zu I 36 i.toNat v) L F E dyn) := by
  rw [zs_36 h0 h1]
  rfl
theorem zl_36b {A : zIT} {K : zLT} {I : zIT} {L : zLT} {F : zFT} {E : zET} {dyn : zH} {β : Type} {ff : _ → Option β} : (zlen (zM A K I L F E dyn) (some 36)).bind ff = ff 40 := by
  rw [zl_36]
  rfl
theorem za_37b {A : zIT} {K : zLT} {I : zIT} {L : zLT} {F : zFT} {E : zET} {dyn : zH} {i : Int} (h0 : 0 ≤ i) (h1 : i < 1) {β : Type} {ff : _ → Option β} : (zaJ (zM A K I L F E dyn) (some 37) i).bind ff = ff (L 37 i.toNat) := by
  rw [za_37 h0 h1]
  rfl
theorem zs_37b {A : zIT} {K : zLT} {I : zIT} {L : zLT} {F : zFT} {E : zET} {dyn : zH} {i : Int} {v : Int64} (h0 : 0 ≤ i) (h1 : i < 1) {β : Type} {ff : _ → Option β} : (zsJ (zM A K I L F E dyn) (some 37) i v).bind ff = ff (zM A K I (zu L 37 i.toNat v) F E dyn) := by
  rw [zs_37 h0 h1]
  rfl
theorem zl_37b {A : zIT} {K : zLT} {I : zIT} {L : zLT} {F : zFT} {E : zET} {dyn : zH} {β : Type} {ff : _ → Option β} : (zlen (zM A K I L F E dyn) (some 37)).bind ff = ff 1 := by
  rw [zl_37]
  rfl
theorem za_38b {A : zIT} {K : zLT} {I : zIT} {L : zLT} {F : zFT} {E : zET} {dyn : zH} {β : Type} {ff : _ → Option β} : (zaD (zM A K I L F E dyn) (some 38) 0).bind ff = ff (E 38 0) := by
  rw [za_38]
  rfl
theorem zs_38b {A : zIT} {K : zLT} {I : zIT} {L : zLT} {F : zFT} {E : zET} {dyn : zH} {v : UInt64} {β : Type} {ff : _ → Option β} : (zsD (zM A K I L F E dyn) (some 38) 0 v).bind ff = ff (zM A K I L F (zu E 38 0 v) dyn) := by
  rw [zs_38]
  rfl
theorem zoStrb {A : zIT} {K : zLT} {I : zIT} {L : zLT} {F : zFT} {E : zET} {dyn : zH} {j : Nat} {n : Int} {a : Int64} {b : Int64} {l : Int} {w : Int} {bk : Int} {g : Int} {gr : Int} (h : dyn[j]? = some (zStr n a b l w bk g gr)) {β : Type} {ff : _ → Option β} : (zobj (zM A K I L F E dyn) (some (j + 39)) 7).bind ff = ff (j + 39, [zI n, zL a, zL b, zI l, zI w, zI bk, zI g, zI gr]) := by
  rw [zoStr h]
  rfl
theorem zgStr_0b {A : zIT} {K : zLT} {I : zIT} {L : zLT} {F : zFT} {E : zET} {dyn : zH} {j : Nat} {n : Int} {a : Int64} {b : Int64} {l : Int} {w : Int} {bk : Int} {g : Int} {gr : Int} (h : dyn[j]? = some (zStr n a b l w bk g gr)) {β : Type} {ff : _ → Option β} : (zgI (zM A K I L F E dyn) (some (j + 39)) 7 0).bind ff = ff n := by
  rw [zgStr_0 h]
  rfl
theorem zpStr_0b {A : zIT} {K : zLT} {I : zIT} {L : zLT} {F : zFT} {E : zET} {dyn : zH} {j : Nat} {n : Int} {a : Int64} {b : Int64} {l : Int} {w : Int} {bk : Int} {g : Int} {gr : Int} {v : Int} (h : dyn[j]? = some (zStr n a b l w bk g gr)) {β : Type} {ff : _ → Option β} : (zpI (zM A K I L F E dyn) (some (j + 39)) 7 0 v).bind ff = ff (zM A K I L F E (dyn.set j (zStr v a b l w bk g gr))) := by
  rw [zpStr_0 h]
  rfl
theorem zgStr_1b {A : zIT} {K : zLT} {I : zIT} {L : zLT} {F : zFT} {E : zET} {dyn : zH} {j : Nat} {n : Int} {a : Int64} {b : Int64} {l : Int} {w : Int} {bk : Int} {g : Int} {gr : Int} (h : dyn[j]? = some (zStr n a b l w bk g gr)) {β : Type} {ff : _ → Option β} : (zgJ (zM A K I L F E dyn) (some (j + 39)) 7 1).bind ff = ff a := by
  rw [zgStr_1 h]
  rfl
theorem zpStr_1b {A : zIT} {K : zLT} {I : zIT} {L : zLT} {F : zFT} {E : zET} {dyn : zH} {j : Nat} {n : Int} {a : Int64} {b : Int64} {l : Int} {w : Int} {bk : Int} {g : Int} {gr : Int} {v : Int64} (h : dyn[j]? = some (zStr n a b l w bk g gr)) {β : Type} {ff : _ → Option β} : (zpJ (zM A K I L F E dyn) (some (j + 39)) 7 1 v).bind ff = ff (zM A K I L F E (dyn.set j (zStr n v b l w bk g gr))) := by
  rw [zpStr_1 h]
  rfl
theorem zgStr_2b {A : zIT} {K : zLT} {I : zIT} {L : zLT} {F : zFT} {E : zET} {dyn : zH} {j : Nat} {n : Int} {a : Int64} {b : Int64} {l : Int} {w : Int} {bk : Int} {g : Int} {gr : Int} (h : dyn[j]? = some (zStr n a b l w bk g gr)) {β : Type} {ff : _ → Option β} : (zgJ (zM A K I L F E dyn) (some (j + 39)) 7 2).bind ff = ff b := by
  rw [zgStr_2 h]
  rfl
theorem zpStr_2b {A : zIT} {K : zLT} {I : zIT} {L : zLT} {F : zFT} {E : zET} {dyn : zH} {j : Nat} {n : Int} {a : Int64} {b : Int64} {l : Int} {w : Int} {bk : Int} {g : Int} {gr : Int} {v : Int64} (h : dyn[j]? = some (zStr n a b l w bk g gr)) {β : Type} {ff : _ → Option β} : (zpJ (zM A K I L F E dyn) (some (j + 39)) 7 2 v).bind ff = ff (zM A K I L F E (dyn.set j (zStr n a v l w bk g gr))) := by
  rw [zpStr_2 h]
  rfl
theorem zgStr_3b {A : zIT} {K : zLT} {I : zIT} {L : zLT} {F : zFT} {E : zET} {dyn : zH} {j : Nat} {n : Int} {a : Int64} {b : Int64} {l : Int} {w : Int} {bk : Int} {g : Int} {gr : Int} (h : dyn[j]? = some (zStr n a b l w bk g gr)) {β : Type} {ff : _ → Option β} : (zgI (zM A K I L F E dyn) (some (j + 39)) 7 3).bind ff = ff l := by
  rw [zgStr_3 h]
  rfl
theorem zpStr_3b {A : zIT} {K : zLT} {I : zIT} {L : zLT} {F : zFT} {E : zET} {dyn : zH} {j : Nat} {n : Int} {a : Int64} {b : Int64} {l : Int} {w : Int} {bk : Int} {g : Int} {gr : Int} {v : Int} (h : dyn[j]? = some (zStr n a b l w bk g gr)) {β : Type} {ff : _ → Option β} : (zpI (zM A K I L F E dyn) (some (j + 39)) 7 3 v).bind ff = ff (zM A K I L F E (dyn.set j (zStr n a b v w bk g gr))) := by
  rw [zpStr_3 h]
  rfl
theorem zgStr_4b {A : zIT} {K : zLT} {I : zIT} {L : zLT} {F : zFT} {E : zET} {dyn : zH} {j : Nat} {n : Int} {a : Int64} {b : Int64} {l : Int} {w : Int} {bk : Int} {g : Int} {gr : Int} (h : dyn[j]? = some (zStr n a b l w bk g gr)) {β : Type} {ff : _ → Option β} : (zgI (zM A K I L F E dyn) (some (j + 39)) 7 4).bind ff = ff w := by
  rw [zgStr_4 h]
  rfl
theorem zpStr_4b {A : zIT} {K : zLT} {I : zIT} {L : zLT} {F : zFT} {E : zET} {dyn : zH} {j : Nat} {n : Int} {a : Int64} {b : Int64} {l : Int} {w : Int} {bk : Int} {g : Int} {gr : Int} {v : Int} (h : dyn[j]? = some (zStr n a b l w bk g gr)) (hv : 0 ≤ v ∧ v ≤ 65535) {β : Type} {ff : _ → Option β} : (zpC (zM A K I L F E dyn) (some (j + 39)) 7 4 v).bind ff = ff (zM A K I L F E (dyn.set j (zStr n a b l v bk g gr))) := by
  rw [zpStr_4 h hv]
  rfl
theorem zgStr_5b {A : zIT} {K : zLT} {I : zIT} {L : zLT} {F : zFT} {E : zET} {dyn : zH} {j : Nat} {n : Int} {a : Int64} {b : Int64} {l : Int} {w : Int} {bk : Int} {g : Int} {gr : Int} (h : dyn[j]? = some (zStr n a b l w bk g gr)) {β : Type} {ff : _ → Option β} : (zgI (zM A K I L F E dyn) (some (j + 39)) 7 5).bind ff = ff bk := by
  rw [zgStr_5 h]
  rfl
theorem zpStr_5b {A : zIT} {K : zLT} {I : zIT} {L : zLT} {F : zFT} {E : zET} {dyn : zH} {j : Nat} {n : Int} {a : Int64} {b : Int64} {l : Int} {w : Int} {bk : Int} {g : Int} {gr : Int} {v : Int} (h : dyn[j]? = some (zStr n a b l w bk g gr)) (hv : v = 0 ∨ v = 1) {β : Type} {ff : _ → Option β} : (zpZ (zM A K I L F E dyn) (some (j + 39)) 7 5 v).bind ff = ff (zM A K I L F E (dyn.set j (zStr n a b l w v g gr))) := by
  rw [zpStr_5 h hv]
  rfl
theorem zgStr_6b {A : zIT} {K : zLT} {I : zIT} {L : zLT} {F : zFT} {E : zET} {dyn : zH} {j : Nat} {n : Int} {a : Int64} {b : Int64} {l : Int} {w : Int} {bk : Int} {g : Int} {gr : Int} (h : dyn[j]? = some (zStr n a b l w bk g gr)) {β : Type} {ff : _ → Option β} : (zgI (zM A K I L F E dyn) (some (j + 39)) 7 6).bind ff = ff g := by
  rw [zgStr_6 h]
  rfl
theorem zpStr_6b {A : zIT} {K : zLT} {I : zIT} {L : zLT} {F : zFT} {E : zET} {dyn : zH} {j : Nat} {n : Int} {a : Int64} {b : Int64} {l : Int} {w : Int} {bk : Int} {g : Int} {gr : Int} {v : Int} (h : dyn[j]? = some (zStr n a b l w bk g gr)) (hv : v = 0 ∨ v = 1) {β : Type} {ff : _ → Option β} : (zpZ (zM A K I L F E dyn) (some (j + 39)) 7 6 v).bind ff = ff (zM A K I L F E (dyn.set j (zStr n a b l w bk v gr))) := by
  rw [zpStr_6 h hv]
  rfl
theorem zgStr_7b {A : zIT} {K : zLT} {I : zIT} {L : zLT} {F : zFT} {E : zET} {dyn : zH} {j : Nat} {n : Int} {a : Int64} {b : Int64} {l : Int} {w : Int} {bk : Int} {g : Int} {gr : Int} (h : dyn[j]? = some (zStr n a b l w bk g gr)) {β : Type} {ff : _ → Option β} : (zgI (zM A K I L F E dyn) (some (j + 39)) 7 7).bind ff = ff gr := by
  rw [zgStr_7 h]
  rfl
theorem zpStr_7b {A : zIT} {K : zLT} {I : zIT} {L : zLT} {F : zFT} {E : zET} {dyn : zH} {j : Nat} {n : Int} {a : Int64} {b : Int64} {l : Int} {w : Int} {bk : Int} {g : Int} {gr : Int} {v : Int} (h : dyn[j]? = some (zStr n a b l w bk g gr)) {β : Type} {ff : _ → Option β} : (zpI (zM A K I L F E dyn) (some (j + 39)) 7 7 v).bind ff = ff (zM A K I L F E (dyn.set j (zStr n a b l w bk g v))) := by
  rw [zpStr_7 h]
  rfl
theorem zoDorb {A : zIT} {K : zLT} {I : zIT} {L : zLT} {F : zFT} {E : zET} {dyn : zH} {j : Nat} {n : Int} {f : Option Nat} {s : Option Nat} {g : Int} {l : Option Nat} (h : dyn[j]? = some (zDor n f s g l)) {β : Type} {ff : _ → Option β} : (zobj (zM A K I L F E dyn) (some (j + 39)) 2).bind ff = ff (j + 39, [zI n, zR f, zR s, zI g, zR l]) := by
  rw [zoDor h]
  rfl
theorem zgDor_0b {A : zIT} {K : zLT} {I : zIT} {L : zLT} {F : zFT} {E : zET} {dyn : zH} {j : Nat} {n : Int} {f : Option Nat} {s : Option Nat} {g : Int} {l : Option Nat} (h : dyn[j]? = some (zDor n f s g l)) {β : Type} {ff : _ → Option β} : (zgI (zM A K I L F E dyn) (some (j + 39)) 2 0).bind ff = ff n := by
  rw [zgDor_0 h]
  rfl
theorem zpDor_0b {A : zIT} {K : zLT} {I : zIT} {L : zLT} {F : zFT} {E : zET} {dyn : zH} {j : Nat} {n : Int} {f : Option Nat} {s : Option Nat} {g : Int} {l : Option Nat} {v : Int} (h : dyn[j]? = some (zDor n f s g l)) {β : Type} {ff : _ → Option β} : (zpI (zM A K I L F E dyn) (some (j + 39)) 2 0 v).bind ff = ff (zM A K I L F E (dyn.set j (zDor v f s g l))) := by
  rw [zpDor_0 h]
  rfl
theorem zgDor_1b {A : zIT} {K : zLT} {I : zIT} {L : zLT} {F : zFT} {E : zET} {dyn : zH} {j : Nat} {n : Int} {f : Option Nat} {s : Option Nat} {g : Int} {l : Option Nat} (h : dyn[j]? = some (zDor n f s g l)) {β : Type} {ff : _ → Option β} : (zgR (zM A K I L F E dyn) (some (j + 39)) 2 1).bind ff = ff f := by
  rw [zgDor_1 h]
  rfl
theorem zpDor_1b {A : zIT} {K : zLT} {I : zIT} {L : zLT} {F : zFT} {E : zET} {dyn : zH} {j : Nat} {n : Int} {f : Option Nat} {s : Option Nat} {g : Int} {l : Option Nat} {v : Option Nat} (h : dyn[j]? = some (zDor n f s g l)) {β : Type} {ff : _ → Option β} : (zpR (zM A K I L F E dyn) (some (j + 39)) 2 1 v).bind ff = ff (zM A K I L F E (dyn.set j (zDor n v s g l))) := by
  rw [zpDor_1 h]
  rfl
theorem zgDor_2b {A : zIT} {K : zLT} {I : zIT} {L : zLT} {F : zFT} {E : zET} {dyn : zH} {j : Nat} {n : Int} {f : Option Nat} {s : Option Nat} {g : Int} {l : Option Nat} (h : dyn[j]? = some (zDor n f s g l)) {β : Type} {ff : _ → Option β} : (zgR (zM A K I L F E dyn) (some (j + 39)) 2 2).bind ff = ff s := by
  rw [zgDor_2 h]
  rfl
theorem zpDor_2b {A : zIT} {K : zLT} {I : zIT} {L : zLT} {F : zFT} {E : zET} {dyn : zH} {j : Nat} {n : Int} {f : Option Nat} {s : Option Nat} {g : Int} {l : Option Nat} {v : Option Nat} (h : dyn[j]? = some (zDor n f s g l)) {β : Type} {ff : _ → Option β} : (zpR (zM A K I L F E dyn) (some (j + 39)) 2 2 v).bind ff = ff (zM A K I L F E (dyn.set j (zDor n f v g l))) := by
  rw [zpDor_2 h]
  rfl
theorem zgDor_3b {A : zIT} {K : zLT} {I : zIT} {L : zLT} {F : zFT} {E : zET} {dyn : zH} {j : Nat} {n : Int} {f : Option Nat} {s : Option Nat} {g : Int} {l : Option Nat} (h : dyn[j]? = some (zDor n f s g l)) {β : Type} {ff : _ → Option β} : (zgI (zM A K I L F E dyn) (some (j + 39)) 2 3).bind ff = ff g := by
  rw [zgDor_3 h]
  rfl
theorem zpDor_3b {A : zIT} {K : zLT} {I : zIT} {L : zLT} {F : zFT} {E : zET} {dyn : zH} {j : Nat} {n : Int} {f : Option Nat} {s : Option Nat} {g : Int} {l : Option Nat} {v : Int} (h : dyn[j]? = some (zDor n f s g l)) (hv : v = 0 ∨ v = 1) {β : Type} {ff : _ → Option β} : (zpZ (zM A K I L F E dyn) (some (j + 39)) 2 3 v).bind ff = ff (zM A K I L F E (dyn.set j (zDor n f s v l))) := by
  rw [zpDor_3 h hv]
  rfl
theorem zgDor_4b {A : zIT} {K : zLT} {I : zIT} {L : zLT} {F : zFT} {E : zET} {dyn : zH} {j : Nat} {n : Int} {f : Option Nat} {s : Option Nat} {g : Int} {l : Option Nat} (h : dyn[j]? = some (zDor n f s g l)) {β : Type} {ff : _ → Option β} : (zgR (zM A K I L F E dyn) (some (j + 39)) 2 4).bind ff = ff l := by
  rw [zgDor_4 h]
  rfl
theorem zpDor_4b {A : zIT} {K : zLT} {I : zIT} {L : zLT} {F : zFT} {E : zET} {dyn : zH} {j : Nat} {n : Int} {f : Option Nat} {s : Option Nat} {g : Int} {l : Option Nat} {v : Option Nat} (h : dyn[j]? = some (zDor n f s g l)) {β : Type} {ff : _ → Option β} : (zpR (zM A K I L F E dyn) (some (j + 39)) 2 4 v).bind ff = ff (zM A K I L F E (dyn.set j (zDor n f s g v))) := by
  rw [zpDor_4 h]
  rfl
theorem zoPlcb {A : zIT} {K : zLT} {I : zIT} {L : zLT} {F : zFT} {E : zET} {dyn : zH} {j : Nat} {d : Int} {s : Option Nat} {m : Int} {l : Int} {c : Int} (h : dyn[j]? = some (zPlc d s m l c)) {β : Type} {ff : _ → Option β} : (zobj (zM A K I L F E dyn) (some (j + 39)) 6).bind ff = ff (j + 39, [zI d, zR s, zI m, zI l, zI c]) := by
  rw [zoPlc h]
  rfl
theorem zgPlc_0b {A : zIT} {K : zLT} {I : zIT} {L : zLT} {F : zFT} {E : zET} {dyn : zH} {j : Nat} {d : Int} {s : Option Nat} {m : Int} {l : Int} {c : Int} (h : dyn[j]? = some (zPlc d s m l c)) {β : Type} {ff : _ → Option β} : (zgI (zM A K I L F E dyn) (some (j + 39)) 6 0).bind ff = ff d := by
  rw [zgPlc_0 h]
  rfl
theorem zpPlc_0b {A : zIT} {K : zLT} {I : zIT} {L : zLT} {F : zFT} {E : zET} {dyn : zH} {j : Nat} {d : Int} {s : Option Nat} {m : Int} {l : Int} {c : Int} {v : Int} (h : dyn[j]? = some (zPlc d s m l c)) {β : Type} {ff : _ → Option β} : (zpI (zM A K I L F E dyn) (some (j + 39)) 6 0 v).bind ff = ff (zM A K I L F E (dyn.set j (zPlc v s m l c))) := by
  rw [zpPlc_0 h]
  rfl
theorem zgPlc_1b {A : zIT} {K : zLT} {I : zIT} {L : zLT} {F : zFT} {E : zET} {dyn : zH} {j : Nat} {d : Int} {s : Option Nat} {m : Int} {l : Int} {c : Int} (h : dyn[j]? = some (zPlc d s m l c)) {β : Type} {ff : _ → Option β} : (zgR (zM A K I L F E dyn) (some (j + 39)) 6 1).bind ff = ff s := by
  rw [zgPlc_1 h]
  rfl
theorem zpPlc_1b {A : zIT} {K : zLT} {I : zIT} {L : zLT} {F : zFT} {E : zET} {dyn : zH} {j : Nat} {d : Int} {s : Option Nat} {m : Int} {l : Int} {c : Int} {v : Option Nat} (h : dyn[j]? = some (zPlc d s m l c)) {β : Type} {ff : _ → Option β} : (zpR (zM A K I L F E dyn) (some (j + 39)) 6 1 v).bind ff = ff (zM A K I L F E (dyn.set j (zPlc d v m l c))) := by
  rw [zpPlc_1 h]
  rfl
theorem zgPlc_2b {A : zIT} {K : zLT} {I : zIT} {L : zLT} {F : zFT} {E : zET} {dyn : zH} {j : Nat} {d : Int} {s : Option Nat} {m : Int} {l : Int} {c : Int} (h : dyn[j]? = some (zPlc d s m l c)) {β : Type} {ff : _ → Option β} : (zgI (zM A K I L F E dyn) (some (j + 39)) 6 2).bind ff = ff m := by
  rw [zgPlc_2 h]
  rfl
theorem zpPlc_2b {A : zIT} {K : zLT} {I : zIT} {L : zLT} {F : zFT} {E : zET} {dyn : zH} {j : Nat} {d : Int} {s : Option Nat} {m : Int} {l : Int} {c : Int} {v : Int} (h : dyn[j]? = some (zPlc d s m l c)) {β : Type} {ff : _ → Option β} : (zpI (zM A K I L F E dyn) (some (j + 39)) 6 2 v).bind ff = ff (zM A K I L F E (dyn.set j (zPlc d s v l c))) := by
  rw [zpPlc_2 h]
  rfl
theorem zgPlc_3b {A : zIT} {K : zLT} {I : zIT} {L : zLT} {F : zFT} {E : zET} {dyn : zH} {j : Nat} {d : Int} {s : Option Nat} {m : Int} {l : Int} {c : Int} (h : dyn[j]? = some (zPlc d s m l c)) {β : Type} {ff : _ → Option β} : (zgI (zM A K I L F E dyn) (some (j + 39)) 6 3).bind ff = ff l := by
  rw [zgPlc_3 h]
  rfl
theorem zpPlc_3b {A : zIT} {K : zLT} {I : zIT} {L : zLT} {F : zFT} {E : zET} {dyn : zH} {j : Nat} {d : Int} {s : Option Nat} {m : Int} {l : Int} {c : Int} {v : Int} (h : dyn[j]? = some (zPlc d s m l c)) (hv : v = 0 ∨ v = 1) {β : Type} {ff : _ → Option β} : (zpZ (zM A K I L F E dyn) (some (j + 39)) 6 3 v).bind ff = ff (zM A K I L F E (dyn.set j (zPlc d s m v c))) := by
  rw [zpPlc_3 h hv]
  rfl
theorem zgPlc_4b {A : zIT} {K : zLT} {I : zIT} {L : zLT} {F : zFT} {E : zET} {dyn : zH} {j : Nat} {d : Int} {s : Option Nat} {m : Int} {l : Int} {c : Int} (h : dyn[j]? = some (zPlc d s m l c)) {β : Type} {ff : _ → Option β} : (zgI (zM A K I L F E dyn) (some (j + 39)) 6 4).bind ff = ff c := by
  rw [zgPlc_4 h]
  rfl
theorem zpPlc_4b {A : zIT} {K : zLT} {I : zIT} {L : zLT} {F : zFT} {E : zET} {dyn : zH} {j : Nat} {d : Int} {s : Option Nat} {m : Int} {l : Int} {c : Int} {v : Int} (h : dyn[j]? = some (zPlc d s m l c)) {β : Type} {ff : _ → Option β} : (zpI (zM A K I L F E dyn) (some (j + 39)) 6 4 v).bind ff = ff (zM A K I L F E (dyn.set j (zPlc d s m l v))) := by
  rw [zpPlc_4 h]
  rfl
theorem zckb {z : Int} (h0 : -2147483648 ≤ z) (h1 : z ≤ 2147483647) {β : Type} {f : Int → Option β} : (zchk z).bind f = f z := by
  rw [zck h0 h1]
  rfl
theorem zdvb {a b : Int} (h0 : 0 ≤ a) (h1 : 0 < b) {β : Type} {f : Int → Option β} : (zdiv a b).bind f = f (a / b) := by
  rw [zdv h0 h1]
  rfl
theorem zrmb {a b : Int} (h0 : 0 ≤ a) (h1 : 0 < b) {β : Type} {f : Int → Option β} : (zrem a b).bind f = f (a % b) := by
  rw [zrm' h0 h1]
  rfl
theorem zckZb {z : Int} (h0 : z = 0 ∨ z = 1) {β : Type} {f : Int → Option β} : (zchkZ z).bind f = f z := by
  rw [zckZ h0]
  rfl
