section HLW
variable {n : Nat} {xs : Nat → Int32} {d : Nat}
def a0_1 : Nat → Nat → Int32 := upda (upda (upda (upda (upda (upda (upda (upda (upda (upda (upda (upda (upda (upda (fun _ => fun _ => 0) 16 (upd (fun _ => 0) 0 0)) 17 (upd (fun _ => 0) 0 0)) 18 (upd (fun _ => 0) 0 0)) 21 (upd (fun _ => 0) 0 0)) 22 (upd (fun _ => 0) 0 0)) 23 (upd (fun _ => 0) 0 0)) 24 (upd (fun _ => 0) 0 0)) 26 (upd (fun _ => 0) 0 0)) 27 (upd (fun _ => 0) 0 0)) 28 (upd (fun _ => 0) 0 0)) 29 (upd (fun _ => 0) 0 1)) 30 (upd (upd (fun _ => 0) 0 0) 0 1)) 32 (upd (fun _ => 0) 0 0)) 33 (upd (fun _ => 0) 0 0)
theorem iv0_1 : ivx (f0 1) a0_1 := by
  refine ⟨1, _, _, _, _, _, _, iv0 (by omega) (by omega) (fun i hi => ?_)⟩
  have : i = 0 := by omega
  rcases this with rfl <;> exact ⟨⟨rfl, rfl, rfl, rfl⟩, ⟨rfl, rfl, rfl, rfl⟩, ⟨rfl, rfl, rfl, rfl⟩, rfl, rfl⟩
set_option maxRecDepth 8000 in
theorem k_model1 {v : Int32} (hj : fmc v 0) : ax_R (d + 2) 0 0 (ax_in 0 [.ref 25, .int v]) [] [.inl (3, n, .inl xs), .inr (6, [.int 1, .ref 15, .ref 20, .ref 2, .ref 6, .ref 8, .ref 11, .int 0, .int 0, .ref 13, .ref 14]), .inr (0, [.ref 3, .ref 4, .ref 5, .int 0]), zc 0 4, zc 0 4, zc 1 4, .inr (2, [.int 0, .int 0, .ref 7]), zc 0 20, .inr (1, [.ref 9, .ref 10, .int 0, .int 0, .int 0, .int 0]), zc 0 257, zc 0 257, .inr (5, [.ref 12]), zc 0 8, zc 0 5, zc 0 5, .inr (3, [.ref 19, .ref 16, .ref 17, .ref 18, .int 1]), .inl (0, 20, .inl (upd (fun _ => 0) 0 0)), .inl (0, 20, .inl (upd (fun _ => 0) 0 0)), .inl (0, 20, .inl (upd (fun _ => 0) 0 0)), zc 0 20, .inr (4, [.ref 24, .ref 21, .ref 22, .ref 23, .int 1]), .inl (0, 8, .inl (upd (fun _ => 0) 0 0)), .inl (0, 8, .inl (upd (fun _ => 0) 0 0)), .inl (0, 8, .inl (upd (fun _ => 0) 0 0)), .inl (0, 8, .inl (upd (fun _ => 0) 0 0)), .inr (7, [.int 0, .int 0, .int 0, .null, .null, .null, .null, .null, .null, .int 0, .null, .int 0, .null, .int 0, .int 0, .null, .null, .null, .int 0, .null, .null, .null, .null, .null, .int 0, .null, .null, .null, .int 0, .int 0])] 25 741 (fun o1 h1 k1 s1 => o1 = .inl none ∧ h1 = [.inl (3, n, .inl xs), .inr (6, [.int 1, .ref 15, .ref 20, .ref 2, .ref 6, .ref 8, .ref 11, .int 0, .int 0, .ref 13, .ref 14]), .inr (0, [.ref 3, .ref 4, .ref 5, .int 0]), zc 0 4, zc 0 4, zc 1 4, .inr (2, [.int 0, .int 0, .ref 7]), zc 0 20, .inr (1, [.ref 9, .ref 10, .int 0, .int 0, .int 0, .int 0]), zc 0 257, zc 0 257, .inr (5, [.ref 12]), zc 0 8, zc 0 5, zc 0 5, .inr (3, [.ref 19, .ref 16, .ref 17, .ref 18, .int 1]), .inl (0, 20, .inl (upd (fun _ => 0) 0 0)), .inl (0, 20, .inl (upd (fun _ => 0) 0 0)), .inl (0, 20, .inl (upd (fun _ => 0) 0 0)), zc 0 20, .inr (4, [.ref 24, .ref 21, .ref 22, .ref 23, .int 1]), .inl (0, 8, .inl (upd (fun _ => 0) 0 0)), .inl (0, 8, .inl (upd (fun _ => 0) 0 0)), .inl (0, 8, .inl (upd (fun _ => 0) 0 0)), .inl (0, 8, .inl (upd (fun _ => 0) 0 0)), .inr (7, [.int 0, .int 1, .int 1, .ref 26, .ref 27, .ref 28, .ref 29, .ref 30, .ref 31, .int 1, .ref 32, .int 0, .ref 33, .int 0, .int 0, .ref 34, .ref 35, .ref 36, .int 0, .ref 37, .ref 38, .ref 39, .ref 40, .ref 41, .int 0, .ref 42, .ref 43, .ref 44, .int 0, .int 0]), .inl (0, 20, .inl (upd (fun _ => 0) 0 0)), .inl (0, 20, .inl (upd (fun _ => 0) 0 0)), .inl (0, 20, .inl (upd (fun _ => 0) 0 0)), .inl (1, 20, .inl (upd (fun _ => 0) 0 1)), .inl (0, 20, .inl (upd (upd (fun _ => 0) 0 0) 0 1)), zc 0 20, .inl (0, 8, .inl (upd (fun _ => 0) 0 0)), .inl (0, 64, .inl (upd (fun _ => 0) 0 0)), zc 0 4, zc 0 4, zc 1 4, zc 0 16, zc 0 16, zc 0 1024, zc 0 1024, zc 1 64, zc 0 5, zc 0 8, zc 0 8] ∧ k1 = 44 ∧ s1 = 3110) := by
  refine k_mod1 ?_
  refine ax_nx rfl rfl ?_
  obtain ⟨-, hj⟩ := hj
  rcases hj with ⟨-, hx⟩ | ⟨-, hj0, hx⟩ | ⟨-, hj0, hx⟩
  · refine ax_top (y := nI 0) hx ?_
    refine ax_nx (al' := [.ref 25, .int v, .int (nI 0), ax_u, ax_u]) rfl rfl ?_
    iterate 5 refine ax_nx rfl rfl ?_
    refine ax_nx (st' := [.int 1, .ref 25]) rfl rfl ?_
    exact k_mtail1
  · refine ax_top (y := 0) hx ?_
    refine ax_nx (al' := [.ref 25, .int v, .int (0), ax_u, ax_u]) rfl rfl ?_
    iterate 5 refine ax_nx rfl rfl ?_
    refine ax_nx (st' := [.int 1, .ref 25]) rfl rfl ?_
    exact k_mtail1
  · omega
set_option maxRecDepth 8000 in
theorem k_class1 {v : Int32} (hj : fmc v 0) : ax_R (d + 2) 77 0 (ax_in 77 [.ref 1, .int v]) [] [.inl (3, n, .inl xs), .inr (6, [.int 0, .null, .null, .null, .null, .null, .null, .int 0, .int 0, .null, .null])] 1 11 (fun o1 h1 k1 s1 => o1 = .inl none ∧ h1 = [.inl (3, n, .inl xs), .inr (6, [.int 1, .ref 15, .ref 20, .ref 2, .ref 6, .ref 8, .ref 11, .int 0, .int 0, .ref 13, .ref 14]), .inr (0, [.ref 3, .ref 4, .ref 5, .int 0]), zc 0 4, zc 0 4, zc 1 4, .inr (2, [.int 0, .int 0, .ref 7]), zc 0 20, .inr (1, [.ref 9, .ref 10, .int 0, .int 0, .int 0, .int 0]), zc 0 257, zc 0 257, .inr (5, [.ref 12]), zc 0 8, zc 0 5, zc 0 5, .inr (3, [.ref 19, .ref 16, .ref 17, .ref 18, .int 1]), .inl (0, 20, .inl (upd (fun _ => 0) 0 0)), .inl (0, 20, .inl (upd (fun _ => 0) 0 0)), .inl (0, 20, .inl (upd (fun _ => 0) 0 0)), zc 0 20, .inr (4, [.ref 24, .ref 21, .ref 22, .ref 23, .int 1]), .inl (0, 8, .inl (upd (fun _ => 0) 0 0)), .inl (0, 8, .inl (upd (fun _ => 0) 0 0)), .inl (0, 8, .inl (upd (fun _ => 0) 0 0)), .inl (0, 8, .inl (upd (fun _ => 0) 0 0))] ∧ k1 = 24 ∧ s1 = 711) := by
  refine k_head (d := d + 1) ?_
  refine ax_cal rfl rfl (q_fm hj) (fun w h' hh => ?_)
  obtain ⟨rfl, rfl⟩ := hh
  exact k_tail1
set_option maxRecDepth 8000 in
theorem k_law1 (hn : n ≤ 2049) (hj : fmc (v0 n xs) 0) : ax_R (d + 60) 108 0 (ax_in 108 [.ref 0]) [] [.inl (3, n, .inl xs)] 0 0 law_Q := by
  refine ax_next (k' := 1) (s' := 11) (st' := [.ref 1]) (h' := [.inl (3, n, .inl xs), .inr (6, [.int 0, .null, .null, .null, .null, .null, .null, .int 0, .int 0, .null, .null])]) rfl rfl ?_
  iterate 3 refine ax_nx rfl rfl ?_
  refine ax_cal (d := d + 59) rfl rfl (q_cell hn) (fun w h' hh => ?_)
  obtain ⟨rfl, rfl⟩ := hh
  refine ax_call (d := d + 59) rfl rfl (k_class1 (d := d + 57) hj) (fun o1 h1 k1 s1 hq => ?_)
  obtain ⟨rfl, rfl, rfl, rfl⟩ := hq
  refine Or.inl ⟨_, rfl, ?_⟩
  refine ax_nx (al' := [.ref 0, .ref 1, ax_u, ax_u, ax_u, ax_u, ax_u]) rfl rfl ?_
  refine ax_next (k' := 1) (s' := 30) (st' := [.ref 25]) (h' := [.inl (3, n, .inl xs), .inr (6, [.int 1, .ref 15, .ref 20, .ref 2, .ref 6, .ref 8, .ref 11, .int 0, .int 0, .ref 13, .ref 14]), .inr (0, [.ref 3, .ref 4, .ref 5, .int 0]), zc 0 4, zc 0 4, zc 1 4, .inr (2, [.int 0, .int 0, .ref 7]), zc 0 20, .inr (1, [.ref 9, .ref 10, .int 0, .int 0, .int 0, .int 0]), zc 0 257, zc 0 257, .inr (5, [.ref 12]), zc 0 8, zc 0 5, zc 0 5, .inr (3, [.ref 19, .ref 16, .ref 17, .ref 18, .int 1]), .inl (0, 20, .inl (upd (fun _ => 0) 0 0)), .inl (0, 20, .inl (upd (fun _ => 0) 0 0)), .inl (0, 20, .inl (upd (fun _ => 0) 0 0)), zc 0 20, .inr (4, [.ref 24, .ref 21, .ref 22, .ref 23, .int 1]), .inl (0, 8, .inl (upd (fun _ => 0) 0 0)), .inl (0, 8, .inl (upd (fun _ => 0) 0 0)), .inl (0, 8, .inl (upd (fun _ => 0) 0 0)), .inl (0, 8, .inl (upd (fun _ => 0) 0 0)), .inr (7, [.int 0, .int 0, .int 0, .null, .null, .null, .null, .null, .null, .int 0, .null, .int 0, .null, .int 0, .int 0, .null, .null, .null, .int 0, .null, .null, .null, .null, .null, .int 0, .null, .null, .null, .int 0, .int 0])]) rfl rfl ?_
  iterate 3 refine ax_nx rfl rfl ?_
  refine ax_cal (d := d + 59) rfl rfl (q_cell hn) (fun w h' hh => ?_)
  obtain ⟨rfl, rfl⟩ := hh
  refine ax_call (d := d + 59) rfl rfl (k_model1 (d := d + 57) hj) (fun o1 h1 k1 s1 hq => ?_)
  obtain ⟨rfl, rfl, rfl, rfl⟩ := hq
  refine Or.inl ⟨_, rfl, ?_⟩
  refine ax_nx (al' := [.ref 0, .ref 1, .ref 25, ax_u, ax_u, ax_u, ax_u]) rfl rfl ?_
  refine ax_nx rfl rfl ?_
  refine ax_next (k' := 1) (s' := 1) (st' := [.ref 45]) (h' := hp n xs (f0 1) a0_1 (fun _ => 0)) rfl rfl ?_
  refine ax_nx (al' := [.ref 0, .ref 1, .ref 25, .ref 45, ax_u, ax_u, ax_u]) rfl rfl ?_
  refine ax_nx rfl rfl ?_
  refine ax_nx (al' := [.ref 0, .ref 1, .ref 25, .ref 45, .int (nI 1), ax_u, ax_u]) rfl rfl ?_
  exact law_l hn n 0 1 (by omega) (by omega) (by omega) _ _ _ _ _ _ _ iv0_1 (by omega) (by omega)
def a0_2 : Nat → Nat → Int32 := upda (upda (upda (upda (upda (upda (upda (upda (upda (upda (upda (upda (upda (upda (fun _ => fun _ => 0) 16 (upd (upd (fun _ => 0) 0 0) 1 0)) 17 (upd (upd (fun _ => 0) 0 0) 1 1)) 18 (upd (upd (fun _ => 0) 0 0) 1 0)) 21 (upd (upd (fun _ => 0) 0 0) 1 0)) 22 (upd (upd (fun _ => 0) 0 0) 1 1)) 23 (upd (upd (fun _ => 0) 0 0) 1 0)) 24 (upd (upd (fun _ => 0) 0 0) 1 1)) 26 (upd (upd (fun _ => 0) 0 0) 1 0)) 27 (upd (upd (fun _ => 0) 0 0) 1 1)) 28 (upd (upd (fun _ => 0) 0 0) 1 0)) 29 (upd (upd (fun _ => 0) 0 1) 1 1)) 30 (upd (upd (upd (upd (fun _ => 0) 0 0) 0 1) 1 0) 1 2)) 32 (upd (upd (fun _ => 0) 0 0) 1 1)) 33 (upd (upd (fun _ => 0) 0 0) 0 1)
theorem iv0_2 : ivx (f0 2) a0_2 := by
  refine ⟨2, _, _, _, _, _, _, iv0 (by omega) (by omega) (fun i hi => ?_)⟩
  have : i = 0 ∨ i = 1 := by omega
  rcases this with rfl | rfl <;> exact ⟨⟨rfl, rfl, rfl, rfl⟩, ⟨rfl, rfl, rfl, rfl⟩, ⟨rfl, rfl, rfl, rfl⟩, rfl, rfl⟩
set_option maxRecDepth 8000 in
theorem k_model2 {v : Int32} (hj : fmc v 1) : ax_R (d + 2) 0 0 (ax_in 0 [.ref 25, .int v]) [] [.inl (3, n, .inl xs), .inr (6, [.int 2, .ref 15, .ref 20, .ref 2, .ref 6, .ref 8, .ref 11, .int 0, .int 0, .ref 13, .ref 14]), .inr (0, [.ref 3, .ref 4, .ref 5, .int 0]), zc 0 4, zc 0 4, zc 1 4, .inr (2, [.int 0, .int 0, .ref 7]), zc 0 20, .inr (1, [.ref 9, .ref 10, .int 0, .int 0, .int 0, .int 0]), zc 0 257, zc 0 257, .inr (5, [.ref 12]), zc 0 8, zc 0 5, zc 0 5, .inr (3, [.ref 19, .ref 16, .ref 17, .ref 18, .int 2]), .inl (0, 20, .inl (upd (upd (fun _ => 0) 0 0) 1 0)), .inl (0, 20, .inl (upd (upd (fun _ => 0) 0 0) 1 1)), .inl (0, 20, .inl (upd (upd (fun _ => 0) 0 0) 1 0)), zc 0 20, .inr (4, [.ref 24, .ref 21, .ref 22, .ref 23, .int 2]), .inl (0, 8, .inl (upd (upd (fun _ => 0) 0 0) 1 0)), .inl (0, 8, .inl (upd (upd (fun _ => 0) 0 0) 1 1)), .inl (0, 8, .inl (upd (upd (fun _ => 0) 0 0) 1 0)), .inl (0, 8, .inl (upd (upd (fun _ => 0) 0 0) 1 1)), .inr (7, [.int 0, .int 0, .int 0, .null, .null, .null, .null, .null, .null, .int 0, .null, .int 0, .null, .int 0, .int 0, .null, .null, .null, .int 0, .null, .null, .null, .null, .null, .int 0, .null, .null, .null, .int 0, .int 0])] 25 741 (fun o1 h1 k1 s1 => o1 = .inl none ∧ h1 = [.inl (3, n, .inl xs), .inr (6, [.int 2, .ref 15, .ref 20, .ref 2, .ref 6, .ref 8, .ref 11, .int 0, .int 0, .ref 13, .ref 14]), .inr (0, [.ref 3, .ref 4, .ref 5, .int 0]), zc 0 4, zc 0 4, zc 1 4, .inr (2, [.int 0, .int 0, .ref 7]), zc 0 20, .inr (1, [.ref 9, .ref 10, .int 0, .int 0, .int 0, .int 0]), zc 0 257, zc 0 257, .inr (5, [.ref 12]), zc 0 8, zc 0 5, zc 0 5, .inr (3, [.ref 19, .ref 16, .ref 17, .ref 18, .int 2]), .inl (0, 20, .inl (upd (upd (fun _ => 0) 0 0) 1 0)), .inl (0, 20, .inl (upd (upd (fun _ => 0) 0 0) 1 1)), .inl (0, 20, .inl (upd (upd (fun _ => 0) 0 0) 1 0)), zc 0 20, .inr (4, [.ref 24, .ref 21, .ref 22, .ref 23, .int 2]), .inl (0, 8, .inl (upd (upd (fun _ => 0) 0 0) 1 0)), .inl (0, 8, .inl (upd (upd (fun _ => 0) 0 0) 1 1)), .inl (0, 8, .inl (upd (upd (fun _ => 0) 0 0) 1 0)), .inl (0, 8, .inl (upd (upd (fun _ => 0) 0 0) 1 1)), .inr (7, [.int 0, .int 2, .int 2, .ref 26, .ref 27, .ref 28, .ref 29, .ref 30, .ref 31, .int 2, .ref 32, .int 0, .ref 33, .int 0, .int 0, .ref 34, .ref 35, .ref 36, .int 0, .ref 37, .ref 38, .ref 39, .ref 40, .ref 41, .int 0, .ref 42, .ref 43, .ref 44, .int 0, .int 0]), .inl (0, 20, .inl (upd (upd (fun _ => 0) 0 0) 1 0)), .inl (0, 20, .inl (upd (upd (fun _ => 0) 0 0) 1 1)), .inl (0, 20, .inl (upd (upd (fun _ => 0) 0 0) 1 0)), .inl (1, 20, .inl (upd (upd (fun _ => 0) 0 1) 1 1)), .inl (0, 20, .inl (upd (upd (upd (upd (fun _ => 0) 0 0) 0 1) 1 0) 1 2)), zc 0 20, .inl (0, 8, .inl (upd (upd (fun _ => 0) 0 0) 1 1)), .inl (0, 64, .inl (upd (upd (fun _ => 0) 0 0) 0 1)), zc 0 4, zc 0 4, zc 1 4, zc 0 16, zc 0 16, zc 0 1024, zc 0 1024, zc 1 64, zc 0 5, zc 0 8, zc 0 8] ∧ k1 = 44 ∧ s1 = 3110) := by
  refine k_mod2 ?_
  refine ax_nx rfl rfl ?_
  obtain ⟨-, hj⟩ := hj
  rcases hj with ⟨-, hx⟩ | ⟨-, hj0, hx⟩ | ⟨-, hj0, hx⟩
  · refine ax_top (y := nI 1) hx ?_
    refine ax_nx (al' := [.ref 25, .int v, .int (nI 1), ax_u, ax_u]) rfl rfl ?_
    iterate 5 refine ax_nx rfl rfl ?_
    refine ax_nx (st' := [.int 2, .ref 25]) rfl rfl ?_
    exact k_mtail2
  · omega
  · refine ax_top (y := nI 1 - 4) hx ?_
    refine ax_nx (al' := [.ref 25, .int v, .int (nI 1 - 4), ax_u, ax_u]) rfl rfl ?_
    iterate 8 refine ax_nx rfl rfl ?_
    refine ax_nx (st' := [.int 2, .ref 25]) rfl rfl ?_
    exact k_mtail2
set_option maxRecDepth 8000 in
theorem k_class2 {v : Int32} (hj : fmc v 1) : ax_R (d + 2) 77 0 (ax_in 77 [.ref 1, .int v]) [] [.inl (3, n, .inl xs), .inr (6, [.int 0, .null, .null, .null, .null, .null, .null, .int 0, .int 0, .null, .null])] 1 11 (fun o1 h1 k1 s1 => o1 = .inl none ∧ h1 = [.inl (3, n, .inl xs), .inr (6, [.int 2, .ref 15, .ref 20, .ref 2, .ref 6, .ref 8, .ref 11, .int 0, .int 0, .ref 13, .ref 14]), .inr (0, [.ref 3, .ref 4, .ref 5, .int 0]), zc 0 4, zc 0 4, zc 1 4, .inr (2, [.int 0, .int 0, .ref 7]), zc 0 20, .inr (1, [.ref 9, .ref 10, .int 0, .int 0, .int 0, .int 0]), zc 0 257, zc 0 257, .inr (5, [.ref 12]), zc 0 8, zc 0 5, zc 0 5, .inr (3, [.ref 19, .ref 16, .ref 17, .ref 18, .int 2]), .inl (0, 20, .inl (upd (upd (fun _ => 0) 0 0) 1 0)), .inl (0, 20, .inl (upd (upd (fun _ => 0) 0 0) 1 1)), .inl (0, 20, .inl (upd (upd (fun _ => 0) 0 0) 1 0)), zc 0 20, .inr (4, [.ref 24, .ref 21, .ref 22, .ref 23, .int 2]), .inl (0, 8, .inl (upd (upd (fun _ => 0) 0 0) 1 0)), .inl (0, 8, .inl (upd (upd (fun _ => 0) 0 0) 1 1)), .inl (0, 8, .inl (upd (upd (fun _ => 0) 0 0) 1 0)), .inl (0, 8, .inl (upd (upd (fun _ => 0) 0 0) 1 1))] ∧ k1 = 24 ∧ s1 = 711) := by
  refine k_head (d := d + 1) ?_
  refine ax_cal rfl rfl (q_fm hj) (fun w h' hh => ?_)
  obtain ⟨rfl, rfl⟩ := hh
  exact k_tail2
set_option maxRecDepth 8000 in
theorem k_law2 (hn : n ≤ 2049) (hj : fmc (v0 n xs) 1) : ax_R (d + 60) 108 0 (ax_in 108 [.ref 0]) [] [.inl (3, n, .inl xs)] 0 0 law_Q := by
  refine ax_next (k' := 1) (s' := 11) (st' := [.ref 1]) (h' := [.inl (3, n, .inl xs), .inr (6, [.int 0, .null, .null, .null, .null, .null, .null, .int 0, .int 0, .null, .null])]) rfl rfl ?_
  iterate 3 refine ax_nx rfl rfl ?_
  refine ax_cal (d := d + 59) rfl rfl (q_cell hn) (fun w h' hh => ?_)
  obtain ⟨rfl, rfl⟩ := hh
  refine ax_call (d := d + 59) rfl rfl (k_class2 (d := d + 57) hj) (fun o1 h1 k1 s1 hq => ?_)
  obtain ⟨rfl, rfl, rfl, rfl⟩ := hq
  refine Or.inl ⟨_, rfl, ?_⟩
  refine ax_nx (al' := [.ref 0, .ref 1, ax_u, ax_u, ax_u, ax_u, ax_u]) rfl rfl ?_
  refine ax_next (k' := 1) (s' := 30) (st' := [.ref 25]) (h' := [.inl (3, n, .inl xs), .inr (6, [.int 2, .ref 15, .ref 20, .ref 2, .ref 6, .ref 8, .ref 11, .int 0, .int 0, .ref 13, .ref 14]), .inr (0, [.ref 3, .ref 4, .ref 5, .int 0]), zc 0 4, zc 0 4, zc 1 4, .inr (2, [.int 0, .int 0, .ref 7]), zc 0 20, .inr (1, [.ref 9, .ref 10, .int 0, .int 0, .int 0, .int 0]), zc 0 257, zc 0 257, .inr (5, [.ref 12]), zc 0 8, zc 0 5, zc 0 5, .inr (3, [.ref 19, .ref 16, .ref 17, .ref 18, .int 2]), .inl (0, 20, .inl (upd (upd (fun _ => 0) 0 0) 1 0)), .inl (0, 20, .inl (upd (upd (fun _ => 0) 0 0) 1 1)), .inl (0, 20, .inl (upd (upd (fun _ => 0) 0 0) 1 0)), zc 0 20, .inr (4, [.ref 24, .ref 21, .ref 22, .ref 23, .int 2]), .inl (0, 8, .inl (upd (upd (fun _ => 0) 0 0) 1 0)), .inl (0, 8, .inl (upd (upd (fun _ => 0) 0 0) 1 1)), .inl (0, 8, .inl (upd (upd (fun _ => 0) 0 0) 1 0)), .inl (0, 8, .inl (upd (upd (fun _ => 0) 0 0) 1 1)), .inr (7, [.int 0, .int 0, .int 0, .null, .null, .null, .null, .null, .null, .int 0, .null, .int 0, .null, .int 0, .int 0, .null, .null, .null, .int 0, .null, .null, .null, .null, .null, .int 0, .null, .null, .null, .int 0, .int 0])]) rfl rfl ?_
  iterate 3 refine ax_nx rfl rfl ?_
  refine ax_cal (d := d + 59) rfl rfl (q_cell hn) (fun w h' hh => ?_)
  obtain ⟨rfl, rfl⟩ := hh
  refine ax_call (d := d + 59) rfl rfl (k_model2 (d := d + 57) hj) (fun o1 h1 k1 s1 hq => ?_)
  obtain ⟨rfl, rfl, rfl, rfl⟩ := hq
  refine Or.inl ⟨_, rfl, ?_⟩
  refine ax_nx (al' := [.ref 0, .ref 1, .ref 25, ax_u, ax_u, ax_u, ax_u]) rfl rfl ?_
  refine ax_nx rfl rfl ?_
  refine ax_next (k' := 1) (s' := 1) (st' := [.ref 45]) (h' := hp n xs (f0 2) a0_2 (fun _ => 0)) rfl rfl ?_
  refine ax_nx (al' := [.ref 0, .ref 1, .ref 25, .ref 45, ax_u, ax_u, ax_u]) rfl rfl ?_
  refine ax_nx rfl rfl ?_
  refine ax_nx (al' := [.ref 0, .ref 1, .ref 25, .ref 45, .int (nI 1), ax_u, ax_u]) rfl rfl ?_
  exact law_l hn n 0 1 (by omega) (by omega) (by omega) _ _ _ _ _ _ _ iv0_2 (by omega) (by omega)
def a0_3 : Nat → Nat → Int32 := upda (upda (upda (upda (upda (upda (upda (upda (upda (upda (upda (upda (upda (upda (fun _ => fun _ => 0) 16 (upd (upd (upd (fun _ => 0) 0 0) 1 0) 2 0)) 17 (upd (upd (upd (fun _ => 0) 0 0) 1 1) 2 2)) 18 (upd (upd (upd (fun _ => 0) 0 0) 1 0) 2 0)) 21 (upd (upd (upd (fun _ => 0) 0 0) 1 0) 2 0)) 22 (upd (upd (upd (fun _ => 0) 0 0) 1 1) 2 2)) 23 (upd (upd (upd (fun _ => 0) 0 0) 1 0) 2 0)) 24 (upd (upd (upd (fun _ => 0) 0 0) 1 1) 2 2)) 26 (upd (upd (upd (fun _ => 0) 0 0) 1 0) 2 0)) 27 (upd (upd (upd (fun _ => 0) 0 0) 1 1) 2 2)) 28 (upd (upd (upd (fun _ => 0) 0 0) 1 0) 2 0)) 29 (upd (upd (upd (fun _ => 0) 0 1) 1 1) 2 1)) 30 (upd (upd (upd (upd (upd (upd (fun _ => 0) 0 0) 0 1) 1 0) 1 2) 2 0) 2 3)) 32 (upd (upd (upd (fun _ => 0) 0 0) 1 1) 2 2)) 33 (upd (upd (upd (fun _ => 0) 0 0) 0 1) 0 2)
theorem iv0_3 : ivx (f0 3) a0_3 := by
  refine ⟨3, _, _, _, _, _, _, iv0 (by omega) (by omega) (fun i hi => ?_)⟩
  have : i = 0 ∨ i = 1 ∨ i = 2 := by omega
  rcases this with rfl | rfl | rfl <;> exact ⟨⟨rfl, rfl, rfl, rfl⟩, ⟨rfl, rfl, rfl, rfl⟩, ⟨rfl, rfl, rfl, rfl⟩, rfl, rfl⟩
set_option maxRecDepth 8000 in
theorem k_model3 {v : Int32} (hj : fmc v 2) : ax_R (d + 2) 0 0 (ax_in 0 [.ref 25, .int v]) [] [.inl (3, n, .inl xs), .inr (6, [.int 3, .ref 15, .ref 20, .ref 2, .ref 6, .ref 8, .ref 11, .int 0, .int 0, .ref 13, .ref 14]), .inr (0, [.ref 3, .ref 4, .ref 5, .int 0]), zc 0 4, zc 0 4, zc 1 4, .inr (2, [.int 0, .int 0, .ref 7]), zc 0 20, .inr (1, [.ref 9, .ref 10, .int 0, .int 0, .int 0, .int 0]), zc 0 257, zc 0 257, .inr (5, [.ref 12]), zc 0 8, zc 0 5, zc 0 5, .inr (3, [.ref 19, .ref 16, .ref 17, .ref 18, .int 3]), .inl (0, 20, .inl (upd (upd (upd (fun _ => 0) 0 0) 1 0) 2 0)), .inl (0, 20, .inl (upd (upd (upd (fun _ => 0) 0 0) 1 1) 2 2)), .inl (0, 20, .inl (upd (upd (upd (fun _ => 0) 0 0) 1 0) 2 0)), zc 0 20, .inr (4, [.ref 24, .ref 21, .ref 22, .ref 23, .int 3]), .inl (0, 8, .inl (upd (upd (upd (fun _ => 0) 0 0) 1 0) 2 0)), .inl (0, 8, .inl (upd (upd (upd (fun _ => 0) 0 0) 1 1) 2 2)), .inl (0, 8, .inl (upd (upd (upd (fun _ => 0) 0 0) 1 0) 2 0)), .inl (0, 8, .inl (upd (upd (upd (fun _ => 0) 0 0) 1 1) 2 2)), .inr (7, [.int 0, .int 0, .int 0, .null, .null, .null, .null, .null, .null, .int 0, .null, .int 0, .null, .int 0, .int 0, .null, .null, .null, .int 0, .null, .null, .null, .null, .null, .int 0, .null, .null, .null, .int 0, .int 0])] 25 741 (fun o1 h1 k1 s1 => o1 = .inl none ∧ h1 = [.inl (3, n, .inl xs), .inr (6, [.int 3, .ref 15, .ref 20, .ref 2, .ref 6, .ref 8, .ref 11, .int 0, .int 0, .ref 13, .ref 14]), .inr (0, [.ref 3, .ref 4, .ref 5, .int 0]), zc 0 4, zc 0 4, zc 1 4, .inr (2, [.int 0, .int 0, .ref 7]), zc 0 20, .inr (1, [.ref 9, .ref 10, .int 0, .int 0, .int 0, .int 0]), zc 0 257, zc 0 257, .inr (5, [.ref 12]), zc 0 8, zc 0 5, zc 0 5, .inr (3, [.ref 19, .ref 16, .ref 17, .ref 18, .int 3]), .inl (0, 20, .inl (upd (upd (upd (fun _ => 0) 0 0) 1 0) 2 0)), .inl (0, 20, .inl (upd (upd (upd (fun _ => 0) 0 0) 1 1) 2 2)), .inl (0, 20, .inl (upd (upd (upd (fun _ => 0) 0 0) 1 0) 2 0)), zc 0 20, .inr (4, [.ref 24, .ref 21, .ref 22, .ref 23, .int 3]), .inl (0, 8, .inl (upd (upd (upd (fun _ => 0) 0 0) 1 0) 2 0)), .inl (0, 8, .inl (upd (upd (upd (fun _ => 0) 0 0) 1 1) 2 2)), .inl (0, 8, .inl (upd (upd (upd (fun _ => 0) 0 0) 1 0) 2 0)), .inl (0, 8, .inl (upd (upd (upd (fun _ => 0) 0 0) 1 1) 2 2)), .inr (7, [.int 0, .int 3, .int 3, .ref 26, .ref 27, .ref 28, .ref 29, .ref 30, .ref 31, .int 3, .ref 32, .int 0, .ref 33, .int 0, .int 0, .ref 34, .ref 35, .ref 36, .int 0, .ref 37, .ref 38, .ref 39, .ref 40, .ref 41, .int 0, .ref 42, .ref 43, .ref 44, .int 0, .int 0]), .inl (0, 20, .inl (upd (upd (upd (fun _ => 0) 0 0) 1 0) 2 0)), .inl (0, 20, .inl (upd (upd (upd (fun _ => 0) 0 0) 1 1) 2 2)), .inl (0, 20, .inl (upd (upd (upd (fun _ => 0) 0 0) 1 0) 2 0)), .inl (1, 20, .inl (upd (upd (upd (fun _ => 0) 0 1) 1 1) 2 1)), .inl (0, 20, .inl (upd (upd (upd (upd (upd (upd (fun _ => 0) 0 0) 0 1) 1 0) 1 2) 2 0) 2 3)), zc 0 20, .inl (0, 8, .inl (upd (upd (upd (fun _ => 0) 0 0) 1 1) 2 2)), .inl (0, 64, .inl (upd (upd (upd (fun _ => 0) 0 0) 0 1) 0 2)), zc 0 4, zc 0 4, zc 1 4, zc 0 16, zc 0 16, zc 0 1024, zc 0 1024, zc 1 64, zc 0 5, zc 0 8, zc 0 8] ∧ k1 = 44 ∧ s1 = 3110) := by
  refine k_mod3 ?_
  refine ax_nx rfl rfl ?_
  obtain ⟨-, hj⟩ := hj
  rcases hj with ⟨-, hx⟩ | ⟨-, hj0, hx⟩ | ⟨-, hj0, hx⟩
  · refine ax_top (y := nI 2) hx ?_
    refine ax_nx (al' := [.ref 25, .int v, .int (nI 2), ax_u, ax_u]) rfl rfl ?_
    iterate 5 refine ax_nx rfl rfl ?_
    refine ax_nx (st' := [.int 3, .ref 25]) rfl rfl ?_
    exact k_mtail3
  · omega
  · refine ax_top (y := nI 2 - 4) hx ?_
    refine ax_nx (al' := [.ref 25, .int v, .int (nI 2 - 4), ax_u, ax_u]) rfl rfl ?_
    iterate 8 refine ax_nx rfl rfl ?_
    refine ax_nx (st' := [.int 3, .ref 25]) rfl rfl ?_
    exact k_mtail3
set_option maxRecDepth 8000 in
theorem k_class3 {v : Int32} (hj : fmc v 2) : ax_R (d + 2) 77 0 (ax_in 77 [.ref 1, .int v]) [] [.inl (3, n, .inl xs), .inr (6, [.int 0, .null, .null, .null, .null, .null, .null, .int 0, .int 0, .null, .null])] 1 11 (fun o1 h1 k1 s1 => o1 = .inl none ∧ h1 = [.inl (3, n, .inl xs), .inr (6, [.int 3, .ref 15, .ref 20, .ref 2, .ref 6, .ref 8, .ref 11, .int 0, .int 0, .ref 13, .ref 14]), .inr (0, [.ref 3, .ref 4, .ref 5, .int 0]), zc 0 4, zc 0 4, zc 1 4, .inr (2, [.int 0, .int 0, .ref 7]), zc 0 20, .inr (1, [.ref 9, .ref 10, .int 0, .int 0, .int 0, .int 0]), zc 0 257, zc 0 257, .inr (5, [.ref 12]), zc 0 8, zc 0 5, zc 0 5, .inr (3, [.ref 19, .ref 16, .ref 17, .ref 18, .int 3]), .inl (0, 20, .inl (upd (upd (upd (fun _ => 0) 0 0) 1 0) 2 0)), .inl (0, 20, .inl (upd (upd (upd (fun _ => 0) 0 0) 1 1) 2 2)), .inl (0, 20, .inl (upd (upd (upd (fun _ => 0) 0 0) 1 0) 2 0)), zc 0 20, .inr (4, [.ref 24, .ref 21, .ref 22, .ref 23, .int 3]), .inl (0, 8, .inl (upd (upd (upd (fun _ => 0) 0 0) 1 0) 2 0)), .inl (0, 8, .inl (upd (upd (upd (fun _ => 0) 0 0) 1 1) 2 2)), .inl (0, 8, .inl (upd (upd (upd (fun _ => 0) 0 0) 1 0) 2 0)), .inl (0, 8, .inl (upd (upd (upd (fun _ => 0) 0 0) 1 1) 2 2))] ∧ k1 = 24 ∧ s1 = 711) := by
  refine k_head (d := d + 1) ?_
  refine ax_cal rfl rfl (q_fm hj) (fun w h' hh => ?_)
  obtain ⟨rfl, rfl⟩ := hh
  exact k_tail3
set_option maxRecDepth 8000 in
theorem k_law3 (hn : n ≤ 2049) (hj : fmc (v0 n xs) 2) : ax_R (d + 60) 108 0 (ax_in 108 [.ref 0]) [] [.inl (3, n, .inl xs)] 0 0 law_Q := by
  refine ax_next (k' := 1) (s' := 11) (st' := [.ref 1]) (h' := [.inl (3, n, .inl xs), .inr (6, [.int 0, .null, .null, .null, .null, .null, .null, .int 0, .int 0, .null, .null])]) rfl rfl ?_
  iterate 3 refine ax_nx rfl rfl ?_
  refine ax_cal (d := d + 59) rfl rfl (q_cell hn) (fun w h' hh => ?_)
  obtain ⟨rfl, rfl⟩ := hh
  refine ax_call (d := d + 59) rfl rfl (k_class3 (d := d + 57) hj) (fun o1 h1 k1 s1 hq => ?_)
  obtain ⟨rfl, rfl, rfl, rfl⟩ := hq
  refine Or.inl ⟨_, rfl, ?_⟩
  refine ax_nx (al' := [.ref 0, .ref 1, ax_u, ax_u, ax_u, ax_u, ax_u]) rfl rfl ?_
  refine ax_next (k' := 1) (s' := 30) (st' := [.ref 25]) (h' := [.inl (3, n, .inl xs), .inr (6, [.int 3, .ref 15, .ref 20, .ref 2, .ref 6, .ref 8, .ref 11, .int 0, .int 0, .ref 13, .ref 14]), .inr (0, [.ref 3, .ref 4, .ref 5, .int 0]), zc 0 4, zc 0 4, zc 1 4, .inr (2, [.int 0, .int 0, .ref 7]), zc 0 20, .inr (1, [.ref 9, .ref 10, .int 0, .int 0, .int 0, .int 0]), zc 0 257, zc 0 257, .inr (5, [.ref 12]), zc 0 8, zc 0 5, zc 0 5, .inr (3, [.ref 19, .ref 16, .ref 17, .ref 18, .int 3]), .inl (0, 20, .inl (upd (upd (upd (fun _ => 0) 0 0) 1 0) 2 0)), .inl (0, 20, .inl (upd (upd (upd (fun _ => 0) 0 0) 1 1) 2 2)), .inl (0, 20, .inl (upd (upd (upd (fun _ => 0) 0 0) 1 0) 2 0)), zc 0 20, .inr (4, [.ref 24, .ref 21, .ref 22, .ref 23, .int 3]), .inl (0, 8, .inl (upd (upd (upd (fun _ => 0) 0 0) 1 0) 2 0)), .inl (0, 8, .inl (upd (upd (upd (fun _ => 0) 0 0) 1 1) 2 2)), .inl (0, 8, .inl (upd (upd (upd (fun _ => 0) 0 0) 1 0) 2 0)), .inl (0, 8, .inl (upd (upd (upd (fun _ => 0) 0 0) 1 1) 2 2)), .inr (7, [.int 0, .int 0, .int 0, .null, .null, .null, .null, .null, .null, .int 0, .null, .int 0, .null, .int 0, .int 0, .null, .null, .null, .int 0, .null, .null, .null, .null, .null, .int 0, .null, .null, .null, .int 0, .int 0])]) rfl rfl ?_
  iterate 3 refine ax_nx rfl rfl ?_
  refine ax_cal (d := d + 59) rfl rfl (q_cell hn) (fun w h' hh => ?_)
  obtain ⟨rfl, rfl⟩ := hh
  refine ax_call (d := d + 59) rfl rfl (k_model3 (d := d + 57) hj) (fun o1 h1 k1 s1 hq => ?_)
  obtain ⟨rfl, rfl, rfl, rfl⟩ := hq
  refine Or.inl ⟨_, rfl, ?_⟩
  refine ax_nx (al' := [.ref 0, .ref 1, .ref 25, ax_u, ax_u, ax_u, ax_u]) rfl rfl ?_
  refine ax_nx rfl rfl ?_
  refine ax_next (k' := 1) (s' := 1) (st' := [.ref 45]) (h' := hp n xs (f0 3) a0_3 (fun _ => 0)) rfl rfl ?_
  refine ax_nx (al' := [.ref 0, .ref 1, .ref 25, .ref 45, ax_u, ax_u, ax_u]) rfl rfl ?_
  refine ax_nx rfl rfl ?_
  refine ax_nx (al' := [.ref 0, .ref 1, .ref 25, .ref 45, .int (nI 1), ax_u, ax_u]) rfl rfl ?_
  exact law_l hn n 0 1 (by omega) (by omega) (by omega) _ _ _ _ _ _ _ iv0_3 (by omega) (by omega)
def a0_4 : Nat → Nat → Int32 := upda (upda (upda (upda (upda (upda (upda (upda (upda (upda (upda (upda (upda (upda (fun _ => fun _ => 0) 16 (upd (upd (upd (upd (fun _ => 0) 0 0) 1 0) 2 0) 3 0)) 17 (upd (upd (upd (upd (fun _ => 0) 0 0) 1 1) 2 2) 3 3)) 18 (upd (upd (upd (upd (fun _ => 0) 0 0) 1 0) 2 0) 3 0)) 21 (upd (upd (upd (upd (fun _ => 0) 0 0) 1 0) 2 0) 3 0)) 22 (upd (upd (upd (upd (fun _ => 0) 0 0) 1 1) 2 2) 3 3)) 23 (upd (upd (upd (upd (fun _ => 0) 0 0) 1 0) 2 0) 3 0)) 24 (upd (upd (upd (upd (fun _ => 0) 0 0) 1 1) 2 2) 3 3)) 26 (upd (upd (upd (upd (fun _ => 0) 0 0) 1 0) 2 0) 3 0)) 27 (upd (upd (upd (upd (fun _ => 0) 0 0) 1 1) 2 2) 3 3)) 28 (upd (upd (upd (upd (fun _ => 0) 0 0) 1 0) 2 0) 3 0)) 29 (upd (upd (upd (upd (fun _ => 0) 0 1) 1 1) 2 1) 3 1)) 30 (upd (upd (upd (upd (upd (upd (upd (upd (fun _ => 0) 0 0) 0 1) 1 0) 1 2) 2 0) 2 3) 3 0) 3 4)) 32 (upd (upd (upd (upd (fun _ => 0) 0 0) 1 1) 2 2) 3 3)) 33 (upd (upd (upd (upd (fun _ => 0) 0 0) 0 1) 0 2) 0 3)
theorem iv0_4 : ivx (f0 4) a0_4 := by
  refine ⟨4, _, _, _, _, _, _, iv0 (by omega) (by omega) (fun i hi => ?_)⟩
  have : i = 0 ∨ i = 1 ∨ i = 2 ∨ i = 3 := by omega
  rcases this with rfl | rfl | rfl | rfl <;> exact ⟨⟨rfl, rfl, rfl, rfl⟩, ⟨rfl, rfl, rfl, rfl⟩, ⟨rfl, rfl, rfl, rfl⟩, rfl, rfl⟩
set_option maxRecDepth 8000 in
theorem k_model4 {v : Int32} (hj : fmc v 3) : ax_R (d + 2) 0 0 (ax_in 0 [.ref 25, .int v]) [] [.inl (3, n, .inl xs), .inr (6, [.int 4, .ref 15, .ref 20, .ref 2, .ref 6, .ref 8, .ref 11, .int 0, .int 0, .ref 13, .ref 14]), .inr (0, [.ref 3, .ref 4, .ref 5, .int 0]), zc 0 4, zc 0 4, zc 1 4, .inr (2, [.int 0, .int 0, .ref 7]), zc 0 20, .inr (1, [.ref 9, .ref 10, .int 0, .int 0, .int 0, .int 0]), zc 0 257, zc 0 257, .inr (5, [.ref 12]), zc 0 8, zc 0 5, zc 0 5, .inr (3, [.ref 19, .ref 16, .ref 17, .ref 18, .int 4]), .inl (0, 20, .inl (upd (upd (upd (upd (fun _ => 0) 0 0) 1 0) 2 0) 3 0)), .inl (0, 20, .inl (upd (upd (upd (upd (fun _ => 0) 0 0) 1 1) 2 2) 3 3)), .inl (0, 20, .inl (upd (upd (upd (upd (fun _ => 0) 0 0) 1 0) 2 0) 3 0)), zc 0 20, .inr (4, [.ref 24, .ref 21, .ref 22, .ref 23, .int 4]), .inl (0, 8, .inl (upd (upd (upd (upd (fun _ => 0) 0 0) 1 0) 2 0) 3 0)), .inl (0, 8, .inl (upd (upd (upd (upd (fun _ => 0) 0 0) 1 1) 2 2) 3 3)), .inl (0, 8, .inl (upd (upd (upd (upd (fun _ => 0) 0 0) 1 0) 2 0) 3 0)), .inl (0, 8, .inl (upd (upd (upd (upd (fun _ => 0) 0 0) 1 1) 2 2) 3 3)), .inr (7, [.int 0, .int 0, .int 0, .null, .null, .null, .null, .null, .null, .int 0, .null, .int 0, .null, .int 0, .int 0, .null, .null, .null, .int 0, .null, .null, .null, .null, .null, .int 0, .null, .null, .null, .int 0, .int 0])] 25 741 (fun o1 h1 k1 s1 => o1 = .inl none ∧ h1 = [.inl (3, n, .inl xs), .inr (6, [.int 4, .ref 15, .ref 20, .ref 2, .ref 6, .ref 8, .ref 11, .int 0, .int 0, .ref 13, .ref 14]), .inr (0, [.ref 3, .ref 4, .ref 5, .int 0]), zc 0 4, zc 0 4, zc 1 4, .inr (2, [.int 0, .int 0, .ref 7]), zc 0 20, .inr (1, [.ref 9, .ref 10, .int 0, .int 0, .int 0, .int 0]), zc 0 257, zc 0 257, .inr (5, [.ref 12]), zc 0 8, zc 0 5, zc 0 5, .inr (3, [.ref 19, .ref 16, .ref 17, .ref 18, .int 4]), .inl (0, 20, .inl (upd (upd (upd (upd (fun _ => 0) 0 0) 1 0) 2 0) 3 0)), .inl (0, 20, .inl (upd (upd (upd (upd (fun _ => 0) 0 0) 1 1) 2 2) 3 3)), .inl (0, 20, .inl (upd (upd (upd (upd (fun _ => 0) 0 0) 1 0) 2 0) 3 0)), zc 0 20, .inr (4, [.ref 24, .ref 21, .ref 22, .ref 23, .int 4]), .inl (0, 8, .inl (upd (upd (upd (upd (fun _ => 0) 0 0) 1 0) 2 0) 3 0)), .inl (0, 8, .inl (upd (upd (upd (upd (fun _ => 0) 0 0) 1 1) 2 2) 3 3)), .inl (0, 8, .inl (upd (upd (upd (upd (fun _ => 0) 0 0) 1 0) 2 0) 3 0)), .inl (0, 8, .inl (upd (upd (upd (upd (fun _ => 0) 0 0) 1 1) 2 2) 3 3)), .inr (7, [.int 0, .int 4, .int 4, .ref 26, .ref 27, .ref 28, .ref 29, .ref 30, .ref 31, .int 4, .ref 32, .int 0, .ref 33, .int 0, .int 0, .ref 34, .ref 35, .ref 36, .int 0, .ref 37, .ref 38, .ref 39, .ref 40, .ref 41, .int 0, .ref 42, .ref 43, .ref 44, .int 0, .int 0]), .inl (0, 20, .inl (upd (upd (upd (upd (fun _ => 0) 0 0) 1 0) 2 0) 3 0)), .inl (0, 20, .inl (upd (upd (upd (upd (fun _ => 0) 0 0) 1 1) 2 2) 3 3)), .inl (0, 20, .inl (upd (upd (upd (upd (fun _ => 0) 0 0) 1 0) 2 0) 3 0)), .inl (1, 20, .inl (upd (upd (upd (upd (fun _ => 0) 0 1) 1 1) 2 1) 3 1)), .inl (0, 20, .inl (upd (upd (upd (upd (upd (upd (upd (upd (fun _ => 0) 0 0) 0 1) 1 0) 1 2) 2 0) 2 3) 3 0) 3 4)), zc 0 20, .inl (0, 8, .inl (upd (upd (upd (upd (fun _ => 0) 0 0) 1 1) 2 2) 3 3)), .inl (0, 64, .inl (upd (upd (upd (upd (fun _ => 0) 0 0) 0 1) 0 2) 0 3)), zc 0 4, zc 0 4, zc 1 4, zc 0 16, zc 0 16, zc 0 1024, zc 0 1024, zc 1 64, zc 0 5, zc 0 8, zc 0 8] ∧ k1 = 44 ∧ s1 = 3110) := by
  refine k_mod4 ?_
  refine ax_nx rfl rfl ?_
  obtain ⟨-, hj⟩ := hj
  rcases hj with ⟨-, hx⟩ | ⟨-, hj0, hx⟩ | ⟨-, hj0, hx⟩
  · refine ax_top (y := nI 3) hx ?_
    refine ax_nx (al' := [.ref 25, .int v, .int (nI 3), ax_u, ax_u]) rfl rfl ?_
    iterate 5 refine ax_nx rfl rfl ?_
    refine ax_nx (st' := [.int 4, .ref 25]) rfl rfl ?_
    exact k_mtail4
  · omega
  · refine ax_top (y := nI 3 - 4) hx ?_
    refine ax_nx (al' := [.ref 25, .int v, .int (nI 3 - 4), ax_u, ax_u]) rfl rfl ?_
    iterate 8 refine ax_nx rfl rfl ?_
    refine ax_nx (st' := [.int 4, .ref 25]) rfl rfl ?_
    exact k_mtail4
set_option maxRecDepth 8000 in
theorem k_class4 {v : Int32} (hj : fmc v 3) : ax_R (d + 2) 77 0 (ax_in 77 [.ref 1, .int v]) [] [.inl (3, n, .inl xs), .inr (6, [.int 0, .null, .null, .null, .null, .null, .null, .int 0, .int 0, .null, .null])] 1 11 (fun o1 h1 k1 s1 => o1 = .inl none ∧ h1 = [.inl (3, n, .inl xs), .inr (6, [.int 4, .ref 15, .ref 20, .ref 2, .ref 6, .ref 8, .ref 11, .int 0, .int 0, .ref 13, .ref 14]), .inr (0, [.ref 3, .ref 4, .ref 5, .int 0]), zc 0 4, zc 0 4, zc 1 4, .inr (2, [.int 0, .int 0, .ref 7]), zc 0 20, .inr (1, [.ref 9, .ref 10, .int 0, .int 0, .int 0, .int 0]), zc 0 257, zc 0 257, .inr (5, [.ref 12]), zc 0 8, zc 0 5, zc 0 5, .inr (3, [.ref 19, .ref 16, .ref 17, .ref 18, .int 4]), .inl (0, 20, .inl (upd (upd (upd (upd (fun _ => 0) 0 0) 1 0) 2 0) 3 0)), .inl (0, 20, .inl (upd (upd (upd (upd (fun _ => 0) 0 0) 1 1) 2 2) 3 3)), .inl (0, 20, .inl (upd (upd (upd (upd (fun _ => 0) 0 0) 1 0) 2 0) 3 0)), zc 0 20, .inr (4, [.ref 24, .ref 21, .ref 22, .ref 23, .int 4]), .inl (0, 8, .inl (upd (upd (upd (upd (fun _ => 0) 0 0) 1 0) 2 0) 3 0)), .inl (0, 8, .inl (upd (upd (upd (upd (fun _ => 0) 0 0) 1 1) 2 2) 3 3)), .inl (0, 8, .inl (upd (upd (upd (upd (fun _ => 0) 0 0) 1 0) 2 0) 3 0)), .inl (0, 8, .inl (upd (upd (upd (upd (fun _ => 0) 0 0) 1 1) 2 2) 3 3))] ∧ k1 = 24 ∧ s1 = 711) := by
  refine k_head (d := d + 1) ?_
  refine ax_cal rfl rfl (q_fm hj) (fun w h' hh => ?_)
  obtain ⟨rfl, rfl⟩ := hh
  exact k_tail4
set_option maxRecDepth 8000 in
theorem k_law4 (hn : n ≤ 2049) (hj : fmc (v0 n xs) 3) : ax_R (d + 60) 108 0 (ax_in 108 [.ref 0]) [] [.inl (3, n, .inl xs)] 0 0 law_Q := by
  refine ax_next (k' := 1) (s' := 11) (st' := [.ref 1]) (h' := [.inl (3, n, .inl xs), .inr (6, [.int 0, .null, .null, .null, .null, .null, .null, .int 0, .int 0, .null, .null])]) rfl rfl ?_
  iterate 3 refine ax_nx rfl rfl ?_
  refine ax_cal (d := d + 59) rfl rfl (q_cell hn) (fun w h' hh => ?_)
  obtain ⟨rfl, rfl⟩ := hh
  refine ax_call (d := d + 59) rfl rfl (k_class4 (d := d + 57) hj) (fun o1 h1 k1 s1 hq => ?_)
  obtain ⟨rfl, rfl, rfl, rfl⟩ := hq
  refine Or.inl ⟨_, rfl, ?_⟩
  refine ax_nx (al' := [.ref 0, .ref 1, ax_u, ax_u, ax_u, ax_u, ax_u]) rfl rfl ?_
  refine ax_next (k' := 1) (s' := 30) (st' := [.ref 25]) (h' := [.inl (3, n, .inl xs), .inr (6, [.int 4, .ref 15, .ref 20, .ref 2, .ref 6, .ref 8, .ref 11, .int 0, .int 0, .ref 13, .ref 14]), .inr (0, [.ref 3, .ref 4, .ref 5, .int 0]), zc 0 4, zc 0 4, zc 1 4, .inr (2, [.int 0, .int 0, .ref 7]), zc 0 20, .inr (1, [.ref 9, .ref 10, .int 0, .int 0, .int 0, .int 0]), zc 0 257, zc 0 257, .inr (5, [.ref 12]), zc 0 8, zc 0 5, zc 0 5, .inr (3, [.ref 19, .ref 16, .ref 17, .ref 18, .int 4]), .inl (0, 20, .inl (upd (upd (upd (upd (fun _ => 0) 0 0) 1 0) 2 0) 3 0)), .inl (0, 20, .inl (upd (upd (upd (upd (fun _ => 0) 0 0) 1 1) 2 2) 3 3)), .inl (0, 20, .inl (upd (upd (upd (upd (fun _ => 0) 0 0) 1 0) 2 0) 3 0)), zc 0 20, .inr (4, [.ref 24, .ref 21, .ref 22, .ref 23, .int 4]), .inl (0, 8, .inl (upd (upd (upd (upd (fun _ => 0) 0 0) 1 0) 2 0) 3 0)), .inl (0, 8, .inl (upd (upd (upd (upd (fun _ => 0) 0 0) 1 1) 2 2) 3 3)), .inl (0, 8, .inl (upd (upd (upd (upd (fun _ => 0) 0 0) 1 0) 2 0) 3 0)), .inl (0, 8, .inl (upd (upd (upd (upd (fun _ => 0) 0 0) 1 1) 2 2) 3 3)), .inr (7, [.int 0, .int 0, .int 0, .null, .null, .null, .null, .null, .null, .int 0, .null, .int 0, .null, .int 0, .int 0, .null, .null, .null, .int 0, .null, .null, .null, .null, .null, .int 0, .null, .null, .null, .int 0, .int 0])]) rfl rfl ?_
  iterate 3 refine ax_nx rfl rfl ?_
  refine ax_cal (d := d + 59) rfl rfl (q_cell hn) (fun w h' hh => ?_)
  obtain ⟨rfl, rfl⟩ := hh
  refine ax_call (d := d + 59) rfl rfl (k_model4 (d := d + 57) hj) (fun o1 h1 k1 s1 hq => ?_)
  obtain ⟨rfl, rfl, rfl, rfl⟩ := hq
  refine Or.inl ⟨_, rfl, ?_⟩
  refine ax_nx (al' := [.ref 0, .ref 1, .ref 25, ax_u, ax_u, ax_u, ax_u]) rfl rfl ?_
  refine ax_nx rfl rfl ?_
  refine ax_next (k' := 1) (s' := 1) (st' := [.ref 45]) (h' := hp n xs (f0 4) a0_4 (fun _ => 0)) rfl rfl ?_
  refine ax_nx (al' := [.ref 0, .ref 1, .ref 25, .ref 45, ax_u, ax_u, ax_u]) rfl rfl ?_
  refine ax_nx rfl rfl ?_
  refine ax_nx (al' := [.ref 0, .ref 1, .ref 25, .ref 45, .int (nI 1), ax_u, ax_u]) rfl rfl ?_
  exact law_l hn n 0 1 (by omega) (by omega) (by omega) _ _ _ _ _ _ _ iv0_4 (by omega) (by omega)
theorem ax_law : ax_Law := by
  intro L xs hL
  obtain ⟨j, hj⟩ := fm_ex (v0 L xs)
  have hjs : j = 0 ∨ j = 1 ∨ j = 2 ∨ j = 3 := by have := hj.1; omega
  rcases hjs with rfl | rfl | rfl | rfl
  · exact k_law1 (d := 940) hL hj
  · exact k_law2 (d := 940) hL hj
  · exact k_law3 (d := 940) hL hj
  · exact k_law4 (d := 940) hL hj
end HLW
