def it_Q (n : Nat) (xs : Nat → Int32) (o : Nat → Int64) (c at9 : Nat) (T : tm_T) (Z : List Nat) (R : tm_T × List Nat × wl_L) (f : Nat → Int32) (a : Nat → Nat → Int32) (k s : Nat) : ax_P := ax_V (fun v h' => v = none ∧ ∃ f' a', h' = hp n xs f' a' o ∧ ag [14, 15, 16, 17] [26, 27, 28, 29, 30, 31, 32, 33, 39, 40] f a f' a' ∧ (∀ j, j < at9 → a' 39 j = a 39 j ∧ a' 40 j = a 40 j) ∧ ((R.1.length ≤ 20 ∧ R.2.1.length ≤ 8 ∧ f' 17 = 0 ∧ mt_at c R.1 f' a' ∧ mz_at R.1 R.2.1 f' a' ∧ ∀ (i : Nat) (q : Nat × Nat × Bool), R.2.2[i]? = some q → a' 39 (at9 + i) = nI q.1 ∧ a' 40 (at9 + i) = nI q.2.1) ∨ ((20 < R.1.length ∨ 8 < R.2.1.length) ∧ f' 17 = 1 ∧ ∃ S S2, mt_at c (T ++ S) f' a' ∧ mz_at (T ++ S) (Z ++ S2) f' a' ∧ th_wf c (T ++ S) (Z ++ S2)))) k s
section HMI
variable {n : Nat} {xs : Nat → Int32} {f : Nat → Int32} {a : Nat → Nat → Int32} {o : Nat → Int64} {d k s : Nat}
theorem it_full {c at9 i : Nat} {x y : Nat} {T S : tm_T} {Z S2 : List Nat} {R : tm_T × List Nat × wl_L} {p q : Nat} {f0 : Nat → Int32} {a0 : Nat → Nat → Int32} (hov : 20 < R.1.length ∨ 8 < R.2.1.length) (h17 : f 17 = 1) (hp9 : p < 20) (hq9 : q < 20) (hat : at9 + i < 1024) (hi : i < 4) {D : dr_L} (hmd : md_at D f a) (h1 : mt_at c (T ++ S) f a) (h2 : mz_at (T ++ S) (Z ++ S2) f a) (h3 : th_wf c (T ++ S) (Z ++ S2)) (hg : ag [14, 15, 16, 17] [26, 27, 28, 29, 30, 31, 32, 33, 39, 40] f0 a0 f a) (hfr : ∀ j, j < at9 + i → a 39 j = a0 39 j ∧ a 40 j = a0 40 j) : ax_R d 13 86 [.ref 25, .int (nI at9), .int (nI x), .int (nI y), .int (nI i), .int (nI p), .int (nI q)] [] (hp n xs f a o) k s (it_Q n xs o c (at9 + i) T Z R f0 a0 k s) := by
  have h4 := hmd.2.1
  iterate 5 refine ax_nx rfl rfl ?_
  refine ax_top (y := nI (at9 + i)) (nI_add at9 i) ?_
  iterate 3 refine ax_nx rfl rfl ?_
  refine ax_ia rfl rfl (vp_in_nI (by omega) (by omega)) ?_
  rw [nI_clamp (by omega)]
  iterate 2 refine ax_nx rfl rfl ?_
  refine ax_iasH (h2 := hp n xs f (upda a 39 (upd (a 39) (at9 + i) ((a 30 p) - 1))) o) rfl rfl (vp_in_nI (by omega) (by omega)) (by rw [nI_clamp (by omega)]; rfl) ?_
  iterate 5 refine ax_nx rfl rfl ?_
  refine ax_top (y := nI (at9 + i)) (nI_add at9 i) ?_
  iterate 3 refine ax_nx rfl rfl ?_
  refine ax_ia rfl rfl (vp_in_nI (by omega) (by omega)) ?_
  rw [nI_clamp (by omega)]
  iterate 2 refine ax_nx rfl rfl ?_
  refine ax_iasH (h2 := hp n xs f (upda (upda a 39 (upd (a 39) (at9 + i) ((a 30 p) - 1))) 40 (upd (a 40) (at9 + i) (a 30 q - 1))) o) rfl rfl (vp_in_nI (by omega) (by omega)) (by rw [nI_clamp (by omega)]; rfl) ?_
  refine ax_nx (al' := [.ref 25, .int (nI at9), .int (nI x), .int (nI y), .int (nI i + 1), .int (nI p), .int (nI q)]) rfl rfl ?_
  rw [nI_1]
  refine ax_nx rfl rfl ?_
  have g1 : ag [] [39, 40] f a f (upda (upda a 39 (upd (a 39) (at9 + i) ((a 30 p) - 1))) 40 (upd (a 40) (at9 + i) (a 30 q - 1))) := ⟨fun _ _ => rfl, fun j hj => ?_⟩
  rotate_left
  · simp only [List.mem_cons, List.not_mem_nil, or_false, not_or] at hj
    simp [upda, hj]
  have hend : it_Q n xs o c (at9 + i) T Z R f0 a0 k s (.inl none) (hp n xs f (upda (upda a 39 (upd (a 39) (at9 + i) ((a 30 p) - 1))) 40 (upd (a 40) (at9 + i) (a 30 q - 1))) o) k s := by
    refine ⟨_, rfl, rfl, rfl, rfl, f, _, rfl, hg.trans (g1.wide (by simp) (by simp)), fun j hj => ?_, Or.inr ⟨hov, h17, S, S2, h1.kept g1 (by decide) (by decide), h2.kept g1 (by decide) (by decide), h3⟩⟩
    exact ⟨(if_neg (Nat.ne_of_lt hj)).trans (hfr j hj).1, (if_neg (Nat.ne_of_lt hj)).trans (hfr j hj).2⟩
  rcases Nat.lt_or_ge (i + 1) D.length with hl | hl
  · iterate 3 refine ax_nx rfl rfl ?_
    refine ax_nxf rfl rfl (by rw [hmd.1]; exact nI_ge hl (by omega)) ?_
    iterate 2 refine ax_nx rfl rfl ?_
    rw [h17]
    refine ax_nx rfl rfl ?_
    exact ax_ret rfl rfl hend
  · iterate 3 refine ax_nx rfl rfl ?_
    refine ax_nxt rfl rfl (by rw [hmd.1]; exact nI_le hl (by omega)) ?_
    exact ax_ret rfl rfl hend
theorem q_Mo_it_l {c x y N at9 : Nat} (hx : x < c) (hy : y < c) (hN20 : N ≤ 20) {D : dr_L} (hD : din N D) (hat : at9 + 4 ≤ 1024) : ∀ (t i : Nat), i + t = D.length → ∀ (T : tm_T) (Z : List Nat) (f : Nat → Int32) (a : Nat → Nat → Int32) (x5 x6 : Value), mt_at c T f a → mz_at T Z f a → th_wf c T Z → N ≤ T.length → md_at D f a → f 17 = 0 → ax_R (d + 3) 13 3 [.ref 25, .int (nI at9), .int (nI x), .int (nI y), .int (nI i), x5, x6] [] (hp n xs f a o) k s (it_Q n xs o c (at9 + i) T Z (ins x y (D.drop i) T Z) f a k s) := by
  intro t
  induction t with
  | zero =>
    intro i hi T Z f a x5 x6 h1 h2 h3 hN hmd h17
    rw [List.drop_eq_nil_of_le (show D.length ≤ i by omega)]
    iterate 3 refine ax_nx rfl rfl ?_
    refine ax_nxt rfl rfl (by rw [hmd.1]; exact nI_le (by omega) (by have := hmd.2.1; omega)) ?_
    exact ax_ret rfl rfl ⟨_, rfl, rfl, rfl, rfl, f, a, rfl, ag.rf, fun _ _ => ⟨rfl, rfl⟩, Or.inl ⟨h1.2.1, h2.2.1, h17, h1, h2, fun i q hq => by cases hq⟩⟩
  | succ t ih =>
    intro i hi T Z f a x5 x6 h1 h2 h3 hN hmd h17
    have hil : i < D.length := by omega
    have hdn : D.drop i = D[i] :: D.drop (i + 1) := List.drop_eq_getElem_cons hil
    obtain ⟨hd1, hd2, hd3⟩ := id hmd
    obtain ⟨z1, z2, z3⟩ := hd3 i _ (List.getElem?_eq_getElem hil)
    obtain ⟨y1, y2⟩ := hD _ (List.getElem_mem hil)
    have hD' : din N (D.drop (i + 1)) := fun q hq => hD q (List.mem_of_mem_drop hq)
    rw [hdn]
    generalize D[i] = q at z1 z2 z3 y1 y2
    have hT20 := h1.2.1
    obtain ⟨⟨S1, a1⟩, ⟨S2, a2, -⟩, a3, a4, a5, a6, a7, a8⟩ := li_ok (Z := Z) hx hy h1.1 h3 (show q.1 < T.length by omega) (show q.1 < 21 by omega)
    have hi1 : tm_in x y 21 T q.1 = ((li x y T Z q.1).1, (li x y T Z q.1).2.2) := rfl
    have he1 : tm_en (li x y T Z q.1).1 ((li x y T Z q.1).2.2 + 1) Z (li x y T Z q.1).2.2 = (li x y T Z q.1).2.1 := rfl
    generalize e1 : li x y T Z q.1 = R1 at *
    obtain ⟨T1, Z1, r1⟩ := R1
    dsimp only at a1 a2 a3 a4 a5 a6 a7 a8 hi1 he1
    have hl1 : T.length ≤ T1.length := by rw [a1, List.length_append]; omega
    obtain ⟨⟨S3, b1⟩, ⟨S4, b2, -⟩, b3, b4, b5, b6, b7, b8⟩ := li_ok (Z := Z1) hx hy a3 a4 (show q.2.1 < T1.length by omega) (show q.2.1 < 21 by omega)
    have hi2 : tm_in x y 21 T1 q.2.1 = ((li x y T1 Z1 q.2.1).1, (li x y T1 Z1 q.2.1).2.2) := rfl
    have he2 : tm_en (li x y T1 Z1 q.2.1).1 ((li x y T1 Z1 q.2.1).2.2 + 1) Z1 (li x y T1 Z1 q.2.1).2.2 = (li x y T1 Z1 q.2.1).2.1 := rfl
    generalize e2 : li x y T1 Z1 q.2.1 = R2 at *
    obtain ⟨T2, Z2, r2⟩ := R2
    dsimp only at b1 b2 b3 b4 b5 b6 b7 b8 hi2 he2
    have hl2 : T1.length ≤ T2.length ∧ Z1.length ≤ Z2.length := by rw [b1, b2, List.length_append, List.length_append]; omega
    obtain ⟨⟨S5, c1⟩, ⟨S6, c2⟩, -⟩ := ins_ok hx hy hN20 b3 b4 (show N ≤ T2.length by omega) hD'
    rw [ins_cons e1 e2]
    have hl3 : T2.length ≤ (ins x y (D.drop (i + 1)) T2 Z2).1.length ∧ Z2.length ≤ (ins x y (D.drop (i + 1)) T2 Z2).2.1.length := by rw [c1, c2, List.length_append, List.length_append]; omega
    iterate 3 refine ax_nx rfl rfl ?_
    refine ax_nxf rfl rfl (by rw [hd1]; exact nI_ge hil (by omega)) ?_
    iterate 2 refine ax_nx rfl rfl ?_
    rw [h17]
    iterate 5 refine ax_nx rfl rfl ?_
    refine ax_ia rfl rfl (vp_in_nI (by omega) (by omega)) ?_
    rw [nI_clamp (by omega), z1]
    iterate 2 refine ax_nx rfl rfl ?_
    refine ax_cal (d := d + 2) rfl rfl (q_Mo_inst (d := d) hx hy h1 h2 h3 (show q.1 < T.length by omega) h17) (fun v h' hh => ?_)
    obtain ⟨f1, a1', rfl, g1, hv⟩ := hh
    rw [hi1] at hv
    dsimp only at hv
    have gw1 := g1.wide (F' := [14, 15, 16, 17]) (A' := [26, 27, 28, 29, 30, 31, 32, 33, 39, 40]) (by simp) (by simp)
    have fr1 : ∀ j, j < at9 + i → a1' 39 j = a 39 j ∧ a1' 40 j = a 40 j := fun j _ => by rw [g1.2 39 (by decide), g1.2 40 (by decide)]; exact ⟨rfl, rfl⟩
    have hmd1 := hmd.kept g1 (by decide) (by decide)
    rcases hv with ⟨v1, rfl, v3, v4, v5⟩ | ⟨v1, rfl, v3, SX, v4, v5⟩
    rotate_left
    · refine ax_nx (al' := [.ref 25, .int (nI at9), .int (nI x), .int (nI y), .int (nI i), .int 0, x6]) rfl rfl ?_
      iterate 2 refine ax_nx rfl rfl ?_
      rw [v3]
      iterate 3 refine ax_nx rfl rfl ?_
      rw [v3]
      iterate 3 refine ax_nx rfl rfl ?_
      refine ax_nx (al' := [.ref 25, .int (nI at9), .int (nI x), .int (nI y), .int (nI i), .int 0, .int 0]) rfl rfl ?_
      iterate 2 refine ax_nx rfl rfl ?_
      rw [v3]
      refine ax_nx rfl rfl ?_
      have h39 : th_wf c (T ++ SX) (Z ++ []) := by rw [List.append_nil]; exact h3.app
      exact it_full (p := 0) (q := 0) (S := SX) (S2 := []) (by dsimp only; omega) v3 (by omega) (by omega) (by omega) (by omega) hmd1 v4 (by rw [List.append_nil]; exact v5) h39 gw1 fr1
    refine ax_nx (al' := [.ref 25, .int (nI at9), .int (nI x), .int (nI y), .int (nI i), .int (nI r1), x6]) rfl rfl ?_
    iterate 2 refine ax_nx rfl rfl ?_
    rw [v3]
    iterate 3 refine ax_nx rfl rfl ?_
    refine ax_cal (d := d + 2) rfl rfl (q_Mo_enter (d := d + 1) v4 v5 (show th_wf c T1 Z by rw [a1]; exact h3.app) a7 a8 v3) (fun v h' hh => ?_)
    obtain ⟨rfl, f2, a2', rfl, g2, hv2⟩ := hh
    rw [he1] at hv2
    have gw2 := gw1.trans (g2.wide (F' := [14, 15, 16, 17]) (A' := [26, 27, 28, 29, 30, 31, 32, 33, 39, 40]) (by simp) (by simp))
    have fr2 : ∀ j, j < at9 + i → a2' 39 j = a 39 j ∧ a2' 40 j = a 40 j := fun j hj => by rw [g2.2 39 (by decide), g2.2 40 (by decide)]; exact fr1 j hj
    have hmd2 := hmd1.kept g2 (by decide) (by decide)
    have hmt2 := v4.kept g2 (by decide) (by decide)
    rcases hv2 with ⟨w1, w3, w4⟩ | ⟨w1, w3, SY, w4, w5⟩
    rotate_left
    · iterate 2 refine ax_nx rfl rfl ?_
      rw [w3]
      iterate 3 refine ax_nx rfl rfl ?_
      refine ax_nx (al' := [.ref 25, .int (nI at9), .int (nI x), .int (nI y), .int (nI i), .int (nI r1), .int 0]) rfl rfl ?_
      iterate 2 refine ax_nx rfl rfl ?_
      rw [w3]
      refine ax_nx rfl rfl ?_
      rw [a1] at hmt2 w4 w5
      exact it_full (p := r1) (q := 0) (by dsimp only; omega) w3 (by omega) (by omega) (by omega) (by omega) hmd2 hmt2 w4 w5 gw2 fr2
    have z2' : a2' 35 i = nI q.2.1 := by rw [g2.2 35 (by decide), g1.2 35 (by decide)]; exact z2
    iterate 2 refine ax_nx rfl rfl ?_
    rw [w3]
    iterate 5 refine ax_nx rfl rfl ?_
    refine ax_ia rfl rfl (vp_in_nI (by omega) (by omega)) ?_
    rw [nI_clamp (by omega), z2']
    iterate 2 refine ax_nx rfl rfl ?_
    refine ax_cal (d := d + 2) rfl rfl (q_Mo_inst (d := d) hx hy hmt2 w4 a4 (show q.2.1 < T1.length by omega) w3) (fun v h' hh => ?_)
    obtain ⟨f3, a3', rfl, g3, hv3⟩ := hh
    rw [hi2] at hv3
    dsimp only at hv3
    have gw3 := gw2.trans (g3.wide (F' := [14, 15, 16, 17]) (A' := [26, 27, 28, 29, 30, 31, 32, 33, 39, 40]) (by simp) (by simp))
    have fr3 : ∀ j, j < at9 + i → a3' 39 j = a 39 j ∧ a3' 40 j = a 40 j := fun j hj => by rw [g3.2 39 (by decide), g3.2 40 (by decide)]; exact fr2 j hj
    have hmd3 := hmd2.kept g3 (by decide) (by decide)
    rcases hv3 with ⟨p1, rfl, p3, p4, p5⟩ | ⟨p1, rfl, p3, SX, p4, p5⟩
    rotate_left
    · refine ax_nx (al' := [.ref 25, .int (nI at9), .int (nI x), .int (nI y), .int (nI i), .int (nI r1), .int 0]) rfl rfl ?_
      iterate 2 refine ax_nx rfl rfl ?_
      rw [p3]
      refine ax_nx rfl rfl ?_
      have h39 : th_wf c (T1 ++ SX) Z1 := a4.app
      rw [a1, List.append_assoc] at p4 p5 h39
      rw [a2] at p5 h39
      exact it_full (p := r1) (q := 0) (by dsimp only; omega) p3 (by omega) (by omega) (by omega) (by omega) hmd3 p4 p5 h39 gw3 fr3
    refine ax_nx (al' := [.ref 25, .int (nI at9), .int (nI x), .int (nI y), .int (nI i), .int (nI r1), .int (nI r2)]) rfl rfl ?_
    iterate 2 refine ax_nx rfl rfl ?_
    rw [p3]
    iterate 3 refine ax_nx rfl rfl ?_
    refine ax_cal (d := d + 2) rfl rfl (q_Mo_enter (d := d + 1) p4 p5 (show th_wf c T2 Z1 by rw [b1]; exact a4.app) b7 b8 p3) (fun v h' hh => ?_)
    obtain ⟨rfl, f4, a4', rfl, g4, hv4⟩ := hh
    rw [he2] at hv4
    have gw4 := gw3.trans (g4.wide (F' := [14, 15, 16, 17]) (A' := [26, 27, 28, 29, 30, 31, 32, 33, 39, 40]) (by simp) (by simp))
    have fr4 : ∀ j, j < at9 + i → a4' 39 j = a 39 j ∧ a4' 40 j = a 40 j := fun j hj => by rw [g4.2 39 (by decide), g4.2 40 (by decide)]; exact fr3 j hj
    have hmd4 := hmd3.kept g4 (by decide) (by decide)
    have hmt4 := p4.kept g4 (by decide) (by decide)
    rcases hv4 with ⟨q1, q3, q4⟩ | ⟨q1, q3, SY, q4, q5⟩
    rotate_left
    · rw [b1, a1, List.append_assoc] at hmt4 q4 q5
      rw [a2, List.append_assoc] at q4 q5
      exact it_full (p := r1) (q := r2) (by dsimp only; omega) q3 (by omega) (by omega) (by omega) (by omega) hmd4 hmt4 q4 q5 gw4 fr4
    have hr1 : r1 ∈ Z2 := by rw [b2]; exact List.mem_append_left _ a5
    have t1 := (q4.2.2.2 r1 (show r1 < T2.length by omega)).1 hr1
    have t2 := (q4.2.2.2 r2 b7).1 b5
    have ps1 : ps Z2 r1 = ps Z1 r1 := by rw [b2]; exact ps_app a5
    rw [ps1] at t1
    have hz28 := q4.2.1
    have hlp1 := tm_lt (ps_at a5)
    have hlp2 := tm_lt (ps_at b5)
    iterate 5 refine ax_nx rfl rfl ?_
    refine ax_top (y := nI (at9 + i)) (nI_add at9 i) ?_
    iterate 3 refine ax_nx rfl rfl ?_
    refine ax_ia rfl rfl (vp_in_nI (by omega) (by omega)) ?_
    rw [nI_clamp (by omega), t1]
    iterate 2 refine ax_nx rfl rfl ?_
    refine ax_top (y := nI (ps Z1 r1)) (nI_pred _) ?_
    refine ax_iasH (h2 := hp n xs f4 (upda a4' 39 (upd (a4' 39) (at9 + i) (nI (ps Z1 r1)))) o) rfl rfl (vp_in_nI (by omega) (by omega)) (by rw [nI_clamp (by omega)]; rfl) ?_
    iterate 5 refine ax_nx rfl rfl ?_
    refine ax_top (y := nI (at9 + i)) (nI_add at9 i) ?_
    iterate 3 refine ax_nx rfl rfl ?_
    refine ax_ia rfl rfl (vp_in_nI (by omega) (by omega)) ?_
    rw [nI_clamp (by omega), show ((upda a4' 39 (upd (a4' 39) (at9 + i) (nI (ps Z1 r1))))) 30 r2 = a4' 30 r2 from rfl, t2]
    iterate 2 refine ax_nx rfl rfl ?_
    refine ax_top (y := nI (ps Z2 r2)) (nI_pred _) ?_
    refine ax_iasH (h2 := hp n xs f4 (upda (upda a4' 39 (upd (a4' 39) (at9 + i) (nI (ps Z1 r1)))) 40 (upd (a4' 40) (at9 + i) (nI (ps Z2 r2)))) o) rfl rfl (vp_in_nI (by omega) (by omega)) (by rw [nI_clamp (by omega)]; rfl) ?_
    refine ax_nx (al' := [.ref 25, .int (nI at9), .int (nI x), .int (nI y), .int (nI i + 1), .int (nI r1), .int (nI r2)]) rfl rfl ?_
    rw [nI_1]
    refine ax_nx rfl rfl ?_
    have g5 : ag [] [39, 40] f4 a4' f4 (upda (upda a4' 39 (upd (a4' 39) (at9 + i) (nI (ps Z1 r1)))) 40 (upd (a4' 40) (at9 + i) (nI (ps Z2 r2)))) := ⟨fun _ _ => rfl, fun j hj => ?_⟩
    rotate_left
    · simp only [List.mem_cons, List.not_mem_nil, or_false, not_or] at hj
      simp [upda, hj]
    refine (ih (i + 1) (by omega) T2 Z2 f4 _ _ _ (hmt4.kept g5 (by decide) (by decide)) (q4.kept g5 (by decide) (by decide)) b4 (by omega) (hmd4.kept g5 (by decide) (by decide)) q3).mono ?_
    rintro o1 h1 k1 s1 ⟨v, w1, w2, w3, w4, f', a', w5, w6, w7, w8⟩
    have fr5 : ∀ j, j < at9 + i → (upda (upda a4' 39 (upd (a4' 39) (at9 + i) (nI (ps Z1 r1)))) 40 (upd (a4' 40) (at9 + i) (nI (ps Z2 r2)))) 39 j = a 39 j ∧ (upda (upda a4' 39 (upd (a4' 39) (at9 + i) (nI (ps Z1 r1)))) 40 (upd (a4' 40) (at9 + i) (nI (ps Z2 r2)))) 40 j = a 40 j := fun j hj => ⟨(if_neg (Nat.ne_of_lt hj)).trans (fr4 j hj).1, (if_neg (Nat.ne_of_lt hj)).trans (fr4 j hj).2⟩
    have w7i := w7 (at9 + i) (by omega)
    have e39 : (upda (upda a4' 39 (upd (a4' 39) (at9 + i) (nI (ps Z1 r1)))) 40 (upd (a4' 40) (at9 + i) (nI (ps Z2 r2)))) 39 (at9 + i) = nI (ps Z1 r1) := if_pos rfl
    have e40 : (upda (upda a4' 39 (upd (a4' 39) (at9 + i) (nI (ps Z1 r1)))) 40 (upd (a4' 40) (at9 + i) (nI (ps Z2 r2)))) 40 (at9 + i) = nI (ps Z2 r2) := if_pos rfl
    refine ⟨v, w1, w2, w3, w4, f', a', w5, (gw4.trans (g5.wide (by simp) (by simp))).trans w6, fun j hj => ⟨((w7 j (by omega)).1).trans (fr5 j hj).1, ((w7 j (by omega)).2).trans (fr5 j hj).2⟩, ?_⟩
    rcases w8 with ⟨y1, y2, y3, y4, y5, y6⟩ | ⟨y1, y2, SX, SY, y3, y4, y5⟩
    · refine Or.inl ⟨y1, y2, y3, y4, y5, fun j w hw => ?_⟩
      cases j with
      | zero =>
        cases hw
        exact ⟨w7i.1.trans e39, w7i.2.trans e40⟩
      | succ j =>
        have := y6 j w (by simpa using hw)
        rw [show at9 + (i + 1) + j = at9 + i + (j + 1) by omega] at this
        exact this
    · refine Or.inr ⟨y1, y2, S1 ++ (S3 ++ SX), S2 ++ (S4 ++ SY), ?_, ?_, ?_⟩
      · rw [← List.append_assoc, ← List.append_assoc, ← a1, ← b1]; exact y3
      · rw [← List.append_assoc, ← List.append_assoc, ← a1, ← b1, ← List.append_assoc, ← List.append_assoc, ← a2, ← b2]; exact y4
      · rw [← List.append_assoc, ← List.append_assoc, ← a1, ← b1, ← List.append_assoc, ← List.append_assoc, ← a2, ← b2]; exact y5
theorem q_Mo_it {c x y N at9 : Nat} (hx : x < c) (hy : y < c) (hN20 : N ≤ 20) {D : dr_L} (hD : din N D) (hat : at9 + 4 ≤ 1024) {T : tm_T} {Z : List Nat} (h1 : mt_at c T f a) (h2 : mz_at T Z f a) (h3 : th_wf c T Z) (hN : N ≤ T.length) (hmd : md_at D f a) (h17 : f 17 = 0) : ax_R (d + 3) 13 0 (ax_in 13 [.ref 25, .int (nI at9), .int (nI x), .int (nI y)]) [] (hp n xs f a o) k s (it_Q n xs o c at9 T Z (ins x y D T Z) f a k s) := by
  refine ax_nx rfl rfl ?_
  refine ax_nx (al' := [.ref 25, .int (nI at9), .int (nI x), .int (nI y), .int (nI 0), ax_u, ax_u]) rfl rfl ?_
  exact q_Mo_it_l hx hy hN20 hD hat D.length 0 (by omega) T Z f a _ _ h1 h2 h3 hN hmd h17
end HMI
