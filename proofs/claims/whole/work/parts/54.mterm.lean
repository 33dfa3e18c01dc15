def mk_Q (n : Nat) (xs : Nat → Int32) (o : Nat → Int64) (c : Nat) (T : tm_T) (Z : List Nat) (R : tm_T × Nat) (f : Nat → Int32) (a : Nat → Nat → Int32) (k s : Nat) : ax_P := ax_V (fun v h' => ∃ f' a', h' = hp n xs f' a' o ∧ ag [12, 14, 17] [26, 27, 28, 29, 30] f a f' a' ∧ ((R.1.length ≤ 20 ∧ v = some (.int (nI R.2)) ∧ f' 12 = 0 ∧ mt_at c R.1 f' a' ∧ mz_at R.1 Z f' a') ∨ (20 < R.1.length ∧ v = some (.int 0) ∧ f' 12 = 2 ∧ mt_at c T f' a' ∧ mz_at T Z f' a'))) k s
section HMT
variable {n : Nat} {xs : Nat → Int32} {f : Nat → Int32} {a : Nat → Nat → Int32} {o : Nat → Int64} {d k s : Nat}
theorem q_Mo_term_kind {p q r : Int32} (h : ¬ (1 ≤ p ∧ p ≤ 4)) : ax_R d 6 0 (ax_in 6 [.ref 25, .int p, .int q, .int r]) [] (hp n xs f a o) k s (ax_V (fun v h' => v = some (.int 0) ∧ h' = hp n xs (upd f 12 1) a o) k s) := by
  have n1 : ¬ p = 1 := fun h9 => h (by rw [h9]; decide)
  have n2 : ¬ p = 2 := fun h9 => h (by rw [h9]; decide)
  iterate 2 refine ax_nx rfl rfl ?_
  refine ax_nxf rfl rfl (n1) ?_
  iterate 2 refine ax_nx rfl rfl ?_
  refine ax_nxf rfl rfl (n2) ?_
  refine ax_nx rfl rfl ?_
  refine ax_nx (al' := [.ref 25, .int p, .int q, .int r, .int 0, ax_u, ax_u]) rfl rfl ?_
  iterate 2 refine ax_nx rfl rfl ?_
  have fin : ax_R d 6 63 [.ref 25, .int p, .int q, .int r, .int 0, ax_u, ax_u] [] (hp n xs f a o) k s (ax_V (fun v h' => v = some (.int 0) ∧ h' = hp n xs (upd f 12 1) a o) k s) := by
    refine ax_nx rfl rfl ?_
    refine ax_nx (al' := [.ref 25, .int p, .int q, .int r, .int 0, .int 0, ax_u]) rfl rfl ?_
    iterate 2 refine ax_nx rfl rfl ?_
    iterate 2 refine ax_nx rfl rfl ?_
    refine ax_nx (h' := hp n xs (upd f 12 1) a o) rfl rfl ?_
    refine ax_nx rfl rfl ?_
    refine ax_nx (st' := [.int 1]) rfl rfl ?_
    iterate 2 refine ax_nx rfl rfl ?_
    exact ax_ret rfl rfl ⟨_, rfl, rfl, rfl, rfl, rfl⟩
  by_cases h1 : p < 1
  · refine ax_nxt rfl rfl (h1) ?_
    exact fin
  · refine ax_nxf rfl rfl (h1) ?_
    iterate 2 refine ax_nx rfl rfl ?_
    refine ax_nxt rfl rfl (Int32.not_le.mp (fun h9 => h ⟨Int32.not_lt.mp h1, h9⟩)) ?_
    exact fin
theorem q_Mo_term_no1 {q r : Int32} (h : ¬ (0 ≤ q ∧ q < f 14)) : ax_R (d + 1) 6 0 (ax_in 6 [.ref 25, .int (nI 1), .int q, .int r]) [] (hp n xs f a o) k s (ax_V (fun v h' => v = some (.int 0) ∧ h' = hp n xs (upd f 12 1) a o) k s) := by
  iterate 2 refine ax_nx rfl rfl ?_
  iterate 3 refine ax_nx rfl rfl ?_
  refine ax_nx (al' := [.ref 25, .int (nI 1), .int q, .int r, .int 1, ax_u, ax_u]) rfl rfl ?_
  iterate 2 refine ax_nx rfl rfl ?_
  iterate 3 refine ax_nx rfl rfl ?_
  iterate 2 refine ax_nx rfl rfl ?_
  iterate 4 refine ax_nx rfl rfl ?_
  refine ax_cal rfl rfl (q_Mo_out (m := f 14)) (fun v h' hh => ?_)
  obtain ⟨rfl, rfl⟩ := hh
  rw [if_neg h]
  iterate 2 refine ax_nx rfl rfl ?_
  refine ax_nx (al' := [.ref 25, .int (nI 1), .int q, .int r, .int 1, .int 0, ax_u]) rfl rfl ?_
  iterate 2 refine ax_nx rfl rfl ?_
  iterate 2 refine ax_nx rfl rfl ?_
  refine ax_nx (h' := hp n xs (upd f 12 1) a o) rfl rfl ?_
  refine ax_nx rfl rfl ?_
  refine ax_nx (st' := [.int 1]) rfl rfl ?_
  iterate 2 refine ax_nx rfl rfl ?_
  exact ax_ret rfl rfl ⟨_, rfl, rfl, rfl, rfl, rfl⟩
theorem q_Mo_term_no2 {q r : Int32} (h : ¬ ((0 ≤ q ∧ q < f 14) ∧ 0 ≤ r ∧ r < f 14)) : ax_R (d + 1) 6 0 (ax_in 6 [.ref 25, .int (nI 2), .int q, .int r]) [] (hp n xs f a o) k s (ax_V (fun v h' => v = some (.int 0) ∧ h' = hp n xs (upd f 12 1) a o) k s) := by
  by_cases hq1 : 0 ≤ q ∧ q < f 14
  · iterate 2 refine ax_nx rfl rfl ?_
    iterate 3 refine ax_nx rfl rfl ?_
    iterate 3 refine ax_nx rfl rfl ?_
    refine ax_nx (al' := [.ref 25, .int (nI 2), .int q, .int r, .int 1, ax_u, ax_u]) rfl rfl ?_
    iterate 2 refine ax_nx rfl rfl ?_
    iterate 3 refine ax_nx rfl rfl ?_
    iterate 2 refine ax_nx rfl rfl ?_
    iterate 4 refine ax_nx rfl rfl ?_
    refine ax_cal rfl rfl (q_Mo_out (m := f 14)) (fun v h' hh => ?_)
    obtain ⟨rfl, rfl⟩ := hh
    rw [if_pos hq1]
    iterate 3 refine ax_nx rfl rfl ?_
    iterate 4 refine ax_nx rfl rfl ?_
    refine ax_cal rfl rfl (q_Mo_out (m := f 14)) (fun v h' hh => ?_)
    obtain ⟨rfl, rfl⟩ := hh
    rw [if_neg (fun h9 => h ⟨hq1, h9⟩)]
    iterate 2 refine ax_nx rfl rfl ?_
    refine ax_nx (al' := [.ref 25, .int (nI 2), .int q, .int r, .int 1, .int 0, ax_u]) rfl rfl ?_
    iterate 2 refine ax_nx rfl rfl ?_
    iterate 2 refine ax_nx rfl rfl ?_
    refine ax_nx (h' := hp n xs (upd f 12 1) a o) rfl rfl ?_
    refine ax_nx rfl rfl ?_
    refine ax_nx (st' := [.int 1]) rfl rfl ?_
    iterate 2 refine ax_nx rfl rfl ?_
    exact ax_ret rfl rfl ⟨_, rfl, rfl, rfl, rfl, rfl⟩
  · iterate 2 refine ax_nx rfl rfl ?_
    iterate 3 refine ax_nx rfl rfl ?_
    iterate 3 refine ax_nx rfl rfl ?_
    refine ax_nx (al' := [.ref 25, .int (nI 2), .int q, .int r, .int 1, ax_u, ax_u]) rfl rfl ?_
    iterate 2 refine ax_nx rfl rfl ?_
    iterate 3 refine ax_nx rfl rfl ?_
    iterate 2 refine ax_nx rfl rfl ?_
    iterate 4 refine ax_nx rfl rfl ?_
    refine ax_cal rfl rfl (q_Mo_out (m := f 14)) (fun v h' hh => ?_)
    obtain ⟨rfl, rfl⟩ := hh
    rw [if_neg hq1]
    iterate 2 refine ax_nx rfl rfl ?_
    refine ax_nx (al' := [.ref 25, .int (nI 2), .int q, .int r, .int 1, .int 0, ax_u]) rfl rfl ?_
    iterate 2 refine ax_nx rfl rfl ?_
    iterate 2 refine ax_nx rfl rfl ?_
    refine ax_nx (h' := hp n xs (upd f 12 1) a o) rfl rfl ?_
    refine ax_nx rfl rfl ?_
    refine ax_nx (st' := [.int 1]) rfl rfl ?_
    iterate 2 refine ax_nx rfl rfl ?_
    exact ax_ret rfl rfl ⟨_, rfl, rfl, rfl, rfl, rfl⟩
theorem q_Mo_term1 {c : Nat} {T : tm_T} {Z : List Nat} (h : mt_at c T f a) (hmz : mz_at T Z f a) (hZ : th_wf c T Z) {p : Nat} {r : Int32} (hp1 : p < T.length) : ax_R (d + 2) 6 0 (ax_in 6 [.ref 25, .int (nI 1), .int (nI p), .int r]) [] (hp n xs f a o) k s (mk_Q n xs o c T Z (tm_mk T (1, p, 0)) f a k s) := by
  have hkd : tm_kd c T.length (1, p, 0) := Or.inr (Or.inl ⟨p, rfl, hp1⟩)
  have h20 := h.2.1
  have h14 := h.2.2.1
  iterate 2 refine ax_nx rfl rfl ?_
  iterate 3 refine ax_nx rfl rfl ?_
  refine ax_nx (al' := [.ref 25, .int (nI 1), .int (nI p), .int r, .int 1, ax_u, ax_u]) rfl rfl ?_
  iterate 2 refine ax_nx rfl rfl ?_
  iterate 3 refine ax_nx rfl rfl ?_
  iterate 2 refine ax_nx rfl rfl ?_
  iterate 4 refine ax_nx rfl rfl ?_
  refine ax_cal (d := d + 1) rfl rfl (q_Mo_out (m := f 14)) (fun v h' hh => ?_)
  obtain ⟨rfl, rfl⟩ := hh
  rw [h14, if_pos (nI_has' hp1 (by omega))]
  iterate 3 refine ax_nx rfl rfl ?_
  iterate 3 refine ax_nx rfl rfl ?_
  refine ax_nx (al' := [.ref 25, .int (nI 1), .int (nI p), .int r, .int 1, .int 1, ax_u]) rfl rfl ?_
  iterate 2 refine ax_nx rfl rfl ?_
  iterate 3 refine ax_nx rfl rfl ?_
  refine ax_nx (h' := hp n xs (upd f 12 0) a o) rfl rfl ?_
  refine ax_nx rfl rfl ?_
  refine ax_nx (st' := [.int 0]) rfl rfl ?_
  iterate 3 refine ax_nx rfl rfl ?_
  refine ax_nx (h' := hp n xs (upd (upd f 12 0) 17 0) a o) rfl rfl ?_
  iterate 3 refine ax_nx rfl rfl ?_
  iterate 5 refine ax_nx rfl rfl ?_
  iterate 2 refine ax_nx rfl rfl ?_
  have g0 : ag [12, 17] [] f a (upd (upd f 12 0) 17 0) a := by
    refine ⟨fun j hj => ?_, fun _ _ => rfl⟩
    simp only [List.mem_cons, List.not_mem_nil, or_false, not_or] at hj
    simp [upd, hj]
  refine ax_cal (d := d + 1) rfl rfl (q_Mo_make (d := d) (h.kept g0 (by decide) (by decide)) hkd) (fun v h' hh => ?_)
  obtain ⟨f1, a1, rfl, hh⟩ := hh
  have hext := tm_mk_ext T (1, p, 0)
  generalize tm_mk T (1, p, 0) = R at *
  obtain ⟨S, hS, -⟩ := hext
  rcases hh with ⟨hle, rfl, hmt1, g1, e1, e2⟩ | ⟨hgt, rfl, rfl, rfl⟩
  · have h17 : f1 17 = 0 := (g1.1 17 (by decide)).trans rfl
    refine ax_nx (al' := [.ref 25, .int (nI 1), .int (nI p), .int r, .int 1, .int 1, .int (nI R.2)]) rfl rfl ?_
    iterate 2 refine ax_nx rfl rfl ?_
    rw [h17]
    iterate 2 refine ax_nx rfl rfl ?_
    have hmz1 : mz_at R.1 Z f1 a1 := by
      rw [hS] at e2 ⊢
      exact (hmz.kept g0 (by decide) (by decide)).make hZ g1 e1 e2
    exact ax_ret rfl rfl ⟨_, rfl, rfl, rfl, f1, a1, rfl, (g0.wide (by simp) (by simp)).trans (g1.wide (by simp) (by simp)), Or.inl ⟨hle, rfl, (g1.1 12 (by decide)).trans rfl, hmt1, hmz1⟩⟩
  · refine ax_nx (al' := [.ref 25, .int (nI 1), .int (nI p), .int r, .int 1, .int 1, .int (-1)]) rfl rfl ?_
    refine ax_nx rfl rfl ?_
    refine ax_nx (st' := [.int 1]) rfl rfl ?_
    iterate 3 refine ax_nx rfl rfl ?_
    refine ax_cal (d := d + 1) rfl rfl (q_Mo_fail) (fun v h' hh => ?_)
    obtain ⟨rfl, rfl⟩ := hh
    refine ax_nx rfl rfl ?_
    have g2 : ag [12, 17] [] f a1 (upd (upd (upd (upd f 12 0) 17 0) 17 1) 12 2) a1 := by
      refine ⟨fun j hj => ?_, fun _ _ => rfl⟩
      simp only [List.mem_cons, List.not_mem_nil, or_false, not_or] at hj
      simp [upd, hj]
    exact ax_ret rfl rfl ⟨_, rfl, rfl, rfl, _, _, rfl, g2.wide (by simp) (by simp), Or.inr ⟨hgt, rfl, rfl, h.kept g2 (by decide) (by decide), hmz.kept g2 (by decide) (by decide)⟩⟩
theorem q_Mo_term2 {c : Nat} {T : tm_T} {Z : List Nat} (h : mt_at c T f a) (hmz : mz_at T Z f a) (hZ : th_wf c T Z) {p q : Nat} (hp1 : p < T.length) (hq1 : q < T.length) : ax_R (d + 2) 6 0 (ax_in 6 [.ref 25, .int (nI 2), .int (nI p), .int (nI q)]) [] (hp n xs f a o) k s (mk_Q n xs o c T Z (tm_mk T (2, p, q)) f a k s) := by
  have hkd : tm_kd c T.length (2, p, q) := Or.inr (Or.inr (Or.inl ⟨p, q, rfl, hp1, hq1⟩))
  have h20 := h.2.1
  have h14 := h.2.2.1
  iterate 2 refine ax_nx rfl rfl ?_
  iterate 3 refine ax_nx rfl rfl ?_
  iterate 3 refine ax_nx rfl rfl ?_
  refine ax_nx (al' := [.ref 25, .int (nI 2), .int (nI p), .int (nI q), .int 1, ax_u, ax_u]) rfl rfl ?_
  iterate 2 refine ax_nx rfl rfl ?_
  iterate 3 refine ax_nx rfl rfl ?_
  iterate 2 refine ax_nx rfl rfl ?_
  iterate 4 refine ax_nx rfl rfl ?_
  refine ax_cal (d := d + 1) rfl rfl (q_Mo_out (m := f 14)) (fun v h' hh => ?_)
  obtain ⟨rfl, rfl⟩ := hh
  rw [h14, if_pos (nI_has' hp1 (by omega))]
  iterate 3 refine ax_nx rfl rfl ?_
  iterate 4 refine ax_nx rfl rfl ?_
  refine ax_cal (d := d + 1) rfl rfl (q_Mo_out (m := f 14)) (fun v h' hh => ?_)
  obtain ⟨rfl, rfl⟩ := hh
  rw [h14, if_pos (nI_has' hq1 (by omega))]
  iterate 3 refine ax_nx rfl rfl ?_
  refine ax_nx (al' := [.ref 25, .int (nI 2), .int (nI p), .int (nI q), .int 1, .int 1, ax_u]) rfl rfl ?_
  iterate 2 refine ax_nx rfl rfl ?_
  iterate 3 refine ax_nx rfl rfl ?_
  refine ax_nx (h' := hp n xs (upd f 12 0) a o) rfl rfl ?_
  refine ax_nx rfl rfl ?_
  refine ax_nx (st' := [.int 0]) rfl rfl ?_
  iterate 3 refine ax_nx rfl rfl ?_
  refine ax_nx (h' := hp n xs (upd (upd f 12 0) 17 0) a o) rfl rfl ?_
  iterate 3 refine ax_nx rfl rfl ?_
  iterate 5 refine ax_nx rfl rfl ?_
  iterate 3 refine ax_nx rfl rfl ?_
  have g0 : ag [12, 17] [] f a (upd (upd f 12 0) 17 0) a := by
    refine ⟨fun j hj => ?_, fun _ _ => rfl⟩
    simp only [List.mem_cons, List.not_mem_nil, or_false, not_or] at hj
    simp [upd, hj]
  refine ax_cal (d := d + 1) rfl rfl (q_Mo_make (d := d) (h.kept g0 (by decide) (by decide)) hkd) (fun v h' hh => ?_)
  obtain ⟨f1, a1, rfl, hh⟩ := hh
  have hext := tm_mk_ext T (2, p, q)
  generalize tm_mk T (2, p, q) = R at *
  obtain ⟨S, hS, -⟩ := hext
  rcases hh with ⟨hle, rfl, hmt1, g1, e1, e2⟩ | ⟨hgt, rfl, rfl, rfl⟩
  · have h17 : f1 17 = 0 := (g1.1 17 (by decide)).trans rfl
    refine ax_nx (al' := [.ref 25, .int (nI 2), .int (nI p), .int (nI q), .int 1, .int 1, .int (nI R.2)]) rfl rfl ?_
    iterate 2 refine ax_nx rfl rfl ?_
    rw [h17]
    iterate 2 refine ax_nx rfl rfl ?_
    have hmz1 : mz_at R.1 Z f1 a1 := by
      rw [hS] at e2 ⊢
      exact (hmz.kept g0 (by decide) (by decide)).make hZ g1 e1 e2
    exact ax_ret rfl rfl ⟨_, rfl, rfl, rfl, f1, a1, rfl, (g0.wide (by simp) (by simp)).trans (g1.wide (by simp) (by simp)), Or.inl ⟨hle, rfl, (g1.1 12 (by decide)).trans rfl, hmt1, hmz1⟩⟩
  · refine ax_nx (al' := [.ref 25, .int (nI 2), .int (nI p), .int (nI q), .int 1, .int 1, .int (-1)]) rfl rfl ?_
    refine ax_nx rfl rfl ?_
    refine ax_nx (st' := [.int 1]) rfl rfl ?_
    iterate 3 refine ax_nx rfl rfl ?_
    refine ax_cal (d := d + 1) rfl rfl (q_Mo_fail) (fun v h' hh => ?_)
    obtain ⟨rfl, rfl⟩ := hh
    refine ax_nx rfl rfl ?_
    have g2 : ag [12, 17] [] f a1 (upd (upd (upd (upd f 12 0) 17 0) 17 1) 12 2) a1 := by
      refine ⟨fun j hj => ?_, fun _ _ => rfl⟩
      simp only [List.mem_cons, List.not_mem_nil, or_false, not_or] at hj
      simp [upd, hj]
    exact ax_ret rfl rfl ⟨_, rfl, rfl, rfl, _, _, rfl, g2.wide (by simp) (by simp), Or.inr ⟨hgt, rfl, rfl, h.kept g2 (by decide) (by decide), hmz.kept g2 (by decide) (by decide)⟩⟩
theorem q_Mo_term3 {c : Nat} {T : tm_T} {Z : List Nat} (h : mt_at c T f a) (hmz : mz_at T Z f a) (hZ : th_wf c T Z) {q r : Int32} : ax_R (d + 2) 6 0 (ax_in 6 [.ref 25, .int (nI 3), .int q, .int r]) [] (hp n xs f a o) k s (mk_Q n xs o c T Z (tm_mk T (3, 0, 0)) f a k s) := by
  have hkd : tm_kd c T.length (3, 0, 0) := Or.inr (Or.inr (Or.inr (Or.inl rfl)))
  have h20 := h.2.1
  have h14 := h.2.2.1
  iterate 2 refine ax_nx rfl rfl ?_
  iterate 3 refine ax_nx rfl rfl ?_
  iterate 2 refine ax_nx rfl rfl ?_
  refine ax_nx (al' := [.ref 25, .int (nI 3), .int q, .int r, .int 0, ax_u, ax_u]) rfl rfl ?_
  iterate 2 refine ax_nx rfl rfl ?_
  iterate 3 refine ax_nx rfl rfl ?_
  iterate 2 refine ax_nx rfl rfl ?_
  iterate 3 refine ax_nx rfl rfl ?_
  refine ax_nx (al' := [.ref 25, .int (nI 3), .int q, .int r, .int 0, .int 1, ax_u]) rfl rfl ?_
  iterate 2 refine ax_nx rfl rfl ?_
  iterate 3 refine ax_nx rfl rfl ?_
  refine ax_nx (h' := hp n xs (upd f 12 0) a o) rfl rfl ?_
  refine ax_nx rfl rfl ?_
  refine ax_nx (st' := [.int 0]) rfl rfl ?_
  iterate 3 refine ax_nx rfl rfl ?_
  refine ax_nx (h' := hp n xs (upd (upd f 12 0) 17 0) a o) rfl rfl ?_
  iterate 3 refine ax_nx rfl rfl ?_
  iterate 4 refine ax_nx rfl rfl ?_
  iterate 2 refine ax_nx rfl rfl ?_
  have g0 : ag [12, 17] [] f a (upd (upd f 12 0) 17 0) a := by
    refine ⟨fun j hj => ?_, fun _ _ => rfl⟩
    simp only [List.mem_cons, List.not_mem_nil, or_false, not_or] at hj
    simp [upd, hj]
  refine ax_cal (d := d + 1) rfl rfl (q_Mo_make (d := d) (h.kept g0 (by decide) (by decide)) hkd) (fun v h' hh => ?_)
  obtain ⟨f1, a1, rfl, hh⟩ := hh
  have hext := tm_mk_ext T (3, 0, 0)
  generalize tm_mk T (3, 0, 0) = R at *
  obtain ⟨S, hS, -⟩ := hext
  rcases hh with ⟨hle, rfl, hmt1, g1, e1, e2⟩ | ⟨hgt, rfl, rfl, rfl⟩
  · have h17 : f1 17 = 0 := (g1.1 17 (by decide)).trans rfl
    refine ax_nx (al' := [.ref 25, .int (nI 3), .int q, .int r, .int 0, .int 1, .int (nI R.2)]) rfl rfl ?_
    iterate 2 refine ax_nx rfl rfl ?_
    rw [h17]
    iterate 2 refine ax_nx rfl rfl ?_
    have hmz1 : mz_at R.1 Z f1 a1 := by
      rw [hS] at e2 ⊢
      exact (hmz.kept g0 (by decide) (by decide)).make hZ g1 e1 e2
    exact ax_ret rfl rfl ⟨_, rfl, rfl, rfl, f1, a1, rfl, (g0.wide (by simp) (by simp)).trans (g1.wide (by simp) (by simp)), Or.inl ⟨hle, rfl, (g1.1 12 (by decide)).trans rfl, hmt1, hmz1⟩⟩
  · refine ax_nx (al' := [.ref 25, .int (nI 3), .int q, .int r, .int 0, .int 1, .int (-1)]) rfl rfl ?_
    refine ax_nx rfl rfl ?_
    refine ax_nx (st' := [.int 1]) rfl rfl ?_
    iterate 3 refine ax_nx rfl rfl ?_
    refine ax_cal (d := d + 1) rfl rfl (q_Mo_fail) (fun v h' hh => ?_)
    obtain ⟨rfl, rfl⟩ := hh
    refine ax_nx rfl rfl ?_
    have g2 : ag [12, 17] [] f a1 (upd (upd (upd (upd f 12 0) 17 0) 17 1) 12 2) a1 := by
      refine ⟨fun j hj => ?_, fun _ _ => rfl⟩
      simp only [List.mem_cons, List.not_mem_nil, or_false, not_or] at hj
      simp [upd, hj]
    exact ax_ret rfl rfl ⟨_, rfl, rfl, rfl, _, _, rfl, g2.wide (by simp) (by simp), Or.inr ⟨hgt, rfl, rfl, h.kept g2 (by decide) (by decide), hmz.kept g2 (by decide) (by decide)⟩⟩
theorem q_Mo_term4 {c : Nat} {T : tm_T} {Z : List Nat} (h : mt_at c T f a) (hmz : mz_at T Z f a) (hZ : th_wf c T Z) {q r : Int32} : ax_R (d + 2) 6 0 (ax_in 6 [.ref 25, .int (nI 4), .int q, .int r]) [] (hp n xs f a o) k s (mk_Q n xs o c T Z (tm_mk T (4, 0, 0)) f a k s) := by
  have hkd : tm_kd c T.length (4, 0, 0) := Or.inr (Or.inr (Or.inr (Or.inr rfl)))
  have h20 := h.2.1
  have h14 := h.2.2.1
  iterate 2 refine ax_nx rfl rfl ?_
  iterate 3 refine ax_nx rfl rfl ?_
  iterate 2 refine ax_nx rfl rfl ?_
  refine ax_nx (al' := [.ref 25, .int (nI 4), .int q, .int r, .int 0, ax_u, ax_u]) rfl rfl ?_
  iterate 2 refine ax_nx rfl rfl ?_
  iterate 3 refine ax_nx rfl rfl ?_
  iterate 2 refine ax_nx rfl rfl ?_
  iterate 3 refine ax_nx rfl rfl ?_
  refine ax_nx (al' := [.ref 25, .int (nI 4), .int q, .int r, .int 0, .int 1, ax_u]) rfl rfl ?_
  iterate 2 refine ax_nx rfl rfl ?_
  iterate 3 refine ax_nx rfl rfl ?_
  refine ax_nx (h' := hp n xs (upd f 12 0) a o) rfl rfl ?_
  refine ax_nx rfl rfl ?_
  refine ax_nx (st' := [.int 0]) rfl rfl ?_
  iterate 3 refine ax_nx rfl rfl ?_
  refine ax_nx (h' := hp n xs (upd (upd f 12 0) 17 0) a o) rfl rfl ?_
  iterate 3 refine ax_nx rfl rfl ?_
  iterate 4 refine ax_nx rfl rfl ?_
  iterate 2 refine ax_nx rfl rfl ?_
  have g0 : ag [12, 17] [] f a (upd (upd f 12 0) 17 0) a := by
    refine ⟨fun j hj => ?_, fun _ _ => rfl⟩
    simp only [List.mem_cons, List.not_mem_nil, or_false, not_or] at hj
    simp [upd, hj]
  refine ax_cal (d := d + 1) rfl rfl (q_Mo_make (d := d) (h.kept g0 (by decide) (by decide)) hkd) (fun v h' hh => ?_)
  obtain ⟨f1, a1, rfl, hh⟩ := hh
  have hext := tm_mk_ext T (4, 0, 0)
  generalize tm_mk T (4, 0, 0) = R at *
  obtain ⟨S, hS, -⟩ := hext
  rcases hh with ⟨hle, rfl, hmt1, g1, e1, e2⟩ | ⟨hgt, rfl, rfl, rfl⟩
  · have h17 : f1 17 = 0 := (g1.1 17 (by decide)).trans rfl
    refine ax_nx (al' := [.ref 25, .int (nI 4), .int q, .int r, .int 0, .int 1, .int (nI R.2)]) rfl rfl ?_
    iterate 2 refine ax_nx rfl rfl ?_
    rw [h17]
    iterate 2 refine ax_nx rfl rfl ?_
    have hmz1 : mz_at R.1 Z f1 a1 := by
      rw [hS] at e2 ⊢
      exact (hmz.kept g0 (by decide) (by decide)).make hZ g1 e1 e2
    exact ax_ret rfl rfl ⟨_, rfl, rfl, rfl, f1, a1, rfl, (g0.wide (by simp) (by simp)).trans (g1.wide (by simp) (by simp)), Or.inl ⟨hle, rfl, (g1.1 12 (by decide)).trans rfl, hmt1, hmz1⟩⟩
  · refine ax_nx (al' := [.ref 25, .int (nI 4), .int q, .int r, .int 0, .int 1, .int (-1)]) rfl rfl ?_
    refine ax_nx rfl rfl ?_
    refine ax_nx (st' := [.int 1]) rfl rfl ?_
    iterate 3 refine ax_nx rfl rfl ?_
    refine ax_cal (d := d + 1) rfl rfl (q_Mo_fail) (fun v h' hh => ?_)
    obtain ⟨rfl, rfl⟩ := hh
    refine ax_nx rfl rfl ?_
    have g2 : ag [12, 17] [] f a1 (upd (upd (upd (upd f 12 0) 17 0) 17 1) 12 2) a1 := by
      refine ⟨fun j hj => ?_, fun _ _ => rfl⟩
      simp only [List.mem_cons, List.not_mem_nil, or_false, not_or] at hj
      simp [upd, hj]
    exact ax_ret rfl rfl ⟨_, rfl, rfl, rfl, _, _, rfl, g2.wide (by simp) (by simp), Or.inr ⟨hgt, rfl, rfl, h.kept g2 (by decide) (by decide), hmz.kept g2 (by decide) (by decide)⟩⟩
theorem q_Mo_lit_no {p q z : Int32} (h : ¬ ((0 ≤ p ∧ p < f 14) ∧ 0 ≤ q ∧ q < f 14)) : ax_R (d + 1) 9 0 (ax_in 9 [.ref 25, .int p, .int q, .int z]) [] (hp n xs f a o) k s (ax_V (fun v h' => v = some (.int 0) ∧ h' = hp n xs (upd f 12 1) a o) k s) := by
  have fin : ax_R (d + 1) 9 23 [.ref 25, .int p, .int q, .int z] [.ref 25] (hp n xs f a o) k s (ax_V (fun v h' => v = some (.int 0) ∧ h' = hp n xs (upd f 12 1) a o) k s) := by
    iterate 2 refine ax_nx rfl rfl ?_
    refine ax_nx (h' := hp n xs (upd f 12 1) a o) rfl rfl ?_
    refine ax_nx rfl rfl ?_
    refine ax_nx (st' := [.int 1]) rfl rfl ?_
    iterate 2 refine ax_nx rfl rfl ?_
    exact ax_ret rfl rfl ⟨_, rfl, rfl, rfl, rfl, rfl⟩
  by_cases hp1 : 0 ≤ p ∧ p < f 14
  · iterate 4 refine ax_nx rfl rfl ?_
    refine ax_cal rfl rfl (q_Mo_out (m := f 14)) (fun v h' hh => ?_)
    obtain ⟨rfl, rfl⟩ := hh
    rw [if_pos hp1]
    iterate 4 refine ax_nx rfl rfl ?_
    refine ax_cal rfl rfl (q_Mo_out (m := f 14)) (fun v h' hh => ?_)
    obtain ⟨rfl, rfl⟩ := hh
    rw [if_neg (fun h9 => h ⟨hp1, h9⟩)]
    refine ax_nx rfl rfl ?_
    exact fin
  · iterate 4 refine ax_nx rfl rfl ?_
    refine ax_cal rfl rfl (q_Mo_out (m := f 14)) (fun v h' hh => ?_)
    obtain ⟨rfl, rfl⟩ := hh
    rw [if_neg hp1]
    refine ax_nx rfl rfl ?_
    exact fin
theorem q_Mo_lit_full {p q z : Int32} (hp1 : 0 ≤ p ∧ p < f 14) (hq1 : 0 ≤ q ∧ q < f 14) (h18 : f 18 = nI 4) : ax_R (d + 1) 9 0 (ax_in 9 [.ref 25, .int p, .int q, .int z]) [] (hp n xs f a o) k s (ax_V (fun v h' => v = some (.int 0) ∧ h' = hp n xs (upd f 12 2) a o) k s) := by
  iterate 4 refine ax_nx rfl rfl ?_
  refine ax_cal rfl rfl (q_Mo_out (m := f 14)) (fun v h' hh => ?_)
  obtain ⟨rfl, rfl⟩ := hh
  rw [if_pos hp1]
  iterate 4 refine ax_nx rfl rfl ?_
  refine ax_cal rfl rfl (q_Mo_out (m := f 14)) (fun v h' hh => ?_)
  obtain ⟨rfl, rfl⟩ := hh
  rw [if_pos hq1]
  iterate 4 refine ax_nx rfl rfl ?_
  rw [h18]
  iterate 3 refine ax_nx rfl rfl ?_
  refine ax_nx (h' := hp n xs (upd f 12 2) a o) rfl rfl ?_
  refine ax_nx rfl rfl ?_
  refine ax_nx (st' := [.int 2]) rfl rfl ?_
  iterate 2 refine ax_nx rfl rfl ?_
  exact ax_ret rfl rfl ⟨_, rfl, rfl, rfl, rfl, rfl⟩
theorem q_Mo_lit {p q : Nat} {e : Bool} {D : dr_L} (hd : md_at D f a) (h4 : D.length < 4) (hp1 : 0 ≤ nI p ∧ nI p < f 14) (hq1 : 0 ≤ nI q ∧ nI q < f 14) : ax_R (d + 1) 9 0 (ax_in 9 [.ref 25, .int (nI p), .int (nI q), .int (bI e)]) [] (hp n xs f a o) k s (ax_V (fun v h' => v = some (.int (nI (D.length + 1))) ∧ ∃ f' a', h' = hp n xs f' a' o ∧ ag [12, 18] [34, 35, 36] f a f' a' ∧ f' 12 = 0 ∧ md_at (D ++ [(p, q, e)]) f' a') k s) := by
  obtain ⟨h1, h2, h3⟩ := id hd
  iterate 4 refine ax_nx rfl rfl ?_
  refine ax_cal rfl rfl (q_Mo_out (m := f 14)) (fun v h' hh => ?_)
  obtain ⟨rfl, rfl⟩ := hh
  rw [if_pos hp1]
  iterate 4 refine ax_nx rfl rfl ?_
  refine ax_cal rfl rfl (q_Mo_out (m := f 14)) (fun v h' hh => ?_)
  obtain ⟨rfl, rfl⟩ := hh
  rw [if_pos hq1]
  iterate 4 refine ax_nx rfl rfl ?_
  rw [h1]
  refine ax_nxf rfl rfl (fun h9 => by have := (nI_eq (b := 4) (by omega) (by omega)).mp h9; omega) ?_
  refine ax_nx rfl rfl ?_
  refine ax_nx (h' := hp n xs (upd f 12 0) a o) rfl rfl ?_
  refine ax_nx rfl rfl ?_
  refine ax_nx (st' := [.int 0]) rfl rfl ?_
  iterate 4 refine ax_nx rfl rfl ?_
  refine ax_nx (st' := [.int (f 18), .ref 34]) rfl rfl ?_
  rw [h1]
  refine ax_nx rfl rfl ?_
  refine ax_iasH (h2 := hp n xs (upd f 12 0) (upda a 34 (upd (a 34) (D.length) (nI p))) o) rfl rfl (vp_in_nI (by omega) (by omega)) (by rw [nI_clamp (by omega)]; rfl) ?_
  iterate 3 refine ax_nx rfl rfl ?_
  refine ax_nx (st' := [.int (f 18), .ref 35]) rfl rfl ?_
  rw [h1]
  refine ax_nx rfl rfl ?_
  refine ax_iasH (h2 := hp n xs (upd f 12 0) (upda (upda a 34 (upd (a 34) (D.length) (nI p))) 35 (upd (a 35) (D.length) (nI q))) o) rfl rfl (vp_in_nI (by omega) (by omega)) (by rw [nI_clamp (by omega)]; rfl) ?_
  iterate 3 refine ax_nx rfl rfl ?_
  refine ax_nx (st' := [.int (f 18), .ref 36]) rfl rfl ?_
  rw [h1]
  refine ax_nx rfl rfl ?_
  refine ax_basH (h2 := hp n xs (upd f 12 0) (upda (upda (upda a 34 (upd (a 34) (D.length) (nI p))) 35 (upd (a 35) (D.length) (nI q))) 36 (upd (a 36) (D.length) (bI e))) o) rfl rfl (vp_in_nI (by omega) (by omega)) (bI_01 e) (by rw [nI_clamp (by omega)]; rfl) ?_
  iterate 2 refine ax_nx rfl rfl ?_
  refine ax_nx (st' := [.int (f 18), .ref 25]) rfl rfl ?_
  iterate 2 refine ax_nx rfl rfl ?_
  refine ax_top (y := nI (D.length + 1)) (by show f 18 + 1 = _; rw [h1]; exact nI_1 _) ?_
  refine ax_nx (h' := hp n xs (upd (upd f 12 0) 18 (nI (D.length + 1))) (upda (upda (upda a 34 (upd (a 34) (D.length) (nI p))) 35 (upd (a 35) (D.length) (nI q))) 36 (upd (a 36) (D.length) (bI e))) o) rfl rfl ?_
  refine ax_nx rfl rfl ?_
  refine ax_nx (st' := [.int (nI (D.length + 1))]) rfl rfl ?_
  refine ax_ret rfl rfl ⟨_, rfl, rfl, rfl, rfl, _, _, rfl, ?_, rfl, ?_⟩
  · refine ⟨fun j hj => ?_, fun j hj => ?_⟩
    · simp only [List.mem_cons, List.not_mem_nil, or_false, not_or] at hj
      simp [upd, hj]
    · simp only [List.mem_cons, List.not_mem_nil, or_false, not_or] at hj
      simp [upda, hj]
  · refine ⟨by rw [List.length_append]; rfl, by rw [List.length_append]; simp; omega, fun i w hi => ?_⟩
    show upd (a 34) D.length (nI p) i = nI w.1 ∧ upd (a 35) D.length (nI q) i = nI w.2.1 ∧ upd (a 36) D.length (bI e) i = bI w.2.2
    rcases Nat.lt_or_ge i D.length with hil | hil
    · rw [List.getElem?_append_left hil] at hi
      obtain ⟨z1, z2, z3⟩ := h3 i w hi
      have hne : ¬ i = D.length := by omega
      exact ⟨(if_neg hne).trans z1, (if_neg hne).trans z2, (if_neg hne).trans z3⟩
    · have hi0 := tm_lt hi
      simp at hi0
      have hie : i = D.length := by omega
      subst hie
      rw [List.getElem?_append_right (Nat.le_refl _), Nat.sub_self] at hi
      cases hi
      exact ⟨if_pos rfl, if_pos rfl, if_pos rfl⟩
theorem q_Mo_look_no {p q : Int32} (h : ¬ ((0 ≤ p ∧ p < f 14) ∧ 0 ≤ q ∧ q < 3)) : ax_R (d + 1) 30 0 (ax_in 30 [.ref 25, .int p, .int q]) [] (hp n xs f a o) k s (ax_V (fun v h' => v = some (.int 0) ∧ h' = hp n xs (upd (upd f 12 0) 12 1) a o) k s) := by
  by_cases hp1 : 0 ≤ p ∧ p < f 14
  · iterate 2 refine ax_nx rfl rfl ?_
    refine ax_nx (h' := hp n xs (upd f 12 0) a o) rfl rfl ?_
    iterate 2 refine ax_nx rfl rfl ?_
    refine ax_nx (st' := [.int (f 14), .int p]) rfl rfl ?_
    refine ax_cal rfl rfl (q_Mo_out (m := f 14)) (fun v h' hh => ?_)
    obtain ⟨rfl, rfl⟩ := hh
    rw [if_pos hp1]
    iterate 3 refine ax_nx rfl rfl ?_
    refine ax_cal rfl rfl (q_Mo_out (m := 3)) (fun v h' hh => ?_)
    obtain ⟨rfl, rfl⟩ := hh
    rw [if_neg (fun h9 => h ⟨hp1, h9⟩)]
    iterate 3 refine ax_nx rfl rfl ?_
    refine ax_cal rfl rfl (q_Mo_fail) (fun v h' hh => ?_)
    obtain ⟨rfl, rfl⟩ := hh
    exact ax_ret rfl rfl ⟨_, rfl, rfl, rfl, rfl, rfl⟩
  · iterate 2 refine ax_nx rfl rfl ?_
    refine ax_nx (h' := hp n xs (upd f 12 0) a o) rfl rfl ?_
    iterate 2 refine ax_nx rfl rfl ?_
    refine ax_nx (st' := [.int (f 14), .int p]) rfl rfl ?_
    refine ax_cal rfl rfl (q_Mo_out (m := f 14)) (fun v h' hh => ?_)
    obtain ⟨rfl, rfl⟩ := hh
    rw [if_neg hp1]
    iterate 3 refine ax_nx rfl rfl ?_
    refine ax_cal rfl rfl (q_Mo_fail) (fun v h' hh => ?_)
    obtain ⟨rfl, rfl⟩ := hh
    exact ax_ret rfl rfl ⟨_, rfl, rfl, rfl, rfl, rfl⟩
theorem q_Mo_look {j w : Nat} (hj : j < 20) (hp1 : 0 ≤ nI j ∧ nI j < f 14) (hw : w < 3) : ax_R (d + 1) 30 0 (ax_in 30 [.ref 25, .int (nI j), .int (nI w)]) [] (hp n xs f a o) k s (ax_V (fun v h' => v = some (.int (if w = 0 then a 26 j else if w = 1 then a 27 j else a 28 j)) ∧ h' = hp n xs (upd f 12 0) a o) k s) := by
  have hw3 : 0 ≤ nI w ∧ nI w < 3 := nI_has' (N := 3) hw (by omega)
  iterate 2 refine ax_nx rfl rfl ?_
  refine ax_nx (h' := hp n xs (upd f 12 0) a o) rfl rfl ?_
  iterate 2 refine ax_nx rfl rfl ?_
  refine ax_nx (st' := [.int (f 14), .int (nI j)]) rfl rfl ?_
  refine ax_cal rfl rfl (q_Mo_out (m := f 14)) (fun v h' hh => ?_)
  obtain ⟨rfl, rfl⟩ := hh
  rw [if_pos hp1]
  iterate 3 refine ax_nx rfl rfl ?_
  refine ax_cal rfl rfl (q_Mo_out (m := 3)) (fun v h' hh => ?_)
  obtain ⟨rfl, rfl⟩ := hh
  rw [if_pos hw3]
  refine ax_nx rfl rfl ?_
  obtain rfl | rfl | rfl : w = 0 ∨ w = 1 ∨ w = 2 := by omega
  · refine ax_nx rfl rfl ?_
    iterate 4 refine ax_nx rfl rfl ?_
    refine ax_ia rfl rfl (vp_in_nI (by omega) (by omega)) ?_
    rw [nI_clamp (by omega)]
    refine ax_nx rfl rfl ?_
    exact ax_ret rfl rfl ⟨_, rfl, rfl, rfl, rfl, rfl⟩
  · refine ax_nx rfl rfl ?_
    iterate 3 refine ax_nx rfl rfl ?_
    iterate 4 refine ax_nx rfl rfl ?_
    refine ax_ia rfl rfl (vp_in_nI (by omega) (by omega)) ?_
    rw [nI_clamp (by omega)]
    refine ax_nx rfl rfl ?_
    exact ax_ret rfl rfl ⟨_, rfl, rfl, rfl, rfl, rfl⟩
  · refine ax_nx rfl rfl ?_
    iterate 3 refine ax_nx rfl rfl ?_
    iterate 4 refine ax_nx rfl rfl ?_
    refine ax_ia rfl rfl (vp_in_nI (by omega) (by omega)) ?_
    rw [nI_clamp (by omega)]
    exact ax_ret rfl rfl ⟨_, rfl, rfl, rfl, rfl, rfl⟩
end HMT
