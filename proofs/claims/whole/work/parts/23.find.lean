theorem tm_fd_first : ∀ {T : tm_T} {e : Nat × Nat × Nat} {i : Nat}, T[i]? = some e → (∀ j : Nat, j < i → T[j]? ≠ some e) → tm_fd T e = some i := by
  intro T
  induction T with
  | nil => intro e i h _; simp at h
  | cons x r ih =>
    intro e i h hno
    rw [tm_fd]
    cases i with
    | zero =>
      have hx : x = e := by simpa using h
      rw [if_pos hx]
    | succ i =>
      have hx : ¬ x = e := fun hx => hno 0 (Nat.succ_pos _) (by rw [hx]; rfl)
      rw [if_neg hx, ih (i := i) (by simpa using h) (fun j hj => by have h9 := hno (j + 1) (by omega); simpa using h9)]
      rfl
section HF
variable {n : Nat} {xs : Nat → Int32} {f : Nat → Int32} {a : Nat → Nat → Int32} {o : Nat → Int64} {d k s : Nat}
theorem q_find_Mo_l {T : tm_T} (hT : tb_at T (a 26) (a 27) (a 28)) (hn : f 14 = nI T.length) (hl : T.length ≤ 20) {x y z : Nat} (hx : x < 2 ^ 31) (hy : y < 2 ^ 31) (hz : z < 2 ^ 31) :
    ∀ (m i : Nat), i + m = T.length → (∀ j : Nat, j < i → T[j]? ≠ some (x, y, z)) → ax_R d 2 3 [.ref 25, .int (nI x), .int (nI y), .int (nI z), .int (nI i)] [] (hp n xs f a o) k s (ax_V (fun v h' => v = some (.int (ix_of (tm_fd T (x, y, z)))) ∧ h' = hp n xs f a o) k s) := by
  intro m
  induction m with
  | zero =>
    intro i hi hno
    refine ax_nx rfl rfl ?_
    refine ax_nx rfl rfl ?_
    refine ax_nx rfl rfl ?_
    refine ax_nxt rfl rfl (by rw [hn]; exact nI_le (by omega) (by omega)) ?_
    refine ax_nx rfl rfl ?_
    have e : tm_fd T (x, y, z) = none := by
      cases hq : tm_fd T (x, y, z) with
      | none => rfl
      | some j =>
        have h1 := tm_fd_some hq
        exact absurd h1 (hno j (by have := tm_lt h1; omega))
    exact ax_ret rfl rfl ⟨_, rfl, rfl, rfl, by rw [e]; rfl, rfl⟩
  | succ m ih =>
    intro i hi hno
    have hil : i < T.length := by omega
    have hg : T[i]? = some T[i] := List.getElem?_eq_getElem hil
    generalize T[i] = q at hg
    obtain ⟨q1, q2, q3⟩ := q
    obtain ⟨h1, h2, h3, b1, b2, b3⟩ := hT i _ hg
    have hin : vp_in (nI i) 20 := vp_in_nI (by omega) (by omega)
    have hcl : (nI i).toNatClampNeg = i := nI_clamp (by omega)
    have next : (q1, q2, q3) ≠ (x, y, z) → ax_R d 2 48 [.ref 25, .int (nI x), .int (nI y), .int (nI z), .int (nI i)] [] (hp n xs f a o) k s (ax_V (fun v h' => v = some (.int (ix_of (tm_fd T (x, y, z)))) ∧ h' = hp n xs f a o) k s) := by
      intro hne
      refine ax_nx (al' := [.ref 25, .int (nI x), .int (nI y), .int (nI z), .int (nI i + 1)]) rfl rfl ?_
      refine ax_nx rfl rfl ?_
      rw [nI_1]
      refine ih (i + 1) (by omega) (fun j hj => ?_)
      rcases Nat.lt_succ_iff_lt_or_eq.mp hj with hj | rfl
      · exact hno j hj
      · rw [hg]
        exact fun h => hne (Option.some.inj h)
    refine ax_nx rfl rfl ?_
    refine ax_nx rfl rfl ?_
    refine ax_nx rfl rfl ?_
    refine ax_nxf rfl rfl (by rw [hn]; exact fun h => by have := (nI_leI (by omega) (by omega)).mp h; omega) ?_
    refine ax_nx rfl rfl ?_
    refine ax_nx rfl rfl ?_
    refine ax_nx rfl rfl ?_
    refine ax_ia rfl rfl hin ?_
    rw [hcl, h1]
    refine ax_nx rfl rfl ?_
    refine ax_if rfl rfl (fun e1 => ?_) (fun e1 => ?_)
    rotate_left
    · exact next (fun h => e1 (by rw [(Prod.mk.inj h).1]))
    refine ax_nx rfl rfl ?_
    refine ax_nx rfl rfl ?_
    refine ax_nx rfl rfl ?_
    refine ax_ia rfl rfl hin ?_
    rw [hcl, h2]
    refine ax_nx rfl rfl ?_
    refine ax_if rfl rfl (fun e2 => ?_) (fun e2 => ?_)
    rotate_left
    · exact next (fun h => e2 (by rw [(Prod.mk.inj (Prod.mk.inj h).2).1]))
    refine ax_nx rfl rfl ?_
    refine ax_nx rfl rfl ?_
    refine ax_nx rfl rfl ?_
    refine ax_ia rfl rfl hin ?_
    rw [hcl, h3]
    refine ax_nx rfl rfl ?_
    refine ax_if rfl rfl (fun e3 => ?_) (fun e3 => ?_)
    rotate_left
    · exact next (fun h => e3 (by rw [(Prod.mk.inj (Prod.mk.inj h).2).2]))
    have z1 := (nI_eq b1 hx).mp e1
    have z2 := (nI_eq b2 hy).mp e2
    have z3 := (nI_eq b3 hz).mp e3
    subst z1; subst z2; subst z3
    have hf := tm_fd_first hg hno
    refine ax_nx rfl rfl ?_
    exact ax_ret rfl rfl ⟨_, rfl, rfl, rfl, by rw [hf]; rfl, rfl⟩
theorem q_find_Mo {T : tm_T} (hT : tb_at T (a 26) (a 27) (a 28)) (hn : f 14 = nI T.length) (hl : T.length ≤ 20) {x y z : Nat} (hx : x < 2 ^ 31) (hy : y < 2 ^ 31) (hz : z < 2 ^ 31) : ax_R d 2 0 (ax_in 2 [.ref 25, .int (nI x), .int (nI y), .int (nI z)]) [] (hp n xs f a o) k s (ax_V (fun v h' => v = some (.int (ix_of (tm_fd T (x, y, z)))) ∧ h' = hp n xs f a o) k s) := by
  refine ax_nx rfl rfl ?_
  refine ax_nx (al' := [.ref 25, .int (nI x), .int (nI y), .int (nI z), .int (nI 0)]) rfl rfl ?_
  exact q_find_Mo_l hT hn hl hx hy hz T.length 0 (by omega) (fun j hj => absurd hj (Nat.not_lt_zero _))
theorem q_find_Te_l {T : tm_T} (hT : tb_at T (a 16) (a 17) (a 18)) (hn : f 7 = nI T.length) (hl : T.length ≤ 20) {x y z : Nat} (hx : x < 2 ^ 31) (hy : y < 2 ^ 31) (hz : z < 2 ^ 31) :
    ∀ (m i : Nat), i + m = T.length → (∀ j : Nat, j < i → T[j]? ≠ some (x, y, z)) → ax_R d 49 3 [.ref 15, .int (nI x), .int (nI y), .int (nI z), .int (nI i)] [] (hp n xs f a o) k s (ax_V (fun v h' => v = some (.int (ix_of (tm_fd T (x, y, z)))) ∧ h' = hp n xs f a o) k s) := by
  intro m
  induction m with
  | zero =>
    intro i hi hno
    refine ax_nx rfl rfl ?_
    refine ax_nx rfl rfl ?_
    refine ax_nx rfl rfl ?_
    refine ax_nxt rfl rfl (by rw [hn]; exact nI_le (by omega) (by omega)) ?_
    refine ax_nx rfl rfl ?_
    have e : tm_fd T (x, y, z) = none := by
      cases hq : tm_fd T (x, y, z) with
      | none => rfl
      | some j =>
        have h1 := tm_fd_some hq
        exact absurd h1 (hno j (by have := tm_lt h1; omega))
    exact ax_ret rfl rfl ⟨_, rfl, rfl, rfl, by rw [e]; rfl, rfl⟩
  | succ m ih =>
    intro i hi hno
    have hil : i < T.length := by omega
    have hg : T[i]? = some T[i] := List.getElem?_eq_getElem hil
    generalize T[i] = q at hg
    obtain ⟨q1, q2, q3⟩ := q
    obtain ⟨h1, h2, h3, b1, b2, b3⟩ := hT i _ hg
    have hin : vp_in (nI i) 20 := vp_in_nI (by omega) (by omega)
    have hcl : (nI i).toNatClampNeg = i := nI_clamp (by omega)
    have next : (q1, q2, q3) ≠ (x, y, z) → ax_R d 49 48 [.ref 15, .int (nI x), .int (nI y), .int (nI z), .int (nI i)] [] (hp n xs f a o) k s (ax_V (fun v h' => v = some (.int (ix_of (tm_fd T (x, y, z)))) ∧ h' = hp n xs f a o) k s) := by
      intro hne
      refine ax_nx (al' := [.ref 15, .int (nI x), .int (nI y), .int (nI z), .int (nI i + 1)]) rfl rfl ?_
      refine ax_nx rfl rfl ?_
      rw [nI_1]
      refine ih (i + 1) (by omega) (fun j hj => ?_)
      rcases Nat.lt_succ_iff_lt_or_eq.mp hj with hj | rfl
      · exact hno j hj
      · rw [hg]
        exact fun h => hne (Option.some.inj h)
    refine ax_nx rfl rfl ?_
    refine ax_nx rfl rfl ?_
    refine ax_nx rfl rfl ?_
    refine ax_nxf rfl rfl (by rw [hn]; exact fun h => by have := (nI_leI (by omega) (by omega)).mp h; omega) ?_
    refine ax_nx rfl rfl ?_
    refine ax_nx rfl rfl ?_
    refine ax_nx rfl rfl ?_
    refine ax_ia rfl rfl hin ?_
    rw [hcl, h1]
    refine ax_nx rfl rfl ?_
    refine ax_if rfl rfl (fun e1 => ?_) (fun e1 => ?_)
    rotate_left
    · exact next (fun h => e1 (by rw [(Prod.mk.inj h).1]))
    refine ax_nx rfl rfl ?_
    refine ax_nx rfl rfl ?_
    refine ax_nx rfl rfl ?_
    refine ax_ia rfl rfl hin ?_
    rw [hcl, h2]
    refine ax_nx rfl rfl ?_
    refine ax_if rfl rfl (fun e2 => ?_) (fun e2 => ?_)
    rotate_left
    · exact next (fun h => e2 (by rw [(Prod.mk.inj (Prod.mk.inj h).2).1]))
    refine ax_nx rfl rfl ?_
    refine ax_nx rfl rfl ?_
    refine ax_nx rfl rfl ?_
    refine ax_ia rfl rfl hin ?_
    rw [hcl, h3]
    refine ax_nx rfl rfl ?_
    refine ax_if rfl rfl (fun e3 => ?_) (fun e3 => ?_)
    rotate_left
    · exact next (fun h => e3 (by rw [(Prod.mk.inj (Prod.mk.inj h).2).2]))
    have z1 := (nI_eq b1 hx).mp e1
    have z2 := (nI_eq b2 hy).mp e2
    have z3 := (nI_eq b3 hz).mp e3
    subst z1; subst z2; subst z3
    have hf := tm_fd_first hg hno
    refine ax_nx rfl rfl ?_
    exact ax_ret rfl rfl ⟨_, rfl, rfl, rfl, by rw [hf]; rfl, rfl⟩
theorem q_find_Te {T : tm_T} (hT : tb_at T (a 16) (a 17) (a 18)) (hn : f 7 = nI T.length) (hl : T.length ≤ 20) {x y z : Nat} (hx : x < 2 ^ 31) (hy : y < 2 ^ 31) (hz : z < 2 ^ 31) : ax_R d 49 0 (ax_in 49 [.ref 15, .int (nI x), .int (nI y), .int (nI z)]) [] (hp n xs f a o) k s (ax_V (fun v h' => v = some (.int (ix_of (tm_fd T (x, y, z)))) ∧ h' = hp n xs f a o) k s) := by
  refine ax_nx rfl rfl ?_
  refine ax_nx (al' := [.ref 15, .int (nI x), .int (nI y), .int (nI z), .int (nI 0)]) rfl rfl ?_
  exact q_find_Te_l hT hn hl hx hy hz T.length 0 (by omega) (fun j hj => absurd hj (Nat.not_lt_zero _))
theorem q_find_Th_l {T : tm_T} (hT : tb_at T (a 21) (a 22) (a 23)) (hn : f 8 = nI T.length) (hl : T.length ≤ 8) {x y z : Nat} (hx : x < 2 ^ 31) (hy : y < 2 ^ 31) (hz : z < 2 ^ 31) :
    ∀ (m i : Nat), i + m = T.length → (∀ j : Nat, j < i → T[j]? ≠ some (x, y, z)) → ax_R d 49 3 [.ref 20, .int (nI x), .int (nI y), .int (nI z), .int (nI i)] [] (hp n xs f a o) k s (ax_V (fun v h' => v = some (.int (ix_of (tm_fd T (x, y, z)))) ∧ h' = hp n xs f a o) k s) := by
  intro m
  induction m with
  | zero =>
    intro i hi hno
    refine ax_nx rfl rfl ?_
    refine ax_nx rfl rfl ?_
    refine ax_nx rfl rfl ?_
    refine ax_nxt rfl rfl (by rw [hn]; exact nI_le (by omega) (by omega)) ?_
    refine ax_nx rfl rfl ?_
    have e : tm_fd T (x, y, z) = none := by
      cases hq : tm_fd T (x, y, z) with
      | none => rfl
      | some j =>
        have h1 := tm_fd_some hq
        exact absurd h1 (hno j (by have := tm_lt h1; omega))
    exact ax_ret rfl rfl ⟨_, rfl, rfl, rfl, by rw [e]; rfl, rfl⟩
  | succ m ih =>
    intro i hi hno
    have hil : i < T.length := by omega
    have hg : T[i]? = some T[i] := List.getElem?_eq_getElem hil
    generalize T[i] = q at hg
    obtain ⟨q1, q2, q3⟩ := q
    obtain ⟨h1, h2, h3, b1, b2, b3⟩ := hT i _ hg
    have hin : vp_in (nI i) 8 := vp_in_nI (by omega) (by omega)
    have hcl : (nI i).toNatClampNeg = i := nI_clamp (by omega)
    have next : (q1, q2, q3) ≠ (x, y, z) → ax_R d 49 48 [.ref 20, .int (nI x), .int (nI y), .int (nI z), .int (nI i)] [] (hp n xs f a o) k s (ax_V (fun v h' => v = some (.int (ix_of (tm_fd T (x, y, z)))) ∧ h' = hp n xs f a o) k s) := by
      intro hne
      refine ax_nx (al' := [.ref 20, .int (nI x), .int (nI y), .int (nI z), .int (nI i + 1)]) rfl rfl ?_
      refine ax_nx rfl rfl ?_
      rw [nI_1]
      refine ih (i + 1) (by omega) (fun j hj => ?_)
      rcases Nat.lt_succ_iff_lt_or_eq.mp hj with hj | rfl
      · exact hno j hj
      · rw [hg]
        exact fun h => hne (Option.some.inj h)
    refine ax_nx rfl rfl ?_
    refine ax_nx rfl rfl ?_
    refine ax_nx rfl rfl ?_
    refine ax_nxf rfl rfl (by rw [hn]; exact fun h => by have := (nI_leI (by omega) (by omega)).mp h; omega) ?_
    refine ax_nx rfl rfl ?_
    refine ax_nx rfl rfl ?_
    refine ax_nx rfl rfl ?_
    refine ax_ia rfl rfl hin ?_
    rw [hcl, h1]
    refine ax_nx rfl rfl ?_
    refine ax_if rfl rfl (fun e1 => ?_) (fun e1 => ?_)
    rotate_left
    · exact next (fun h => e1 (by rw [(Prod.mk.inj h).1]))
    refine ax_nx rfl rfl ?_
    refine ax_nx rfl rfl ?_
    refine ax_nx rfl rfl ?_
    refine ax_ia rfl rfl hin ?_
    rw [hcl, h2]
    refine ax_nx rfl rfl ?_
    refine ax_if rfl rfl (fun e2 => ?_) (fun e2 => ?_)
    rotate_left
    · exact next (fun h => e2 (by rw [(Prod.mk.inj (Prod.mk.inj h).2).1]))
    refine ax_nx rfl rfl ?_
    refine ax_nx rfl rfl ?_
    refine ax_nx rfl rfl ?_
    refine ax_ia rfl rfl hin ?_
    rw [hcl, h3]
    refine ax_nx rfl rfl ?_
    refine ax_if rfl rfl (fun e3 => ?_) (fun e3 => ?_)
    rotate_left
    · exact next (fun h => e3 (by rw [(Prod.mk.inj (Prod.mk.inj h).2).2]))
    have z1 := (nI_eq b1 hx).mp e1
    have z2 := (nI_eq b2 hy).mp e2
    have z3 := (nI_eq b3 hz).mp e3
    subst z1; subst z2; subst z3
    have hf := tm_fd_first hg hno
    refine ax_nx rfl rfl ?_
    exact ax_ret rfl rfl ⟨_, rfl, rfl, rfl, by rw [hf]; rfl, rfl⟩
theorem q_find_Th {T : tm_T} (hT : tb_at T (a 21) (a 22) (a 23)) (hn : f 8 = nI T.length) (hl : T.length ≤ 8) {x y z : Nat} (hx : x < 2 ^ 31) (hy : y < 2 ^ 31) (hz : z < 2 ^ 31) : ax_R d 49 0 (ax_in 49 [.ref 20, .int (nI x), .int (nI y), .int (nI z)]) [] (hp n xs f a o) k s (ax_V (fun v h' => v = some (.int (ix_of (tm_fd T (x, y, z)))) ∧ h' = hp n xs f a o) k s) := by
  refine ax_nx rfl rfl ?_
  refine ax_nx (al' := [.ref 20, .int (nI x), .int (nI y), .int (nI z), .int (nI 0)]) rfl rfl ?_
  exact q_find_Th_l hT hn hl hx hy hz T.length 0 (by omega) (fun j hj => absurd hj (Nat.not_lt_zero _))
end HF
