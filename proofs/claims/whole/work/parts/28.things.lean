def zt_at (K : tm_T) (Z : List Nat) (f : Nat → Int32) (a : Nat → Nat → Int32) : Prop := K.length ≤ 8 ∧ f 8 = nI K.length ∧ tb_at K (a 21) (a 22) (a 23) ∧ Z.length = K.length ∧ ∀ (i t : Nat), Z[i]? = some t → a 24 i = nI t
theorem zt_at.kept {K : tm_T} {Z : List Nat} {F A : List Nat} {f f' : Nat → Int32} {a a' : Nat → Nat → Int32} (h : zt_at K Z f a) (g : ag F A f a f' a') (h8 : 8 ∉ F) (hA : 21 ∉ A ∧ 22 ∉ A ∧ 23 ∉ A ∧ 24 ∉ A) : zt_at K Z f' a' := by
  obtain ⟨h1, h2, h3, h4, h5⟩ := h
  refine ⟨h1, by rw [g.1 8 h8]; exact h2, ?_, h4, ?_⟩
  · rw [g.2 21 hA.1, g.2 22 hA.2.1, g.2 23 hA.2.2.1]; exact h3
  · rw [g.2 24 hA.2.2.2]; exact h5
section HZ
variable {n : Nat} {xs : Nat → Int32} {f : Nat → Int32} {a : Nat → Nat → Int32} {o : Nat → Int64} {d k s : Nat}
theorem q_Th_foa {K : tm_T} {Z : List Nat} (h : zt_at K Z f a) {r x y z : Nat} (hx : x < 2 ^ 31) (hy : y < 2 ^ 31) (hz : z < 2 ^ 31) : ax_R (d + 1) 57 0 (ax_in 57 [.ref 20, .int (nI r), .int (nI x), .int (nI y), .int (nI z)]) [] (hp n xs f a o) k s
    (ax_V (fun v h' => ∃ f' a', h' = hp n xs f' a' o ∧ ag [8] [21, 22, 23, 24] f a f' a' ∧ ((∃ i, tm_fd K (x, y, z) = some i ∧ v = some (.int (nI i)) ∧ zt_at K Z f' a') ∨ (tm_fd K (x, y, z) = none ∧ K.length < 8 ∧ v = some (.int (nI K.length)) ∧ zt_at (K ++ [(x, y, z)]) (Z ++ [r]) f' a') ∨ (tm_fd K (x, y, z) = none ∧ K.length = 8 ∧ v = some (.int (-1)) ∧ zt_at K Z f' a'))) k s) := by
  obtain ⟨hl, h8, htb, hZl, hZ⟩ := id h
  refine ax_nx rfl rfl ?_
  refine ax_nx rfl rfl ?_
  refine ax_nx rfl rfl ?_
  refine ax_nx rfl rfl ?_
  refine ax_cal rfl rfl (q_find_Th htb h8 hl hx hy hz) (fun v h' hq => ?_)
  obtain ⟨rfl, rfl⟩ := hq
  cases hf : tm_fd K (x, y, z) with
  | some i =>
    have hi := tm_lt (tm_fd_some hf)
    refine ax_nx (al' := [.ref 20, .int (nI r), .int (nI x), .int (nI y), .int (nI z), .int (nI i), ax_u]) rfl rfl ?_
    refine ax_nx rfl rfl ?_
    refine ax_nx rfl rfl ?_
    refine ax_nxf rfl rfl (fun h9 => ?_) ?_
    · have := nI_pos (n := i) (by omega)
      rw [h9] at this
      exact this (by decide)
    refine ax_nx rfl rfl ?_
    exact ax_ret rfl rfl ⟨_, rfl, rfl, rfl, f, a, rfl, ag.rf, Or.inl ⟨i, rfl, rfl, h⟩⟩
  | none =>
    refine ax_nx (al' := [.ref 20, .int (nI r), .int (nI x), .int (nI y), .int (nI z), .int (-1), ax_u]) rfl rfl ?_
    refine ax_nx rfl rfl ?_
    refine ax_nx rfl rfl ?_
    refine ax_nx rfl rfl ?_
    refine ax_nx rfl rfl ?_
    refine ax_nx rfl rfl ?_
    refine ax_nx rfl rfl ?_
    refine ax_nx rfl rfl ?_
    rcases Nat.lt_or_ge K.length 8 with hlt | hge
    · refine ax_cal rfl rfl (q_add_Th h8 hlt) (fun v h' hq => ?_)
      obtain ⟨rfl, rfl⟩ := hq
      refine ax_nx (al' := [.ref 20, .int (nI r), .int (nI x), .int (nI y), .int (nI z), .int (-1), .int (nI K.length)]) rfl rfl ?_
      refine ax_nx rfl rfl ?_
      refine ax_nx rfl rfl ?_
      refine ax_nxf rfl rfl (fun h9 => ?_) ?_
      · have := nI_pos (n := K.length) (by omega)
        rw [h9] at this
        exact this (by decide)
      refine ax_nx rfl rfl ?_
      refine ax_nx rfl rfl ?_
      refine ax_nx rfl rfl ?_
      refine ax_nx rfl rfl ?_
      refine ax_iasH (h2 := hp n xs (upd f 8 (nI (K.length + 1))) (upda (upda (upda (upda a 21 (upd (a 21) K.length (nI x))) 22 (upd (a 22) K.length (nI y))) 23 (upd (a 23) K.length (nI z))) 24 (upd (a 24) K.length (nI r))) o) rfl rfl (vp_in_nI (by omega) (by omega)) (by rw [nI_clamp (by omega)]; rfl) ?_
      refine ax_nx rfl rfl ?_
      refine ax_ret rfl rfl ⟨_, rfl, rfl, rfl, _, _, rfl, ?_, Or.inr (Or.inl ⟨rfl, hlt, rfl, ?_⟩)⟩
      · refine ⟨fun j hj => if_neg (fun h9 => hj (by rw [h9]; exact List.mem_cons_self)), fun j hj => ?_⟩
        simp only [List.mem_cons, List.not_mem_nil, or_false, not_or] at hj
        simp [upda, hj]
      · refine ⟨by simp; omega, by rw [List.length_append]; rfl, htb.push hx hy hz, by simp [hZl], fun i t hi => ?_⟩
        show upd (a 24) K.length (nI r) i = nI t
        rcases Nat.lt_or_ge i Z.length with hil | hil
        · rw [List.getElem?_append_left hil] at hi
          exact (if_neg (by omega)).trans (hZ i t hi)
        · rw [List.getElem?_append_right hil] at hi
          have hi0 := tm_lt hi
          simp at hi0
          have hie : i = K.length := by omega
          subst hie
          have h0 : K.length - Z.length = 0 := by omega
          rw [h0] at hi
          cases hi
          exact if_pos rfl
    · have hL : K.length = 8 := by omega
      refine ax_cal rfl rfl (q_add_Th_full (by rw [h8, hL])) (fun v h' hq => ?_)
      obtain ⟨rfl, rfl⟩ := hq
      refine ax_nx (al' := [.ref 20, .int (nI r), .int (nI x), .int (nI y), .int (nI z), .int (-1), .int (-1)]) rfl rfl ?_
      refine ax_nx rfl rfl ?_
      refine ax_nx rfl rfl ?_
      refine ax_nx rfl rfl ?_
      refine ax_nx rfl rfl ?_
      exact ax_ret rfl rfl ⟨_, rfl, rfl, rfl, f, a, rfl, ag.rf, Or.inr (Or.inr ⟨rfl, hL, rfl, h⟩)⟩
end HZ
