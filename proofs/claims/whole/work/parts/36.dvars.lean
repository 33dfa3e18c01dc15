def dv (V : Nat → Nat) (x : Nat) (l : List (Nat × Nat × Bool)) : Nat := l.foldl (fun x q => x ||| (V q.1 ||| V q.2.1)) x
section HD
variable {n : Nat} {xs : Nat → Int32} {f : Nat → Int32} {a : Nat → Nat → Int32} {o : Nat → Int64} {d k s : Nat}
theorem q_Dr_vars_l {c : Nat} {T : tm_T} {l : List (Nat × Nat × Bool)} (hc : ct_at c T f a) (h : dr_at l f a) (hin : ∀ q, q ∈ l → q.1 < T.length ∧ q.2.1 < T.length) : ∀ (t i x : Nat), i + t = l.length → ax_R (d + 1) 62 4 [.ref 2, .ref 15, .int (nI x), .int (nI i)] [] (hp n xs f a o) k s
    (ax_V (fun r h' => r = some (.int (nI (dv (tm_V T) x (l.drop i)))) ∧ h' = hp n xs f a o) k s) := by
  obtain ⟨h1, h2, h3⟩ := h
  obtain ⟨-, hl, -, -, hV⟩ := hc
  intro t
  induction t with
  | zero =>
    intro i x hi
    refine ax_nx rfl rfl ?_
    refine ax_nx rfl rfl ?_
    refine ax_nx rfl rfl ?_
    refine ax_nxt rfl rfl (by rw [h1]; exact nI_le (by omega) (by omega)) ?_
    refine ax_nx rfl rfl ?_
    rw [List.drop_eq_nil_of_le (by omega)]
    exact ax_ret rfl rfl ⟨_, rfl, rfl, rfl, rfl, rfl⟩
  | succ t ih =>
    intro i x hi
    have hil : i < l.length := by omega
    have hd : l.drop i = l[i] :: l.drop (i + 1) := List.drop_eq_getElem_cons hil
    obtain ⟨z1, z2, z3⟩ := h3 i _ (List.getElem?_eq_getElem hil)
    obtain ⟨y1, y2⟩ := hin _ (List.getElem_mem hil)
    rw [hd]
    generalize l[i] = q at z1 z2 z3 y1 y2
    refine ax_nx rfl rfl ?_
    refine ax_nx rfl rfl ?_
    refine ax_nx rfl rfl ?_
    refine ax_nxf rfl rfl (by rw [h1]; exact nI_ge hil (by omega)) ?_
    refine ax_nx rfl rfl ?_
    refine ax_nx rfl rfl ?_
    refine ax_nx rfl rfl ?_
    refine ax_nx rfl rfl ?_
    refine ax_nx rfl rfl ?_
    refine ax_ia rfl rfl (vp_in_nI (by omega) (by omega)) ?_
    rw [nI_clamp (by omega), z1]
    refine ax_cal rfl rfl (q_Te_vars (by omega)) (fun r h' hh => ?_)
    obtain ⟨rfl, rfl⟩ := hh
    rw [hV _ y1]
    refine ax_nx rfl rfl ?_
    refine ax_nx rfl rfl ?_
    refine ax_nx rfl rfl ?_
    refine ax_nx rfl rfl ?_
    refine ax_ia rfl rfl (vp_in_nI (by omega) (by omega)) ?_
    rw [nI_clamp (by omega), z2]
    refine ax_cal rfl rfl (q_Te_vars (by omega)) (fun r h' hh => ?_)
    obtain ⟨rfl, rfl⟩ := hh
    rw [hV _ y2]
    refine ax_nx rfl rfl ?_
    refine ax_nx rfl rfl ?_
    refine ax_top (y := nI (x ||| (tm_V T q.1 ||| tm_V T q.2.1))) (by rw [← nI_or, ← nI_or]) ?_
    refine ax_nx (al' := [.ref 2, .ref 15, .int (nI (x ||| (tm_V T q.1 ||| tm_V T q.2.1))), .int (nI i)]) rfl rfl ?_
    refine ax_nx (al' := [.ref 2, .ref 15, .int (nI (x ||| (tm_V T q.1 ||| tm_V T q.2.1))), .int (nI i + 1)]) rfl rfl ?_
    refine ax_nx rfl rfl ?_
    rw [nI_1]
    exact ih (i + 1) _ (by omega)
theorem q_Dr_vars {c : Nat} {T : tm_T} {l : List (Nat × Nat × Bool)} (hc : ct_at c T f a) (h : dr_at l f a) (hin : ∀ q, q ∈ l → q.1 < T.length ∧ q.2.1 < T.length) : ax_R (d + 1) 62 0 (ax_in 62 [.ref 2, .ref 15]) [] (hp n xs f a o) k s
    (ax_V (fun r h' => r = some (.int (nI (dv (tm_V T) 0 l))) ∧ h' = hp n xs f a o) k s) := by
  refine ax_nx rfl rfl ?_
  refine ax_nx (al' := [.ref 2, .ref 15, .int (nI 0), ax_u]) rfl rfl ?_
  refine ax_nx rfl rfl ?_
  refine ax_nx (al' := [.ref 2, .ref 15, .int (nI 0), .int (nI 0)]) rfl rfl ?_
  exact q_Dr_vars_l hc h hin l.length 0 0 (by omega)
end HD
