section HW
variable {n : Nat} {xs : Nat → Int32} {f : Nat → Int32} {a : Nat → Nat → Int32} {o : Nat → Int64} {d k s : Nat}
theorem q_Mo_lowest_l : ∀ (t i : Nat) (g : Nat → Int32), i + t = 8 → (∀ j, j < i → g j = 0) → ax_R d 20 2 [.ref 25, .int (nI i)] [] (hp n xs f (upda a 43 g) o) k s
    (ax_V (fun r h' => r = none ∧ ∃ g, h' = hp n xs f (upda a 43 g) o ∧ ∀ j, j < 8 → g j = 0) k s) := by
  intro t
  induction t with
  | zero =>
    intro i g hi hg
    have hie : i = 8 := by omega
    subst hie
    refine ax_nx rfl rfl ?_
    refine ax_nx rfl rfl ?_
    refine ax_nx rfl rfl ?_
    exact ax_ret rfl rfl ⟨_, rfl, rfl, rfl, rfl, g, rfl, hg⟩
  | succ t ih =>
    intro i g hi hg
    refine ax_nx rfl rfl ?_
    refine ax_nx rfl rfl ?_
    refine ax_nxf rfl rfl (nI_ge (b := 8) (by omega) (by omega)) ?_
    refine ax_nx rfl rfl ?_
    refine ax_nx rfl rfl ?_
    refine ax_nx rfl rfl ?_
    refine ax_nx rfl rfl ?_
    refine ax_iasH (h2 := hp n xs f (upda a 43 (upd g i 0)) o) rfl rfl (vp_in_nI (by omega) (by omega)) (by rw [nI_clamp (by omega)]; rfl) ?_
    refine ax_nx (al' := [.ref 25, .int (nI i + 1)]) rfl rfl ?_
    refine ax_nx rfl rfl ?_
    rw [nI_1]
    refine ih (i + 1) _ (by omega) (fun j hj => ?_)
    unfold upd
    by_cases hji : j = i
    · rw [if_pos hji]
    · rw [if_neg hji]
      exact hg j (by omega)
theorem q_Mo_lowest : ax_R d 20 0 (ax_in 20 [.ref 25]) [] (hp n xs f a o) k s (ax_V (fun r h' => r = none ∧ ∃ g, h' = hp n xs f (upda a 43 g) o ∧ ∀ j, j < 8 → g j = 0) k s) := by
  refine ax_nx rfl rfl ?_
  refine ax_nx (h' := hp n xs f (upda a 43 (a 43)) o) (al' := [.ref 25, .int (nI 0)]) rfl rfl ?_
  exact q_Mo_lowest_l 8 0 (a 43) (by omega) (fun j hj => absurd hj (Nat.not_lt_zero _))
end HW
