section HL
variable {n : Nat} {xs : Nat → Int32} {f : Nat → Int32} {a : Nat → Nat → Int32} {o : Nat → Int64} {d k s : Nat}
theorem q_fill_l {x : Int32} : ∀ (t i : Nat) (g : Nat → Int32), i + t = 20 → (∀ j, j < i → g j = x) → ax_R d 107 5 [.ref 7, .int x, .int (nI i), .int (nI 20)] [] (hp n xs f (upda a 7 g) o) k s
    (ax_V (fun r h' => r = none ∧ ∃ g, h' = hp n xs f (upda a 7 g) o ∧ ∀ j, j < 20 → g j = x) k s) := by
  intro t
  induction t with
  | zero =>
    intro i g hi hg
    have hie : i = 20 := by omega
    subst hie
    refine ax_nx rfl rfl ?_
    refine ax_nx rfl rfl ?_
    refine ax_nx rfl rfl ?_
    exact ax_ret rfl rfl ⟨_, rfl, rfl, rfl, rfl, g, rfl, hg⟩
  | succ t ih =>
    intro i g hi hg
    refine ax_nx rfl rfl ?_
    refine ax_nx rfl rfl ?_
    refine ax_nxf rfl rfl (nI_ge (by omega) (by omega)) ?_
    refine ax_nx rfl rfl ?_
    refine ax_nx rfl rfl ?_
    refine ax_nx rfl rfl ?_
    refine ax_iasH (h2 := hp n xs f (upda a 7 (upd g i x)) o) rfl rfl (vp_in_nI (by omega) (by omega)) (by rw [nI_clamp (by omega)]; rfl) ?_
    refine ax_nx (al' := [.ref 7, .int x, .int (nI i + 1), .int (nI 20)]) rfl rfl ?_
    refine ax_nx rfl rfl ?_
    rw [nI_1]
    refine ih (i + 1) _ (by omega) (fun j hj => ?_)
    unfold upd
    by_cases hji : j = i
    · rw [if_pos hji]
    · rw [if_neg hji]
      exact hg j (by omega)
theorem q_fill {x : Int32} : ax_R d 107 0 (ax_in 107 [.ref 7, .int x]) [] (hp n xs f a o) k s (ax_V (fun r h' => r = none ∧ ∃ g, h' = hp n xs f (upda a 7 g) o ∧ ∀ j, j < 20 → g j = x) k s) := by
  refine ax_nx rfl rfl ?_
  refine ax_nx (al' := [.ref 7, .int x, .int (nI 0), ax_u]) rfl rfl ?_
  refine ax_nx rfl rfl ?_
  refine ax_nx rfl rfl ?_
  refine ax_nx (h' := hp n xs f (upda a 7 (a 7)) o) (al' := [.ref 7, .int x, .int (nI 0), .int (nI 20)]) rfl rfl ?_
  exact q_fill_l 20 0 (a 7) (by omega) (fun j hj => absurd hj (Nat.not_lt_zero _))
theorem q_Su_begin {x y : Int32} : ax_R (d + 1) 68 0 (ax_in 68 [.ref 6, .int x, .int y]) [] (hp n xs f a o) k s (ax_V (fun r h' => r = none ∧ ∃ g, h' = hp n xs (upd (upd f 5 x) 6 y) (upda a 7 g) o ∧ ∀ j, j < 20 → g j = -1) k s) := by
  refine ax_nx rfl rfl ?_
  refine ax_nx rfl rfl ?_
  refine ax_nx (h' := hp n xs (upd f 5 x) a o) rfl rfl ?_
  refine ax_nx rfl rfl ?_
  refine ax_nx rfl rfl ?_
  refine ax_nx (h' := hp n xs (upd (upd f 5 x) 6 y) a o) rfl rfl ?_
  refine ax_nx rfl rfl ?_
  refine ax_nx rfl rfl ?_
  refine ax_nx rfl rfl ?_
  refine ax_cal rfl rfl q_fill (fun r h' hh => ?_)
  obtain ⟨rfl, g, rfl, hg⟩ := hh
  exact ax_ret rfl rfl ⟨_, rfl, rfl, rfl, rfl, g, rfl, hg⟩
def dr_at (l : List (Nat × Nat × Bool)) (f : Nat → Int32) (a : Nat → Nat → Int32) : Prop := f 0 = nI l.length ∧ l.length ≤ 4 ∧ ∀ (i : Nat) (q : Nat × Nat × Bool), l[i]? = some q → a 3 i = nI q.1 ∧ a 4 i = nI q.2.1 ∧ a 5 i = bI q.2.2
theorem q_Dr_full {l : List (Nat × Nat × Bool)} (h : dr_at l f a) : ax_R d 59 0 (ax_in 59 [.ref 2]) [] (hp n xs f a o) k s (ax_V (fun r h' => r = some (.int (bI (decide (l.length = 4)))) ∧ h' = hp n xs f a o) k s) := by
  obtain ⟨h1, h2, -⟩ := h
  refine ax_nx rfl rfl ?_
  refine ax_nx rfl rfl ?_
  refine ax_nx rfl rfl ?_
  rcases Nat.lt_or_ge l.length 4 with hl | hl
  · refine ax_nxt rfl rfl (by rw [h1]; exact nI_lt (b := 4) hl (by omega)) ?_
    refine ax_nx rfl rfl ?_
    rw [decide_eq_false (by omega)]
    exact ax_retb rfl rfl (Or.inl rfl) ⟨_, rfl, rfl, rfl, rfl, rfl⟩
  · refine ax_nxf rfl rfl (by rw [h1]; exact nI_nlt (b := 4) hl (by omega)) ?_
    refine ax_nx rfl rfl ?_
    refine ax_nx rfl rfl ?_
    rw [decide_eq_true (by omega)]
    exact ax_retb rfl rfl (Or.inr rfl) ⟨_, rfl, rfl, rfl, rfl, rfl⟩
theorem q_Dr_add {l : List (Nat × Nat × Bool)} (h : dr_at l f a) (hl : l.length < 4) {p q : Nat} {e : Bool} : ax_R d 60 0 (ax_in 60 [.ref 2, .int (nI p), .int (nI q), .int (bI e)]) [] (hp n xs f a o) k s
    (ax_V (fun r h' => r = none ∧ ∃ f' a', h' = hp n xs f' a' o ∧ ag [0] [3, 4, 5] f a f' a' ∧ dr_at (l ++ [(p, q, e)]) f' a') k s) := by
  obtain ⟨h1, h2, h3⟩ := h
  refine ax_nx rfl rfl ?_
  refine ax_nx rfl rfl ?_
  refine ax_nx rfl rfl ?_
  refine ax_nx rfl rfl ?_
  refine ax_nx rfl rfl ?_
  rw [h1]
  refine ax_iasH (h2 := hp n xs f (upda a 3 (upd (a 3) l.length (nI p))) o) rfl rfl (vp_in_nI (by omega) (by omega)) (by rw [nI_clamp (by omega)]; rfl) ?_
  refine ax_nx rfl rfl ?_
  refine ax_nx rfl rfl ?_
  refine ax_nx rfl rfl ?_
  refine ax_nx rfl rfl ?_
  refine ax_nx rfl rfl ?_
  rw [h1]
  refine ax_iasH (h2 := hp n xs f (upda (upda a 3 (upd (a 3) l.length (nI p))) 4 (upd (a 4) l.length (nI q))) o) rfl rfl (vp_in_nI (by omega) (by omega)) (by rw [nI_clamp (by omega)]; rfl) ?_
  refine ax_nx rfl rfl ?_
  refine ax_nx rfl rfl ?_
  refine ax_nx rfl rfl ?_
  refine ax_nx rfl rfl ?_
  refine ax_nx rfl rfl ?_
  rw [h1]
  refine ax_basH (h2 := hp n xs f (upda (upda (upda a 3 (upd (a 3) l.length (nI p))) 4 (upd (a 4) l.length (nI q))) 5 (upd (a 5) l.length (bI e))) o) rfl rfl (vp_in_nI (by omega) (by omega)) (bI_01 e) (by rw [nI_clamp (by omega)]; rfl) ?_
  refine ax_nx rfl rfl ?_
  refine ax_nx rfl rfl ?_
  refine ax_nx rfl rfl ?_
  refine ax_nx rfl rfl ?_
  refine ax_nx rfl rfl ?_
  rw [h1]
  refine ax_top (y := nI (l.length + 1)) (nI_1 _) ?_
  refine ax_nx (h' := hp n xs (upd f 0 (nI (l.length + 1))) (upda (upda (upda a 3 (upd (a 3) l.length (nI p))) 4 (upd (a 4) l.length (nI q))) 5 (upd (a 5) l.length (bI e))) o) rfl rfl ?_
  refine ax_ret rfl rfl ⟨_, rfl, rfl, rfl, rfl, _, _, rfl, ?_, ?_⟩
  · refine ⟨fun j hj => if_neg (fun h9 => hj (by rw [h9]; exact List.mem_cons_self)), fun j hj => ?_⟩
    simp only [List.mem_cons, List.not_mem_nil, or_false, not_or] at hj
    simp [upda, hj]
  · refine ⟨by rw [List.length_append]; rfl, by simp; omega, fun i w hi => ?_⟩
    show upd (a 3) l.length (nI p) i = nI w.1 ∧ upd (a 4) l.length (nI q) i = nI w.2.1 ∧ upd (a 5) l.length (bI e) i = bI w.2.2
    rcases Nat.lt_or_ge i l.length with hil | hil
    · rw [List.getElem?_append_left hil] at hi
      obtain ⟨z1, z2, z3⟩ := h3 i w hi
      have hne : ¬ i = l.length := by omega
      exact ⟨(if_neg hne).trans z1, (if_neg hne).trans z2, (if_neg hne).trans z3⟩
    · have hi0 := tm_lt hi
      simp at hi0
      have hie : i = l.length := by omega
      subst hie
      rw [List.getElem?_append_right (Nat.le_refl _), Nat.sub_self] at hi
      cases hi
      exact ⟨if_pos rfl, if_pos rfl, if_pos rfl⟩
end HL
