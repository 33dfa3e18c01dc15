def nd_at (l : wl_L) (f : Nat → Int32) : Prop := f 2 = wl_E true l ∧ f 3 = wl_E false l ∧ f 4 = bI (wl_A l)
section HJ
variable {n : Nat} {xs : Nat → Int32} {f : Nat → Int32} {a : Nat → Nat → Int32} {o : Nat → Int64} {d k s : Nat}
theorem nd_begin : nd_at [] (upd (upd (upd f 2 0) 3 0) 4 0) := ⟨rfl, rfl, rfl⟩
theorem q_In_join {l : wl_L} (h : nd_at l f) {p q : Nat} (hp8 : p < 8) (hq8 : q < 8) (e : Bool) : ax_R (d + 2) 39 0 (ax_in 39 [.ref 8, .int (nI p), .int (nI q), .int (bI e)]) [] (hp n xs f a o) k s (ax_V (fun v h' => v = none ∧ ∃ f', h' = hp n xs f' a o ∧ ag [2, 3, 4] [] f a f' a ∧ nd_at (l ++ [(p, q, e)]) f') k s) := by
  obtain ⟨h2, h3, h4⟩ := h
  refine ax_nx rfl rfl ?_
  refine ax_nx rfl rfl ?_
  by_cases hpq : p = q
  · subst hpq
    refine ax_nxt rfl rfl rfl ?_
    have ea : wl_A (l ++ [(p, p, e)]) = (wl_A l || e) := by rw [wl_A_app]; simp
    have e1 : ∀ b, wl_E b (l ++ [(p, p, e)]) = wl_E b l := fun b => by
      rw [wl_E_app]
      exact if_neg (fun h9 => h9.1 rfl)
    have fin : ∀ g : Int32, g = bI (wl_A l || e) → ax_R (d + 2) 39 22 [.ref 8, .int (nI p), .int (nI p), .int (bI e)] [.int g, .ref 8] (hp n xs f a o) k s (ax_V (fun v h' => v = none ∧ ∃ f', h' = hp n xs f' a o ∧ ag [2, 3, 4] [] f a f' a ∧ nd_at (l ++ [(p, p, e)]) f') k s) := by
      intro g hg
      have hg01 := bI_01 (wl_A l || e)
      rw [← hg] at hg01
      rcases hg01 with rfl | rfl
      · refine ax_nx (h' := hp n xs (upd f 4 0) a o) rfl rfl ?_
        refine ax_nx rfl rfl ?_
        refine ax_ret rfl rfl ⟨_, rfl, rfl, rfl, rfl, _, rfl, (ag.f1 (A := [])).wide (by simp) (by simp), ?_, ?_, ?_⟩
        · rw [e1]; exact h2
        · rw [e1]; exact h3
        · rw [ea]; exact hg
      · refine ax_nx (h' := hp n xs (upd f 4 1) a o) rfl rfl ?_
        refine ax_nx rfl rfl ?_
        refine ax_ret rfl rfl ⟨_, rfl, rfl, rfl, rfl, _, rfl, (ag.f1 (A := [])).wide (by simp) (by simp), ?_, ?_, ?_⟩
        · rw [e1]; exact h2
        · rw [e1]; exact h3
        · rw [ea]; exact hg
    refine ax_nx rfl rfl ?_
    refine ax_nx rfl rfl ?_
    refine ax_nx rfl rfl ?_
    rw [h4]
    cases hA : wl_A l with
    | true =>
      rw [hA] at fin
      refine ax_nx rfl rfl ?_
      refine ax_nx rfl rfl ?_
      refine ax_nx rfl rfl ?_
      exact fin _ rfl
    | false =>
      rw [hA] at fin
      refine ax_nx rfl rfl ?_
      refine ax_nx rfl rfl ?_
      cases e with
      | true =>
        refine ax_nx rfl rfl ?_
        refine ax_nx rfl rfl ?_
        refine ax_nx rfl rfl ?_
        exact fin _ rfl
      | false =>
        refine ax_nx rfl rfl ?_
        refine ax_nx rfl rfl ?_
        exact fin _ rfl
  · refine ax_nxf rfl rfl (fun h9 => hpq ((nI_eq (by omega) (by omega)).mp h9)) ?_
    have ea : wl_A (l ++ [(p, q, e)]) = wl_A l := by rw [wl_A_app]; simp [hpq]
    refine ax_nx rfl rfl ?_
    cases e with
    | true =>
      refine ax_nx rfl rfl ?_
      refine ax_nx rfl rfl ?_
      refine ax_nx rfl rfl ?_
      refine ax_nx rfl rfl ?_
      refine ax_nx rfl rfl ?_
      refine ax_nx rfl rfl ?_
      refine ax_cal rfl rfl (q_In_pair hp8 hq8) (fun v h' hh => ?_)
      obtain ⟨rfl, rfl⟩ := hh
      refine ax_nx rfl rfl ?_
      refine ax_nx (h' := hp n xs (upd f 2 (f 2 ||| wl_bit p q)) a o) rfl rfl ?_
      refine ax_nx rfl rfl ?_
      refine ax_ret rfl rfl ⟨_, rfl, rfl, rfl, rfl, _, rfl, (ag.f1 (A := [])).wide (by simp) (by simp), ?_, ?_, ?_⟩
      · rw [wl_E_app, ← h2]
        exact (if_pos ⟨hpq, rfl⟩).symm
      · rw [wl_E_app, ← h3]
        exact (if_neg (fun h9 => by cases h9.2)).symm
      · rw [ea]; exact h4
    | false =>
      refine ax_nx rfl rfl ?_
      refine ax_nx rfl rfl ?_
      refine ax_nx rfl rfl ?_
      refine ax_nx rfl rfl ?_
      refine ax_nx rfl rfl ?_
      refine ax_nx rfl rfl ?_
      refine ax_cal rfl rfl (q_In_pair hp8 hq8) (fun v h' hh => ?_)
      obtain ⟨rfl, rfl⟩ := hh
      refine ax_nx rfl rfl ?_
      refine ax_nx (h' := hp n xs (upd f 3 (f 3 ||| wl_bit p q)) a o) rfl rfl ?_
      refine ax_ret rfl rfl ⟨_, rfl, rfl, rfl, rfl, _, rfl, (ag.f1 (A := [])).wide (by simp) (by simp), ?_, ?_, ?_⟩
      · rw [wl_E_app, ← h2]
        exact (if_neg (fun h9 => by cases h9.2)).symm
      · rw [wl_E_app, ← h3]
        exact (if_pos ⟨hpq, rfl⟩).symm
      · rw [ea]; exact h4
end HJ
