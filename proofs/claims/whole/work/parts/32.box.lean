section HB
variable {n : Nat} {xs : Nat → Int32} {f : Nat → Int32} {a : Nat → Nat → Int32} {o : Nat → Int64} {d k s : Nat}
theorem q_Wo_pairs_l {v : Nat → Nat} {m : Nat} (hm : m < 8) (hv : ∀ i, i ≤ m → a 12 i = nI (v i) ∧ v i < 8) : ∀ (t i : Nat) (x : Int32), i + t = m → (∀ b, b < 32 → (bt x b = true ↔ ∃ j, j < i ∧ wl_pq j m = b ∧ v j = v m)) → ax_R (d + 2) 74 4 [.ref 11, .int (nI m), .int x, .int (nI i)] [] (hp n xs f a o) k s
    (ax_V (fun r h' => (∃ y : Int32, r = some (.int y) ∧ ∀ b, b < 32 → (bt y b = true ↔ ∃ j, j < m ∧ wl_pq j m = b ∧ v j = v m)) ∧ h' = hp n xs f a o) k s) := by
  intro t
  induction t with
  | zero =>
    intro i x hi hx
    have hie : i = m := by omega
    subst hie
    refine ax_nx rfl rfl ?_
    refine ax_nx rfl rfl ?_
    refine ax_nxt rfl rfl (nI_le (Nat.le_refl _) (by omega)) ?_
    refine ax_nx rfl rfl ?_
    exact ax_ret rfl rfl ⟨_, rfl, rfl, rfl, ⟨x, rfl, hx⟩, rfl⟩
  | succ t ih =>
    intro i x hi hx
    have him : i < m := by omega
    have next : ∀ y : Int32, (∀ b, b < 32 → (bt y b = true ↔ ∃ j, j < i + 1 ∧ wl_pq j m = b ∧ v j = v m)) → ax_R (d + 2) 74 32 [.ref 11, .int (nI m), .int y, .int (nI i)] [] (hp n xs f a o) k s
        (ax_V (fun r h' => (∃ y : Int32, r = some (.int y) ∧ ∀ b, b < 32 → (bt y b = true ↔ ∃ j, j < m ∧ wl_pq j m = b ∧ v j = v m)) ∧ h' = hp n xs f a o) k s) := by
      intro y hy
      refine ax_nx (al' := [.ref 11, .int (nI m), .int y, .int (nI i + 1)]) rfl rfl ?_
      refine ax_nx rfl rfl ?_
      rw [nI_1]
      exact ih (i + 1) y (by omega) hy
    refine ax_nx rfl rfl ?_
    refine ax_nx rfl rfl ?_
    refine ax_nxf rfl rfl (nI_ge him (by omega)) ?_
    refine ax_nx rfl rfl ?_
    refine ax_nx rfl rfl ?_
    refine ax_nx rfl rfl ?_
    refine ax_ia rfl rfl (vp_in_nI (by omega) (by omega)) ?_
    rw [nI_clamp (by omega), (hv i (by omega)).1]
    refine ax_nx rfl rfl ?_
    refine ax_nx rfl rfl ?_
    refine ax_nx rfl rfl ?_
    refine ax_ia rfl rfl (vp_in_nI (by omega) (by omega)) ?_
    rw [nI_clamp (by omega), (hv m (Nat.le_refl _)).1]
    have b1 := (hv i (by omega)).2
    have b2 := (hv m (Nat.le_refl _)).2
    refine ax_if rfl rfl (fun e1 => ?_) (fun e1 => ?_)
    · have e2 : v i = v m := (nI_eq (by omega) (by omega)).mp e1
      refine ax_nx rfl rfl ?_
      refine ax_nx rfl rfl ?_
      refine ax_nx rfl rfl ?_
      refine ax_cal rfl rfl (q_In_pair (by omega) hm) (fun r h' hh => ?_)
      obtain ⟨rfl, rfl⟩ := hh
      refine ax_nx rfl rfl ?_
      refine ax_nx (al' := [.ref 11, .int (nI m), .int (x ||| wl_bit i m), .int (nI i)]) rfl rfl ?_
      refine next _ (fun b hb => ?_)
      have hpq := wl_pq_lt i (by omega) m hm (by omega)
      rw [b_or, Bool.or_eq_true, hx b hb]
      unfold wl_bit
      rw [wl_bt _ (by omega) b hb, decide_eq_true_eq]
      constructor
      · rintro (⟨j, h1, h2, h3⟩ | h1)
        · exact ⟨j, by omega, h2, h3⟩
        · exact ⟨i, by omega, h1.symm, e2⟩
      · rintro ⟨j, h1, h2, h3⟩
        rcases Nat.lt_succ_iff_lt_or_eq.mp h1 with h4 | rfl
        · exact Or.inl ⟨j, h4, h2, h3⟩
        · exact Or.inr h2.symm
    · refine next x (fun b hb => (hx b hb).trans ?_)
      constructor
      · rintro ⟨j, h1, h2, h3⟩
        exact ⟨j, by omega, h2, h3⟩
      · rintro ⟨j, h1, h2, h3⟩
        rcases Nat.lt_succ_iff_lt_or_eq.mp h1 with h4 | rfl
        · exact ⟨j, h4, h2, h3⟩
        · exact absurd (by rw [h3]) e1
theorem q_Wo_pairs {v : Nat → Nat} {m : Nat} (hm : m < 8) (hv : ∀ i, i ≤ m → a 12 i = nI (v i) ∧ v i < 8) : ax_R (d + 2) 74 0 (ax_in 74 [.ref 11, .int (nI m)]) [] (hp n xs f a o) k s
    (ax_V (fun r h' => (∃ y : Int32, r = some (.int y) ∧ ∀ b, b < 32 → (bt y b = true ↔ ∃ j, j < m ∧ wl_pq j m = b ∧ v j = v m)) ∧ h' = hp n xs f a o) k s) := by
  refine ax_nx rfl rfl ?_
  refine ax_nx (al' := [.ref 11, .int (nI m), .int 0, ax_u]) rfl rfl ?_
  refine ax_nx rfl rfl ?_
  refine ax_nx (al' := [.ref 11, .int (nI m), .int 0, .int (nI 0)]) rfl rfl ?_
  refine q_Wo_pairs_l hm hv m 0 0 (by omega) (fun b hb => ?_)
  constructor
  · intro h9
    unfold bt at h9
    simp at h9
  · rintro ⟨j, h1, -⟩
    exact absurd h1 (Nat.not_lt_zero _)
end HB
