def ci_at (P : List (Int32 × Int32)) (f : Nat → Int32) (a : Nat → Nat → Int32) : Prop := f 1 = nI P.length ∧ P.length ≤ 257 ∧ ∀ (i : Nat) (p : Int32 × Int32), P[i]? = some p → a 9 i = p.1 ∧ a 10 i = p.2
section HI
variable {n : Nat} {xs : Nat → Int32} {f : Nat → Int32} {a : Nat → Nat → Int32} {o : Nat → Int64} {d k s : Nat}
theorem ci_at.take {P : List (Int32 × Int32)} {m : Nat} (h : ci_at P f a) (hm : m ≤ P.length) : ci_at (P.take m) (upd f 1 (nI m)) a := by
  obtain ⟨-, h2, h3⟩ := h
  have hlen : (P.take m).length = m := by rw [List.length_take]; omega
  refine ⟨by rw [hlen]; rfl, by omega, fun i p hi => ?_⟩
  have hil : i < m := by have := tm_lt hi; omega
  rw [List.getElem?_take, if_pos hil] at hi
  exact h3 i p hi
theorem q_In_finish {l : wl_L} {P : List (Int32 × Int32)} (h : nd_at l f) (hc : ci_at P f a) (hP : P.length < 257) : ax_R d 40 0 (ax_in 40 [.ref 8]) [] (hp n xs f a o) k s (ax_V (fun v h' => v = none ∧ ∃ f' a', h' = hp n xs f' a' o ∧ ag [1] [9, 10] f a f' a' ∧ ci_at (P ++ (wl_kp l).toList) f' a') k s) := by
  obtain ⟨h2, h3, h4⟩ := h
  obtain ⟨c1, c2, c3⟩ := id hc
  refine ax_nx rfl rfl ?_
  refine ax_nx rfl rfl ?_
  rw [h4]
  have out : wl_kp l = none → ax_R d 40 29 [.ref 8] [] (hp n xs f a o) k s (ax_V (fun v h' => v = none ∧ ∃ f' a', h' = hp n xs f' a' o ∧ ag [1] [9, 10] f a f' a' ∧ ci_at (P ++ (wl_kp l).toList) f' a') k s) := fun hk =>
    ax_ret rfl rfl ⟨_, rfl, rfl, rfl, rfl, f, a, rfl, ag.rf, by rw [hk]; simpa using hc⟩
  cases hA : wl_A l with
  | true =>
    refine ax_nx rfl rfl ?_
    exact out (if_pos (Or.inl hA))
  | false =>
    refine ax_nx rfl rfl ?_
    refine ax_nx rfl rfl ?_
    refine ax_nx rfl rfl ?_
    refine ax_nx rfl rfl ?_
    refine ax_nx rfl rfl ?_
    refine ax_nx rfl rfl ?_
    refine ax_if rfl rfl (fun h0 => ?_) (fun h0 => ?_)
    rotate_left
    · exact out (if_pos (Or.inr (by rw [← h2, ← h3]; exact h0)))
    have hk : wl_kp l = some (f 2, f 3) := by
      unfold wl_kp
      rw [if_neg, h2, h3]
      rintro (h9 | h9)
      · rw [hA] at h9; cases h9
      · exact h9 (by rw [← h2, ← h3]; exact h0)
    refine ax_nx rfl rfl ?_
    refine ax_nx rfl rfl ?_
    refine ax_nx rfl rfl ?_
    refine ax_nxt rfl rfl (by rw [c1]; exact nI_lt (b := 257) hP (by omega)) ?_
    refine ax_nx rfl rfl ?_
    refine ax_nx rfl rfl ?_
    refine ax_nx rfl rfl ?_
    refine ax_nx rfl rfl ?_
    refine ax_nx rfl rfl ?_
    refine ax_nx rfl rfl ?_
    rw [c1]
    refine ax_iasH (h2 := hp n xs f (upda a 9 (upd (a 9) P.length (f 2))) o) rfl rfl (vp_in_nI (by omega) (by omega)) (by rw [nI_clamp (by omega)]; rfl) ?_
    refine ax_nx rfl rfl ?_
    refine ax_nx rfl rfl ?_
    refine ax_nx rfl rfl ?_
    refine ax_nx rfl rfl ?_
    refine ax_nx rfl rfl ?_
    refine ax_nx rfl rfl ?_
    rw [c1]
    refine ax_iasH (h2 := hp n xs f (upda (upda a 9 (upd (a 9) P.length (f 2))) 10 (upd (a 10) P.length (f 3))) o) rfl rfl (vp_in_nI (by omega) (by omega)) (by rw [nI_clamp (by omega)]; rfl) ?_
    refine ax_nx rfl rfl ?_
    refine ax_nx rfl rfl ?_
    refine ax_nx rfl rfl ?_
    refine ax_nx rfl rfl ?_
    refine ax_nx rfl rfl ?_
    rw [c1]
    refine ax_top (y := nI (P.length + 1)) (nI_1 _) ?_
    refine ax_nx (h' := hp n xs (upd f 1 (nI (P.length + 1))) (upda (upda a 9 (upd (a 9) P.length (f 2))) 10 (upd (a 10) P.length (f 3))) o) rfl rfl ?_
    refine ax_ret rfl rfl ⟨_, rfl, rfl, rfl, rfl, _, _, rfl, ?_, ?_⟩
    · refine ⟨fun j hj => if_neg (fun h9 => hj (by rw [h9]; exact List.mem_cons_self)), fun j hj => ?_⟩
      simp only [List.mem_cons, List.not_mem_nil, or_false, not_or] at hj
      simp [upda, hj]
    · rw [hk]
      refine ⟨by rw [List.length_append]; rfl, by simp; omega, fun i p hi => ?_⟩
      show upd (a 9) P.length (f 2) i = p.1 ∧ upd (a 10) P.length (f 3) i = p.2
      rcases Nat.lt_or_ge i P.length with hil | hil
      · rw [List.getElem?_append_left hil] at hi
        have hne : ¬ i = P.length := by omega
        exact ⟨(if_neg hne).trans (c3 i p hi).1, (if_neg hne).trans (c3 i p hi).2⟩
      · have hi0 := tm_lt hi
        simp at hi0
        have hie : i = P.length := by omega
        subst hie
        rw [List.getElem?_append_right (Nat.le_refl _), Nat.sub_self] at hi
        cases hi
        exact ⟨if_pos rfl, if_pos rfl⟩
def cH (x y : Int32) (P : List (Int32 × Int32)) : Prop := ∀ p, p ∈ P → ¬ (x &&& p.1 = 0 ∧ y &&& p.2 = 0)
theorem q_In_can_l {P : List (Int32 × Int32)} (hc : ci_at P f a) {x y : Int32} : ∀ (m i : Nat), i + m = P.length → ax_R d 36 2 [.ref 8, .int x, .int y, .int (nI i)] [] (hp n xs f a o) k s (ax_V (fun v h' => (∃ b : Bool, v = some (.int (bI b)) ∧ (b = true ↔ cH x y (P.drop i))) ∧ h' = hp n xs f a o) k s) := by
  obtain ⟨c1, c2, c3⟩ := id hc
  intro m
  induction m with
  | zero =>
    intro i hi
    refine ax_nx rfl rfl ?_
    refine ax_nx rfl rfl ?_
    refine ax_nx rfl rfl ?_
    refine ax_nxt rfl rfl (by rw [c1]; exact nI_le (by omega) (by omega)) ?_
    refine ax_nx rfl rfl ?_
    refine ax_retb rfl rfl (Or.inr rfl) ⟨_, rfl, rfl, rfl, ⟨true, rfl, iff_of_true rfl ?_⟩, rfl⟩
    rw [List.drop_eq_nil_of_le (by omega)]
    exact fun p hp9 => by cases hp9
  | succ m ih =>
    intro i hi
    have hil : i < P.length := by omega
    have hd : P.drop i = P[i] :: P.drop (i + 1) := List.drop_eq_getElem_cons hil
    obtain ⟨q1, q2⟩ := c3 i _ (List.getElem?_eq_getElem hil)
    rw [hd]
    generalize P[i] = p at q1 q2
    have hcl : (nI i).toNatClampNeg = i := nI_clamp (by omega)
    have next : ¬ (x &&& p.1 = 0 ∧ y &&& p.2 = 0) → ax_R d 36 34 [.ref 8, .int x, .int y, .int (nI i)] [] (hp n xs f a o) k s (ax_V (fun v h' => (∃ b : Bool, v = some (.int (bI b)) ∧ (b = true ↔ cH x y (p :: P.drop (i + 1)))) ∧ h' = hp n xs f a o) k s) := by
      intro hne
      refine ax_nx (al' := [.ref 8, .int x, .int y, .int (nI i + 1)]) rfl rfl ?_
      refine ax_nx rfl rfl ?_
      rw [nI_1]
      refine (ih (i + 1) (by omega)).mono ?_
      rintro o1 h1 k1 s1 ⟨v, e1, e2, e3, ⟨b, e4, e5⟩, e6⟩
      refine ⟨v, e1, e2, e3, ⟨b, e4, e5.trans ⟨fun h9 p9 hp9 => ?_, fun h9 p9 hp9 => h9 p9 (List.mem_cons_of_mem _ hp9)⟩⟩, e6⟩
      rcases List.mem_cons.mp hp9 with rfl | hp9
      · exact hne
      · exact h9 p9 hp9
    refine ax_nx rfl rfl ?_
    refine ax_nx rfl rfl ?_
    refine ax_nx rfl rfl ?_
    refine ax_nxf rfl rfl (by rw [c1]; exact fun h => by have := (nI_leI (by omega) (by omega)).mp h; omega) ?_
    refine ax_nx rfl rfl ?_
    refine ax_nx rfl rfl ?_
    refine ax_nx rfl rfl ?_
    refine ax_nx rfl rfl ?_
    refine ax_ia rfl rfl (vp_in_nI (by omega) (by omega)) ?_
    rw [hcl, q1]
    refine ax_nx rfl rfl ?_
    refine ax_if rfl rfl (fun e1 => ?_) (fun e1 => ?_)
    rotate_left
    · exact next (fun h => e1 h.1)
    refine ax_nx rfl rfl ?_
    refine ax_nx rfl rfl ?_
    refine ax_nx rfl rfl ?_
    refine ax_nx rfl rfl ?_
    refine ax_ia rfl rfl (vp_in_nI (by omega) (by omega)) ?_
    rw [hcl, q2]
    refine ax_nx rfl rfl ?_
    refine ax_if rfl rfl (fun e2 => ?_) (fun e2 => ?_)
    rotate_left
    · exact next (fun h => e2 h.2)
    refine ax_nx rfl rfl ?_
    exact ax_retb rfl rfl (Or.inl rfl) ⟨_, rfl, rfl, rfl, ⟨false, rfl, iff_of_false (by decide) (fun h9 => h9 p List.mem_cons_self ⟨e1, e2⟩)⟩, rfl⟩
theorem q_In_can {P : List (Int32 × Int32)} (hc : ci_at P f a) {x y : Int32} : ax_R d 36 0 (ax_in 36 [.ref 8, .int x, .int y]) [] (hp n xs f a o) k s (ax_V (fun v h' => (∃ b : Bool, v = some (.int (bI b)) ∧ (b = true ↔ cH x y P)) ∧ h' = hp n xs f a o) k s) := by
  refine ax_nx rfl rfl ?_
  refine ax_nx (al' := [.ref 8, .int x, .int y, .int (nI 0)]) rfl rfl ?_
  exact q_In_can_l hc P.length 0 (by omega)
end HI
