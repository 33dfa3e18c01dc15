section HR
variable {n : Nat} {xs : Nat → Int32} {f : Nat → Int32} {a : Nat → Nat → Int32} {o : Nat → Int64} {d k s : Nat}
def ks_at (m : Nat) (kd fi se : Nat → Nat) (a : Nat → Nat → Int32) : Prop := ∀ j, j ≤ m → a 21 j = nI (kd j) ∧ a 22 j = nI (fi j) ∧ a 23 j = nI (se j) ∧ kd j < 8 ∧ fi j ≤ m ∧ se j ≤ m
theorem q_Wo_resp_l {v kd fi se : Nat → Nat} {m : Nat} (hm : m < 8) (hK : ks_at m kd fi se a) (hv : ∀ i, i ≤ m → a 12 i = nI (v i) ∧ v i < 8) (h0 : ¬ kd m = 0) : ∀ (t i : Nat), i + t = m → (∀ j, j < i → kd j = kd m → v (fi j) = v (fi m) → v (se j) = v (se m) → v j = v m) → ax_R (d + 1) 75 15 [.ref 11, .int (nI m), .ref 20, .int (nI (kd m)), .int (nI i)] [] (hp n xs f a o) k s
    (ax_V (fun r h' => (∃ b : Bool, r = some (.int (bI b)) ∧ (b = true ↔ wl_rb kd fi se v m)) ∧ h' = hp n xs f a o) k s) := by
  intro t
  obtain ⟨m1, m2, m3, m4, m5, m6⟩ := hK m (Nat.le_refl _)
  have lab : ∀ i, i ≤ m → (nI i).toNatClampNeg = i := fun i hi => nI_clamp (by omega)
  have vin : ∀ i, i ≤ m → vp_in (nI i) 8 := fun i hi => vp_in_nI (by omega) (by omega)
  have veq : ∀ i j, i ≤ m → j ≤ m → nI (v i) = nI (v j) → v i = v j := fun i j hi hj h9 => (nI_eq (by have := (hv i hi).2; omega) (by have := (hv j hj).2; omega)).mp h9
  induction t with
  | zero =>
    intro i hi hno
    have hie : i = m := by omega
    subst hie
    refine ax_nx rfl rfl ?_
    refine ax_nx rfl rfl ?_
    refine ax_nxt rfl rfl (nI_le (Nat.le_refl _) (by omega)) ?_
    refine ax_nx rfl rfl ?_
    exact ax_retb rfl rfl (Or.inr rfl) ⟨_, rfl, rfl, rfl, ⟨true, rfl, iff_of_true rfl (Or.inr hno)⟩, rfl⟩
  | succ t ih =>
    intro i hi hno
    have him : i < m := by omega
    obtain ⟨i1, i2, i3, i4, i5, i6⟩ := hK i (by omega)
    have next : (kd i = kd m → v (fi i) = v (fi m) → v (se i) = v (se m) → v i = v m) → ax_R (d + 1) 75 97 [.ref 11, .int (nI m), .ref 20, .int (nI (kd m)), .int (nI i)] [] (hp n xs f a o) k s
        (ax_V (fun r h' => (∃ b : Bool, r = some (.int (bI b)) ∧ (b = true ↔ wl_rb kd fi se v m)) ∧ h' = hp n xs f a o) k s) := by
      intro hne
      refine ax_nx (al' := [.ref 11, .int (nI m), .ref 20, .int (nI (kd m)), .int (nI i + 1)]) rfl rfl ?_
      refine ax_nx rfl rfl ?_
      rw [nI_1]
      refine ih (i + 1) (by omega) (fun j hj => ?_)
      rcases Nat.lt_succ_iff_lt_or_eq.mp hj with hj | rfl
      · exact hno j hj
      · exact hne
    refine ax_nx rfl rfl ?_
    refine ax_nx rfl rfl ?_
    refine ax_nxf rfl rfl (nI_ge him (by omega)) ?_
    refine ax_nx rfl rfl ?_
    refine ax_nx rfl rfl ?_
    refine ax_cal rfl rfl (q_kind_Th (by omega)) (fun r h' hh => ?_)
    obtain ⟨rfl, rfl⟩ := hh
    rw [i1]
    refine ax_nx rfl rfl ?_
    refine ax_if rfl rfl (fun e1 => ?_) (fun e1 => ?_)
    rotate_left
    · exact next (fun h9 => absurd (by rw [h9]) e1)
    refine ax_nx rfl rfl ?_
    refine ax_nx rfl rfl ?_
    refine ax_nx rfl rfl ?_
    refine ax_nx rfl rfl ?_
    refine ax_cal rfl rfl (q_first_Th (by omega)) (fun r h' hh => ?_)
    obtain ⟨rfl, rfl⟩ := hh
    rw [i2]
    refine ax_ia rfl rfl (vin _ i5) ?_
    rw [lab _ i5, (hv _ i5).1]
    refine ax_nx rfl rfl ?_
    refine ax_nx rfl rfl ?_
    refine ax_nx rfl rfl ?_
    refine ax_nx rfl rfl ?_
    refine ax_cal rfl rfl (q_first_Th (by omega)) (fun r h' hh => ?_)
    obtain ⟨rfl, rfl⟩ := hh
    rw [m2]
    refine ax_ia rfl rfl (vin _ m5) ?_
    rw [lab _ m5, (hv _ m5).1]
    refine ax_if rfl rfl (fun e_fi => ?_) (fun e_fi => ?_)
    rotate_left
    · exact next (fun _ h9 _ => absurd (by rw [h9]) e_fi)
    refine ax_nx rfl rfl ?_
    refine ax_nx rfl rfl ?_
    refine ax_nx rfl rfl ?_
    refine ax_nx rfl rfl ?_
    refine ax_cal rfl rfl (q_second_Th (by omega)) (fun r h' hh => ?_)
    obtain ⟨rfl, rfl⟩ := hh
    rw [i3]
    refine ax_ia rfl rfl (vin _ i6) ?_
    rw [lab _ i6, (hv _ i6).1]
    refine ax_nx rfl rfl ?_
    refine ax_nx rfl rfl ?_
    refine ax_nx rfl rfl ?_
    refine ax_nx rfl rfl ?_
    refine ax_cal rfl rfl (q_second_Th (by omega)) (fun r h' hh => ?_)
    obtain ⟨rfl, rfl⟩ := hh
    rw [m3]
    refine ax_ia rfl rfl (vin _ m6) ?_
    rw [lab _ m6, (hv _ m6).1]
    refine ax_if rfl rfl (fun e_se => ?_) (fun e_se => ?_)
    rotate_left
    · exact next (fun _ _ h9 => absurd (by rw [h9]) e_se)
    refine ax_nx rfl rfl ?_
    refine ax_nx rfl rfl ?_
    refine ax_nx rfl rfl ?_
    refine ax_ia rfl rfl (vin _ (by omega)) ?_
    rw [lab _ (by omega), (hv _ (by omega)).1]
    refine ax_nx rfl rfl ?_
    refine ax_nx rfl rfl ?_
    refine ax_nx rfl rfl ?_
    refine ax_ia rfl rfl (vin _ (Nat.le_refl _)) ?_
    rw [lab _ (Nat.le_refl _), (hv _ (Nat.le_refl _)).1]
    refine ax_if rfl rfl (fun e4 => ?_) (fun e4 => ?_)
    · exact next (fun _ _ _ => veq _ _ (by omega) (Nat.le_refl _) e4)
    refine ax_nx rfl rfl ?_
    refine ax_retb rfl rfl (Or.inl rfl) ⟨_, rfl, rfl, rfl, ⟨false, rfl, iff_of_false (by decide) ?_⟩, rfl⟩
    rintro (h9 | h9)
    · exact h0 h9
    · exact e4 (by rw [h9 i him ((nI_eq (by omega) (by omega)).mp e1) (veq _ _ i5 m5 e_fi) (veq _ _ i6 m6 e_se)])
theorem q_Wo_resp {v kd fi se : Nat → Nat} {m : Nat} (hm : m < 8) (hK : ks_at m kd fi se a) (hv : ∀ i, i ≤ m → a 12 i = nI (v i) ∧ v i < 8) : ax_R (d + 1) 75 0 (ax_in 75 [.ref 11, .int (nI m), .ref 20]) [] (hp n xs f a o) k s
    (ax_V (fun r h' => (∃ b : Bool, r = some (.int (bI b)) ∧ (b = true ↔ wl_rb kd fi se v m)) ∧ h' = hp n xs f a o) k s) := by
  obtain ⟨m1, m2, m3, m4, m5, m6⟩ := hK m (Nat.le_refl _)
  refine ax_nx rfl rfl ?_
  refine ax_nx rfl rfl ?_
  refine ax_cal rfl rfl (q_kind_Th (by omega)) (fun r h' hh => ?_)
  obtain ⟨rfl, rfl⟩ := hh
  rw [m1]
  refine ax_nx (al' := [.ref 11, .int (nI m), .ref 20, .int (nI (kd m)), ax_u]) rfl rfl ?_
  refine ax_nx rfl rfl ?_
  refine ax_if rfl rfl (fun e1 => ?_) (fun e1 => ?_)
  · have h0 : kd m = 0 := (nI_eq (b := 0) (by omega) (by omega)).mp e1
    refine ax_nx rfl rfl ?_
    exact ax_retb rfl rfl (Or.inr rfl) ⟨_, rfl, rfl, rfl, ⟨true, rfl, iff_of_true rfl (Or.inl h0)⟩, rfl⟩
  · refine ax_nx rfl rfl ?_
    refine ax_nx (al' := [.ref 11, .int (nI m), .ref 20, .int (nI (kd m)), .int (nI 0)]) rfl rfl ?_
    exact q_Wo_resp_l hm hK hv (fun h9 => e1 (by rw [h9]; rfl)) m 0 (by omega) (fun j hj => absurd hj (Nat.not_lt_zero _))
end HR
