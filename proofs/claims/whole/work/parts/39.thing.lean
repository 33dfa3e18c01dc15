section HG
variable {n : Nat} {xs : Nat → Int32} {f : Nat → Int32} {a : Nat → Nat → Int32} {o : Nat → Int64} {d k s : Nat}
theorem q_Ep_thing_no {c : Int32} (h : ¬ (0 ≤ c ∧ c < f 8)) : ax_R (d + 1) 92 0 (ax_in 92 [.ref 1, .int c]) [] (hp n xs f a o) k s (ax_T 0 (hp n xs f a o) k s) := by
  refine ax_nx rfl rfl ?_
  refine ax_nx rfl rfl ?_
  refine ax_nx rfl rfl ?_
  refine ax_cal rfl rfl q_has_Th (fun v h' hh => ?_)
  obtain ⟨rfl, rfl⟩ := hh
  rw [if_neg h]
  refine ax_nx rfl rfl ?_
  exact ax_thr rfl rfl ⟨rfl, rfl, rfl, rfl⟩
theorem q_Ep_thing {j : Nat} (h : 0 ≤ nI j ∧ nI j < f 8) (hj : j < 8) : ax_R (d + 1) 92 0 (ax_in 92 [.ref 1, .int (nI j)]) [] (hp n xs f a o) k s (ax_V (fun v h' => v = some (.int (a 24 j)) ∧ h' = hp n xs f a o) k s) := by
  refine ax_nx rfl rfl ?_
  refine ax_nx rfl rfl ?_
  refine ax_nx rfl rfl ?_
  refine ax_cal rfl rfl q_has_Th (fun v h' hh => ?_)
  obtain ⟨rfl, rfl⟩ := hh
  rw [if_pos h]
  refine ax_nx rfl rfl ?_
  refine ax_nx rfl rfl ?_
  refine ax_nx rfl rfl ?_
  refine ax_nx rfl rfl ?_
  refine ax_cal rfl rfl (q_Th_term hj) (fun v h' hh => ?_)
  obtain ⟨rfl, rfl⟩ := hh
  exact ax_ret rfl rfl ⟨_, rfl, rfl, rfl, rfl, rfl⟩
end HG
section HG2
variable {n : Nat} {xs : Nat → Int32} {f : Nat → Int32} {a : Nat → Nat → Int32} {o : Nat → Int64} {d k s : Nat}
theorem q_Mo_thing_no {c : Int32} (h : ¬ (0 ≤ c ∧ c < f 15)) : ax_R (d + 1) 27 0 (ax_in 27 [.ref 25, .int c]) [] (hp n xs f a o) k s (ax_V (fun v h' => v = some (.int 0) ∧ h' = hp n xs (upd (upd f 12 0) 12 1) a o) k s) := by
  refine ax_nx rfl rfl ?_
  refine ax_nx rfl rfl ?_
  refine ax_nx (h' := hp n xs (upd f 12 0) a o) rfl rfl ?_
  refine ax_nx rfl rfl ?_
  refine ax_nx rfl rfl ?_
  refine ax_nx rfl rfl ?_
  refine ax_cal rfl rfl (q_Mo_out (m := f 15)) (fun v h' hh => ?_)
  obtain ⟨rfl, rfl⟩ := hh
  rw [if_neg h]
  refine ax_nx rfl rfl ?_
  refine ax_nx rfl rfl ?_
  refine ax_nx rfl rfl ?_
  refine ax_cal rfl rfl q_Mo_fail (fun v h' hh => ?_)
  obtain ⟨rfl, rfl⟩ := hh
  refine ax_nx rfl rfl ?_
  exact ax_ret rfl rfl ⟨_, rfl, rfl, rfl, rfl, rfl⟩
theorem q_Mo_thing {j : Nat} (h : 0 ≤ nI j ∧ nI j < f 15) (hj : j < 8) : ax_R (d + 1) 27 0 (ax_in 27 [.ref 25, .int (nI j)]) [] (hp n xs f a o) k s (ax_V (fun v h' => v = some (.int (a 32 j)) ∧ h' = hp n xs (upd f 12 0) a o) k s) := by
  refine ax_nx rfl rfl ?_
  refine ax_nx rfl rfl ?_
  refine ax_nx (h' := hp n xs (upd f 12 0) a o) rfl rfl ?_
  refine ax_nx rfl rfl ?_
  refine ax_nx rfl rfl ?_
  refine ax_nx rfl rfl ?_
  refine ax_cal rfl rfl (q_Mo_out (m := f 15)) (fun v h' hh => ?_)
  obtain ⟨rfl, rfl⟩ := hh
  rw [if_pos h]
  refine ax_nx rfl rfl ?_
  refine ax_nx rfl rfl ?_
  refine ax_nx rfl rfl ?_
  refine ax_nx rfl rfl ?_
  refine ax_ia rfl rfl (vp_in_nI (by omega) (by omega)) ?_
  rw [nI_clamp (by omega)]
  exact ax_ret rfl rfl ⟨_, rfl, rfl, rfl, rfl, rfl⟩
end HG2
