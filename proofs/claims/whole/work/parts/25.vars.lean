section HV
variable {n : Nat} {xs : Nat → Int32} {f : Nat → Int32} {a : Nat → Nat → Int32} {o : Nat → Int64} {d k s : Nat}
theorem q_vi_0 {y z : Int32} : ax_R d 53 0 (ax_in 53 [.ref 15, .int (nI 0), .int y, .int z]) [] (hp n xs f a o) k s (ax_V (fun v h' => v = some (.int (0)) ∧ h' = hp n xs f a o) k s) := by
  refine ax_nx rfl rfl ?_
  refine ax_nx rfl rfl ?_
  refine ax_nx rfl rfl ?_
  exact ax_ret rfl rfl ⟨_, rfl, rfl, rfl, rfl, rfl⟩
theorem q_vi_3 {y z : Int32} : ax_R d 53 0 (ax_in 53 [.ref 15, .int (nI 3), .int y, .int z]) [] (hp n xs f a o) k s (ax_V (fun v h' => v = some (.int (1)) ∧ h' = hp n xs f a o) k s) := by
  refine ax_nx rfl rfl ?_
  refine ax_nx rfl rfl ?_
  refine ax_nx rfl rfl ?_
  exact ax_ret rfl rfl ⟨_, rfl, rfl, rfl, rfl, rfl⟩
theorem q_vi_4 {y z : Int32} : ax_R d 53 0 (ax_in 53 [.ref 15, .int (nI 4), .int y, .int z]) [] (hp n xs f a o) k s (ax_V (fun v h' => v = some (.int (2)) ∧ h' = hp n xs f a o) k s) := by
  refine ax_nx rfl rfl ?_
  refine ax_nx rfl rfl ?_
  refine ax_nx rfl rfl ?_
  exact ax_ret rfl rfl ⟨_, rfl, rfl, rfl, rfl, rfl⟩
theorem q_vi_1 {y : Nat} {z : Int32} (hy : y < 20) : ax_R d 53 0 (ax_in 53 [.ref 15, .int (nI 1), .int (nI y), .int z]) [] (hp n xs f a o) k s (ax_V (fun v h' => v = some (.int (a 19 y)) ∧ h' = hp n xs f a o) k s) := by
  refine ax_nx rfl rfl ?_
  refine ax_nx rfl rfl ?_
  refine ax_nx rfl rfl ?_
  refine ax_nx rfl rfl ?_
  refine ax_nx rfl rfl ?_
  refine ax_ia rfl rfl (vp_in_nI (by omega) (by omega)) ?_
  rw [nI_clamp (by omega)]
  exact ax_ret rfl rfl ⟨_, rfl, rfl, rfl, rfl, rfl⟩
theorem q_vi_2 {y z : Nat} (hy : y < 20) (hz : z < 20) : ax_R d 53 0 (ax_in 53 [.ref 15, .int (nI 2), .int (nI y), .int (nI z)]) [] (hp n xs f a o) k s (ax_V (fun v h' => v = some (.int (a 19 y ||| a 19 z)) ∧ h' = hp n xs f a o) k s) := by
  refine ax_nx rfl rfl ?_
  refine ax_nx rfl rfl ?_
  refine ax_nx rfl rfl ?_
  refine ax_nx rfl rfl ?_
  refine ax_nx rfl rfl ?_
  refine ax_ia rfl rfl (vp_in_nI (by omega) (by omega)) ?_
  rw [nI_clamp (by omega)]
  refine ax_nx rfl rfl ?_
  refine ax_nx rfl rfl ?_
  refine ax_nx rfl rfl ?_
  refine ax_ia rfl rfl (vp_in_nI (by omega) (by omega)) ?_
  rw [nI_clamp (by omega)]
  refine ax_nx rfl rfl ?_
  exact ax_ret rfl rfl ⟨_, rfl, rfl, rfl, rfl, rfl⟩
end HV
