section HA
variable {n : Nat} {xs : Nat → Int32} {f : Nat → Int32} {a : Nat → Nat → Int32} {o : Nat → Int64} {d k s : Nat}
theorem q_add_Te_full {x y z : Int32} (hm : f 7 = nI 20) : ax_R d 43 0 (ax_in 43 [.ref 15, .int x, .int y, .int z]) [] (hp n xs f a o) k s (ax_V (fun v h' => v = some (.int (-1)) ∧ h' = hp n xs f a o) k s) := by
  refine ax_nx rfl rfl ?_
  refine ax_nx rfl rfl ?_
  refine ax_nx rfl rfl ?_
  refine ax_nx rfl rfl ?_
  refine ax_al rfl rfl ?_
  refine ax_nxf rfl rfl (by rw [hm]; exact nI_nlt (Nat.le_refl _) (by omega)) ?_
  refine ax_nx rfl rfl ?_
  exact ax_ret rfl rfl ⟨_, rfl, rfl, rfl, rfl, rfl⟩
theorem q_add_Te {x y z : Int32} {m : Nat} (hm : f 7 = nI m) (hN : m < 20) : ax_R d 43 0 (ax_in 43 [.ref 15, .int x, .int y, .int z]) [] (hp n xs f a o) k s (ax_V (fun v h' => v = some (.int (nI m)) ∧ h' = hp n xs (upd f 7 (nI (m + 1))) (upda (upda (upda a 16 (upd (a 16) m x)) 17 (upd (a 17) m y)) 18 (upd (a 18) m z)) o) k s) := by
  refine ax_nx rfl rfl ?_
  refine ax_nx rfl rfl ?_
  refine ax_nx rfl rfl ?_
  refine ax_nx rfl rfl ?_
  refine ax_al rfl rfl ?_
  refine ax_nxt rfl rfl (by rw [hm]; exact nI_lt hN (by omega)) ?_
  refine ax_nx rfl rfl ?_
  refine ax_nx rfl rfl ?_
  refine ax_nx rfl rfl ?_
  refine ax_nx rfl rfl ?_
  refine ax_nx rfl rfl ?_
  rw [hm]
  refine ax_iasH (h2 := hp n xs f (upda a 16 (upd (a 16) m x)) o) rfl rfl (vp_in_nI (by omega) (by omega)) (by rw [nI_clamp (by omega)]; rfl) ?_
  refine ax_nx rfl rfl ?_
  refine ax_nx rfl rfl ?_
  refine ax_nx rfl rfl ?_
  refine ax_nx rfl rfl ?_
  refine ax_nx rfl rfl ?_
  rw [hm]
  refine ax_iasH (h2 := hp n xs f (upda (upda a 16 (upd (a 16) m x)) 17 (upd (a 17) m y)) o) rfl rfl (vp_in_nI (by omega) (by omega)) (by rw [nI_clamp (by omega)]; rfl) ?_
  refine ax_nx rfl rfl ?_
  refine ax_nx rfl rfl ?_
  refine ax_nx rfl rfl ?_
  refine ax_nx rfl rfl ?_
  refine ax_nx rfl rfl ?_
  rw [hm]
  refine ax_iasH (h2 := hp n xs f (upda (upda (upda a 16 (upd (a 16) m x)) 17 (upd (a 17) m y)) 18 (upd (a 18) m z)) o) rfl rfl (vp_in_nI (by omega) (by omega)) (by rw [nI_clamp (by omega)]; rfl) ?_
  refine ax_nx rfl rfl ?_
  refine ax_nx rfl rfl ?_
  refine ax_nx rfl rfl ?_
  refine ax_nx rfl rfl ?_
  refine ax_nx rfl rfl ?_
  rw [hm]
  refine ax_top (y := nI (m + 1)) (nI_1 m) ?_
  refine ax_nx (h' := hp n xs (upd f 7 (nI (m + 1))) (upda (upda (upda a 16 (upd (a 16) m x)) 17 (upd (a 17) m y)) 18 (upd (a 18) m z)) o) rfl rfl ?_
  refine ax_nx rfl rfl ?_
  refine ax_nx rfl rfl ?_
  refine ax_nx rfl rfl ?_
  refine ax_nx rfl rfl ?_
  refine ax_top (y := nI m) (nI_pred m) ?_
  exact ax_ret rfl rfl ⟨_, rfl, rfl, rfl, rfl, rfl⟩
theorem q_add_Th_full {x y z : Int32} (hm : f 8 = nI 8) : ax_R d 43 0 (ax_in 43 [.ref 20, .int x, .int y, .int z]) [] (hp n xs f a o) k s (ax_V (fun v h' => v = some (.int (-1)) ∧ h' = hp n xs f a o) k s) := by
  refine ax_nx rfl rfl ?_
  refine ax_nx rfl rfl ?_
  refine ax_nx rfl rfl ?_
  refine ax_nx rfl rfl ?_
  refine ax_al rfl rfl ?_
  refine ax_nxf rfl rfl (by rw [hm]; exact nI_nlt (Nat.le_refl _) (by omega)) ?_
  refine ax_nx rfl rfl ?_
  exact ax_ret rfl rfl ⟨_, rfl, rfl, rfl, rfl, rfl⟩
theorem q_add_Th {x y z : Int32} {m : Nat} (hm : f 8 = nI m) (hN : m < 8) : ax_R d 43 0 (ax_in 43 [.ref 20, .int x, .int y, .int z]) [] (hp n xs f a o) k s (ax_V (fun v h' => v = some (.int (nI m)) ∧ h' = hp n xs (upd f 8 (nI (m + 1))) (upda (upda (upda a 21 (upd (a 21) m x)) 22 (upd (a 22) m y)) 23 (upd (a 23) m z)) o) k s) := by
  refine ax_nx rfl rfl ?_
  refine ax_nx rfl rfl ?_
  refine ax_nx rfl rfl ?_
  refine ax_nx rfl rfl ?_
  refine ax_al rfl rfl ?_
  refine ax_nxt rfl rfl (by rw [hm]; exact nI_lt hN (by omega)) ?_
  refine ax_nx rfl rfl ?_
  refine ax_nx rfl rfl ?_
  refine ax_nx rfl rfl ?_
  refine ax_nx rfl rfl ?_
  refine ax_nx rfl rfl ?_
  rw [hm]
  refine ax_iasH (h2 := hp n xs f (upda a 21 (upd (a 21) m x)) o) rfl rfl (vp_in_nI (by omega) (by omega)) (by rw [nI_clamp (by omega)]; rfl) ?_
  refine ax_nx rfl rfl ?_
  refine ax_nx rfl rfl ?_
  refine ax_nx rfl rfl ?_
  refine ax_nx rfl rfl ?_
  refine ax_nx rfl rfl ?_
  rw [hm]
  refine ax_iasH (h2 := hp n xs f (upda (upda a 21 (upd (a 21) m x)) 22 (upd (a 22) m y)) o) rfl rfl (vp_in_nI (by omega) (by omega)) (by rw [nI_clamp (by omega)]; rfl) ?_
  refine ax_nx rfl rfl ?_
  refine ax_nx rfl rfl ?_
  refine ax_nx rfl rfl ?_
  refine ax_nx rfl rfl ?_
  refine ax_nx rfl rfl ?_
  rw [hm]
  refine ax_iasH (h2 := hp n xs f (upda (upda (upda a 21 (upd (a 21) m x)) 22 (upd (a 22) m y)) 23 (upd (a 23) m z)) o) rfl rfl (vp_in_nI (by omega) (by omega)) (by rw [nI_clamp (by omega)]; rfl) ?_
  refine ax_nx rfl rfl ?_
  refine ax_nx rfl rfl ?_
  refine ax_nx rfl rfl ?_
  refine ax_nx rfl rfl ?_
  refine ax_nx rfl rfl ?_
  rw [hm]
  refine ax_top (y := nI (m + 1)) (nI_1 m) ?_
  refine ax_nx (h' := hp n xs (upd f 8 (nI (m + 1))) (upda (upda (upda a 21 (upd (a 21) m x)) 22 (upd (a 22) m y)) 23 (upd (a 23) m z)) o) rfl rfl ?_
  refine ax_nx rfl rfl ?_
  refine ax_nx rfl rfl ?_
  refine ax_nx rfl rfl ?_
  refine ax_nx rfl rfl ?_
  refine ax_top (y := nI m) (nI_pred m) ?_
  exact ax_ret rfl rfl ⟨_, rfl, rfl, rfl, rfl, rfl⟩
end HA
