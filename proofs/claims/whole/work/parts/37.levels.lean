section HO
variable {n : Nat} {xs : Nat → Int32} {f : Nat → Int32} {a : Nat → Nat → Int32} {o : Nat → Int64} {d k s : Nat}
theorem q_Mo_open_no (h : f 20 = nI 4) : ax_R d 15 0 (ax_in 15 [.ref 25]) [] (hp n xs f a o) k s (ax_V (fun v h' => v = some (.int (0)) ∧ h' = hp n xs (upd f 12 1) a o) k s) := by
  refine ax_nx rfl rfl ?_
  refine ax_nx rfl rfl ?_
  refine ax_nx rfl rfl ?_
  refine ax_nx rfl rfl ?_
  rw [h]
  refine ax_nx rfl rfl ?_
  refine ax_nx rfl rfl ?_
  refine ax_nx rfl rfl ?_
  refine ax_nx (h' := hp n xs (upd f 12 1) a o) rfl rfl ?_
  refine ax_nx rfl rfl ?_
  refine ax_nx rfl rfl ?_
  refine ax_nx rfl rfl ?_
  refine ax_nx rfl rfl ?_
  exact ax_ret rfl rfl ⟨_, rfl, rfl, rfl, rfl, rfl⟩
theorem q_Mo_open {m : Nat} (h : f 20 = nI m) (hm : m < 4) : ax_R d 15 0 (ax_in 15 [.ref 25]) [] (hp n xs f a o) k s (ax_V (fun v h' => v = some (.int (nI (m + 1))) ∧ h' = hp n xs (upd (upd f 12 0) 20 (nI (m + 1))) (upda a 42 (upd (a 42) (m + 1) (f 19))) o) k s) := by
  refine ax_nx rfl rfl ?_
  refine ax_nx rfl rfl ?_
  refine ax_nx rfl rfl ?_
  refine ax_nx rfl rfl ?_
  rw [h]
  refine ax_nxf rfl rfl (fun h9 => ?_) ?_
  · have := (nI_eq (b := 4) (by omega) (by omega)).mp h9
    omega
  refine ax_nx rfl rfl ?_
  refine ax_nx (h' := hp n xs (upd f 12 0) a o) rfl rfl ?_
  refine ax_nx rfl rfl ?_
  refine ax_nx rfl rfl ?_
  refine ax_nx rfl rfl ?_
  refine ax_nx rfl rfl ?_
  refine ax_nx rfl rfl ?_
  refine ax_nx rfl rfl ?_
  refine ax_nx rfl rfl ?_
  refine ax_nx rfl rfl ?_
  refine ax_top (y := nI (m + 1)) (by show f 20 + 1 = _; rw [h, nI_1]) ?_
  refine ax_nx (h' := hp n xs (upd (upd f 12 0) 20 (nI (m + 1))) a o) rfl rfl ?_
  refine ax_nx rfl rfl ?_
  refine ax_nx rfl rfl ?_
  refine ax_nx rfl rfl ?_
  refine ax_nx (st' := [.int (nI (m + 1)), .ref 42]) rfl rfl ?_
  refine ax_nx rfl rfl ?_
  refine ax_nx (st' := [.int (f 19), .int (nI (m + 1)), .ref 42]) rfl rfl ?_
  refine ax_iasH (h2 := hp n xs (upd (upd f 12 0) 20 (nI (m + 1))) (upda a 42 (upd (a 42) (m + 1) (f 19))) o) rfl rfl (vp_in_nI (by omega) (by omega)) (by rw [nI_clamp (by omega)]; rfl) ?_
  refine ax_nx rfl rfl ?_
  refine ax_nx rfl rfl ?_
  exact ax_ret rfl rfl ⟨_, rfl, rfl, rfl, rfl, rfl⟩
theorem q_Mo_close_no (h : f 20 = nI 0) : ax_R d 16 0 (ax_in 16 [.ref 25]) [] (hp n xs f a o) k s (ax_V (fun v h' => v = some (.int (0)) ∧ h' = hp n xs (upd f 12 1) a o) k s) := by
  refine ax_nx rfl rfl ?_
  refine ax_nx rfl rfl ?_
  refine ax_nx rfl rfl ?_
  rw [h]
  refine ax_nx rfl rfl ?_
  refine ax_nx rfl rfl ?_
  refine ax_nx rfl rfl ?_
  refine ax_nx (h' := hp n xs (upd f 12 1) a o) rfl rfl ?_
  refine ax_nx rfl rfl ?_
  refine ax_nx rfl rfl ?_
  refine ax_nx rfl rfl ?_
  refine ax_nx rfl rfl ?_
  exact ax_ret rfl rfl ⟨_, rfl, rfl, rfl, rfl, rfl⟩
theorem q_Mo_close {m : Nat} (h : f 20 = nI (m + 1)) (hm : m < 4) : ax_R d 16 0 (ax_in 16 [.ref 25]) [] (hp n xs f a o) k s (ax_V (fun v h' => v = some (.int (f 19 - a 42 (m + 1))) ∧ h' = hp n xs (upd (upd (upd (upd f 12 0) 19 (a 42 (m + 1))) 20 (nI m)) 21 0) a o) k s) := by
  refine ax_nx rfl rfl ?_
  refine ax_nx rfl rfl ?_
  refine ax_nx rfl rfl ?_
  rw [h]
  refine ax_nxf rfl rfl (nI_ne0 (by omega) (by omega)) ?_
  refine ax_nx rfl rfl ?_
  refine ax_nx (h' := hp n xs (upd f 12 0) a o) rfl rfl ?_
  refine ax_nx rfl rfl ?_
  refine ax_nx rfl rfl ?_
  refine ax_nx rfl rfl ?_
  refine ax_nx rfl rfl ?_
  refine ax_nx (st' := [.int (f 19)]) rfl rfl ?_
  refine ax_nx rfl rfl ?_
  refine ax_nx (st' := [.ref 42, .int (f 19)]) rfl rfl ?_
  refine ax_nx rfl rfl ?_
  refine ax_nx (st' := [.int (f 20), .ref 42, .int (f 19)]) rfl rfl ?_
  rw [h]
  refine ax_ia rfl rfl (vp_in_nI (by omega) (by omega)) ?_
  rw [nI_clamp (by omega)]
  refine ax_nx rfl rfl ?_
  refine ax_nx (al' := [.ref 25, .int (f 19 - a 42 (m + 1))]) rfl rfl ?_
  refine ax_nx rfl rfl ?_
  refine ax_nx rfl rfl ?_
  refine ax_nx (st' := [.ref 42, .ref 25]) rfl rfl ?_
  refine ax_nx rfl rfl ?_
  refine ax_nx (st' := [.int (f 20), .ref 42, .ref 25]) rfl rfl ?_
  rw [h]
  refine ax_ia rfl rfl (vp_in_nI (by omega) (by omega)) ?_
  rw [nI_clamp (by omega)]
  refine ax_nx (h' := hp n xs (upd (upd f 12 0) 19 (a 42 (m + 1))) a o) rfl rfl ?_
  refine ax_nx rfl rfl ?_
  refine ax_nx rfl rfl ?_
  refine ax_nx (st' := [.int (f 20), .ref 25]) rfl rfl ?_
  refine ax_nx rfl rfl ?_
  refine ax_nx rfl rfl ?_
  refine ax_top (y := nI m) (by show f 20 - 1 = _; rw [h, nI_pred]) ?_
  refine ax_nx (h' := hp n xs (upd (upd (upd f 12 0) 19 (a 42 (m + 1))) 20 (nI m)) a o) rfl rfl ?_
  refine ax_nx rfl rfl ?_
  refine ax_nx rfl rfl ?_
  refine ax_nx (h' := hp n xs (upd (upd (upd (upd f 12 0) 19 (a 42 (m + 1))) 20 (nI m)) 21 0) a o) rfl rfl ?_
  refine ax_nx rfl rfl ?_
  exact ax_ret rfl rfl ⟨_, rfl, rfl, rfl, rfl, rfl⟩
end HO
