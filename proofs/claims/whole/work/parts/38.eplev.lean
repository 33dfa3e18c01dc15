def ax_T (ex : Nat) (h : ax_H) (k s : Nat) : ax_P := fun o h' k' s' => o = .inr ex ∧ h' = h ∧ k' = k + 1 ∧ s' = s + 6
section HE
variable {n : Nat} {xs : Nat → Int32} {f : Nat → Int32} {a : Nat → Nat → Int32} {o : Nat → Int64} {d k s : Nat}
theorem q_Ep_open_no (h : f 11 = nI 4) : ax_R d 88 0 (ax_in 88 [.ref 1]) [] (hp n xs f a o) k s (ax_T 1 (hp n xs f a o) k s) := by
  refine ax_nx rfl rfl ?_
  refine ax_nx rfl rfl ?_
  refine ax_nx rfl rfl ?_
  rw [h]
  refine ax_nx rfl rfl ?_
  exact ax_thr rfl rfl ⟨rfl, rfl, rfl, rfl⟩
theorem q_Ep_open {m : Nat} (h : f 11 = nI m) (hm : m < 4) : ax_R (d + 1) 88 0 (ax_in 88 [.ref 1]) [] (hp n xs f a o) k s (ax_V (fun v h' => v = some (.int (nI (m + 1))) ∧ h' = hp n xs (upd f 11 (nI (m + 1))) (upda (upda a 13 (upd (a 13) (m + 1) (f 10))) 14 (upd (a 14) (m + 1) (f 1))) o) k s) := by
  refine ax_nx rfl rfl ?_
  refine ax_nx rfl rfl ?_
  refine ax_nx rfl rfl ?_
  rw [h]
  refine ax_nxt rfl rfl (nI_lt (b := 4) hm (by omega)) ?_
  refine ax_nx rfl rfl ?_
  refine ax_nx rfl rfl ?_
  refine ax_nx rfl rfl ?_
  refine ax_nx rfl rfl ?_
  refine ax_nx rfl rfl ?_
  refine ax_top (y := nI (m + 1)) (by show f 11 + 1 = _; rw [h, nI_1]) ?_
  refine ax_nx (h' := hp n xs (upd f 11 (nI (m + 1))) a o) rfl rfl ?_
  refine ax_nx rfl rfl ?_
  refine ax_nx rfl rfl ?_
  refine ax_nx rfl rfl ?_
  refine ax_nx (st' := [.int (nI (m + 1)), .ref 13]) rfl rfl ?_
  refine ax_nx rfl rfl ?_
  refine ax_nx (st' := [.int (f 10), .int (nI (m + 1)), .ref 13]) rfl rfl ?_
  refine ax_iasH (h2 := hp n xs (upd f 11 (nI (m + 1))) (upda a 13 (upd (a 13) (m + 1) (f 10))) o) rfl rfl (vp_in_nI (by omega) (by omega)) (by rw [nI_clamp (by omega)]; rfl) ?_
  refine ax_nx rfl rfl ?_
  refine ax_nx rfl rfl ?_
  refine ax_nx rfl rfl ?_
  refine ax_nx (st' := [.int (nI (m + 1)), .ref 14]) rfl rfl ?_
  refine ax_nx rfl rfl ?_
  refine ax_nx rfl rfl ?_
  refine ax_cal rfl rfl q_In_size (fun v h' hh => ?_)
  obtain ⟨rfl, rfl⟩ := hh
  refine ax_iasH (x := f 1) (h2 := hp n xs (upd f 11 (nI (m + 1))) (upda (upda a 13 (upd (a 13) (m + 1) (f 10))) 14 (upd (a 14) (m + 1) (f 1))) o) rfl rfl (vp_in_nI (by omega) (by omega)) (by rw [nI_clamp (by omega)]; rfl) ?_
  refine ax_nx rfl rfl ?_
  refine ax_nx rfl rfl ?_
  exact ax_ret rfl rfl ⟨_, rfl, rfl, rfl, rfl, rfl⟩
theorem q_Ep_close_no (h : f 11 = nI 0) : ax_R d 89 0 (ax_in 89 [.ref 1]) [] (hp n xs f a o) k s (ax_T 1 (hp n xs f a o) k s) := by
  refine ax_nx rfl rfl ?_
  refine ax_nx rfl rfl ?_
  rw [h]
  refine ax_nx rfl rfl ?_
  exact ax_thr rfl rfl ⟨rfl, rfl, rfl, rfl⟩
theorem q_Ep_close {m : Nat} (h : f 11 = nI (m + 1)) (hm : m < 4) : ax_R (d + 1) 89 0 (ax_in 89 [.ref 1]) [] (hp n xs f a o) k s (ax_V (fun v h' => v = some (.int (f 10 - a 13 (m + 1))) ∧ h' = hp n xs (upd (upd (upd f 10 (a 13 (m + 1))) 1 (a 14 (m + 1))) 11 (nI m)) a o) k s) := by
  refine ax_nx rfl rfl ?_
  refine ax_nx rfl rfl ?_
  rw [h]
  refine ax_nxt rfl rfl (nI_lt (a := 0) (by omega) (by omega)) ?_
  refine ax_nx rfl rfl ?_
  refine ax_nx rfl rfl ?_
  refine ax_nx rfl rfl ?_
  refine ax_nx rfl rfl ?_
  refine ax_nx rfl rfl ?_
  refine ax_nx rfl rfl ?_
  rw [h]
  refine ax_ia rfl rfl (vp_in_nI (by omega) (by omega)) ?_
  rw [nI_clamp (by omega)]
  refine ax_nx rfl rfl ?_
  refine ax_nx (al' := [.ref 1, .int (f 10 - a 13 (m + 1))]) rfl rfl ?_
  refine ax_nx rfl rfl ?_
  refine ax_nx rfl rfl ?_
  refine ax_nx rfl rfl ?_
  refine ax_nx rfl rfl ?_
  refine ax_nx rfl rfl ?_
  rw [h]
  refine ax_ia rfl rfl (vp_in_nI (by omega) (by omega)) ?_
  rw [nI_clamp (by omega)]
  refine ax_nx (h' := hp n xs (upd f 10 (a 13 (m + 1))) a o) rfl rfl ?_
  refine ax_nx rfl rfl ?_
  refine ax_nx rfl rfl ?_
  refine ax_nx rfl rfl ?_
  refine ax_nx rfl rfl ?_
  refine ax_nx rfl rfl ?_
  refine ax_nx (st' := [.int (f 11), .ref 14, .ref 8]) rfl rfl ?_
  rw [h]
  refine ax_ia rfl rfl (vp_in_nI (by omega) (by omega)) ?_
  rw [nI_clamp (by omega)]
  refine ax_cal rfl rfl q_In_shrink (fun v h' hh => ?_)
  obtain ⟨rfl, rfl⟩ := hh
  refine ax_nx rfl rfl ?_
  refine ax_nx rfl rfl ?_
  refine ax_nx (st' := [.int (f 11), .ref 1]) rfl rfl ?_
  refine ax_nx rfl rfl ?_
  refine ax_nx rfl rfl ?_
  refine ax_top (y := nI m) (by show f 11 - 1 = _; rw [h, nI_pred]) ?_
  refine ax_nx (h' := hp n xs (upd (upd (upd f 10 (a 13 (m + 1))) 1 (a 14 (m + 1))) 11 (nI m)) a o) rfl rfl ?_
  refine ax_nx rfl rfl ?_
  exact ax_ret rfl rfl ⟨_, rfl, rfl, rfl, rfl, rfl⟩
end HE
