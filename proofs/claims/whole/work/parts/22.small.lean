section HS
variable {n : Nat} {xs : Nat → Int32} {f : Nat → Int32} {a : Nat → Nat → Int32} {o : Nat → Int64} {d k s : Nat}
theorem q_size_Te : ax_R d 44 0 (ax_in 44 [.ref 15]) [] (hp n xs f a o) k s (ax_V (fun v h' => v = some (.int (f 7)) ∧ h' = (hp n xs f a o)) k s) := by
  refine ax_nx rfl rfl ?_
  refine ax_nx rfl rfl ?_
  exact ax_ret rfl rfl ⟨_, rfl, rfl, rfl, rfl, rfl⟩
theorem q_size_Th : ax_R d 44 0 (ax_in 44 [.ref 20]) [] (hp n xs f a o) k s (ax_V (fun v h' => v = some (.int (f 8)) ∧ h' = (hp n xs f a o)) k s) := by
  refine ax_nx rfl rfl ?_
  refine ax_nx rfl rfl ?_
  exact ax_ret rfl rfl ⟨_, rfl, rfl, rfl, rfl, rfl⟩
theorem q_Dr_size : ax_R d 61 0 (ax_in 61 [.ref 2]) [] (hp n xs f a o) k s (ax_V (fun v h' => v = some (.int (f 0)) ∧ h' = (hp n xs f a o)) k s) := by
  refine ax_nx rfl rfl ?_
  refine ax_nx rfl rfl ?_
  exact ax_ret rfl rfl ⟨_, rfl, rfl, rfl, rfl, rfl⟩
theorem q_In_size : ax_R d 37 0 (ax_in 37 [.ref 8]) [] (hp n xs f a o) k s (ax_V (fun v h' => v = some (.int (f 1)) ∧ h' = (hp n xs f a o)) k s) := by
  refine ax_nx rfl rfl ?_
  refine ax_nx rfl rfl ?_
  exact ax_ret rfl rfl ⟨_, rfl, rfl, rfl, rfl, rfl⟩
theorem q_Ep_clauses : ax_R d 81 0 (ax_in 81 [.ref 1]) [] (hp n xs f a o) k s (ax_V (fun v h' => v = some (.int (f 10)) ∧ h' = (hp n xs f a o)) k s) := by
  refine ax_nx rfl rfl ?_
  refine ax_nx rfl rfl ?_
  exact ax_ret rfl rfl ⟨_, rfl, rfl, rfl, rfl, rfl⟩
theorem q_Ep_level : ax_R d 82 0 (ax_in 82 [.ref 1]) [] (hp n xs f a o) k s (ax_V (fun v h' => v = some (.int (f 11)) ∧ h' = (hp n xs f a o)) k s) := by
  refine ax_nx rfl rfl ?_
  refine ax_nx rfl rfl ?_
  exact ax_ret rfl rfl ⟨_, rfl, rfl, rfl, rfl, rfl⟩
theorem q_Mo_thrown : ax_R d 5 0 (ax_in 5 [.ref 25]) [] (hp n xs f a o) k s (ax_V (fun v h' => v = some (.int (f 12)) ∧ h' = (hp n xs f a o)) k s) := by
  refine ax_nx rfl rfl ?_
  refine ax_nx rfl rfl ?_
  exact ax_ret rfl rfl ⟨_, rfl, rfl, rfl, rfl, rfl⟩
theorem q_Mo_things : ax_R d 28 0 (ax_in 28 [.ref 25]) [] (hp n xs f a o) k s (ax_V (fun v h' => v = some (.int (f 15)) ∧ h' = hp n xs (upd f 12 0) a o) k s) := by
  refine ax_nx rfl rfl ?_
  refine ax_nx rfl rfl ?_
  refine ax_nx (h' := hp n xs (upd f 12 0) a o) rfl rfl ?_
  refine ax_nx rfl rfl ?_
  refine ax_nx rfl rfl ?_
  exact ax_ret rfl rfl ⟨_, rfl, rfl, rfl, rfl, rfl⟩
theorem q_Mo_terms : ax_R d 29 0 (ax_in 29 [.ref 25]) [] (hp n xs f a o) k s (ax_V (fun v h' => v = some (.int (f 14)) ∧ h' = hp n xs (upd f 12 0) a o) k s) := by
  refine ax_nx rfl rfl ?_
  refine ax_nx rfl rfl ?_
  refine ax_nx (h' := hp n xs (upd f 12 0) a o) rfl rfl ?_
  refine ax_nx rfl rfl ?_
  refine ax_nx rfl rfl ?_
  exact ax_ret rfl rfl ⟨_, rfl, rfl, rfl, rfl, rfl⟩
theorem q_Mo_clauses : ax_R d 31 0 (ax_in 31 [.ref 25]) [] (hp n xs f a o) k s (ax_V (fun v h' => v = some (.int (f 19)) ∧ h' = hp n xs (upd f 12 0) a o) k s) := by
  refine ax_nx rfl rfl ?_
  refine ax_nx rfl rfl ?_
  refine ax_nx (h' := hp n xs (upd f 12 0) a o) rfl rfl ?_
  refine ax_nx rfl rfl ?_
  refine ax_nx rfl rfl ?_
  exact ax_ret rfl rfl ⟨_, rfl, rfl, rfl, rfl, rfl⟩
theorem q_Mo_level : ax_R d 32 0 (ax_in 32 [.ref 25]) [] (hp n xs f a o) k s (ax_V (fun v h' => v = some (.int (f 20)) ∧ h' = hp n xs (upd f 12 0) a o) k s) := by
  refine ax_nx rfl rfl ?_
  refine ax_nx rfl rfl ?_
  refine ax_nx (h' := hp n xs (upd f 12 0) a o) rfl rfl ?_
  refine ax_nx rfl rfl ?_
  refine ax_nx rfl rfl ?_
  exact ax_ret rfl rfl ⟨_, rfl, rfl, rfl, rfl, rfl⟩
theorem q_Mo_fail {c : Int32} : ax_R d 8 0 (ax_in 8 [.ref 25, .int c]) [] (hp n xs f a o) k s (ax_V (fun v h' => v = some (.int 0) ∧ h' = hp n xs (upd f 12 c) a o) k s) := by
  refine ax_nx rfl rfl ?_
  refine ax_nx rfl rfl ?_
  refine ax_nx (h' := hp n xs (upd f 12 c) a o) rfl rfl ?_
  refine ax_nx rfl rfl ?_
  exact ax_ret rfl rfl ⟨_, rfl, rfl, rfl, rfl, rfl⟩
theorem q_Dr_empty : ax_R d 66 0 (ax_in 66 [.ref 2]) [] (hp n xs f a o) k s (ax_V (fun v h' => v = none ∧ h' = hp n xs (upd f 0 0) a o) k s) := by
  refine ax_nx rfl rfl ?_
  refine ax_nx rfl rfl ?_
  refine ax_nx (h' := hp n xs (upd f 0 0) a o) rfl rfl ?_
  exact ax_ret rfl rfl ⟨_, rfl, rfl, rfl, rfl, rfl⟩
theorem q_In_shrink {c : Int32} : ax_R d 41 0 (ax_in 41 [.ref 8, .int c]) [] (hp n xs f a o) k s (ax_V (fun v h' => v = none ∧ h' = hp n xs (upd f 1 c) a o) k s) := by
  refine ax_nx rfl rfl ?_
  refine ax_nx rfl rfl ?_
  refine ax_nx (h' := hp n xs (upd f 1 c) a o) rfl rfl ?_
  exact ax_ret rfl rfl ⟨_, rfl, rfl, rfl, rfl, rfl⟩
theorem q_shrink_Te {c : Int32} : ax_R d 50 0 (ax_in 50 [.ref 15, .int c]) [] (hp n xs f a o) k s (ax_V (fun v h' => v = none ∧ h' = hp n xs (upd f 7 c) a o) k s) := by
  refine ax_nx rfl rfl ?_
  refine ax_nx rfl rfl ?_
  refine ax_nx (h' := hp n xs (upd f 7 c) a o) rfl rfl ?_
  exact ax_ret rfl rfl ⟨_, rfl, rfl, rfl, rfl, rfl⟩
theorem q_shrink_Th {c : Int32} : ax_R d 50 0 (ax_in 50 [.ref 20, .int c]) [] (hp n xs f a o) k s (ax_V (fun v h' => v = none ∧ h' = hp n xs (upd f 8 c) a o) k s) := by
  refine ax_nx rfl rfl ?_
  refine ax_nx rfl rfl ?_
  refine ax_nx (h' := hp n xs (upd f 8 c) a o) rfl rfl ?_
  exact ax_ret rfl rfl ⟨_, rfl, rfl, rfl, rfl, rfl⟩
theorem q_In_begin : ax_R d 38 0 (ax_in 38 [.ref 8]) [] (hp n xs f a o) k s (ax_V (fun v h' => v = none ∧ h' = hp n xs (upd (upd (upd f 2 0) 3 0) 4 0) a o) k s) := by
  refine ax_nx rfl rfl ?_
  refine ax_nx rfl rfl ?_
  refine ax_nx (h' := hp n xs (upd f 2 0) a o) rfl rfl ?_
  refine ax_nx rfl rfl ?_
  refine ax_nx rfl rfl ?_
  refine ax_nx (h' := hp n xs (upd (upd f 2 0) 3 0) a o) rfl rfl ?_
  refine ax_nx rfl rfl ?_
  refine ax_nx rfl rfl ?_
  refine ax_nx (h' := hp n xs (upd (upd (upd f 2 0) 3 0) 4 0) a o) rfl rfl ?_
  exact ax_ret rfl rfl ⟨_, rfl, rfl, rfl, rfl, rfl⟩
theorem q_kind_Te {j : Nat} (hj : j < 20) : ax_R d 45 0 (ax_in 45 [.ref 15, .int (nI j)]) [] (hp n xs f a o) k s (ax_V (fun v h' => v = some (.int (a 16 j)) ∧ h' = (hp n xs f a o)) k s) := by
  refine ax_nx rfl rfl ?_
  refine ax_nx rfl rfl ?_
  refine ax_nx rfl rfl ?_
  refine ax_ia rfl rfl (vp_in_nI (by omega) (by omega)) ?_
  rw [nI_clamp (by omega)]
  exact ax_ret rfl rfl ⟨_, rfl, rfl, rfl, rfl, rfl⟩
theorem q_first_Te {j : Nat} (hj : j < 20) : ax_R d 46 0 (ax_in 46 [.ref 15, .int (nI j)]) [] (hp n xs f a o) k s (ax_V (fun v h' => v = some (.int (a 17 j)) ∧ h' = (hp n xs f a o)) k s) := by
  refine ax_nx rfl rfl ?_
  refine ax_nx rfl rfl ?_
  refine ax_nx rfl rfl ?_
  refine ax_ia rfl rfl (vp_in_nI (by omega) (by omega)) ?_
  rw [nI_clamp (by omega)]
  exact ax_ret rfl rfl ⟨_, rfl, rfl, rfl, rfl, rfl⟩
theorem q_second_Te {j : Nat} (hj : j < 20) : ax_R d 47 0 (ax_in 47 [.ref 15, .int (nI j)]) [] (hp n xs f a o) k s (ax_V (fun v h' => v = some (.int (a 18 j)) ∧ h' = (hp n xs f a o)) k s) := by
  refine ax_nx rfl rfl ?_
  refine ax_nx rfl rfl ?_
  refine ax_nx rfl rfl ?_
  refine ax_ia rfl rfl (vp_in_nI (by omega) (by omega)) ?_
  rw [nI_clamp (by omega)]
  exact ax_ret rfl rfl ⟨_, rfl, rfl, rfl, rfl, rfl⟩
theorem q_kind_Th {j : Nat} (hj : j < 8) : ax_R d 45 0 (ax_in 45 [.ref 20, .int (nI j)]) [] (hp n xs f a o) k s (ax_V (fun v h' => v = some (.int (a 21 j)) ∧ h' = (hp n xs f a o)) k s) := by
  refine ax_nx rfl rfl ?_
  refine ax_nx rfl rfl ?_
  refine ax_nx rfl rfl ?_
  refine ax_ia rfl rfl (vp_in_nI (by omega) (by omega)) ?_
  rw [nI_clamp (by omega)]
  exact ax_ret rfl rfl ⟨_, rfl, rfl, rfl, rfl, rfl⟩
theorem q_first_Th {j : Nat} (hj : j < 8) : ax_R d 46 0 (ax_in 46 [.ref 20, .int (nI j)]) [] (hp n xs f a o) k s (ax_V (fun v h' => v = some (.int (a 22 j)) ∧ h' = (hp n xs f a o)) k s) := by
  refine ax_nx rfl rfl ?_
  refine ax_nx rfl rfl ?_
  refine ax_nx rfl rfl ?_
  refine ax_ia rfl rfl (vp_in_nI (by omega) (by omega)) ?_
  rw [nI_clamp (by omega)]
  exact ax_ret rfl rfl ⟨_, rfl, rfl, rfl, rfl, rfl⟩
theorem q_second_Th {j : Nat} (hj : j < 8) : ax_R d 47 0 (ax_in 47 [.ref 20, .int (nI j)]) [] (hp n xs f a o) k s (ax_V (fun v h' => v = some (.int (a 23 j)) ∧ h' = (hp n xs f a o)) k s) := by
  refine ax_nx rfl rfl ?_
  refine ax_nx rfl rfl ?_
  refine ax_nx rfl rfl ?_
  refine ax_ia rfl rfl (vp_in_nI (by omega) (by omega)) ?_
  rw [nI_clamp (by omega)]
  exact ax_ret rfl rfl ⟨_, rfl, rfl, rfl, rfl, rfl⟩
theorem q_Te_vars {j : Nat} (hj : j < 20) : ax_R d 54 0 (ax_in 54 [.ref 15, .int (nI j)]) [] (hp n xs f a o) k s (ax_V (fun v h' => v = some (.int (a 19 j)) ∧ h' = (hp n xs f a o)) k s) := by
  refine ax_nx rfl rfl ?_
  refine ax_nx rfl rfl ?_
  refine ax_nx rfl rfl ?_
  refine ax_ia rfl rfl (vp_in_nI (by omega) (by omega)) ?_
  rw [nI_clamp (by omega)]
  exact ax_ret rfl rfl ⟨_, rfl, rfl, rfl, rfl, rfl⟩
theorem q_Th_term {j : Nat} (hj : j < 8) : ax_R d 56 0 (ax_in 56 [.ref 20, .int (nI j)]) [] (hp n xs f a o) k s (ax_V (fun v h' => v = some (.int (a 24 j)) ∧ h' = (hp n xs f a o)) k s) := by
  refine ax_nx rfl rfl ?_
  refine ax_nx rfl rfl ?_
  refine ax_nx rfl rfl ?_
  refine ax_ia rfl rfl (vp_in_nI (by omega) (by omega)) ?_
  rw [nI_clamp (by omega)]
  exact ax_ret rfl rfl ⟨_, rfl, rfl, rfl, rfl, rfl⟩
theorem q_Dr_left {j : Nat} (hj : j < 4) : ax_R d 63 0 (ax_in 63 [.ref 2, .int (nI j)]) [] (hp n xs f a o) k s (ax_V (fun v h' => v = some (.int (a 3 j)) ∧ h' = (hp n xs f a o)) k s) := by
  refine ax_nx rfl rfl ?_
  refine ax_nx rfl rfl ?_
  refine ax_nx rfl rfl ?_
  refine ax_ia rfl rfl (vp_in_nI (by omega) (by omega)) ?_
  rw [nI_clamp (by omega)]
  exact ax_ret rfl rfl ⟨_, rfl, rfl, rfl, rfl, rfl⟩
theorem q_Dr_right {j : Nat} (hj : j < 4) : ax_R d 64 0 (ax_in 64 [.ref 2, .int (nI j)]) [] (hp n xs f a o) k s (ax_V (fun v h' => v = some (.int (a 4 j)) ∧ h' = (hp n xs f a o)) k s) := by
  refine ax_nx rfl rfl ?_
  refine ax_nx rfl rfl ?_
  refine ax_nx rfl rfl ?_
  refine ax_ia rfl rfl (vp_in_nI (by omega) (by omega)) ?_
  rw [nI_clamp (by omega)]
  exact ax_ret rfl rfl ⟨_, rfl, rfl, rfl, rfl, rfl⟩
theorem q_Wo_label {j : Nat} (hj : j < 8) : ax_R d 76 0 (ax_in 76 [.ref 11, .int (nI j)]) [] (hp n xs f a o) k s (ax_V (fun v h' => v = some (.int (a 12 j)) ∧ h' = (hp n xs f a o)) k s) := by
  refine ax_nx rfl rfl ?_
  refine ax_nx rfl rfl ?_
  refine ax_nx rfl rfl ?_
  refine ax_ia rfl rfl (vp_in_nI (by omega) (by omega)) ?_
  rw [nI_clamp (by omega)]
  exact ax_ret rfl rfl ⟨_, rfl, rfl, rfl, rfl, rfl⟩
theorem q_has_Te {c : Int32} : ax_R d 48 0 (ax_in 48 [.ref 15, .int c]) [] (hp n xs f a o) k s (ax_V (fun v h' => v = some (.int (if 0 ≤ c ∧ c < f 7 then 1 else 0)) ∧ h' = (hp n xs f a o)) k s) := by
  refine ax_nx rfl rfl ?_
  refine ax_if rfl rfl (fun h1 => ?_) (fun h1 => ?_)
  · refine ax_nx rfl rfl ?_
    have e : ¬ (0 ≤ c ∧ c < f 7) := fun h => absurd h1 (Int32.not_lt.mpr h.1)
    rw [if_neg e]
    exact ax_retb rfl rfl (Or.inl rfl) ⟨_, rfl, rfl, rfl, rfl, rfl⟩
  · refine ax_nx rfl rfl ?_
    refine ax_nx rfl rfl ?_
    refine ax_nx rfl rfl ?_
    refine ax_if rfl rfl (fun h2 => ?_) (fun h2 => ?_)
    · refine ax_nx rfl rfl ?_
      have e : ¬ (0 ≤ c ∧ c < f 7) := fun h => absurd h.2 (Int32.not_lt.mpr h2)
      rw [if_neg e]
      exact ax_retb rfl rfl (Or.inl rfl) ⟨_, rfl, rfl, rfl, rfl, rfl⟩
    · refine ax_nx rfl rfl ?_
      refine ax_nx rfl rfl ?_
      rw [if_pos ⟨Int32.not_lt.mp h1, Int32.not_le.mp h2⟩]
      exact ax_retb rfl rfl (Or.inr rfl) ⟨_, rfl, rfl, rfl, rfl, rfl⟩
theorem q_has_Th {c : Int32} : ax_R d 48 0 (ax_in 48 [.ref 20, .int c]) [] (hp n xs f a o) k s (ax_V (fun v h' => v = some (.int (if 0 ≤ c ∧ c < f 8 then 1 else 0)) ∧ h' = (hp n xs f a o)) k s) := by
  refine ax_nx rfl rfl ?_
  refine ax_if rfl rfl (fun h1 => ?_) (fun h1 => ?_)
  · refine ax_nx rfl rfl ?_
    have e : ¬ (0 ≤ c ∧ c < f 8) := fun h => absurd h1 (Int32.not_lt.mpr h.1)
    rw [if_neg e]
    exact ax_retb rfl rfl (Or.inl rfl) ⟨_, rfl, rfl, rfl, rfl, rfl⟩
  · refine ax_nx rfl rfl ?_
    refine ax_nx rfl rfl ?_
    refine ax_nx rfl rfl ?_
    refine ax_if rfl rfl (fun h2 => ?_) (fun h2 => ?_)
    · refine ax_nx rfl rfl ?_
      have e : ¬ (0 ≤ c ∧ c < f 8) := fun h => absurd h.2 (Int32.not_lt.mpr h2)
      rw [if_neg e]
      exact ax_retb rfl rfl (Or.inl rfl) ⟨_, rfl, rfl, rfl, rfl, rfl⟩
    · refine ax_nx rfl rfl ?_
      refine ax_nx rfl rfl ?_
      rw [if_pos ⟨Int32.not_lt.mp h1, Int32.not_le.mp h2⟩]
      exact ax_retb rfl rfl (Or.inr rfl) ⟨_, rfl, rfl, rfl, rfl, rfl⟩
theorem q_Mo_out {c m : Int32} : ax_R d 7 0 (ax_in 7 [.int c, .int m]) [] (hp n xs f a o) k s (ax_V (fun v h' => v = some (.int (if 0 ≤ c ∧ c < m then 0 else 1)) ∧ h' = (hp n xs f a o)) k s) := by
  refine ax_nx rfl rfl ?_
  refine ax_if rfl rfl (fun h1 => ?_) (fun h1 => ?_)
  · refine ax_nx rfl rfl ?_
    have e : ¬ (0 ≤ c ∧ c < m) := fun h => absurd h1 (Int32.not_lt.mpr h.1)
    rw [if_neg e]
    refine ax_nx rfl rfl ?_
    exact ax_retb rfl rfl (Or.inr rfl) ⟨_, rfl, rfl, rfl, rfl, rfl⟩
  · refine ax_nx rfl rfl ?_
    refine ax_nx rfl rfl ?_
    refine ax_if rfl rfl (fun h2 => ?_) (fun h2 => ?_)
    · refine ax_nx rfl rfl ?_
      rw [if_pos ⟨Int32.not_lt.mp h1, h2⟩]
      exact ax_retb rfl rfl (Or.inl rfl) ⟨_, rfl, rfl, rfl, rfl, rfl⟩
    · refine ax_nx rfl rfl ?_
      refine ax_nx rfl rfl ?_
      have e : ¬ (0 ≤ c ∧ c < m) := fun h => h2 h.2
      rw [if_neg e]
      exact ax_retb rfl rfl (Or.inr rfl) ⟨_, rfl, rfl, rfl, rfl, rfl⟩
theorem q_Mo_push {t : Int32} {m : Nat} (hm : m < 64) (hd : f 16 = nI m) : ax_R d 4 0 (ax_in 4 [.ref 25, .int t]) [] (hp n xs f a o) k s (ax_V (fun v h' => v = none ∧ h' = hp n xs (upd f 16 (nI (m + 1))) (upda a 33 (upd (a 33) m t)) o) k s) := by
  refine ax_nx rfl rfl ?_
  refine ax_nx rfl rfl ?_
  refine ax_nx rfl rfl ?_
  refine ax_nx rfl rfl ?_
  refine ax_nx rfl rfl ?_
  rw [hd]
  refine ax_iasH (h2 := hp n xs f (upda a 33 (upd (a 33) m t)) o) rfl rfl (vp_in_nI (by omega) (by omega)) (by rw [nI_clamp (by omega)]; rfl) ?_
  refine ax_nx rfl rfl ?_
  refine ax_nx rfl rfl ?_
  refine ax_nx rfl rfl ?_
  refine ax_nx rfl rfl ?_
  refine ax_nx rfl rfl ?_
  rw [hd]
  refine ax_top (y := nI (m + 1)) (nI_1 m) ?_
  refine ax_nx (h' := hp n xs (upd f 16 (nI (m + 1))) (upda a 33 (upd (a 33) m t)) o) rfl rfl ?_
  exact ax_ret rfl rfl ⟨_, rfl, rfl, rfl, rfl, rfl⟩
theorem q_Ep_things : ax_R (d + 1) 79 0 (ax_in 79 [.ref 1]) [] (hp n xs f a o) k s (ax_V (fun v h' => v = some (.int (f 8)) ∧ h' = (hp n xs f a o)) k s) := by
  refine ax_nx rfl rfl ?_
  refine ax_nx rfl rfl ?_
  refine ax_cal rfl rfl q_size_Th (fun v h' hp => ?_)
  obtain ⟨rfl, rfl⟩ := hp
  exact ax_ret rfl rfl ⟨_, rfl, rfl, rfl, rfl, rfl⟩
theorem q_Ep_terms : ax_R (d + 1) 80 0 (ax_in 80 [.ref 1]) [] (hp n xs f a o) k s (ax_V (fun v h' => v = some (.int (f 7)) ∧ h' = (hp n xs f a o)) k s) := by
  refine ax_nx rfl rfl ?_
  refine ax_nx rfl rfl ?_
  refine ax_cal rfl rfl q_size_Te (fun v h' hp => ?_)
  obtain ⟨rfl, rfl⟩ := hp
  exact ax_ret rfl rfl ⟨_, rfl, rfl, rfl, rfl, rfl⟩
end HS
