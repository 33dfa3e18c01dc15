theorem wl_pairI0 : ∀ p q : Fin 8, (1 : Int32) <<< (((nI (max p.val q.val) * (nI (max p.val q.val) - 1)) / 2 + nI (min p.val q.val)) &&& 31) = wl_bit p.val q.val := by decide +kernel
theorem wl_pairI {p q : Nat} (hp : p < 8) (hq : q < 8) : (1 : Int32) <<< (((nI (max p q) * (nI (max p q) - 1)) / 2 + nI (min p q)) &&& 31) = wl_bit p q := wl_pairI0 ⟨p, hp⟩ ⟨q, hq⟩
def wl_am (m : Nat) : Int32 := ((1 : Int32) <<< (nI (m * (m - 1) / 2) &&& 31)) - 1
theorem wl_amI0 : ∀ m : Fin 9, ((1 : Int32) <<< (((nI m.val * (nI m.val - 1)) / 2) &&& 31)) - 1 = wl_am m.val := by decide +kernel
theorem wl_amI {m : Nat} (hm : m < 9) : ((1 : Int32) <<< (((nI m * (nI m - 1)) / 2) &&& 31)) - 1 = wl_am m := wl_amI0 ⟨m, hm⟩
section HP
variable {h : ax_H} {d k s : Nat}
theorem q_min {p q : Nat} (hp : p < 2 ^ 31) (hq : q < 2 ^ 31) : ax_R d 105 0 (ax_in 105 [.int (nI p), .int (nI q)]) [] h k s (ax_V (fun v h' => v = some (.int (nI (min p q))) ∧ h' = h) k s) := by
  refine ax_nx rfl rfl ?_
  refine ax_nx rfl rfl ?_
  refine ax_if rfl rfl (fun h1 => ?_) (fun h1 => ?_)
  · refine ax_nx rfl rfl ?_
    have e : min p q = q := by
      rcases Nat.lt_or_ge q p with h2 | h2
      · omega
      · exact absurd h1 (nI_nlt h2 hq)
    rw [e]
    exact ax_ret rfl rfl ⟨_, rfl, rfl, rfl, rfl, rfl⟩
  · refine ax_nx rfl rfl ?_
    refine ax_nx rfl rfl ?_
    have e : min p q = p := by
      rcases Nat.lt_or_ge q p with h2 | h2
      · exact absurd (nI_lt h2 hp) h1
      · omega
    rw [e]
    exact ax_ret rfl rfl ⟨_, rfl, rfl, rfl, rfl, rfl⟩
theorem q_max {p q : Nat} (hp : p < 2 ^ 31) (hq : q < 2 ^ 31) : ax_R d 106 0 (ax_in 106 [.int (nI p), .int (nI q)]) [] h k s (ax_V (fun v h' => v = some (.int (nI (max p q))) ∧ h' = h) k s) := by
  refine ax_nx rfl rfl ?_
  refine ax_nx rfl rfl ?_
  refine ax_if rfl rfl (fun h1 => ?_) (fun h1 => ?_)
  · refine ax_nx rfl rfl ?_
    have e : max p q = q := by
      rcases Nat.lt_or_ge p q with h2 | h2
      · omega
      · exact absurd h1 (nI_nlt h2 hp)
    rw [e]
    exact ax_ret rfl rfl ⟨_, rfl, rfl, rfl, rfl, rfl⟩
  · refine ax_nx rfl rfl ?_
    refine ax_nx rfl rfl ?_
    have e : max p q = p := by
      rcases Nat.lt_or_ge p q with h2 | h2
      · exact absurd (nI_lt h2 hq) h1
      · omega
    rw [e]
    exact ax_ret rfl rfl ⟨_, rfl, rfl, rfl, rfl, rfl⟩
theorem q_In_pair {p q : Nat} (hp : p < 8) (hq : q < 8) : ax_R (d + 1) 34 0 (ax_in 34 [.int (nI p), .int (nI q)]) [] h k s (ax_V (fun v h' => v = some (.int (wl_bit p q)) ∧ h' = h) k s) := by
  refine ax_nx rfl rfl ?_
  refine ax_nx rfl rfl ?_
  refine ax_cal rfl rfl (q_min (by omega) (by omega)) (fun v h' hh => ?_)
  obtain ⟨rfl, rfl⟩ := hh
  refine ax_nx rfl rfl ?_
  refine ax_nx rfl rfl ?_
  refine ax_nx rfl rfl ?_
  refine ax_cal rfl rfl (q_max (by omega) (by omega)) (fun v h' hh => ?_)
  obtain ⟨rfl, rfl⟩ := hh
  refine ax_nx rfl rfl ?_
  refine ax_nx rfl rfl ?_
  refine ax_nx rfl rfl ?_
  refine ax_nx rfl rfl ?_
  refine ax_nx rfl rfl ?_
  refine ax_nx rfl rfl ?_
  refine ax_nx rfl rfl ?_
  refine ax_nx rfl rfl ?_
  refine ax_nx rfl rfl ?_
  refine ax_nx rfl rfl ?_
  refine ax_nx rfl rfl ?_
  refine ax_nx rfl rfl ?_
  refine ax_top (y := wl_bit p q) (wl_pairI hp hq) ?_
  exact ax_ret rfl rfl ⟨_, rfl, rfl, rfl, rfl, rfl⟩
theorem q_In_among {m : Nat} (hm : m < 9) : ax_R d 35 0 (ax_in 35 [.int (nI m)]) [] h k s (ax_V (fun v h' => v = some (.int (wl_am m)) ∧ h' = h) k s) := by
  refine ax_nx rfl rfl ?_
  refine ax_nx rfl rfl ?_
  refine ax_nx rfl rfl ?_
  refine ax_nx rfl rfl ?_
  refine ax_nx rfl rfl ?_
  refine ax_nx rfl rfl ?_
  refine ax_nx rfl rfl ?_
  refine ax_nx rfl rfl ?_
  refine ax_nx rfl rfl ?_
  refine ax_nx rfl rfl ?_
  refine ax_nx rfl rfl ?_
  refine ax_top (y := wl_am m) (wl_amI hm) ?_
  exact ax_ret rfl rfl ⟨_, rfl, rfl, rfl, rfl, rfl⟩
end HP
