section HWR
variable {n : Nat} {xs : Nat → Int32} {f : Nat → Int32} {a : Nat → Nat → Int32} {o : Nat → Int64} {d k s : Nat}
def wq (n : Nat) (xs : Nat → Int32) (o : Nat → Int64) (cs : List (Nat × Int32)) (Q : ax_P) (o1 : ax_O) (h' : ax_H) (k' s' : Nat) : Prop := ∃ f' a', h' = hp n xs f' a' o ∧ ((∃ v, o1 = .inl (some (.int v)) ∧ Q (.inl (some (.int 0))) (hp n xs f' a' (vp_updL o 0 v.toInt64)) k' s') ∨ ∃ e c, (e, c) ∈ cs ∧ o1 = .inr e ∧ Q (.inl (some (.int c))) (hp n xs f' a' o) k' s')
theorem q_W95 {p q r : Int32} {Q Q1 : ax_P} (hc : ax_R d 83 0 (ax_in 83 [.ref 1, .int p, .int q, .int r]) [] (hp n xs f a o) k s Q1) (hQ : ∀ o1 h1 k1 s1, Q1 o1 h1 k1 s1 → wq n xs o [(0, 1), (1, 2)] Q o1 h1 k1 s1) : ax_R (d + 1) 95 0 (ax_in 95 [.ref 1, .int p, .int q, .int r, .ref 45]) [] (hp n xs f a o) k s Q := by
  iterate 6 refine ax_nx rfl rfl ?_
  refine ax_call rfl rfl hc (fun o1 h1 k1 s1 hq => ?_)
  obtain ⟨f', a', rfl, hr⟩ := hQ o1 h1 k1 s1 hq
  rcases hr with ⟨v, rfl, hr⟩ | ⟨e, c, hm, rfl, hr⟩
  · refine Or.inl ⟨_, rfl, ?_⟩
    refine ax_nx rfl rfl ?_
    refine ax_lasH (h2 := hp n xs f' a' (vp_updL o 0 v.toInt64)) rfl rfl (vp_in_nI (n := 0) (by omega) (by omega)) rfl ?_
    iterate 2 refine ax_nx rfl rfl ?_
    exact ax_ret rfl rfl hr
  · simp only [List.mem_cons, Prod.mk.injEq, List.not_mem_nil, or_false] at hm
    rcases hm with ⟨rfl, rfl⟩ | ⟨rfl, rfl⟩
    · refine Or.inr ⟨0, 15, rfl, rfl, ?_⟩
      iterate 2 refine ax_nx rfl rfl ?_
      exact ax_ret rfl rfl hr
    · refine Or.inr ⟨1, 19, rfl, rfl, ?_⟩
      iterate 2 refine ax_nx rfl rfl ?_
      exact ax_ret rfl rfl hr
theorem q_W96 {p q r : Int32} {Q Q1 : ax_P} (hc : ax_R d 84 0 (ax_in 84 [.ref 1, .int p, .int q, .int r]) [] (hp n xs f a o) k s Q1) (hQ : ∀ o1 h1 k1 s1, Q1 o1 h1 k1 s1 → wq n xs o [(0, 1), (1, 2)] Q o1 h1 k1 s1) : ax_R (d + 1) 96 0 (ax_in 96 [.ref 1, .int p, .int q, .int r, .ref 45]) [] (hp n xs f a o) k s Q := by
  iterate 6 refine ax_nx rfl rfl ?_
  refine ax_call rfl rfl hc (fun o1 h1 k1 s1 hq => ?_)
  obtain ⟨f', a', rfl, hr⟩ := hQ o1 h1 k1 s1 hq
  rcases hr with ⟨v, rfl, hr⟩ | ⟨e, c, hm, rfl, hr⟩
  · refine Or.inl ⟨_, rfl, ?_⟩
    refine ax_nx rfl rfl ?_
    refine ax_lasH (h2 := hp n xs f' a' (vp_updL o 0 v.toInt64)) rfl rfl (vp_in_nI (n := 0) (by omega) (by omega)) rfl ?_
    iterate 2 refine ax_nx rfl rfl ?_
    exact ax_ret rfl rfl hr
  · simp only [List.mem_cons, Prod.mk.injEq, List.not_mem_nil, or_false] at hm
    rcases hm with ⟨rfl, rfl⟩ | ⟨rfl, rfl⟩
    · refine Or.inr ⟨0, 15, rfl, rfl, ?_⟩
      iterate 2 refine ax_nx rfl rfl ?_
      exact ax_ret rfl rfl hr
    · refine Or.inr ⟨1, 19, rfl, rfl, ?_⟩
      iterate 2 refine ax_nx rfl rfl ?_
      exact ax_ret rfl rfl hr
theorem q_W97 {Q Q1 : ax_P} (hc : ax_R d 85 0 (ax_in 85 [.ref 1]) [] (hp n xs f a o) k s Q1) (hQ : ∀ o1 h1 k1 s1, Q1 o1 h1 k1 s1 → wq n xs o [(1, 1)] Q o1 h1 k1 s1) : ax_R (d + 1) 97 0 (ax_in 97 [.ref 1, .ref 45]) [] (hp n xs f a o) k s Q := by
  iterate 3 refine ax_nx rfl rfl ?_
  refine ax_call rfl rfl hc (fun o1 h1 k1 s1 hq => ?_)
  obtain ⟨f', a', rfl, hr⟩ := hQ o1 h1 k1 s1 hq
  rcases hr with ⟨v, rfl, hr⟩ | ⟨e, c, hm, rfl, hr⟩
  · refine Or.inl ⟨_, rfl, ?_⟩
    refine ax_nx rfl rfl ?_
    refine ax_lasH (h2 := hp n xs f' a' (vp_updL o 0 v.toInt64)) rfl rfl (vp_in_nI (n := 0) (by omega) (by omega)) rfl ?_
    iterate 2 refine ax_nx rfl rfl ?_
    exact ax_ret rfl rfl hr
  · simp only [List.mem_cons, Prod.mk.injEq, List.not_mem_nil, or_false] at hm
    obtain ⟨rfl, rfl⟩ := hm
    refine Or.inr ⟨1, 11, rfl, rfl, ?_⟩
    iterate 2 refine ax_nx rfl rfl ?_
    exact ax_ret rfl rfl hr
theorem q_W98 {Q Q1 : ax_P} (hc : ax_R d 88 0 (ax_in 88 [.ref 1]) [] (hp n xs f a o) k s Q1) (hQ : ∀ o1 h1 k1 s1, Q1 o1 h1 k1 s1 → wq n xs o [(1, 1)] Q o1 h1 k1 s1) : ax_R (d + 1) 98 0 (ax_in 98 [.ref 1, .ref 45]) [] (hp n xs f a o) k s Q := by
  iterate 3 refine ax_nx rfl rfl ?_
  refine ax_call rfl rfl hc (fun o1 h1 k1 s1 hq => ?_)
  obtain ⟨f', a', rfl, hr⟩ := hQ o1 h1 k1 s1 hq
  rcases hr with ⟨v, rfl, hr⟩ | ⟨e, c, hm, rfl, hr⟩
  · refine Or.inl ⟨_, rfl, ?_⟩
    refine ax_nx rfl rfl ?_
    refine ax_lasH (h2 := hp n xs f' a' (vp_updL o 0 v.toInt64)) rfl rfl (vp_in_nI (n := 0) (by omega) (by omega)) rfl ?_
    iterate 2 refine ax_nx rfl rfl ?_
    exact ax_ret rfl rfl hr
  · simp only [List.mem_cons, Prod.mk.injEq, List.not_mem_nil, or_false] at hm
    obtain ⟨rfl, rfl⟩ := hm
    refine Or.inr ⟨1, 11, rfl, rfl, ?_⟩
    iterate 2 refine ax_nx rfl rfl ?_
    exact ax_ret rfl rfl hr
theorem q_W99 {Q Q1 : ax_P} (hc : ax_R d 89 0 (ax_in 89 [.ref 1]) [] (hp n xs f a o) k s Q1) (hQ : ∀ o1 h1 k1 s1, Q1 o1 h1 k1 s1 → wq n xs o [(1, 1)] Q o1 h1 k1 s1) : ax_R (d + 1) 99 0 (ax_in 99 [.ref 1, .ref 45]) [] (hp n xs f a o) k s Q := by
  iterate 3 refine ax_nx rfl rfl ?_
  refine ax_call rfl rfl hc (fun o1 h1 k1 s1 hq => ?_)
  obtain ⟨f', a', rfl, hr⟩ := hQ o1 h1 k1 s1 hq
  rcases hr with ⟨v, rfl, hr⟩ | ⟨e, c, hm, rfl, hr⟩
  · refine Or.inl ⟨_, rfl, ?_⟩
    refine ax_nx rfl rfl ?_
    refine ax_lasH (h2 := hp n xs f' a' (vp_updL o 0 v.toInt64)) rfl rfl (vp_in_nI (n := 0) (by omega) (by omega)) rfl ?_
    iterate 2 refine ax_nx rfl rfl ?_
    exact ax_ret rfl rfl hr
  · simp only [List.mem_cons, Prod.mk.injEq, List.not_mem_nil, or_false] at hm
    obtain ⟨rfl, rfl⟩ := hm
    refine Or.inr ⟨1, 11, rfl, rfl, ?_⟩
    iterate 2 refine ax_nx rfl rfl ?_
    exact ax_ret rfl rfl hr
theorem q_W101 {p : Int32} {Q Q1 : ax_P} (hc : ax_R d 91 0 (ax_in 91 [.ref 1, .int p]) [] (hp n xs f a o) k s Q1) (hQ : ∀ o1 h1 k1 s1, Q1 o1 h1 k1 s1 → wq n xs o [(0, 1), (2, 2)] Q o1 h1 k1 s1) : ax_R (d + 1) 101 0 (ax_in 101 [.ref 1, .int p, .ref 45]) [] (hp n xs f a o) k s Q := by
  iterate 4 refine ax_nx rfl rfl ?_
  refine ax_call rfl rfl hc (fun o1 h1 k1 s1 hq => ?_)
  obtain ⟨f', a', rfl, hr⟩ := hQ o1 h1 k1 s1 hq
  rcases hr with ⟨v, rfl, hr⟩ | ⟨e, c, hm, rfl, hr⟩
  · refine Or.inl ⟨_, rfl, ?_⟩
    refine ax_nx rfl rfl ?_
    refine ax_lasH (h2 := hp n xs f' a' (vp_updL o 0 v.toInt64)) rfl rfl (vp_in_nI (n := 0) (by omega) (by omega)) rfl ?_
    iterate 2 refine ax_nx rfl rfl ?_
    exact ax_ret rfl rfl hr
  · simp only [List.mem_cons, Prod.mk.injEq, List.not_mem_nil, or_false] at hm
    rcases hm with ⟨rfl, rfl⟩ | ⟨rfl, rfl⟩
    · refine Or.inr ⟨0, 12, rfl, rfl, ?_⟩
      iterate 2 refine ax_nx rfl rfl ?_
      exact ax_ret rfl rfl hr
    · refine Or.inr ⟨2, 15, rfl, rfl, ?_⟩
      iterate 2 refine ax_nx rfl rfl ?_
      exact ax_ret rfl rfl hr
theorem q_W102 {p : Int32} {Q Q1 : ax_P} (hc : ax_R d 92 0 (ax_in 92 [.ref 1, .int p]) [] (hp n xs f a o) k s Q1) (hQ : ∀ o1 h1 k1 s1, Q1 o1 h1 k1 s1 → wq n xs o [(0, 1)] Q o1 h1 k1 s1) : ax_R (d + 1) 102 0 (ax_in 102 [.ref 1, .int p, .ref 45]) [] (hp n xs f a o) k s Q := by
  iterate 4 refine ax_nx rfl rfl ?_
  refine ax_call rfl rfl hc (fun o1 h1 k1 s1 hq => ?_)
  obtain ⟨f', a', rfl, hr⟩ := hQ o1 h1 k1 s1 hq
  rcases hr with ⟨v, rfl, hr⟩ | ⟨e, c, hm, rfl, hr⟩
  · refine Or.inl ⟨_, rfl, ?_⟩
    refine ax_nx rfl rfl ?_
    refine ax_lasH (h2 := hp n xs f' a' (vp_updL o 0 v.toInt64)) rfl rfl (vp_in_nI (n := 0) (by omega) (by omega)) rfl ?_
    iterate 2 refine ax_nx rfl rfl ?_
    exact ax_ret rfl rfl hr
  · simp only [List.mem_cons, Prod.mk.injEq, List.not_mem_nil, or_false] at hm
    obtain ⟨rfl, rfl⟩ := hm
    refine Or.inr ⟨0, 12, rfl, rfl, ?_⟩
    iterate 2 refine ax_nx rfl rfl ?_
    exact ax_ret rfl rfl hr
theorem q_W103 {p q : Int32} {Q Q1 : ax_P} (hc : ax_R d 93 0 (ax_in 93 [.ref 1, .int p, .int q]) [] (hp n xs f a o) k s Q1) (hQ : ∀ o1 h1 k1 s1, Q1 o1 h1 k1 s1 → wq n xs o [(0, 1)] Q o1 h1 k1 s1) : ax_R (d + 1) 103 0 (ax_in 103 [.ref 1, .int p, .int q, .ref 45]) [] (hp n xs f a o) k s Q := by
  iterate 5 refine ax_nx rfl rfl ?_
  refine ax_call rfl rfl hc (fun o1 h1 k1 s1 hq => ?_)
  obtain ⟨f', a', rfl, hr⟩ := hQ o1 h1 k1 s1 hq
  rcases hr with ⟨v, rfl, hr⟩ | ⟨e, c, hm, rfl, hr⟩
  · refine Or.inl ⟨_, rfl, ?_⟩
    refine ax_nx rfl rfl ?_
    refine ax_lasH (h2 := hp n xs f' a' (vp_updL o 0 v.toInt64)) rfl rfl (vp_in_nI (n := 0) (by omega) (by omega)) rfl ?_
    iterate 2 refine ax_nx rfl rfl ?_
    exact ax_ret rfl rfl hr
  · simp only [List.mem_cons, Prod.mk.injEq, List.not_mem_nil, or_false] at hm
    obtain ⟨rfl, rfl⟩ := hm
    refine Or.inr ⟨0, 13, rfl, rfl, ?_⟩
    iterate 2 refine ax_nx rfl rfl ?_
    exact ax_ret rfl rfl hr
theorem q_W100 {p q r : Int32} {Q Q1 : ax_P} (hc : ax_R d 90 0 (ax_in 90 [.ref 1, .int p, .int q, .int r]) [] (hp n xs f a o) k s Q1) (hQ : ∀ o1 h1 k1 s1, Q1 o1 h1 k1 s1 → ∃ f' a', h1 = hp n xs f' a' o ∧ ((∃ b : Bool, o1 = .inl (some (.int (bI b))) ∧ Q (.inl (some (.int 0))) (hp n xs f' a' (vp_updL o 0 (if b = true then 1 else 0))) k1 s1) ∨ (o1 = .inr 0 ∧ Q (.inl (some (.int 1))) (hp n xs f' a' o) k1 s1))) : ax_R (d + 1) 100 0 (ax_in 100 [.ref 1, .int p, .int q, .int r, .ref 45]) [] (hp n xs f a o) k s Q := by
  iterate 6 refine ax_nx rfl rfl ?_
  refine ax_call rfl rfl hc (fun o1 h1 k1 s1 hq => ?_)
  obtain ⟨f', a', rfl, hr⟩ := hQ o1 h1 k1 s1 hq
  rcases hr with ⟨b, rfl, hr⟩ | ⟨rfl, hr⟩
  · refine Or.inl ⟨_, rfl, ?_⟩
    cases b with
    | true =>
      iterate 3 refine ax_nx rfl rfl ?_
      refine ax_lasH (h2 := hp n xs f' a' (vp_updL o 0 1)) rfl rfl (vp_in_nI (n := 0) (by omega) (by omega)) rfl ?_
      iterate 2 refine ax_nx rfl rfl ?_
      exact ax_ret rfl rfl hr
    | false =>
      iterate 2 refine ax_nx rfl rfl ?_
      refine ax_lasH (h2 := hp n xs f' a' (vp_updL o 0 0)) rfl rfl (vp_in_nI (n := 0) (by omega) (by omega)) rfl ?_
      iterate 2 refine ax_nx rfl rfl ?_
      exact ax_ret rfl rfl hr
  · refine Or.inr ⟨0, 22, rfl, rfl, ?_⟩
    iterate 2 refine ax_nx rfl rfl ?_
    exact ax_ret rfl rfl hr
end HWR
