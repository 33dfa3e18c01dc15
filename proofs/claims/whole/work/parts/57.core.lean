section AX3
variable {d M pc : Nat} {al st : List Value} {h : ax_H} {k s : Nat} {Q : ax_P}
theorem ax_ia3 {len o n : Nat} {j : Int32} {r : List Value} {f : Nat → Int32} (hf : ax_fx M pc = some (.iaload, len)) (hh : h[o]? = some (.inl (3, n, .inl f))) (hb : vp_in j n) (kk : ax_R d M (pc + 1) al (.int (f j.toNatClampNeg) :: r) h k s Q) : ax_R d M pc al (.int j :: .ref o :: r) h k s Q :=
  ax_nx hf (by show ax_psh _ _ _ _ (ax_ald 0 h[o]? j) = _; rw [hh]; show ax_psh _ _ _ _ (if _ then _ else _) = _; rw [if_neg hb]; rfl) kk
end AX3
theorem lg_self (x : Int64) : lg_cmp x x = 0 := by unfold lg_cmp; simp
def ivx (f : Nat → Int32) (a : Nat → Nat → Int32) : Prop := ∃ c T Z K D I L, IV c T Z K D I L f a
def mm (n : Nat) (xs : Nat → Int32) (d M : Nat) (as : List Value) (cd v : Int32) (f1 : Nat → Int32) (a1 : Nat → Nat → Int32) : Prop := ∀ o' k' s', ax_R d M 0 (ax_in M as) [] (hp n xs f1 a1 o') k' s' (ax_V (fun w h' => ∃ f2 a2 b, h' = hp n xs f2 a2 o' ∧ w = some (.int b) ∧ f2 12 = cd ∧ (cd = 0 → b = v) ∧ ivx f2 a2) k' s')
def cc (n : Nat) (xs : Nat → Int32) (o : Nat → Int64) (k s : Nat) (cs : List (Nat × Int32)) (m : Int32 → Int32 → (Nat → Int32) → (Nat → Nat → Int32) → Prop) : ax_P := fun o1 h1 k1 s1 => ∃ f1 a1, h1 = hp n xs f1 a1 o ∧ k1 ≤ k + 1 ∧ s1 ≤ s + 6 ∧ ((∃ v, o1 = .inl (some (.int v)) ∧ m 0 v f1 a1) ∨ ∃ e c, (e, c) ∈ cs ∧ o1 = .inr e ∧ ¬ c = 0 ∧ m c 0 f1 a1)
def wr (n : Nat) (xs : Nat → Int32) (k s : Nat) (m : Int32 → Int32 → (Nat → Int32) → (Nat → Nat → Int32) → Prop) : ax_P := fun o1 h1 k1 s1 => ∃ f1 a1 o', h1 = hp n xs f1 a1 o' ∧ k1 ≤ k + 1 ∧ s1 ≤ s + 6 ∧ ∃ cd v, o1 = .inl (some (.int cd)) ∧ m cd v f1 a1 ∧ (cd = 0 → o' 0 = v.toInt64)
theorem cc_wr {n : Nat} {xs : Nat → Int32} {o : Nat → Int64} {k s : Nat} {cs : List (Nat × Int32)} {m : Int32 → Int32 → (Nat → Int32) → (Nat → Nat → Int32) → Prop} : ∀ o1 h1 k1 s1, cc n xs o k s cs m o1 h1 k1 s1 → wq n xs o cs (wr n xs k s m) o1 h1 k1 s1 := by
  rintro o1 h1 k1 s1 ⟨f1, a1, rfl, hk, hs, ⟨v, rfl, hm⟩ | ⟨e, c, hcs, rfl, hc, hm⟩⟩
  · exact ⟨f1, a1, rfl, Or.inl ⟨v, rfl, f1, a1, _, rfl, hk, hs, 0, v, rfl, hm, fun _ => if_pos rfl⟩⟩
  · exact ⟨f1, a1, rfl, Or.inr ⟨e, c, hcs, rfl, f1, a1, _, rfl, hk, hs, c, 0, rfl, hm, fun h => absurd h hc⟩⟩
def nx (n : Nat) (xs : Nat → Int32) (d i k s : Nat) (Q : ax_P) : Prop := ∀ (f' : Nat → Int32) (a' : Nat → Nat → Int32) (o' : Nat → Int64) (k' s' : Nat) (x5 x6 : Value), ivx f' a' → k' ≤ k + 1 → s' ≤ s + 6 → ax_R d 108 776 [.ref 0, .ref 1, .ref 25, .ref 45, .int (nI i), x5, x6] [] (hp n xs f' a' o') k' s' Q
section HCO
variable {n : Nat} {xs : Nat → Int32} {f : Nat → Int32} {a : Nat → Nat → Int32} {o : Nat → Int64} {d k s : Nat}
set_option maxRecDepth 8000 in
theorem core_term {i : Nat} {x5 x6 : Value} {Q : ax_P} (hi : i + 4 ≤ n) (hn : n ≤ 2049) (cls : ax_R (d + 58) 83 0 (ax_in 83 [.ref 1, .int (xs (i + 1)), .int (xs (i + 2)), .int (xs (i + 3))]) [] (hp n xs f a o) k s (cc n xs o k s [(0, 1), (1, 2)] (mm n xs (d + 59) 6 [.ref 25, .int (xs (i + 1)), .int (xs (i + 2)), .int (xs (i + 3))]))) (hnx : nx n xs (d + 60) i k s Q) : ax_R (d + 60) 108 120 [.ref 0, .ref 1, .ref 25, .ref 45, .int (nI i), x5, x6] [] (hp n xs f a o) k s Q := by
  iterate 5 refine ax_nx rfl rfl ?_
  refine ax_top (y := nI (i + 1)) (nI_add i 1) ?_
  refine ax_ia3 rfl rfl (vp_in_nI (by omega) (by omega)) ?_
  rw [nI_clamp (by omega)]
  iterate 4 refine ax_nx rfl rfl ?_
  refine ax_top (y := nI (i + 2)) (nI_add i 2) ?_
  refine ax_ia3 rfl rfl (vp_in_nI (by omega) (by omega)) ?_
  rw [nI_clamp (by omega)]
  iterate 4 refine ax_nx rfl rfl ?_
  refine ax_top (y := nI (i + 3)) (nI_add i 3) ?_
  refine ax_ia3 rfl rfl (vp_in_nI (by omega) (by omega)) ?_
  rw [nI_clamp (by omega)]
  refine ax_nx rfl rfl ?_
  refine ax_call rfl rfl (q_W95 (Q := wr n xs k s (mm n xs (d + 59) 6 [.ref 25, .int (xs (i + 1)), .int (xs (i + 2)), .int (xs (i + 3))])) cls cc_wr) (fun o1 h1 k1 s1 hq => ?_)
  obtain ⟨f1, a1, o', rfl, hk1, hs1, cd, v, rfl, hm, ho⟩ := hq
  refine Or.inl ⟨_, rfl, ?_⟩
  refine ax_nx (al' := [.ref 0, .ref 1, .ref 25, .ref 45, .int (nI i), .int cd, x6]) rfl rfl ?_
  iterate 5 refine ax_nx rfl rfl ?_
  refine ax_top (y := nI (i + 1)) (nI_add i 1) ?_
  refine ax_ia3 rfl rfl (vp_in_nI (by omega) (by omega)) ?_
  rw [nI_clamp (by omega)]
  iterate 4 refine ax_nx rfl rfl ?_
  refine ax_top (y := nI (i + 2)) (nI_add i 2) ?_
  refine ax_ia3 rfl rfl (vp_in_nI (by omega) (by omega)) ?_
  rw [nI_clamp (by omega)]
  iterate 4 refine ax_nx rfl rfl ?_
  refine ax_top (y := nI (i + 3)) (nI_add i 3) ?_
  refine ax_ia3 rfl rfl (vp_in_nI (by omega) (by omega)) ?_
  rw [nI_clamp (by omega)]
  refine ax_cal (d := d + 59) rfl rfl (hm o' k1 s1) (fun v h' hh => ?_)
  obtain ⟨f2, a2, b, rfl, rfl, h12, hb, hiv⟩ := hh
  refine ax_nx (al' := [.ref 0, .ref 1, .ref 25, .ref 45, .int (nI i), .int cd, .int b]) rfl rfl ?_
  refine ax_nx rfl rfl ?_
  refine ax_cal (d := d + 59) rfl rfl (q_Mo_thrown) (fun v h' hh => ?_)
  obtain ⟨rfl, rfl⟩ := hh
  rw [h12]
  refine ax_nx rfl rfl ?_
  refine ax_nxt rfl rfl (rfl) ?_
  refine ax_nx rfl rfl ?_
  by_cases hc : cd = 0
  · refine ax_nxt rfl rfl (hc) ?_
    iterate 2 refine ax_nx rfl rfl ?_
    refine ax_la rfl rfl (vp_in_nI (n := 0) (by omega) (by omega)) ?_
    iterate 3 refine ax_nx rfl rfl ?_
    refine ax_top (y := 0) (by show lg_cmp (o' 0) b.toInt64 = 0; rw [ho hc, hb hc]; exact lg_self _) ?_
    iterate 2 refine ax_nx rfl rfl ?_
    exact hnx f2 a2 o' k1 s1 _ _ hiv hk1 hs1
  · refine ax_nxf rfl rfl (hc) ?_
    refine ax_nx rfl rfl ?_
    exact hnx f2 a2 o' k1 s1 _ _ hiv hk1 hs1
set_option maxRecDepth 8000 in
theorem core_lit {i : Nat} {x5 x6 : Value} {Q : ax_P} (hi : i + 4 ≤ n) (hn : n ≤ 2049) {e : Bool} (he : e = decide (¬ xs (i + 3) = 0)) (cls : ax_R (d + 58) 84 0 (ax_in 84 [.ref 1, .int (xs (i + 1)), .int (xs (i + 2)), .int (bI e)]) [] (hp n xs f a o) k s (cc n xs o k s [(0, 1), (1, 2)] (mm n xs (d + 59) 9 [.ref 25, .int (xs (i + 1)), .int (xs (i + 2)), .int (bI e)]))) (hnx : nx n xs (d + 60) i k s Q) : ax_R (d + 60) 108 200 [.ref 0, .ref 1, .ref 25, .ref 45, .int (nI i), x5, x6] [] (hp n xs f a o) k s Q := by
  by_cases h3 : xs (i + 3) = 0
  · have he2 : e = false := by rw [he]; exact decide_eq_false (fun h => h h3)
    subst he2
    iterate 5 refine ax_nx rfl rfl ?_
    refine ax_top (y := nI (i + 1)) (nI_add i 1) ?_
    refine ax_ia3 rfl rfl (vp_in_nI (by omega) (by omega)) ?_
    rw [nI_clamp (by omega)]
    iterate 4 refine ax_nx rfl rfl ?_
    refine ax_top (y := nI (i + 2)) (nI_add i 2) ?_
    refine ax_ia3 rfl rfl (vp_in_nI (by omega) (by omega)) ?_
    rw [nI_clamp (by omega)]
    iterate 4 refine ax_nx rfl rfl ?_
    refine ax_top (y := nI (i + 3)) (nI_add i 3) ?_
    refine ax_ia3 rfl rfl (vp_in_nI (by omega) (by omega)) ?_
    rw [nI_clamp (by omega)]
    refine ax_nxt rfl rfl (h3) ?_
    iterate 2 refine ax_nx rfl rfl ?_
    refine ax_call rfl rfl (q_W96 (Q := wr n xs k s (mm n xs (d + 59) 9 [.ref 25, .int (xs (i + 1)), .int (xs (i + 2)), .int (bI false)])) cls cc_wr) (fun o1 h1 k1 s1 hq => ?_)
    obtain ⟨f1, a1, o', rfl, hk1, hs1, cd, v, rfl, hm, ho⟩ := hq
    refine Or.inl ⟨_, rfl, ?_⟩
    refine ax_nx (al' := [.ref 0, .ref 1, .ref 25, .ref 45, .int (nI i), .int cd, x6]) rfl rfl ?_
    iterate 5 refine ax_nx rfl rfl ?_
    refine ax_top (y := nI (i + 1)) (nI_add i 1) ?_
    refine ax_ia3 rfl rfl (vp_in_nI (by omega) (by omega)) ?_
    rw [nI_clamp (by omega)]
    iterate 4 refine ax_nx rfl rfl ?_
    refine ax_top (y := nI (i + 2)) (nI_add i 2) ?_
    refine ax_ia3 rfl rfl (vp_in_nI (by omega) (by omega)) ?_
    rw [nI_clamp (by omega)]
    iterate 4 refine ax_nx rfl rfl ?_
    refine ax_top (y := nI (i + 3)) (nI_add i 3) ?_
    refine ax_ia3 rfl rfl (vp_in_nI (by omega) (by omega)) ?_
    rw [nI_clamp (by omega)]
    refine ax_nxt rfl rfl (h3) ?_
    refine ax_nx rfl rfl ?_
    refine ax_cal (d := d + 59) rfl rfl (hm o' k1 s1) (fun v h' hh => ?_)
    obtain ⟨f2, a2, b, rfl, rfl, h12, hb, hiv⟩ := hh
    refine ax_nx (al' := [.ref 0, .ref 1, .ref 25, .ref 45, .int (nI i), .int cd, .int b]) rfl rfl ?_
    refine ax_nx rfl rfl ?_
    refine ax_cal (d := d + 59) rfl rfl (q_Mo_thrown) (fun v h' hh => ?_)
    obtain ⟨rfl, rfl⟩ := hh
    rw [h12]
    refine ax_nx rfl rfl ?_
    refine ax_nxt rfl rfl (rfl) ?_
    refine ax_nx rfl rfl ?_
    by_cases hc : cd = 0
    · refine ax_nxt rfl rfl (hc) ?_
      iterate 2 refine ax_nx rfl rfl ?_
      refine ax_la rfl rfl (vp_in_nI (n := 0) (by omega) (by omega)) ?_
      iterate 3 refine ax_nx rfl rfl ?_
      refine ax_top (y := 0) (by show lg_cmp (o' 0) b.toInt64 = 0; rw [ho hc, hb hc]; exact lg_self _) ?_
      iterate 2 refine ax_nx rfl rfl ?_
      exact hnx f2 a2 o' k1 s1 _ _ hiv hk1 hs1
    · refine ax_nxf rfl rfl (hc) ?_
      refine ax_nx rfl rfl ?_
      exact hnx f2 a2 o' k1 s1 _ _ hiv hk1 hs1
  · have he2 : e = true := by rw [he]; exact decide_eq_true h3
    subst he2
    iterate 5 refine ax_nx rfl rfl ?_
    refine ax_top (y := nI (i + 1)) (nI_add i 1) ?_
    refine ax_ia3 rfl rfl (vp_in_nI (by omega) (by omega)) ?_
    rw [nI_clamp (by omega)]
    iterate 4 refine ax_nx rfl rfl ?_
    refine ax_top (y := nI (i + 2)) (nI_add i 2) ?_
    refine ax_ia3 rfl rfl (vp_in_nI (by omega) (by omega)) ?_
    rw [nI_clamp (by omega)]
    iterate 4 refine ax_nx rfl rfl ?_
    refine ax_top (y := nI (i + 3)) (nI_add i 3) ?_
    refine ax_ia3 rfl rfl (vp_in_nI (by omega) (by omega)) ?_
    rw [nI_clamp (by omega)]
    refine ax_nxf rfl rfl (h3) ?_
    iterate 3 refine ax_nx rfl rfl ?_
    refine ax_call rfl rfl (q_W96 (Q := wr n xs k s (mm n xs (d + 59) 9 [.ref 25, .int (xs (i + 1)), .int (xs (i + 2)), .int (bI true)])) cls cc_wr) (fun o1 h1 k1 s1 hq => ?_)
    obtain ⟨f1, a1, o', rfl, hk1, hs1, cd, v, rfl, hm, ho⟩ := hq
    refine Or.inl ⟨_, rfl, ?_⟩
    refine ax_nx (al' := [.ref 0, .ref 1, .ref 25, .ref 45, .int (nI i), .int cd, x6]) rfl rfl ?_
    iterate 5 refine ax_nx rfl rfl ?_
    refine ax_top (y := nI (i + 1)) (nI_add i 1) ?_
    refine ax_ia3 rfl rfl (vp_in_nI (by omega) (by omega)) ?_
    rw [nI_clamp (by omega)]
    iterate 4 refine ax_nx rfl rfl ?_
    refine ax_top (y := nI (i + 2)) (nI_add i 2) ?_
    refine ax_ia3 rfl rfl (vp_in_nI (by omega) (by omega)) ?_
    rw [nI_clamp (by omega)]
    iterate 4 refine ax_nx rfl rfl ?_
    refine ax_top (y := nI (i + 3)) (nI_add i 3) ?_
    refine ax_ia3 rfl rfl (vp_in_nI (by omega) (by omega)) ?_
    rw [nI_clamp (by omega)]
    refine ax_nxf rfl rfl (h3) ?_
    iterate 2 refine ax_nx rfl rfl ?_
    refine ax_cal (d := d + 59) rfl rfl (hm o' k1 s1) (fun v h' hh => ?_)
    obtain ⟨f2, a2, b, rfl, rfl, h12, hb, hiv⟩ := hh
    refine ax_nx (al' := [.ref 0, .ref 1, .ref 25, .ref 45, .int (nI i), .int cd, .int b]) rfl rfl ?_
    refine ax_nx rfl rfl ?_
    refine ax_cal (d := d + 59) rfl rfl (q_Mo_thrown) (fun v h' hh => ?_)
    obtain ⟨rfl, rfl⟩ := hh
    rw [h12]
    refine ax_nx rfl rfl ?_
    refine ax_nxt rfl rfl (rfl) ?_
    refine ax_nx rfl rfl ?_
    by_cases hc : cd = 0
    · refine ax_nxt rfl rfl (hc) ?_
      iterate 2 refine ax_nx rfl rfl ?_
      refine ax_la rfl rfl (vp_in_nI (n := 0) (by omega) (by omega)) ?_
      iterate 3 refine ax_nx rfl rfl ?_
      refine ax_top (y := 0) (by show lg_cmp (o' 0) b.toInt64 = 0; rw [ho hc, hb hc]; exact lg_self _) ?_
      iterate 2 refine ax_nx rfl rfl ?_
      exact hnx f2 a2 o' k1 s1 _ _ hiv hk1 hs1
    · refine ax_nxf rfl rfl (hc) ?_
      refine ax_nx rfl rfl ?_
      exact hnx f2 a2 o' k1 s1 _ _ hiv hk1 hs1
set_option maxRecDepth 8000 in
theorem core_clause {i : Nat} {x5 x6 : Value} {Q : ax_P} (hi : i + 4 ≤ n) (hn : n ≤ 2049) (cls : ax_R (d + 58) 85 0 (ax_in 85 [.ref 1]) [] (hp n xs f a o) k s (cc n xs o k s [(1, 1)] (mm n xs (d + 59) 10 [.ref 25]))) (hnx : nx n xs (d + 60) i k s Q) : ax_R (d + 60) 108 296 [.ref 0, .ref 1, .ref 25, .ref 45, .int (nI i), x5, x6] [] (hp n xs f a o) k s Q := by
  iterate 2 refine ax_nx rfl rfl ?_
  refine ax_call rfl rfl (q_W97 (Q := wr n xs k s (mm n xs (d + 59) 10 [.ref 25])) cls cc_wr) (fun o1 h1 k1 s1 hq => ?_)
  obtain ⟨f1, a1, o', rfl, hk1, hs1, cd, v, rfl, hm, ho⟩ := hq
  refine Or.inl ⟨_, rfl, ?_⟩
  refine ax_nx (al' := [.ref 0, .ref 1, .ref 25, .ref 45, .int (nI i), .int cd, x6]) rfl rfl ?_
  refine ax_nx rfl rfl ?_
  refine ax_cal (d := d + 59) rfl rfl (hm o' k1 s1) (fun v h' hh => ?_)
  obtain ⟨f2, a2, b, rfl, rfl, h12, hb, hiv⟩ := hh
  refine ax_nx (al' := [.ref 0, .ref 1, .ref 25, .ref 45, .int (nI i), .int cd, .int b]) rfl rfl ?_
  refine ax_nx rfl rfl ?_
  refine ax_cal (d := d + 59) rfl rfl (q_Mo_thrown) (fun v h' hh => ?_)
  obtain ⟨rfl, rfl⟩ := hh
  rw [h12]
  refine ax_nx rfl rfl ?_
  refine ax_nxt rfl rfl (rfl) ?_
  refine ax_nx rfl rfl ?_
  by_cases hc : cd = 0
  · refine ax_nxt rfl rfl (hc) ?_
    iterate 2 refine ax_nx rfl rfl ?_
    refine ax_la rfl rfl (vp_in_nI (n := 0) (by omega) (by omega)) ?_
    iterate 3 refine ax_nx rfl rfl ?_
    refine ax_top (y := 0) (by show lg_cmp (o' 0) b.toInt64 = 0; rw [ho hc, hb hc]; exact lg_self _) ?_
    iterate 2 refine ax_nx rfl rfl ?_
    exact hnx f2 a2 o' k1 s1 _ _ hiv hk1 hs1
  · refine ax_nxf rfl rfl (hc) ?_
    refine ax_nx rfl rfl ?_
    exact hnx f2 a2 o' k1 s1 _ _ hiv hk1 hs1
set_option maxRecDepth 8000 in
theorem core_open {i : Nat} {x5 x6 : Value} {Q : ax_P} (hi : i + 4 ≤ n) (hn : n ≤ 2049) (cls : ax_R (d + 58) 88 0 (ax_in 88 [.ref 1]) [] (hp n xs f a o) k s (cc n xs o k s [(1, 1)] (mm n xs (d + 59) 15 [.ref 25]))) (hnx : nx n xs (d + 60) i k s Q) : ax_R (d + 60) 108 340 [.ref 0, .ref 1, .ref 25, .ref 45, .int (nI i), x5, x6] [] (hp n xs f a o) k s Q := by
  iterate 2 refine ax_nx rfl rfl ?_
  refine ax_call rfl rfl (q_W98 (Q := wr n xs k s (mm n xs (d + 59) 15 [.ref 25])) cls cc_wr) (fun o1 h1 k1 s1 hq => ?_)
  obtain ⟨f1, a1, o', rfl, hk1, hs1, cd, v, rfl, hm, ho⟩ := hq
  refine Or.inl ⟨_, rfl, ?_⟩
  refine ax_nx (al' := [.ref 0, .ref 1, .ref 25, .ref 45, .int (nI i), .int cd, x6]) rfl rfl ?_
  refine ax_nx rfl rfl ?_
  refine ax_cal (d := d + 59) rfl rfl (hm o' k1 s1) (fun v h' hh => ?_)
  obtain ⟨f2, a2, b, rfl, rfl, h12, hb, hiv⟩ := hh
  refine ax_nx (al' := [.ref 0, .ref 1, .ref 25, .ref 45, .int (nI i), .int cd, .int b]) rfl rfl ?_
  refine ax_nx rfl rfl ?_
  refine ax_cal (d := d + 59) rfl rfl (q_Mo_thrown) (fun v h' hh => ?_)
  obtain ⟨rfl, rfl⟩ := hh
  rw [h12]
  refine ax_nx rfl rfl ?_
  refine ax_nxt rfl rfl (rfl) ?_
  refine ax_nx rfl rfl ?_
  by_cases hc : cd = 0
  · refine ax_nxt rfl rfl (hc) ?_
    iterate 2 refine ax_nx rfl rfl ?_
    refine ax_la rfl rfl (vp_in_nI (n := 0) (by omega) (by omega)) ?_
    iterate 3 refine ax_nx rfl rfl ?_
    refine ax_top (y := 0) (by show lg_cmp (o' 0) b.toInt64 = 0; rw [ho hc, hb hc]; exact lg_self _) ?_
    iterate 2 refine ax_nx rfl rfl ?_
    exact hnx f2 a2 o' k1 s1 _ _ hiv hk1 hs1
  · refine ax_nxf rfl rfl (hc) ?_
    refine ax_nx rfl rfl ?_
    exact hnx f2 a2 o' k1 s1 _ _ hiv hk1 hs1
set_option maxRecDepth 8000 in
theorem core_close {i : Nat} {x5 x6 : Value} {Q : ax_P} (hi : i + 4 ≤ n) (hn : n ≤ 2049) (cls : ax_R (d + 58) 89 0 (ax_in 89 [.ref 1]) [] (hp n xs f a o) k s (cc n xs o k s [(1, 1)] (mm n xs (d + 59) 16 [.ref 25]))) (hnx : nx n xs (d + 60) i k s Q) : ax_R (d + 60) 108 384 [.ref 0, .ref 1, .ref 25, .ref 45, .int (nI i), x5, x6] [] (hp n xs f a o) k s Q := by
  iterate 2 refine ax_nx rfl rfl ?_
  refine ax_call rfl rfl (q_W99 (Q := wr n xs k s (mm n xs (d + 59) 16 [.ref 25])) cls cc_wr) (fun o1 h1 k1 s1 hq => ?_)
  obtain ⟨f1, a1, o', rfl, hk1, hs1, cd, v, rfl, hm, ho⟩ := hq
  refine Or.inl ⟨_, rfl, ?_⟩
  refine ax_nx (al' := [.ref 0, .ref 1, .ref 25, .ref 45, .int (nI i), .int cd, x6]) rfl rfl ?_
  refine ax_nx rfl rfl ?_
  refine ax_cal (d := d + 59) rfl rfl (hm o' k1 s1) (fun v h' hh => ?_)
  obtain ⟨f2, a2, b, rfl, rfl, h12, hb, hiv⟩ := hh
  refine ax_nx (al' := [.ref 0, .ref 1, .ref 25, .ref 45, .int (nI i), .int cd, .int b]) rfl rfl ?_
  refine ax_nx rfl rfl ?_
  refine ax_cal (d := d + 59) rfl rfl (q_Mo_thrown) (fun v h' hh => ?_)
  obtain ⟨rfl, rfl⟩ := hh
  rw [h12]
  refine ax_nx rfl rfl ?_
  refine ax_nxt rfl rfl (rfl) ?_
  refine ax_nx rfl rfl ?_
  by_cases hc : cd = 0
  · refine ax_nxt rfl rfl (hc) ?_
    iterate 2 refine ax_nx rfl rfl ?_
    refine ax_la rfl rfl (vp_in_nI (n := 0) (by omega) (by omega)) ?_
    iterate 3 refine ax_nx rfl rfl ?_
    refine ax_top (y := 0) (by show lg_cmp (o' 0) b.toInt64 = 0; rw [ho hc, hb hc]; exact lg_self _) ?_
    iterate 2 refine ax_nx rfl rfl ?_
    exact hnx f2 a2 o' k1 s1 _ _ hiv hk1 hs1
  · refine ax_nxf rfl rfl (hc) ?_
    refine ax_nx rfl rfl ?_
    exact hnx f2 a2 o' k1 s1 _ _ hiv hk1 hs1
set_option maxRecDepth 8000 in
theorem core_label {i : Nat} {x5 x6 : Value} {Q : ax_P} (hi : i + 4 ≤ n) (hn : n ≤ 2049) (cls : ax_R (d + 58) 91 0 (ax_in 91 [.ref 1, .int (xs (i + 1))]) [] (hp n xs f a o) k s (cc n xs o k s [(0, 1), (2, 2)] (mm n xs (d + 59) 26 [.ref 25, .int (xs (i + 1))]))) (hnx : nx n xs (d + 60) i k s Q) : ax_R (d + 60) 108 544 [.ref 0, .ref 1, .ref 25, .ref 45, .int (nI i), x5, x6] [] (hp n xs f a o) k s Q := by
  iterate 5 refine ax_nx rfl rfl ?_
  refine ax_top (y := nI (i + 1)) (nI_add i 1) ?_
  refine ax_ia3 rfl rfl (vp_in_nI (by omega) (by omega)) ?_
  rw [nI_clamp (by omega)]
  refine ax_nx rfl rfl ?_
  refine ax_call rfl rfl (q_W101 (Q := wr n xs k s (mm n xs (d + 59) 26 [.ref 25, .int (xs (i + 1))])) cls cc_wr) (fun o1 h1 k1 s1 hq => ?_)
  obtain ⟨f1, a1, o', rfl, hk1, hs1, cd, v, rfl, hm, ho⟩ := hq
  refine Or.inl ⟨_, rfl, ?_⟩
  refine ax_nx (al' := [.ref 0, .ref 1, .ref 25, .ref 45, .int (nI i), .int cd, x6]) rfl rfl ?_
  iterate 5 refine ax_nx rfl rfl ?_
  refine ax_top (y := nI (i + 1)) (nI_add i 1) ?_
  refine ax_ia3 rfl rfl (vp_in_nI (by omega) (by omega)) ?_
  rw [nI_clamp (by omega)]
  refine ax_cal (d := d + 59) rfl rfl (hm o' k1 s1) (fun v h' hh => ?_)
  obtain ⟨f2, a2, b, rfl, rfl, h12, hb, hiv⟩ := hh
  refine ax_nx (al' := [.ref 0, .ref 1, .ref 25, .ref 45, .int (nI i), .int cd, .int b]) rfl rfl ?_
  refine ax_nx rfl rfl ?_
  refine ax_cal (d := d + 59) rfl rfl (q_Mo_thrown) (fun v h' hh => ?_)
  obtain ⟨rfl, rfl⟩ := hh
  rw [h12]
  refine ax_nx rfl rfl ?_
  refine ax_nxt rfl rfl (rfl) ?_
  refine ax_nx rfl rfl ?_
  by_cases hc : cd = 0
  · refine ax_nxt rfl rfl (hc) ?_
    iterate 2 refine ax_nx rfl rfl ?_
    refine ax_la rfl rfl (vp_in_nI (n := 0) (by omega) (by omega)) ?_
    iterate 3 refine ax_nx rfl rfl ?_
    refine ax_top (y := 0) (by show lg_cmp (o' 0) b.toInt64 = 0; rw [ho hc, hb hc]; exact lg_self _) ?_
    iterate 2 refine ax_nx rfl rfl ?_
    exact hnx f2 a2 o' k1 s1 _ _ hiv hk1 hs1
  · refine ax_nxf rfl rfl (hc) ?_
    refine ax_nx rfl rfl ?_
    exact hnx f2 a2 o' k1 s1 _ _ hiv hk1 hs1
set_option maxRecDepth 8000 in
theorem core_thing {i : Nat} {x5 x6 : Value} {Q : ax_P} (hi : i + 4 ≤ n) (hn : n ≤ 2049) (cls : ax_R (d + 58) 92 0 (ax_in 92 [.ref 1, .int (xs (i + 1))]) [] (hp n xs f a o) k s (cc n xs o k s [(0, 1)] (mm n xs (d + 59) 27 [.ref 25, .int (xs (i + 1))]))) (hnx : nx n xs (d + 60) i k s Q) : ax_R (d + 60) 108 600 [.ref 0, .ref 1, .ref 25, .ref 45, .int (nI i), x5, x6] [] (hp n xs f a o) k s Q := by
  iterate 5 refine ax_nx rfl rfl ?_
  refine ax_top (y := nI (i + 1)) (nI_add i 1) ?_
  refine ax_ia3 rfl rfl (vp_in_nI (by omega) (by omega)) ?_
  rw [nI_clamp (by omega)]
  refine ax_nx rfl rfl ?_
  refine ax_call rfl rfl (q_W102 (Q := wr n xs k s (mm n xs (d + 59) 27 [.ref 25, .int (xs (i + 1))])) cls cc_wr) (fun o1 h1 k1 s1 hq => ?_)
  obtain ⟨f1, a1, o', rfl, hk1, hs1, cd, v, rfl, hm, ho⟩ := hq
  refine Or.inl ⟨_, rfl, ?_⟩
  refine ax_nx (al' := [.ref 0, .ref 1, .ref 25, .ref 45, .int (nI i), .int cd, x6]) rfl rfl ?_
  iterate 5 refine ax_nx rfl rfl ?_
  refine ax_top (y := nI (i + 1)) (nI_add i 1) ?_
  refine ax_ia3 rfl rfl (vp_in_nI (by omega) (by omega)) ?_
  rw [nI_clamp (by omega)]
  refine ax_cal (d := d + 59) rfl rfl (hm o' k1 s1) (fun v h' hh => ?_)
  obtain ⟨f2, a2, b, rfl, rfl, h12, hb, hiv⟩ := hh
  refine ax_nx (al' := [.ref 0, .ref 1, .ref 25, .ref 45, .int (nI i), .int cd, .int b]) rfl rfl ?_
  refine ax_nx rfl rfl ?_
  refine ax_cal (d := d + 59) rfl rfl (q_Mo_thrown) (fun v h' hh => ?_)
  obtain ⟨rfl, rfl⟩ := hh
  rw [h12]
  refine ax_nx rfl rfl ?_
  refine ax_nxt rfl rfl (rfl) ?_
  refine ax_nx rfl rfl ?_
  by_cases hc : cd = 0
  · refine ax_nxt rfl rfl (hc) ?_
    iterate 2 refine ax_nx rfl rfl ?_
    refine ax_la rfl rfl (vp_in_nI (n := 0) (by omega) (by omega)) ?_
    iterate 3 refine ax_nx rfl rfl ?_
    refine ax_top (y := 0) (by show lg_cmp (o' 0) b.toInt64 = 0; rw [ho hc, hb hc]; exact lg_self _) ?_
    iterate 2 refine ax_nx rfl rfl ?_
    exact hnx f2 a2 o' k1 s1 _ _ hiv hk1 hs1
  · refine ax_nxf rfl rfl (hc) ?_
    refine ax_nx rfl rfl ?_
    exact hnx f2 a2 o' k1 s1 _ _ hiv hk1 hs1
set_option maxRecDepth 8000 in
theorem core_look {i : Nat} {x5 x6 : Value} {Q : ax_P} (hi : i + 4 ≤ n) (hn : n ≤ 2049) (cls : ax_R (d + 58) 93 0 (ax_in 93 [.ref 1, .int (xs (i + 1)), .int (xs (i + 2))]) [] (hp n xs f a o) k s (cc n xs o k s [(0, 1)] (mm n xs (d + 59) 30 [.ref 25, .int (xs (i + 1)), .int (xs (i + 2))]))) (hnx : nx n xs (d + 60) i k s Q) : ax_R (d + 60) 108 682 [.ref 0, .ref 1, .ref 25, .ref 45, .int (nI i), x5, x6] [] (hp n xs f a o) k s Q := by
  iterate 5 refine ax_nx rfl rfl ?_
  refine ax_top (y := nI (i + 1)) (nI_add i 1) ?_
  refine ax_ia3 rfl rfl (vp_in_nI (by omega) (by omega)) ?_
  rw [nI_clamp (by omega)]
  iterate 4 refine ax_nx rfl rfl ?_
  refine ax_top (y := nI (i + 2)) (nI_add i 2) ?_
  refine ax_ia3 rfl rfl (vp_in_nI (by omega) (by omega)) ?_
  rw [nI_clamp (by omega)]
  refine ax_nx rfl rfl ?_
  refine ax_call rfl rfl (q_W103 (Q := wr n xs k s (mm n xs (d + 59) 30 [.ref 25, .int (xs (i + 1)), .int (xs (i + 2))])) cls cc_wr) (fun o1 h1 k1 s1 hq => ?_)
  obtain ⟨f1, a1, o', rfl, hk1, hs1, cd, v, rfl, hm, ho⟩ := hq
  refine Or.inl ⟨_, rfl, ?_⟩
  refine ax_nx (al' := [.ref 0, .ref 1, .ref 25, .ref 45, .int (nI i), .int cd, x6]) rfl rfl ?_
  iterate 5 refine ax_nx rfl rfl ?_
  refine ax_top (y := nI (i + 1)) (nI_add i 1) ?_
  refine ax_ia3 rfl rfl (vp_in_nI (by omega) (by omega)) ?_
  rw [nI_clamp (by omega)]
  iterate 4 refine ax_nx rfl rfl ?_
  refine ax_top (y := nI (i + 2)) (nI_add i 2) ?_
  refine ax_ia3 rfl rfl (vp_in_nI (by omega) (by omega)) ?_
  rw [nI_clamp (by omega)]
  refine ax_cal (d := d + 59) rfl rfl (hm o' k1 s1) (fun v h' hh => ?_)
  obtain ⟨f2, a2, b, rfl, rfl, h12, hb, hiv⟩ := hh
  refine ax_nx (al' := [.ref 0, .ref 1, .ref 25, .ref 45, .int (nI i), .int cd, .int b]) rfl rfl ?_
  refine ax_nx rfl rfl ?_
  refine ax_cal (d := d + 59) rfl rfl (q_Mo_thrown) (fun v h' hh => ?_)
  obtain ⟨rfl, rfl⟩ := hh
  rw [h12]
  refine ax_nx rfl rfl ?_
  refine ax_nxt rfl rfl (rfl) ?_
  refine ax_nx rfl rfl ?_
  by_cases hc : cd = 0
  · refine ax_nxt rfl rfl (hc) ?_
    iterate 2 refine ax_nx rfl rfl ?_
    refine ax_la rfl rfl (vp_in_nI (n := 0) (by omega) (by omega)) ?_
    iterate 3 refine ax_nx rfl rfl ?_
    refine ax_top (y := 0) (by show lg_cmp (o' 0) b.toInt64 = 0; rw [ho hc, hb hc]; exact lg_self _) ?_
    iterate 2 refine ax_nx rfl rfl ?_
    exact hnx f2 a2 o' k1 s1 _ _ hiv hk1 hs1
  · refine ax_nxf rfl rfl (hc) ?_
    refine ax_nx rfl rfl ?_
    exact hnx f2 a2 o' k1 s1 _ _ hiv hk1 hs1
set_option maxRecDepth 8000 in
theorem core_fol {i : Nat} {x5 x6 : Value} {Q : ax_P} (hi : i + 4 ≤ n) (hn : n ≤ 2049) {e : Bool} (he : e = decide (¬ xs (i + 3) = 0)) (cls : ax_R (d + 58) 90 0 (ax_in 90 [.ref 1, .int (xs (i + 1)), .int (xs (i + 2)), .int (bI e)]) [] (hp n xs f a o) k s (fun o1 h1 k1 s1 => ∃ f1 a1, h1 = hp n xs f1 a1 o ∧ k1 ≤ k + 1 ∧ s1 ≤ s + 6 ∧ ((∃ b : Bool, o1 = .inl (some (.int (bI b))) ∧ mm n xs (d + 59) 25 [.ref 25, .int (xs (i + 1)), .int (xs (i + 2)), .int (bI e)] 0 (bI b) f1 a1) ∨ (o1 = .inr 0 ∧ mm n xs (d + 59) 25 [.ref 25, .int (xs (i + 1)), .int (xs (i + 2)), .int (bI e)] 1 0 f1 a1)))) (hnx : nx n xs (d + 60) i k s Q) : ax_R (d + 60) 108 441 [.ref 0, .ref 1, .ref 25, .ref 45, .int (nI i), x5, x6] [] (hp n xs f a o) k s Q := by
  by_cases h3 : xs (i + 3) = 0
  · have he2 : e = false := by rw [he]; exact decide_eq_false (fun h => h h3)
    subst he2
    iterate 5 refine ax_nx rfl rfl ?_
    refine ax_top (y := nI (i + 1)) (nI_add i 1) ?_
    refine ax_ia3 rfl rfl (vp_in_nI (by omega) (by omega)) ?_
    rw [nI_clamp (by omega)]
    iterate 4 refine ax_nx rfl rfl ?_
    refine ax_top (y := nI (i + 2)) (nI_add i 2) ?_
    refine ax_ia3 rfl rfl (vp_in_nI (by omega) (by omega)) ?_
    rw [nI_clamp (by omega)]
    iterate 4 refine ax_nx rfl rfl ?_
    refine ax_top (y := nI (i + 3)) (nI_add i 3) ?_
    refine ax_ia3 rfl rfl (vp_in_nI (by omega) (by omega)) ?_
    rw [nI_clamp (by omega)]
    refine ax_nxt rfl rfl (h3) ?_
    iterate 2 refine ax_nx rfl rfl ?_
    refine ax_call rfl rfl (q_W100 (Q := fun o1 h1 k1 s1 => ∃ f1 a1 o', h1 = hp n xs f1 a1 o' ∧ k1 ≤ k + 1 ∧ s1 ≤ s + 6 ∧ ∃ cd : Int32, ∃ b : Bool, o1 = .inl (some (.int cd)) ∧ mm n xs (d + 59) 25 [.ref 25, .int (xs (i + 1)), .int (xs (i + 2)), .int (bI false)] cd (bI b) f1 a1 ∧ (cd = 0 → o' 0 = (if b = true then 1 else 0))) cls ?_) (fun o1 h1 k1 s1 hq => ?_)
    · rintro o1 h1 k1 s1 ⟨f1, a1, rfl, hk, hs, ⟨b, rfl, hm⟩ | ⟨rfl, hm⟩⟩
      · exact ⟨f1, a1, rfl, Or.inl ⟨b, rfl, f1, a1, _, rfl, hk, hs, 0, b, rfl, hm, fun _ => if_pos rfl⟩⟩
      · exact ⟨f1, a1, rfl, Or.inr ⟨rfl, f1, a1, _, rfl, hk, hs, 1, false, rfl, hm, fun h => absurd h (by decide)⟩⟩
    obtain ⟨f1, a1, o', rfl, hk1, hs1, cd, v, rfl, hm, ho⟩ := hq
    refine Or.inl ⟨_, rfl, ?_⟩
    refine ax_nx (al' := [.ref 0, .ref 1, .ref 25, .ref 45, .int (nI i), .int cd, x6]) rfl rfl ?_
    iterate 5 refine ax_nx rfl rfl ?_
    refine ax_top (y := nI (i + 1)) (nI_add i 1) ?_
    refine ax_ia3 rfl rfl (vp_in_nI (by omega) (by omega)) ?_
    rw [nI_clamp (by omega)]
    iterate 4 refine ax_nx rfl rfl ?_
    refine ax_top (y := nI (i + 2)) (nI_add i 2) ?_
    refine ax_ia3 rfl rfl (vp_in_nI (by omega) (by omega)) ?_
    rw [nI_clamp (by omega)]
    iterate 4 refine ax_nx rfl rfl ?_
    refine ax_top (y := nI (i + 3)) (nI_add i 3) ?_
    refine ax_ia3 rfl rfl (vp_in_nI (by omega) (by omega)) ?_
    rw [nI_clamp (by omega)]
    refine ax_nxt rfl rfl (h3) ?_
    refine ax_nx rfl rfl ?_
    refine ax_cal (d := d + 59) rfl rfl (hm o' k1 s1) (fun v h' hh => ?_)
    obtain ⟨f2, a2, b, rfl, rfl, h12, hb, hiv⟩ := hh
    refine ax_nx (al' := [.ref 0, .ref 1, .ref 25, .ref 45, .int (nI i), .int cd, .int b]) rfl rfl ?_
    refine ax_nx rfl rfl ?_
    refine ax_cal (d := d + 59) rfl rfl (q_Mo_thrown) (fun v h' hh => ?_)
    obtain ⟨rfl, rfl⟩ := hh
    rw [h12]
    refine ax_nx rfl rfl ?_
    refine ax_nxt rfl rfl (rfl) ?_
    refine ax_nx rfl rfl ?_
    by_cases hc : cd = 0
    · refine ax_nxt rfl rfl (hc) ?_
      iterate 2 refine ax_nx rfl rfl ?_
      refine ax_la rfl rfl (vp_in_nI (n := 0) (by omega) (by omega)) ?_
      have hb2 := hb hc
      subst hb2
      have ho2 := ho hc
      cases v with
      | true =>
        iterate 4 refine ax_nx rfl rfl ?_
        refine ax_nx rfl rfl ?_
        refine ax_top (y := 0) (by show lg_cmp (o' 0) 1 = 0; rw [ho2]; exact lg_self _) ?_
        iterate 2 refine ax_nx rfl rfl ?_
        exact hnx f2 a2 o' k1 s1 _ _ hiv hk1 hs1
      | false =>
        iterate 3 refine ax_nx rfl rfl ?_
        refine ax_nx rfl rfl ?_
        refine ax_top (y := 0) (by show lg_cmp (o' 0) 0 = 0; rw [ho2]; exact lg_self _) ?_
        iterate 2 refine ax_nx rfl rfl ?_
        exact hnx f2 a2 o' k1 s1 _ _ hiv hk1 hs1
    · refine ax_nxf rfl rfl (hc) ?_
      refine ax_nx rfl rfl ?_
      exact hnx f2 a2 o' k1 s1 _ _ hiv hk1 hs1
  · have he2 : e = true := by rw [he]; exact decide_eq_true h3
    subst he2
    iterate 5 refine ax_nx rfl rfl ?_
    refine ax_top (y := nI (i + 1)) (nI_add i 1) ?_
    refine ax_ia3 rfl rfl (vp_in_nI (by omega) (by omega)) ?_
    rw [nI_clamp (by omega)]
    iterate 4 refine ax_nx rfl rfl ?_
    refine ax_top (y := nI (i + 2)) (nI_add i 2) ?_
    refine ax_ia3 rfl rfl (vp_in_nI (by omega) (by omega)) ?_
    rw [nI_clamp (by omega)]
    iterate 4 refine ax_nx rfl rfl ?_
    refine ax_top (y := nI (i + 3)) (nI_add i 3) ?_
    refine ax_ia3 rfl rfl (vp_in_nI (by omega) (by omega)) ?_
    rw [nI_clamp (by omega)]
    refine ax_nxf rfl rfl (h3) ?_
    iterate 3 refine ax_nx rfl rfl ?_
    refine ax_call rfl rfl (q_W100 (Q := fun o1 h1 k1 s1 => ∃ f1 a1 o', h1 = hp n xs f1 a1 o' ∧ k1 ≤ k + 1 ∧ s1 ≤ s + 6 ∧ ∃ cd : Int32, ∃ b : Bool, o1 = .inl (some (.int cd)) ∧ mm n xs (d + 59) 25 [.ref 25, .int (xs (i + 1)), .int (xs (i + 2)), .int (bI true)] cd (bI b) f1 a1 ∧ (cd = 0 → o' 0 = (if b = true then 1 else 0))) cls ?_) (fun o1 h1 k1 s1 hq => ?_)
    · rintro o1 h1 k1 s1 ⟨f1, a1, rfl, hk, hs, ⟨b, rfl, hm⟩ | ⟨rfl, hm⟩⟩
      · exact ⟨f1, a1, rfl, Or.inl ⟨b, rfl, f1, a1, _, rfl, hk, hs, 0, b, rfl, hm, fun _ => if_pos rfl⟩⟩
      · exact ⟨f1, a1, rfl, Or.inr ⟨rfl, f1, a1, _, rfl, hk, hs, 1, false, rfl, hm, fun h => absurd h (by decide)⟩⟩
    obtain ⟨f1, a1, o', rfl, hk1, hs1, cd, v, rfl, hm, ho⟩ := hq
    refine Or.inl ⟨_, rfl, ?_⟩
    refine ax_nx (al' := [.ref 0, .ref 1, .ref 25, .ref 45, .int (nI i), .int cd, x6]) rfl rfl ?_
    iterate 5 refine ax_nx rfl rfl ?_
    refine ax_top (y := nI (i + 1)) (nI_add i 1) ?_
    refine ax_ia3 rfl rfl (vp_in_nI (by omega) (by omega)) ?_
    rw [nI_clamp (by omega)]
    iterate 4 refine ax_nx rfl rfl ?_
    refine ax_top (y := nI (i + 2)) (nI_add i 2) ?_
    refine ax_ia3 rfl rfl (vp_in_nI (by omega) (by omega)) ?_
    rw [nI_clamp (by omega)]
    iterate 4 refine ax_nx rfl rfl ?_
    refine ax_top (y := nI (i + 3)) (nI_add i 3) ?_
    refine ax_ia3 rfl rfl (vp_in_nI (by omega) (by omega)) ?_
    rw [nI_clamp (by omega)]
    refine ax_nxf rfl rfl (h3) ?_
    iterate 2 refine ax_nx rfl rfl ?_
    refine ax_cal (d := d + 59) rfl rfl (hm o' k1 s1) (fun v h' hh => ?_)
    obtain ⟨f2, a2, b, rfl, rfl, h12, hb, hiv⟩ := hh
    refine ax_nx (al' := [.ref 0, .ref 1, .ref 25, .ref 45, .int (nI i), .int cd, .int b]) rfl rfl ?_
    refine ax_nx rfl rfl ?_
    refine ax_cal (d := d + 59) rfl rfl (q_Mo_thrown) (fun v h' hh => ?_)
    obtain ⟨rfl, rfl⟩ := hh
    rw [h12]
    refine ax_nx rfl rfl ?_
    refine ax_nxt rfl rfl (rfl) ?_
    refine ax_nx rfl rfl ?_
    by_cases hc : cd = 0
    · refine ax_nxt rfl rfl (hc) ?_
      iterate 2 refine ax_nx rfl rfl ?_
      refine ax_la rfl rfl (vp_in_nI (n := 0) (by omega) (by omega)) ?_
      have hb2 := hb hc
      subst hb2
      have ho2 := ho hc
      cases v with
      | true =>
        iterate 4 refine ax_nx rfl rfl ?_
        refine ax_nx rfl rfl ?_
        refine ax_top (y := 0) (by show lg_cmp (o' 0) 1 = 0; rw [ho2]; exact lg_self _) ?_
        iterate 2 refine ax_nx rfl rfl ?_
        exact hnx f2 a2 o' k1 s1 _ _ hiv hk1 hs1
      | false =>
        iterate 3 refine ax_nx rfl rfl ?_
        refine ax_nx rfl rfl ?_
        refine ax_top (y := 0) (by show lg_cmp (o' 0) 0 = 0; rw [ho2]; exact lg_self _) ?_
        iterate 2 refine ax_nx rfl rfl ?_
        exact hnx f2 a2 o' k1 s1 _ _ hiv hk1 hs1
    · refine ax_nxf rfl rfl (hc) ?_
      refine ax_nx rfl rfl ?_
      exact hnx f2 a2 o' k1 s1 _ _ hiv hk1 hs1
set_option maxRecDepth 8000 in
theorem core_contra {i : Nat} {x5 x6 : Value} {Q : ax_P} (cls : ax_R (d + 59) 78 0 (ax_in 78 [.ref 1]) [] (hp n xs f a o) k s (ax_V (fun v h' => ∃ f1 a1 w, h' = hp n xs f1 a1 o ∧ v = some (.int w) ∧ ax_R (d + 59) 17 0 (ax_in 17 [.ref 25]) [] (hp n xs f1 a1 o) k s (ax_V (fun v h' => ∃ f2 a2, h' = hp n xs f2 a2 o ∧ v = some (.int w) ∧ ivx f2 a2) k s)) k s)) (hnx : nx n xs (d + 60) i k s Q) : ax_R (d + 60) 108 428 [.ref 0, .ref 1, .ref 25, .ref 45, .int (nI i), x5, x6] [] (hp n xs f a o) k s Q := by
  refine ax_nx rfl rfl ?_
  refine ax_cal (d := d + 59) rfl rfl (cls) (fun v h' hh => ?_)
  obtain ⟨f1, a1, w, rfl, rfl, hm⟩ := hh
  refine ax_nx rfl rfl ?_
  refine ax_cal (d := d + 59) rfl rfl (hm) (fun v h' hh => ?_)
  obtain ⟨f2, a2, rfl, rfl, hiv⟩ := hh
  refine ax_nxt rfl rfl (rfl) ?_
  exact hnx f2 a2 o k s _ _ hiv (by omega) (by omega)
set_option maxRecDepth 8000 in
theorem core_things {i : Nat} {x5 x6 : Value} {Q : ax_P} (cls : ax_R (d + 59) 79 0 (ax_in 79 [.ref 1]) [] (hp n xs f a o) k s (ax_V (fun v h' => ∃ f1 a1 w, h' = hp n xs f1 a1 o ∧ v = some (.int w) ∧ ax_R (d + 59) 28 0 (ax_in 28 [.ref 25]) [] (hp n xs f1 a1 o) k s (ax_V (fun v h' => ∃ f2 a2, h' = hp n xs f2 a2 o ∧ v = some (.int w) ∧ ivx f2 a2) k s)) k s)) (hnx : nx n xs (d + 60) i k s Q) : ax_R (d + 60) 108 656 [.ref 0, .ref 1, .ref 25, .ref 45, .int (nI i), x5, x6] [] (hp n xs f a o) k s Q := by
  refine ax_nx rfl rfl ?_
  refine ax_cal (d := d + 59) rfl rfl (cls) (fun v h' hh => ?_)
  obtain ⟨f1, a1, w, rfl, rfl, hm⟩ := hh
  refine ax_nx rfl rfl ?_
  refine ax_cal (d := d + 59) rfl rfl (hm) (fun v h' hh => ?_)
  obtain ⟨f2, a2, rfl, rfl, hiv⟩ := hh
  refine ax_nxt rfl rfl (rfl) ?_
  exact hnx f2 a2 o k s _ _ hiv (by omega) (by omega)
set_option maxRecDepth 8000 in
theorem core_terms {i : Nat} {x5 x6 : Value} {Q : ax_P} (cls : ax_R (d + 59) 80 0 (ax_in 80 [.ref 1]) [] (hp n xs f a o) k s (ax_V (fun v h' => ∃ f1 a1 w, h' = hp n xs f1 a1 o ∧ v = some (.int w) ∧ ax_R (d + 59) 29 0 (ax_in 29 [.ref 25]) [] (hp n xs f1 a1 o) k s (ax_V (fun v h' => ∃ f2 a2, h' = hp n xs f2 a2 o ∧ v = some (.int w) ∧ ivx f2 a2) k s)) k s)) (hnx : nx n xs (d + 60) i k s Q) : ax_R (d + 60) 108 669 [.ref 0, .ref 1, .ref 25, .ref 45, .int (nI i), x5, x6] [] (hp n xs f a o) k s Q := by
  refine ax_nx rfl rfl ?_
  refine ax_cal (d := d + 59) rfl rfl (cls) (fun v h' hh => ?_)
  obtain ⟨f1, a1, w, rfl, rfl, hm⟩ := hh
  refine ax_nx rfl rfl ?_
  refine ax_cal (d := d + 59) rfl rfl (hm) (fun v h' hh => ?_)
  obtain ⟨f2, a2, rfl, rfl, hiv⟩ := hh
  refine ax_nxt rfl rfl (rfl) ?_
  exact hnx f2 a2 o k s _ _ hiv (by omega) (by omega)
set_option maxRecDepth 8000 in
theorem core_clauses {i : Nat} {x5 x6 : Value} {Q : ax_P} (cls : ax_R (d + 59) 81 0 (ax_in 81 [.ref 1]) [] (hp n xs f a o) k s (ax_V (fun v h' => ∃ f1 a1 w, h' = hp n xs f1 a1 o ∧ v = some (.int w) ∧ ax_R (d + 59) 31 0 (ax_in 31 [.ref 25]) [] (hp n xs f1 a1 o) k s (ax_V (fun v h' => ∃ f2 a2, h' = hp n xs f2 a2 o ∧ v = some (.int w) ∧ ivx f2 a2) k s)) k s)) (hnx : nx n xs (d + 60) i k s Q) : ax_R (d + 60) 108 750 [.ref 0, .ref 1, .ref 25, .ref 45, .int (nI i), x5, x6] [] (hp n xs f a o) k s Q := by
  refine ax_nx rfl rfl ?_
  refine ax_cal (d := d + 59) rfl rfl (cls) (fun v h' hh => ?_)
  obtain ⟨f1, a1, w, rfl, rfl, hm⟩ := hh
  refine ax_nx rfl rfl ?_
  refine ax_cal (d := d + 59) rfl rfl (hm) (fun v h' hh => ?_)
  obtain ⟨f2, a2, rfl, rfl, hiv⟩ := hh
  refine ax_nxt rfl rfl (rfl) ?_
  exact hnx f2 a2 o k s _ _ hiv (by omega) (by omega)
set_option maxRecDepth 8000 in
theorem core_level {i : Nat} {x5 x6 : Value} {Q : ax_P} (cls : ax_R (d + 59) 82 0 (ax_in 82 [.ref 1]) [] (hp n xs f a o) k s (ax_V (fun v h' => ∃ f1 a1 w, h' = hp n xs f1 a1 o ∧ v = some (.int w) ∧ ax_R (d + 59) 32 0 (ax_in 32 [.ref 25]) [] (hp n xs f1 a1 o) k s (ax_V (fun v h' => ∃ f2 a2, h' = hp n xs f2 a2 o ∧ v = some (.int w) ∧ ivx f2 a2) k s)) k s)) (hnx : nx n xs (d + 60) i k s Q) : ax_R (d + 60) 108 763 [.ref 0, .ref 1, .ref 25, .ref 45, .int (nI i), x5, x6] [] (hp n xs f a o) k s Q := by
  refine ax_nx rfl rfl ?_
  refine ax_cal (d := d + 59) rfl rfl (cls) (fun v h' hh => ?_)
  obtain ⟨f1, a1, w, rfl, rfl, hm⟩ := hh
  refine ax_nx rfl rfl ?_
  refine ax_cal (d := d + 59) rfl rfl (hm) (fun v h' hh => ?_)
  obtain ⟨f2, a2, rfl, rfl, hiv⟩ := hh
  refine ax_nxt rfl rfl (rfl) ?_
  exact hnx f2 a2 o k s _ _ hiv (by omega) (by omega)
end HCO
