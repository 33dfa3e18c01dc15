theorem nI_has {x : Int32} {N : Nat} (h : 0 ≤ x ∧ x < nI N) (hN : N < 2 ^ 31) : ∃ j, x = nI j ∧ j < N := by
  obtain ⟨j, h1, rfl⟩ := nI_of (x := x) (Int32.not_lt.mpr h.1)
  exact ⟨j, rfl, (nI_ltI h1 hN).mp h.2⟩
theorem nI_has' {j N : Nat} (hj : j < N) (hN : N < 2 ^ 31) : 0 ≤ nI j ∧ nI j < nI N := ⟨nI_pos' (by omega), nI_lt hj hN⟩
def kdf (K : tm_T) (j : Nat) : Nat := match K[j]? with
  | some q => q.1
  | none => 0
def fif (K : tm_T) (j : Nat) : Nat := match K[j]? with
  | some q => q.2.1
  | none => 0
def sef (K : tm_T) (j : Nat) : Nat := match K[j]? with
  | some q => q.2.2
  | none => 0
theorem kz.le {c : Nat} {T : tm_T} {Z : List Nat} {K : tm_T} (h : kz T Z K) (hT : tm_wf c T) (hZ : th_wf c T Z) {j : Nat} {q : Nat × Nat × Nat} (hq : K[j]? = some q) : q.1 < 3 ∧ q.2.1 ≤ j ∧ q.2.2 ≤ j := by
  have hl := tm_lt hq
  rw [← h.1] at hl
  have hz : Z[j]? = some Z[j] := List.getElem?_eq_getElem hl
  generalize Z[j] = t at hz
  obtain ⟨e, q', h1, h2, h3⟩ := h.2 j t hz
  rw [hq] at h2
  cases h2
  rcases h3 with ⟨x, rfl, rfl⟩ | ⟨x, p, rfl, rfl, h4, -⟩ | ⟨x, y, p, r, rfl, rfl, h4, h5, -⟩
  · have hk := hT.2.2 t _ h1
    have : x = t ∧ t < c := by
      rcases hk with ⟨e, h⟩ | ⟨a', e, h⟩ | ⟨a', b', e, h⟩ | e | e
      · cases e; exact ⟨rfl, h⟩
      · cases e
      · cases e
      · cases e
      · cases e
    have hjt := hZ.1 j t t hz (hZ.2.1 t this.2)
    dsimp only
    omega
  · dsimp only; omega
  · dsimp only; omega
theorem ks_of {c : Nat} {T : tm_T} {Z : List Nat} {K : tm_T} {f : Nat → Int32} {a : Nat → Nat → Int32} (hz : zt_at K Z f a) (h : kz T Z K) (hT : tm_wf c T) (hZ : th_wf c T Z) {m : Nat} (hm : m < Z.length) : ks_at m (kdf K) (fif K) (sef K) a := by
  intro j hj
  have hl : j < K.length := by rw [← h.1]; omega
  have hq : K[j]? = some K[j] := List.getElem?_eq_getElem hl
  generalize K[j] = q at hq
  obtain ⟨h1, h2, h3, -⟩ := hz.2.2.1 j q hq
  have hle := h.le hT hZ hq
  unfold kdf fif sef
  rw [hq]
  dsimp only
  exact ⟨h1, h2, h3, by omega, by omega, by omega⟩
def wo (K : tm_T) (If : List wl_L) (v : Nat → Nat) : Prop := wl_W (kdf K) (fif K) (sef K) K.length If v
def bl_Q (n : Nat) (xs : Nat → Int32) (o : Nat → Int64) (N : Nat) (W : (Nat → Nat) → Prop) (f : Nat → Int32) (a : Nat → Nat → Int32) (k s : Nat) : ax_P := ax_V (fun r h' => ∃ g, h' = hp n xs f (upda a 12 g) o ∧ ((r = some (.int 1) ∧ ∃ w, lb_min N W w ∧ ∀ i, i < N → g i = nI (w i)) ∨ (r = some (.int 0) ∧ ∀ u, lb_ok N u → ¬ W u))) k s
theorem i3 {q : Int32} (h : q ≤ 2) : q < 3 := by
  rw [Int32.le_iff_toInt_le] at h
  rw [Int32.lt_iff_toInt_lt]
  have e2 : (2 : Int32).toInt = 2 := rfl
  have e3 : (3 : Int32).toInt = 3 := rfl
  omega
def et_Q (n : Nat) (xs : Nat → Int32) (o : Nat → Int64) (c : Nat) (T : tm_T) (R : tm_T × Nat) (f : Nat → Int32) (a : Nat → Nat → Int32) (k s : Nat) : ax_P := fun o1 h' k' s' => ∃ f' a', h' = hp n xs f' a' o ∧ ag [7] [16, 17, 18, 19] f a f' a' ∧ ((R.1.length ≤ 20 ∧ o1 = .inl (some (.int (nI R.2))) ∧ k' = k ∧ s' = s ∧ ct_at c R.1 f' a') ∨ (20 < R.1.length ∧ o1 = .inr 1 ∧ k' = k + 1 ∧ s' = s + 6 ∧ ct_at c T f' a'))
section HAS
variable {n : Nat} {xs : Nat → Int32} {f : Nat → Int32} {a : Nat → Nat → Int32} {o : Nat → Int64} {d k s : Nat}
theorem q_Wo_least {c : Nat} {T : tm_T} {Z : List Nat} {K : tm_T} {If : List wl_L} (hz : zt_at K Z f a) (h : kz T Z K) (hT : tm_wf c T) (hZ : th_wf c T Z) (hc0 : 0 < c) (hI : ∀ l, l ∈ If → wl_in Z.length l) (hc : ci_at (If.filterMap wl_kp) f a) : ax_R (d + 12) 72 0 (ax_in 72 [.ref 11, .ref 20, .ref 8]) [] (hp n xs f a o) k s (bl_Q n xs o Z.length (wo K If) f a k s) := by
  have h8 : f 8 = nI Z.length := by rw [hz.2.2.2.1]; exact hz.2.1
  have hN8 : Z.length ≤ 8 := by rw [hz.2.2.2.1]; exact hz.1
  have hN0 : 0 < Z.length := Nat.lt_of_le_of_lt (Nat.zero_le _) (tm_lt (hZ.2.1 0 hc0))
  have hiff : ∀ v, wo K If v ↔ ∀ j, j < Z.length → wl_C (kdf K) (fif K) (sef K) (If.filterMap wl_kp) v j := fun v => by
    unfold wo
    rw [← h.1]
    exact wl_iff hN0 hN8 hI
  iterate 5 refine ax_nx rfl rfl ?_
  refine ax_call rfl rfl ((q_place (n := n) (xs := xs) (f := f) (o := o) (k := k) (s := s) hN8 h8 Z.length 0 (by omega) (fun _ => 0) 0 a (fun m hm => ks_of hz h hT hZ hm) hc (fun i hi => absurd hi (Nat.not_lt_zero _)) (fun j hj => absurd hj (Nat.not_lt_zero _)) (fun j hj => absurd hj (Nat.not_lt_zero _)) (fun b hb => ⟨fun h9 => absurd h9 (by rw [b_0]; decide), fun ⟨i, j, h9, h10, _⟩ => absurd h10 (Nat.not_lt_zero _)⟩)).deep (show Z.length + 3 ≤ d + 11 by omega)) (fun o1 h1 k1 s1 hq => ?_)
  obtain ⟨r, rfl, rfl, rfl, g, rfl, hh⟩ := hq
  refine Or.inl ⟨r, rfl, ?_⟩
  rcases hh with ⟨rfl, w, hw, hw2⟩ | ⟨rfl, -, hno⟩
  · have hm := hw.min
    refine ax_retb rfl rfl (Or.inr rfl) ⟨_, rfl, rfl, rfl, g, rfl, Or.inl ⟨rfl, w, ⟨hm.1, (hiff w).mpr hm.2.1, fun u hu hu2 => hm.2.2 u hu ((hiff u).mp hu2)⟩, hw2⟩⟩
  · exact ax_retb rfl rfl (Or.inl rfl) ⟨_, rfl, rfl, rfl, g, rfl, Or.inr ⟨rfl, fun u hu hu2 => hno u ⟨hu, fun i hi => absurd hi (Nat.not_lt_zero _)⟩ ((hiff u).mp hu2)⟩⟩
theorem q_Ep_contra {N : Nat} {W : (Nat → Nat) → Prop} (hl : ax_R d 72 0 (ax_in 72 [.ref 11, .ref 20, .ref 8]) [] (hp n xs f a o) k s (bl_Q n xs o N W f a k s)) : ax_R (d + 1) 78 0 (ax_in 78 [.ref 1]) [] (hp n xs f a o) k s (ax_V (fun v h' => ∃ g, h' = hp n xs f (upda a 12 g) o ∧ ∃ b : Bool, v = some (.int (bI b)) ∧ (b = true ↔ ∀ u, lb_ok N u → ¬ W u)) k s) := by
  iterate 6 refine ax_nx rfl rfl ?_
  refine ax_cal (d := d) rfl rfl (hl) (fun v h' hh => ?_)
  obtain ⟨g, rfl, hh⟩ := hh
  rcases hh with ⟨rfl, w, hw, -⟩ | ⟨rfl, hno⟩
  · iterate 2 refine ax_nx rfl rfl ?_
    exact ax_retb rfl rfl (Or.inl rfl) ⟨_, rfl, rfl, rfl, g, rfl, false, rfl, iff_of_false (by decide) (fun h9 => h9 w hw.1 hw.2.1)⟩
  · iterate 3 refine ax_nx rfl rfl ?_
    exact ax_retb rfl rfl (Or.inr rfl) ⟨_, rfl, rfl, rfl, g, rfl, true, rfl, iff_of_true rfl hno⟩
theorem q_Ep_label_no {c : Int32} (h : ¬ (0 ≤ c ∧ c < f 8)) : ax_R (d + 1) 91 0 (ax_in 91 [.ref 1, .int c]) [] (hp n xs f a o) k s (ax_T 0 (hp n xs f a o) k s) := by
  iterate 3 refine ax_nx rfl rfl ?_
  refine ax_cal rfl rfl (q_has_Th) (fun v h' hh => ?_)
  obtain ⟨rfl, rfl⟩ := hh
  rw [if_neg h]
  refine ax_nx rfl rfl ?_
  exact ax_thr rfl rfl ⟨rfl, rfl, rfl, rfl⟩
theorem q_Ep_label {N j : Nat} {W : (Nat → Nat) → Prop} (h8 : f 8 = nI N) (hj : j < N) (hN : N ≤ 8) (hl : ax_R d 72 0 (ax_in 72 [.ref 11, .ref 20, .ref 8]) [] (hp n xs f a o) k s (bl_Q n xs o N W f a k s)) : ax_R (d + 1) 91 0 (ax_in 91 [.ref 1, .int (nI j)]) [] (hp n xs f a o) k s (fun o1 h' k' s' => ∃ g, h' = hp n xs f (upda a 12 g) o ∧ ((o1 = .inr 2 ∧ k' = k + 1 ∧ s' = s + 6 ∧ ∀ u, lb_ok N u → ¬ W u) ∨ (k' = k ∧ s' = s ∧ ∃ w, lb_min N W w ∧ o1 = .inl (some (.int (nI (w j))))))) := by
  iterate 3 refine ax_nx rfl rfl ?_
  refine ax_cal rfl rfl (q_has_Th) (fun v h' hh => ?_)
  obtain ⟨rfl, rfl⟩ := hh
  rw [h8, if_pos (nI_has' hj (by omega))]
  iterate 7 refine ax_nx rfl rfl ?_
  refine ax_cal (d := d) rfl rfl (hl) (fun v h' hh => ?_)
  obtain ⟨g, rfl, hh⟩ := hh
  rcases hh with ⟨rfl, w, hw, hw2⟩ | ⟨rfl, hno⟩
  · iterate 4 refine ax_nx rfl rfl ?_
    refine ax_cal rfl rfl (q_Wo_label (by omega)) (fun v h' hh => ?_)
    obtain ⟨rfl, rfl⟩ := hh
    refine ax_top (y := nI (w j)) (hw2 j hj) ?_
    exact ax_ret rfl rfl ⟨g, rfl, Or.inr ⟨rfl, rfl, w, hw, rfl⟩⟩
  · refine ax_nx rfl rfl ?_
    exact ax_thr rfl rfl ⟨g, rfl, Or.inl ⟨rfl, rfl, rfl, hno⟩⟩
theorem q_Ep_follows_no {p q z : Int32} (h : ¬ ((0 ≤ p ∧ p < f 8) ∧ 0 ≤ q ∧ q < f 8)) : ax_R (d + 1) 90 0 (ax_in 90 [.ref 1, .int p, .int q, .int z]) [] (hp n xs f a o) k s (ax_T 0 (hp n xs f a o) k s) := by
  by_cases hp1 : 0 ≤ p ∧ p < f 8
  · iterate 3 refine ax_nx rfl rfl ?_
    refine ax_cal rfl rfl (q_has_Th) (fun v h' hh => ?_)
    obtain ⟨rfl, rfl⟩ := hh
    rw [if_pos hp1]
    iterate 4 refine ax_nx rfl rfl ?_
    refine ax_cal rfl rfl (q_has_Th) (fun v h' hh => ?_)
    obtain ⟨rfl, rfl⟩ := hh
    rw [if_neg (fun h9 => h ⟨hp1, h9⟩)]
    refine ax_nx rfl rfl ?_
    exact ax_thr rfl rfl ⟨rfl, rfl, rfl, rfl⟩
  · iterate 3 refine ax_nx rfl rfl ?_
    refine ax_cal rfl rfl (q_has_Th) (fun v h' hh => ?_)
    obtain ⟨rfl, rfl⟩ := hh
    rw [if_neg hp1]
    refine ax_nx rfl rfl ?_
    exact ax_thr rfl rfl ⟨rfl, rfl, rfl, rfl⟩
theorem q_Ep_follows {c : Nat} {T : tm_T} {Z : List Nat} {K : tm_T} {If : List wl_L} (hz : zt_at K Z f a) (h : kz T Z K) (hT : tm_wf c T) (hZ : th_wf c T Z) (hc0 : 0 < c) (hI : ∀ l, l ∈ If → wl_in Z.length l) (hc : ci_at (If.filterMap wl_kp) f a) (hP : (If.filterMap wl_kp).length < 257) {p q : Nat} (hp9 : p < Z.length) (hq9 : q < Z.length) (e : Bool) : ax_R (d + 13) 90 0 (ax_in 90 [.ref 1, .int (nI p), .int (nI q), .int (bI e)]) [] (hp n xs f a o) k s (ax_V (fun v h' => ∃ f' a', h' = hp n xs f' a' o ∧ ag [1, 2, 3, 4] [9, 10, 12] f a f' a' ∧ ci_at (If.filterMap wl_kp) f' a' ∧ ∃ b : Bool, v = some (.int (bI b)) ∧ (b = true ↔ ∀ u, lb_ok Z.length u → ¬ wo K (If ++ [[(p, q, !e)]]) u)) k s) := by
  have h8 : f 8 = nI Z.length := by rw [hz.2.2.2.1]; exact hz.2.1
  have hN8 : Z.length ≤ 8 := by rw [hz.2.2.2.1]; exact hz.1
  iterate 3 refine ax_nx rfl rfl ?_
  refine ax_cal rfl rfl (q_has_Th) (fun v h' hh => ?_)
  obtain ⟨rfl, rfl⟩ := hh
  rw [h8, if_pos (nI_has' hp9 (by omega))]
  iterate 4 refine ax_nx rfl rfl ?_
  refine ax_cal rfl rfl (q_has_Th) (fun v h' hh => ?_)
  obtain ⟨rfl, rfl⟩ := hh
  rw [h8, if_pos (nI_has' hq9 (by omega))]
  iterate 3 refine ax_nx rfl rfl ?_
  refine ax_cal rfl rfl (q_In_size) (fun v h' hh => ?_)
  obtain ⟨rfl, rfl⟩ := hh
  rw [hc.1]
  refine ax_nx (al' := [.ref 1, .int (nI p), .int (nI q), .int (bI e), .int (nI (If.filterMap wl_kp).length), ax_u]) rfl rfl ?_
  iterate 2 refine ax_nx rfl rfl ?_
  refine ax_cal rfl rfl (q_In_begin) (fun v h' hh => ?_)
  obtain ⟨rfl, rfl⟩ := hh
  iterate 5 refine ax_nx rfl rfl ?_
  have g0 : ag [2, 3, 4] [] f a (upd (upd (upd f 2 0) 3 0) 4 0) a := by
    refine ⟨fun j hj => ?_, fun _ _ => rfl⟩
    simp only [List.mem_cons, List.not_mem_nil, or_false, not_or] at hj
    simp [upd, hj]
  have go : ax_R (d + 13) 90 63 [.ref 1, .int (nI p), .int (nI q), .int (bI e), .int (nI (If.filterMap wl_kp).length), ax_u] [.int (bI (!e)), .int (nI q), .int (nI p), .ref 8] (hp n xs (upd (upd (upd f 2 0) 3 0) 4 0) a o) k s (ax_V (fun v h' => ∃ f' a', h' = hp n xs f' a' o ∧ ag [1, 2, 3, 4] [9, 10, 12] f a f' a' ∧ ci_at (If.filterMap wl_kp) f' a' ∧ ∃ b : Bool, v = some (.int (bI b)) ∧ (b = true ↔ ∀ u, lb_ok Z.length u → ¬ wo K (If ++ [[(p, q, !e)]]) u)) k s) := by
    refine ax_cal (d := d + 12) rfl rfl (q_In_join (d := d + 10) (l := []) nd_begin (by omega) (by omega) (!e)) (fun v h' hh => ?_)
    obtain ⟨rfl, f1, rfl, g1, hn1⟩ := hh
    rw [List.nil_append] at hn1
    have hc1 := (hc.kept g0 (by decide) (by decide)).kept g1 (by decide) (by decide)
    iterate 2 refine ax_nx rfl rfl ?_
    refine ax_cal rfl rfl (q_In_finish hn1 hc1 hP) (fun v h' hh => ?_)
    obtain ⟨rfl, f2, a2, rfl, g2, hc2⟩ := hh
    iterate 6 refine ax_nx rfl rfl ?_
    have hI2 : ∀ l, l ∈ If ++ [[(p, q, !e)]] → wl_in Z.length l := by
      intro l hl
      rcases List.mem_append.mp hl with hl | hl
      · exact hI l hl
      · rw [List.mem_singleton.mp hl]
        intro w hw
        rw [List.mem_singleton.mp hw]
        exact ⟨hp9, hq9⟩
    have hfm : (If ++ [[(p, q, !e)]]).filterMap wl_kp = If.filterMap wl_kp ++ (wl_kp [(p, q, !e)]).toList := by
      rw [List.filterMap_append]
      congr 1
    rw [← hfm] at hc2
    have hz2 := ((hz.kept g0 (by decide) (by decide)).kept g1 (by decide) (by decide)).kept g2 (by decide) (by decide)
    have gall : ag [1, 2, 3, 4] [9, 10, 12] f a f2 a2 := ((g0.wide (by simp) (by simp)).trans (g1.wide (by simp) (by simp))).trans (g2.wide (by simp) (by simp))
    have hci : ∀ g, ci_at (If.filterMap wl_kp) (upd f2 1 (nI (If.filterMap wl_kp).length)) (upda a2 12 g) := by
      intro g
      have := hc2.take (m := (If.filterMap wl_kp).length) (by rw [hfm, List.length_append]; omega)
      rw [hfm, List.take_left] at this
      exact this
    have gfin : ∀ g, ag [1, 2, 3, 4] [9, 10, 12] f a (upd f2 1 (nI (If.filterMap wl_kp).length)) (upda a2 12 g) := fun g => gall.trans ⟨fun j hj => if_neg (fun h9 => hj (by rw [h9]; decide)), fun j hj => if_neg (fun h9 => hj (by rw [h9]; decide))⟩
    refine ax_cal (d := d + 12) rfl rfl (q_Wo_least (d := d) hz2 h hT hZ hc0 hI2 hc2) (fun v h' hh => ?_)
    obtain ⟨g, rfl, hh⟩ := hh
    rcases hh with ⟨rfl, w, hw, -⟩ | ⟨rfl, hno⟩
    · iterate 2 refine ax_nx rfl rfl ?_
      refine ax_nx (al' := [.ref 1, .int (nI p), .int (nI q), .int (bI e), .int (nI (If.filterMap wl_kp).length), .int 0]) rfl rfl ?_
      iterate 3 refine ax_nx rfl rfl ?_
      refine ax_cal rfl rfl (q_In_shrink (c := nI (If.filterMap wl_kp).length)) (fun v h' hh => ?_)
      obtain ⟨rfl, rfl⟩ := hh
      refine ax_nx rfl rfl ?_
      exact ax_retb rfl rfl (Or.inl rfl) ⟨_, rfl, rfl, rfl, _, _, rfl, gfin g, hci g, false, rfl, iff_of_false (by decide) (fun h9 => h9 w hw.1 hw.2.1)⟩
    · iterate 3 refine ax_nx rfl rfl ?_
      refine ax_nx (al' := [.ref 1, .int (nI p), .int (nI q), .int (bI e), .int (nI (If.filterMap wl_kp).length), .int 1]) rfl rfl ?_
      iterate 3 refine ax_nx rfl rfl ?_
      refine ax_cal rfl rfl (q_In_shrink (c := nI (If.filterMap wl_kp).length)) (fun v h' hh => ?_)
      obtain ⟨rfl, rfl⟩ := hh
      refine ax_nx rfl rfl ?_
      exact ax_retb rfl rfl (Or.inr rfl) ⟨_, rfl, rfl, rfl, _, _, rfl, gfin g, hci g, true, rfl, iff_of_true rfl hno⟩
  cases e with
  | true =>
    iterate 2 refine ax_nx rfl rfl ?_
    exact go
  | false =>
    iterate 3 refine ax_nx rfl rfl ?_
    exact go
theorem q_Ep_lit_no {p q z : Int32} (h : ¬ ((0 ≤ p ∧ p < f 7) ∧ 0 ≤ q ∧ q < f 7)) : ax_R (d + 1) 84 0 (ax_in 84 [.ref 1, .int p, .int q, .int z]) [] (hp n xs f a o) k s (ax_T 0 (hp n xs f a o) k s) := by
  by_cases hp1 : 0 ≤ p ∧ p < f 7
  · iterate 3 refine ax_nx rfl rfl ?_
    refine ax_cal rfl rfl (q_has_Te) (fun v h' hh => ?_)
    obtain ⟨rfl, rfl⟩ := hh
    rw [if_pos hp1]
    iterate 4 refine ax_nx rfl rfl ?_
    refine ax_cal rfl rfl (q_has_Te) (fun v h' hh => ?_)
    obtain ⟨rfl, rfl⟩ := hh
    rw [if_neg (fun h9 => h ⟨hp1, h9⟩)]
    refine ax_nx rfl rfl ?_
    exact ax_thr rfl rfl ⟨rfl, rfl, rfl, rfl⟩
  · iterate 3 refine ax_nx rfl rfl ?_
    refine ax_cal rfl rfl (q_has_Te) (fun v h' hh => ?_)
    obtain ⟨rfl, rfl⟩ := hh
    rw [if_neg hp1]
    refine ax_nx rfl rfl ?_
    exact ax_thr rfl rfl ⟨rfl, rfl, rfl, rfl⟩
theorem q_Ep_lit_full {p q z : Int32} {D : dr_L} (hd : dr_at D f a) (h4 : D.length = 4) (hp1 : 0 ≤ p ∧ p < f 7) (hq1 : 0 ≤ q ∧ q < f 7) : ax_R (d + 1) 84 0 (ax_in 84 [.ref 1, .int p, .int q, .int z]) [] (hp n xs f a o) k s (ax_T 1 (hp n xs f a o) k s) := by
  iterate 3 refine ax_nx rfl rfl ?_
  refine ax_cal rfl rfl (q_has_Te) (fun v h' hh => ?_)
  obtain ⟨rfl, rfl⟩ := hh
  rw [if_pos hp1]
  iterate 4 refine ax_nx rfl rfl ?_
  refine ax_cal rfl rfl (q_has_Te) (fun v h' hh => ?_)
  obtain ⟨rfl, rfl⟩ := hh
  rw [if_pos hq1]
  iterate 3 refine ax_nx rfl rfl ?_
  refine ax_cal rfl rfl (q_Dr_full hd) (fun v h' hh => ?_)
  obtain ⟨rfl, rfl⟩ := hh
  rw [decide_eq_true h4]
  refine ax_nx rfl rfl ?_
  exact ax_thr rfl rfl ⟨rfl, rfl, rfl, rfl⟩
theorem q_Ep_lit {p q : Nat} {e : Bool} {D : dr_L} (hd : dr_at D f a) (h4 : D.length < 4) (hp1 : 0 ≤ nI p ∧ nI p < f 7) (hq1 : 0 ≤ nI q ∧ nI q < f 7) : ax_R (d + 1) 84 0 (ax_in 84 [.ref 1, .int (nI p), .int (nI q), .int (bI e)]) [] (hp n xs f a o) k s (ax_V (fun v h' => v = some (.int (nI (D.length + 1))) ∧ ∃ f' a', h' = hp n xs f' a' o ∧ ag [0] [3, 4, 5] f a f' a' ∧ dr_at (D ++ [(p, q, e)]) f' a') k s) := by
  iterate 3 refine ax_nx rfl rfl ?_
  refine ax_cal rfl rfl (q_has_Te) (fun v h' hh => ?_)
  obtain ⟨rfl, rfl⟩ := hh
  rw [if_pos hp1]
  iterate 4 refine ax_nx rfl rfl ?_
  refine ax_cal rfl rfl (q_has_Te) (fun v h' hh => ?_)
  obtain ⟨rfl, rfl⟩ := hh
  rw [if_pos hq1]
  iterate 3 refine ax_nx rfl rfl ?_
  refine ax_cal rfl rfl (q_Dr_full hd) (fun v h' hh => ?_)
  obtain ⟨rfl, rfl⟩ := hh
  rw [decide_eq_false (by omega)]
  iterate 6 refine ax_nx rfl rfl ?_
  refine ax_cal rfl rfl (q_Dr_add hd h4) (fun v h' hh => ?_)
  obtain ⟨rfl, f1, a1, rfl, g1, hd1⟩ := hh
  iterate 2 refine ax_nx rfl rfl ?_
  refine ax_cal rfl rfl (q_Dr_size) (fun v h' hh => ?_)
  obtain ⟨rfl, rfl⟩ := hh
  refine ax_top (y := nI (D.length + 1)) (by rw [hd1.1, List.length_append]; rfl) ?_
  exact ax_ret rfl rfl ⟨_, rfl, rfl, rfl, rfl, f1, a1, rfl, g1, hd1⟩
theorem q_Ep_look_no {p q : Int32} (h : ¬ ((0 ≤ p ∧ p < f 7) ∧ 0 ≤ q ∧ q < 3)) : ax_R (d + 1) 93 0 (ax_in 93 [.ref 1, .int p, .int q]) [] (hp n xs f a o) k s (ax_T 0 (hp n xs f a o) k s) := by
  by_cases hp1 : 0 ≤ p ∧ p < f 7
  · iterate 3 refine ax_nx rfl rfl ?_
    refine ax_cal rfl rfl (q_has_Te) (fun v h' hh => ?_)
    obtain ⟨rfl, rfl⟩ := hh
    rw [if_pos hp1]
    iterate 2 refine ax_nx rfl rfl ?_
    by_cases hq0 : q < 0
    · refine ax_nxt rfl rfl (hq0) ?_
      exact ax_thr rfl rfl ⟨rfl, rfl, rfl, rfl⟩
    · refine ax_nxf rfl rfl (hq0) ?_
      iterate 2 refine ax_nx rfl rfl ?_
      refine ax_nxf rfl rfl (fun h9 => h ⟨hp1, Int32.not_lt.mp hq0, i3 h9⟩) ?_
      exact ax_thr rfl rfl ⟨rfl, rfl, rfl, rfl⟩
  · iterate 3 refine ax_nx rfl rfl ?_
    refine ax_cal rfl rfl (q_has_Te) (fun v h' hh => ?_)
    obtain ⟨rfl, rfl⟩ := hh
    rw [if_neg hp1]
    refine ax_nx rfl rfl ?_
    exact ax_thr rfl rfl ⟨rfl, rfl, rfl, rfl⟩
theorem q_Ep_look {j w : Nat} (hj : j < 20) (hp1 : 0 ≤ nI j ∧ nI j < f 7) (hw : w < 3) : ax_R (d + 1) 93 0 (ax_in 93 [.ref 1, .int (nI j), .int (nI w)]) [] (hp n xs f a o) k s (ax_V (fun v h' => v = some (.int (if w = 0 then a 16 j else if w = 1 then a 17 j else a 18 j)) ∧ h' = hp n xs f a o) k s) := by
  obtain rfl | rfl | rfl : w = 0 ∨ w = 1 ∨ w = 2 := by omega
  · iterate 3 refine ax_nx rfl rfl ?_
    refine ax_cal rfl rfl (q_has_Te) (fun v h' hh => ?_)
    obtain ⟨rfl, rfl⟩ := hh
    rw [if_pos hp1]
    iterate 2 refine ax_nx rfl rfl ?_
    iterate 3 refine ax_nx rfl rfl ?_
    iterate 2 refine ax_nx rfl rfl ?_
    refine ax_nx (pc' := 56) rfl rfl ?_
    iterate 3 refine ax_nx rfl rfl ?_
    refine ax_cal rfl rfl (q_kind_Te hj) (fun v h' hh => ?_)
    obtain ⟨rfl, rfl⟩ := hh
    exact ax_ret rfl rfl ⟨_, rfl, rfl, rfl, rfl, rfl⟩
  · iterate 3 refine ax_nx rfl rfl ?_
    refine ax_cal rfl rfl (q_has_Te) (fun v h' hh => ?_)
    obtain ⟨rfl, rfl⟩ := hh
    rw [if_pos hp1]
    iterate 2 refine ax_nx rfl rfl ?_
    iterate 3 refine ax_nx rfl rfl ?_
    iterate 2 refine ax_nx rfl rfl ?_
    refine ax_nx (pc' := 65) rfl rfl ?_
    iterate 3 refine ax_nx rfl rfl ?_
    refine ax_cal rfl rfl (q_first_Te hj) (fun v h' hh => ?_)
    obtain ⟨rfl, rfl⟩ := hh
    exact ax_ret rfl rfl ⟨_, rfl, rfl, rfl, rfl, rfl⟩
  · iterate 3 refine ax_nx rfl rfl ?_
    refine ax_cal rfl rfl (q_has_Te) (fun v h' hh => ?_)
    obtain ⟨rfl, rfl⟩ := hh
    rw [if_pos hp1]
    iterate 2 refine ax_nx rfl rfl ?_
    iterate 3 refine ax_nx rfl rfl ?_
    iterate 2 refine ax_nx rfl rfl ?_
    refine ax_nx (pc' := 74) rfl rfl ?_
    iterate 3 refine ax_nx rfl rfl ?_
    refine ax_cal rfl rfl (q_second_Te hj) (fun v h' hh => ?_)
    obtain ⟨rfl, rfl⟩ := hh
    exact ax_ret rfl rfl ⟨_, rfl, rfl, rfl, rfl, rfl⟩
theorem q_Ep_term_kind {p q r : Int32} (h : ¬ (1 ≤ p ∧ p ≤ 4)) : ax_R d 83 0 (ax_in 83 [.ref 1, .int p, .int q, .int r]) [] (hp n xs f a o) k s (ax_T 0 (hp n xs f a o) k s) := by
  by_cases h1 : p < 1
  · iterate 2 refine ax_nx rfl rfl ?_
    refine ax_nxt rfl rfl (h1) ?_
    exact ax_thr rfl rfl ⟨rfl, rfl, rfl, rfl⟩
  · iterate 2 refine ax_nx rfl rfl ?_
    refine ax_nxf rfl rfl (h1) ?_
    iterate 2 refine ax_nx rfl rfl ?_
    refine ax_nxf rfl rfl (fun h9 => h ⟨Int32.not_lt.mp h1, h9⟩) ?_
    exact ax_thr rfl rfl ⟨rfl, rfl, rfl, rfl⟩
theorem q_Ep_term_no1 {q r : Int32} (h : ¬ (0 ≤ q ∧ q < f 7)) : ax_R (d + 1) 83 0 (ax_in 83 [.ref 1, .int (nI 1), .int q, .int r]) [] (hp n xs f a o) k s (ax_T 0 (hp n xs f a o) k s) := by
  iterate 2 refine ax_nx rfl rfl ?_
  iterate 3 refine ax_nx rfl rfl ?_
  iterate 3 refine ax_nx rfl rfl ?_
  iterate 3 refine ax_nx rfl rfl ?_
  refine ax_nx (al' := [.ref 1, .int (nI 1), .int q, .int r, .int 1, ax_u, ax_u]) rfl rfl ?_
  iterate 2 refine ax_nx rfl rfl ?_
  iterate 2 refine ax_nx rfl rfl ?_
  refine ax_nx (al' := [.ref 1, .int (nI 1), .int q, .int r, .int 1, .int 0, ax_u]) rfl rfl ?_
  refine ax_nx rfl rfl ?_
  iterate 4 refine ax_nx rfl rfl ?_
  refine ax_cal rfl rfl (q_has_Te) (fun v h' hh => ?_)
  obtain ⟨rfl, rfl⟩ := hh
  rw [if_neg h]
  refine ax_nx rfl rfl ?_
  exact ax_thr rfl rfl ⟨rfl, rfl, rfl, rfl⟩
theorem q_Ep_term_no2 {q r : Int32} (h : ¬ ((0 ≤ q ∧ q < f 7) ∧ 0 ≤ r ∧ r < f 7)) : ax_R (d + 1) 83 0 (ax_in 83 [.ref 1, .int (nI 2), .int q, .int r]) [] (hp n xs f a o) k s (ax_T 0 (hp n xs f a o) k s) := by
  by_cases hq1 : 0 ≤ q ∧ q < f 7
  · iterate 2 refine ax_nx rfl rfl ?_
    iterate 3 refine ax_nx rfl rfl ?_
    iterate 3 refine ax_nx rfl rfl ?_
    iterate 3 refine ax_nx rfl rfl ?_
    iterate 3 refine ax_nx rfl rfl ?_
    refine ax_nx (al' := [.ref 1, .int (nI 2), .int q, .int r, .int 1, ax_u, ax_u]) rfl rfl ?_
    iterate 2 refine ax_nx rfl rfl ?_
    iterate 3 refine ax_nx rfl rfl ?_
    refine ax_nx (al' := [.ref 1, .int (nI 2), .int q, .int r, .int 1, .int 1, ax_u]) rfl rfl ?_
    refine ax_nx rfl rfl ?_
    iterate 4 refine ax_nx rfl rfl ?_
    refine ax_cal rfl rfl (q_has_Te) (fun v h' hh => ?_)
    obtain ⟨rfl, rfl⟩ := hh
    rw [if_pos hq1]
    iterate 2 refine ax_nx rfl rfl ?_
    iterate 4 refine ax_nx rfl rfl ?_
    refine ax_cal rfl rfl (q_has_Te) (fun v h' hh => ?_)
    obtain ⟨rfl, rfl⟩ := hh
    rw [if_neg (fun h9 => h ⟨hq1, h9⟩)]
    refine ax_nx rfl rfl ?_
    exact ax_thr rfl rfl ⟨rfl, rfl, rfl, rfl⟩
  · iterate 2 refine ax_nx rfl rfl ?_
    iterate 3 refine ax_nx rfl rfl ?_
    iterate 3 refine ax_nx rfl rfl ?_
    iterate 3 refine ax_nx rfl rfl ?_
    iterate 3 refine ax_nx rfl rfl ?_
    refine ax_nx (al' := [.ref 1, .int (nI 2), .int q, .int r, .int 1, ax_u, ax_u]) rfl rfl ?_
    iterate 2 refine ax_nx rfl rfl ?_
    iterate 3 refine ax_nx rfl rfl ?_
    refine ax_nx (al' := [.ref 1, .int (nI 2), .int q, .int r, .int 1, .int 1, ax_u]) rfl rfl ?_
    refine ax_nx rfl rfl ?_
    iterate 4 refine ax_nx rfl rfl ?_
    refine ax_cal rfl rfl (q_has_Te) (fun v h' hh => ?_)
    obtain ⟨rfl, rfl⟩ := hh
    rw [if_neg hq1]
    refine ax_nx rfl rfl ?_
    exact ax_thr rfl rfl ⟨rfl, rfl, rfl, rfl⟩
theorem q_Ep_term1 {c : Nat} {T : tm_T} (h : ct_at c T f a) {p : Nat} {r : Int32} (hp1 : p < T.length) : ax_R (d + 2) 83 0 (ax_in 83 [.ref 1, .int (nI 1), .int (nI p), .int r]) [] (hp n xs f a o) k s (et_Q n xs o c T (tm_mk T (1, p, 0)) f a k s) := by
  have hkd : tm_kd c T.length (1, p, 0) := Or.inr (Or.inl ⟨p, rfl, hp1⟩)
  have h20 := h.2.1
  have hR : (tm_mk T (1, p, 0)).1.length ≤ 20 → (tm_mk T (1, p, 0)).2 < 20 := fun h9 => Nat.lt_of_lt_of_le (tm_lt (tm_mk_get T (1, p, 0))) h9
  iterate 2 refine ax_nx rfl rfl ?_
  iterate 3 refine ax_nx rfl rfl ?_
  iterate 3 refine ax_nx rfl rfl ?_
  iterate 3 refine ax_nx rfl rfl ?_
  refine ax_nx (al' := [.ref 1, .int (nI 1), .int (nI p), .int r, .int 1, ax_u, ax_u]) rfl rfl ?_
  iterate 2 refine ax_nx rfl rfl ?_
  iterate 2 refine ax_nx rfl rfl ?_
  refine ax_nx (al' := [.ref 1, .int (nI 1), .int (nI p), .int r, .int 1, .int 0, ax_u]) rfl rfl ?_
  refine ax_nx rfl rfl ?_
  iterate 4 refine ax_nx rfl rfl ?_
  refine ax_cal rfl rfl (q_has_Te) (fun v h' hh => ?_)
  obtain ⟨rfl, rfl⟩ := hh
  rw [h.2.2.1, if_pos (nI_has' hp1 (by omega))]
  iterate 2 refine ax_nx rfl rfl ?_
  iterate 5 refine ax_nx rfl rfl ?_
  iterate 4 refine ax_nx rfl rfl ?_
  iterate 2 refine ax_nx rfl rfl ?_
  refine ax_cal (d := d + 1) rfl rfl (q_Te_foa (d := d) h hkd) (fun v h' hh => ?_)
  obtain ⟨f1, a1, rfl, g1, hh⟩ := hh
  generalize tm_mk T (1, p, 0) = R at *
  rcases hh with ⟨hle, rfl, hct⟩ | ⟨hgt, rfl, hct⟩
  · refine ax_nx (al' := [.ref 1, .int (nI 1), .int (nI p), .int r, .int 1, .int 0, .int (nI R.2)]) rfl rfl ?_
    iterate 2 refine ax_nx rfl rfl ?_
    refine ax_nxf rfl rfl (nI_nm1 (by have := hR hle; omega)) ?_
    refine ax_nx rfl rfl ?_
    exact ax_ret rfl rfl ⟨f1, a1, rfl, g1, Or.inl ⟨hle, rfl, rfl, rfl, hct⟩⟩
  · refine ax_nx (al' := [.ref 1, .int (nI 1), .int (nI p), .int r, .int 1, .int 0, .int (-1)]) rfl rfl ?_
    iterate 2 refine ax_nx rfl rfl ?_
    refine ax_nx rfl rfl ?_
    exact ax_thr rfl rfl ⟨f1, a1, rfl, g1, Or.inr ⟨hgt, rfl, rfl, rfl, hct⟩⟩
theorem q_Ep_term2 {c : Nat} {T : tm_T} (h : ct_at c T f a) {p q : Nat} (hp1 : p < T.length) (hq1 : q < T.length) : ax_R (d + 2) 83 0 (ax_in 83 [.ref 1, .int (nI 2), .int (nI p), .int (nI q)]) [] (hp n xs f a o) k s (et_Q n xs o c T (tm_mk T (2, p, q)) f a k s) := by
  have hkd : tm_kd c T.length (2, p, q) := Or.inr (Or.inr (Or.inl ⟨p, q, rfl, hp1, hq1⟩))
  have h20 := h.2.1
  have hR : (tm_mk T (2, p, q)).1.length ≤ 20 → (tm_mk T (2, p, q)).2 < 20 := fun h9 => Nat.lt_of_lt_of_le (tm_lt (tm_mk_get T (2, p, q))) h9
  iterate 2 refine ax_nx rfl rfl ?_
  iterate 3 refine ax_nx rfl rfl ?_
  iterate 3 refine ax_nx rfl rfl ?_
  iterate 3 refine ax_nx rfl rfl ?_
  iterate 3 refine ax_nx rfl rfl ?_
  refine ax_nx (al' := [.ref 1, .int (nI 2), .int (nI p), .int (nI q), .int 1, ax_u, ax_u]) rfl rfl ?_
  iterate 2 refine ax_nx rfl rfl ?_
  iterate 3 refine ax_nx rfl rfl ?_
  refine ax_nx (al' := [.ref 1, .int (nI 2), .int (nI p), .int (nI q), .int 1, .int 1, ax_u]) rfl rfl ?_
  refine ax_nx rfl rfl ?_
  iterate 4 refine ax_nx rfl rfl ?_
  refine ax_cal rfl rfl (q_has_Te) (fun v h' hh => ?_)
  obtain ⟨rfl, rfl⟩ := hh
  rw [h.2.2.1, if_pos (nI_has' hp1 (by omega))]
  iterate 2 refine ax_nx rfl rfl ?_
  iterate 4 refine ax_nx rfl rfl ?_
  refine ax_cal rfl rfl (q_has_Te) (fun v h' hh => ?_)
  obtain ⟨rfl, rfl⟩ := hh
  rw [h.2.2.1, if_pos (nI_has' hq1 (by omega))]
  iterate 5 refine ax_nx rfl rfl ?_
  iterate 4 refine ax_nx rfl rfl ?_
  iterate 3 refine ax_nx rfl rfl ?_
  refine ax_cal (d := d + 1) rfl rfl (q_Te_foa (d := d) h hkd) (fun v h' hh => ?_)
  obtain ⟨f1, a1, rfl, g1, hh⟩ := hh
  generalize tm_mk T (2, p, q) = R at *
  rcases hh with ⟨hle, rfl, hct⟩ | ⟨hgt, rfl, hct⟩
  · refine ax_nx (al' := [.ref 1, .int (nI 2), .int (nI p), .int (nI q), .int 1, .int 1, .int (nI R.2)]) rfl rfl ?_
    iterate 2 refine ax_nx rfl rfl ?_
    refine ax_nxf rfl rfl (nI_nm1 (by have := hR hle; omega)) ?_
    refine ax_nx rfl rfl ?_
    exact ax_ret rfl rfl ⟨f1, a1, rfl, g1, Or.inl ⟨hle, rfl, rfl, rfl, hct⟩⟩
  · refine ax_nx (al' := [.ref 1, .int (nI 2), .int (nI p), .int (nI q), .int 1, .int 1, .int (-1)]) rfl rfl ?_
    iterate 2 refine ax_nx rfl rfl ?_
    refine ax_nx rfl rfl ?_
    exact ax_thr rfl rfl ⟨f1, a1, rfl, g1, Or.inr ⟨hgt, rfl, rfl, rfl, hct⟩⟩
theorem q_Ep_term3 {c : Nat} {T : tm_T} (h : ct_at c T f a) {q r : Int32} : ax_R (d + 2) 83 0 (ax_in 83 [.ref 1, .int (nI 3), .int q, .int r]) [] (hp n xs f a o) k s (et_Q n xs o c T (tm_mk T (3, 0, 0)) f a k s) := by
  have hkd : tm_kd c T.length (3, 0, 0) := Or.inr (Or.inr (Or.inr (Or.inl rfl)))
  have h20 := h.2.1
  have hR : (tm_mk T (3, 0, 0)).1.length ≤ 20 → (tm_mk T (3, 0, 0)).2 < 20 := fun h9 => Nat.lt_of_lt_of_le (tm_lt (tm_mk_get T (3, 0, 0))) h9
  iterate 2 refine ax_nx rfl rfl ?_
  iterate 3 refine ax_nx rfl rfl ?_
  iterate 3 refine ax_nx rfl rfl ?_
  iterate 3 refine ax_nx rfl rfl ?_
  iterate 2 refine ax_nx rfl rfl ?_
  refine ax_nx (al' := [.ref 1, .int (nI 3), .int q, .int r, .int 0, ax_u, ax_u]) rfl rfl ?_
  iterate 2 refine ax_nx rfl rfl ?_
  iterate 2 refine ax_nx rfl rfl ?_
  refine ax_nx (al' := [.ref 1, .int (nI 3), .int q, .int r, .int 0, .int 0, ax_u]) rfl rfl ?_
  refine ax_nx rfl rfl ?_
  iterate 2 refine ax_nx rfl rfl ?_
  iterate 5 refine ax_nx rfl rfl ?_
  iterate 3 refine ax_nx rfl rfl ?_
  iterate 2 refine ax_nx rfl rfl ?_
  refine ax_cal (d := d + 1) rfl rfl (q_Te_foa (d := d) h hkd) (fun v h' hh => ?_)
  obtain ⟨f1, a1, rfl, g1, hh⟩ := hh
  generalize tm_mk T (3, 0, 0) = R at *
  rcases hh with ⟨hle, rfl, hct⟩ | ⟨hgt, rfl, hct⟩
  · refine ax_nx (al' := [.ref 1, .int (nI 3), .int q, .int r, .int 0, .int 0, .int (nI R.2)]) rfl rfl ?_
    iterate 2 refine ax_nx rfl rfl ?_
    refine ax_nxf rfl rfl (nI_nm1 (by have := hR hle; omega)) ?_
    refine ax_nx rfl rfl ?_
    exact ax_ret rfl rfl ⟨f1, a1, rfl, g1, Or.inl ⟨hle, rfl, rfl, rfl, hct⟩⟩
  · refine ax_nx (al' := [.ref 1, .int (nI 3), .int q, .int r, .int 0, .int 0, .int (-1)]) rfl rfl ?_
    iterate 2 refine ax_nx rfl rfl ?_
    refine ax_nx rfl rfl ?_
    exact ax_thr rfl rfl ⟨f1, a1, rfl, g1, Or.inr ⟨hgt, rfl, rfl, rfl, hct⟩⟩
theorem q_Ep_term4 {c : Nat} {T : tm_T} (h : ct_at c T f a) {q r : Int32} : ax_R (d + 2) 83 0 (ax_in 83 [.ref 1, .int (nI 4), .int q, .int r]) [] (hp n xs f a o) k s (et_Q n xs o c T (tm_mk T (4, 0, 0)) f a k s) := by
  have hkd : tm_kd c T.length (4, 0, 0) := Or.inr (Or.inr (Or.inr (Or.inr rfl)))
  have h20 := h.2.1
  have hR : (tm_mk T (4, 0, 0)).1.length ≤ 20 → (tm_mk T (4, 0, 0)).2 < 20 := fun h9 => Nat.lt_of_lt_of_le (tm_lt (tm_mk_get T (4, 0, 0))) h9
  iterate 2 refine ax_nx rfl rfl ?_
  iterate 3 refine ax_nx rfl rfl ?_
  iterate 3 refine ax_nx rfl rfl ?_
  iterate 3 refine ax_nx rfl rfl ?_
  iterate 2 refine ax_nx rfl rfl ?_
  refine ax_nx (al' := [.ref 1, .int (nI 4), .int q, .int r, .int 0, ax_u, ax_u]) rfl rfl ?_
  iterate 2 refine ax_nx rfl rfl ?_
  iterate 2 refine ax_nx rfl rfl ?_
  refine ax_nx (al' := [.ref 1, .int (nI 4), .int q, .int r, .int 0, .int 0, ax_u]) rfl rfl ?_
  refine ax_nx rfl rfl ?_
  iterate 2 refine ax_nx rfl rfl ?_
  iterate 5 refine ax_nx rfl rfl ?_
  iterate 3 refine ax_nx rfl rfl ?_
  iterate 2 refine ax_nx rfl rfl ?_
  refine ax_cal (d := d + 1) rfl rfl (q_Te_foa (d := d) h hkd) (fun v h' hh => ?_)
  obtain ⟨f1, a1, rfl, g1, hh⟩ := hh
  generalize tm_mk T (4, 0, 0) = R at *
  rcases hh with ⟨hle, rfl, hct⟩ | ⟨hgt, rfl, hct⟩
  · refine ax_nx (al' := [.ref 1, .int (nI 4), .int q, .int r, .int 0, .int 0, .int (nI R.2)]) rfl rfl ?_
    iterate 2 refine ax_nx rfl rfl ?_
    refine ax_nxf rfl rfl (nI_nm1 (by have := hR hle; omega)) ?_
    refine ax_nx rfl rfl ?_
    exact ax_ret rfl rfl ⟨f1, a1, rfl, g1, Or.inl ⟨hle, rfl, rfl, rfl, hct⟩⟩
  · refine ax_nx (al' := [.ref 1, .int (nI 4), .int q, .int r, .int 0, .int 0, .int (-1)]) rfl rfl ?_
    iterate 2 refine ax_nx rfl rfl ?_
    refine ax_nx rfl rfl ?_
    exact ax_thr rfl rfl ⟨f1, a1, rfl, g1, Or.inr ⟨hgt, rfl, rfl, rfl, hct⟩⟩
end HAS
