section HTW
variable {n : Nat} {xs : Nat → Int32} {f : Nat → Int32} {a : Nat → Nat → Int32} {o : Nat → Int64} {d k s : Nat} {i : Nat} {x5 x6 : Value} {Q : ax_P} {c : Nat} {T : tm_T} {Z : List Nat} {K : tm_T} {D : dr_L} {I : List (List wl_L)} {L : List Nat}
theorem p_14 {p : Int32} (h : 1 ≤ p ∧ p ≤ 4) : p = nI 1 ∨ p = nI 2 ∨ p = nI 3 ∨ p = nI 4 := by
  have h0 : ¬ p < 0 := by
    have h1 := h.1
    rw [Int32.le_iff_toInt_le] at h1
    rw [Int32.lt_iff_toInt_lt]
    have e1 : (1 : Int32).toInt = 1 := rfl
    have e0 : (0 : Int32).toInt = 0 := rfl
    omega
  obtain ⟨j, hj, rfl⟩ := nI_of h0
  have h1 := (nI_leI (a := 1) (by omega) hj).mp h.1
  have h2 := (nI_leI (b := 4) hj (by omega)).mp h.2
  obtain rfl | rfl | rfl | rfl : j = 1 ∨ j = 2 ∨ j = 3 ∨ j = 4 := by omega
  · exact Or.inl rfl
  · exact Or.inr (Or.inl rfl)
  · exact Or.inr (Or.inr (Or.inl rfl))
  · exact Or.inr (Or.inr (Or.inr rfl))
theorem tu_mk {p q r : Int32} {R : tm_T × Nat} (h : IV c T Z K D I L f a) (hS : ∃ S, R.1 = T ++ S) (hcl : ax_R (d + 58) 83 0 (ax_in 83 [.ref 1, .int p, .int q, .int r]) [] (hp n xs f a o) k s (et_Q n xs o c T R f a k s)) (hmo : ∀ (f1 : Nat → Int32) (a1 : Nat → Nat → Int32) (o' : Nat → Int64) (k' s' : Nat), mt_at c T f1 a1 → mz_at T Z f1 a1 → ax_R (d + 59) 6 0 (ax_in 6 [.ref 25, .int p, .int q, .int r]) [] (hp n xs f1 a1 o') k' s' (mk_Q n xs o' c T Z R f1 a1 k' s')) : ax_R (d + 58) 83 0 (ax_in 83 [.ref 1, .int p, .int q, .int r]) [] (hp n xs f a o) k s (cc n xs o k s [(0, 1), (1, 2)] (mm n xs (d + 59) 6 [.ref 25, .int p, .int q, .int r])) := by
  obtain ⟨S, hS⟩ := hS
  refine hcl.mono ?_
  rintro o1 h1 k1 s1 ⟨f1, a1, rfl, g1, hh⟩
  have hmt := h.2.1.2.1.kept g1 (by decide) (by decide)
  have hmz := h.2.1.2.2.2.2.2.kept g1 (by decide) (by decide)
  rcases hh with ⟨hle, rfl, rfl, rfl, hct⟩ | ⟨hgt, rfl, rfl, rfl, hct⟩
  · refine ⟨f1, a1, rfl, by omega, by omega, Or.inl ⟨_, rfl, fun o' k' s' => ?_⟩⟩
    refine (hmo f1 a1 o' k' s' hmt hmz).mono ?_
    rintro o1 h1 k1 s1 ⟨v, rfl, rfl, rfl, f2, a2, rfl, g2, ⟨-, rfl, h12, hmt2, hmz2⟩ | ⟨hgt, -⟩⟩
    · have g := (g1.wide (F' := [7, 12, 14, 17]) (A' := [16, 17, 18, 19, 26, 27, 28, 29, 30]) (by simp) (by simp)).trans (g2.wide (F' := [7, 12, 14, 17]) (A' := [16, 17, 18, 19, 26, 27, 28, 29, 30]) (by simp) (by simp))
      refine ⟨_, rfl, rfl, rfl, f2, a2, _, rfl, rfl, h12, fun _ => rfl, c, R.1, Z, K, D, I, L, h.1.kept g (by decide), ⟨hct.kept g2 (by decide) (by decide), hmt2, h.2.1.2.2.1.kept g (by decide) (by decide), ?_, ?_, hmz2⟩, ⟨h.2.2.1.1.kept g (by decide) (by decide), h.2.2.1.2.1.kept g (by decide) (by decide), fun w hw => ?_⟩, h.2.2.2.1.kept g (by decide) (by decide), h.2.2.2.2.1.kept g (by decide) (by decide), h.2.2.2.2.2.kept g (by decide) (by decide)⟩
      · rw [hS]; exact h.2.1.2.2.2.1.app
      · rw [hS]; exact h.2.1.2.2.2.2.1.app
      · have := h.2.2.1.2.2 w hw
        rw [hS, List.length_append]
        omega
    · omega
  · refine ⟨f1, a1, rfl, by omega, by omega, Or.inr ⟨1, 2, by simp, rfl, by decide, fun o' k' s' => ?_⟩⟩
    refine (hmo f1 a1 o' k' s' hmt hmz).mono ?_
    rintro o1 h1 k1 s1 ⟨v, rfl, rfl, rfl, f2, a2, rfl, g2, ⟨hle, -⟩ | ⟨-, rfl, h12, hmt2, hmz2⟩⟩
    · omega
    · have g := (g1.wide (F' := [7, 12, 14, 17]) (A' := [16, 17, 18, 19, 26, 27, 28, 29, 30]) (by simp) (by simp)).trans (g2.wide (F' := [7, 12, 14, 17]) (A' := [16, 17, 18, 19, 26, 27, 28, 29, 30]) (by simp) (by simp))
      exact ⟨_, rfl, rfl, rfl, f2, a2, 0, rfl, rfl, h12, fun _ => rfl, c, T, Z, K, D, I, L, h.1.kept g (by decide), ⟨hct.kept g2 (by decide) (by decide), hmt2, h.2.1.2.2.1.kept g (by decide) (by decide), h.2.1.2.2.2.1, h.2.1.2.2.2.2.1, hmz2⟩, h.2.2.1.kept g (by decide) (by decide), h.2.2.2.1.kept g (by decide) (by decide), h.2.2.2.2.1.kept g (by decide) (by decide), h.2.2.2.2.2.kept g (by decide) (by decide)⟩
theorem tm_mk_app (T : tm_T) (e : Nat × Nat × Nat) : ∃ S, (tm_mk T e).1 = T ++ S := by
  obtain ⟨S, h, -⟩ := tm_mk_ext T e
  exact ⟨S, h⟩
theorem tu_term (hi : i + 4 ≤ n) (hn : n ≤ 2049) (h : IV c T Z K D I L f a) (hnx : nx n xs (d + 60) i k s Q) : ax_R (d + 60) 108 120 [.ref 0, .ref 1, .ref 25, .ref 45, .int (nI i), x5, x6] [] (hp n xs f a o) k s Q := by
  have h20 := h.t20
  refine core_term hi hn ?_ hnx
  generalize xs (i + 1) = p
  generalize xs (i + 2) = q
  generalize xs (i + 3) = r
  by_cases hp1 : 1 ≤ p ∧ p ≤ 4
  · rcases p_14 hp1 with rfl | rfl | rfl | rfl
    · by_cases hq1 : 0 ≤ q ∧ q < f 7
      · rw [h.f7] at hq1
        obtain ⟨j, rfl, hjl⟩ := nI_has hq1 (by omega)
        exact tu_mk h (tm_mk_app T (1, j, 0)) (q_Ep_term1 (d := d + 56) h.2.1.1 hjl) (fun f1 a1 o' k' s' h1 h2 => q_Mo_term1 (d := d + 57) h1 h2 h.2.1.2.2.2.2.1 hjl)
      · refine (q_Ep_term_no1 (d := d + 57) hq1).mono (ax_cT (cd := 1) (by simp) (by decide) (fun o' k' s' => ?_))
        refine (q_Mo_term_no1 (d := d + 58) (by rw [h.f14, ← h.f7]; exact hq1)).mono ?_
        rintro o1 h1 k1 s1 ⟨v, rfl, rfl, rfl, rfl, rfl⟩
        exact ⟨_, rfl, rfl, rfl, _, a, 0, rfl, rfl, rfl, fun _ => rfl, c, T, Z, K, D, I, L, h.f12⟩
    · by_cases hq1 : (0 ≤ q ∧ q < f 7) ∧ 0 ≤ r ∧ r < f 7
      · rw [h.f7] at hq1
        obtain ⟨j, rfl, hjl⟩ := nI_has hq1.1 (by omega)
        obtain ⟨j2, rfl, hjl2⟩ := nI_has hq1.2 (by omega)
        exact tu_mk h (tm_mk_app T (2, j, j2)) (q_Ep_term2 (d := d + 56) h.2.1.1 hjl hjl2) (fun f1 a1 o' k' s' h1 h2 => q_Mo_term2 (d := d + 57) h1 h2 h.2.1.2.2.2.2.1 hjl hjl2)
      · refine (q_Ep_term_no2 (d := d + 57) hq1).mono (ax_cT (cd := 1) (by simp) (by decide) (fun o' k' s' => ?_))
        refine (q_Mo_term_no2 (d := d + 58) (by rw [h.f14, ← h.f7]; exact hq1)).mono ?_
        rintro o1 h1 k1 s1 ⟨v, rfl, rfl, rfl, rfl, rfl⟩
        exact ⟨_, rfl, rfl, rfl, _, a, 0, rfl, rfl, rfl, fun _ => rfl, c, T, Z, K, D, I, L, h.f12⟩
    · exact tu_mk h (tm_mk_app T (3, 0, 0)) (q_Ep_term3 (d := d + 56) h.2.1.1) (fun f1 a1 o' k' s' h1 h2 => q_Mo_term3 (d := d + 57) h1 h2 h.2.1.2.2.2.2.1)
    · exact tu_mk h (tm_mk_app T (4, 0, 0)) (q_Ep_term4 (d := d + 56) h.2.1.1) (fun f1 a1 o' k' s' h1 h2 => q_Mo_term4 (d := d + 57) h1 h2 h.2.1.2.2.2.2.1)
  · refine (q_Ep_term_kind hp1).mono (ax_cT (cd := 1) (by simp) (by decide) (fun o' k' s' => ?_))
    refine (q_Mo_term_kind hp1).mono ?_
    rintro o1 h1 k1 s1 ⟨v, rfl, rfl, rfl, rfl, rfl⟩
    exact ⟨_, rfl, rfl, rfl, _, a, 0, rfl, rfl, rfl, fun _ => rfl, c, T, Z, K, D, I, L, h.f12⟩
theorem tu_lit (hi : i + 4 ≤ n) (hn : n ≤ 2049) (h : IV c T Z K D I L f a) (hnx : nx n xs (d + 60) i k s Q) : ax_R (d + 60) 108 200 [.ref 0, .ref 1, .ref 25, .ref 45, .int (nI i), x5, x6] [] (hp n xs f a o) k s Q := by
  have h20 := h.t20
  have e714 : f 14 = f 7 := by rw [h.f14, h.f7]
  refine core_lit hi hn (e := decide (¬ xs (i + 3) = 0)) rfl ?_ hnx
  generalize decide (¬ xs (i + 3) = 0) = e
  generalize xs (i + 1) = p
  generalize xs (i + 2) = q
  by_cases hp1 : (0 ≤ p ∧ p < f 7) ∧ 0 ≤ q ∧ q < f 7
  · rcases Nat.lt_or_ge D.length 4 with hl | hl
    · have hp0 := hp1
      rw [h.f7] at hp1
      obtain ⟨j, rfl, hjl⟩ := nI_has hp1.1 (by omega)
      obtain ⟨j2, rfl, hjl2⟩ := nI_has hp1.2 (by omega)
      refine (q_Ep_lit (d := d + 57) h.2.2.1.1 hl hp0.1 hp0.2).mono ?_
      rintro o1 h1 k1 s1 ⟨v, rfl, rfl, rfl, rfl, f1, a1, rfl, g1, hd1⟩
      have e14 : f1 14 = f 7 := (g1.1 14 (by decide)).trans e714
      refine ⟨f1, a1, rfl, by omega, by omega, Or.inl ⟨_, rfl, fun o' k' s' => ?_⟩⟩
      refine (q_Mo_lit (d := d + 58) (h.2.2.1.2.1.kept g1 (by decide) (by decide)) hl (by rw [e14]; exact hp0.1) (by rw [e14]; exact hp0.2)).mono ?_
      rintro o1 h1 k1 s1 ⟨v, rfl, rfl, rfl, rfl, f2, a2, rfl, g2, h12, hmd⟩
      have g := (g1.wide (F' := [0, 12, 18]) (A' := [3, 4, 5, 34, 35, 36]) (by simp) (by simp)).trans (g2.wide (F' := [0, 12, 18]) (A' := [3, 4, 5, 34, 35, 36]) (by simp) (by simp))
      refine ⟨_, rfl, rfl, rfl, f2, a2, _, rfl, rfl, h12, fun _ => rfl, c, T, Z, K, D ++ [(j, j2, e)], I, L, h.1.kept g (by decide), h.2.1.kept g (by decide) (by decide), ⟨hd1.kept g2 (by decide) (by decide), hmd, fun w hw => ?_⟩, h.2.2.2.1.kept g (by decide) (by decide), h.2.2.2.2.1.kept g (by decide) (by decide), h.2.2.2.2.2.kept g (by decide) (by decide)⟩
      rcases List.mem_append.mp hw with hw | hw
      · exact h.2.2.1.2.2 w hw
      · rw [List.mem_singleton.mp hw]
        exact ⟨hjl, hjl2⟩
    · have h4 : D.length = 4 := by have := h.2.2.1.1.2.1; omega
      refine (q_Ep_lit_full (d := d + 57) h.2.2.1.1 h4 hp1.1 hp1.2).mono (ax_cT (cd := 2) (by simp) (by decide) (fun o' k' s' => ?_))
      refine (q_Mo_lit_full (d := d + 58) (by rw [e714]; exact hp1.1) (by rw [e714]; exact hp1.2) (by rw [h.2.2.1.2.1.1, h4])).mono ?_
      rintro o1 h1 k1 s1 ⟨v, rfl, rfl, rfl, rfl, rfl⟩
      exact ⟨_, rfl, rfl, rfl, _, a, 0, rfl, rfl, rfl, fun _ => rfl, c, T, Z, K, D, I, L, h.f12⟩
  · refine (q_Ep_lit_no (d := d + 57) hp1).mono (ax_cT (cd := 1) (by simp) (by decide) (fun o' k' s' => ?_))
    refine (q_Mo_lit_no (d := d + 58) (by rw [e714]; exact hp1)).mono ?_
    rintro o1 h1 k1 s1 ⟨v, rfl, rfl, rfl, rfl, rfl⟩
    exact ⟨_, rfl, rfl, rfl, _, a, 0, rfl, rfl, rfl, fun _ => rfl, c, T, Z, K, D, I, L, h.f12⟩
theorem wo_app {If : List wl_L} {l : wl_L} {u : Nat → Nat} : wo K (If ++ [l]) u ↔ wo K If u ∧ wl_hold u l := by
  unfold wo wl_W
  constructor
  · rintro ⟨h1, h2⟩
    exact ⟨⟨h1, fun w hw => h2 w (List.mem_append_left _ hw)⟩, h2 l (by simp)⟩
  · rintro ⟨⟨h1, h2⟩, h3⟩
    refine ⟨h1, fun w hw => ?_⟩
    rcases List.mem_append.mp hw with hw | hw
    · exact h2 w hw
    · rw [List.mem_singleton.mp hw]; exact h3
theorem ft_hold {p q : Nat} {e : Bool} {u : Nat → Nat} : wl_hold u [(p, q, !e)] ↔ ft (if e = true then 2 else 1) p q u := by
  have h1 : wl_hold u [(p, q, !e)] ↔ wl_lit u (p, q, !e) := ⟨fun ⟨w, hw, h⟩ => by rw [List.mem_singleton.mp hw] at h; exact h, fun h => ⟨_, List.mem_singleton.mpr rfl, h⟩⟩
  rw [h1]
  unfold wl_lit ft
  cases e <;> simp
theorem tu_fol (hi : i + 4 ≤ n) (hn : n ≤ 2049) (h : IV c T Z K D I L f a) (hnx : nx n xs (d + 60) i k s Q) : ax_R (d + 60) 108 441 [.ref 0, .ref 1, .ref 25, .ref 45, .int (nI i), x5, x6] [] (hp n xs f a o) k s Q := by
  have h8 := h.z8
  have e815 : f 15 = f 8 := by rw [h.h15, h.f8]
  refine core_fol hi hn (e := decide (¬ xs (i + 3) = 0)) rfl ?_ hnx
  generalize decide (¬ xs (i + 3) = 0) = e
  generalize xs (i + 1) = p
  generalize xs (i + 2) = q
  by_cases hp1 : (0 ≤ p ∧ p < f 8) ∧ 0 ≤ q ∧ q < f 8
  · rw [h.f8] at hp1
    obtain ⟨j, rfl, hjl⟩ := nI_has hp1.1 (by omega)
    obtain ⟨j2, rfl, hjl2⟩ := nI_has hp1.2 (by omega)
    have hPl := h.len
    have hI16 := h.2.2.2.1.2.2.1.2.1
    refine (q_Ep_follows (d := d + 45) h.2.1.2.2.1 h.2.1.2.2.2.1 h.2.1.1.1 h.2.1.2.2.2.2.1 h.1.1 h.zin h.2.2.2.1.1 (by omega) hjl hjl2 e).mono ?_
    rintro o1 h1 k1 s1 ⟨v, rfl, rfl, rfl, f1, a1, rfl, g1, hc1, b, rfl, hb⟩
    have h' : IV c T Z K D I L f1 a1 := ⟨h.1.kept g1 (by decide), h.2.1.kept g1 (by decide) (by decide), h.2.2.1.kept g1 (by decide) (by decide), ⟨hc1, (g1.1 10 (by decide)).trans h.2.2.2.1.2.1, h.2.2.2.1.2.2.1.kept g1 (by decide) (by decide), h.2.2.2.1.2.2.2⟩, h.2.2.2.2.1.kept g1 (by decide) (by decide), h.2.2.2.2.2.kept g1 (by decide) (by decide)⟩
    refine ⟨f1, a1, rfl, by omega, by omega, Or.inl ⟨b, rfl, fun o' k' s' => ?_⟩⟩
    refine (q_Mo_follows (d := d + 56) h'.1.1 h'.mw hjl hjl2 e).mono ?_
    rintro o1 h1 k1 s1 ⟨v, rfl, rfl, rfl, g, rfl, b2, rfl, hb2⟩
    have hbb : b2 = b := by
      refine Bool.eq_iff_iff.mpr (hb2.trans (Iff.trans ?_ hb.symm))
      refine forall_congr' (fun u => forall_congr' (fun hu => not_congr ?_))
      rw [wo_app, ft_hold]
      exact And.comm
    refine ⟨_, rfl, rfl, rfl, _, _, _, rfl, rfl, rfl, fun _ => by rw [hbb], c, T, Z, K, D, I, L, h'.scr ⟨fun w hw => if_neg (fun h9 => hw (by rw [h9]; decide)), fun w hw => if_neg (fun h9 => hw (by rw [h9]; decide))⟩⟩
  · refine (q_Ep_follows_no (d := d + 57) hp1).mono ?_
    rintro o1 h1 k1 s1 ⟨rfl, rfl, rfl, rfl⟩
    refine ⟨f, a, rfl, by omega, by omega, Or.inr ⟨rfl, fun o' k' s' => ?_⟩⟩
    refine (q_Mo_follows_no (d := d + 58) (by rw [e815]; exact hp1)).mono ?_
    rintro o1 h1 k1 s1 ⟨v, rfl, rfl, rfl, rfl, rfl⟩
    exact ⟨_, rfl, rfl, rfl, _, a, 0, rfl, rfl, rfl, fun _ => rfl, c, T, Z, K, D, I, L, h.f12⟩
theorem tu_clause (hi : i + 4 ≤ n) (hn : n ≤ 2049) (h : IV c T Z K D I L f a) (hnx : nx n xs (d + 60) i k s Q) : ax_R (d + 60) 108 296 [.ref 0, .ref 1, .ref 25, .ref 45, .int (nI i), x5, x6] [] (hp n xs f a o) k s Q := by
  have h20 := h.t20
  have hI16 := h.2.2.2.1.2.2.1.2.1
  have hc0 := h.1.1
  have hc4 := h.1.2.1
  have hz : zk_at T Z f a := ⟨K, h.2.1.2.2.1, h.2.1.2.2.2.1⟩
  have hZ := h.2.1.2.2.2.2.1
  have hD := h.2.2.1.2.2
  have hx4 := nc_le (b := 1) (v := dv (tm_V T) 0 D) hc0
  have hy4 := nc_le (b := 2) (v := dv (tm_V T) 0 D) hc0
  have hy0 := nc_pos (b := 2) (v := dv (tm_V T) 0 D) hc0
  have hcls := q_Ep_clause (d := d + 13) (n := n) (xs := xs) (o := o) (k := k) (s := s) h20 hc0 hc4 hD h.1.2.2.1 h.2.2.2.1.2.1 hI16 (Nat.le_refl _) h.len h.2.1.1 hz hZ h.2.2.1.1 h.2.2.2.1.1
  have hmo : ∀ (f1 : Nat → Int32) (a1 : Nat → Nat → Int32) (o' : Nat → Int64) (k' s' : Nat), ag [0, 1, 2, 3, 4, 5, 6, 7, 8, 10] [7, 9, 10, 16, 17, 18, 19, 21, 22, 23, 24] f a f1 a1 → _ := fun f1 a1 o' k' s' g1 => q_Mo_clause (d := d + 55) (n := n) (xs := xs) (o := o') (k := k') (s := s') h20 hc0 hc4 hD ((g1.1 13 (by decide)).trans h.1.2.2.2) (Nat.le_refl _) (h.2.1.2.1.kept g1 (by decide) (by decide)) (h.2.1.2.2.2.2.2.kept g1 (by decide) (by decide)) hZ (h.2.2.1.2.1.kept g1 (by decide) (by decide)) (h.2.2.2.1.2.2.1.kept g1 (by decide) (by decide))
  generalize nc c 1 (dv (tm_V T) 0 D) = xx at *
  generalize nc c 2 (dv (tm_V T) 0 D) = ys at *
  have hcl := cl_ok (c := c) (ys := ys) (m := xx * ys) (k := 0) h20 hD (fun j hj => ⟨Nat.lt_of_lt_of_le ((Nat.div_lt_iff_lt_mul hy0).mpr (by omega)) hx4, Nat.lt_of_lt_of_le (Nat.mod_lt _ hy0) hy4⟩) h.2.1.1.1 hZ (Nat.le_refl _)
  generalize cl ys D (xx * ys) 0 T Z = R at *
  obtain ⟨⟨S, hS⟩, ⟨S2, hS2⟩, hwT, hwZ, hin, hln⟩ := hcl
  refine core_clause hi hn (hcls.mono ?_) hnx
  rintro o1 h1 k1 s1 ⟨f1, a1, rfl, g1, h0, hh⟩
  rcases hh with ⟨rfl, rfl, rfl, hC, hR1, hR2, hct1, ⟨K', hz1, hkz1⟩, hci1, h10⟩ | ⟨rfl, rfl, rfl, hov, hct1, ⟨K', hz1, hkz1⟩, hci1, h10⟩
  · refine ⟨f1, a1, rfl, by omega, by omega, Or.inl ⟨_, rfl, fun o' k' s' => ?_⟩⟩
    refine (hmo f1 a1 o' k' s' g1).mono ?_
    rintro o1 h1 k1 s1 ⟨v, rfl, rfl, rfl, f2, a2, rfl, g2, h18, ⟨-, -, -, rfl, h12, hmt, hmz, hclt, h21⟩ | ⟨hov, -⟩⟩
    · have g := (g1.wide (F' := [0, 1, 2, 3, 4, 5, 6, 7, 8, 10, 12, 14, 15, 16, 17, 18, 19, 21]) (A' := [7, 9, 10, 16, 17, 18, 19, 21, 22, 23, 24, 26, 27, 28, 29, 30, 31, 32, 33, 37, 38, 39, 40, 41]) (by simp) (by simp)).trans (g2.wide (F' := [0, 1, 2, 3, 4, 5, 6, 7, 8, 10, 12, 14, 15, 16, 17, 18, 19, 21]) (A' := [7, 9, 10, 16, 17, 18, 19, 21, 22, 23, 24, 26, 27, 28, 29, 30, 31, 32, 33, 37, 38, 39, 40, 41]) (by simp) (by simp))
      refine ⟨_, rfl, rfl, rfl, f2, a2, _, rfl, rfl, h12, fun _ => rfl, c, R.1, R.2.1, K', [], I ++ [R.2.2], L, h.1.kept g (by decide), ⟨hct1.kept g2 (by decide) (by decide), hmt, hz1.kept g2 (by decide) (by decide), hkz1, hwZ, hmz⟩, ⟨⟨(g2.1 0 (by decide)).trans h0, by simp, fun j q hq => by cases hq⟩, ⟨h18, by simp, fun j q hq => by cases hq⟩, fun q hq => by cases hq⟩, ⟨?_, ?_, hclt, fun C hC l hl => ?_⟩, ?_, Or.inl h21⟩
      · have : (I ++ [R.2.2]).flatten.filterMap wl_kp = I.flatten.filterMap wl_kp ++ R.2.2.filterMap wl_kp := by
          rw [List.flatten_append, List.filterMap_append]
          simp
        rw [this]
        exact hci1.kept g2 (by decide) (by decide)
      · rw [List.length_append]
        exact (g2.1 10 (by decide)).trans h10
      · rcases List.mem_append.mp hC with hC | hC
        · exact (h.2.2.2.1.2.2.2 C hC l hl).mono (by rw [hS2, List.length_append]; omega)
        · rw [List.mem_singleton.mp hC] at hl
          exact (hin l hl).1
      · obtain ⟨l1, l2, l3, l4, l5⟩ := h.2.2.2.2.1.kept g (by decide) (by decide)
        refine ⟨l1, l2, l3, l4, fun j m hj => ?_⟩
        obtain ⟨y1, y2, y3, y4⟩ := l5 j m hj
        refine ⟨by rw [List.length_append]; omega, y2, ?_, y4⟩
        rw [List.take_append_of_le_length y1]
        exact y3
    · dsimp only at hR1 hR2
      omega
  · refine ⟨f1, a1, rfl, by omega, by omega, Or.inr ⟨1, 1, by simp, rfl, by decide, fun o' k' s' => ?_⟩⟩
    refine (hmo f1 a1 o' k' s' g1).mono ?_
    rintro o1 h1 k1 s1 ⟨v, rfl, rfl, rfl, f2, a2, rfl, g2, h18, ⟨hC, hR1, hR2, -⟩ | ⟨-, rfl, h12, hmt, hmz, hclt, h21⟩⟩
    · dsimp only at hov
      omega
    · have g := (g1.wide (F' := [0, 1, 2, 3, 4, 5, 6, 7, 8, 10, 12, 14, 15, 16, 17, 18, 19, 21]) (A' := [7, 9, 10, 16, 17, 18, 19, 21, 22, 23, 24, 26, 27, 28, 29, 30, 31, 32, 33, 37, 38, 39, 40, 41]) (by simp) (by simp)).trans (g2.wide (F' := [0, 1, 2, 3, 4, 5, 6, 7, 8, 10, 12, 14, 15, 16, 17, 18, 19, 21]) (A' := [7, 9, 10, 16, 17, 18, 19, 21, 22, 23, 24, 26, 27, 28, 29, 30, 31, 32, 33, 37, 38, 39, 40, 41]) (by simp) (by simp))
      have hKK : K' = K := hkz1.uniq h.2.1.2.2.2.1 hZ
      subst hKK
      refine ⟨_, rfl, rfl, rfl, f2, a2, 0, rfl, rfl, h12, fun _ => rfl, c, T, Z, K', [], I, L, h.1.kept g (by decide), ⟨hct1.kept g2 (by decide) (by decide), hmt, hz1.kept g2 (by decide) (by decide), hkz1, hZ, hmz⟩, ⟨⟨(g2.1 0 (by decide)).trans h0, by simp, fun j q hq => by cases hq⟩, ⟨h18, by simp, fun j q hq => by cases hq⟩, fun q hq => by cases hq⟩, ⟨hci1.kept g2 (by decide) (by decide), (g2.1 10 (by decide)).trans h10, hclt, h.2.2.2.1.2.2.2⟩, h.2.2.2.2.1.kept g (by decide) (by decide), ?_⟩
      have e21 : f2 21 = f 21 := h21.trans (g1.1 21 (by decide))
      have e22 : f2 22 = f 22 := g.1 22 (by decide)
      have e44 : a2 44 = a 44 := g.2 44 (by decide)
      have := h.2.2.2.2.2
      unfold iv_h ch_at at this ⊢
      rw [e21, e22, e44]
      exact this
end HTW
