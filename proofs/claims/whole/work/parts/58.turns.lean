section HTU
variable {n : Nat} {xs : Nat → Int32} {f : Nat → Int32} {a : Nat → Nat → Int32} {o : Nat → Int64} {d k s : Nat} {i : Nat} {x5 x6 : Value} {Q : ax_P} {c : Nat} {T : tm_T} {Z : List Nat} {K : tm_T} {D : dr_L} {I : List (List wl_L)} {L : List Nat}
theorem IV.f12 {x : Int32} (h : IV c T Z K D I L f a) : IV c T Z K D I L (upd f 12 x) a := h.scr ((ag.f1 (A := [])).wide (by simp) (by simp))
theorem IV.cache {f' : Nat → Int32} {a' : Nat → Nat → Int32} (h : IV c T Z K D I L f a) (g : ag [12, 21, 22] [43, 44] f a f' a') (h21 : f' 21 = 1) (hch : ch_at Z.length (wo K I.flatten) f' a') : IV c T Z K D I L f' a' := ⟨h.1.kept g (by decide), h.2.1.kept g (by decide) (by decide), h.2.2.1.kept g (by decide) (by decide), h.2.2.2.1.kept g (by decide) (by decide), h.2.2.2.2.1.kept g (by decide) (by decide), Or.inr ⟨h21, hch⟩⟩
theorem IV.a12 {g : Nat → Int32} (h : IV c T Z K D I L f a) : IV c T Z K D I L f (upda a 12 g) := h.scr ⟨fun _ _ => rfl, fun j hj => if_neg (fun h9 => hj (by rw [h9]; decide))⟩
theorem IV.h15 (h : IV c T Z K D I L f a) : f 15 = nI Z.length := h.2.1.2.2.2.2.2.1
theorem IV.z8 (h : IV c T Z K D I L f a) : Z.length ≤ 8 := h.2.1.2.2.2.2.2.2.1
theorem IV.f7 (h : IV c T Z K D I L f a) : f 7 = nI T.length := h.2.1.1.2.2.1
theorem IV.f14 (h : IV c T Z K D I L f a) : f 14 = nI T.length := h.2.1.2.1.2.2.1
theorem IV.t20 (h : IV c T Z K D I L f a) : T.length ≤ 20 := h.2.1.1.2.1
theorem tu_things (h : IV c T Z K D I L f a) (hnx : nx n xs (d + 60) i k s Q) : ax_R (d + 60) 108 656 [.ref 0, .ref 1, .ref 25, .ref 45, .int (nI i), x5, x6] [] (hp n xs f a o) k s Q := by
  refine core_things ((q_Ep_things (d := d + 58)).mono ?_) hnx
  rintro o1 h1 k1 s1 ⟨v, rfl, rfl, rfl, rfl, rfl⟩
  refine ⟨_, rfl, rfl, rfl, f, a, f 8, rfl, rfl, q_Mo_things.mono ?_⟩
  rintro o1 h1 k1 s1 ⟨v, rfl, rfl, rfl, rfl, rfl⟩
  exact ⟨_, rfl, rfl, rfl, _, a, rfl, by rw [h.f8, h.h15], c, T, Z, K, D, I, L, h.f12⟩
theorem tu_terms (h : IV c T Z K D I L f a) (hnx : nx n xs (d + 60) i k s Q) : ax_R (d + 60) 108 669 [.ref 0, .ref 1, .ref 25, .ref 45, .int (nI i), x5, x6] [] (hp n xs f a o) k s Q := by
  refine core_terms ((q_Ep_terms (d := d + 58)).mono ?_) hnx
  rintro o1 h1 k1 s1 ⟨v, rfl, rfl, rfl, rfl, rfl⟩
  refine ⟨_, rfl, rfl, rfl, f, a, f 7, rfl, rfl, q_Mo_terms.mono ?_⟩
  rintro o1 h1 k1 s1 ⟨v, rfl, rfl, rfl, rfl, rfl⟩
  exact ⟨_, rfl, rfl, rfl, _, a, rfl, by rw [h.f7, h.f14], c, T, Z, K, D, I, L, h.f12⟩
theorem tu_clauses (h : IV c T Z K D I L f a) (hnx : nx n xs (d + 60) i k s Q) : ax_R (d + 60) 108 750 [.ref 0, .ref 1, .ref 25, .ref 45, .int (nI i), x5, x6] [] (hp n xs f a o) k s Q := by
  refine core_clauses (q_Ep_clauses.mono ?_) hnx
  rintro o1 h1 k1 s1 ⟨v, rfl, rfl, rfl, rfl, rfl⟩
  refine ⟨_, rfl, rfl, rfl, f, a, f 10, rfl, rfl, q_Mo_clauses.mono ?_⟩
  rintro o1 h1 k1 s1 ⟨v, rfl, rfl, rfl, rfl, rfl⟩
  exact ⟨_, rfl, rfl, rfl, _, a, rfl, by rw [h.2.2.2.1.2.1, h.2.2.2.1.2.2.1.1], c, T, Z, K, D, I, L, h.f12⟩
theorem tu_level (h : IV c T Z K D I L f a) (hnx : nx n xs (d + 60) i k s Q) : ax_R (d + 60) 108 763 [.ref 0, .ref 1, .ref 25, .ref 45, .int (nI i), x5, x6] [] (hp n xs f a o) k s Q := by
  refine core_level (q_Ep_level.mono ?_) hnx
  rintro o1 h1 k1 s1 ⟨v, rfl, rfl, rfl, rfl, rfl⟩
  refine ⟨_, rfl, rfl, rfl, f, a, f 11, rfl, rfl, q_Mo_level.mono ?_⟩
  rintro o1 h1 k1 s1 ⟨v, rfl, rfl, rfl, rfl, rfl⟩
  exact ⟨_, rfl, rfl, rfl, _, a, rfl, by rw [h.2.2.2.2.1.1, h.2.2.2.2.1.2.1], c, T, Z, K, D, I, L, h.f12⟩
theorem IV.least (h : IV c T Z K D I L f a) : ax_R (d + 12) 72 0 (ax_in 72 [.ref 11, .ref 20, .ref 8]) [] (hp n xs f a o) k s (bl_Q n xs o Z.length (wo K I.flatten) f a k s) := q_Wo_least h.2.1.2.2.1 h.2.1.2.2.2.1 h.2.1.1.1 h.2.1.2.2.2.2.1 h.1.1 h.zin h.2.2.2.1.1
theorem IV.lookFor (h : IV c T Z K D I L f a) : ax_R (d + 3) 18 0 (ax_in 18 [.ref 25]) [] (hp n xs (upd f 12 0) a o) k s (lk_Q n xs o Z.length (wo K I.flatten) (upd f 12 0) a k s) := q_Mo_lookFor h.1.1 (h.f12 (x := 0)).mw (h.f12 (x := 0)).2.2.2.2.2
theorem tu_contra (h : IV c T Z K D I L f a) (hnx : nx n xs (d + 60) i k s Q) : ax_R (d + 60) 108 428 [.ref 0, .ref 1, .ref 25, .ref 45, .int (nI i), x5, x6] [] (hp n xs f a o) k s Q := by
  refine core_contra ((q_Ep_contra (d := d + 58) (h.least (d := d + 46))).mono ?_) hnx
  rintro o1 h1 k1 s1 ⟨v, rfl, rfl, rfl, g, rfl, b, rfl, hb⟩
  refine ⟨_, rfl, rfl, rfl, f, _, bI b, rfl, rfl, (q_Mo_contra (d := d + 58) ((h.a12 (g := g)).lookFor (d := d + 55))).mono ?_⟩
  rintro o1 h1 k1 s1 ⟨v, rfl, rfl, rfl, f2, a2, rfl, g2, h21, hch, b2, rfl, hb2⟩
  have hbb : b2 = b := Bool.eq_iff_iff.mpr (hb2.trans hb.symm)
  exact ⟨_, rfl, rfl, rfl, f2, a2, rfl, by rw [hbb], c, T, Z, K, D, I, L, h.a12.cache g2 h21 hch⟩
theorem ax_cT {n : Nat} {xs : Nat → Int32} {f : Nat → Int32} {a : Nat → Nat → Int32} {o : Nat → Int64} {k s e : Nat} {cd : Int32} {cs : List (Nat × Int32)} {m : Int32 → Int32 → (Nat → Int32) → (Nat → Nat → Int32) → Prop} (hm : (e, cd) ∈ cs) (hc : ¬ cd = 0) (h : m cd 0 f a) : ∀ o1 h1 k1 s1, ax_T e (hp n xs f a o) k s o1 h1 k1 s1 → cc n xs o k s cs m o1 h1 k1 s1 := by
  rintro o1 h1 k1 s1 ⟨rfl, rfl, rfl, rfl⟩
  exact ⟨f, a, rfl, by omega, by omega, Or.inr ⟨e, cd, hm, rfl, hc, h⟩⟩
theorem tu_label (hi : i + 4 ≤ n) (hn : n ≤ 2049) (h : IV c T Z K D I L f a) (hnx : nx n xs (d + 60) i k s Q) : ax_R (d + 60) 108 544 [.ref 0, .ref 1, .ref 25, .ref 45, .int (nI i), x5, x6] [] (hp n xs f a o) k s Q := by
  have h8 := h.z8
  by_cases hp1 : 0 ≤ xs (i + 1) ∧ xs (i + 1) < f 8
  · rw [h.f8] at hp1
    obtain ⟨j, hj, hjl⟩ := nI_has hp1 (by omega)
    refine core_label hi hn ?_ hnx
    rw [hj]
    refine (q_Ep_label (d := d + 57) h.f8 hjl h8 (h.least (d := d + 45))).mono ?_
    rintro o1 h1 k1 s1 ⟨g, rfl, hh⟩
    have h' := h.a12 (g := g)
    rcases hh with ⟨rfl, rfl, rfl, hno⟩ | ⟨rfl, rfl, w, hw, rfl⟩
    · refine ⟨f, _, rfl, by omega, by omega, Or.inr ⟨2, 2, by simp, rfl, by decide, fun o' k' s' => ?_⟩⟩
      refine (q_Mo_label (d := d + 57) h'.h15 hjl h8 (h'.lookFor (d := d + 55))).mono ?_
      rintro o1 h1 k1 s1 ⟨v, rfl, rfl, rfl, f2, a2, rfl, g2, h21, hch, ⟨-, w, hw, -⟩ | ⟨h12, rfl, -⟩⟩
      · exact absurd hw.2.1 (hno w hw.1)
      · exact ⟨_, rfl, rfl, rfl, f2, a2, 0, rfl, rfl, h12, fun _ => rfl, c, T, Z, K, D, I, L, h'.cache g2 h21 hch⟩
    · refine ⟨f, _, rfl, by omega, by omega, Or.inl ⟨_, rfl, fun o' k' s' => ?_⟩⟩
      refine (q_Mo_label (d := d + 57) h'.h15 hjl h8 (h'.lookFor (d := d + 55))).mono ?_
      rintro o1 h1 k1 s1 ⟨v, rfl, rfl, rfl, f2, a2, rfl, g2, h21, hch, ⟨h12, w2, hw2, rfl⟩ | ⟨-, -, hno⟩⟩
      · exact ⟨_, rfl, rfl, rfl, f2, a2, _, rfl, rfl, h12, fun _ => by rw [hw2.same hw j hjl], c, T, Z, K, D, I, L, h'.cache g2 h21 hch⟩
      · exact absurd hw.2.1 (hno w hw.1)
  · refine core_label hi hn ((q_Ep_label_no (d := d + 57) hp1).mono (ax_cT (cd := 1) (by simp) (by decide) (fun o' k' s' => ?_))) hnx
    refine (q_Mo_label_no (d := d + 58) (by rw [h.h15, ← h.f8]; exact hp1)).mono ?_
    rintro o1 h1 k1 s1 ⟨v, rfl, rfl, rfl, rfl, rfl⟩
    exact ⟨_, rfl, rfl, rfl, _, a, 0, rfl, rfl, rfl, fun _ => rfl, c, T, Z, K, D, I, L, h.f12.f12⟩
theorem tu_thing (hi : i + 4 ≤ n) (hn : n ≤ 2049) (h : IV c T Z K D I L f a) (hnx : nx n xs (d + 60) i k s Q) : ax_R (d + 60) 108 600 [.ref 0, .ref 1, .ref 25, .ref 45, .int (nI i), x5, x6] [] (hp n xs f a o) k s Q := by
  have h8 := h.z8
  by_cases hp1 : 0 ≤ xs (i + 1) ∧ xs (i + 1) < f 8
  · have hp0 := hp1
    rw [h.f8] at hp1
    obtain ⟨j, hj, hjl⟩ := nI_has hp1 (by omega)
    have hz : Z[j]? = some Z[j] := List.getElem?_eq_getElem hjl
    generalize Z[j] = t at hz
    refine core_thing hi hn ?_ hnx
    rw [hj] at hp0 ⊢
    refine (q_Ep_thing (d := d + 57) hp0 (by omega)).mono ?_
    rintro o1 h1 k1 s1 ⟨v, rfl, rfl, rfl, rfl, rfl⟩
    refine ⟨f, a, rfl, by omega, by omega, Or.inl ⟨_, rfl, fun o' k' s' => ?_⟩⟩
    refine (q_Mo_thing (d := d + 58) (by rw [h.h15, ← h.f8]; exact hp0) (by omega)).mono ?_
    rintro o1 h1 k1 s1 ⟨v, rfl, rfl, rfl, rfl, rfl⟩
    exact ⟨_, rfl, rfl, rfl, _, a, _, rfl, rfl, rfl, fun _ => by rw [h.2.1.2.2.2.2.2.2.2.1 j t hz, h.2.1.2.2.1.2.2.2.2 j t hz], c, T, Z, K, D, I, L, h.f12⟩
  · refine core_thing hi hn ((q_Ep_thing_no (d := d + 57) hp1).mono (ax_cT (cd := 1) (by simp) (by decide) (fun o' k' s' => ?_))) hnx
    refine (q_Mo_thing_no (d := d + 58) (by rw [h.h15, ← h.f8]; exact hp1)).mono ?_
    rintro o1 h1 k1 s1 ⟨v, rfl, rfl, rfl, rfl, rfl⟩
    exact ⟨_, rfl, rfl, rfl, _, a, 0, rfl, rfl, rfl, fun _ => rfl, c, T, Z, K, D, I, L, h.f12.f12⟩
theorem tu_look (hi : i + 4 ≤ n) (hn : n ≤ 2049) (h : IV c T Z K D I L f a) (hnx : nx n xs (d + 60) i k s Q) : ax_R (d + 60) 108 682 [.ref 0, .ref 1, .ref 25, .ref 45, .int (nI i), x5, x6] [] (hp n xs f a o) k s Q := by
  have h20 := h.t20
  by_cases hp1 : (0 ≤ xs (i + 1) ∧ xs (i + 1) < f 7) ∧ 0 ≤ xs (i + 2) ∧ xs (i + 2) < 3
  · obtain ⟨hp0, hq0⟩ := hp1
    have hp1 := hp0
    rw [h.f7] at hp1
    obtain ⟨j, hj, hjl⟩ := nI_has hp1 (by omega)
    obtain ⟨w, hw, hwl⟩ := nI_has (N := 3) hq0 (by omega)
    have hz : T[j]? = some T[j] := List.getElem?_eq_getElem hjl
    generalize T[j] = t at hz
    refine core_look hi hn ?_ hnx
    rw [hj] at hp0 ⊢
    rw [hw]
    refine (q_Ep_look (d := d + 57) (by omega) hp0 hwl).mono ?_
    rintro o1 h1 k1 s1 ⟨v, rfl, rfl, rfl, rfl, rfl⟩
    refine ⟨f, a, rfl, by omega, by omega, Or.inl ⟨_, rfl, fun o' k' s' => ?_⟩⟩
    refine (q_Mo_look (d := d + 58) (by omega) (by rw [h.f14, ← h.f7]; exact hp0) hwl).mono ?_
    rintro o1 h1 k1 s1 ⟨v, rfl, rfl, rfl, rfl, rfl⟩
    obtain ⟨a1, a2, a3, -⟩ := h.2.1.1.2.2.2.1 j t hz
    obtain ⟨b1, b2, b3, -⟩ := h.2.1.2.1.2.2.2.1 j t hz
    exact ⟨_, rfl, rfl, rfl, _, a, _, rfl, rfl, rfl, fun _ => by rw [a1, a2, a3, b1, b2, b3], c, T, Z, K, D, I, L, h.f12⟩
  · refine core_look hi hn ((q_Ep_look_no (d := d + 57) hp1).mono (ax_cT (cd := 1) (by simp) (by decide) (fun o' k' s' => ?_))) hnx
    refine (q_Mo_look_no (d := d + 58) (by rw [h.f14, ← h.f7]; exact hp1)).mono ?_
    rintro o1 h1 k1 s1 ⟨v, rfl, rfl, rfl, rfl, rfl⟩
    exact ⟨_, rfl, rfl, rfl, _, a, 0, rfl, rfl, rfl, fun _ => rfl, c, T, Z, K, D, I, L, h.f12.f12⟩
theorem tu_open (hi : i + 4 ≤ n) (hn : n ≤ 2049) (h : IV c T Z K D I L f a) (hnx : nx n xs (d + 60) i k s Q) : ax_R (d + 60) 108 340 [.ref 0, .ref 1, .ref 25, .ref 45, .int (nI i), x5, x6] [] (hp n xs f a o) k s Q := by
  obtain ⟨l1, l2, l3, l4, l5⟩ := id h.2.2.2.2.1
  rcases Nat.lt_or_ge L.length 4 with hl | hl
  · refine core_open hi hn ((q_Ep_open (d := d + 57) l1 hl).mono ?_) hnx
    rintro o1 h1 k1 s1 ⟨v, rfl, rfl, rfl, rfl, rfl⟩
    refine ⟨_, _, rfl, by omega, by omega, Or.inl ⟨_, rfl, fun o' k' s' => ?_⟩⟩
    refine (q_Mo_open (f := upd f 11 (nI (L.length + 1))) (m := L.length) l2 hl).mono ?_
    rintro o1 h1 k1 s1 ⟨v, rfl, rfl, rfl, rfl, rfl⟩
    have g : ag [11, 12, 20] [13, 14, 42] f a (upd (upd (upd f 11 (nI (L.length + 1))) 12 0) 20 (nI (L.length + 1))) (upda (upda (upda a 13 (upd (a 13) (L.length + 1) (f 10))) 14 (upd (a 14) (L.length + 1) (f 1))) 42 (upd (a 42) (L.length + 1) (f 19))) := by
      refine ⟨fun j hj => ?_, fun j hj => ?_⟩
      · simp only [List.mem_cons, List.not_mem_nil, or_false, not_or] at hj
        simp [upd, hj]
      · simp only [List.mem_cons, List.not_mem_nil, or_false, not_or] at hj
        simp [upda, hj]
    refine ⟨_, rfl, rfl, rfl, _, _, _, rfl, rfl, rfl, fun _ => rfl, c, T, Z, K, D, I, L ++ [I.length], h.1.kept g (by decide), h.2.1.kept g (by decide) (by decide), h.2.2.1.kept g (by decide) (by decide), h.2.2.2.1.kept g (by decide) (by decide), ⟨by rw [List.length_append]; rfl, by rw [List.length_append]; rfl, by rw [List.length_append]; simp; omega, fun p q m m' hpq hp hq => ?_, fun j m hj => ?_⟩, h.2.2.2.2.2.kept g (by decide) (by decide)⟩
    · rcases Nat.lt_or_ge q L.length with hq1 | hq1
      · exact l4 p q m m' hpq (tm_app' (by omega) hp) (tm_app' hq1 hq)
      · have hq2 := tm_lt hq
        simp at hq2
        have hqe : q = L.length := by omega
        subst hqe
        rw [List.getElem?_append_right (Nat.le_refl _), Nat.sub_self] at hq
        cases hq
        rcases Nat.lt_or_ge p L.length with hp1 | hp1
        · exact (l5 p m (tm_app' hp1 hp)).1
        · have hpe : p = L.length := by omega
          subst hpe
          rw [List.getElem?_append_right (Nat.le_refl _), Nat.sub_self] at hp
          cases hp
          exact Nat.le_refl _
    · show m ≤ I.length ∧ upd (a 13) (L.length + 1) (f 10) (j + 1) = nI m ∧ upd (a 14) (L.length + 1) (f 1) (j + 1) = nI ((I.take m).flatten.filterMap wl_kp).length ∧ upd (a 42) (L.length + 1) (f 19) (j + 1) = nI m
      rcases Nat.lt_or_ge j L.length with hj1 | hj1
      · obtain ⟨e1, e2, e3, e4⟩ := l5 j m (tm_app' hj1 hj)
        have hne : ¬ j + 1 = L.length + 1 := by omega
        exact ⟨e1, (if_neg hne).trans e2, (if_neg hne).trans e3, (if_neg hne).trans e4⟩
      · have hj2 := tm_lt hj
        simp at hj2
        have hje : j = L.length := by omega
        subst hje
        rw [List.getElem?_append_right (Nat.le_refl _), Nat.sub_self] at hj
        cases hj
        refine ⟨Nat.le_refl _, (if_pos rfl).trans h.2.2.2.1.2.1, (if_pos rfl).trans ?_, (if_pos rfl).trans h.2.2.2.1.2.2.1.1⟩
        rw [List.take_length]
        exact h.2.2.2.1.1.1
  · have hL : L.length = 4 := by omega
    refine core_open hi hn ((q_Ep_open_no (by rw [l1, hL])).mono (ax_cT (cd := 1) (by simp) (by decide) (fun o' k' s' => ?_))) hnx
    refine (q_Mo_open_no (by rw [l2, hL])).mono ?_
    rintro o1 h1 k1 s1 ⟨v, rfl, rfl, rfl, rfl, rfl⟩
    exact ⟨_, rfl, rfl, rfl, _, a, 0, rfl, rfl, rfl, fun _ => rfl, c, T, Z, K, D, I, L, h.f12⟩
theorem cl_at.take {m : Nat} {f' : Nat → Int32} {a' : Nat → Nat → Int32} (h : cl_at I f a) (hm : m ≤ I.length) (h19 : f' 19 = nI m) (hA : a' 37 = a 37 ∧ a' 38 = a 38 ∧ a' 39 = a 39 ∧ a' 40 = a 40 ∧ a' 41 = a 41) : cl_at (I.take m) f' a' := by
  obtain ⟨h1, h2, h3⟩ := h
  have hl : (I.take m).length = m := by rw [List.length_take]; omega
  refine ⟨by rw [hl]; exact h19, by omega, fun c G hG => ?_⟩
  have hc := tm_lt hG
  rw [List.getElem?_take, if_pos (by omega)] at hG
  rw [hA.1, hA.2.1, hA.2.2.1, hA.2.2.2.1, hA.2.2.2.2]
  exact h3 c G hG
theorem tu_close (hi : i + 4 ≤ n) (hn : n ≤ 2049) (h : IV c T Z K D I L f a) (hnx : nx n xs (d + 60) i k s Q) : ax_R (d + 60) 108 384 [.ref 0, .ref 1, .ref 25, .ref 45, .int (nI i), x5, x6] [] (hp n xs f a o) k s Q := by
  obtain ⟨l1, l2, l3, l4, l5⟩ := id h.2.2.2.2.1
  rcases Nat.eq_zero_or_pos L.length with hl | hl
  · refine core_close hi hn ((q_Ep_close_no (by rw [l1, hl])).mono (ax_cT (cd := 1) (by simp) (by decide) (fun o' k' s' => ?_))) hnx
    refine (q_Mo_close_no (by rw [l2, hl])).mono ?_
    rintro o1 h1 k1 s1 ⟨v, rfl, rfl, rfl, rfl, rfl⟩
    exact ⟨_, rfl, rfl, rfl, _, a, 0, rfl, rfl, rfl, fun _ => rfl, c, T, Z, K, D, I, L, h.f12⟩
  · obtain ⟨m, hm⟩ : ∃ m, L.length = m + 1 := ⟨L.length - 1, by omega⟩
    have hlm : L[m]? = some L[m] := List.getElem?_eq_getElem (by omega)
    generalize L[m] = M at hlm
    obtain ⟨e1, e2, e3, e4⟩ := l5 m M hlm
    rw [hm] at l1 l2
    refine core_close hi hn ((q_Ep_close (d := d + 57) l1 (by omega)).mono ?_) hnx
    rintro o1 h1 k1 s1 ⟨v, rfl, rfl, rfl, rfl, rfl⟩
    refine ⟨_, _, rfl, by omega, by omega, Or.inl ⟨_, rfl, fun o' k' s' => ?_⟩⟩
    refine (q_Mo_close (f := upd (upd (upd f 10 (a 13 (m + 1))) 1 (a 14 (m + 1))) 11 (nI m)) (m := m) l2 (by omega)).mono ?_
    rintro o1 h1 k1 s1 ⟨v, rfl, rfl, rfl, rfl, rfl⟩
    have g : ag [1, 10, 11, 12, 19, 20, 21] [] f a (upd (upd (upd (upd (upd (upd (upd f 10 (a 13 (m + 1))) 1 (a 14 (m + 1))) 11 (nI m)) 12 0) 19 (a 42 (m + 1))) 20 (nI m)) 21 0) a := by
      refine ⟨fun j hj => ?_, fun _ _ => rfl⟩
      simp only [List.mem_cons, List.not_mem_nil, or_false, not_or] at hj
      simp [upd, hj]
    have hlt : (L.take m).length = m := by rw [List.length_take]; omega
    have hltI : (I.take M).length = M := by rw [List.length_take]; omega
    have hfl : I.flatten.filterMap wl_kp = (I.take M).flatten.filterMap wl_kp ++ (I.drop M).flatten.filterMap wl_kp := by
      rw [← List.filterMap_append, ← List.flatten_append, List.take_append_drop]
    have hci : ci_at ((I.take M).flatten.filterMap wl_kp) (upd (upd (upd (upd (upd (upd (upd f 10 (a 13 (m + 1))) 1 (a 14 (m + 1))) 11 (nI m)) 12 0) 19 (a 42 (m + 1))) 20 (nI m)) 21 0) a := by
      obtain ⟨c1, c2, c3⟩ := h.2.2.2.1.1
      rw [hfl, List.length_append] at c2
      refine ⟨e3, by omega, fun j p hj => c3 j p ?_⟩
      rw [hfl]
      exact tm_app hj
    refine ⟨_, rfl, rfl, rfl, _, _, _, rfl, rfl, rfl, fun _ => ?_, c, T, Z, K, D, I.take M, L.take m, h.1.kept g (by decide), h.2.1.kept g (by decide) (by decide), h.2.2.1.kept g (by decide) (by decide), ⟨hci, by rw [hltI]; exact e2, cl_at.take h.2.2.2.1.2.2.1 e1 e4 ⟨rfl, rfl, rfl, rfl, rfl⟩, fun C hC => h.2.2.2.1.2.2.2 C (List.mem_of_mem_take hC)⟩, ⟨by rw [hlt]; rfl, by rw [hlt]; rfl, by omega, fun p q m1 m2 hpq hp hq => ?_, fun j m1 hj => ?_⟩, Or.inl rfl⟩
    · show f 19 - a 42 (m + 1) = f 10 - a 13 (m + 1)
      rw [h.2.2.2.1.2.1, h.2.2.2.1.2.2.1.1, e2, e4]
    · have h8 := tm_lt hp
      have h9 := tm_lt hq
      rw [List.getElem?_take, if_pos (by omega)] at hp hq
      exact l4 p q m1 m2 hpq hp hq
    · have h8 := tm_lt hj
      rw [List.getElem?_take, if_pos (by omega)] at hj
      obtain ⟨y1, y2, y3, y4⟩ := l5 j m1 hj
      have hmm := l4 j m m1 M (by omega) hj hlm
      refine ⟨by omega, y2, ?_, y4⟩
      rw [List.take_take, Nat.min_eq_left hmm]
      exact y3
end HTU
