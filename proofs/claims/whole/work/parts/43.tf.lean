def ms_at (x y : Nat) (T : tm_T) (Z : List Nat) (N : Nat) (g : Nat → Int32) : Prop := ∀ u, u < N → g u = -1 ∨ ∃ p r : Nat, g u = nI p ∧ tm_is x y 21 T u r ∧ Z[p]? = some r
def zk_at (T : tm_T) (Z : List Nat) (f : Nat → Int32) (a : Nat → Nat → Int32) : Prop := ∃ K, zt_at K Z f a ∧ kz T Z K
def sv_at (c x y N : Nat) (T : tm_T) (Z : List Nat) (f : Nat → Int32) (a : Nat → Nat → Int32) : Prop := ct_at c T f a ∧ zk_at T Z f a ∧ th_wf c T Z ∧ N ≤ T.length ∧ f 5 = nI x ∧ f 6 = nI y ∧ ms_at x y T Z N (a 7)
theorem zk_at.len {T : tm_T} {Z : List Nat} {f : Nat → Int32} {a : Nat → Nat → Int32} (h : zk_at T Z f a) : Z.length ≤ 8 := by
  obtain ⟨K, ⟨h1, -, -, h2, -⟩, -⟩ := h
  omega
theorem zk_at.term {T : tm_T} {Z : List Nat} {f : Nat → Int32} {a : Nat → Nat → Int32} (h : zk_at T Z f a) {p t : Nat} (hp : Z[p]? = some t) : a 24 p = nI t := by
  obtain ⟨K, ⟨-, -, -, -, h5⟩, -⟩ := h
  exact h5 p t hp
theorem zk_at.kept {T : tm_T} {Z : List Nat} {F A : List Nat} {f f' : Nat → Int32} {a a' : Nat → Nat → Int32} (h : zk_at T Z f a) (g : ag F A f a f' a') (h8 : 8 ∉ F) (hA : 21 ∉ A ∧ 22 ∉ A ∧ 23 ∉ A ∧ 24 ∉ A) : zk_at T Z f' a' := by
  obtain ⟨K, h1, h2⟩ := h
  exact ⟨K, h1.kept g h8 hA, h2⟩
theorem zk_at.app {T S : tm_T} {Z : List Nat} {f : Nat → Int32} {a : Nat → Nat → Int32} (h : zk_at T Z f a) : zk_at (T ++ S) Z f a := by
  obtain ⟨K, h1, h2⟩ := h
  exact ⟨K, h1, h2.app⟩
theorem ms_at.app {c x y N : Nat} {T S : tm_T} {Z S2 : List Nat} {g : Nat → Int32} (h : ms_at x y T Z N g) (hT : tm_wf c T) (hN : N ≤ T.length) : ms_at x y (T ++ S) (Z ++ S2) N g := by
  intro u hu
  rcases h u hu with h | ⟨p, r, h1, h2, h3⟩
  · exact Or.inl h
  · exact Or.inr ⟨p, r, h1, tm_is_app hT (by omega) h2, tm_app h3⟩
theorem sv_at.terms {c x y N : Nat} {T S : tm_T} {Z : List Nat} {f f' : Nat → Int32} {a a' : Nat → Nat → Int32} (h : sv_at c x y N T Z f a) (g : ag [7] [16, 17, 18, 19] f a f' a') (hct : ct_at c (T ++ S) f' a') : sv_at c x y N (T ++ S) Z f' a' := by
  obtain ⟨h1, h2, h3, h4, h5, h6, h7⟩ := h
  refine ⟨hct, (h2.app).kept g (by decide) (by decide), h3.app, by rw [List.length_append]; omega, by rw [g.1 5 (by decide)]; exact h5, by rw [g.1 6 (by decide)]; exact h6, ?_⟩
  have := h7.app (S := S) (S2 := []) h1.1 h4
  rw [List.append_nil] at this
  rw [g.2 7 (by decide)]
  exact this
theorem sv_at.things {c x y N : Nat} {T : tm_T} {Z S : List Nat} {f f' : Nat → Int32} {a a' : Nat → Nat → Int32} (h : sv_at c x y N T Z f a) (g : ag [8] [21, 22, 23, 24] f a f' a') (hz : zk_at T (Z ++ S) f' a') (hZ : th_wf c T (Z ++ S)) : sv_at c x y N T (Z ++ S) f' a' := by
  obtain ⟨h1, h2, h3, h4, h5, h6, h7⟩ := h
  refine ⟨h1.kept g (by decide) (by decide), hz, hZ, h4, by rw [g.1 5 (by decide)]; exact h5, by rw [g.1 6 (by decide)]; exact h6, ?_⟩
  have := h7.app (S := []) (S2 := S) h1.1 h4
  rw [List.append_nil] at this
  rw [g.2 7 (by decide)]
  exact this
def tf_Q (n : Nat) (xs : Nat → Int32) (o : Nat → Int64) (c x y N : Nat) (T : tm_T) (Z : List Nat) (R : tm_T × List Nat × Nat) (f : Nat → Int32) (a : Nat → Nat → Int32) (k s : Nat) : ax_P := ax_V (fun v h' => ∃ f' a' T1 Z1, h' = hp n xs f' a' o ∧ ag [7, 8] [7, 16, 17, 18, 19, 21, 22, 23, 24] f a f' a' ∧ (∃ S, T1 = T ++ S) ∧ (∃ S, Z1 = Z ++ S) ∧ sv_at c x y N T1 Z1 f' a' ∧ ((T1 = R.1 ∧ Z1 = R.2.1 ∧ ∃ p : Nat, Z1[p]? = some R.2.2 ∧ v = some (.int (nI p))) ∨ ((20 < R.1.length ∨ 8 < R.2.1.length) ∧ v = some (.int (-1))))) k s
theorem tf_trans {n : Nat} {xs : Nat → Int32} {o : Nat → Int64} {c x y N : Nat} {T S1 : tm_T} {Z S2 : List Nat} {R : tm_T × List Nat × Nat} {f f1 : Nat → Int32} {a a1 : Nat → Nat → Int32} {k s : Nat} (g : ag [7, 8] [7, 16, 17, 18, 19, 21, 22, 23, 24] f a f1 a1) : ∀ o1 h1 k1 s1, tf_Q n xs o c x y N (T ++ S1) (Z ++ S2) R f1 a1 k s o1 h1 k1 s1 → tf_Q n xs o c x y N T Z R f a k s o1 h1 k1 s1 := by
  rintro o1 h1 k1 s1 ⟨v, e1, e2, e3, f', a', T1, Z1, e4, e5, ⟨S3, e6⟩, ⟨S4, e7⟩, e8⟩
  exact ⟨v, e1, e2, e3, f', a', T1, Z1, e4, g.trans e5, ⟨S1 ++ S3, by rw [e6, List.append_assoc]⟩, ⟨S2 ++ S4, by rw [e7, List.append_assoc]⟩, e8⟩
theorem nI_nm1 {i : Nat} (hi : i < 2 ^ 31) : ¬ nI i = -1 := fun h9 => by
  have := nI_pos (n := i) hi
  rw [h9] at this
  exact this (by decide)
section HTF
variable {n : Nat} {xs : Nat → Int32} {f : Nat → Int32} {a : Nat → Nat → Int32} {o : Nat → Int64} {d k s : Nat}
theorem q_comp_tail {c x y N : Nat} {T : tm_T} {Z : List Nat} (h : sv_at c x y N T Z f a) {kd p1 p2 r1 w2 u dp : Nat} (hp1 : Z[p1]? = some r1) (he : (kd = 1 ∧ p2 = 0 ∧ w2 = 0) ∨ (kd = 2 ∧ Z[p2]? = some w2)) : ax_R (d + 2) 70 85 [.ref 6, .int (nI u), .ref 15, .ref 20, .int (nI dp), .int (nI kd), .int (nI p1), .int (nI p2), .int (nI w2), ax_u] [] (hp n xs f a o) k s (tf_Q n xs o c x y N T Z ((tm_mk T (kd, r1, w2)).1, enp Z (tm_mk T (kd, r1, w2)).2, (tm_mk T (kd, r1, w2)).2) f a k s) := by
  obtain ⟨hct, hzk, hZ, hN, h5, h6, hms⟩ := id h
  have hz8 := hzk.len
  have hl1 := tm_lt hp1
  have hin : ∀ {p t : Nat}, Z[p]? = some t → t < T.length := fun {p t} hp => by
    obtain ⟨e, g1, -⟩ := hZ.2.2 p t hp
    exact tm_lt g1
  have hr1 := hin hp1
  have hT20 := hct.2.1
  have hkd : tm_kd c T.length (kd, r1, w2) := by
    rcases he with ⟨rfl, rfl, rfl⟩ | ⟨rfl, hp2⟩
    · exact Or.inr (Or.inl ⟨r1, rfl, hr1⟩)
    · exact Or.inr (Or.inr (Or.inl ⟨r1, w2, rfl, hr1, hin hp2⟩))
  have hp2l : p2 < 8 ∧ kd < 3 := by
    rcases he with ⟨rfl, rfl, rfl⟩ | ⟨rfl, hp2⟩
    · omega
    · have := tm_lt hp2
      omega
  iterate 4 refine ax_nx rfl rfl ?_
  refine ax_cal rfl rfl (q_Th_term (by omega)) (fun v h' hh => ?_)
  obtain ⟨rfl, rfl⟩ := hh
  rw [hzk.term hp1]
  refine ax_nx rfl rfl ?_
  refine ax_cal rfl rfl (q_Te_foa hct hkd) (fun v h' hh => ?_)
  obtain ⟨f1, a1, rfl, g1, hh⟩ := hh
  have hwf := tm_mk_wf hct.1 hkd
  have hget := tm_mk_get T (kd, r1, w2)
  obtain ⟨S, hext, -⟩ := tm_mk_ext T (kd, r1, w2)
  generalize tm_mk T (kd, r1, w2) = R at *
  obtain ⟨T3, r⟩ := R
  dsimp only at *
  subst hext
  rcases hh with ⟨hle, rfl, hct1⟩ | ⟨hgt, rfl, hct1⟩
  rotate_left
  · refine ax_nx (al' := [.ref 6, .int (nI u), .ref 15, .ref 20, .int (nI dp), .int (nI kd), .int (nI p1), .int (nI p2), .int (nI w2), .int (-1)]) rfl rfl ?_
    iterate 2 refine ax_nx rfl rfl ?_
    iterate 3 refine ax_nx rfl rfl ?_
    have hs1 := h.terms (S := []) g1 (by rw [List.append_nil]; exact hct1)
    rw [List.append_nil] at hs1
    exact ax_ret rfl rfl ⟨_, rfl, rfl, rfl, f1, a1, T, Z, rfl, g1.wide (by simp) (by simp), ⟨[], by simp⟩, ⟨[], by simp⟩, hs1, Or.inr ⟨Or.inl hgt, rfl⟩⟩
  have hs1 := h.terms g1 hct1
  have hr : r < (T ++ S).length := tm_lt hget
  refine ax_nx (al' := [.ref 6, .int (nI u), .ref 15, .ref 20, .int (nI dp), .int (nI kd), .int (nI p1), .int (nI p2), .int (nI w2), .int (nI r)]) rfl rfl ?_
  iterate 2 refine ax_nx rfl rfl ?_
  refine ax_nxf rfl rfl (nI_nm1 (by omega)) ?_
  iterate 5 refine ax_nx rfl rfl ?_
  obtain ⟨K, hzt, hkz⟩ := hs1.2.1
  refine ax_cal rfl rfl (q_Th_foa hzt (by omega) (by omega) (by omega)) (fun v h' hh => ?_)
  obtain ⟨f2, a2, rfl, g2, hh⟩ := hh
  have hZ1 : th_wf c (T ++ S) Z := hZ.app
  have hfd : (∀ i, tm_fd K (kd, p1, p2) = some i → Z[i]? = some r) ∧ (tm_fd K (kd, p1, p2) = none → r ∉ Z) ∧ kz_e Z Z.length (kd, r1, w2) (kd, p1, p2) ∧ th_cl Z Z.length (kd, r1, w2) := by
    rcases he with ⟨rfl, rfl, rfl⟩ | ⟨rfl, hp2⟩
    · exact ⟨fun i hi => hkz.fd1 hwf hp1 hget hi, fun hi => hkz.no1 hZ1 hp1 hget hi, Or.inr (Or.inl ⟨r1, p1, rfl, rfl, hl1, hp1⟩), Or.inr (Or.inl ⟨r1, rfl, p1, hl1, hp1⟩)⟩
    · exact ⟨fun i hi => hkz.fd2 hwf hp1 hp2 hget hi, fun hi => hkz.no2 hZ1 hp1 hp2 hget hi, Or.inr (Or.inr ⟨r1, w2, p1, p2, rfl, rfl, hl1, tm_lt hp2, hp1, hp2⟩), Or.inr (Or.inr ⟨r1, w2, rfl, ⟨p1, hl1, hp1⟩, p2, tm_lt hp2, hp2⟩)⟩
  obtain ⟨fd1, fd2, fd3, fd4⟩ := hfd
  have gw := (g1.wide (F' := [7, 8]) (A' := [7, 16, 17, 18, 19, 21, 22, 23, 24]) (by simp) (by simp)).trans (g2.wide (F' := [7, 8]) (A' := [7, 16, 17, 18, 19, 21, 22, 23, 24]) (by simp) (by simp))
  rcases hh with ⟨i, hi, rfl, hz2⟩ | ⟨hi, hK8, rfl, hz2⟩ | ⟨hi, hK8, rfl, hz2⟩
  · have hm := List.mem_of_getElem? (fd1 i hi)
    have hen : enp Z r = Z := if_pos hm
    have hs2 := hs1.things (S := []) g2 (by rw [List.append_nil]; exact ⟨K, hz2, hkz⟩) (by rw [List.append_nil]; exact hZ1)
    rw [List.append_nil] at hs2
    exact ax_ret rfl rfl ⟨_, rfl, rfl, rfl, f2, a2, T ++ S, Z, rfl, gw, ⟨S, rfl⟩, ⟨[], by simp⟩, hs2, Or.inl ⟨rfl, hen.symm, i, fd1 i hi, rfl⟩⟩
  · have hm := fd2 hi
    have hen : enp Z r = Z ++ [r] := if_neg hm
    have hs2 := hs1.things (S := [r]) g2 ⟨K ++ [(kd, p1, p2)], hz2, hkz.push hget fd3⟩ (th_push hZ1 hm hget fd4)
    refine ax_ret rfl rfl ⟨_, rfl, rfl, rfl, f2, a2, T ++ S, Z ++ [r], rfl, gw, ⟨S, rfl⟩, ⟨[r], rfl⟩, hs2, Or.inl ⟨rfl, hen.symm, K.length, ?_, rfl⟩⟩
    rw [← hkz.1, List.getElem?_append_right (Nat.le_refl _), Nat.sub_self]
    rfl
  · have hm := fd2 hi
    have hen : enp Z r = Z ++ [r] := if_neg hm
    have hs2 := hs1.things (S := []) g2 (by rw [List.append_nil]; exact ⟨K, hz2, hkz⟩) (by rw [List.append_nil]; exact hZ1)
    rw [List.append_nil] at hs2
    refine ax_ret rfl rfl ⟨_, rfl, rfl, rfl, f2, a2, T ++ S, Z, rfl, gw, ⟨S, rfl⟩, ⟨[], by simp⟩, hs2, Or.inr ⟨Or.inr ?_, rfl⟩⟩
    show 8 < (enp Z r).length
    rw [hen, List.length_append, hkz.1, hK8]
    simp
theorem q_comp1 {c x y N : Nat} (hx : x < c) (hy : y < c) {T : tm_T} {Z : List Nat} (h : sv_at c x y N T Z f a) {u p dp : Nat} (hu : u < 20) (hdp : dp + u ≤ 20) (hT : T[u]? = some (1, p, 0))
    (ih : ax_R (d + 2) 69 0 (ax_in 69 [.ref 6, .int (nI p), .ref 15, .ref 20, .int (nI (dp + 1))]) [] (hp n xs f a o) k s (tf_Q n xs o c x y N T Z (li x y T Z p) f a k s)) : ax_R (d + 3) 70 0 (ax_in 70 [.ref 6, .int (nI u), .ref 15, .ref 20, .int (nI dp)]) [] (hp n xs f a o) k s (tf_Q n xs o c x y N T Z (li x y T Z u) f a k s) := by
  obtain ⟨hct, hzk, hZ, hN, h5, h6, hms⟩ := id h
  obtain ⟨k1, k2, k3, -, k5, k6⟩ := hct.2.2.2.1 u _ hT
  dsimp only at k1 k2 k3 k5 k6
  have hli := li_1 (Z := Z) hx hy hct.1 hZ hu hT
  iterate 2 refine ax_nx rfl rfl ?_
  refine ax_cal rfl rfl (q_kind_Te (by omega)) (fun v h' hh => ?_)
  obtain ⟨rfl, rfl⟩ := hh
  rw [k1]
  refine ax_nx (al' := [.ref 6, .int (nI u), .ref 15, .ref 20, .int (nI dp), .int (nI 1), ax_u, ax_u, ax_u, ax_u]) rfl rfl ?_
  iterate 3 refine ax_nx rfl rfl ?_
  refine ax_cal rfl rfl (q_first_Te (by omega)) (fun v h' hh => ?_)
  obtain ⟨rfl, rfl⟩ := hh
  rw [k2]
  iterate 5 refine ax_nx rfl rfl ?_
  refine ax_top (y := nI (dp + 1)) (nI_1 dp) ?_
  refine ax_cal (d := d + 2) rfl rfl (ih) (fun v h' hh => ?_)
  obtain ⟨f1, a1, T1, Z1, rfl, g1, ⟨S1, rfl⟩, ⟨S2, rfl⟩, hs1, hv⟩ := hh
  rcases hv with ⟨eT, eZ, p1, hp1, rfl⟩ | ⟨hov, rfl⟩
  · refine ax_nx (al' := [.ref 6, .int (nI u), .ref 15, .ref 20, .int (nI dp), .int (nI 1), .int (nI p1), ax_u, ax_u, ax_u]) rfl rfl ?_
    iterate 2 refine ax_nx rfl rfl ?_
    refine ax_nxf rfl rfl (nI_nm1 (by have := tm_lt hp1; have := hs1.2.1.len; omega)) ?_
    iterate 2 refine ax_nx rfl rfl ?_
    iterate 2 refine ax_nx rfl rfl ?_
    refine ax_nx (al' := [.ref 6, .int (nI u), .ref 15, .ref 20, .int (nI dp), .int (nI 1), .int (nI p1), .int 0, ax_u, ax_u]) rfl rfl ?_
    iterate 2 refine ax_nx rfl rfl ?_
    iterate 3 refine ax_nx rfl rfl ?_
    iterate 2 refine ax_nx rfl rfl ?_
    refine ax_nx (al' := [.ref 6, .int (nI u), .ref 15, .ref 20, .int (nI dp), .int (nI 1), .int (nI p1), .int 0, .int 0, ax_u]) rfl rfl ?_
    have ht := q_comp_tail (d := d + 1) (n := n) (xs := xs) (o := o) (k := k) (s := s) (u := u) (dp := dp) hs1 hp1 (Or.inl ⟨rfl, rfl, rfl⟩)
    rw [eT, eZ, ← hli, ← eT, ← eZ] at ht
    exact ht.mono (tf_trans g1)
  · refine ax_nx (al' := [.ref 6, .int (nI u), .ref 15, .ref 20, .int (nI dp), .int (nI 1), .int (-1), ax_u, ax_u, ax_u]) rfl rfl ?_
    iterate 2 refine ax_nx rfl rfl ?_
    iterate 2 refine ax_nx rfl rfl ?_
    refine ax_ret rfl rfl ⟨_, rfl, rfl, rfl, f1, a1, _, _, rfl, g1, ⟨S1, rfl⟩, ⟨S2, rfl⟩, hs1, Or.inr ⟨?_, rfl⟩⟩
    rw [hli]
    dsimp only
    obtain ⟨S3, e3, -⟩ := tm_mk_ext (li x y T Z p).1 (1, (li x y T Z p).2.2, 0)
    obtain ⟨S4, e4⟩ := enp_ext (li x y T Z p).2.1 (tm_mk (li x y T Z p).1 (1, (li x y T Z p).2.2, 0)).2
    rw [e4, e3, List.length_append, List.length_append]
    omega
theorem q_comp2 {c x y N : Nat} (hx : x < c) (hy : y < c) {T : tm_T} {Z : List Nat} (h : sv_at c x y N T Z f a) {u p q dp : Nat} (hu : u < 20) (huN : u < N) (hdp : dp + u ≤ 20) (hT : T[u]? = some (2, p, q))
    (ih1 : ax_R (d + 2) 69 0 (ax_in 69 [.ref 6, .int (nI p), .ref 15, .ref 20, .int (nI (dp + 1))]) [] (hp n xs f a o) k s (tf_Q n xs o c x y N T Z (li x y T Z p) f a k s))
    (ih2 : ∀ (f1 : Nat → Int32) (a1 : Nat → Nat → Int32) (T1 : tm_T) (Z1 : List Nat), sv_at c x y N T1 Z1 f1 a1 → ax_R (d + 2) 69 0 (ax_in 69 [.ref 6, .int (nI q), .ref 15, .ref 20, .int (nI (dp + 1))]) [] (hp n xs f1 a1 o) k s (tf_Q n xs o c x y N T1 Z1 (li x y T1 Z1 q) f1 a1 k s)) : ax_R (d + 3) 70 0 (ax_in 70 [.ref 6, .int (nI u), .ref 15, .ref 20, .int (nI dp)]) [] (hp n xs f a o) k s (tf_Q n xs o c x y N T Z (li x y T Z u) f a k s) := by
  obtain ⟨hct, hzk, hZ, hN, h5, h6, hms⟩ := id h
  obtain ⟨k1, k2, k3, -, k5, k6⟩ := hct.2.2.2.1 u _ hT
  dsimp only at k1 k2 k3 k5 k6
  have hpq : p < u ∧ q < u := by
    rcases hct.1.2.2 u _ hT with ⟨e, -⟩ | ⟨a', e, h⟩ | ⟨a', b', e, h⟩ | e | e
    · cases e
    · cases e
    · cases e; exact h
    · cases e
    · cases e
  have hpl : p < T.length := by omega
  obtain ⟨⟨S8, m1⟩, ⟨S9, m2, -⟩, m3, m4, m5, m6, m7, m8⟩ := li_ok (Z := Z) hx hy hct.1 hZ hpl (show p < 21 by omega)
  obtain ⟨⟨S6, n1⟩, ⟨S7, n2, -⟩, n3, n4, n5, n6, n7, n8⟩ := li_ok (Z := (li x y T Z p).2.1) hx hy m3 m4 (show q < (li x y T Z p).1.length by rw [m1, List.length_append]; omega) (show q < 21 by omega)
  have hli := li_2 (Z := Z) hx hy hct.1 hZ hu hT (show li x y T Z p = ((li x y T Z p).1, (li x y T Z p).2.1, (li x y T Z p).2.2) from rfl) (show _ = ((li x y (li x y T Z p).1 (li x y T Z p).2.1 q).1, (li x y (li x y T Z p).1 (li x y T Z p).2.1 q).2.1, (li x y (li x y T Z p).1 (li x y T Z p).2.1 q).2.2) from rfl)
  have hlen : (li x y (li x y T Z p).1 (li x y T Z p).2.1 q).1.length ≤ (li x y T Z u).1.length ∧ (li x y (li x y T Z p).1 (li x y T Z p).2.1 q).2.1.length ≤ (li x y T Z u).2.1.length := by
    rw [hli]
    dsimp only
    obtain ⟨S3, e3, -⟩ := tm_mk_ext (li x y (li x y T Z p).1 (li x y T Z p).2.1 q).1 (2, (li x y T Z p).2.2, (li x y (li x y T Z p).1 (li x y T Z p).2.1 q).2.2)
    obtain ⟨S4, e4⟩ := enp_ext (li x y (li x y T Z p).1 (li x y T Z p).2.1 q).2.1 (tm_mk (li x y (li x y T Z p).1 (li x y T Z p).2.1 q).1 (2, (li x y T Z p).2.2, (li x y (li x y T Z p).1 (li x y T Z p).2.1 q).2.2)).2
    rw [e4, e3, List.length_append, List.length_append]
    omega
  have hlen2 : (li x y T Z p).1.length ≤ (li x y (li x y T Z p).1 (li x y T Z p).2.1 q).1.length ∧ (li x y T Z p).2.1.length ≤ (li x y (li x y T Z p).1 (li x y T Z p).2.1 q).2.1.length := by
    rw [n1, n2, List.length_append, List.length_append]
    omega
  iterate 2 refine ax_nx rfl rfl ?_
  refine ax_cal rfl rfl (q_kind_Te (by omega)) (fun v h' hh => ?_)
  obtain ⟨rfl, rfl⟩ := hh
  rw [k1]
  refine ax_nx (al' := [.ref 6, .int (nI u), .ref 15, .ref 20, .int (nI dp), .int (nI 2), ax_u, ax_u, ax_u, ax_u]) rfl rfl ?_
  iterate 3 refine ax_nx rfl rfl ?_
  refine ax_cal rfl rfl (q_first_Te (by omega)) (fun v h' hh => ?_)
  obtain ⟨rfl, rfl⟩ := hh
  rw [k2]
  iterate 5 refine ax_nx rfl rfl ?_
  refine ax_top (y := nI (dp + 1)) (nI_1 dp) ?_
  refine ax_cal (d := d + 2) rfl rfl (ih1) (fun v h' hh => ?_)
  obtain ⟨f1, a1, T1, Z1, rfl, g1, ⟨S1, hS1⟩, ⟨S2, hS2⟩, hs1, hv⟩ := hh
  rcases hv with ⟨eT, eZ, p1, hp1, rfl⟩ | ⟨hov, rfl⟩
  rotate_left
  · refine ax_nx (al' := [.ref 6, .int (nI u), .ref 15, .ref 20, .int (nI dp), .int (nI 2), .int (-1), ax_u, ax_u, ax_u]) rfl rfl ?_
    iterate 2 refine ax_nx rfl rfl ?_
    iterate 2 refine ax_nx rfl rfl ?_
    refine ax_ret rfl rfl ⟨_, rfl, rfl, rfl, f1, a1, _, _, rfl, g1, ⟨S1, hS1⟩, ⟨S2, hS2⟩, hs1, Or.inr ⟨?_, rfl⟩⟩
    omega
  have hp18 : p1 < 8 := by have := tm_lt hp1; have := hs1.2.1.len; omega
  have hTu : T1[u]? = some (2, p, q) := by rw [hS1]; exact tm_app hT
  obtain ⟨j1, j2, j3, -, j5, j6⟩ := hs1.1.2.2.2.1 u _ hTu
  dsimp only at j1 j2 j3 j5 j6
  refine ax_nx (al' := [.ref 6, .int (nI u), .ref 15, .ref 20, .int (nI dp), .int (nI 2), .int (nI p1), ax_u, ax_u, ax_u]) rfl rfl ?_
  iterate 2 refine ax_nx rfl rfl ?_
  refine ax_nxf rfl rfl (nI_nm1 (by omega)) ?_
  iterate 2 refine ax_nx rfl rfl ?_
  iterate 4 refine ax_nx rfl rfl ?_
  refine ax_cal rfl rfl (q_second_Te (by omega)) (fun v h' hh => ?_)
  obtain ⟨rfl, rfl⟩ := hh
  rw [j3]
  iterate 5 refine ax_nx rfl rfl ?_
  refine ax_top (y := nI (dp + 1)) (nI_1 dp) ?_
  refine ax_cal (d := d + 2) rfl rfl (ih2 f1 a1 T1 Z1 hs1) (fun v h' hh => ?_)
  obtain ⟨f2, a2, T2, Z2, rfl, g2, ⟨S3, hS3⟩, ⟨S4, hS4⟩, hs2, hv2⟩ := hh
  have gw := g1.trans g2
  have hT2 : T2 = T ++ (S1 ++ S3) := by rw [hS3, hS1, List.append_assoc]
  have hZ2 : Z2 = Z ++ (S2 ++ S4) := by rw [hS4, hS2, List.append_assoc]
  rcases hv2 with ⟨eT2, eZ2, p2, hp2, rfl⟩ | ⟨hov, rfl⟩
  rotate_left
  · refine ax_nx rfl rfl ?_
    refine ax_nx (al' := [.ref 6, .int (nI u), .ref 15, .ref 20, .int (nI dp), .int (nI 2), .int (nI p1), .int (-1), ax_u, ax_u]) rfl rfl ?_
    iterate 2 refine ax_nx rfl rfl ?_
    iterate 2 refine ax_nx rfl rfl ?_
    refine ax_ret rfl rfl ⟨_, rfl, rfl, rfl, f2, a2, _, _, rfl, gw, ⟨_, hT2⟩, ⟨_, hZ2⟩, hs2, Or.inr ⟨?_, rfl⟩⟩
    rw [eT, eZ] at hov
    omega
  have hp28 : p2 < 8 := by have := tm_lt hp2; have := hs2.2.1.len; omega
  refine ax_nx rfl rfl ?_
  refine ax_nx (al' := [.ref 6, .int (nI u), .ref 15, .ref 20, .int (nI dp), .int (nI 2), .int (nI p1), .int (nI p2), ax_u, ax_u]) rfl rfl ?_
  iterate 2 refine ax_nx rfl rfl ?_
  refine ax_nxf rfl rfl (nI_nm1 (by omega)) ?_
  iterate 2 refine ax_nx rfl rfl ?_
  iterate 3 refine ax_nx rfl rfl ?_
  refine ax_cal rfl rfl (q_Th_term (by omega)) (fun v h' hh => ?_)
  obtain ⟨rfl, rfl⟩ := hh
  rw [hs2.2.1.term hp2]
  refine ax_nx rfl rfl ?_
  refine ax_nx (al' := [.ref 6, .int (nI u), .ref 15, .ref 20, .int (nI dp), .int (nI 2), .int (nI p1), .int (nI p2), .int (nI (li x y T1 Z1 q).2.2), ax_u]) rfl rfl ?_
  have hp1' : Z2[p1]? = some (li x y T Z p).2.2 := by rw [hS4]; exact tm_app hp1
  have ht := q_comp_tail (d := d + 1) (n := n) (xs := xs) (o := o) (k := k) (s := s) (u := u) (dp := dp) (kd := 2) hs2 hp1' (Or.inr ⟨rfl, hp2⟩)
  rw [eT] at eT2 eZ2
  rw [eZ] at eT2 eZ2
  rw [eT, eZ] at ht ⊢
  rw [eT2, eZ2, ← hli, ← eT2, ← eZ2, hT2, hZ2] at ht
  exact ht.mono (tf_trans gw)
theorem sv_at.memo {c x y N : Nat} {T : tm_T} {Z : List Nat} (h : sv_at c x y N T Z f a) {u : Nat} {w : Int32} (hw : w = -1 ∨ ∃ p r : Nat, w = nI p ∧ tm_is x y 21 T u r ∧ Z[p]? = some r) : sv_at c x y N T Z f (upda a 7 (upd (a 7) u w)) := by
  obtain ⟨h1, h2, h3, h4, h5, h6, h7⟩ := h
  refine ⟨h1, h2, h3, h4, h5, h6, fun v hv => ?_⟩
  show upd (a 7) u w v = -1 ∨ ∃ p r : Nat, upd (a 7) u w v = nI p ∧ _
  unfold upd
  by_cases e : v = u
  · rw [if_pos e, e]; exact hw
  · rw [if_neg e]; exact h7 v hv
theorem q_tf1 {c x y N : Nat} (hx : x < c) (hy : y < c) (hN20 : N ≤ 20) {u dp : Nat} {T : tm_T} {Z : List Nat} (h : sv_at c x y N T Z f a) (huN : u < N) (hdp : dp + u ≤ 20)
    (hc : (∃ p, T[u]? = some (1, p, 0)) ∨ (∃ p q, T[u]? = some (2, p, q)) → ax_R (d + 3) 70 0 (ax_in 70 [.ref 6, .int (nI u), .ref 15, .ref 20, .int (nI dp)]) [] (hp n xs f a o) k s (tf_Q n xs o c x y N T Z (li x y T Z u) f a k s)) : ax_R (d + 4) 69 0 (ax_in 69 [.ref 6, .int (nI u), .ref 15, .ref 20, .int (nI dp)]) [] (hp n xs f a o) k s (tf_Q n xs o c x y N T Z (li x y T Z u) f a k s) := by
  obtain ⟨hct, hzk, hZ, hN, h5, h6, hms⟩ := id h
  have hul : u < T.length := by omega
  have hg : T[u]? = some T[u] := List.getElem?_eq_getElem hul
  generalize T[u] = q at hg
  obtain ⟨k1, k2, k3, -, k5, k6⟩ := hct.2.2.2.1 u _ hg
  have hkd := hct.1.2.2 u q hg
  have hok := li_ok (Z := Z) hx hy hct.1 hZ hul (show u < 21 by omega)
  iterate 2 refine ax_nx rfl rfl ?_
  refine ax_cal rfl rfl (q_kind_Te (by omega)) (fun v h' hh => ?_)
  obtain ⟨rfl, rfl⟩ := hh
  rw [k1]
  have comp : ((∃ p, T[u]? = some (1, p, 0)) ∨ (∃ p q, T[u]? = some (2, p, q))) → ax_R (d + 4) 69 52 [.ref 6, .int (nI u), .ref 15, .ref 20, .int (nI dp)] [] (hp n xs f a o) k s (tf_Q n xs o c x y N T Z (li x y T Z u) f a k s) := by
    intro hcc
    have hcm := hc hcc
    iterate 2 refine ax_nx rfl rfl ?_
    refine ax_nxt rfl rfl (nI_le (b := 20) (by omega) (by omega)) ?_
    iterate 3 refine ax_nx rfl rfl ?_
    refine ax_ia rfl rfl (vp_in_nI (by omega) (by omega)) ?_
    rw [nI_clamp (by omega)]
    rcases hms u huN with hm | ⟨p, r, hm, his, hpr⟩
    · rw [hm]
      refine ax_nx rfl rfl ?_
      iterate 9 refine ax_nx rfl rfl ?_
      refine ax_cal rfl rfl hcm (fun v h' hh => ?_)
      obtain ⟨f1, a1, T1, Z1, rfl, g1, hS1, hS2, hs1, hv⟩ := hh
      have hgm : ∀ w, ag [7, 8] [7, 16, 17, 18, 19, 21, 22, 23, 24] f a f1 (upda a1 7 (upd (a1 7) u w)) := fun w => g1.trans ⟨fun _ _ => rfl, fun j hj => if_neg (fun h9 => hj (by rw [h9]; decide))⟩
      rcases hv with ⟨eT, eZ, p, hp1, rfl⟩ | ⟨hov, rfl⟩
      · refine ax_iasH (h2 := hp n xs f1 (upda a1 7 (upd (a1 7) u (nI p))) o) rfl rfl (vp_in_nI (by omega) (by omega)) (by rw [nI_clamp (by omega)]; rfl) ?_
        iterate 3 refine ax_nx rfl rfl ?_
        refine ax_ia rfl rfl (vp_in_nI (by omega) (by omega)) ?_
        rw [nI_clamp (by omega)]
        refine ax_top (y := nI p) (if_pos rfl) ?_
        exact ax_ret rfl rfl ⟨_, rfl, rfl, rfl, f1, _, T1, Z1, rfl, hgm _, hS1, hS2, hs1.memo (Or.inr ⟨p, _, rfl, by rw [eT]; exact hok.2.2.2.2.2.1, hp1⟩), Or.inl ⟨eT, eZ, p, hp1, rfl⟩⟩
      · refine ax_iasH (h2 := hp n xs f1 (upda a1 7 (upd (a1 7) u (-1))) o) rfl rfl (vp_in_nI (by omega) (by omega)) (by rw [nI_clamp (by omega)]; rfl) ?_
        iterate 3 refine ax_nx rfl rfl ?_
        refine ax_ia rfl rfl (vp_in_nI (by omega) (by omega)) ?_
        rw [nI_clamp (by omega)]
        refine ax_top (y := -1) (if_pos rfl) ?_
        exact ax_ret rfl rfl ⟨_, rfl, rfl, rfl, f1, _, T1, Z1, rfl, hgm _, hS1, hS2, hs1.memo (Or.inl rfl), Or.inr ⟨hov, rfl⟩⟩
    · rw [hm]
      have hp8 : p < 8 := by have := tm_lt hpr; have := hzk.len; omega
      refine ax_nx rfl rfl ?_
      refine ax_nxf rfl rfl (nI_nm1 (by omega)) ?_
      iterate 3 refine ax_nx rfl rfl ?_
      refine ax_ia rfl rfl (vp_in_nI (by omega) (by omega)) ?_
      rw [nI_clamp (by omega), hm]
      have e := li_is (Z := Z) hct.1 his (List.mem_of_getElem? hpr)
      exact ax_ret rfl rfl ⟨_, rfl, rfl, rfl, f, a, T, Z, rfl, ag.rf, ⟨[], by simp⟩, ⟨[], by simp⟩, h, Or.inl ⟨by rw [e], by rw [e], p, by rw [e]; exact hpr, rfl⟩⟩
  rcases hkd with ⟨he, huc⟩ | ⟨p, he, hp9⟩ | ⟨p, r, he, hp9, hq9⟩ | he | he
  · subst he
    refine ax_nx (pc' := 40) rfl rfl ?_
    refine ax_nx rfl rfl ?_
    have e := li_0 (x := x) (y := y) hZ hg huc
    exact ax_ret rfl rfl ⟨_, rfl, rfl, rfl, f, a, T, Z, rfl, ag.rf, ⟨[], by simp⟩, ⟨[], by simp⟩, h, Or.inl ⟨by rw [e], by rw [e], u, by rw [e]; exact hZ.2.1 u huc, rfl⟩⟩
  · subst he
    refine ax_nx (pc' := 52) rfl rfl ?_
    exact comp (Or.inl ⟨p, hg⟩)
  · subst he
    refine ax_nx (pc' := 52) rfl rfl ?_
    exact comp (Or.inr ⟨p, r, hg⟩)
  · subst he
    refine ax_nx (pc' := 42) rfl rfl ?_
    iterate 2 refine ax_nx rfl rfl ?_
    refine ax_top (y := nI x) h5 ?_
    have e := li_3 (x := x) (y := y) hZ hg hx
    exact ax_ret rfl rfl ⟨_, rfl, rfl, rfl, f, a, T, Z, rfl, ag.rf, ⟨[], by simp⟩, ⟨[], by simp⟩, h, Or.inl ⟨by rw [e], by rw [e], x, by rw [e]; exact hZ.2.1 x hx, rfl⟩⟩
  · subst he
    refine ax_nx (pc' := 47) rfl rfl ?_
    iterate 2 refine ax_nx rfl rfl ?_
    refine ax_top (y := nI y) h6 ?_
    have e := li_4 (x := x) (y := y) hZ hg hy
    exact ax_ret rfl rfl ⟨_, rfl, rfl, rfl, f, a, T, Z, rfl, ag.rf, ⟨[], by simp⟩, ⟨[], by simp⟩, h, Or.inl ⟨by rw [e], by rw [e], y, by rw [e]; exact hZ.2.1 y hy, rfl⟩⟩
theorem q_tf {c x y N : Nat} (hx : x < c) (hy : y < c) (hN20 : N ≤ 20) : ∀ (u : Nat) (T : tm_T) (Z : List Nat) (f : Nat → Int32) (a : Nat → Nat → Int32) (dp d : Nat), sv_at c x y N T Z f a → u < N → dp + u ≤ 20 → 2 * u + 4 ≤ d → ax_R d 69 0 (ax_in 69 [.ref 6, .int (nI u), .ref 15, .ref 20, .int (nI dp)]) [] (hp n xs f a o) k s (tf_Q n xs o c x y N T Z (li x y T Z u) f a k s) := by
  intro u
  induction u using Nat.strongRecOn with
  | _ u ih =>
  intro T Z f a dp d h huN hdp hd
  obtain ⟨d, rfl⟩ : ∃ e, d = e + 4 := ⟨d - 4, by omega⟩
  refine q_tf1 hx hy hN20 h huN hdp ?_
  rintro (⟨p, hp9⟩ | ⟨p, q, hp9⟩)
  · have hpu : p < u := by
      rcases h.1.1.2.2 u _ hp9 with ⟨e, -⟩ | ⟨a', e, h⟩ | ⟨a', b', e, h⟩ | e | e
      · cases e
      · cases e; exact h
      · cases e
      · cases e
      · cases e
    exact q_comp1 hx hy h (by omega) hdp hp9 (ih p hpu T Z f a (dp + 1) (d + 2) h (by omega) (by omega) (by omega))
  · have hpu : p < u ∧ q < u := by
      rcases h.1.1.2.2 u _ hp9 with ⟨e, -⟩ | ⟨a', e, h⟩ | ⟨a', b', e, h⟩ | e | e
      · cases e
      · cases e
      · cases e; exact h
      · cases e
      · cases e
    exact q_comp2 hx hy h (by omega) huN hdp hp9 (ih p hpu.1 T Z f a (dp + 1) (d + 2) h (by omega) (by omega) (by omega)) (fun f1 a1 T1 Z1 h1 => ih q hpu.2 T1 Z1 f1 a1 (dp + 1) (d + 2) h1 (by omega) (by omega) (by omega))
end HTF
