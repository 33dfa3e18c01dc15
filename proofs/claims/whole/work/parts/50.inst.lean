def bm_at (x y N : Nat) (T : tm_T) (g : Nat → Int32) : Prop := ∀ u, u < N → g u = 0 ∨ ∃ r : Nat, g u = nI (r + 1) ∧ tm_is x y 21 T u r
theorem bm_at.app {c x y N : Nat} {T S : tm_T} {g : Nat → Int32} (h : bm_at x y N T g) (hT : tm_wf c T) (hN : N ≤ T.length) : bm_at x y N (T ++ S) g := by
  intro u hu
  rcases h u hu with h | ⟨r, h1, h2⟩
  · exact Or.inl h
  · exact Or.inr ⟨r, h1, tm_is_app hT (by omega) h2⟩
def im_at (c x y N : Nat) (T : tm_T) (Z : List Nat) (f : Nat → Int32) (a : Nat → Nat → Int32) : Prop := mt_at c T f a ∧ mz_at T Z f a ∧ th_wf c T Z ∧ N ≤ T.length ∧ bm_at x y N T (a 31)
theorem im_at.kept {c x y N : Nat} {T : tm_T} {Z : List Nat} {F A : List Nat} {f f' : Nat → Int32} {a a' : Nat → Nat → Int32} (h : im_at c x y N T Z f a) (g : ag F A f a f' a') (hF : 14 ∉ F ∧ 15 ∉ F) (hA : (26 ∉ A ∧ 27 ∉ A ∧ 28 ∉ A ∧ 29 ∉ A) ∧ (30 ∉ A ∧ 32 ∉ A) ∧ 31 ∉ A) : im_at c x y N T Z f' a' := by
  obtain ⟨h1, h2, h3, h4, h5⟩ := h
  refine ⟨h1.kept g hF.1 hA.1, h2.kept g hF.2 hA.2.1, h3, h4, ?_⟩
  rw [g.2 31 hA.2.2]
  exact h5
theorem th_lt {c : Nat} {T : tm_T} {Z : List Nat} (h : th_wf c T Z) {z : Nat} (hz : z ∈ Z) : z < T.length := by
  obtain ⟨j, -, hj⟩ := th_at hz
  obtain ⟨e, h1, -⟩ := h.2.2 j z hj
  exact tm_lt h1
theorem mz_at.make {c : Nat} {T S : tm_T} {Z : List Nat} {f f' : Nat → Int32} {a a' : Nat → Nat → Int32} (h : mz_at T Z f a) (hZ : th_wf c T Z) (g : ag [14] [26, 27, 28, 29, 30] f a f' a') (h1 : ∀ i, i < T.length → a' 30 i = a 30 i) (h2 : ∀ i, T.length ≤ i → i < (T ++ S).length → a' 30 i = 0) : mz_at (T ++ S) Z f' a' := by
  obtain ⟨k1, k2, k3, k4⟩ := h
  refine ⟨(g.1 15 (by decide)).trans k1, k2, by rw [g.2 32 (by decide)]; exact k3, fun t ht => ?_⟩
  rcases Nat.lt_or_ge t T.length with hl | hl
  · rw [h1 t hl]; exact k4 t hl
  · exact ⟨fun hm => absurd (th_lt hZ hm) (by omega), fun _ => h2 t hl ht⟩
def in_fr (m u : Nat) (f : Nat → Int32) (a : Nat → Nat → Int32) (f1 : Nat → Int32) (a1 : Nat → Nat → Int32) : Prop := (∀ j, j < m → a1 33 j = a 33 j) ∧ (∀ j, u < j → a1 31 j = a 31 j) ∧ (∀ j, ¬ a 31 j = 0 → a1 31 j = a 31 j) ∧ ag [14, 16, 17] [26, 27, 28, 29, 30, 31, 33] f a f1 a1
theorem in_fr.trans {m u m' u' : Nat} {f f1 f2 : Nat → Int32} {a a1 a2 : Nat → Nat → Int32} (h1 : in_fr m u f a f1 a1) (h2 : in_fr m' u' f1 a1 f2 a2) (hm : m ≤ m') (hu : u' ≤ u) : in_fr m u f a f2 a2 := by
  obtain ⟨p1, p2, p3, p4⟩ := h1
  obtain ⟨q1, q2, q3, q4⟩ := h2
  refine ⟨fun j hj => (q1 j (by omega)).trans (p1 j hj), fun j hj => (q2 j (by omega)).trans (p2 j hj), fun j hj => ?_, p4.trans q4⟩
  rw [q3 j (by rw [p3 j hj]; exact hj), p3 j hj]
theorem in_fr.of {m u : Nat} {F A : List Nat} {f f1 : Nat → Int32} {a a1 : Nat → Nat → Int32} (g : ag F A f a f1 a1) (h31 : 31 ∉ A) (h33 : ∀ j, j < m → a1 33 j = a 33 j) (hF : ∀ j, j ∈ F → j ∈ [14, 16, 17]) (hA : ∀ j, j ∈ A → j ∈ [26, 27, 28, 29, 30, 31, 33]) : in_fr m u f a f1 a1 := ⟨h33, fun j _ => by rw [g.2 31 h31], fun j _ => by rw [g.2 31 h31], g.wide hF hA⟩
theorem in_push {m u : Nat} {x z : Int32} {f : Nat → Int32} {a : Nat → Nat → Int32} : in_fr (m + 1) u f a (upd f 16 x) (upda a 33 (upd (a 33) (m + 1) z)) := by
  refine in_fr.of (F := [16]) (A := [33]) ⟨fun j hj => if_neg (fun h9 => hj (by rw [h9]; decide)), fun j hj => if_neg (fun h9 => hj (by rw [h9]; decide))⟩ (by decide) (fun j hj => ?_) (by simp) (by simp)
  exact if_neg (by omega)
section TIN
variable {c x y : Nat} {T : tm_T} {u : Nat}
theorem tin_1 (hx : x < c) (hy : y < c) (hT : tm_wf c T) (hu : u < 20) {p : Nat} (h : T[u]? = some (1, p, 0)) (hp : p < u) : tm_in x y 21 T u = tm_mk (tm_in x y 21 T p).1 (1, (tm_in x y 21 T p).2, 0) := by
  have hl := tm_lt h
  rw [← tm_in_fu hx hy hT (show p < T.length by omega) (show p < 20 by omega) (show p < 21 by omega)]
  show tm_in x y (20 + 1) T u = _
  rw [tm_in, h]
  rfl
theorem tin_2 (hx : x < c) (hy : y < c) (hT : tm_wf c T) (hu : u < 20) {p q : Nat} (h : T[u]? = some (2, p, q)) (hp : p < u) (hq : q < u) : tm_in x y 21 T u = tm_mk (tm_in x y 21 (tm_in x y 21 T p).1 q).1 (2, (tm_in x y 21 T p).2, (tm_in x y 21 (tm_in x y 21 T p).1 q).2) := by
  have hl := tm_lt h
  have j1 := tm_in_fu hx hy hT (show p < T.length by omega) (show p < 20 by omega) (show p < 21 by omega)
  obtain ⟨⟨S, h1⟩, h2, -, -⟩ := tm_in_ok hx hy hT (show p < T.length by omega) (show p < 21 by omega)
  have j2 := tm_in_fu hx hy h2 (show q < (tm_in x y 21 T p).1.length by rw [h1, List.length_append]; omega) (show q < 20 by omega) (show q < 21 by omega)
  rw [← j2]
  show tm_in x y (20 + 1) T u = _
  rw [tm_in, h]
  show tm_mk (tm_in x y 20 (tm_in x y 20 T p).1 q).1 (2, (tm_in x y 20 T p).2, (tm_in x y 20 (tm_in x y 20 T p).1 q).2) = _
  rw [j1]
theorem tin_3 (h : T[u]? = some (3, 0, 0)) : tm_in x y 21 T u = (T, x) := by
  show tm_in x y (20 + 1) T u = _
  rw [tm_in, h]
  rfl
theorem tin_4 (h : T[u]? = some (4, 0, 0)) : tm_in x y 21 T u = (T, y) := by
  show tm_in x y (20 + 1) T u = _
  rw [tm_in, h]
  rfl
end TIN
def in_K (n : Nat) (xs : Nat → Int32) (o : Nat → Int64) (d c x y N : Nat) (Z : List Nat) (t9 : Int32) (k s : Nat) (Q : ax_P) (u m : Nat) (T : tm_T) (R : tm_T × Nat) (f : Nat → Int32) (a : Nat → Nat → Int32) : Prop := (∀ f' a' x4 x5, R.1.length ≤ 20 → im_at c x y N R.1 Z f' a' → a' 31 u = nI (R.2 + 1) → in_fr m u f a f' a' → f' 17 = 0 → f' 16 = nI m → ax_R (d + 2) 14 34 [.ref 25, .int t9, .int (nI x), .int (nI y), x4, x5] [] (hp n xs f' a' o) k s Q) ∧ (∀ f' a' x4 x5, 20 < R.1.length → (∃ S, mt_at c (T ++ S) f' a' ∧ mz_at (T ++ S) Z f' a') → f' 17 = 1 → ag [14, 16, 17] [26, 27, 28, 29, 30, 31, 33] f a f' a' → ax_R (d + 2) 14 270 [.ref 25, .int t9, .int (nI x), .int (nI y), x4, x5] [] (hp n xs f' a' o) k s Q)
theorem in_fr.less {m m' u : Nat} {f f1 : Nat → Int32} {a a1 : Nat → Nat → Int32} (h : in_fr m u f a f1 a1) (hm : m' ≤ m) : in_fr m' u f a f1 a1 := ⟨fun j hj => h.1 j (by omega), h.2⟩
section HIS
variable {n : Nat} {xs : Nat → Int32} {f : Nat → Int32} {a : Nat → Nat → Int32} {o : Nat → Int64} {d k s : Nat}
theorem in_head {t9 x9 y9 : Int32} {x4 x5 : Value} {Q : ax_P} {m u kd : Nat} (h16 : f 16 = nI (m + 1)) (hm : m < 63) (h17 : f 17 = 0) (h33 : a 33 m = nI u) (hu : u < 20) (hk : a 26 u = nI kd) (kk : ax_R d 14 70 [.ref 25, .int t9, .int x9, .int y9, .int (nI u), .int (nI kd)] [] (hp n xs f a o) k s Q) : ax_R d 14 34 [.ref 25, .int t9, .int x9, .int y9, x4, x5] [] (hp n xs f a o) k s Q := by
  iterate 2 refine ax_nx rfl rfl ?_
  refine ax_nxf rfl rfl (by rw [h16]; exact nI_nle (by omega) (by omega)) ?_
  iterate 2 refine ax_nx rfl rfl ?_
  rw [h17]
  iterate 7 refine ax_nx rfl rfl ?_
  refine ax_top (y := nI m) (by show f 16 - 1 = _; rw [h16]; exact nI_pred m) ?_
  refine ax_ia rfl rfl (vp_in_nI (by omega) (by omega)) ?_
  rw [nI_clamp (by omega), h33]
  refine ax_nx (al' := [.ref 25, .int t9, .int x9, .int y9, .int (nI u), x5]) rfl rfl ?_
  iterate 3 refine ax_nx rfl rfl ?_
  refine ax_ia rfl rfl (vp_in_nI (by omega) (by omega)) ?_
  rw [nI_clamp (by omega), hk]
  refine ax_nx (al' := [.ref 25, .int t9, .int x9, .int y9, .int (nI u), .int (nI kd)]) rfl rfl ?_
  exact kk
theorem in_pop {t9 x9 y9 : Int32} {x5 : Value} {Q : ax_P} {m u r : Nat} (h16 : f 16 = nI (m + 1)) (hu : u < 20) (hr : r < 100) (hb : a 31 u = nI (r + 1)) (kk : ax_R d 14 34 [.ref 25, .int t9, .int x9, .int y9, .int (nI u), x5] [] (hp n xs (upd f 16 (nI m)) a o) k s Q) : ax_R d 14 247 [.ref 25, .int t9, .int x9, .int y9, .int (nI u), x5] [] (hp n xs f a o) k s Q := by
  iterate 3 refine ax_nx rfl rfl ?_
  refine ax_ia rfl rfl (vp_in_nI (by omega) (by omega)) ?_
  rw [nI_clamp (by omega), hb]
  refine ax_nxf rfl rfl (nI_nle (by omega) (by omega)) ?_
  iterate 5 refine ax_nx rfl rfl ?_
  refine ax_top (y := nI m) (by show f 16 - 1 = _; rw [h16]; exact nI_pred m) ?_
  refine ax_nx (h' := hp n xs (upd f 16 (nI m)) a o) rfl rfl ?_
  refine ax_nx rfl rfl ?_
  exact kk
theorem in_stay {t9 x9 y9 : Int32} {x5 : Value} {Q : ax_P} {u : Nat} (hu : u < 20) (hb : a 31 u = 0) (kk : ax_R d 14 34 [.ref 25, .int t9, .int x9, .int y9, .int (nI u), x5] [] (hp n xs f a o) k s Q) : ax_R d 14 247 [.ref 25, .int t9, .int x9, .int y9, .int (nI u), x5] [] (hp n xs f a o) k s Q := by
  iterate 3 refine ax_nx rfl rfl ?_
  refine ax_ia rfl rfl (vp_in_nI (by omega) (by omega)) ?_
  rw [nI_clamp (by omega), hb]
  iterate 2 refine ax_nx rfl rfl ?_
  exact kk
theorem in_full {t9 x9 y9 : Int32} {x4 x5 : Value} {Q : ax_P} {m : Nat} (h16 : f 16 = nI (m + 1)) (hm : m < 63) (h17 : f 17 = 1) (kk : ax_R d 14 270 [.ref 25, .int t9, .int x9, .int y9, x4, x5] [] (hp n xs f a o) k s Q) : ax_R d 14 34 [.ref 25, .int t9, .int x9, .int y9, x4, x5] [] (hp n xs f a o) k s Q := by
  iterate 2 refine ax_nx rfl rfl ?_
  refine ax_nxf rfl rfl (by rw [h16]; exact nI_nle (by omega) (by omega)) ?_
  iterate 2 refine ax_nx rfl rfl ?_
  rw [h17]
  refine ax_nx rfl rfl ?_
  exact kk
theorem in_done {c x y N : Nat} {Z : List Nat} {t9 : Int32} {Q : ax_P} {u m : Nat} {T : tm_T} {R : tm_T × Nat} (hK : in_K n xs o d c x y N Z t9 k s Q u m T R f a) (hu : u < 20) (huN : u < N) (h0 : a 31 u = 0) {f1 : Nat → Int32} {a1 : Nat → Nat → Int32} (h20 : R.1.length ≤ 20) (him : im_at c x y N R.1 Z f1 a1) (his : tm_is x y 21 R.1 u R.2) (hr : R.2 < 100) (h17 : f1 17 = 0) (h16 : f1 16 = nI (m + 1)) (hfr : in_fr m u f a f1 a1) {x5 : Value} : ax_R (d + 2) 14 247 [.ref 25, .int t9, .int (nI x), .int (nI y), .int (nI u), x5] [] (hp n xs f1 (upda a1 31 (upd (a1 31) u (nI (R.2 + 1)))) o) k s Q := by
  refine in_pop h16 hu hr (if_pos rfl) ?_
  obtain ⟨i1, i2, i3, i4, i5⟩ := him
  have g1 : ag [16] [31] f1 a1 (upd f1 16 (nI m)) (upda a1 31 (upd (a1 31) u (nI (R.2 + 1)))) := ⟨fun j hj => if_neg (fun h9 => hj (by rw [h9]; decide)), fun j hj => if_neg (fun h9 => hj (by rw [h9]; decide))⟩
  refine hK.1 _ _ _ _ h20 ⟨i1.kept g1 (by decide) (by decide), i2.kept g1 (by decide) (by decide), i3, i4, fun v hv => ?_⟩ (if_pos rfl) ?_ h17 rfl
  · show upd (a1 31) u (nI (R.2 + 1)) v = 0 ∨ ∃ r : Nat, upd (a1 31) u (nI (R.2 + 1)) v = nI (r + 1) ∧ _
    unfold upd
    by_cases e : v = u
    · rw [if_pos e, e]; exact Or.inr ⟨R.2, rfl, his⟩
    · rw [if_neg e]; exact i5 v hv
  · obtain ⟨q1, q2, q3, q4⟩ := hfr
    refine ⟨q1, fun j hj => (if_neg (by omega)).trans (q2 j hj), fun j hj => (if_neg (fun h9 => hj (by rw [h9]; exact h0))).trans (q3 j hj), q4.trans (g1.wide (by simp) (by simp))⟩
theorem in_fin1 {c x y N p r1 : Nat} {Z : List Nat} {t9 : Int32} {Q : ax_P} {u m : Nat} {T T1 S0 : tm_T} {R : tm_T × Nat} (hK : in_K n xs o d c x y N Z t9 k s Q u m T R f a) (hu : u < 20) (huN : u < N) (hm : m < 60) (h0 : a 31 u = 0) {f1 : Nat → Int32} {a1 : Nat → Nat → Int32} (hT1 : T1 = T ++ S0) (hR : R = tm_mk T1 (1, r1, 0)) (his : tm_is x y 21 R.1 u R.2) (him : im_at c x y N T1 Z f1 a1) (h17 : f1 17 = 0) (h16 : f1 16 = nI (m + 1)) (h33 : a1 33 m = nI u) (h0' : a1 31 u = 0) (hfr : in_fr m u f a f1 a1) (hV : ¬ tm_V T1 u = 0) (hTu : T1[u]? = some (1, p, 0)) (hb1 : a1 31 p = nI (r1 + 1)) (hp9 : p < u) (hr1 : r1 < T1.length) {x4 x5 : Value} : ax_R (d + 2) 14 34 [.ref 25, .int t9, .int (nI x), .int (nI y), x4, x5] [] (hp n xs f1 a1 o) k s Q := by
  obtain ⟨i1, i2, i3, i4, i5⟩ := id him
  obtain ⟨hT, h20, h14, htb, hG⟩ := id i1
  have hul := tm_lt hTu
  obtain ⟨k1, k2, k3, l1, l2, l3⟩ := htb u _ hTu
  dsimp only at k1 k2 k3 l1 l2 l3
  refine in_head h16 (by omega) h17 h33 hu k1 ?_
  have hg0 : a1 29 u = 0 := (hG u hul).trans (if_neg hV)
  have hkd : tm_kd c T1.length (1, r1, 0) := Or.inr (Or.inl ⟨r1, rfl, hr1⟩)
  iterate 3 refine ax_nx rfl rfl ?_
  refine ax_ba rfl rfl (vp_in_nI (by omega) (by omega)) ?_
  rw [nI_clamp (by omega), hg0]
  iterate 3 refine ax_nx rfl rfl ?_
  iterate 3 refine ax_nx rfl rfl ?_
  iterate 6 refine ax_nx rfl rfl ?_
  refine ax_ia rfl rfl (vp_in_nI (by omega) (by omega)) ?_
  rw [nI_clamp (by omega), k2]
  refine ax_ia rfl rfl (vp_in_nI (by omega) (by omega)) ?_
  rw [nI_clamp (by omega), hb1]
  refine ax_nxf rfl rfl (nI_ne0 (by omega) (by omega)) ?_
  iterate 2 refine ax_nx rfl rfl ?_
  iterate 12 refine ax_nx rfl rfl ?_
  refine ax_ia rfl rfl (vp_in_nI (by omega) (by omega)) ?_
  rw [nI_clamp (by omega), k2]
  refine ax_ia rfl rfl (vp_in_nI (by omega) (by omega)) ?_
  rw [nI_clamp (by omega), hb1]
  iterate 2 refine ax_nx rfl rfl ?_
  refine ax_top (y := nI r1) (nI_pred r1) ?_
  iterate 2 refine ax_nx rfl rfl ?_
  iterate 2 refine ax_nx rfl rfl ?_
  refine ax_top (y := nI 0) (rfl) ?_
  refine ax_cal (d := d + 1) rfl rfl (q_Mo_make (d := d) i1 hkd) (fun v h' hh => ?_)
  obtain ⟨f2, a2, rfl, hh⟩ := hh
  rw [← hR] at hh
  rcases hh with ⟨hle, rfl, hmt2, g2, e1, e2⟩ | ⟨hgt, rfl, rfl, rfl⟩
  · have hext := tm_mk_ext T1 (1, r1, 0)
    rw [← hR] at hext
    obtain ⟨S2, hS2, -⟩ := hext
    have hRl := tm_lt (tm_mk_get T1 (1, r1, 0))
    rw [← hR] at hRl
    have g31 : a2 31 = a1 31 := g2.2 31 (by decide)
    rw [hS2] at e2
    have him2 : im_at c x y N R.1 Z f2 a2 := by
      refine ⟨hmt2, ?_, ?_, ?_, ?_⟩
      · rw [hS2]; exact i2.make i3 g2 e1 e2
      · rw [hS2]; exact i3.app
      · rw [hS2, List.length_append]; omega
      · rw [hS2, g31]; exact i5.app hT i4
    refine ax_nx rfl rfl ?_
    refine ax_top (y := nI (R.2 + 1)) (by show nI 1 + nI R.2 = _; rw [nI_add, Nat.add_comm]) ?_
    refine ax_iasH (h2 := hp n xs f2 (upda a2 31 (upd (a2 31) u (nI (R.2 + 1)))) o) rfl rfl (vp_in_nI (by omega) (by omega)) (by rw [nI_clamp (by omega)]; rfl) ?_
    refine in_done hK hu huN h0 hle him2 his (by omega) ((g2.1 17 (by decide)).trans h17) ((g2.1 16 (by decide)).trans h16) (hfr.trans (in_fr.of (u := u) (m := m) g2 (by decide) (fun j _ => by rw [g2.2 33 (by decide)]) (by simp) (by simp)) (Nat.le_refl _) (Nat.le_refl _))
  · refine ax_nx rfl rfl ?_
    refine ax_top (y := 0) (rfl) ?_
    refine ax_iasH (h2 := hp n xs (upd f1 17 1) (upda a2 31 (upd (a2 31) u 0)) o) rfl rfl (vp_in_nI (by omega) (by omega)) (by rw [nI_clamp (by omega)]; rfl) ?_
    have g3 : ag [17] [31] f1 a2 (upd f1 17 1) (upda a2 31 (upd (a2 31) u 0)) := ⟨fun j hj => if_neg (fun h9 => hj (by rw [h9]; decide)), fun j hj => if_neg (fun h9 => hj (by rw [h9]; decide))⟩
    refine in_stay hu (if_pos rfl) ?_
    refine in_full (m := m) h16 (by omega) rfl ?_
    refine hK.2 _ _ _ _ hgt ⟨S0, ?_, ?_⟩ rfl (hfr.2.2.2.trans (g3.wide (by simp) (by simp)))
    · rw [← hT1]; exact i1.kept g3 (by decide) (by decide)
    · rw [← hT1]; exact i2.kept g3 (by decide) (by decide)
theorem in_fin2 {c x y N p q r1 r2 : Nat} {Z : List Nat} {t9 : Int32} {Q : ax_P} {u m : Nat} {T T1 S0 : tm_T} {R : tm_T × Nat} (hK : in_K n xs o d c x y N Z t9 k s Q u m T R f a) (hu : u < 20) (huN : u < N) (hm : m < 60) (h0 : a 31 u = 0) {f1 : Nat → Int32} {a1 : Nat → Nat → Int32} (hT1 : T1 = T ++ S0) (hR : R = tm_mk T1 (2, r1, r2)) (his : tm_is x y 21 R.1 u R.2) (him : im_at c x y N T1 Z f1 a1) (h17 : f1 17 = 0) (h16 : f1 16 = nI (m + 1)) (h33 : a1 33 m = nI u) (h0' : a1 31 u = 0) (hfr : in_fr m u f a f1 a1) (hV : ¬ tm_V T1 u = 0) (hTu : T1[u]? = some (2, p, q)) (hb1 : a1 31 p = nI (r1 + 1)) (hb2 : a1 31 q = nI (r2 + 1)) (hp9 : p < u) (hq9 : q < u) (hr1 : r1 < T1.length) (hr2 : r2 < T1.length) {x4 x5 : Value} : ax_R (d + 2) 14 34 [.ref 25, .int t9, .int (nI x), .int (nI y), x4, x5] [] (hp n xs f1 a1 o) k s Q := by
  obtain ⟨i1, i2, i3, i4, i5⟩ := id him
  obtain ⟨hT, h20, h14, htb, hG⟩ := id i1
  have hul := tm_lt hTu
  obtain ⟨k1, k2, k3, l1, l2, l3⟩ := htb u _ hTu
  dsimp only at k1 k2 k3 l1 l2 l3
  refine in_head h16 (by omega) h17 h33 hu k1 ?_
  have hg0 : a1 29 u = 0 := (hG u hul).trans (if_neg hV)
  have hkd : tm_kd c T1.length (2, r1, r2) := Or.inr (Or.inr (Or.inl ⟨r1, r2, rfl, hr1, hr2⟩))
  iterate 3 refine ax_nx rfl rfl ?_
  refine ax_ba rfl rfl (vp_in_nI (by omega) (by omega)) ?_
  rw [nI_clamp (by omega), hg0]
  iterate 3 refine ax_nx rfl rfl ?_
  iterate 3 refine ax_nx rfl rfl ?_
  iterate 6 refine ax_nx rfl rfl ?_
  refine ax_ia rfl rfl (vp_in_nI (by omega) (by omega)) ?_
  rw [nI_clamp (by omega), k2]
  refine ax_ia rfl rfl (vp_in_nI (by omega) (by omega)) ?_
  rw [nI_clamp (by omega), hb1]
  refine ax_nxf rfl rfl (nI_ne0 (by omega) (by omega)) ?_
  iterate 2 refine ax_nx rfl rfl ?_
  iterate 6 refine ax_nx rfl rfl ?_
  refine ax_ia rfl rfl (vp_in_nI (by omega) (by omega)) ?_
  rw [nI_clamp (by omega), k3]
  refine ax_ia rfl rfl (vp_in_nI (by omega) (by omega)) ?_
  rw [nI_clamp (by omega), hb2]
  refine ax_nxf rfl rfl (nI_ne0 (by omega) (by omega)) ?_
  iterate 11 refine ax_nx rfl rfl ?_
  refine ax_ia rfl rfl (vp_in_nI (by omega) (by omega)) ?_
  rw [nI_clamp (by omega), k2]
  refine ax_ia rfl rfl (vp_in_nI (by omega) (by omega)) ?_
  rw [nI_clamp (by omega), hb1]
  iterate 2 refine ax_nx rfl rfl ?_
  refine ax_top (y := nI r1) (nI_pred r1) ?_
  iterate 2 refine ax_nx rfl rfl ?_
  iterate 6 refine ax_nx rfl rfl ?_
  refine ax_ia rfl rfl (vp_in_nI (by omega) (by omega)) ?_
  rw [nI_clamp (by omega), k3]
  refine ax_ia rfl rfl (vp_in_nI (by omega) (by omega)) ?_
  rw [nI_clamp (by omega), hb2]
  iterate 2 refine ax_nx rfl rfl ?_
  refine ax_top (y := nI r2) (nI_pred r2) ?_
  refine ax_nx rfl rfl ?_
  refine ax_cal (d := d + 1) rfl rfl (q_Mo_make (d := d) i1 hkd) (fun v h' hh => ?_)
  obtain ⟨f2, a2, rfl, hh⟩ := hh
  rw [← hR] at hh
  rcases hh with ⟨hle, rfl, hmt2, g2, e1, e2⟩ | ⟨hgt, rfl, rfl, rfl⟩
  · have hext := tm_mk_ext T1 (2, r1, r2)
    rw [← hR] at hext
    obtain ⟨S2, hS2, -⟩ := hext
    have hRl := tm_lt (tm_mk_get T1 (2, r1, r2))
    rw [← hR] at hRl
    have g31 : a2 31 = a1 31 := g2.2 31 (by decide)
    rw [hS2] at e2
    have him2 : im_at c x y N R.1 Z f2 a2 := by
      refine ⟨hmt2, ?_, ?_, ?_, ?_⟩
      · rw [hS2]; exact i2.make i3 g2 e1 e2
      · rw [hS2]; exact i3.app
      · rw [hS2, List.length_append]; omega
      · rw [hS2, g31]; exact i5.app hT i4
    refine ax_nx rfl rfl ?_
    refine ax_top (y := nI (R.2 + 1)) (by show nI 1 + nI R.2 = _; rw [nI_add, Nat.add_comm]) ?_
    refine ax_iasH (h2 := hp n xs f2 (upda a2 31 (upd (a2 31) u (nI (R.2 + 1)))) o) rfl rfl (vp_in_nI (by omega) (by omega)) (by rw [nI_clamp (by omega)]; rfl) ?_
    refine in_done hK hu huN h0 hle him2 his (by omega) ((g2.1 17 (by decide)).trans h17) ((g2.1 16 (by decide)).trans h16) (hfr.trans (in_fr.of (u := u) (m := m) g2 (by decide) (fun j _ => by rw [g2.2 33 (by decide)]) (by simp) (by simp)) (Nat.le_refl _) (Nat.le_refl _))
  · refine ax_nx rfl rfl ?_
    refine ax_top (y := 0) (rfl) ?_
    refine ax_iasH (h2 := hp n xs (upd f1 17 1) (upda a2 31 (upd (a2 31) u 0)) o) rfl rfl (vp_in_nI (by omega) (by omega)) (by rw [nI_clamp (by omega)]; rfl) ?_
    have g3 : ag [17] [31] f1 a2 (upd f1 17 1) (upda a2 31 (upd (a2 31) u 0)) := ⟨fun j hj => if_neg (fun h9 => hj (by rw [h9]; decide)), fun j hj => if_neg (fun h9 => hj (by rw [h9]; decide))⟩
    refine in_stay hu (if_pos rfl) ?_
    refine in_full (m := m) h16 (by omega) rfl ?_
    refine hK.2 _ _ _ _ hgt ⟨S0, ?_, ?_⟩ rfl (hfr.2.2.2.trans (g3.wide (by simp) (by simp)))
    · rw [← hT1]; exact i1.kept g3 (by decide) (by decide)
    · rw [← hT1]; exact i2.kept g3 (by decide) (by decide)
theorem tm_kd1 {c i p z : Nat} (h : tm_kd c i (1, p, z)) : p < i ∧ z = 0 := by
  rcases h with ⟨e, -⟩ | ⟨a', e, h⟩ | ⟨a', b', e, h⟩ | e | e
  · cases e
  · cases e; exact ⟨h, rfl⟩
  · cases e
  · cases e
  · cases e
theorem tm_is_r {c x y : Nat} {T : tm_T} (hx : x < c) (hy : y < c) (hT : tm_wf c T) {u r : Nat} (hu : u < T.length) (hu2 : u < 21) (h : tm_is x y 21 T u r) : r < T.length := by
  have h1 := tm_in_ok hx hy hT hu hu2
  rw [tm_is_in hT.1 h] at h1
  exact h1.2.2.2
theorem q_Mo_in {c x y N : Nat} (hx : x < c) (hy : y < c) (hN20 : N ≤ 20) {Z : List Nat} {t9 : Int32} {Q : ax_P} : ∀ (u : Nat), u < N → ∀ (T : tm_T) (m : Nat) (f : Nat → Int32) (a : Nat → Nat → Int32) (x4 x5 : Value), im_at c x y N T Z f a → m + u < 60 → f 16 = nI (m + 1) → f 17 = 0 → a 33 m = nI u → a 31 u = 0 → in_K n xs o d c x y N Z t9 k s Q u m T (tm_in x y 21 T u) f a → ax_R (d + 2) 14 34 [.ref 25, .int t9, .int (nI x), .int (nI y), x4, x5] [] (hp n xs f a o) k s Q := by
  intro u
  induction u using Nat.strongRecOn with
  | _ u ih =>
  intro huN T m f a x4 x5 him hmu h16 h17 h33 h0 hK
  obtain ⟨i1, i2, i3, i4, i5⟩ := id him
  obtain ⟨hT, h20, h14, htb, hG⟩ := id i1
  have hul : u < T.length := by omega
  have hg : T[u]? = some T[u] := List.getElem?_eq_getElem hul
  generalize T[u] = e at hg
  obtain ⟨k1, k2, k3, l1, l2, l3⟩ := htb u e hg
  have hkd := hT.2.2 u e hg
  have hV := tm_V_vs hT u e hg
  have hgr := hG u hul
  have hok := tm_in_ok hx hy hT hul (show u < 21 by omega)
  by_cases hv : tm_V T u = 0
  · refine in_head h16 (by omega) h17 h33 (by omega) k1 ?_
    rw [show gI (tm_V T u) = 1 from if_pos hv] at hgr
    iterate 3 refine ax_nx rfl rfl ?_
    refine ax_ba rfl rfl (vp_in_nI (by omega) (by omega)) ?_
    rw [nI_clamp (by omega), hgr]
    iterate 8 refine ax_nx rfl rfl ?_
    refine ax_ba rfl rfl (vp_in_nI (by omega) (by omega)) ?_
    rw [nI_clamp (by omega), hgr]
    iterate 4 refine ax_nx rfl rfl ?_
    refine ax_top (y := nI (u + 1)) (by show nI 1 + nI u = _; rw [nI_add, Nat.add_comm]) ?_
    refine ax_iasH (h2 := hp n xs f (upda a 31 (upd (a 31) u (nI (u + 1)))) o) rfl rfl (vp_in_nI (by omega) (by omega)) (by rw [nI_clamp (by omega)]; rfl) ?_
    refine ax_nx rfl rfl ?_
    have his := tm_gr (x := x) (y := y) (f := 21) hT (tm_V_vs hT) (by omega) hul hv
    have e9 := tm_is_in hT.1 his
    rw [e9] at hK
    exact in_done hK (by omega) huN h0 h20 him his (by show u < 100; omega) h17 h16 ⟨fun _ _ => rfl, fun _ _ => rfl, fun _ _ => rfl, ag.rf⟩
  rw [show gI (tm_V T u) = 0 from if_neg hv] at hgr
  rcases hkd with ⟨rfl, -⟩ | ⟨p, rfl, hp9⟩ | ⟨p, q, rfl, hp9, hq9⟩ | rfl | rfl
  · exact absurd hV hv
  · dsimp only at k1 k2 k3
    have hpl : p < T.length := by omega
    have hokp := tm_in_ok hx hy hT hpl (show p < 21 by omega)
    have hin := tin_1 (x := x) (y := y) hx hy hT (by omega) hg hp9
    have fin : ∀ (f1 : Nat → Int32) (a1 : Nat → Nat → Int32) (x4 x5 : Value), im_at c x y N (tm_in x y 21 T p).1 Z f1 a1 → a1 31 p = nI ((tm_in x y 21 T p).2 + 1) → f1 17 = 0 → f1 16 = nI (m + 1) → a1 33 m = nI u → a1 31 u = 0 → in_fr m u f a f1 a1 → ax_R (d + 2) 14 34 [.ref 25, .int t9, .int (nI x), .int (nI y), x4, x5] [] (hp n xs f1 a1 o) k s Q := by
      intro f1 a1 x4 x5 j1 j2 j3 j4 j5 j6 j7
      obtain ⟨⟨S, hS⟩, c2, c3, c4⟩ := hokp
      refine in_fin1 hK (by omega) huN (by omega) h0 hS hin hok.2.2.1 j1 j3 j4 j5 j6 j7 ?_ (hTu := ?_) j2 hp9 c4
      · rw [hS, tm_V_app hT hul]; exact hv
      · rw [hS]; exact tm_app hg
    rcases i5 p (by omega) with hb0 | ⟨r, hb1, his⟩
    · refine in_head h16 (by omega) h17 h33 (by omega) k1 ?_
      iterate 3 refine ax_nx rfl rfl ?_
      refine ax_ba rfl rfl (vp_in_nI (by omega) (by omega)) ?_
      rw [nI_clamp (by omega), hgr]
      iterate 3 refine ax_nx rfl rfl ?_
      iterate 3 refine ax_nx rfl rfl ?_
      iterate 6 refine ax_nx rfl rfl ?_
      refine ax_ia rfl rfl (vp_in_nI (by omega) (by omega)) ?_
      rw [nI_clamp (by omega), k2]
      refine ax_ia rfl rfl (vp_in_nI (by omega) (by omega)) ?_
      rw [nI_clamp (by omega), hb0]
      iterate 5 refine ax_nx rfl rfl ?_
      refine ax_ia rfl rfl (vp_in_nI (by omega) (by omega)) ?_
      rw [nI_clamp (by omega), k2]
      refine ax_cal rfl rfl (q_Mo_push (m := m + 1) (by omega) h16) (fun v h' hh => ?_)
      obtain ⟨rfl, rfl⟩ := hh
      refine ax_nx rfl rfl ?_
      refine in_stay (by omega) h0 ?_
      have fr1 : in_fr (m + 1) u f a (upd f 16 (nI (m + 1 + 1))) (upda a 33 (upd (a 33) (m + 1) (nI p))) := in_push
      have g1 : ag [16] [33] f a (upd f 16 (nI (m + 1 + 1))) (upda a 33 (upd (a 33) (m + 1) (nI p))) := ⟨fun j hj => if_neg (fun h9 => hj (by rw [h9]; decide)), fun j hj => if_neg (fun h9 => hj (by rw [h9]; decide))⟩
      refine ih p hp9 (by omega) T (m + 1) _ _ _ _ (him.kept g1 (by decide) (by decide)) (by omega) rfl h17 (if_pos rfl) hb0 ⟨fun f' a' x4 x5 w1 w2 w3 w4 w5 w6 => ?_, fun f' a' x4 x5 w1 w2 w3 w4 => ?_⟩
      · exact fin f' a' x4 x5 w2 w3 w5 w6 ((w4.1 m (by omega)).trans ((if_neg (by omega)).trans h33)) ((w4.2.1 u hp9).trans h0) ((fr1.trans w4 (Nat.le_refl _) (by omega)).less (by omega))
      · refine hK.2 f' a' x4 x5 ?_ w2 w3 (fr1.2.2.2.trans w4)
        rw [hin]
        obtain ⟨S3, e3, -⟩ := tm_mk_ext (tm_in x y 21 T p).1 (1, (tm_in x y 21 T p).2, 0)
        rw [e3, List.length_append]
        omega
    · have e9 := tm_is_in hT.1 his
      exact fin f a x4 x5 (by rw [e9]; exact him) (by rw [e9]; exact hb1) h17 h16 h33 h0 ⟨fun _ _ => rfl, fun _ _ => rfl, fun _ _ => rfl, ag.rf⟩
  · dsimp only at k1 k2 k3
    have hpl : p < T.length := by omega
    have hokp := tm_in_ok hx hy hT hpl (show p < 21 by omega)
    have hin := tin_2 (x := x) (y := y) hx hy hT (by omega) hg hp9 hq9
    have hql1 : q < (tm_in x y 21 T p).1.length := by
      obtain ⟨⟨S, hS⟩, -⟩ := hokp
      rw [hS, List.length_append]; omega
    have hokq := tm_in_ok hx hy hokp.2.1 hql1 (show q < 21 by omega)
    have hlong : (tm_in x y 21 (tm_in x y 21 T p).1 q).1.length ≤ (tm_in x y 21 T u).1.length := by
      rw [hin]
      obtain ⟨S3, e3, -⟩ := tm_mk_ext (tm_in x y 21 (tm_in x y 21 T p).1 q).1 (2, (tm_in x y 21 T p).2, (tm_in x y 21 (tm_in x y 21 T p).1 q).2)
      rw [e3, List.length_append]
      omega
    have hlong2 : (tm_in x y 21 T p).1.length ≤ (tm_in x y 21 (tm_in x y 21 T p).1 q).1.length := by
      obtain ⟨⟨S, hS⟩, -⟩ := hokq
      rw [hS, List.length_append]; omega
    have pass2 : ∀ (f1 : Nat → Int32) (a1 : Nat → Nat → Int32) (x4 x5 : Value), im_at c x y N (tm_in x y 21 T p).1 Z f1 a1 → a1 31 p = nI ((tm_in x y 21 T p).2 + 1) → f1 17 = 0 → f1 16 = nI (m + 1) → a1 33 m = nI u → a1 31 u = 0 → in_fr m u f a f1 a1 → ax_R (d + 2) 14 34 [.ref 25, .int t9, .int (nI x), .int (nI y), x4, x5] [] (hp n xs f1 a1 o) k s Q := by
      obtain ⟨⟨S, hS⟩, c2, c3, c4⟩ := id hokp
      generalize tm_in x y 21 T p = RP at *
      obtain ⟨T1, r1⟩ := RP
      dsimp only at *
      intro f1 a1 x4 x5 j1 j2 j3 j4 j5 j6 j7
      have hgu : T1[u]? = some (2, p, q) := by rw [hS]; exact tm_app hg
      have hv1 : ¬ tm_V T1 u = 0 := by rw [hS, tm_V_app hT hul]; exact hv
      have fin : ∀ (f2 : Nat → Int32) (a2 : Nat → Nat → Int32) (x4 x5 : Value), im_at c x y N (tm_in x y 21 T1 q).1 Z f2 a2 → a2 31 p = nI (r1 + 1) → a2 31 q = nI ((tm_in x y 21 T1 q).2 + 1) → f2 17 = 0 → f2 16 = nI (m + 1) → a2 33 m = nI u → a2 31 u = 0 → in_fr m u f a f2 a2 → ax_R (d + 2) 14 34 [.ref 25, .int t9, .int (nI x), .int (nI y), x4, x5] [] (hp n xs f2 a2 o) k s Q := by
        intro f2 a2 x4 x5 z1 z2 z3 z4 z5 z6 z7 z8
        obtain ⟨⟨S2, hS2⟩, d2, d3, d4⟩ := hokq
        refine in_fin2 (S0 := S ++ S2) hK (by omega) huN (by omega) h0 (by rw [hS2, hS, List.append_assoc]) hin hok.2.2.1 z1 z4 z5 z6 z7 z8 ?_ (hTu := ?_) z2 z3 hp9 hq9 ?_ d4
        · rw [hS2, tm_V_app c2 (tm_lt hgu)]; exact hv1
        · rw [hS2]; exact tm_app hgu
        · rw [hS2, List.length_append]; omega
      obtain ⟨m1, m2, m3, m4, m5⟩ := id j1
      obtain ⟨y1, y2, y3, -, -, -⟩ := m1.2.2.2.1 u _ hgu
      dsimp only at y1 y2 y3
      have hgr1 : a1 29 u = 0 := (m1.2.2.2.2 u (tm_lt hgu)).trans (if_neg hv1)
      have hT120 := m1.2.1
      rcases m5 q (by omega) with hb0 | ⟨r, hb1, his⟩
      · refine in_head j4 (by omega) j3 j5 (by omega) y1 ?_
        iterate 3 refine ax_nx rfl rfl ?_
        refine ax_ba rfl rfl (vp_in_nI (by omega) (by omega)) ?_
        rw [nI_clamp (by omega), hgr1]
        iterate 3 refine ax_nx rfl rfl ?_
        iterate 3 refine ax_nx rfl rfl ?_
        iterate 6 refine ax_nx rfl rfl ?_
        refine ax_ia rfl rfl (vp_in_nI (by omega) (by omega)) ?_
        rw [nI_clamp (by omega), y2]
        refine ax_ia rfl rfl (vp_in_nI (by omega) (by omega)) ?_
        rw [nI_clamp (by omega), j2]
        refine ax_nxf rfl rfl (nI_ne0 (by omega) (by omega)) ?_
        iterate 2 refine ax_nx rfl rfl ?_
        iterate 6 refine ax_nx rfl rfl ?_
        refine ax_ia rfl rfl (vp_in_nI (by omega) (by omega)) ?_
        rw [nI_clamp (by omega), y3]
        refine ax_ia rfl rfl (vp_in_nI (by omega) (by omega)) ?_
        rw [nI_clamp (by omega), hb0]
        iterate 5 refine ax_nx rfl rfl ?_
        refine ax_ia rfl rfl (vp_in_nI (by omega) (by omega)) ?_
        rw [nI_clamp (by omega), y3]
        refine ax_cal rfl rfl (q_Mo_push (m := m + 1) (by omega) j4) (fun v h' hh => ?_)
        obtain ⟨rfl, rfl⟩ := hh
        refine ax_nx rfl rfl ?_
        refine in_stay (by omega) j6 ?_
        have fr1 : in_fr (m + 1) u f1 a1 (upd f1 16 (nI (m + 1 + 1))) (upda a1 33 (upd (a1 33) (m + 1) (nI q))) := in_push
        have g1 : ag [16] [33] f1 a1 (upd f1 16 (nI (m + 1 + 1))) (upda a1 33 (upd (a1 33) (m + 1) (nI q))) := ⟨fun j hj => if_neg (fun h9 => hj (by rw [h9]; decide)), fun j hj => if_neg (fun h9 => hj (by rw [h9]; decide))⟩
        refine ih q hq9 (by omega) T1 (m + 1) _ _ _ _ (j1.kept g1 (by decide) (by decide)) (by omega) rfl j3 (if_pos rfl) hb0 ⟨fun f' a' x4 x5 w1 w2 w3 w4 w5 w6 => ?_, fun f' a' x4 x5 w1 w2 w3 w4 => ?_⟩
        · exact fin f' a' x4 x5 w2 ((w4.2.2.1 p (by show ¬ a1 31 p = 0; rw [j2]; exact nI_ne0 (by omega) (by omega))).trans j2) w3 w5 w6 ((w4.1 m (by omega)).trans ((if_neg (by omega)).trans j5)) ((w4.2.1 u hq9).trans j6) (j7.trans ((fr1.trans w4 (Nat.le_refl _) (by omega)).less (by omega)) (Nat.le_refl _) (Nat.le_refl _))
        · obtain ⟨S5, w2a, w2b⟩ := w2
          refine hK.2 f' a' x4 x5 (by omega) ⟨S ++ S5, ?_, ?_⟩ w3 ((j7.2.2.2.trans fr1.2.2.2).trans w4)
          · rw [← List.append_assoc, ← hS]; exact w2a
          · rw [← List.append_assoc, ← hS]; exact w2b
      · have e9 := tm_is_in c2.1 his
        exact fin f1 a1 x4 x5 (by rw [e9]; exact j1) j2 (by rw [e9]; exact hb1) j3 j4 j5 j6 j7
    rcases i5 p (by omega) with hb0 | ⟨r, hb1, his⟩
    · refine in_head h16 (by omega) h17 h33 (by omega) k1 ?_
      iterate 3 refine ax_nx rfl rfl ?_
      refine ax_ba rfl rfl (vp_in_nI (by omega) (by omega)) ?_
      rw [nI_clamp (by omega), hgr]
      iterate 3 refine ax_nx rfl rfl ?_
      iterate 3 refine ax_nx rfl rfl ?_
      iterate 6 refine ax_nx rfl rfl ?_
      refine ax_ia rfl rfl (vp_in_nI (by omega) (by omega)) ?_
      rw [nI_clamp (by omega), k2]
      refine ax_ia rfl rfl (vp_in_nI (by omega) (by omega)) ?_
      rw [nI_clamp (by omega), hb0]
      iterate 5 refine ax_nx rfl rfl ?_
      refine ax_ia rfl rfl (vp_in_nI (by omega) (by omega)) ?_
      rw [nI_clamp (by omega), k2]
      refine ax_cal rfl rfl (q_Mo_push (m := m + 1) (by omega) h16) (fun v h' hh => ?_)
      obtain ⟨rfl, rfl⟩ := hh
      refine ax_nx rfl rfl ?_
      refine in_stay (by omega) h0 ?_
      have fr1 : in_fr (m + 1) u f a (upd f 16 (nI (m + 1 + 1))) (upda a 33 (upd (a 33) (m + 1) (nI p))) := in_push
      have g1 : ag [16] [33] f a (upd f 16 (nI (m + 1 + 1))) (upda a 33 (upd (a 33) (m + 1) (nI p))) := ⟨fun j hj => if_neg (fun h9 => hj (by rw [h9]; decide)), fun j hj => if_neg (fun h9 => hj (by rw [h9]; decide))⟩
      refine ih p hp9 (by omega) T (m + 1) _ _ _ _ (him.kept g1 (by decide) (by decide)) (by omega) rfl h17 (if_pos rfl) hb0 ⟨fun f' a' x4 x5 w1 w2 w3 w4 w5 w6 => ?_, fun f' a' x4 x5 w1 w2 w3 w4 => ?_⟩
      · exact pass2 f' a' x4 x5 w2 w3 w5 w6 ((w4.1 m (by omega)).trans ((if_neg (by omega)).trans h33)) ((w4.2.1 u hp9).trans h0) ((fr1.trans w4 (Nat.le_refl _) (by omega)).less (by omega))
      · exact hK.2 f' a' x4 x5 (by omega) w2 w3 (fr1.2.2.2.trans w4)
    · have e9 := tm_is_in hT.1 his
      exact pass2 f a x4 x5 (by rw [e9]; exact him) (by rw [e9]; exact hb1) h17 h16 h33 h0 ⟨fun _ _ => rfl, fun _ _ => rfl, fun _ _ => rfl, ag.rf⟩
  · dsimp only at k1 k2 k3
    refine in_head h16 (by omega) h17 h33 (by omega) k1 ?_
    iterate 3 refine ax_nx rfl rfl ?_
    refine ax_ba rfl rfl (vp_in_nI (by omega) (by omega)) ?_
    rw [nI_clamp (by omega), hgr]
    iterate 3 refine ax_nx rfl rfl ?_
    iterate 8 refine ax_nx rfl rfl ?_
    refine ax_ba rfl rfl (vp_in_nI (by omega) (by omega)) ?_
    rw [nI_clamp (by omega), hgr]
    iterate 3 refine ax_nx rfl rfl ?_
    iterate 4 refine ax_nx rfl rfl ?_
    refine ax_top (y := nI (x + 1)) (by show nI 1 + nI x = _; rw [nI_add, Nat.add_comm]) ?_
    refine ax_iasH (h2 := hp n xs f (upda a 31 (upd (a 31) u (nI (x + 1)))) o) rfl rfl (vp_in_nI (by omega) (by omega)) (by rw [nI_clamp (by omega)]; rfl) ?_
    refine ax_nx rfl rfl ?_
    have e9 := tin_3 (x := x) (y := y) hg
    rw [e9] at hK hok
    have hcl : c ≤ T.length := by have := tm_lt (hT.2.1 (c - 1) (by omega)); omega
    exact in_done hK (by omega) huN h0 h20 him hok.2.2.1 (by show x < 100; omega) h17 h16 ⟨fun _ _ => rfl, fun _ _ => rfl, fun _ _ => rfl, ag.rf⟩
  · dsimp only at k1 k2 k3
    refine in_head h16 (by omega) h17 h33 (by omega) k1 ?_
    iterate 3 refine ax_nx rfl rfl ?_
    refine ax_ba rfl rfl (vp_in_nI (by omega) (by omega)) ?_
    rw [nI_clamp (by omega), hgr]
    iterate 3 refine ax_nx rfl rfl ?_
    iterate 3 refine ax_nx rfl rfl ?_
    iterate 8 refine ax_nx rfl rfl ?_
    refine ax_ba rfl rfl (vp_in_nI (by omega) (by omega)) ?_
    rw [nI_clamp (by omega), hgr]
    iterate 3 refine ax_nx rfl rfl ?_
    iterate 3 refine ax_nx rfl rfl ?_
    refine ax_top (y := nI (y + 1)) (by show nI 1 + nI y = _; rw [nI_add, Nat.add_comm]) ?_
    refine ax_iasH (h2 := hp n xs f (upda a 31 (upd (a 31) u (nI (y + 1)))) o) rfl rfl (vp_in_nI (by omega) (by omega)) (by rw [nI_clamp (by omega)]; rfl) ?_
    refine ax_nx rfl rfl ?_
    have e9 := tin_4 (x := x) (y := y) hg
    rw [e9] at hK hok
    have hcl : c ≤ T.length := by have := tm_lt (hT.2.1 (c - 1) (by omega)); omega
    exact in_done hK (by omega) huN h0 h20 him hok.2.2.1 (by show y < 100; omega) h17 h16 ⟨fun _ _ => rfl, fun _ _ => rfl, fun _ _ => rfl, ag.rf⟩
theorem q_Mo_inst_z : ∀ (t i : Nat) (g : Nat → Int32), i + t = 20 → (∀ j, j < i → g j = 0) → ∀ {x1 x2 x3 : Int32} {x5 : Value} {Q : ax_P}, (∀ g : Nat → Int32, (∀ j, j < 20 → g j = 0) → ax_R d 14 24 [.ref 25, .int x1, .int x2, .int x3, .int (nI 20), x5] [] (hp n xs f (upda a 31 g) o) k s Q) → ax_R d 14 3 [.ref 25, .int x1, .int x2, .int x3, .int (nI i), x5] [] (hp n xs f (upda a 31 g) o) k s Q := by
  intro t
  induction t with
  | zero =>
    intro i g hi hg x1 x2 x3 x5 Q hQ
    have hie : i = 20 := by omega
    subst hie
    iterate 2 refine ax_nx rfl rfl ?_
    refine ax_nx rfl rfl ?_
    exact hQ g hg
  | succ t ih =>
    intro i g hi hg x1 x2 x3 x5 Q hQ
    iterate 2 refine ax_nx rfl rfl ?_
    refine ax_nxf rfl rfl (nI_ge (b := 20) (by omega) (by omega)) ?_
    iterate 4 refine ax_nx rfl rfl ?_
    refine ax_iasH (h2 := hp n xs f (upda a 31 (upd g i 0)) o) rfl rfl (vp_in_nI (by omega) (by omega)) (by rw [nI_clamp (by omega)]; rfl) ?_
    refine ax_nx (al' := [.ref 25, .int x1, .int x2, .int x3, .int (nI i + 1), x5]) rfl rfl ?_
    rw [nI_1]
    refine ax_nx rfl rfl ?_
    refine ih (i + 1) _ (by omega) (fun j hj => ?_) hQ
    unfold upd
    by_cases hji : j = i
    · rw [if_pos hji]
    · rw [if_neg hji]
      exact hg j (by omega)
theorem q_Mo_inst {c x y : Nat} (hx : x < c) (hy : y < c) {T : tm_T} {Z : List Nat} {u : Nat} (h1 : mt_at c T f a) (h2 : mz_at T Z f a) (h3 : th_wf c T Z) (hu : u < T.length) (h17 : f 17 = 0) : ax_R (d + 2) 14 0 (ax_in 14 [.ref 25, .int (nI u), .int (nI x), .int (nI y)]) [] (hp n xs f a o) k s (ax_V (fun v h' => ∃ f' a', h' = hp n xs f' a' o ∧ ag [14, 16, 17] [26, 27, 28, 29, 30, 31, 33] f a f' a' ∧ (((tm_in x y 21 T u).1.length ≤ 20 ∧ v = some (.int (nI (tm_in x y 21 T u).2)) ∧ f' 17 = 0 ∧ mt_at c (tm_in x y 21 T u).1 f' a' ∧ mz_at (tm_in x y 21 T u).1 Z f' a') ∨ (20 < (tm_in x y 21 T u).1.length ∧ v = some (.int 0) ∧ f' 17 = 1 ∧ ∃ S, mt_at c (T ++ S) f' a' ∧ mz_at (T ++ S) Z f' a'))) k s) := by
  have h20 := h1.2.1
  refine ax_nx rfl rfl ?_
  refine ax_nx (h' := hp n xs f (upda a 31 (a 31)) o) (al' := [.ref 25, .int (nI u), .int (nI x), .int (nI y), .int (nI 0), ax_u]) rfl rfl ?_
  refine q_Mo_inst_z 20 0 (a 31) (by omega) (fun j hj => absurd hj (Nat.not_lt_zero _)) (fun g hg => ?_)
  iterate 2 refine ax_nx rfl rfl ?_
  refine ax_nx (h' := hp n xs (upd f 16 0) (upda a 31 g) o) rfl rfl ?_
  iterate 2 refine ax_nx rfl rfl ?_
  refine ax_cal rfl rfl (q_Mo_push (m := 0) (by omega) rfl) (fun v h' hh => ?_)
  obtain ⟨rfl, rfl⟩ := hh
  have g1 : ag [16] [31, 33] f a (upd (upd f 16 0) 16 (nI (0 + 1))) (upda (upda a 31 g) 33 (upd (a 33) 0 (nI u))) := ⟨fun j hj => ?_, fun j hj => ?_⟩
  rotate_left
  · simp only [List.mem_cons, List.not_mem_nil, or_false] at hj
    simp [upd, hj]
  · simp only [List.mem_cons, List.not_mem_nil, or_false, not_or] at hj
    simp [upda, hj]
  refine q_Mo_in (N := T.length) hx hy h20 u hu T 0 _ _ _ _ ⟨h1.kept g1 (by decide) (by decide), h2.kept g1 (by decide) (by decide), h3, Nat.le_refl _, fun v hv => Or.inl (hg v (by omega))⟩ (by omega) rfl h17 rfl (hg u (by omega)) ⟨fun f' a' x4 x5 w1 w2 w3 w4 w5 w6 => ?_, fun f' a' x4 x5 w1 w2 w3 w4 => ?_⟩
  · iterate 2 refine ax_nx rfl rfl ?_
    rw [w6]
    iterate 3 refine ax_nx rfl rfl ?_
    rw [w5]
    iterate 4 refine ax_nx rfl rfl ?_
    refine ax_ia rfl rfl (vp_in_nI (by omega) (by omega)) ?_
    rw [nI_clamp (by omega), w3]
    iterate 2 refine ax_nx rfl rfl ?_
    refine ax_top (y := nI (tm_in x y 21 T u).2) (nI_pred _) ?_
    exact ax_ret rfl rfl ⟨_, rfl, rfl, rfl, f', a', rfl, (g1.wide (by simp) (by simp)).trans w4.2.2.2, Or.inl ⟨w1, rfl, w5, w2.1, w2.2.1⟩⟩
  · iterate 2 refine ax_nx rfl rfl ?_
    rw [w3]
    iterate 3 refine ax_nx rfl rfl ?_
    exact ax_ret rfl rfl ⟨_, rfl, rfl, rfl, f', a', rfl, (g1.wide (by simp) (by simp)).trans w4, Or.inr ⟨w1, rfl, w3, w2⟩⟩
end HIS
