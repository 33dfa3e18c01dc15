def mz_at (T : tm_T) (Z : List Nat) (f : Nat → Int32) (a : Nat → Nat → Int32) : Prop := f 15 = nI Z.length ∧ Z.length ≤ 8 ∧ (∀ i t : Nat, Z[i]? = some t → a 32 i = nI t) ∧ ∀ t : Nat, t < T.length → (t ∈ Z → a 30 t = nI (ps Z t + 1)) ∧ (t ∉ Z → a 30 t = 0)
def cl_at (I : List (List wl_L)) (f : Nat → Int32) (a : Nat → Nat → Int32) : Prop := f 19 = nI I.length ∧ I.length ≤ 16 ∧ ∀ (c : Nat) (C : List wl_L), I[c]? = some C → C.length ≤ 16 ∧ a 38 c = nI C.length ∧ ∃ E : List Bool, E.length ≤ 4 ∧ a 37 c = nI E.length ∧ (∀ (k : Nat) (b : Bool), E[k]? = some b → a 41 (4 * c + k) = bI b) ∧ ∀ (i : Nat) (l : wl_L), C[i]? = some l → l.map (fun q => q.2.2) = E ∧ ∀ (k : Nat) (q : Nat × Nat × Bool), l[k]? = some q → a 39 (64 * c + 4 * i + k) = nI q.1 ∧ a 40 (64 * c + 4 * i + k) = nI q.2.1
theorem mz_at.kept {T : tm_T} {Z : List Nat} {F A : List Nat} {f f' : Nat → Int32} {a a' : Nat → Nat → Int32} (h : mz_at T Z f a) (g : ag F A f a f' a') (hF : 15 ∉ F) (hA : 30 ∉ A ∧ 32 ∉ A) : mz_at T Z f' a' := by
  obtain ⟨h1, h2, h3, h4⟩ := h
  refine ⟨(g.1 15 hF).trans h1, h2, ?_, ?_⟩
  · rw [g.2 32 hA.2]; exact h3
  · rw [g.2 30 hA.1]; exact h4
theorem cl_at.kept {I : List (List wl_L)} {F A : List Nat} {f f' : Nat → Int32} {a a' : Nat → Nat → Int32} (h : cl_at I f a) (g : ag F A f a f' a') (hF : 19 ∉ F) (hA : 37 ∉ A ∧ 38 ∉ A ∧ 39 ∉ A ∧ 40 ∉ A ∧ 41 ∉ A) : cl_at I f' a' := by
  obtain ⟨h1, h2, h3⟩ := h
  refine ⟨(g.1 19 hF).trans h1, h2, ?_⟩
  rw [g.2 37 hA.1, g.2 38 hA.2.1, g.2 39 hA.2.2.1, g.2 40 hA.2.2.2.1, g.2 41 hA.2.2.2.2]
  exact h3
theorem mt_at.kept {c : Nat} {T : tm_T} {F A : List Nat} {f f' : Nat → Int32} {a a' : Nat → Nat → Int32} (h : mt_at c T f a) (g : ag F A f a f' a') (hF : 14 ∉ F) (hA : 26 ∉ A ∧ 27 ∉ A ∧ 28 ∉ A ∧ 29 ∉ A) : mt_at c T f' a' := by
  obtain ⟨h1, h2, h3, h4, h5⟩ := h
  refine ⟨h1, h2, (g.1 14 hF).trans h3, ?_, ?_⟩
  · rw [g.2 26 hA.1, g.2 27 hA.2.1, g.2 28 hA.2.2.1]; exact h4
  · rw [g.2 29 hA.2.2.2]; exact h5
def mw_at (c : Nat) (T : tm_T) (Z : List Nat) (K : tm_T) (I : List (List wl_L)) (f : Nat → Int32) (a : Nat → Nat → Int32) : Prop := mt_at c T f a ∧ mz_at T Z f a ∧ cl_at I f a ∧ kz T Z K ∧ th_wf c T Z ∧ ∀ C, C ∈ I → ∀ l, l ∈ C → wl_in Z.length l
theorem mw_at.kept {c : Nat} {T : tm_T} {Z : List Nat} {K : tm_T} {I : List (List wl_L)} {F A : List Nat} {f f' : Nat → Int32} {a a' : Nat → Nat → Int32} (h : mw_at c T Z K I f a) (g : ag F A f a f' a') (hF : 14 ∉ F ∧ 15 ∉ F ∧ 19 ∉ F) (hA : (26 ∉ A ∧ 27 ∉ A ∧ 28 ∉ A ∧ 29 ∉ A) ∧ (30 ∉ A ∧ 32 ∉ A) ∧ 37 ∉ A ∧ 38 ∉ A ∧ 39 ∉ A ∧ 40 ∉ A ∧ 41 ∉ A) : mw_at c T Z K I f' a' := ⟨h.1.kept g hF.1 hA.1, h.2.1.kept g hF.2.1 hA.2.1, h.2.2.1.kept g hF.2.2 hA.2.2, h.2.2.2⟩
def tf_at (Z : List Nat) (K : tm_T) (a : Nat → Nat → Int32) (i s : Nat) (e : Nat × Nat × Nat) : Prop := a 32 i = nI s ∧ s < 20 ∧ a 26 s = nI e.1 ∧ a 27 s = nI e.2.1 ∧ a 28 s = nI e.2.2 ∧ kdf K i = e.1 ∧ e.1 < 3 ∧ (¬ e.1 = 0 → a 30 e.2.1 = nI (fif K i + 1) ∧ fif K i < Z.length ∧ e.2.1 < 20) ∧ (e.1 = 2 → a 30 e.2.2 = nI (sef K i + 1) ∧ sef K i < Z.length ∧ e.2.2 < 20) ∧ (e.1 = 1 → sef K i = 0)
theorem mw_at.thing {c : Nat} {T : tm_T} {Z : List Nat} {K : tm_T} {I : List (List wl_L)} {f : Nat → Int32} {a : Nat → Nat → Int32} (h : mw_at c T Z K I f a) {i : Nat} (hi : i < Z.length) : ∃ s e, tf_at Z K a i s e := by
  obtain ⟨⟨hT, h20, -, htb, -⟩, ⟨-, -, hz1, hz2⟩, -, hk, hZ, -⟩ := h
  have hz : Z[i]? = some Z[i] := List.getElem?_eq_getElem hi
  generalize Z[i] = s at hz
  obtain ⟨e, q, h1, h2, h3⟩ := hk.2 i s hz
  obtain ⟨b1, b2, b3, -⟩ := htb s e h1
  have hs := tm_lt h1
  have hpos : ∀ p t : Nat, Z[p]? = some t → t < 20 ∧ a 30 t = nI (p + 1) ∧ p < Z.length := by
    intro p t hp
    obtain ⟨e', g1, -⟩ := hZ.2.2 p t hp
    have ht := tm_lt g1
    refine ⟨by omega, ?_, tm_lt hp⟩
    rw [(hz2 t ht).1 (List.mem_of_getElem? hp), ← ps_of hZ hp]
  refine ⟨s, e, hz1 i s hz, by omega, b1, b2, b3, ?_⟩
  unfold kdf fif sef
  rw [h2]
  dsimp only
  rcases h3 with ⟨x, rfl, rfl⟩ | ⟨x, p, rfl, rfl, h4, h5⟩ | ⟨x, y, p, r, rfl, rfl, h4, h5, h6, h7⟩
  · exact ⟨rfl, by dsimp only; omega, fun h => absurd rfl h, fun h => (by cases h), fun h => (by cases h)⟩
  · obtain ⟨y1, y2, y3⟩ := hpos p x h5
    exact ⟨rfl, by dsimp only; omega, fun _ => ⟨y2, y3, y1⟩, fun h => (by cases h), fun _ => rfl⟩
  · obtain ⟨y1, y2, y3⟩ := hpos p x h6
    obtain ⟨z1, z2, z3⟩ := hpos r y h7
    exact ⟨rfl, by dsimp only; omega, fun _ => ⟨y2, y3, y1⟩, fun _ => ⟨z2, z3, z1⟩, fun h => (by cases h)⟩
def agr (K : tm_T) (v : Nat → Nat) (i j : Nat) : Prop := kdf K i = 0 ∨ (kdf K j = kdf K i → v (fif K j) = v (fif K i) → v (sef K j) = v (sef K i) → v j = v i)
def lw_at (N : Nat) (v : Nat → Nat) (a : Nat → Nat → Int32) : Prop := ∀ i, i < N → a 43 i = nI (v i) ∧ v i < 8
section HWO
variable {n : Nat} {xs : Nat → Int32} {f : Nat → Int32} {a : Nat → Nat → Int32} {o : Nat → Int64} {d k s : Nat}
theorem q_Mo_agrees {c : Nat} {T : tm_T} {Z : List Nat} {K : tm_T} {I : List (List wl_L)} (h : mw_at c T Z K I f a) {v : Nat → Nat} (hv : lw_at Z.length v a) {i j : Nat} (hi : i < Z.length) (hj : j < Z.length) : ax_R d 22 0 (ax_in 22 [.ref 25, .int (nI i), .int (nI j)]) [] (hp n xs f a o) k s (ax_V (fun r h' => (∃ b : Bool, r = some (.int (bI b)) ∧ (b = true ↔ agr K v i j)) ∧ h' = hp n xs f a o) k s) := by
  have h8 := h.2.1.2.1
  obtain ⟨s', e, x1, x2, x3, x4, x5, x6, x7, x8, x9, x10⟩ := h.thing hi
  obtain ⟨t', e', y1, y2, y3, y4, y5, y6, y7, y8, y9, y10⟩ := h.thing hj
  have vi := hv i hi
  have vj := hv j hj
  have veq : ∀ p q, p < Z.length → q < Z.length → nI (v p) = nI (v q) → v p = v q := fun p q hp hq h9 => (nI_eq (by have := (hv p hp).2; omega) (by have := (hv q hq).2; omega)).mp h9
  unfold agr
  rw [x6, y6]
  iterate 3 refine ax_nx rfl rfl ?_
  refine ax_ia rfl rfl (vp_in_nI (by omega) (by omega)) ?_
  rw [nI_clamp (by omega), x1]
  refine ax_nx (al' := [.ref 25, .int (nI i), .int (nI j), .int (nI s'), ax_u]) rfl rfl ?_
  iterate 3 refine ax_nx rfl rfl ?_
  refine ax_ia rfl rfl (vp_in_nI (by omega) (by omega)) ?_
  rw [nI_clamp (by omega), y1]
  refine ax_nx (al' := [.ref 25, .int (nI i), .int (nI j), .int (nI s'), .int (nI t')]) rfl rfl ?_
  iterate 3 refine ax_nx rfl rfl ?_
  refine ax_ia rfl rfl (vp_in_nI (by omega) (by omega)) ?_
  rw [nI_clamp (by omega), x3]
  by_cases k0 : e.1 = 0
  · refine ax_nxt rfl rfl (by rw [k0]; rfl) ?_
    refine ax_nx rfl rfl ?_
    exact ax_retb rfl rfl (Or.inr rfl) ⟨_, rfl, rfl, rfl, ⟨true, rfl, iff_of_true rfl (Or.inl k0)⟩, rfl⟩
  obtain ⟨xa, xb, xc⟩ := x8 k0
  refine ax_nxf rfl rfl (nI_ne0 (by omega) (by omega)) ?_
  iterate 3 refine ax_nx rfl rfl ?_
  refine ax_ia rfl rfl (vp_in_nI (by omega) (by omega)) ?_
  rw [nI_clamp (by omega), x3]
  iterate 3 refine ax_nx rfl rfl ?_
  refine ax_ia rfl rfl (vp_in_nI (by omega) (by omega)) ?_
  rw [nI_clamp (by omega), y3]
  by_cases k1 : e.1 = e'.1
  rotate_left
  · refine ax_nxf rfl rfl (fun h9 => k1 ((nI_eq (by omega) (by omega)).mp h9)) ?_
    refine ax_nx rfl rfl ?_
    exact ax_retb rfl rfl (Or.inr rfl) ⟨_, rfl, rfl, rfl, ⟨true, rfl, iff_of_true rfl (Or.inr (fun h9 => absurd h9.symm k1))⟩, rfl⟩
  obtain ⟨ya, yb, yc⟩ := y8 (by omega)
  refine ax_nxt rfl rfl (by rw [k1]) ?_
  iterate 3 refine ax_nx rfl rfl ?_
  refine ax_ia rfl rfl (vp_in_nI (by omega) (by omega)) ?_
  rw [nI_clamp (by omega), vi.1]
  iterate 3 refine ax_nx rfl rfl ?_
  refine ax_ia rfl rfl (vp_in_nI (by omega) (by omega)) ?_
  rw [nI_clamp (by omega), vj.1]
  by_cases k2 : v i = v j
  · refine ax_nxt rfl rfl (by rw [k2]) ?_
    refine ax_nx rfl rfl ?_
    exact ax_retb rfl rfl (Or.inr rfl) ⟨_, rfl, rfl, rfl, ⟨true, rfl, iff_of_true rfl (Or.inr (fun _ _ _ => k2.symm))⟩, rfl⟩
  refine ax_nxf rfl rfl (fun h9 => k2 (veq i j hi hj h9)) ?_
  iterate 7 refine ax_nx rfl rfl ?_
  refine ax_ia rfl rfl (vp_in_nI (by omega) (by omega)) ?_
  rw [nI_clamp (by omega), x4]
  refine ax_ia rfl rfl (vp_in_nI (by omega) (by omega)) ?_
  rw [nI_clamp (by omega), xa]
  iterate 2 refine ax_nx rfl rfl ?_
  refine ax_top (y := nI (fif K i)) (nI_pred _) ?_
  refine ax_ia rfl rfl (vp_in_nI (by omega) (by omega)) ?_
  rw [nI_clamp (by omega), (hv _ xb).1]
  iterate 7 refine ax_nx rfl rfl ?_
  refine ax_ia rfl rfl (vp_in_nI (by omega) (by omega)) ?_
  rw [nI_clamp (by omega), y4]
  refine ax_ia rfl rfl (vp_in_nI (by omega) (by omega)) ?_
  rw [nI_clamp (by omega), ya]
  iterate 2 refine ax_nx rfl rfl ?_
  refine ax_top (y := nI (fif K j)) (nI_pred _) ?_
  refine ax_ia rfl rfl (vp_in_nI (by omega) (by omega)) ?_
  rw [nI_clamp (by omega), (hv _ yb).1]
  by_cases k3 : v (fif K i) = v (fif K j)
  rotate_left
  · refine ax_nxf rfl rfl (fun h9 => k3 (veq _ _ xb yb h9)) ?_
    refine ax_nx rfl rfl ?_
    exact ax_retb rfl rfl (Or.inr rfl) ⟨_, rfl, rfl, rfl, ⟨true, rfl, iff_of_true rfl (Or.inr (fun _ h9 _ => absurd h9.symm k3))⟩, rfl⟩
  refine ax_nxt rfl rfl (by rw [k3]) ?_
  iterate 3 refine ax_nx rfl rfl ?_
  refine ax_ia rfl rfl (vp_in_nI (by omega) (by omega)) ?_
  rw [nI_clamp (by omega), x3]
  refine ax_nx rfl rfl ?_
  by_cases k4 : e.1 = 2
  rotate_left
  · refine ax_nxf rfl rfl (fun h9 => k4 ((nI_eq (b := 2) (by omega) (by omega)).mp h9)) ?_
    refine ax_nx rfl rfl ?_
    refine ax_retb rfl rfl (Or.inl rfl) ⟨_, rfl, rfl, rfl, ⟨false, rfl, iff_of_false (by decide) ?_⟩, rfl⟩
    rintro (h9 | h9)
    · exact k0 h9
    · exact k2 (h9 k1.symm k3.symm (by rw [x10 (by omega), y10 (by omega)])).symm
  obtain ⟨xd, xe, xf⟩ := x9 k4
  obtain ⟨yd, ye, yf⟩ := y9 (by omega)
  refine ax_nxt rfl rfl (by rw [k4]; rfl) ?_
  iterate 7 refine ax_nx rfl rfl ?_
  refine ax_ia rfl rfl (vp_in_nI (by omega) (by omega)) ?_
  rw [nI_clamp (by omega), x5]
  refine ax_ia rfl rfl (vp_in_nI (by omega) (by omega)) ?_
  rw [nI_clamp (by omega), xd]
  iterate 2 refine ax_nx rfl rfl ?_
  refine ax_top (y := nI (sef K i)) (nI_pred _) ?_
  refine ax_ia rfl rfl (vp_in_nI (by omega) (by omega)) ?_
  rw [nI_clamp (by omega), (hv _ xe).1]
  iterate 7 refine ax_nx rfl rfl ?_
  refine ax_ia rfl rfl (vp_in_nI (by omega) (by omega)) ?_
  rw [nI_clamp (by omega), y5]
  refine ax_ia rfl rfl (vp_in_nI (by omega) (by omega)) ?_
  rw [nI_clamp (by omega), yd]
  iterate 2 refine ax_nx rfl rfl ?_
  refine ax_top (y := nI (sef K j)) (nI_pred _) ?_
  refine ax_ia rfl rfl (vp_in_nI (by omega) (by omega)) ?_
  rw [nI_clamp (by omega), (hv _ ye).1]
  by_cases k5 : v (sef K i) = v (sef K j)
  · refine ax_nxt rfl rfl (by rw [k5]) ?_
    refine ax_nx rfl rfl ?_
    refine ax_retb rfl rfl (Or.inl rfl) ⟨_, rfl, rfl, rfl, ⟨false, rfl, iff_of_false (by decide) ?_⟩, rfl⟩
    rintro (h9 | h9)
    · exact k0 h9
    · exact k2 (h9 k1.symm k3.symm k5.symm).symm
  · refine ax_nxf rfl rfl (fun h9 => k5 (veq _ _ xe ye h9)) ?_
    iterate 2 refine ax_nx rfl rfl ?_
    exact ax_retb rfl rfl (Or.inr rfl) ⟨_, rfl, rfl, rfl, ⟨true, rfl, iff_of_true rfl (Or.inr (fun _ _ h9 => absurd h9.symm k5))⟩, rfl⟩
theorem q_Mo_holds_l {N : Nat} {v : Nat → Nat} (hN : N ≤ 8) (hv : lw_at N v a) {w i : Nat} (hw : w < 16) (hi : i < 16) {E : List Bool} {l : wl_L} (hE4 : E.length ≤ 4) (hE1 : a 37 w = nI E.length) (hE2 : ∀ (k : Nat) (b : Bool), E[k]? = some b → a 41 (4 * w + k) = bI b) (hl : l.map (fun q => q.2.2) = E) (hl2 : ∀ (k : Nat) (q : Nat × Nat × Bool), l[k]? = some q → a 39 (64 * w + 4 * i + k) = nI q.1 ∧ a 40 (64 * w + 4 * i + k) = nI q.2.1) (hin : wl_in N l) : ∀ (t j : Nat), j + t = l.length → ∀ x4 : Value, ax_R d 23 2 [.ref 25, .int (nI w), .int (nI i), .int (nI j), x4] [] (hp n xs f a o) k s (ax_V (fun r h' => (∃ b : Bool, r = some (.int (bI b)) ∧ (b = true ↔ ∃ q, q ∈ l.drop j ∧ wl_lit v q)) ∧ h' = hp n xs f a o) k s) := by
  have hlen : l.length = E.length := by rw [← hl, List.length_map]
  intro t
  induction t with
  | zero =>
    intro j hj x4
    iterate 4 refine ax_nx rfl rfl ?_
    refine ax_ia rfl rfl (vp_in_nI (by omega) (by omega)) ?_
    rw [nI_clamp (by omega), hE1]
    refine ax_nxt rfl rfl (nI_le (by omega) (by omega)) ?_
    refine ax_nx rfl rfl ?_
    refine ax_retb rfl rfl (Or.inl rfl) ⟨_, rfl, rfl, rfl, ⟨false, rfl, iff_of_false (by decide) ?_⟩, rfl⟩
    rw [List.drop_eq_nil_of_le (by omega)]
    rintro ⟨q, hq, -⟩
    cases hq
  | succ t ih =>
    intro j hj x4
    have hjl : j < l.length := by omega
    have hdn : l.drop j = l[j] :: l.drop (j + 1) := List.drop_eq_getElem_cons hjl
    have hgl : l[j]? = some l[j] := List.getElem?_eq_getElem hjl
    obtain ⟨z1, z2⟩ := hl2 j _ hgl
    obtain ⟨y1, y2⟩ := hin _ (List.getElem_mem hjl)
    have hEj : E[j]? = some l[j].2.2 := by rw [← hl, List.getElem?_map, hgl]; rfl
    have hb := hE2 j _ hEj
    rw [hdn]
    generalize l[j] = q at *
    have v1 := hv _ y1
    have v2 := hv _ y2
    have next : ¬ wl_lit v q → ∀ x4 : Value, ax_R d 23 71 [.ref 25, .int (nI w), .int (nI i), .int (nI j), x4] [] (hp n xs f a o) k s (ax_V (fun r h' => (∃ b : Bool, r = some (.int (bI b)) ∧ (b = true ↔ ∃ q9, q9 ∈ q :: l.drop (j + 1) ∧ wl_lit v q9)) ∧ h' = hp n xs f a o) k s) := by
      intro hno x4
      refine ax_nx (al' := [.ref 25, .int (nI w), .int (nI i), .int (nI j + 1), x4]) rfl rfl ?_
      rw [nI_1]
      refine ax_nx rfl rfl ?_
      refine (ih (j + 1) (by omega) x4).mono ?_
      rintro o1 h1 k1 s1 ⟨r, e1, e2, e3, ⟨b, e4, e5⟩, e6⟩
      refine ⟨r, e1, e2, e3, ⟨b, e4, e5.trans ⟨fun ⟨q9, h8, h9⟩ => ⟨q9, List.mem_cons_of_mem _ h8, h9⟩, fun ⟨q9, h8, h9⟩ => ?_⟩⟩, e6⟩
      rcases List.mem_cons.mp h8 with rfl | h8
      · exact absurd h9 hno
      · exact ⟨q9, h8, h9⟩
    iterate 4 refine ax_nx rfl rfl ?_
    refine ax_ia rfl rfl (vp_in_nI (by omega) (by omega)) ?_
    rw [nI_clamp (by omega), hE1]
    refine ax_nxf rfl rfl (nI_ge (by omega) (by omega)) ?_
    iterate 9 refine ax_nx rfl rfl ?_
    refine ax_top (y := nI (64 * w + 4 * i + j)) (by show nI 64 * nI w + nI 4 * nI i + nI j = _; rw [nI_mul, nI_mul, nI_add, nI_add]) ?_
    refine ax_nx (al' := [.ref 25, .int (nI w), .int (nI i), .int (nI j), .int (nI (64 * w + 4 * i + j))]) rfl rfl ?_
    iterate 5 refine ax_nx rfl rfl ?_
    refine ax_ia rfl rfl (vp_in_nI (by omega) (by omega)) ?_
    rw [nI_clamp (by omega), z1]
    refine ax_ia rfl rfl (vp_in_nI (by omega) (by omega)) ?_
    rw [nI_clamp (by omega), v1.1]
    iterate 5 refine ax_nx rfl rfl ?_
    refine ax_ia rfl rfl (vp_in_nI (by omega) (by omega)) ?_
    rw [nI_clamp (by omega), z2]
    refine ax_ia rfl rfl (vp_in_nI (by omega) (by omega)) ?_
    rw [nI_clamp (by omega), v2.1]
    by_cases hq : v q.1 = v q.2.1
    · refine ax_nxt rfl rfl (by rw [hq]) ?_
      iterate 9 refine ax_nx rfl rfl ?_
      refine ax_top (y := nI (4 * w + j)) (by show nI 4 * nI w + nI j = _; rw [nI_mul, nI_add]) ?_
      refine ax_ba rfl rfl (vp_in_nI (by omega) (by omega)) ?_
      rw [nI_clamp (by omega), hb]
      cases hq2 : q.2.2 with
      | true =>
        refine ax_nx rfl rfl ?_
        refine ax_nx rfl rfl ?_
        exact ax_retb rfl rfl (Or.inr rfl) ⟨_, rfl, rfl, rfl, ⟨true, rfl, iff_of_true rfl ⟨q, List.mem_cons_self, by unfold wl_lit; rw [hq2]; simp [hq]⟩⟩, rfl⟩
      | false =>
        refine ax_nx rfl rfl ?_
        exact next (by unfold wl_lit; rw [hq2]; simp [hq]) _
    · refine ax_nxf rfl rfl (fun h9 => hq ((nI_eq (by omega) (by omega)).mp h9)) ?_
      iterate 8 refine ax_nx rfl rfl ?_
      refine ax_top (y := nI (4 * w + j)) (by show nI 4 * nI w + nI j = _; rw [nI_mul, nI_add]) ?_
      refine ax_ba rfl rfl (vp_in_nI (by omega) (by omega)) ?_
      rw [nI_clamp (by omega), hb]
      cases hq2 : q.2.2 with
      | true =>
        refine ax_nx rfl rfl ?_
        exact next (by unfold wl_lit; rw [hq2]; simp [hq]) _
      | false =>
        refine ax_nx rfl rfl ?_
        refine ax_nx rfl rfl ?_
        exact ax_retb rfl rfl (Or.inr rfl) ⟨_, rfl, rfl, rfl, ⟨true, rfl, iff_of_true rfl ⟨q, List.mem_cons_self, by unfold wl_lit; rw [hq2]; simp [hq]⟩⟩, rfl⟩
theorem q_Mo_holds {c : Nat} {T : tm_T} {Z : List Nat} {K : tm_T} {I : List (List wl_L)} (h : mw_at c T Z K I f a) {v : Nat → Nat} (hv : lw_at Z.length v a) {w i : Nat} {C : List wl_L} {l : wl_L} (hC : I[w]? = some C) (hl : C[i]? = some l) : ax_R d 23 0 (ax_in 23 [.ref 25, .int (nI w), .int (nI i)]) [] (hp n xs f a o) k s (ax_V (fun r h' => (∃ b : Bool, r = some (.int (bI b)) ∧ (b = true ↔ wl_hold v l)) ∧ h' = hp n xs f a o) k s) := by
  have hw := tm_lt hC
  have hi := tm_lt hl
  obtain ⟨h16, h38, E, hE4, h37, h41, hls⟩ := h.2.2.1.2.2 w C hC
  have h8 := h.2.1.2.1
  have hI16 := h.2.2.1.2.1
  obtain ⟨hm, hl2⟩ := hls i l hl
  refine ax_nx rfl rfl ?_
  refine ax_nx (al' := [.ref 25, .int (nI w), .int (nI i), .int (nI 0), ax_u]) rfl rfl ?_
  exact q_Mo_holds_l h8 hv (by omega) (by omega) hE4 h37 h41 hm hl2 (h.2.2.2.2.2 C (List.mem_of_getElem? hC) l (List.mem_of_getElem? hl)) l.length 0 (by omega) _
theorem wo_iff {Z : List Nat} {T : tm_T} {K : tm_T} {I : List (List wl_L)} {v : Nat → Nat} (hk : kz T Z K) : wo K I.flatten v ↔ (∀ i, i < Z.length → ∀ j, j < i → agr K v i j) ∧ ∀ C, C ∈ I → ∀ l, l ∈ C → wl_hold v l := by
  unfold wo wl_W
  rw [← hk.1]
  refine and_congr ⟨fun h i hi j hj => ?_, fun h i hi => ?_⟩ ⟨fun h C hC l hl => h l (List.mem_flatten.mpr ⟨C, hC, hl⟩), fun h l hl => ?_⟩
  · rcases h i hi with h9 | h9
    · exact Or.inl h9
    · exact Or.inr (h9 j hj)
  · by_cases h0 : kdf K i = 0
    · exact Or.inl h0
    · refine Or.inr (fun j hj => ?_)
      rcases h i hi j hj with h9 | h9
      · exact absurd h9 h0
      · exact h9
  · obtain ⟨C, hC, hl⟩ := List.mem_flatten.mp hl
    exact h C hC l hl
theorem q_Mo_isW_c {c : Nat} {T : tm_T} {Z : List Nat} {K : tm_T} {I : List (List wl_L)} (h : mw_at c T Z K I f a) {v : Nat → Nat} (hv : lw_at Z.length v a) (hag : ∀ i, i < Z.length → ∀ j, j < i → agr K v i j) : ∀ (t w : Nat), w + t = I.length → (∀ w', w' < w → ∀ C, I[w']? = some C → ∀ l, l ∈ C → wl_hold v l) → ∀ x2 : Value, ax_R (d + 1) 21 42 [.ref 25, .int (nI w), x2] [] (hp n xs f a o) k s (ax_V (fun r h' => (∃ b : Bool, r = some (.int (bI b)) ∧ (b = true ↔ wo K I.flatten v)) ∧ h' = hp n xs f a o) k s) := by
  have hI16 := h.2.2.1.2.1
  have h19 := h.2.2.1.1
  intro t
  induction t with
  | zero =>
    intro w hw hd x2
    iterate 3 refine ax_nx rfl rfl ?_
    refine ax_nxt rfl rfl (by rw [h19]; exact nI_le (by omega) (by omega)) ?_
    refine ax_nx rfl rfl ?_
    refine ax_retb rfl rfl (Or.inr rfl) ⟨_, rfl, rfl, rfl, ⟨true, rfl, iff_of_true rfl ((wo_iff h.2.2.2.1).mpr ⟨hag, fun C hC l hl => ?_⟩)⟩, rfl⟩
    obtain ⟨w', hw'⟩ := List.getElem?_of_mem hC
    exact hd w' (by have := tm_lt hw'; omega) C hw' l hl
  | succ t ih =>
    intro w hw hd x2
    have hwl : w < I.length := by omega
    have hC : I[w]? = some I[w] := List.getElem?_eq_getElem hwl
    generalize I[w] = C at hC
    obtain ⟨h16, h38, -⟩ := h.2.2.1.2.2 w C hC
    have inner : ∀ (t i : Nat), i + t = C.length → (∀ i', i' < i → ∀ l, C[i']? = some l → wl_hold v l) → ax_R (d + 1) 21 52 [.ref 25, .int (nI w), .int (nI i)] [] (hp n xs f a o) k s (ax_V (fun r h' => (∃ b : Bool, r = some (.int (bI b)) ∧ (b = true ↔ wo K I.flatten v)) ∧ h' = hp n xs f a o) k s) := by
      intro t
      induction t with
      | zero =>
        intro i hi hdi
        iterate 4 refine ax_nx rfl rfl ?_
        refine ax_ia rfl rfl (vp_in_nI (by omega) (by omega)) ?_
        rw [nI_clamp (by omega), h38]
        refine ax_nxt rfl rfl (nI_le (by omega) (by omega)) ?_
        refine ax_nx (al' := [.ref 25, .int (nI w + 1), .int (nI i)]) rfl rfl ?_
        rw [nI_1]
        refine ax_nx rfl rfl ?_
        refine ih (w + 1) (by omega) (fun w' hw' C' hC' l hl => ?_) _
        rcases Nat.lt_succ_iff_lt_or_eq.mp hw' with hw' | rfl
        · exact hd w' hw' C' hC' l hl
        · rw [hC] at hC'
          cases hC'
          obtain ⟨i', hi'⟩ := List.getElem?_of_mem hl
          exact hdi i' (by have := tm_lt hi'; omega) l hi'
      | succ t ih2 =>
        intro i hi hdi
        have hil : i < C.length := by omega
        have hl : C[i]? = some C[i] := List.getElem?_eq_getElem hil
        generalize C[i] = l at hl
        iterate 4 refine ax_nx rfl rfl ?_
        refine ax_ia rfl rfl (vp_in_nI (by omega) (by omega)) ?_
        rw [nI_clamp (by omega), h38]
        refine ax_nxf rfl rfl (nI_ge hil (by omega)) ?_
        iterate 3 refine ax_nx rfl rfl ?_
        refine ax_cal (d := d) rfl rfl (q_Mo_holds h hv hC hl) (fun v h' hh => ?_)
        obtain ⟨⟨b, rfl, hb⟩, rfl⟩ := hh
        cases b with
        | false =>
          iterate 2 refine ax_nx rfl rfl ?_
          refine ax_retb rfl rfl (Or.inl rfl) ⟨_, rfl, rfl, rfl, ⟨false, rfl, iff_of_false (by decide) (fun h9 => ?_)⟩, rfl⟩
          have := hb.mpr (((wo_iff h.2.2.2.1).mp h9).2 C (List.mem_of_getElem? hC) l (List.mem_of_getElem? hl))
          cases this
        | true =>
          refine ax_nx rfl rfl ?_
          refine ax_nx (al' := [.ref 25, .int (nI w), .int (nI i + 1)]) rfl rfl ?_
          rw [nI_1]
          refine ax_nx rfl rfl ?_
          refine ih2 (i + 1) (by omega) (fun i' hi' l' hl' => ?_)
          rcases Nat.lt_succ_iff_lt_or_eq.mp hi' with hi' | rfl
          · exact hdi i' hi' l' hl'
          · rw [hl] at hl'
            cases hl'
            exact hb.mp rfl
    iterate 3 refine ax_nx rfl rfl ?_
    refine ax_nxf rfl rfl (by rw [h19]; exact nI_ge hwl (by omega)) ?_
    refine ax_nx rfl rfl ?_
    refine ax_nx (al' := [.ref 25, .int (nI w), .int (nI 0)]) rfl rfl ?_
    exact inner C.length 0 (by omega) (fun i' hi' => absurd hi' (Nat.not_lt_zero _))
theorem q_Mo_isW_i {c : Nat} {T : tm_T} {Z : List Nat} {K : tm_T} {I : List (List wl_L)} (h : mw_at c T Z K I f a) {v : Nat → Nat} (hv : lw_at Z.length v a) : ∀ (t i : Nat), i + t = Z.length → (∀ i', i' < i → ∀ j, j < i' → agr K v i' j) → ∀ x2 : Value, ax_R (d + 1) 21 2 [.ref 25, .int (nI i), x2] [] (hp n xs f a o) k s (ax_V (fun r h' => (∃ b : Bool, r = some (.int (bI b)) ∧ (b = true ↔ wo K I.flatten v)) ∧ h' = hp n xs f a o) k s) := by
  have h8 := h.2.1.2.1
  have h15 := h.2.1.1
  intro t
  induction t with
  | zero =>
    intro i hi hd x2
    iterate 3 refine ax_nx rfl rfl ?_
    refine ax_nxt rfl rfl (by rw [h15]; exact nI_le (by omega) (by omega)) ?_
    refine ax_nx rfl rfl ?_
    refine ax_nx (al' := [.ref 25, .int (nI 0), x2]) rfl rfl ?_
    exact q_Mo_isW_c h hv (fun i' hi' => hd i' (by omega)) I.length 0 (by omega) (fun w' hw' => absurd hw' (Nat.not_lt_zero _)) _
  | succ t ih =>
    intro i hi hd x2
    have hil : i < Z.length := by omega
    have inner : ∀ (t j : Nat), j + t = i → (∀ j', j' < j → agr K v i j') → ax_R (d + 1) 21 12 [.ref 25, .int (nI i), .int (nI j)] [] (hp n xs f a o) k s (ax_V (fun r h' => (∃ b : Bool, r = some (.int (bI b)) ∧ (b = true ↔ wo K I.flatten v)) ∧ h' = hp n xs f a o) k s) := by
      intro t
      induction t with
      | zero =>
        intro j hj hdj
        iterate 2 refine ax_nx rfl rfl ?_
        refine ax_nxt rfl rfl (nI_le (by omega) (by omega)) ?_
        refine ax_nx (al' := [.ref 25, .int (nI i + 1), .int (nI j)]) rfl rfl ?_
        rw [nI_1]
        refine ax_nx rfl rfl ?_
        refine ih (i + 1) (by omega) (fun i' hi' j' hj' => ?_) _
        rcases Nat.lt_succ_iff_lt_or_eq.mp hi' with hi' | rfl
        · exact hd i' hi' j' hj'
        · exact hdj j' (by omega)
      | succ t ih2 =>
        intro j hj hdj
        iterate 2 refine ax_nx rfl rfl ?_
        refine ax_nxf rfl rfl (nI_ge (by omega) (by omega)) ?_
        iterate 3 refine ax_nx rfl rfl ?_
        refine ax_cal (d := d) rfl rfl (q_Mo_agrees h hv hil (show j < Z.length by omega)) (fun v h' hh => ?_)
        obtain ⟨⟨b, rfl, hb⟩, rfl⟩ := hh
        cases b with
        | false =>
          iterate 2 refine ax_nx rfl rfl ?_
          refine ax_retb rfl rfl (Or.inl rfl) ⟨_, rfl, rfl, rfl, ⟨false, rfl, iff_of_false (by decide) (fun h9 => ?_)⟩, rfl⟩
          have := hb.mpr (((wo_iff h.2.2.2.1).mp h9).1 i hil j (by omega))
          cases this
        | true =>
          refine ax_nx rfl rfl ?_
          refine ax_nx (al' := [.ref 25, .int (nI i), .int (nI j + 1)]) rfl rfl ?_
          rw [nI_1]
          refine ax_nx rfl rfl ?_
          refine ih2 (j + 1) (by omega) (fun j' hj' => ?_)
          rcases Nat.lt_succ_iff_lt_or_eq.mp hj' with hj' | rfl
          · exact hdj j' hj'
          · exact hb.mp rfl
    iterate 3 refine ax_nx rfl rfl ?_
    refine ax_nxf rfl rfl (by rw [h15]; exact nI_ge hil (by omega)) ?_
    refine ax_nx rfl rfl ?_
    refine ax_nx (al' := [.ref 25, .int (nI i), .int (nI 0)]) rfl rfl ?_
    exact inner i 0 (by omega) (fun j' hj' => absurd hj' (Nat.not_lt_zero _))
theorem q_Mo_isW {c : Nat} {T : tm_T} {Z : List Nat} {K : tm_T} {I : List (List wl_L)} (h : mw_at c T Z K I f a) {v : Nat → Nat} (hv : lw_at Z.length v a) : ax_R (d + 1) 21 0 (ax_in 21 [.ref 25]) [] (hp n xs f a o) k s (ax_V (fun r h' => (∃ b : Bool, r = some (.int (bI b)) ∧ (b = true ↔ wo K I.flatten v)) ∧ h' = hp n xs f a o) k s) := by
  refine ax_nx rfl rfl ?_
  refine ax_nx (al' := [.ref 25, .int (nI 0), ax_u]) rfl rfl ?_
  exact q_Mo_isW_i h hv Z.length 0 (by omega) (fun i' hi' => absurd hi' (Nat.not_lt_zero _)) _
end HWO
