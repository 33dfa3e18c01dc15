def iv_l (L : List Nat) (I : List (List wl_L)) (f : Nat → Int32) (a : Nat → Nat → Int32) : Prop := f 11 = nI L.length ∧ f 20 = nI L.length ∧ L.length ≤ 4 ∧ (∀ i j p q : Nat, i ≤ j → L[i]? = some p → L[j]? = some q → p ≤ q) ∧ ∀ (j m : Nat), L[j]? = some m → m ≤ I.length ∧ a 13 (j + 1) = nI m ∧ a 14 (j + 1) = nI ((I.take m).flatten.filterMap wl_kp).length ∧ a 42 (j + 1) = nI m
theorem iv_l.kept {L : List Nat} {I : List (List wl_L)} {F A : List Nat} {f f' : Nat → Int32} {a a' : Nat → Nat → Int32} (h : iv_l L I f a) (g : ag F A f a f' a') (hF : 11 ∉ F ∧ 20 ∉ F) (hA : 13 ∉ A ∧ 14 ∉ A ∧ 42 ∉ A) : iv_l L I f' a' := by
  obtain ⟨h1, h2, h3, h4, h5⟩ := h
  refine ⟨(g.1 11 hF.1).trans h1, (g.1 20 hF.2).trans h2, h3, h4, ?_⟩
  rw [g.2 13 hA.1, g.2 14 hA.2.1, g.2 42 hA.2.2]
  exact h5
def iv_c (c : Nat) (f : Nat → Int32) : Prop := 0 < c ∧ c ≤ 4 ∧ f 9 = nI c ∧ f 13 = nI c
theorem iv_c.kept {c : Nat} {F A : List Nat} {f f' : Nat → Int32} {a a' : Nat → Nat → Int32} (h : iv_c c f) (g : ag F A f a f' a') (hF : 9 ∉ F ∧ 13 ∉ F) : iv_c c f' := ⟨h.1, h.2.1, (g.1 9 hF.1).trans h.2.2.1, (g.1 13 hF.2).trans h.2.2.2⟩
def iv_t (c : Nat) (T : tm_T) (Z : List Nat) (K : tm_T) (f : Nat → Int32) (a : Nat → Nat → Int32) : Prop := ct_at c T f a ∧ mt_at c T f a ∧ zt_at K Z f a ∧ kz T Z K ∧ th_wf c T Z ∧ mz_at T Z f a
def iv_d (D : dr_L) (T : tm_T) (f : Nat → Int32) (a : Nat → Nat → Int32) : Prop := dr_at D f a ∧ md_at D f a ∧ din T.length D
def iv_i (I : List (List wl_L)) (Z : List Nat) (f : Nat → Int32) (a : Nat → Nat → Int32) : Prop := ci_at (I.flatten.filterMap wl_kp) f a ∧ f 10 = nI I.length ∧ cl_at I f a ∧ ∀ C, C ∈ I → ∀ l, l ∈ C → wl_in Z.length l
def iv_h (K : tm_T) (Z : List Nat) (I : List (List wl_L)) (f : Nat → Int32) (a : Nat → Nat → Int32) : Prop := f 21 = 0 ∨ (f 21 = 1 ∧ ch_at Z.length (wo K I.flatten) f a)
theorem iv_h.kept {K : tm_T} {Z : List Nat} {I : List (List wl_L)} {F A : List Nat} {f f' : Nat → Int32} {a a' : Nat → Nat → Int32} (h : iv_h K Z I f a) (g : ag F A f a f' a') (hF : 21 ∉ F ∧ 22 ∉ F) (hA : 44 ∉ A) : iv_h K Z I f' a' := by
  unfold iv_h ch_at at h ⊢
  rw [g.1 21 hF.1, g.1 22 hF.2, g.2 44 hA]
  exact h
def IV (c : Nat) (T : tm_T) (Z : List Nat) (K : tm_T) (D : dr_L) (I : List (List wl_L)) (L : List Nat) (f : Nat → Int32) (a : Nat → Nat → Int32) : Prop := iv_c c f ∧ iv_t c T Z K f a ∧ iv_d D T f a ∧ iv_i I Z f a ∧ iv_l L I f a ∧ iv_h K Z I f a
theorem iv_t.kept {c : Nat} {T : tm_T} {Z : List Nat} {K : tm_T} {F A : List Nat} {f f' : Nat → Int32} {a a' : Nat → Nat → Int32} (h : iv_t c T Z K f a) (g : ag F A f a f' a') (hF : 7 ∉ F ∧ 14 ∉ F ∧ 8 ∉ F ∧ 15 ∉ F) (hA : (16 ∉ A ∧ 17 ∉ A ∧ 18 ∉ A ∧ 19 ∉ A) ∧ (26 ∉ A ∧ 27 ∉ A ∧ 28 ∉ A ∧ 29 ∉ A) ∧ (21 ∉ A ∧ 22 ∉ A ∧ 23 ∉ A ∧ 24 ∉ A) ∧ 30 ∉ A ∧ 32 ∉ A) : iv_t c T Z K f' a' := ⟨h.1.kept g hF.1 hA.1, h.2.1.kept g hF.2.1 hA.2.1, h.2.2.1.kept g hF.2.2.1 hA.2.2.1, h.2.2.2.1, h.2.2.2.2.1, h.2.2.2.2.2.kept g hF.2.2.2 hA.2.2.2⟩
theorem iv_d.kept {D : dr_L} {T : tm_T} {F A : List Nat} {f f' : Nat → Int32} {a a' : Nat → Nat → Int32} (h : iv_d D T f a) (g : ag F A f a f' a') (hF : 0 ∉ F ∧ 18 ∉ F) (hA : (3 ∉ A ∧ 4 ∉ A ∧ 5 ∉ A) ∧ 34 ∉ A ∧ 35 ∉ A ∧ 36 ∉ A) : iv_d D T f' a' := ⟨h.1.kept g hF.1 hA.1, h.2.1.kept g hF.2 hA.2, h.2.2⟩
theorem iv_i.kept {I : List (List wl_L)} {Z : List Nat} {F A : List Nat} {f f' : Nat → Int32} {a a' : Nat → Nat → Int32} (h : iv_i I Z f a) (g : ag F A f a f' a') (hF : 1 ∉ F ∧ 10 ∉ F ∧ 19 ∉ F) (hA : (9 ∉ A ∧ 10 ∉ A) ∧ 37 ∉ A ∧ 38 ∉ A ∧ 39 ∉ A ∧ 40 ∉ A ∧ 41 ∉ A) : iv_i I Z f' a' := ⟨h.1.kept g hF.1 hA.1, (g.1 10 hF.2.1).trans h.2.1, h.2.2.1.kept g hF.2.2 hA.2, h.2.2.2⟩
theorem IV.scr {c : Nat} {T : tm_T} {Z : List Nat} {K : tm_T} {D : dr_L} {I : List (List wl_L)} {L : List Nat} {f f' : Nat → Int32} {a a' : Nat → Nat → Int32} (h : IV c T Z K D I L f a) (g : ag [2, 3, 4, 5, 6, 12, 16, 17] [7, 12, 31, 33, 43] f a f' a') : IV c T Z K D I L f' a' := ⟨h.1.kept g (by decide), h.2.1.kept g (by decide) (by decide), h.2.2.1.kept g (by decide) (by decide), h.2.2.2.1.kept g (by decide) (by decide), h.2.2.2.2.1.kept g (by decide) (by decide), h.2.2.2.2.2.kept g (by decide) (by decide)⟩
theorem IV.mw {c : Nat} {T : tm_T} {Z : List Nat} {K : tm_T} {D : dr_L} {I : List (List wl_L)} {L : List Nat} {f : Nat → Int32} {a : Nat → Nat → Int32} (h : IV c T Z K D I L f a) : mw_at c T Z K I f a := ⟨h.2.1.2.1, h.2.1.2.2.2.2.2, h.2.2.2.1.2.2.1, h.2.1.2.2.2.1, h.2.1.2.2.2.2.1, h.2.2.2.1.2.2.2⟩
theorem IV.zin {c : Nat} {T : tm_T} {Z : List Nat} {K : tm_T} {D : dr_L} {I : List (List wl_L)} {L : List Nat} {f : Nat → Int32} {a : Nat → Nat → Int32} (h : IV c T Z K D I L f a) : ∀ l, l ∈ I.flatten → wl_in Z.length l := fun l hl => by
  obtain ⟨C, hC, hl⟩ := List.mem_flatten.mp hl
  exact h.2.2.2.1.2.2.2 C hC l hl
theorem IV.f8 {c : Nat} {T : tm_T} {Z : List Nat} {K : tm_T} {D : dr_L} {I : List (List wl_L)} {L : List Nat} {f : Nat → Int32} {a : Nat → Nat → Int32} (h : IV c T Z K D I L f a) : f 8 = nI Z.length := by
  have := h.2.1.2.2.1
  rw [this.2.2.2.1]; exact this.2.1
theorem iv_len {I : List (List wl_L)} (h : ∀ C, C ∈ I → C.length ≤ 16) : (I.flatten.filterMap wl_kp).length ≤ 16 * I.length := by
  refine Nat.le_trans (List.length_filterMap_le _ _) ?_
  induction I with
  | nil => simp
  | cons C I ih =>
    rw [List.flatten_cons, List.length_append, List.length_cons]
    have h1 := h C List.mem_cons_self
    have h2 := ih (fun C' hC' => h C' (List.mem_cons_of_mem _ hC'))
    omega
theorem IV.len {c : Nat} {T : tm_T} {Z : List Nat} {K : tm_T} {D : dr_L} {I : List (List wl_L)} {L : List Nat} {f : Nat → Int32} {a : Nat → Nat → Int32} (h : IV c T Z K D I L f a) : (I.flatten.filterMap wl_kp).length ≤ 16 * I.length := iv_len (fun C hC => by
  obtain ⟨i, hi⟩ := List.getElem?_of_mem hC
  exact (h.2.2.2.1.2.2.1.2.2 i C hi).1)
theorem kz.uniq {c : Nat} {T : tm_T} {Z : List Nat} {K K' : tm_T} (h : kz T Z K) (h' : kz T Z K') (hZ : th_wf c T Z) : K = K' := by
  apply List.ext_getElem?
  intro i
  rcases Nat.lt_or_ge i Z.length with hl | hl
  · have hz : Z[i]? = some Z[i] := List.getElem?_eq_getElem hl
    generalize Z[i] = t at hz
    obtain ⟨e, q, h1, h2, h3⟩ := h.2 i t hz
    obtain ⟨e', q', g1, g2, g3⟩ := h'.2 i t hz
    rw [h1] at g1
    cases g1
    rw [h2, g2]
    rcases h3 with ⟨x, rfl, rfl⟩ | ⟨x, p, rfl, rfl, -, h5⟩ | ⟨x, y, p, r, rfl, rfl, -, -, h6, h7⟩
    · rcases g3 with ⟨x', e1, rfl⟩ | ⟨x', p', e1, rfl, -, -⟩ | ⟨x', y', p', r', e1, rfl, -, -, -, -⟩
      · cases e1; rfl
      · cases e1
      · cases e1
    · rcases g3 with ⟨x', e1, rfl⟩ | ⟨x', p', e1, rfl, -, k5⟩ | ⟨x', y', p', r', e1, rfl, -, -, -, -⟩
      · cases e1
      · cases e1
        rw [hZ.1 p p' _ h5 k5]
      · cases e1
    · rcases g3 with ⟨x', e1, rfl⟩ | ⟨x', p', e1, rfl, -, k5⟩ | ⟨x', y', p', r', e1, rfl, -, -, k6, k7⟩
      · cases e1
      · cases e1
      · cases e1
        rw [hZ.1 p p' _ h6 k6, hZ.1 r r' _ h7 k7]
  · rw [List.getElem?_eq_none (by rw [← h.1]; exact hl), List.getElem?_eq_none (by rw [← h'.1]; exact hl)]
