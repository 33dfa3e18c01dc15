def kz_e (Z : List Nat) (i : Nat) (e q : Nat × Nat × Nat) : Prop := (∃ x, e = (0, x, 0) ∧ q = (0, x, 0)) ∨ (∃ x p : Nat, e = (1, x, 0) ∧ q = (1, p, 0) ∧ p < i ∧ Z[p]? = some x) ∨ (∃ x y p r : Nat, e = (2, x, y) ∧ q = (2, p, r) ∧ p < i ∧ r < i ∧ Z[p]? = some x ∧ Z[r]? = some y)
def kz (T : tm_T) (Z : List Nat) (K : tm_T) : Prop := Z.length = K.length ∧ ∀ (i t : Nat), Z[i]? = some t → ∃ e q, T[t]? = some e ∧ K[i]? = some q ∧ kz_e Z i e q
theorem kz_e.app {Z S : List Nat} {i : Nat} {e q : Nat × Nat × Nat} (h : kz_e Z i e q) : kz_e (Z ++ S) i e q := by
  rcases h with h | ⟨x, p, h1, h2, h3, h4⟩ | ⟨x, y, p, r, h1, h2, h3, h4, h5, h6⟩
  · exact Or.inl h
  · exact Or.inr (Or.inl ⟨x, p, h1, h2, h3, tm_app h4⟩)
  · exact Or.inr (Or.inr ⟨x, y, p, r, h1, h2, h3, h4, tm_app h5, tm_app h6⟩)
theorem kz.app {T S : tm_T} {Z : List Nat} {K : tm_T} (h : kz T Z K) : kz (T ++ S) Z K := ⟨h.1, fun i t ht => by
  obtain ⟨e, q, h1, h2, h3⟩ := h.2 i t ht
  exact ⟨e, q, tm_app h1, h2, h3⟩⟩
theorem kz.push {T : tm_T} {Z : List Nat} {K : tm_T} {r : Nat} {e q : Nat × Nat × Nat} (h : kz T Z K) (hr : T[r]? = some e) (he : kz_e Z Z.length e q) : kz T (Z ++ [r]) (K ++ [q]) := by
  refine ⟨by simp [h.1], fun i t ht => ?_⟩
  rcases Nat.lt_or_ge i Z.length with hl | hl
  · obtain ⟨e2, q2, h1, h2, h3⟩ := h.2 i t (tm_app' hl ht)
    exact ⟨e2, q2, h1, tm_app h2, h3.app⟩
  · have hz := tm_lt ht
    simp at hz
    have hi : i = Z.length := by omega
    subst hi
    rw [List.getElem?_append_right (Nat.le_refl _), Nat.sub_self] at ht
    cases ht
    exact ⟨e, q, hr, by rw [h.1, List.getElem?_append_right (Nat.le_refl _), Nat.sub_self]; rfl, he.app⟩
theorem kz.take {T S : tm_T} {Z S2 : List Nat} {K : tm_T} {c : Nat} (h : kz (T ++ S) (Z ++ S2) K) (hT : th_wf c T Z) : kz T Z (K.take Z.length) := by
  have hl := h.1
  rw [List.length_append] at hl
  refine ⟨by rw [List.length_take]; omega, fun i t ht => ?_⟩
  have hi := tm_lt ht
  obtain ⟨e, q, h1, h2, h3⟩ := h.2 i t (tm_app ht)
  obtain ⟨e2, g1, -⟩ := hT.2.2 i t ht
  have := tm_app (S := S) g1
  rw [h1] at this
  cases this
  refine ⟨e, q, g1, by rw [List.getElem?_take, if_pos hi]; exact h2, ?_⟩
  rcases h3 with h | ⟨x, p, e1, e2, e3, e4⟩ | ⟨x, y, p, r, e1, e2, e3, e4, e5, e6⟩
  · exact Or.inl h
  · exact Or.inr (Or.inl ⟨x, p, e1, e2, e3, tm_app' (by omega) e4⟩)
  · exact Or.inr (Or.inr ⟨x, y, p, r, e1, e2, e3, e4, tm_app' (by omega) e5, tm_app' (by omega) e6⟩)
theorem kz.fd1 {c : Nat} {T : tm_T} {Z : List Nat} {K : tm_T} (h : kz T Z K) (hT : tm_wf c T) {p b r i : Nat} (hp : Z[p]? = some b) (hr : T[r]? = some (1, b, 0)) (hf : tm_fd K (1, p, 0) = some i) : Z[i]? = some r := by
  have hk := tm_fd_some hf
  have hl := tm_lt hk
  rw [← h.1] at hl
  have hz : Z[i]? = some Z[i] := List.getElem?_eq_getElem hl
  generalize Z[i] = t at hz
  obtain ⟨e, q, h1, h2, h3⟩ := h.2 i t hz
  rw [hk] at h2
  cases h2
  rcases h3 with ⟨x, -, e2⟩ | ⟨x, p', e1, e2, -, e4⟩ | ⟨x, y, p', r', -, e2, -⟩
  · cases e2
  · cases e2
    rw [hp] at e4
    cases e4
    rw [hz, hT.1 t r _ (h1.trans (by rw [e1])) hr]
  · cases e2
theorem kz.no1 {c : Nat} {T : tm_T} {Z : List Nat} {K : tm_T} (h : kz T Z K) (hZ : th_wf c T Z) {p b r : Nat} (hp : Z[p]? = some b) (hr : T[r]? = some (1, b, 0)) (hf : tm_fd K (1, p, 0) = none) : r ∉ Z := by
  intro hm
  obtain ⟨i, -, hi⟩ := th_at hm
  obtain ⟨e, q, h1, h2, h3⟩ := h.2 i r hi
  rw [hr] at h1
  cases h1
  rcases h3 with ⟨x, e1, -⟩ | ⟨x, p', e1, e2, -, e4⟩ | ⟨x, y, p', r', e1, -⟩
  · cases e1
  · cases e1
    have := hZ.1 p' p _ e4 hp
    subst this
    exact tm_fd_none hf i (h2.trans (by rw [e2]))
  · cases e1
theorem kz.fd2 {c : Nat} {T : tm_T} {Z : List Nat} {K : tm_T} (h : kz T Z K) (hT : tm_wf c T) {p p2 b b2 r i : Nat} (hp : Z[p]? = some b) (hp2 : Z[p2]? = some b2) (hr : T[r]? = some (2, b, b2)) (hf : tm_fd K (2, p, p2) = some i) : Z[i]? = some r := by
  have hk := tm_fd_some hf
  have hl := tm_lt hk
  rw [← h.1] at hl
  have hz : Z[i]? = some Z[i] := List.getElem?_eq_getElem hl
  generalize Z[i] = t at hz
  obtain ⟨e, q, h1, h2, h3⟩ := h.2 i t hz
  rw [hk] at h2
  cases h2
  rcases h3 with ⟨x, -, e2⟩ | ⟨x, p', e1, e2, -, e4⟩ | ⟨x, y, p', r', e1, e2, -, -, e5, e6⟩
  · cases e2
  · cases e2
  · cases e2
    rw [hp] at e5
    rw [hp2] at e6
    cases e5; cases e6
    rw [hz, hT.1 t r _ (h1.trans (by rw [e1])) hr]
theorem kz.no2 {c : Nat} {T : tm_T} {Z : List Nat} {K : tm_T} (h : kz T Z K) (hZ : th_wf c T Z) {p p2 b b2 r : Nat} (hp : Z[p]? = some b) (hp2 : Z[p2]? = some b2) (hr : T[r]? = some (2, b, b2)) (hf : tm_fd K (2, p, p2) = none) : r ∉ Z := by
  intro hm
  obtain ⟨i, -, hi⟩ := th_at hm
  obtain ⟨e, q, h1, h2, h3⟩ := h.2 i r hi
  rw [hr] at h1
  cases h1
  rcases h3 with ⟨x, e1, -⟩ | ⟨x, p', e1, -⟩ | ⟨x, y, p', r', e1, e2, -, -, e5, e6⟩
  · cases e1
  · cases e1
  · cases e1
    have h8 := hZ.1 p' p _ e5 hp
    have h9 := hZ.1 r' p2 _ e6 hp2
    subst h8; subst h9
    exact tm_fd_none hf i (h2.trans (by rw [e2]))
def li (x y : Nat) (T : tm_T) (Z : List Nat) (u : Nat) : tm_T × List Nat × Nat := ((tm_in x y 21 T u).1, tm_en (tm_in x y 21 T u).1 ((tm_in x y 21 T u).2 + 1) Z (tm_in x y 21 T u).2, (tm_in x y 21 T u).2)
def enp (Z : List Nat) (r : Nat) : List Nat := if r ∈ Z then Z else Z ++ [r]
theorem enp_in (Z : List Nat) (r : Nat) : r ∈ enp Z r := by
  unfold enp
  by_cases h : r ∈ Z
  · rw [if_pos h]; exact h
  · rw [if_neg h]; simp
theorem enp_ext (Z : List Nat) (r : Nat) : ∃ S, enp Z r = Z ++ S := by
  unfold enp
  by_cases h : r ∈ Z
  · rw [if_pos h]; exact ⟨[], by simp⟩
  · rw [if_neg h]; exact ⟨[r], rfl⟩
section LI
variable {c x y : Nat} {T : tm_T} {Z : List Nat} {u : Nat}
theorem li_of_in {r : Nat} {T' : tm_T} (h : tm_in x y 21 T u = (T', r)) (hr : r ∈ Z) : li x y T Z u = (T', Z, r) := by
  unfold li
  rw [h]
  dsimp only
  rw [tm_en_in hr]
theorem li_is {r : Nat} (hT : tm_wf c T) (h : tm_is x y 21 T u r) (hr : r ∈ Z) : li x y T Z u = (T, Z, r) := li_of_in (tm_is_in hT.1 h) hr
theorem th_c {T : tm_T} (hZ : th_wf c T Z) {z : Nat} (hz : z < c) : z ∈ Z := List.mem_of_getElem? (hZ.2.1 z hz)
theorem li_0 (hZ : th_wf c T Z) (h : T[u]? = some (0, u, 0)) (hu : u < c) : li x y T Z u = (T, Z, u) := li_of_in (by show tm_in x y (20 + 1) T u = _; rw [tm_in, h]; rfl) (th_c hZ hu)
theorem li_3 (hZ : th_wf c T Z) (h : T[u]? = some (3, 0, 0)) (hx : x < c) : li x y T Z u = (T, Z, x) := li_of_in (by show tm_in x y (20 + 1) T u = _; rw [tm_in, h]; rfl) (th_c hZ hx)
theorem li_4 (hZ : th_wf c T Z) (h : T[u]? = some (4, 0, 0)) (hy : y < c) : li x y T Z u = (T, Z, y) := li_of_in (by show tm_in x y (20 + 1) T u = _; rw [tm_in, h]; rfl) (th_c hZ hy)
theorem li_ok (hx : x < c) (hy : y < c) (hT : tm_wf c T) (hZ : th_wf c T Z) (hl : u < T.length) (hu : u < 21) : (∃ S, (li x y T Z u).1 = T ++ S) ∧ (∃ S, (li x y T Z u).2.1 = Z ++ S ∧ ∀ z, z ∈ S → z ≤ (li x y T Z u).2.2) ∧ tm_wf c (li x y T Z u).1 ∧ th_wf c (li x y T Z u).1 (li x y T Z u).2.1 ∧ (li x y T Z u).2.2 ∈ (li x y T Z u).2.1 ∧ tm_is x y 21 (li x y T Z u).1 u (li x y T Z u).2.2 ∧ (li x y T Z u).2.2 < (li x y T Z u).1.length ∧ tm_V (li x y T Z u).1 (li x y T Z u).2.2 = 0 := by
  obtain ⟨⟨S, h1⟩, h2, h3, h4⟩ := tm_in_ok hx hy hT hl hu
  have h5 := tm_in_gr hx hy hT hl hu
  have hZ' : th_wf c (tm_in x y 21 T u).1 Z := by rw [h1]; exact hZ.app
  obtain ⟨g1, g2, g3⟩ := tm_en_ok h2 hZ' h4 (Nat.lt_succ_self _) h5
  exact ⟨⟨S, h1⟩, g1, h2, g2, g3, h3, h4, h5⟩
theorem li_1 (hx : x < c) (hy : y < c) (hT : tm_wf c T) (hZ : th_wf c T Z) (hu : u < 20) {p : Nat} (h : T[u]? = some (1, p, 0)) : li x y T Z u = ((tm_mk (li x y T Z p).1 (1, (li x y T Z p).2.2, 0)).1, enp (li x y T Z p).2.1 (tm_mk (li x y T Z p).1 (1, (li x y T Z p).2.2, 0)).2, (tm_mk (li x y T Z p).1 (1, (li x y T Z p).2.2, 0)).2) := by
  have hl := tm_lt h
  have hpu : p < u := by
    rcases hT.2.2 u _ h with ⟨e, -⟩ | ⟨a', e, h⟩ | ⟨a', b', e, -⟩ | e | e
    · cases e
    · cases e; exact h
    · cases e
    · cases e
    · cases e
  have e1 : tm_in x y 21 T u = tm_mk (tm_in x y 21 T p).1 (1, (tm_in x y 21 T p).2, 0) := by
    rw [← tm_in_fu hx hy hT (show p < T.length by omega) (show p < 20 by omega) (show p < 21 by omega)]
    show tm_in x y (20 + 1) T u = _
    rw [tm_in, h]
    rfl
  obtain ⟨⟨S, h1⟩, ⟨S2, h2, h2'⟩, h3, h4, h5, h6, h7, h8⟩ := li_ok (Z := Z) hx hy hT hZ (show p < T.length by omega) (show p < 21 by omega)
  have hli : li x y T Z u = ((tm_mk (tm_in x y 21 T p).1 (1, (tm_in x y 21 T p).2, 0)).1, tm_en (tm_mk (tm_in x y 21 T p).1 (1, (tm_in x y 21 T p).2, 0)).1 ((tm_mk (tm_in x y 21 T p).1 (1, (tm_in x y 21 T p).2, 0)).2 + 1) Z (tm_mk (tm_in x y 21 T p).1 (1, (tm_in x y 21 T p).2, 0)).2, (tm_mk (tm_in x y 21 T p).1 (1, (tm_in x y 21 T p).2, 0)).2) := by
    conv => lhs; unfold li
    rw [e1]
  rw [hli]
  have a1 : (li x y T Z p).1 = (tm_in x y 21 T p).1 := rfl
  have a2 : (li x y T Z p).2.2 = (tm_in x y 21 T p).2 := rfl
  have a3 : (li x y T Z p).2.1 = tm_en (tm_in x y 21 T p).1 ((tm_in x y 21 T p).2 + 1) Z (tm_in x y 21 T p).2 := rfl
  rw [a1, a2, a3]
  rw [a1] at h1 h3 h4 h6 h7 h8
  rw [a2] at h2' h5 h6 h7 h8
  rw [a3] at h2 h4 h5
  generalize tm_in x y 21 T p = R at *
  obtain ⟨T1, r1⟩ := R
  dsimp only at *
  have hw := tm_mk_wf h3 (e := (1, r1, 0)) (Or.inr (Or.inl ⟨r1, rfl, h7⟩))
  have hg := tm_mk_get T1 (1, r1, 0)
  obtain ⟨S3, h9, -⟩ := tm_mk_ext T1 (1, r1, 0)
  generalize tm_mk T1 (1, r1, 0) = R at *
  obtain ⟨T3, r⟩ := R
  dsimp only at *
  have hZ3 : th_wf c T3 Z := by rw [h9, h1]; exact hZ.app.app
  have hr1 : r1 < r := by
    rcases hw.2.2 r _ hg with ⟨e, -⟩ | ⟨a', e, h⟩ | ⟨a', b', e, -⟩ | e | e
    · cases e
    · cases e; exact h
    · cases e
    · cases e
    · cases e
  have hen : tm_en T3 (r + 1) Z r1 = tm_en T1 (r1 + 1) Z r1 := by
    rw [tm_en_fu hw (show r1 < r + 1 by omega) (show r1 < r1 + 1 by omega), h9, tm_en_app h3 h7]
  rw [tm_en1 hw hZ3 hg (Nat.lt_succ_self _), hen]
  have hm : r ∈ Z ↔ r ∈ tm_en T1 (r1 + 1) Z r1 := by
    rw [h2]
    constructor
    · exact List.mem_append_left _
    · intro h
      rcases List.mem_append.mp h with h | h
      · exact h
      · have := h2' r h; omega
  unfold enp
  by_cases h0 : r ∈ Z
  · rw [if_pos h0, if_pos (hm.mp h0)]
  · rw [if_neg h0, if_neg (fun h => h0 (hm.mpr h))]
theorem li_2 (hx : x < c) (hy : y < c) (hT : tm_wf c T) (hZ : th_wf c T Z) (hu : u < 20) {p q : Nat} (h : T[u]? = some (2, p, q)) {T1 T2 : tm_T} {Z1 Z2 : List Nat} {r1 r2 : Nat} (hp : li x y T Z p = (T1, Z1, r1)) (hq : li x y T1 Z1 q = (T2, Z2, r2)) : li x y T Z u = ((tm_mk T2 (2, r1, r2)).1, enp Z2 (tm_mk T2 (2, r1, r2)).2, (tm_mk T2 (2, r1, r2)).2) := by
  have hl := tm_lt h
  have hpu : p < u ∧ q < u := by
    rcases hT.2.2 u _ h with ⟨e, -⟩ | ⟨a', e, h⟩ | ⟨a', b', e, h⟩ | e | e
    · cases e
    · cases e
    · cases e; exact h
    · cases e
    · cases e
  obtain ⟨⟨S, h1⟩, ⟨S2, h2, h2'⟩, h3, h4, h5, h6, h7, h8⟩ := li_ok (Z := Z) hx hy hT hZ (show p < T.length by omega) (show p < 21 by omega)
  rw [hp] at h1 h2 h2' h3 h4 h5 h6 h7 h8
  dsimp only at *
  have hl1 : q < T1.length := by rw [h1, List.length_append]; omega
  obtain ⟨⟨S4, g1⟩, ⟨S5, g2, g2'⟩, g3, g4, g5, g6, g7, g8⟩ := li_ok (Z := Z1) hx hy h3 h4 hl1 (show q < 21 by omega)
  rw [hq] at g1 g2 g2' g3 g4 g5 g6 g7 g8
  dsimp only at *
  have i1 : tm_in x y 21 T p = (T1, r1) := by
    have := congrArg (fun z => (z.1, z.2.2)) hp
    exact this
  have i2 : tm_in x y 21 T1 q = (T2, r2) := by
    have := congrArg (fun z => (z.1, z.2.2)) hq
    exact this
  have z1 : tm_en T1 (r1 + 1) Z r1 = Z1 := by
    have := congrArg (fun z => z.2.1) hp
    unfold li at this
    rw [i1] at this
    exact this
  have z2 : tm_en T2 (r2 + 1) Z1 r2 = Z2 := by
    have := congrArg (fun z => z.2.1) hq
    unfold li at this
    rw [i2] at this
    exact this
  have e1 : tm_in x y 21 T u = tm_mk T2 (2, r1, r2) := by
    have j1 : tm_in x y 20 T p = (T1, r1) := (tm_in_fu hx hy hT (show p < T.length by omega) (show p < 20 by omega) (show p < 21 by omega)).trans i1
    have j2 : tm_in x y 20 T1 q = (T2, r2) := (tm_in_fu hx hy h3 hl1 (show q < 20 by omega) (show q < 21 by omega)).trans i2
    show tm_in x y (20 + 1) T u = _
    rw [tm_in, h]
    show tm_mk (tm_in x y 20 (tm_in x y 20 T p).1 q).1 (2, (tm_in x y 20 T p).2, (tm_in x y 20 (tm_in x y 20 T p).1 q).2) = _
    simp only [j1, j2]
  unfold li
  rw [e1]
  have hr1 : r1 < T2.length := by rw [g1, List.length_append]; omega
  have hw := tm_mk_wf g3 (e := (2, r1, r2)) (Or.inr (Or.inr (Or.inl ⟨r1, r2, rfl, hr1, g7⟩)))
  have hg := tm_mk_get T2 (2, r1, r2)
  obtain ⟨S3, h9, -⟩ := tm_mk_ext T2 (2, r1, r2)
  generalize tm_mk T2 (2, r1, r2) = R at *
  obtain ⟨T3, r⟩ := R
  dsimp only at *
  have hZ3 : th_wf c T3 Z := by rw [h9, g1, h1]; exact hZ.app.app.app
  have hr : r1 < r ∧ r2 < r := by
    rcases hw.2.2 r _ hg with ⟨e, -⟩ | ⟨a', e, h⟩ | ⟨a', b', e, h⟩ | e | e
    · cases e
    · cases e
    · cases e; exact h
    · cases e
    · cases e
  have hen : tm_en T3 (r + 1) Z r1 = Z1 := by
    rw [tm_en_fu hw (show r1 < r + 1 by omega) (show r1 < r1 + 1 by omega), h9, g1, List.append_assoc, tm_en_app h3 h7, z1]
  have hen2 : tm_en T3 (r + 1) Z1 r2 = Z2 := by
    rw [tm_en_fu hw (show r2 < r + 1 by omega) (show r2 < r2 + 1 by omega), h9, tm_en_app g3 g7, z2]
  rw [tm_en2 hw hZ3 hg (Nat.lt_succ_self _), hen, hen2]
  have hm : r ∈ Z ↔ r ∈ Z2 := by
    rw [g2, h2]
    constructor
    · exact fun h => List.mem_append_left _ (List.mem_append_left _ h)
    · intro h
      rcases List.mem_append.mp h with h | h
      · rcases List.mem_append.mp h with h | h
        · exact h
        · have := h2' r h; omega
      · have := g2' r h; omega
  unfold enp
  by_cases h0 : r ∈ Z
  · rw [if_pos h0, if_pos (hm.mp h0)]
  · rw [if_neg h0, if_neg (fun h => h0 (hm.mpr h))]
end LI
