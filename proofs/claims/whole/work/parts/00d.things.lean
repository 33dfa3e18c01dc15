def tm_vf (T : tm_T) : Nat → Nat → Nat
  | 0, _ => 0
  | f + 1, i => match T[i]? with
    | some (1, a, _) => tm_vf T f a
    | some (2, a, b) => tm_vf T f a ||| tm_vf T f b
    | some (3, _, _) => 1
    | some (4, _, _) => 2
    | _ => 0
def tm_V (T : tm_T) (i : Nat) : Nat := tm_vf T (i + 1) i
theorem tm_vf_fu {c : Nat} {T : tm_T} (hT : tm_wf c T) : ∀ {f g i : Nat}, i < f → i < g → tm_vf T f i = tm_vf T g i := by
  intro f
  induction f with
  | zero => intro g i h; omega
  | succ f ih =>
    intro g i hf hg
    cases g with
    | zero => omega
    | succ g =>
      rw [tm_vf, tm_vf]
      cases hi : T[i]? with
      | none => rfl
      | some q =>
        have hk := hT.2.2 i q hi
        obtain ⟨k, a, b⟩ := q
        rcases hk with ⟨e, -⟩ | ⟨a', e, ha⟩ | ⟨a', b', e, ha, hb⟩ | e | e
        · cases e; rfl
        · cases e
          exact ih (by omega) (by omega)
        · cases e
          show tm_vf T f a ||| tm_vf T f b = tm_vf T g a ||| tm_vf T g b
          rw [ih (show a < f by omega) (show a < g by omega), ih (show b < f by omega) (show b < g by omega)]
        · cases e; rfl
        · cases e; rfl
theorem tm_V_vs {c : Nat} {T : tm_T} (hT : tm_wf c T) : tm_vs T (tm_V T) := by
  intro i q hi
  have hk := hT.2.2 i q hi
  unfold tm_V
  rw [tm_vf, hi]
  obtain ⟨k, a, b⟩ := q
  rcases hk with ⟨e, -⟩ | ⟨a', e, ha⟩ | ⟨a', b', e, ha, hb⟩ | e | e
  · cases e; rfl
  · cases e
    exact tm_vf_fu hT (by omega) (by omega)
  · cases e
    show tm_vf T i a ||| tm_vf T i b = tm_vf T (a + 1) a ||| tm_vf T (b + 1) b
    rw [tm_vf_fu hT (show a < i by omega) (show a < a + 1 by omega), tm_vf_fu hT (show b < i by omega) (show b < b + 1 by omega)]
  · cases e; rfl
  · cases e; rfl
theorem tm_vf_app {c : Nat} {T S : tm_T} (hT : tm_wf c T) : ∀ {f i : Nat}, i < T.length → tm_vf (T ++ S) f i = tm_vf T f i := by
  intro f
  induction f with
  | zero => intro i _; rfl
  | succ f ih =>
    intro i hl
    rw [tm_vf, tm_vf, List.getElem?_append_left hl]
    have hg : T[i]? = some T[i] := List.getElem?_eq_getElem hl
    generalize T[i] = q at hg
    rw [hg]
    have hk := hT.2.2 i q hg
    obtain ⟨k, a, b⟩ := q
    rcases hk with ⟨e, -⟩ | ⟨a', e, ha⟩ | ⟨a', b', e, ha, hb⟩ | e | e
    · cases e; rfl
    · cases e
      exact ih (by omega)
    · cases e
      show tm_vf (T ++ S) f a ||| tm_vf (T ++ S) f b = tm_vf T f a ||| tm_vf T f b
      rw [ih (show a < T.length by omega), ih (show b < T.length by omega)]
    · cases e; rfl
    · cases e; rfl
theorem tm_V_app {c : Nat} {T S : tm_T} (hT : tm_wf c T) {i : Nat} (hl : i < T.length) : tm_V (T ++ S) i = tm_V T i := tm_vf_app hT hl
theorem tm_mk_V {c : Nat} {T : tm_T} {e : Nat × Nat × Nat} (hT : tm_wf c T) (he : tm_kd c T.length e) : tm_V (tm_mk T e).1 (tm_mk T e).2 = tm_vk (tm_V (tm_mk T e).1) e := tm_V_vs (tm_mk_wf hT he) _ _ (tm_mk_get T e)
theorem tm_in_gr {c x y : Nat} (hx : x < c) (hy : y < c) : ∀ {f : Nat} {T : tm_T} {u : Nat}, tm_wf c T → u < T.length → u < f → tm_V (tm_in x y f T u).1 (tm_in x y f T u).2 = 0 := by
  intro f
  induction f with
  | zero => intro T u _ _ h; omega
  | succ f ih =>
    intro T u hT hl hf
    have hcz : ∀ z, z < c → tm_V T z = 0 := by
      intro z hz
      have := tm_V_vs hT z _ (hT.2.1 z hz)
      rw [this]; rfl
    have hg : T[u]? = some T[u] := List.getElem?_eq_getElem hl
    generalize T[u] = q at hg
    have hk := hT.2.2 u q hg
    obtain ⟨k, a, b⟩ := q
    rcases hk with ⟨e, hu⟩ | ⟨a', e, ha⟩ | ⟨a', b', e, ha, hb⟩ | e | e
    · cases e
      have e1 : tm_in x y (f + 1) T u = (T, u) := by simp only [tm_in, hg]
      rw [e1]
      exact hcz u hu
    · cases e
      obtain ⟨⟨S, h1⟩, h2, h3, h4⟩ := tm_in_ok hx hy hT (show a < T.length by omega) (show a < f by omega)
      have h0 := ih hT (show a < T.length by omega) (show a < f by omega)
      have e1 : tm_in x y (f + 1) T u = tm_mk (tm_in x y f T a).1 (1, (tm_in x y f T a).2, 0) := by simp only [tm_in, hg]
      rw [e1]
      generalize hr : tm_in x y f T a = r at h0 h1 h2 h3 h4
      obtain ⟨T1, r1⟩ := r
      simp only at h0 h1 h2 h3 h4 ⊢
      rw [tm_mk_V h2 (Or.inr (Or.inl ⟨r1, rfl, h4⟩))]
      obtain ⟨S2, h5, -⟩ := tm_mk_ext T1 (1, r1, 0)
      show tm_V (tm_mk T1 (1, r1, 0)).1 r1 = 0
      rw [h5, tm_V_app h2 h4]
      exact h0
    · cases e
      obtain ⟨⟨S, h1⟩, h2, h3, h4⟩ := tm_in_ok hx hy hT (show a < T.length by omega) (show a < f by omega)
      have h0 := ih hT (show a < T.length by omega) (show a < f by omega)
      have e1 : tm_in x y (f + 1) T u = tm_mk (tm_in x y f (tm_in x y f T a).1 b).1 (2, (tm_in x y f T a).2, (tm_in x y f (tm_in x y f T a).1 b).2) := by simp only [tm_in, hg]
      rw [e1]
      generalize hr : tm_in x y f T a = r at h0 h1 h2 h3 h4
      obtain ⟨T1, r1⟩ := r
      simp only at h0 h1 h2 h3 h4 ⊢
      have hbl : b < T1.length := by rw [h1, List.length_append]; omega
      obtain ⟨⟨S3, g1⟩, g2, g3, g4⟩ := tm_in_ok hx hy h2 hbl (show b < f by omega)
      have g0 := ih h2 hbl (show b < f by omega)
      generalize hr2 : tm_in x y f T1 b = r' at g0 g1 g2 g3 g4
      obtain ⟨T2, r2⟩ := r'
      simp only at g0 g1 g2 g3 g4 ⊢
      have hr1 : r1 < T2.length := by rw [g1, List.length_append]; omega
      rw [tm_mk_V g2 (Or.inr (Or.inr (Or.inl ⟨r1, r2, rfl, hr1, g4⟩)))]
      obtain ⟨S2, h5, -⟩ := tm_mk_ext T2 (2, r1, r2)
      show tm_V (tm_mk T2 (2, r1, r2)).1 r1 ||| tm_V (tm_mk T2 (2, r1, r2)).1 r2 = 0
      rw [h5, tm_V_app g2 hr1, tm_V_app g2 g4, g0, g1, tm_V_app h2 h4, h0]
      rfl
    · cases e
      have e1 : tm_in x y (f + 1) T u = (T, x) := by simp only [tm_in, hg]
      rw [e1]
      exact hcz x hx
    · cases e
      have e1 : tm_in x y (f + 1) T u = (T, y) := by simp only [tm_in, hg]
      rw [e1]
      exact hcz y hy
def th_cl (Z : List Nat) (i : Nat) (e : Nat × Nat × Nat) : Prop := (∃ a b, e = (0, a, b)) ∨ (∃ a, e = (1, a, 0) ∧ ∃ j : Nat, j < i ∧ Z[j]? = some a) ∨ (∃ a b, e = (2, a, b) ∧ (∃ j : Nat, j < i ∧ Z[j]? = some a) ∧ ∃ j : Nat, j < i ∧ Z[j]? = some b)
def th_wf (c : Nat) (T : tm_T) (Z : List Nat) : Prop := (∀ i j t : Nat, Z[i]? = some t → Z[j]? = some t → i = j) ∧ (∀ i : Nat, i < c → Z[i]? = some i) ∧ ∀ i t : Nat, Z[i]? = some t → ∃ e, T[t]? = some e ∧ th_cl Z i e
def tm_en (T : tm_T) : Nat → List Nat → Nat → List Nat
  | 0, Z, _ => Z
  | f + 1, Z, t => if t ∈ Z then Z else match T[t]? with
    | some (1, a, _) => tm_en T f Z a ++ [t]
    | some (2, a, b) => tm_en T f (tm_en T f Z a) b ++ [t]
    | _ => Z ++ [t]
theorem tm_en_in {T : tm_T} {f : Nat} {Z : List Nat} {t : Nat} (h : t ∈ Z) : tm_en T f Z t = Z := by
  cases f with
  | zero => rfl
  | succ f => rw [tm_en, if_pos h]
theorem tm_en_app {c : Nat} {T S : tm_T} (hT : tm_wf c T) : ∀ {f : Nat} {Z : List Nat} {t : Nat}, t < T.length → tm_en (T ++ S) f Z t = tm_en T f Z t := by
  intro f
  induction f with
  | zero => intro Z t _; rfl
  | succ f ih =>
    intro Z t hl
    by_cases hm : t ∈ Z
    · rw [tm_en_in hm, tm_en_in hm]
    rw [tm_en, tm_en, if_neg hm, if_neg hm, List.getElem?_append_left hl]
    have hg : T[t]? = some T[t] := List.getElem?_eq_getElem hl
    generalize T[t] = q at hg
    rw [hg]
    have hk := hT.2.2 t q hg
    obtain ⟨k, a, b⟩ := q
    rcases hk with ⟨e, -⟩ | ⟨a', e, ha⟩ | ⟨a', b', e, ha, hb⟩ | e | e
    · cases e; rfl
    · cases e
      show tm_en (T ++ S) f Z a ++ [t] = tm_en T f Z a ++ [t]
      rw [ih (show a < T.length by omega)]
    · cases e
      show tm_en (T ++ S) f (tm_en (T ++ S) f Z a) b ++ [t] = tm_en T f (tm_en T f Z a) b ++ [t]
      rw [ih (show a < T.length by omega), ih (show b < T.length by omega)]
    · cases e; rfl
    · cases e; rfl
theorem tm_en_fu {c : Nat} {T : tm_T} (hT : tm_wf c T) : ∀ {f g : Nat} {Z : List Nat} {t : Nat}, t < f → t < g → tm_en T f Z t = tm_en T g Z t := by
  intro f
  induction f with
  | zero => intro g Z t h; omega
  | succ f ih =>
    intro g Z t hf hg
    cases g with
    | zero => omega
    | succ g =>
      by_cases hm : t ∈ Z
      · rw [tm_en_in hm, tm_en_in hm]
      rw [tm_en, tm_en, if_neg hm, if_neg hm]
      cases hi : T[t]? with
      | none => rfl
      | some q =>
        have hk := hT.2.2 t q hi
        obtain ⟨k, a, b⟩ := q
        rcases hk with ⟨e, -⟩ | ⟨a', e, ha⟩ | ⟨a', b', e, ha, hb⟩ | e | e
        · cases e; rfl
        · cases e
          show tm_en T f Z a ++ [t] = tm_en T g Z a ++ [t]
          rw [ih (show a < f by omega) (show a < g by omega)]
        · cases e
          show tm_en T f (tm_en T f Z a) b ++ [t] = tm_en T g (tm_en T g Z a) b ++ [t]
          rw [ih (show a < f by omega) (show a < g by omega), ih (show b < f by omega) (show b < g by omega)]
        · cases e; rfl
        · cases e; rfl
theorem th_push {c : Nat} {T : tm_T} {Z : List Nat} {t : Nat} {e : Nat × Nat × Nat} (hZ : th_wf c T Z) (hn : t ∉ Z) (ht : T[t]? = some e) (he : th_cl Z Z.length e) : th_wf c T (Z ++ [t]) := by
  have key : ∀ i q : Nat, (Z ++ [t])[i]? = some q → (i < Z.length ∧ Z[i]? = some q) ∨ (i = Z.length ∧ q = t) := by
    intro i q hq
    rcases Nat.lt_or_ge i Z.length with hl | hl
    · exact Or.inl ⟨hl, tm_app' hl hq⟩
    · rw [List.getElem?_append_right hl] at hq
      have hz := tm_lt hq
      simp at hz
      have : i - Z.length = 0 := by omega
      rw [this] at hq
      simp at hq
      exact Or.inr ⟨by omega, hq.symm⟩
  have up : ∀ i e, th_cl Z i e → th_cl (Z ++ [t]) i e := by
    intro i e h
    rcases h with h | ⟨a, h1, j, h2, h3⟩ | ⟨a, b, h1, ⟨j, h2, h3⟩, j2, h4, h5⟩
    · exact Or.inl h
    · exact Or.inr (Or.inl ⟨a, h1, j, h2, tm_app h3⟩)
    · exact Or.inr (Or.inr ⟨a, b, h1, ⟨j, h2, tm_app h3⟩, j2, h4, tm_app h5⟩)
  refine ⟨fun i j q hi hj => ?_, fun i hi => tm_app (hZ.2.1 i hi), fun i q hq => ?_⟩
  · rcases key i q hi with ⟨l1, h1⟩ | ⟨l1, h1⟩ <;> rcases key j q hj with ⟨l2, h2⟩ | ⟨l2, h2⟩
    · exact hZ.1 i j q h1 h2
    · rw [h2] at h1; exact absurd (List.mem_of_getElem? h1) hn
    · rw [h1] at h2; exact absurd (List.mem_of_getElem? h2) hn
    · omega
  · rcases key i q hq with ⟨l1, h1⟩ | ⟨l1, h1⟩
    · obtain ⟨e2, g1, g2⟩ := hZ.2.2 i q h1
      exact ⟨e2, g1, up i e2 g2⟩
    · rw [h1, l1]
      exact ⟨e, ht, up _ e he⟩
theorem th_at {Z : List Nat} {t : Nat} (h : t ∈ Z) : ∃ j : Nat, j < Z.length ∧ Z[j]? = some t := by
  obtain ⟨j, hj⟩ := List.getElem?_of_mem h
  exact ⟨j, tm_lt hj, hj⟩
theorem tm_en_ok {c : Nat} {T : tm_T} (hT : tm_wf c T) : ∀ {f : Nat} {Z : List Nat} {t : Nat}, th_wf c T Z → t < T.length → t < f → tm_V T t = 0 → (∃ S, tm_en T f Z t = Z ++ S ∧ ∀ z, z ∈ S → z ≤ t) ∧ th_wf c T (tm_en T f Z t) ∧ t ∈ tm_en T f Z t := by
  intro f
  induction f with
  | zero => intro Z t _ _ h; omega
  | succ f ih =>
    intro Z t hZ hl hf hv
    by_cases hm : t ∈ Z
    · rw [tm_en_in hm]
      exact ⟨⟨[], by simp, by simp⟩, hZ, hm⟩
    have hg : T[t]? = some T[t] := List.getElem?_eq_getElem hl
    generalize T[t] = q at hg
    have hk := hT.2.2 t q hg
    have hvs := tm_V_vs hT t q hg
    rw [hv] at hvs
    rw [tm_en, if_neg hm, hg]
    obtain ⟨k, a, b⟩ := q
    rcases hk with ⟨e, -⟩ | ⟨a', e, ha⟩ | ⟨a', b', e, ha, hb⟩ | e | e
    · cases e
      exact ⟨⟨[t], rfl, by simp⟩, th_push hZ hm hg (Or.inl ⟨_, _, rfl⟩), by simp⟩
    · cases e
      have hva : tm_V T a = 0 := hvs.symm
      obtain ⟨⟨S, h1, h2⟩, h3, h4⟩ := ih hZ (show a < T.length by omega) (by omega) hva
      have hm1 : t ∉ tm_en T f Z a := by
        rw [h1]
        intro h
        rcases List.mem_append.mp h with h | h
        · exact hm h
        · have := h2 t h; omega
      refine ⟨⟨S ++ [t], ?_, ?_⟩, ?_, ?_⟩
      · show tm_en T f Z a ++ [t] = _
        rw [h1, List.append_assoc]
      · intro z hz
        rcases List.mem_append.mp hz with hz | hz
        · have := h2 z hz; omega
        · rw [List.mem_singleton.mp hz]; exact Nat.le_refl _
      · exact th_push h3 hm1 hg (Or.inr (Or.inl ⟨a, rfl, th_at h4⟩))
      · show t ∈ tm_en T f Z a ++ [t]
        simp
    · cases e
      obtain ⟨hva, hvb⟩ := Nat.or_eq_zero_iff.mp hvs.symm
      obtain ⟨⟨S, h1, h2⟩, h3, h4⟩ := ih hZ (show a < T.length by omega) (by omega) hva
      obtain ⟨⟨S2, g1, g2⟩, g3, g4⟩ := ih h3 (show b < T.length by omega) (by omega) hvb
      have hm1 : t ∉ tm_en T f (tm_en T f Z a) b := by
        rw [g1, h1]
        intro h
        rcases List.mem_append.mp h with h | h
        · rcases List.mem_append.mp h with h | h
          · exact hm h
          · have := h2 t h; omega
        · have := g2 t h; omega
      have ha4 : a ∈ tm_en T f (tm_en T f Z a) b := by rw [g1]; exact List.mem_append_left _ h4
      refine ⟨⟨S ++ (S2 ++ [t]), ?_, ?_⟩, ?_, ?_⟩
      · show tm_en T f (tm_en T f Z a) b ++ [t] = _
        rw [g1, h1, List.append_assoc, List.append_assoc]
      · intro z hz
        rcases List.mem_append.mp hz with hz | hz
        · have := h2 z hz; omega
        · rcases List.mem_append.mp hz with hz | hz
          · have := g2 z hz; omega
          · rw [List.mem_singleton.mp hz]; exact Nat.le_refl _
      · exact th_push g3 hm1 hg (Or.inr (Or.inr ⟨a, b, rfl, th_at ha4, th_at g4⟩))
      · show t ∈ tm_en T f (tm_en T f Z a) b ++ [t]
        simp
    · cases e
      exact absurd hvs (by simp [tm_vk])
    · cases e
      exact absurd hvs (by simp [tm_vk])
theorem th_wf.app {c : Nat} {T S : tm_T} {Z : List Nat} (h : th_wf c T Z) : th_wf c (T ++ S) Z := ⟨h.1, h.2.1, fun i t ht => by
  obtain ⟨e, h1, h2⟩ := h.2.2 i t ht
  exact ⟨e, tm_app h1, h2⟩⟩
theorem th_down1 {c : Nat} {T : tm_T} {Z : List Nat} (hZ : th_wf c T Z) {r a : Nat} (hr : T[r]? = some (1, a, 0)) (h : r ∈ Z) : a ∈ Z := by
  obtain ⟨j, -, hj⟩ := th_at h
  obtain ⟨e, h1, h2⟩ := hZ.2.2 j r hj
  cases h1.symm.trans hr
  rcases h2 with ⟨a', b', e⟩ | ⟨a', e, j2, -, h4⟩ | ⟨a', b', e, -⟩
  · cases e
  · cases e
    exact List.mem_of_getElem? h4
  · cases e
theorem th_down2 {c : Nat} {T : tm_T} {Z : List Nat} (hZ : th_wf c T Z) {r a b : Nat} (hr : T[r]? = some (2, a, b)) (h : r ∈ Z) : a ∈ Z ∧ b ∈ Z := by
  obtain ⟨j, -, hj⟩ := th_at h
  obtain ⟨e, h1, h2⟩ := hZ.2.2 j r hj
  cases h1.symm.trans hr
  rcases h2 with ⟨a', b', e⟩ | ⟨a', e, -⟩ | ⟨a', b', e, ⟨j2, -, h4⟩, j3, -, h5⟩
  · cases e
  · cases e
  · cases e
    exact ⟨List.mem_of_getElem? h4, List.mem_of_getElem? h5⟩
theorem tm_en1 {c : Nat} {T : tm_T} {Z : List Nat} (hT : tm_wf c T) (hZ : th_wf c T Z) {f r a : Nat} (hr : T[r]? = some (1, a, 0)) (hf : r < f) : tm_en T f Z r = if r ∈ Z then tm_en T f Z a else tm_en T f Z a ++ [r] := by
  cases f with
  | zero => omega
  | succ f =>
    have ha : a < r := by
      rcases hT.2.2 r _ hr with ⟨e, -⟩ | ⟨a', e, h⟩ | ⟨a', b', e, -⟩ | e | e
      · cases e
      · cases e; exact h
      · cases e
      · cases e
      · cases e
    by_cases hm : r ∈ Z
    · rw [if_pos hm, tm_en_in hm, tm_en_in (th_down1 hZ hr hm)]
    · rw [if_neg hm]
      have e1 : tm_en T (f + 1) Z r = tm_en T f Z a ++ [r] := by rw [tm_en, if_neg hm, hr]; rfl
      rw [e1, tm_en_fu hT (show a < f by omega) (show a < f + 1 by omega)]
theorem tm_en2 {c : Nat} {T : tm_T} {Z : List Nat} (hT : tm_wf c T) (hZ : th_wf c T Z) {f r a b : Nat} (hr : T[r]? = some (2, a, b)) (hf : r < f) : tm_en T f Z r = if r ∈ Z then tm_en T f (tm_en T f Z a) b else tm_en T f (tm_en T f Z a) b ++ [r] := by
  cases f with
  | zero => omega
  | succ f =>
    have ha : a < r ∧ b < r := by
      rcases hT.2.2 r _ hr with ⟨e, -⟩ | ⟨a', e, h⟩ | ⟨a', b', e, h⟩ | e | e
      · cases e
      · cases e
      · cases e; exact h
      · cases e
      · cases e
    by_cases hm : r ∈ Z
    · obtain ⟨h1, h2⟩ := th_down2 hZ hr hm
      rw [if_pos hm, tm_en_in hm, tm_en_in h1, tm_en_in h2]
    · rw [if_neg hm]
      have e1 : tm_en T (f + 1) Z r = tm_en T f (tm_en T f Z a) b ++ [r] := by rw [tm_en, if_neg hm, hr]; rfl
      rw [e1, tm_en_fu hT (show a < f by omega) (show a < f + 1 by omega), tm_en_fu hT (show b < f by omega) (show b < f + 1 by omega)]
