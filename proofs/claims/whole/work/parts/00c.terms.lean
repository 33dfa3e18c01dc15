abbrev tm_T : Type := List (Nat × Nat × Nat)
def tm_fd : tm_T → Nat × Nat × Nat → Option Nat
  | [], _ => none
  | x :: r, e => if x = e then some 0 else (tm_fd r e).map (· + 1)
theorem tm_fd_some : ∀ {T : tm_T} {e : Nat × Nat × Nat} {i : Nat}, tm_fd T e = some i → T[i]? = some e := by
  intro T
  induction T with
  | nil => intro e i h; cases h
  | cons x r ih =>
    intro e i h
    rw [tm_fd] at h
    by_cases hx : x = e
    · rw [if_pos hx] at h
      cases h
      rw [hx]; rfl
    · rw [if_neg hx] at h
      cases hr : tm_fd r e with
      | none => rw [hr] at h; cases h
      | some j =>
        rw [hr] at h
        cases h
        exact ih hr
theorem tm_fd_none : ∀ {T : tm_T} {e : Nat × Nat × Nat}, tm_fd T e = none → ∀ i : Nat, T[i]? ≠ some e := by
  intro T
  induction T with
  | nil => intro e h i; simp
  | cons x r ih =>
    intro e h i
    rw [tm_fd] at h
    by_cases hx : x = e
    · rw [if_pos hx] at h; cases h
    · rw [if_neg hx] at h
      cases hr : tm_fd r e with
      | some j => rw [hr] at h; cases h
      | none =>
        cases i with
        | zero => simpa using hx
        | succ i => simpa using ih hr i
theorem tm_lt {α : Type} {T : List α} {i : Nat} {e : α} (h : T[i]? = some e) : i < T.length := (List.getElem?_eq_some_iff.mp h).1
theorem tm_app {α : Type} {T S : List α} {i : Nat} {e : α} (h : T[i]? = some e) : (T ++ S)[i]? = some e := by
  rw [List.getElem?_append_left (tm_lt h)]; exact h
theorem tm_app' {α : Type} {T S : List α} {i : Nat} {e : α} (hi : i < T.length) (h : (T ++ S)[i]? = some e) : T[i]? = some e := by
  rw [List.getElem?_append_left hi] at h; exact h
def tm_un (T : tm_T) : Prop := ∀ (i j : Nat) (e : Nat × Nat × Nat), T[i]? = some e → T[j]? = some e → i = j
theorem tm_fd_at {T : tm_T} {e : Nat × Nat × Nat} {i : Nat} (hu : tm_un T) (h : T[i]? = some e) : tm_fd T e = some i := by
  cases hf : tm_fd T e with
  | none => exact absurd h (tm_fd_none hf i)
  | some j => rw [hu j i e (tm_fd_some hf) h]
def tm_kd (c i : Nat) (e : Nat × Nat × Nat) : Prop := (e = (0, i, 0) ∧ i < c) ∨ (∃ a, e = (1, a, 0) ∧ a < i) ∨ (∃ a b, e = (2, a, b) ∧ a < i ∧ b < i) ∨ e = (3, 0, 0) ∨ e = (4, 0, 0)
def tm_wf (c : Nat) (T : tm_T) : Prop := tm_un T ∧ (∀ i : Nat, i < c → T[i]? = some (0, i, 0)) ∧ ∀ (i : Nat) (e : Nat × Nat × Nat), T[i]? = some e → tm_kd c i e
def tm_mk (T : tm_T) (e : Nat × Nat × Nat) : tm_T × Nat := match tm_fd T e with
  | some i => (T, i)
  | none => (T ++ [e], T.length)
theorem tm_mk_at {T : tm_T} {e : Nat × Nat × Nat} {i : Nat} (hu : tm_un T) (h : T[i]? = some e) : tm_mk T e = (T, i) := by
  unfold tm_mk
  rw [tm_fd_at hu h]
theorem tm_mk_new {T : tm_T} {e : Nat × Nat × Nat} (h : tm_fd T e = none) : tm_mk T e = (T ++ [e], T.length) := by
  unfold tm_mk
  rw [h]
theorem tm_mk_get (T : tm_T) (e : Nat × Nat × Nat) : (tm_mk T e).1[(tm_mk T e).2]? = some e := by
  cases h : tm_fd T e with
  | some i =>
    have : tm_mk T e = (T, i) := by unfold tm_mk; rw [h]
    rw [this]
    exact tm_fd_some h
  | none => rw [tm_mk_new h]; simp
theorem tm_mk_ext (T : tm_T) (e : Nat × Nat × Nat) : ∃ S, (tm_mk T e).1 = T ++ S ∧ S.length ≤ 1 := by
  cases h : tm_fd T e with
  | some i =>
    have : tm_mk T e = (T, i) := by unfold tm_mk; rw [h]
    exact ⟨[], by rw [this]; simp, by simp⟩
  | none => exact ⟨[e], by rw [tm_mk_new h], by simp⟩
theorem tm_mk_wf {c : Nat} {T : tm_T} {e : Nat × Nat × Nat} (hT : tm_wf c T) (he : tm_kd c T.length e) : tm_wf c (tm_mk T e).1 := by
  cases h : tm_fd T e with
  | some i =>
    have : tm_mk T e = (T, i) := by unfold tm_mk; rw [h]
    rw [this]; exact hT
  | none =>
    rw [tm_mk_new h]
    have hn := tm_fd_none h
    have key : ∀ (i : Nat) (q : Nat × Nat × Nat), (T ++ [e])[i]? = some q → (i < T.length ∧ T[i]? = some q) ∨ (i = T.length ∧ q = e) := by
      intro i q hq
      rcases Nat.lt_or_ge i T.length with hl | hl
      · exact Or.inl ⟨hl, tm_app' hl hq⟩
      · rw [List.getElem?_append_right hl] at hq
        have hz := tm_lt hq
        simp at hz
        have : i - T.length = 0 := by omega
        rw [this] at hq
        simp at hq
        exact Or.inr ⟨by omega, hq.symm⟩
    refine ⟨fun i j q hi hj => ?_, fun i hi => tm_app (hT.2.1 i hi), fun i q hq => ?_⟩
    · rcases key i q hi with ⟨l1, h1⟩ | ⟨l1, h1⟩ <;> rcases key j q hj with ⟨l2, h2⟩ | ⟨l2, h2⟩
      · exact hT.1 i j q h1 h2
      · rw [h2] at h1; exact absurd h1 (hn i)
      · rw [h1] at h2; exact absurd h2 (hn j)
      · omega
    · rcases key i q hq with ⟨l1, h1⟩ | ⟨l1, h1⟩
      · exact hT.2.2 i q h1
      · rw [l1, h1]; exact he
def tm_in (x y : Nat) : Nat → tm_T → Nat → tm_T × Nat
  | 0, T, u => (T, u)
  | f + 1, T, u => match T[u]? with
    | some (1, a, _) => tm_mk (tm_in x y f T a).1 (1, (tm_in x y f T a).2, 0)
    | some (2, a, b) => tm_mk (tm_in x y f (tm_in x y f T a).1 b).1 (2, (tm_in x y f T a).2, (tm_in x y f (tm_in x y f T a).1 b).2)
    | some (3, _, _) => (T, x)
    | some (4, _, _) => (T, y)
    | _ => (T, u)
def tm_is (x y : Nat) : Nat → tm_T → Nat → Nat → Prop
  | 0, _, u, r => r = u
  | f + 1, T, u, r => match T[u]? with
    | some (1, a, _) => ∃ ra, tm_is x y f T a ra ∧ T[r]? = some (1, ra, 0)
    | some (2, a, b) => ∃ ra rb, tm_is x y f T a ra ∧ tm_is x y f T b rb ∧ T[r]? = some (2, ra, rb)
    | some (3, _, _) => r = x
    | some (4, _, _) => r = y
    | _ => r = u
theorem tm_is_in {x y : Nat} {T : tm_T} (hu : tm_un T) : ∀ {f u r : Nat}, tm_is x y f T u r → tm_in x y f T u = (T, r) := by
  intro f
  induction f with
  | zero => intro u r h; rw [tm_is] at h; rw [tm_in, h]
  | succ f ih =>
    intro u r h
    rw [tm_is] at h
    rw [tm_in]
    cases hT : T[u]? with
    | none => rw [hT] at h; simp only at h; rw [h]
    | some q =>
      obtain ⟨k, a, b⟩ := q
      rw [hT] at h
      match k, h with
      | 0, h => simp only at h ⊢; rw [h]
      | 1, h =>
        simp only at h ⊢
        obtain ⟨ra, h1, h2⟩ := h
        rw [ih h1]
        exact tm_mk_at hu h2
      | 2, h =>
        simp only at h ⊢
        obtain ⟨ra, rb, h1, h2, h3⟩ := h
        rw [ih h1]
        simp only
        rw [ih h2]
        exact tm_mk_at hu h3
      | 3, h => simp only at h ⊢; rw [h]
      | 4, h => simp only at h ⊢; rw [h]
      | k + 5, h => simp only at h ⊢; rw [h]
theorem tm_is_app {c x y : Nat} {T S : tm_T} (hT : tm_wf c T) : ∀ {f u r : Nat}, u < T.length → tm_is x y f T u r → tm_is x y f (T ++ S) u r := by
  intro f
  induction f with
  | zero => intro u r _ h; exact h
  | succ f ih =>
    intro u r hl h
    rw [tm_is] at h ⊢
    have hg : T[u]? = some T[u] := List.getElem?_eq_getElem hl
    rw [List.getElem?_append_left hl]
    generalize T[u] = q at hg
    rw [hg] at h ⊢
    have hk := hT.2.2 u q hg
    obtain ⟨k, a, b⟩ := q
    rcases hk with ⟨e, -⟩ | ⟨a', e, ha⟩ | ⟨a', b', e, ha, hb⟩ | e | e
    · cases e; exact h
    · cases e
      obtain ⟨ra, h1, h2⟩ := h
      exact ⟨ra, ih (by omega) h1, tm_app h2⟩
    · cases e
      obtain ⟨ra, rb, h1, h2, h3⟩ := h
      exact ⟨ra, rb, ih (by omega) h1, ih (by omega) h2, tm_app h3⟩
    · cases e; exact h
    · cases e; exact h
theorem tm_in_ok {c x y : Nat} (hx : x < c) (hy : y < c) : ∀ {f : Nat} {T : tm_T} {u : Nat}, tm_wf c T → u < T.length → u < f → (∃ S, (tm_in x y f T u).1 = T ++ S) ∧ tm_wf c (tm_in x y f T u).1 ∧ tm_is x y f (tm_in x y f T u).1 u (tm_in x y f T u).2 ∧ (tm_in x y f T u).2 < (tm_in x y f T u).1.length := by
  intro f
  induction f with
  | zero => intro T u _ _ h; omega
  | succ f ih =>
    intro T u hT hl hf
    have hc : c ≤ T.length := by
      rcases Nat.eq_zero_or_pos c with h | h
      · omega
      · have := tm_lt (hT.2.1 (c - 1) (by omega)); omega
    have hg : T[u]? = some T[u] := List.getElem?_eq_getElem hl
    generalize T[u] = q at hg
    have hk := hT.2.2 u q hg
    obtain ⟨k, a, b⟩ := q
    rcases hk with ⟨e, -⟩ | ⟨a', e, ha⟩ | ⟨a', b', e, ha, hb⟩ | e | e
    · cases e
      have e1 : tm_in x y (f + 1) T u = (T, u) := by simp only [tm_in, hg]
      rw [e1]
      exact ⟨⟨[], by simp⟩, hT, by simp only [tm_is, hg], hl⟩
    · cases e
      obtain ⟨⟨S, h1⟩, h2, h3, h4⟩ := ih hT (show a < T.length by omega) (by omega)
      have e1 : tm_in x y (f + 1) T u = tm_mk (tm_in x y f T a).1 (1, (tm_in x y f T a).2, 0) := by simp only [tm_in, hg]
      rw [e1]
      generalize hr : tm_in x y f T a = r at h1 h2 h3 h4
      obtain ⟨T1, r1⟩ := r
      simp only at h1 h2 h3 h4 ⊢
      obtain ⟨S2, h5, -⟩ := tm_mk_ext T1 (1, r1, 0)
      have h6 := tm_mk_get T1 (1, r1, 0)
      have hw := tm_mk_wf h2 (e := (1, r1, 0)) (Or.inr (Or.inl ⟨r1, rfl, h4⟩))
      refine ⟨⟨S ++ S2, by rw [h5, h1, List.append_assoc]⟩, hw, ?_, tm_lt h6⟩
      have hgu : (tm_mk T1 (1, r1, 0)).1[u]? = some (1, a, 0) := by rw [h5, h1, List.append_assoc]; exact tm_app hg
      rw [tm_is, hgu]
      refine ⟨r1, ?_, h6⟩
      rw [h5]
      exact tm_is_app h2 (by rw [h1, List.length_append]; omega) h3
    · cases e
      obtain ⟨⟨S, h1⟩, h2, h3, h4⟩ := ih hT (show a < T.length by omega) (by omega)
      have e1 : tm_in x y (f + 1) T u = tm_mk (tm_in x y f (tm_in x y f T a).1 b).1 (2, (tm_in x y f T a).2, (tm_in x y f (tm_in x y f T a).1 b).2) := by simp only [tm_in, hg]
      rw [e1]
      generalize hr : tm_in x y f T a = r at h1 h2 h3 h4
      obtain ⟨T1, r1⟩ := r
      simp only at h1 h2 h3 h4 ⊢
      obtain ⟨⟨S3, g1⟩, g2, g3, g4⟩ := ih h2 (show b < T1.length by rw [h1, List.length_append]; omega) (by omega)
      generalize hr2 : tm_in x y f T1 b = r' at g1 g2 g3 g4
      obtain ⟨T2, r2⟩ := r'
      simp only at g1 g2 g3 g4 ⊢
      obtain ⟨S2, h5, -⟩ := tm_mk_ext T2 (2, r1, r2)
      have h6 := tm_mk_get T2 (2, r1, r2)
      have hr1 : r1 < T2.length := by rw [g1, List.length_append]; omega
      have hw := tm_mk_wf g2 (e := (2, r1, r2)) (Or.inr (Or.inr (Or.inl ⟨r1, r2, rfl, hr1, g4⟩)))
      refine ⟨⟨S ++ (S3 ++ S2), by rw [h5, g1, h1, List.append_assoc, List.append_assoc]⟩, hw, ?_, tm_lt h6⟩
      have hgu : (tm_mk T2 (2, r1, r2)).1[u]? = some (2, a, b) := by rw [h5, g1, h1, List.append_assoc, List.append_assoc]; exact tm_app hg
      rw [tm_is, hgu]
      refine ⟨r1, r2, ?_, ?_, h6⟩
      · rw [h5, g1, List.append_assoc]
        exact tm_is_app h2 (by rw [h1, List.length_append]; omega) h3
      · rw [h5]
        exact tm_is_app g2 (by rw [g1, h1, List.length_append, List.length_append]; omega) g3
    · cases e
      have e1 : tm_in x y (f + 1) T u = (T, x) := by simp only [tm_in, hg]
      rw [e1]
      exact ⟨⟨[], by simp⟩, hT, by simp only [tm_is, hg], by show _ < T.length; omega⟩
    · cases e
      have e1 : tm_in x y (f + 1) T u = (T, y) := by simp only [tm_in, hg]
      rw [e1]
      exact ⟨⟨[], by simp⟩, hT, by simp only [tm_is, hg], by show _ < T.length; omega⟩
theorem tm_in_fu {c x y : Nat} (hx : x < c) (hy : y < c) : ∀ {f g : Nat} {T : tm_T} {u : Nat}, tm_wf c T → u < T.length → u < f → u < g → tm_in x y f T u = tm_in x y g T u := by
  intro f
  induction f with
  | zero => intro g T u _ _ h; omega
  | succ f ih =>
    intro g T u hT hl hf hgg
    cases g with
    | zero => omega
    | succ g =>
      have hg : T[u]? = some T[u] := List.getElem?_eq_getElem hl
      generalize T[u] = q at hg
      have hk := hT.2.2 u q hg
      rw [tm_in, tm_in, hg]
      obtain ⟨k, a, b⟩ := q
      rcases hk with ⟨e, -⟩ | ⟨a', e, ha⟩ | ⟨a', b', e, ha, hb⟩ | e | e
      · cases e; rfl
      · cases e
        simp only
        rw [ih hT (show a < T.length by omega) (show a < f by omega) (show a < g by omega)]
      · cases e
        simp only
        rw [ih hT (show a < T.length by omega) (show a < f by omega) (show a < g by omega)]
        obtain ⟨⟨S, h1⟩, h2, -, -⟩ := tm_in_ok hx hy hT (show a < T.length by omega) (show a < g by omega)
        rw [ih h2 (show b < (tm_in x y g T a).1.length by rw [h1, List.length_append]; omega) (show b < f by omega) (show b < g by omega)]
      · cases e; rfl
      · cases e; rfl
def tm_vk (V : Nat → Nat) (e : Nat × Nat × Nat) : Nat := match e with
  | (1, a, _) => V a
  | (2, a, b) => V a ||| V b
  | (3, _, _) => 1
  | (4, _, _) => 2
  | _ => 0
def tm_vs (T : tm_T) (V : Nat → Nat) : Prop := ∀ (i : Nat) (e : Nat × Nat × Nat), T[i]? = some e → V i = tm_vk V e
theorem tm_gr {c x y : Nat} {T : tm_T} {V : Nat → Nat} (hT : tm_wf c T) (hV : tm_vs T V) : ∀ {f u : Nat}, u < f → u < T.length → V u = 0 → tm_is x y f T u u := by
  intro f
  induction f with
  | zero => intro u h; omega
  | succ f ih =>
    intro u hf hl hz
    have hg : T[u]? = some T[u] := List.getElem?_eq_getElem hl
    generalize T[u] = q at hg
    have hk := hT.2.2 u q hg
    have hv := hV u q hg
    rw [tm_is, hg]
    obtain ⟨k, a, b⟩ := q
    rcases hk with ⟨e, -⟩ | ⟨a', e, ha⟩ | ⟨a', b', e, ha, hb⟩ | e | e
    · cases e; rfl
    · cases e
      rw [hz] at hv
      exact ⟨a, ih (by omega) (by omega) hv.symm, rfl⟩
    · cases e
      rw [hz] at hv
      have hv : V a ||| V b = 0 := hv.symm
      obtain ⟨h1, h2⟩ := Nat.or_eq_zero_iff.mp hv
      exact ⟨a, b, ih (by omega) (by omega) h1, ih (by omega) (by omega) h2, rfl⟩
    · cases e
      rw [hz] at hv
      exact absurd hv (by simp [tm_vk])
    · cases e
      rw [hz] at hv
      exact absurd hv (by simp [tm_vk])
