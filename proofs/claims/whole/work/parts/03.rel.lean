def ax_vr (L : List Nat) (v w : Value) : Prop := match v with
  | .ref i => ∃ a, L[i]? = some a ∧ w = .ref a
  | .null => w = .null ∨ ∃ a, w = .ref a
  | .retAddr _ => False
  | v => w = v
def ax_vrs (L : List Nat) : List Value → List Value → Prop
  | [], [] => True
  | v :: r, w :: q => ax_vr L v w ∧ ax_vrs L r q
  | _, _ => False
def ax_er (L : List Nat) (ca : Nat → ClassId) (e e' : va_E) : Prop := match e, e' with
  | .inl (t, a), .inl (c, a') => t < 3 ∧ c = ca t ∧ a' = a
  | .inr (ci, fs), .inr (cj, gs) => cj = ci ∧ ax_vrs L fs gs
  | _, _ => False
abbrev ax_ad (b : Nat) (ws : va_W) : List Nat := b :: ws.map (·.1)
def ax_wr (ca : Nat → ClassId) (b n : Nat) (xs : Nat → Int32) (h : ax_H) (ws : va_W) : Prop := h[0]? = some (.inl (3, n, .inl xs)) ∧ h.length = ws.length + 1 ∧ ∀ (i : Nat) (e : va_E) (q : Nat × va_E), h[i + 1]? = some e → ws[i]? = some q → ax_er (ax_ad b ws) ca e q.2
def ax_lr (L : List Nat) (nL : Nat) (al : List Value) (ls : Array Slot) : Prop := ls.size = nL ∧ al.length = nL ∧ lv_wf ls ∧ ∀ (i : Nat) (v : Value), al[i]? = some v → (∃ p, v = .retAddr p) ∨ (v.category = 1 ∧ ∃ w, ls[i]? = some (.val w) ∧ ax_vr L v w)
theorem ax_vr_cat {L : List Nat} {v w : Value} (h : ax_vr L v w) : w.category = v.category := by
  cases v with
  | int x => have h : w = .int x := h; rw [h]
  | long x => have h : w = .long x := h; rw [h]
  | float x => have h : w = .float x := h; rw [h]
  | double x => have h : w = .double x := h; rw [h]
  | null =>
    have h : w = .null ∨ ∃ a, w = .ref a := h
    rcases h with h | ⟨a, h⟩ <;> rw [h] <;> rfl
  | ref i =>
    obtain ⟨a, -, h⟩ := (h : ∃ a, L[i]? = some a ∧ w = .ref a)
    rw [h]; rfl
  | retAddr p => exact (h : False).elim
theorem ax_vr_app {L E : List Nat} {v w : Value} (h : ax_vr L v w) : ax_vr (L ++ E) v w := by
  cases v with
  | ref i =>
    obtain ⟨a, h1, h2⟩ := (h : ∃ a, L[i]? = some a ∧ w = .ref a)
    exact ⟨a, by rw [List.getElem?_append_left (List.getElem?_eq_some_iff.mp h1).1]; exact h1, h2⟩
  | int x => exact h
  | long x => exact h
  | float x => exact h
  | double x => exact h
  | null => exact h
  | retAddr p => exact h
theorem ax_vrs_app {L E : List Nat} : ∀ {r q : List Value}, ax_vrs L r q → ax_vrs (L ++ E) r q
  | [], [], _ => trivial
  | _ :: _, _ :: _, h => ⟨ax_vr_app h.1, ax_vrs_app h.2⟩
  | [], _ :: _, h => (h : False).elim
  | _ :: _, [], h => (h : False).elim
theorem ax_er_app {L E : List Nat} {ca : Nat → ClassId} {e e' : va_E} (h : ax_er L ca e e') : ax_er (L ++ E) ca e e' := by
  rcases e with ⟨t, a⟩ | ⟨ci, fs⟩ <;> rcases e' with ⟨c, a'⟩ | ⟨cj, gs⟩
  · exact h
  · exact h
  · exact h
  · exact ⟨h.1, ax_vrs_app h.2⟩
theorem ax_vrs_len {L : List Nat} : ∀ {r q : List Value}, ax_vrs L r q → r.length = q.length
  | [], [], _ => rfl
  | _ :: _, _ :: _, h => by rw [List.length_cons, List.length_cons, ax_vrs_len h.2]
  | [], _ :: _, h => (h : False).elim
  | _ :: _, [], h => (h : False).elim
theorem ax_vrs_cons {L : List Nat} {v : Value} {r q : List Value} (h : ax_vrs L (v :: r) q) : ∃ w q', q = w :: q' ∧ ax_vr L v w ∧ ax_vrs L r q' := by
  cases q with
  | nil => exact (h : False).elim
  | cons w q' => exact ⟨w, q', rfl, h.1, h.2⟩
theorem ax_vrs_nil {L : List Nat} {q : List Value} (h : ax_vrs L [] q) : q = [] := by
  cases q with
  | nil => rfl
  | cons w q' => exact (h : False).elim
theorem ax_vrs_int {L : List Nat} {x : Int32} {r q : List Value} (h : ax_vrs L (.int x :: r) q) : ∃ q', q = .int x :: q' ∧ ax_vrs L r q' := by
  obtain ⟨w, q', e, h1, h2⟩ := ax_vrs_cons h
  have h1 : w = .int x := h1
  exact ⟨q', by rw [e, h1], h2⟩
theorem ax_vrs_long {L : List Nat} {x : Int64} {r q : List Value} (h : ax_vrs L (.long x :: r) q) : ∃ q', q = .long x :: q' ∧ ax_vrs L r q' := by
  obtain ⟨w, q', e, h1, h2⟩ := ax_vrs_cons h
  have h1 : w = .long x := h1
  exact ⟨q', by rw [e, h1], h2⟩
theorem ax_vrs_ref {L : List Nat} {i : Nat} {r q : List Value} (h : ax_vrs L (.ref i :: r) q) : ∃ a q', q = .ref a :: q' ∧ L[i]? = some a ∧ ax_vrs L r q' := by
  obtain ⟨w, q', e, h1, h2⟩ := ax_vrs_cons h
  obtain ⟨a, h3, h4⟩ := (h1 : ∃ a, L[i]? = some a ∧ w = .ref a)
  exact ⟨a, q', by rw [e, h4], h3, h2⟩
theorem ax_vrs_get {L : List Nat} : ∀ {r q : List Value} {k : Nat} {v : Value}, ax_vrs L r q → r[k]? = some v → ∃ w, q[k]? = some w ∧ ax_vr L v w
  | [], _, k, v, _, h => by simp at h
  | v0 :: r, q, k, v, hr, h => by
    obtain ⟨w, q', e, h1, h2⟩ := ax_vrs_cons hr
    subst e
    cases k with
    | zero =>
      have h : v0 = v := by simpa using h
      subst h
      exact ⟨w, rfl, h1⟩
    | succ k =>
      have h : r[k]? = some v := by simpa using h
      obtain ⟨w', g1, g2⟩ := ax_vrs_get h2 h
      exact ⟨w', by simpa using g1, g2⟩
theorem ax_vrs_set {L : List Nat} : ∀ {r q : List Value} {k : Nat} {v w : Value}, ax_vrs L r q → ax_vr L v w → ax_vrs L (r.set k v) (q.set k w)
  | [], q, k, v, w, hr, _ => by
    have := ax_vrs_nil hr
    subst this
    simp [ax_vrs]
  | v0 :: r, q, k, v, w, hr, hv => by
    obtain ⟨w0, q', e, h1, h2⟩ := ax_vrs_cons hr
    subst e
    cases k with
    | zero => exact ⟨hv, h2⟩
    | succ k => exact ⟨h1, ax_vrs_set h2 hv⟩
theorem ax_vrs_append {L : List Nat} : ∀ {r q r' q' : List Value}, ax_vrs L r q → ax_vrs L r' q' → ax_vrs L (r ++ r') (q ++ q')
  | [], q, r', q', h, h' => by
    have := ax_vrs_nil h
    subst this
    exact h'
  | v :: r, q, r', q', h, h' => by
    obtain ⟨w, q2, e, h1, h2⟩ := ax_vrs_cons h
    subst e
    exact ⟨h1, ax_vrs_append h2 h'⟩
theorem ax_vrs_rev {L : List Nat} : ∀ {r q : List Value}, ax_vrs L r q → ax_vrs L r.reverse q.reverse
  | [], q, h => by
    have := ax_vrs_nil h
    subst this
    exact trivial
  | v :: r, q, h => by
    obtain ⟨w, q2, e, h1, h2⟩ := ax_vrs_cons h
    subst e
    rw [List.reverse_cons, List.reverse_cons]
    exact ax_vrs_append (ax_vrs_rev h2) ⟨h1, trivial⟩
theorem ax_vrs_split {L : List Nat} : ∀ (n : Nat) {r q : List Value}, ax_vrs L r q → ax_vrs L (r.take n) (q.take n) ∧ ax_vrs L (r.drop n) (q.drop n)
  | 0, r, q, h => ⟨by simp [ax_vrs], by simpa using h⟩
  | n + 1, [], q, h => by
    have := ax_vrs_nil h
    subst this
    exact ⟨by simp [ax_vrs], by simp [ax_vrs]⟩
  | n + 1, v :: r, q, h => by
    obtain ⟨w, q2, e, h1, h2⟩ := ax_vrs_cons h
    subst e
    obtain ⟨g1, g2⟩ := ax_vrs_split n h2
    exact ⟨⟨h1, g1⟩, g2⟩
theorem ax_wr_at {ca : Nat → ClassId} {b n : Nat} {xs : Nat → Int32} {h : ax_H} {ws : va_W} (hw : ax_wr ca b n xs h ws) {i a : Nat} {e : va_E} (hi : h[i]? = some e) (ha : (ax_ad b ws)[i]? = some a) : (i = 0 ∧ a = b ∧ e = .inl (3, n, .inl xs)) ∨ ∃ (j : Nat) (e' : va_E), i = j + 1 ∧ ws[j]? = some (a, e') ∧ ax_er (ax_ad b ws) ca e e' := by
  cases i with
  | zero =>
    refine Or.inl ⟨rfl, ?_, ?_⟩
    · have : b = a := by simpa using ha
      exact this.symm
    · exact Option.some.inj (hi.symm.trans hw.1)
  | succ j =>
    have ha : (ws.map (·.1))[j]? = some a := by simpa using ha
    rw [List.getElem?_map] at ha
    cases hq : ws[j]? with
    | none => rw [hq] at ha; cases ha
    | some q =>
      rw [hq] at ha
      obtain ⟨c, e'⟩ := q
      have hb : c = a := by simpa using ha
      subst hb
      exact Or.inr ⟨j, e', rfl, hq, hw.2.2 j e (c, e') hi hq⟩
theorem ax_ad_set {b i a : Nat} {e e' : va_E} {ws : va_W} (hi : ws[i]? = some (a, e)) : ax_ad b (ws.set i (a, e')) = ax_ad b ws := by
  have hm : (ws.set i (a, e')).map (·.1) = ws.map (·.1) := by
    rw [List.map_set]
    refine List.ext_getElem? fun j => ?_
    by_cases hj : i = j
    · subst hj
      rw [List.getElem?_set_self (by rw [List.length_map]; exact (List.getElem?_eq_some_iff.mp hi).1), List.getElem?_map, hi]
      rfl
    · rw [List.getElem?_set_ne hj]
  show b :: (ws.set i (a, e')).map (·.1) = b :: ws.map (·.1)
  rw [hm]
theorem ax_wr_set {ca : Nat → ClassId} {b n : Nat} {xs : Nat → Int32} {h : ax_H} {ws : va_W} (hw : ax_wr ca b n xs h ws) {i a : Nat} {e e1 e1' : va_E} (hi : ws[i]? = some (a, e)) (he : ax_er (ax_ad b ws) ca e1 e1') : ax_wr ca b n xs (h.set (i + 1) e1) (ws.set i (a, e1')) := by
  refine ⟨?_, by rw [List.length_set, List.length_set]; exact hw.2.1, fun j x q hx hq => ?_⟩
  · rw [List.getElem?_set_ne (by omega)]
    exact hw.1
  rw [ax_ad_set hi]
  by_cases hj : i = j
  · subst hj
    have hl := (List.getElem?_eq_some_iff.mp hi).1
    rw [List.getElem?_set_self hl] at hq
    rw [List.getElem?_set_self (by rw [hw.2.1]; omega)] at hx
    cases hq
    cases hx
    exact he
  · rw [List.getElem?_set_ne hj] at hq
    rw [List.getElem?_set_ne (by omega)] at hx
    exact hw.2.2 j x q hx hq
theorem ax_ad_push {b a : Nat} {e : va_E} {ws : va_W} : ax_ad b (ws ++ [(a, e)]) = ax_ad b ws ++ [a] := by
  show b :: (ws ++ [(a, e)]).map (·.1) = b :: ws.map (·.1) ++ [a]
  rw [List.map_append]
  rfl
theorem ax_wr_push {ca : Nat → ClassId} {b n : Nat} {xs : Nat → Int32} {h : ax_H} {ws : va_W} (hw : ax_wr ca b n xs h ws) {a : Nat} {e e' : va_E} (he : ax_er (ax_ad b ws) ca e e') : ax_wr ca b n xs (h ++ [e]) (ws ++ [(a, e')]) := by
  refine ⟨by rw [List.getElem?_append_left (by rw [hw.2.1]; omega)]; exact hw.1, by rw [List.length_append, List.length_append, hw.2.1]; rfl, fun j x q hx hq => ?_⟩
  rw [ax_ad_push]
  rcases Nat.lt_or_ge j ws.length with hl | hl
  · rw [List.getElem?_append_left (by rw [hw.2.1]; omega)] at hx
    rw [List.getElem?_append_left hl] at hq
    exact ax_er_app (hw.2.2 j x q hx hq)
  · rw [List.getElem?_append_right (by rw [hw.2.1]; omega), hw.2.1] at hx
    rw [List.getElem?_append_right hl] at hq
    have hz := (List.getElem?_eq_some_iff.mp hq).1
    rw [List.length_singleton] at hz
    have h0 : j - ws.length = 0 := by omega
    have h1 : j + 1 - (ws.length + 1) = 0 := by omega
    rw [h0] at hq
    rw [h1] at hx
    cases hx
    cases hq
    exact ax_er_app he
def ax_lv1 (j : Nat) (x : Option Slot) : Option (Nat × Value) := match x with
  | some (.val w) => some (j, w)
  | _ => none
def ax_lv (ls : Array Slot) : List (Nat × Value) := (List.range ls.size).filterMap (fun j => ax_lv1 j ls[j]?)
theorem ax_lv_mem {ls : Array Slot} {q : Nat × Value} : q ∈ ax_lv ls ↔ ls[q.1]? = some (.val q.2) := by
  unfold ax_lv
  rw [List.mem_filterMap]
  constructor
  · rintro ⟨j, -, h2⟩
    cases hj : ls[j]? with
    | none => rw [hj] at h2; cases h2
    | some w =>
      rw [hj] at h2
      cases w with
      | val w => cases h2; exact hj
      | unset => cases h2
      | second => cases h2
  · intro h
    refine ⟨q.1, List.mem_range.mpr (Array.getElem?_eq_some_iff.mp h).1, ?_⟩
    rw [h]
    rfl
theorem ax_lv_has {L : List Nat} {nL : Nat} {al : List Value} {ls : Array Slot} (h : ax_lr L nL al ls) : lv_has ls nL (ax_lv ls) := ⟨h.1, h.2.2.1, fun q hq => ax_lv_mem.mp hq⟩
theorem ax_lr_set {L : List Nat} {nL i : Nat} {al : List Value} {ls ls' : Array Slot} {v w : Value} (h : ax_lr L nL al ls) (hv : ax_vr L v w) (hc : v.category = 1) (h' : lv_has ls' nL ((i, w) :: (ax_lv ls).filter (fun q => !(q.1 == i) && !(q.1 + 1 == i && q.2.category == 2)))) : ax_lr L nL (al.set i v) ls' := by
  refine ⟨h'.1, by rw [List.length_set]; exact h.2.1, h'.2.1, fun j x hx => ?_⟩
  by_cases hj : i = j
  · subst hj
    by_cases hl : i < al.length
    · rw [List.getElem?_set_self hl] at hx
      cases hx
      exact Or.inr ⟨hc, w, h'.2.2 (i, w) List.mem_cons_self, hv⟩
    · rw [List.set_eq_of_length_le (by omega)] at hx
      rw [List.getElem?_eq_none (by omega)] at hx
      cases hx
  · rw [List.getElem?_set_ne hj] at hx
    rcases h.2.2.2 j x hx with h1 | ⟨h1, y, h2, h3⟩
    · exact Or.inl h1
    · refine Or.inr ⟨h1, y, h'.2.2 (j, y) (List.mem_cons_of_mem _ (List.mem_filter.mpr ⟨ax_lv_mem.mpr h2, ?_⟩)), h3⟩
      have hcat := ax_vr_cat h3
      simp only [Bool.and_eq_true, Bool.not_eq_true', beq_eq_false_iff_ne, ne_eq, Bool.and_eq_false_iff]
      exact ⟨fun q => hj q.symm, Or.inr (by rw [hcat, h1]; decide)⟩
theorem ax_lr_app {L E : List Nat} {nL : Nat} {al : List Value} {ls : Array Slot} (h : ax_lr L nL al ls) : ax_lr (L ++ E) nL al ls := ⟨h.1, h.2.1, h.2.2.1, fun i v hv => by
  rcases h.2.2.2 i v hv with h1 | ⟨h1, w, h2, h3⟩
  · exact Or.inl h1
  · exact Or.inr ⟨h1, w, h2, ax_vr_app h3⟩⟩
theorem ax_lr_int {L : List Nat} {nL i : Nat} {al : List Value} {ls : Array Slot} {x : Int32} (h : ax_lr L nL al ls) (hi : al[i]? = some (.int x)) : ls[i]? = some (.val (.int x)) := by
  rcases h.2.2.2 i _ hi with ⟨p, h1⟩ | ⟨-, w, h2, h3⟩
  · cases h1
  · have h3 : w = .int x := h3
    rw [h2, h3]
theorem ax_lr_ref {L : List Nat} {nL i o : Nat} {al : List Value} {ls : Array Slot} (h : ax_lr L nL al ls) (hi : al[i]? = some (.ref o)) : ∃ a, L[o]? = some a ∧ ls[i]? = some (.val (.ref a)) := by
  rcases h.2.2.2 i _ hi with ⟨p, h1⟩ | ⟨-, w, h2, h3⟩
  · cases h1
  · obtain ⟨a, g1, g2⟩ := (h3 : ∃ a, L[o]? = some a ∧ w = .ref a)
    exact ⟨a, g1, by rw [h2, g2]⟩
theorem ax_lr_null {L : List Nat} {nL i : Nat} {al : List Value} {ls : Array Slot} (h : ax_lr L nL al ls) (hi : al[i]? = some .null) : ls[i]? = some (.val .null) ∨ ∃ a, ls[i]? = some (.val (.ref a)) := by
  rcases h.2.2.2 i _ hi with ⟨p, h1⟩ | ⟨-, w, h2, h3⟩
  · cases h1
  · have h3 : w = .null ∨ ∃ a, w = .ref a := h3
    rcases h3 with h3 | ⟨a, h3⟩
    · exact Or.inl (by rw [h2, h3])
    · exact Or.inr ⟨a, by rw [h2, h3]⟩
