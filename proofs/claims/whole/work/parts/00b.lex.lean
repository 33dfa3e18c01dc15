def lb_ok (n : Nat) (v : Nat → Nat) : Prop := ∀ i, i < n → v i ≤ i ∧ v (v i) = v i
def lb_eq (n : Nat) (v w : Nat → Nat) : Prop := ∀ i, i < n → v i = w i
def lb_lt (n : Nat) (v w : Nat → Nat) : Prop := ∃ j, j < n ∧ (∀ i, i < j → v i = w i) ∧ v j < w j
theorem lb_eq.refl {n : Nat} {v : Nat → Nat} : lb_eq n v v := fun _ _ => rfl
theorem lb_eq.symm {n : Nat} {v w : Nat → Nat} (h : lb_eq n v w) : lb_eq n w v := fun i hi => (h i hi).symm
theorem lb_eq.trans {n : Nat} {u v w : Nat → Nat} (h : lb_eq n u v) (g : lb_eq n v w) : lb_eq n u w := fun i hi => (h i hi).trans (g i hi)
theorem lb_eq.mono {n m : Nat} {v w : Nat → Nat} (h : lb_eq n v w) (hm : m ≤ n) : lb_eq m v w := fun i hi => h i (Nat.lt_of_lt_of_le hi hm)
theorem lb_ok.of_eq {n : Nat} {v w : Nat → Nat} (h : lb_ok n v) (e : lb_eq n v w) : lb_ok n w := by
  intro i hi
  obtain ⟨h1, h2⟩ := h i hi
  have e1 := e i hi
  have e2 := e (v i) (Nat.lt_of_le_of_lt h1 hi)
  rw [← e1]
  exact ⟨h1, by rw [← e2]; exact h2⟩
theorem lb_ok.mono {n m : Nat} {v : Nat → Nat} (h : lb_ok n v) (hm : m ≤ n) : lb_ok m v := fun i hi => h i (Nat.lt_of_lt_of_le hi hm)
theorem lb_tri (v w : Nat → Nat) : ∀ n, lb_eq n v w ∨ lb_lt n v w ∨ lb_lt n w v := by
  intro n
  induction n with
  | zero => exact Or.inl (fun i hi => absurd hi (Nat.not_lt_zero i))
  | succ n ih =>
    rcases ih with h | ⟨j, h1, h2, h3⟩ | ⟨j, h1, h2, h3⟩
    · rcases Nat.lt_trichotomy (v n) (w n) with g | g | g
      · exact Or.inr (Or.inl ⟨n, Nat.lt_succ_self n, h, g⟩)
      · refine Or.inl (fun i hi => ?_)
        rcases Nat.lt_or_ge i n with hin | hin
        · exact h i hin
        · have : i = n := by omega
          rw [this]; exact g
      · exact Or.inr (Or.inr ⟨n, Nat.lt_succ_self n, fun i hi => (h i hi).symm, g⟩)
    · exact Or.inr (Or.inl ⟨j, by omega, h2, h3⟩)
    · exact Or.inr (Or.inr ⟨j, by omega, h2, h3⟩)
def lb_min (n : Nat) (P : (Nat → Nat) → Prop) (v : Nat → Nat) : Prop := lb_ok n v ∧ P v ∧ ∀ w, lb_ok n w → P w → ¬ lb_lt n w v
theorem lb_min.same {n : Nat} {P : (Nat → Nat) → Prop} {v w : Nat → Nat} (hv : lb_min n P v) (hw : lb_min n P w) : lb_eq n v w := by
  rcases lb_tri v w n with h | h | h
  · exact h
  · exact absurd h (hw.2.2 v hv.1 hv.2.1)
  · exact absurd h (hv.2.2 w hw.1 hw.2.1)
def lb_nx (n : Nat) (v w : Nat → Nat) : Prop := ∃ k, 0 < k ∧ k < n ∧ v k < k ∧ (∀ i, k < i → i < n → v i = i) ∧ (∀ i, i < k → w i = v i) ∧ (∀ i, k < i → i < n → w i = 0) ∧ v k < w k ∧ w k ≤ k ∧ (w k = k ∨ v (w k) = w k) ∧ (∀ b, v k < b → b < w k → ¬ v b = b)
theorem lb_nx.ok {n : Nat} {v w : Nat → Nat} (h : lb_ok n v) (hx : lb_nx n v w) : lb_ok n w := by
  obtain ⟨k, h0, h1, h2, h3, h4, h5, h6, h7, h8, h9⟩ := hx
  have hz : v 0 = 0 := by have := (h 0 (by omega)).1; omega
  intro i hi
  rcases Nat.lt_trichotomy i k with g | g | g
  · have := h i hi
    rw [h4 i g, h4 (v i) (by omega)]
    exact this
  · subst g
    refine ⟨h7, ?_⟩
    rcases h8 with e | e
    · rw [e, e]
    · rcases Nat.lt_or_ge (w i) i with q | q
      · rw [h4 _ q]; exact e
      · have : w i = i := by omega
        rw [this, this]
  · rw [h5 i g hi]
    exact ⟨Nat.zero_le _, by rw [h4 0 h0]; exact hz⟩
theorem lb_nx.lt {n : Nat} {v w : Nat → Nat} (hx : lb_nx n v w) : lb_lt n v w := by
  obtain ⟨k, h0, h1, h2, h3, h4, h5, h6, h7, h8, h9⟩ := hx
  exact ⟨k, h1, fun i hi => (h4 i hi).symm, h6⟩
theorem lb_nx.gap {n : Nat} {v w u : Nat → Nat} (hx : lb_nx n v w) (hu : lb_ok n u) (hlt : lb_lt n u w) : lb_lt n u v ∨ lb_eq n u v := by
  obtain ⟨k, h0, h1, h2, h3, h4, h5, h6, h7, h8, h9⟩ := hx
  rcases lb_tri u v n with h | h | ⟨j, g1, g2, g3⟩
  · exact Or.inr h
  · exact Or.inl h
  · exfalso
    obtain ⟨i, f1, f2, f3⟩ := hlt
    rcases Nat.lt_trichotomy j k with q | q | q
    · rcases Nat.lt_trichotomy i j with r | r | r
      · have a1 := g2 i r
        have a2 := h4 i (by omega)
        omega
      · subst r
        have a2 := h4 i q
        omega
      · have a1 := f2 j r
        have a2 := h4 j q
        omega
    · subst q
      have hub : u j = j ∨ v (u j) = u j := by
        rcases Nat.lt_or_ge (u j) j with r | r
        · right
          have a1 := (hu j g1).2
          rw [← g2 (u j) r] at a1
          exact a1
        · left
          have := (hu j g1).1
          omega
      have hge : w j ≤ u j := by
        rcases Nat.lt_or_ge (u j) (w j) with r | r
        · rcases hub with e | e
          · omega
          · exact absurd e (h9 (u j) g3 r)
        · exact r
      rcases Nat.lt_trichotomy i j with r | r | r
      · have a1 := g2 i r
        have a2 := h4 i r
        omega
      · subst r
        omega
      · rw [h5 i r f1] at f3
        omega
    · have a1 := h3 j q g1
      have a2 := (hu j g1).1
      omega
theorem lb_last {n : Nat} {v u : Nat → Nat} (hv : ∀ i, i < n → v i = i) (hu : lb_ok n u) : lb_lt n u v ∨ lb_eq n u v := by
  rcases lb_tri u v n with h | h | ⟨j, g1, g2, g3⟩
  · exact Or.inr h
  · exact Or.inl h
  · have := (hu j g1).1
    have := hv j g1
    omega
theorem lb_first {n : Nat} {v u : Nat → Nat} (hv : ∀ i, i < n → v i = 0) : ¬ lb_lt n u v := by
  rintro ⟨j, h1, -, h3⟩
  rw [hv j h1] at h3
  omega
def lb_no : Nat → (Nat → Nat) → Nat
  | 0, _ => 0
  | n + 1, v => 8 * lb_no n v + v n
theorem lb_no_le {v : Nat → Nat} : ∀ n, (∀ i, i < n → v i < 8) → lb_no n v < 8 ^ n := by
  intro n
  induction n with
  | zero => intro _; simp [lb_no]
  | succ n ih =>
    intro h
    have h1 := ih (fun i hi => h i (by omega))
    have h2 := h n (by omega)
    rw [lb_no, Nat.pow_succ]
    omega
theorem lb_no_eq {v w : Nat → Nat} : ∀ n, lb_eq n v w → lb_no n v = lb_no n w := by
  intro n
  induction n with
  | zero => intro _; rfl
  | succ n ih =>
    intro h
    rw [lb_no, lb_no, ih (fun i hi => h i (by omega)), h n (by omega)]
theorem lb_no_lt {v w : Nat → Nat} : ∀ n, (∀ i, i < n → v i < 8) → lb_lt n v w → lb_no n v < lb_no n w := by
  intro n
  induction n with
  | zero => rintro _ ⟨j, h, -⟩; omega
  | succ n ih =>
    rintro hv ⟨j, h1, h2, h3⟩
    rw [lb_no, lb_no]
    rcases Nat.lt_or_ge j n with q | q
    · have := ih (fun i hi => hv i (by omega)) ⟨j, q, h2, h3⟩
      have := hv n (by omega)
      omega
    · have : j = n := by omega
      subst this
      rw [lb_no_eq j h2]
      omega
def lb_ex (n k : Nat) (v w : Nat → Nat) : Prop := lb_ok n w ∧ lb_eq k v w
def lb_mx (n k : Nat) (P : (Nat → Nat) → Prop) (v w : Nat → Nat) : Prop := lb_ex n k v w ∧ P w ∧ ∀ u, lb_ex n k v u → P u → ¬ lb_lt n u w
theorem lb_mx.min {n : Nat} {P : (Nat → Nat) → Prop} {v w : Nat → Nat} (h : lb_mx n 0 P v w) : lb_min n P w := ⟨h.1.1, h.2.1, fun u hu hp => h.2.2 u ⟨hu, fun i hi => absurd hi (Nat.not_lt_zero i)⟩ hp⟩
