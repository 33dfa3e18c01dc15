def wl_pq (s t : Nat) : Nat := max s t * (max s t - 1) / 2 + min s t
theorem wl_pq_lt : ∀ s, s < 8 → ∀ t, t < 8 → s ≠ t → wl_pq s t < 28 := by decide +kernel
theorem wl_pq_in : ∀ s, s < 8 → ∀ t, t < 8 → s ≠ t → ∀ k, k < 8 → (wl_pq s t < (k + 1) * k / 2 ↔ (s ≤ k ∧ t ≤ k)) := by decide +kernel
theorem wl_pq_inj0 : ∀ s t s' t' : Fin 8, ¬ s.val = t.val → ¬ s'.val = t'.val → wl_pq s.val t.val = wl_pq s'.val t'.val → (s.val = s'.val ∧ t.val = t'.val) ∨ (s.val = t'.val ∧ t.val = s'.val) := by decide +kernel
theorem wl_pq_inj (s : Nat) (hs : s < 8) (t : Nat) (ht : t < 8) (hn : ¬ s = t) (s' : Nat) (hs' : s' < 8) (t' : Nat) (ht' : t' < 8) (hn' : ¬ s' = t') (he : wl_pq s t = wl_pq s' t') : (s = s' ∧ t = t') ∨ (s = t' ∧ t = s') := wl_pq_inj0 ⟨s, hs⟩ ⟨t, ht⟩ ⟨s', hs'⟩ ⟨t', ht'⟩ hn hn' he
abbrev wl_L : Type := List (Nat × Nat × Bool)
def wl_lit (v : Nat → Nat) (q : Nat × Nat × Bool) : Prop := v q.1 = v q.2.1 ↔ q.2.2 = true
def wl_hold (v : Nat → Nat) (l : wl_L) : Prop := ∃ q, q ∈ l ∧ wl_lit v q
def wl_bit (s t : Nat) : Int32 := 1 <<< (nI (wl_pq s t) &&& 31)
theorem wl_bt : ∀ p, p < 32 → ∀ i, i < 32 → bt (1 <<< (nI p &&& 31)) i = decide (i = p) := by decide +kernel
def wl_st (e : Bool) (m : Int32) (q : Nat × Nat × Bool) : Int32 := if ¬ q.1 = q.2.1 ∧ q.2.2 = e then m ||| wl_bit q.1 q.2.1 else m
def wl_E (e : Bool) (l : wl_L) : Int32 := l.foldl (wl_st e) 0
def wl_A (l : wl_L) : Bool := l.any (fun q => q.1 == q.2.1 && q.2.2)
theorem wl_E_app (e : Bool) (l : wl_L) (q : Nat × Nat × Bool) : wl_E e (l ++ [q]) = wl_st e (wl_E e l) q := by
  unfold wl_E
  rw [List.foldl_append]
  rfl
theorem wl_A_app (l : wl_L) (q : Nat × Nat × Bool) : wl_A (l ++ [q]) = (wl_A l || (q.1 == q.2.1 && q.2.2)) := by
  unfold wl_A
  simp
def wl_in (n : Nat) (l : wl_L) : Prop := ∀ q, q ∈ l → q.1 < n ∧ q.2.1 < n
theorem wl_in.mono {n m : Nat} {l : wl_L} (h : wl_in n l) (hm : n ≤ m) : wl_in m l := fun q hq => ⟨Nat.lt_of_lt_of_le (h q hq).1 hm, Nat.lt_of_lt_of_le (h q hq).2 hm⟩
theorem wl_E_foldl (e : Bool) : ∀ (l : wl_L) (m : Int32), wl_in 8 l → ∀ b, b < 32 → (bt (l.foldl (wl_st e) m) b = true ↔ bt m b = true ∨ ∃ q, q ∈ l ∧ ¬ q.1 = q.2.1 ∧ q.2.2 = e ∧ wl_pq q.1 q.2.1 = b) := by
  intro l
  induction l with
  | nil => intro m _ b _; simp
  | cons x r ih =>
    intro m hl b hb
    rw [List.foldl_cons, ih _ (fun q hq => hl q (List.mem_cons_of_mem _ hq)) b hb]
    have hx := hl x List.mem_cons_self
    unfold wl_st
    by_cases hc : ¬ x.1 = x.2.1 ∧ x.2.2 = e
    · rw [if_pos hc, b_or]
      have hp := wl_pq_lt _ hx.1 _ hx.2 hc.1
      have hbit : bt (wl_bit x.1 x.2.1) b = decide (b = wl_pq x.1 x.2.1) := wl_bt _ (by omega) b hb
      rw [hbit, Bool.or_eq_true, decide_eq_true_eq]
      constructor
      · rintro ((h | h) | ⟨q, h1, h2⟩)
        · exact Or.inl h
        · exact Or.inr ⟨x, List.mem_cons_self, hc.1, hc.2, h.symm⟩
        · exact Or.inr ⟨q, List.mem_cons_of_mem _ h1, h2⟩
      · rintro (h | ⟨q, h1, h2, h3, h4⟩)
        · exact Or.inl (Or.inl h)
        · rcases List.mem_cons.mp h1 with rfl | h1
          · exact Or.inl (Or.inr h4.symm)
          · exact Or.inr ⟨q, h1, h2, h3, h4⟩
    · rw [if_neg hc]
      constructor
      · rintro (h | ⟨q, h1, h2⟩)
        · exact Or.inl h
        · exact Or.inr ⟨q, List.mem_cons_of_mem _ h1, h2⟩
      · rintro (h | ⟨q, h1, h2, h3, h4⟩)
        · exact Or.inl h
        · rcases List.mem_cons.mp h1 with rfl | h1
          · exact absurd ⟨h2, h3⟩ hc
          · exact Or.inr ⟨q, h1, h2, h3, h4⟩
theorem wl_E_bt {e : Bool} {l : wl_L} (hl : wl_in 8 l) {b : Nat} (hb : b < 32) : bt (wl_E e l) b = true ↔ ∃ q, q ∈ l ∧ ¬ q.1 = q.2.1 ∧ q.2.2 = e ∧ wl_pq q.1 q.2.1 = b := by
  unfold wl_E
  rw [wl_E_foldl e l 0 hl b hb, b_0]
  simp
theorem wl_and0 {x y : Int32} : x &&& y = 0 ↔ ∀ b, b < 32 → ¬ (bt x b = true ∧ bt y b = true) := by
  constructor
  · intro h b _ ⟨h1, h2⟩
    have := b_and x y b
    rw [h, b_0, h1, h2] at this
    cases this
  · intro h
    refine b_ext fun i hi => ?_
    rw [b_and, b_0]
    cases h1 : bt x i with
    | false => rfl
    | true =>
      cases h2 : bt y i with
      | false => rfl
      | true => exact absurd ⟨h1, h2⟩ (h i hi)
def wl_kp (l : wl_L) : Option (Int32 × Int32) := if wl_A l = true ∨ ¬ wl_E true l &&& wl_E false l = 0 then none else some (wl_E true l, wl_E false l)
theorem wl_drop {l : wl_L} (hl : wl_in 8 l) (h : wl_kp l = none) (v : Nat → Nat) : wl_hold v l := by
  unfold wl_kp at h
  by_cases hc : wl_A l = true ∨ ¬ wl_E true l &&& wl_E false l = 0
  · rcases hc with hc | hc
    · unfold wl_A at hc
      obtain ⟨q, h1, h2⟩ := List.any_eq_true.mp hc
      rw [Bool.and_eq_true, beq_iff_eq] at h2
      refine ⟨q, h1, ?_⟩
      unfold wl_lit
      rw [h2.1, h2.2]
      exact ⟨fun _ => rfl, fun _ => rfl⟩
    · have hx : ∃ b, b < 32 ∧ bt (wl_E true l) b = true ∧ bt (wl_E false l) b = true := by
        refine Classical.byContradiction fun hn => hc (wl_and0.mpr fun b hb hq => hn ⟨b, hb, hq.1, hq.2⟩)
      obtain ⟨b, hb, h1, h2⟩ := hx
      obtain ⟨q, g1, g2, g3, g4⟩ := (wl_E_bt hl hb).mp h1
      obtain ⟨q', f1, f2, f3, f4⟩ := (wl_E_bt hl hb).mp h2
      by_cases hv : v q.1 = v q.2.1
      · exact ⟨q, g1, ⟨fun _ => g3, fun _ => hv⟩⟩
      · refine ⟨q', f1, ⟨fun h => ?_, fun h => ?_⟩⟩
        · exfalso
          rcases wl_pq_inj _ (hl q g1).1 _ (hl q g1).2 g2 _ (hl q' f1).1 _ (hl q' f1).2 f2 (g4.trans f4.symm) with ⟨a1, a2⟩ | ⟨a1, a2⟩
          · rw [a1, a2] at hv; exact hv h
          · rw [a1, a2] at hv; exact hv h.symm
        · rw [f3] at h; cases h
  · rw [if_neg hc] at h; cases h
theorem wl_kept {l : wl_L} {E U : Int32} (h : wl_kp l = some (E, U)) : E = wl_E true l ∧ U = wl_E false l ∧ wl_A l = false := by
  unfold wl_kp at h
  by_cases hc : wl_A l = true ∨ ¬ wl_E true l &&& wl_E false l = 0
  · rw [if_pos hc] at h; cases h
  · rw [if_neg hc] at h
    cases h
    refine ⟨rfl, rfl, ?_⟩
    cases ha : wl_A l with
    | false => rfl
    | true => exact absurd (Or.inl ha) hc
def wl_eqd (k : Nat) (v : Nat → Nat) (b : Nat) : Prop := ∃ i j, i < j ∧ j ≤ k ∧ wl_pq i j = b ∧ v i = v j
def wl_can (k : Nat) (v : Nat → Nat) (p : Int32 × Int32) : Prop := (∃ b, b < 32 ∧ bt p.1 b = true ∧ (wl_eqd k v b ∨ (k + 1) * k / 2 ≤ b)) ∨ (∃ b, b < 32 ∧ bt p.2 b = true ∧ ¬ wl_eqd k v b)
theorem wl_pq_comm (s t : Nat) : wl_pq s t = wl_pq t s := by
  unfold wl_pq
  rw [Nat.max_comm, Nat.min_comm]
theorem wl_eqd_pq {k s t : Nat} {v : Nat → Nat} (hk : k < 8) (hs : s < 8) (ht : t < 8) (hn : ¬ s = t) : wl_eqd k v (wl_pq s t) ↔ s ≤ k ∧ t ≤ k ∧ v s = v t := by
  constructor
  · rintro ⟨i, j, h1, h2, h3, h4⟩
    rcases wl_pq_inj i (by omega) j (by omega) (by omega) s hs t ht hn h3 with ⟨a1, a2⟩ | ⟨a1, a2⟩
    · subst a1; subst a2; exact ⟨by omega, h2, h4⟩
    · subst a1; subst a2; exact ⟨h2, by omega, h4.symm⟩
  · rintro ⟨h1, h2, h3⟩
    rcases Nat.lt_or_ge s t with q | q
    · exact ⟨s, t, q, h2, rfl, h3⟩
    · exact ⟨t, s, by omega, h1, wl_pq_comm t s, h3.symm⟩
theorem wl_can_of {k : Nat} {v : Nat → Nat} {l : wl_L} {p : Int32 × Int32} (hk : k < 8) (hl : wl_in 8 l) (hp : wl_kp l = some p) (h : wl_hold v l) : wl_can k v p := by
  obtain ⟨E, U⟩ := p
  obtain ⟨e1, e2, hA⟩ := wl_kept hp
  subst e1; subst e2
  obtain ⟨q, h1, h2⟩ := h
  obtain ⟨s, t, e⟩ := q
  have hq := hl _ h1
  unfold wl_lit at h2
  simp only at h2 hq
  have hne : e = true → ¬ s = t := by
    intro he hst
    have : wl_A l = true := by
      unfold wl_A
      exact List.any_eq_true.mpr ⟨_, h1, by simp [he, hst]⟩
    rw [hA] at this; cases this
  cases e with
  | true =>
    have hn := hne rfl
    have hlt := wl_pq_lt s hq.1 t hq.2 hn
    refine Or.inl ⟨wl_pq s t, by omega, (wl_E_bt hl (by omega)).mpr ⟨_, h1, hn, rfl, rfl⟩, ?_⟩
    rcases Nat.lt_or_ge (wl_pq s t) ((k + 1) * k / 2) with g | g
    · obtain ⟨g1, g2⟩ := (wl_pq_in s hq.1 t hq.2 hn k hk).mp g
      exact Or.inl ((wl_eqd_pq hk hq.1 hq.2 hn).mpr ⟨g1, g2, h2.mpr rfl⟩)
    · exact Or.inr g
  | false =>
    have hv : ¬ v s = v t := fun h => by cases h2.mp h
    have hn : ¬ s = t := fun h => hv (by rw [h])
    have hlt := wl_pq_lt s hq.1 t hq.2 hn
    exact Or.inr ⟨wl_pq s t, by omega, (wl_E_bt hl (by omega)).mpr ⟨_, h1, hn, rfl, rfl⟩, fun h => hv ((wl_eqd_pq hk hq.1 hq.2 hn).mp h).2.2⟩
theorem wl_of_can {n : Nat} {v : Nat → Nat} {l : wl_L} {p : Int32 × Int32} (hn8 : n ≤ 8) (hn0 : 0 < n) (hl : wl_in n l) (hp : wl_kp l = some p) (h : wl_can (n - 1) v p) : wl_hold v l := by
  have hl8 := hl.mono hn8
  obtain ⟨E, U⟩ := p
  obtain ⟨e1, e2, hA⟩ := wl_kept hp
  subst e1; subst e2
  rcases h with ⟨b, hb, h1, h2⟩ | ⟨b, hb, h1, h2⟩
  · obtain ⟨q, g1, g2, g3, g4⟩ := (wl_E_bt hl8 hb).mp h1
    have hq := hl q g1
    subst g4
    have hin := (wl_pq_in q.1 (by omega) q.2.1 (by omega) g2 (n - 1) (by omega)).mpr ⟨by omega, by omega⟩
    rcases h2 with h2 | h2
    · have := ((wl_eqd_pq (by omega) (by omega) (by omega) g2).mp h2).2.2
      exact ⟨q, g1, ⟨fun _ => g3, fun _ => this⟩⟩
    · omega
  · obtain ⟨q, g1, g2, g3, g4⟩ := (wl_E_bt hl8 hb).mp h1
    have hq := hl q g1
    subst g4
    refine ⟨q, g1, ⟨fun h => ?_, fun h => ?_⟩⟩
    · exact absurd ((wl_eqd_pq (by omega) (by omega) (by omega) g2).mpr ⟨by omega, by omega, h⟩) h2
    · rw [g3] at h; cases h
def wl_rb (kd fi se : Nat → Nat) (v : Nat → Nat) (k : Nat) : Prop := kd k = 0 ∨ ∀ i, i < k → kd i = kd k → v (fi i) = v (fi k) → v (se i) = v (se k) → v i = v k
def wl_W (kd fi se : Nat → Nat) (n : Nat) (I : List wl_L) (v : Nat → Nat) : Prop := (∀ k, k < n → wl_rb kd fi se v k) ∧ ∀ l, l ∈ I → wl_hold v l
def wl_C (kd fi se : Nat → Nat) (P : List (Int32 × Int32)) (v : Nat → Nat) (k : Nat) : Prop := wl_rb kd fi se v k ∧ ∀ p, p ∈ P → wl_can k v p
theorem wl_iff {kd fi se v : Nat → Nat} {n : Nat} {I : List wl_L} (hn0 : 0 < n) (hn8 : n ≤ 8) (hI : ∀ l, l ∈ I → wl_in n l) : wl_W kd fi se n I v ↔ ∀ k, k < n → wl_C kd fi se (I.filterMap wl_kp) v k := by
  constructor
  · rintro ⟨h1, h2⟩ k hk
    refine ⟨h1 k hk, fun p hp => ?_⟩
    obtain ⟨l, g1, g2⟩ := List.mem_filterMap.mp hp
    exact wl_can_of (by omega) ((hI l g1).mono hn8) g2 (h2 l g1)
  · intro h
    refine ⟨fun k hk => (h k hk).1, fun l hl => ?_⟩
    cases hp : wl_kp l with
    | none => exact wl_drop ((hI l hl).mono hn8) hp v
    | some p => exact wl_of_can hn8 hn0 (hI l hl) hp ((h (n - 1) (by omega)).2 p (List.mem_filterMap.mpr ⟨l, hl, hp⟩))
theorem wl_eqd_eq {k : Nat} {v w : Nat → Nat} (h : lb_eq (k + 1) v w) {b : Nat} : wl_eqd k v b ↔ wl_eqd k w b := by
  constructor
  · rintro ⟨i, j, h1, h2, h3, h4⟩
    exact ⟨i, j, h1, h2, h3, by rw [← h i (by omega), ← h j (by omega)]; exact h4⟩
  · rintro ⟨i, j, h1, h2, h3, h4⟩
    exact ⟨i, j, h1, h2, h3, by rw [h i (by omega), h j (by omega)]; exact h4⟩
theorem wl_can_eq {k : Nat} {v w : Nat → Nat} (h : lb_eq (k + 1) v w) {p : Int32 × Int32} (hc : wl_can k v p) : wl_can k w p := by
  rcases hc with ⟨b, hb, h1, h2⟩ | ⟨b, hb, h1, h2⟩
  · refine Or.inl ⟨b, hb, h1, ?_⟩
    rcases h2 with h2 | h2
    · exact Or.inl ((wl_eqd_eq h).mp h2)
    · exact Or.inr h2
  · exact Or.inr ⟨b, hb, h1, fun q => h2 ((wl_eqd_eq h).mpr q)⟩
theorem wl_rb_eq {kd fi se v w : Nat → Nat} {k : Nat} (hf : ∀ i, i ≤ k → fi i ≤ k ∧ se i ≤ k) (h : lb_eq (k + 1) v w) (hr : wl_rb kd fi se v k) : wl_rb kd fi se w k := by
  rcases hr with hr | hr
  · exact Or.inl hr
  · refine Or.inr fun i hi h1 h2 h3 => ?_
    have f1 := hf i (by omega)
    have f2 := hf k (Nat.le_refl k)
    rw [← h _ (by omega), ← h _ (by omega)] at h2 h3
    rw [← h i (by omega), ← h k (by omega)]
    exact hr i hi h1 h2 h3
theorem wl_C_eq {kd fi se v w : Nat → Nat} {P : List (Int32 × Int32)} {k : Nat} (hf : ∀ i, i ≤ k → fi i ≤ k ∧ se i ≤ k) (h : lb_eq (k + 1) v w) (hc : wl_C kd fi se P v k) : wl_C kd fi se P w k := ⟨wl_rb_eq hf h hc.1, fun p hp => wl_can_eq h (hc.2 p hp)⟩
theorem wl_go {n k b : Nat} {P : (Nat → Nat) → Prop} {v w : Nat → Nat} (hm : lb_mx n (k + 1) P (va_up v k b) w) (hb : ∀ u, lb_ex n k v u → P u → b ≤ u k) : lb_mx n k P v w := by
  obtain ⟨⟨h1, h2⟩, h3, h4⟩ := hm
  have hlow : ∀ i, i < k → w i = v i := fun i hi => by
    have := h2 i (by omega)
    rw [← this]
    unfold va_up
    rw [if_neg (by omega)]
  have hwk : w k = b := by
    have := h2 k (by omega)
    rw [← this]
    unfold va_up
    rw [if_pos rfl]
  refine ⟨⟨h1, fun i hi => (hlow i hi).symm⟩, h3, fun u hu hp hlt => ?_⟩
  obtain ⟨j, g1, g2, g3⟩ := hlt
  have hbu := hb u hu hp
  rcases Nat.lt_trichotomy j k with q | q | q
  · have := hu.2 j q
    have := hlow j q
    omega
  · subst q
    omega
  · refine h4 u ⟨hu.1, fun i hi => ?_⟩ hp ⟨j, g1, g2, g3⟩
    rcases Nat.lt_or_ge i k with r | r
    · unfold va_up
      rw [if_neg (by omega)]
      exact hu.2 i r
    · have : i = k := by omega
      subst this
      unfold va_up
      rw [if_pos rfl, g2 i q, hwk]
theorem wl_no {n k b : Nat} {P : (Nat → Nat) → Prop} {v : Nat → Nat} (hm : ∀ w, lb_ex n (k + 1) (va_up v k b) w → ¬ P w) (hb : ∀ u, lb_ex n k v u → P u → b ≤ u k) : ∀ u, lb_ex n k v u → P u → b + 1 ≤ u k := by
  intro u hu hp
  have h1 := hb u hu hp
  rcases Nat.lt_or_ge b (u k) with h | h
  · exact h
  · exfalso
    have hbk : u k = b := by omega
    refine hm u ⟨hu.1, fun i hi => ?_⟩ hp
    unfold va_up
    rcases Nat.lt_or_ge i k with r | r
    · rw [if_neg (by omega)]
      exact hu.2 i r
    · have : i = k := by omega
      rw [this, if_pos rfl, hbk]
theorem wl_skip {n k b : Nat} {P : (Nat → Nat) → Prop} {v : Nat → Nat} (hkn : k < n) (hbk : b < k) (hv : ¬ v b = b) (hb : ∀ u, lb_ex n k v u → P u → b ≤ u k) : ∀ u, lb_ex n k v u → P u → b + 1 ≤ u k := by
  intro u hu hp
  have h1 := hb u hu hp
  rcases Nat.lt_or_ge b (u k) with h | h
  · exact h
  · exfalso
    have hbk' : u k = b := by omega
    have h2 := (hu.1 k hkn).2
    rw [hbk'] at h2
    exact hv (by rw [hu.2 b hbk]; exact h2)
theorem wl_end {n k : Nat} {P : (Nat → Nat) → Prop} {v : Nat → Nat} (hkn : k < n) (hb : ∀ u, lb_ex n k v u → P u → k + 1 ≤ u k) : ∀ u, lb_ex n k v u → ¬ P u := by
  intro u hu hp
  have h1 := hb u hu hp
  have h2 := (hu.1 k hkn).1
  omega
