theorem nI_dec (k : Nat) : nI (k + 1) + -1 = nI k := by
  have h : nI (k + 1) + -1 = nI (k + 1) - 1 := by
    apply Int32.toBitVec_inj.mp
    rw [Int32.toBitVec_add, Int32.toBitVec_sub, BitVec.sub_eq_add_neg]
    rfl
  rw [h, nI_pred]
def nx_Q (n : Nat) (xs : Nat → Int32) (o : Nat → Int64) (N : Nat) (v : Nat → Nat) (f : Nat → Int32) (a : Nat → Nat → Int32) (k s : Nat) : ax_P := ax_V (fun r h' => (r = some (.int 0) ∧ h' = hp n xs f a o ∧ ∀ i, i < N → v i = i) ∨ (r = some (.int 1) ∧ ∃ g w, h' = hp n xs f (upda a 43 g) o ∧ lb_nx N v w ∧ ∀ i, i < N → g i = nI (w i))) k s
def ft (w p q : Nat) (v : Nat → Nat) : Prop := w = 0 ∨ (v p = v q ↔ w = 1)
def se_Q (n : Nat) (xs : Nat → Int32) (o : Nat → Int64) (N : Nat) (P : (Nat → Nat) → Prop) (f : Nat → Int32) (a : Nat → Nat → Int32) (k s : Nat) : ax_P := ax_V (fun r h' => ∃ g, h' = hp n xs f (upda a 43 g) o ∧ ((r = some (.int 1) ∧ ∃ w, lb_min N P w ∧ ∀ i, i < N → g i = nI (w i)) ∨ (r = some (.int 0) ∧ ∀ u, lb_ok N u → ¬ P u))) k s
theorem wo_eq {c : Nat} {T : tm_T} {Z : List Nat} {K : tm_T} {I : List (List wl_L)} (hk : kz T Z K) (hT : tm_wf c T) (hZ : th_wf c T Z) (hI : ∀ C, C ∈ I → ∀ l, l ∈ C → wl_in Z.length l) {u v : Nat → Nat} (h : lb_eq Z.length u v) (hw : wo K I.flatten u) : wo K I.flatten v := by
  unfold wo at hw ⊢
  rw [← hk.1] at hw ⊢
  refine ⟨fun i hi => ?_, fun l hl => ?_⟩
  · refine wl_rb_eq (fun j hj => ?_) (h.mono (by omega)) (hw.1 i hi)
    have hl : j < K.length := by rw [← hk.1]; omega
    have hq : K[j]? = some K[j] := List.getElem?_eq_getElem hl
    generalize K[j] = q at hq
    have hle := hk.le hT hZ hq
    unfold fif sef
    rw [hq]
    dsimp only
    omega
  · obtain ⟨q, hq, hq2⟩ := hw.2 l hl
    obtain ⟨C, hC, hlC⟩ := List.mem_flatten.mp hl
    have hin := hI C hC l hlC q hq
    refine ⟨q, hq, ?_⟩
    unfold wl_lit at hq2 ⊢
    rw [← h _ hin.1, ← h _ hin.2]
    exact hq2
def ch_at (N : Nat) (W : (Nat → Nat) → Prop) (f : Nat → Int32) (a : Nat → Nat → Int32) : Prop := (f 22 = 1 ∧ ∃ w, lb_min N W w ∧ ∀ i, i < N → a 44 i = nI (w i)) ∨ (f 22 = 0 ∧ ∀ u, lb_ok N u → ¬ W u)
def lk_Q (n : Nat) (xs : Nat → Int32) (o : Nat → Int64) (N : Nat) (W : (Nat → Nat) → Prop) (f : Nat → Int32) (a : Nat → Nat → Int32) (k s : Nat) : ax_P := ax_V (fun r h' => r = none ∧ ∃ f' a', h' = hp n xs f' a' o ∧ ag [21, 22] [43, 44] f a f' a' ∧ f' 21 = 1 ∧ ch_at N W f' a') k s
section HSE
variable {n : Nat} {xs : Nat → Int32} {f : Nat → Int32} {a : Nat → Nat → Int32} {o : Nat → Int64} {d k s : Nat}
theorem q_Mo_next_z {N q b : Nat} (hN : N ≤ 8) (h15 : f 15 = nI N) {v : Nat → Nat} (hq : q < N) (h1 : 0 < q) (h2 : v q < q) (h3 : ∀ i, q < i → i < N → v i = i) (h4 : v q < b) (h5 : b ≤ q) (h6 : b = q ∨ v b = b) (h7 : ∀ b', v q < b' → b' < b → ¬ v b' = b') : ∀ (t i : Nat), i + t = N → q < i → ∀ g : Nat → Int32, (∀ j, j < q → g j = nI (v j)) → g q = nI b → (∀ j, q < j → j < i → g j = 0) → ax_R d 24 74 [.ref 25, .int (nI q), .int (nI b), .int (nI i)] [] (hp n xs f (upda a 43 g) o) k s (nx_Q n xs o N v f a k s) := by
  intro t
  induction t with
  | zero =>
    intro i hi hqi g g1 g2 g3
    iterate 3 refine ax_nx rfl rfl ?_
    refine ax_nxt rfl rfl (by rw [h15]; exact nI_le (by omega) (by omega)) ?_
    refine ax_nx rfl rfl ?_
    refine ax_retb rfl rfl (Or.inr rfl) ⟨_, rfl, rfl, rfl, Or.inr ⟨rfl, g, fun j => if j < q then v j else if j = q then b else 0, rfl, ?_, ?_⟩⟩
    · have eq : (fun j => if j < q then v j else if j = q then b else 0) q = b := by
        dsimp only
        rw [if_neg (Nat.lt_irrefl q), if_pos rfl]
      refine ⟨q, h1, hq, h2, h3, fun i hi => if_pos hi, fun i hi _ => ?_, by rw [eq]; exact h4, by rw [eq]; exact h5, by rw [eq]; exact h6, by rw [eq]; exact h7⟩
      dsimp only
      rw [if_neg (by omega), if_neg (by omega)]
    · intro j hj
      dsimp only
      by_cases c1 : j < q
      · rw [if_pos c1]; exact g1 j c1
      · rw [if_neg c1]
        by_cases c2 : j = q
        · rw [if_pos c2, c2]; exact g2
        · rw [if_neg c2]; exact g3 j (by omega) (by omega)
  | succ t ih =>
    intro i hi hqi g g1 g2 g3
    iterate 3 refine ax_nx rfl rfl ?_
    refine ax_nxf rfl rfl (by rw [h15]; exact nI_ge (by omega) (by omega)) ?_
    iterate 4 refine ax_nx rfl rfl ?_
    refine ax_iasH (h2 := hp n xs f (upda a 43 (upd g i 0)) o) rfl rfl (vp_in_nI (by omega) (by omega)) (by rw [nI_clamp (by omega)]; rfl) ?_
    refine ax_nx (al' := [.ref 25, .int (nI q), .int (nI b), .int (nI i + 1)]) rfl rfl ?_
    rw [nI_1]
    refine ax_nx rfl rfl ?_
    refine ih (i + 1) (by omega) (by omega) _ (fun j hj => (if_neg (by omega)).trans (g1 j hj)) ((if_neg (by omega)).trans g2) (fun j hj hj2 => ?_)
    unfold upd
    by_cases hji : j = i
    · rw [if_pos hji]
    · rw [if_neg hji]
      exact g3 j hj (by omega)
theorem q_Mo_next_b {N q : Nat} (hN : N ≤ 8) (h15 : f 15 = nI N) {v : Nat → Nat} (hv : lw_at N v a) (hq : q < N) (h1 : 0 < q) (h2 : v q < q) (h3 : ∀ i, q < i → i < N → v i = i) : ∀ (t b : Nat), b + t = q → v q < b → (∀ b', v q < b' → b' < b → ¬ v b' = b') → ax_R d 24 42 [.ref 25, .int (nI q), .int (nI b), ax_u] [] (hp n xs f a o) k s (nx_Q n xs o N v f a k s) := by
  have fin : ∀ b, v q < b → b ≤ q → (b = q ∨ v b = b) → (∀ b', v q < b' → b' < b → ¬ v b' = b') → ax_R d 24 63 [.ref 25, .int (nI q), .int (nI b), ax_u] [] (hp n xs f a o) k s (nx_Q n xs o N v f a k s) := by
    intro b h4 h5 h6 h7
    iterate 4 refine ax_nx rfl rfl ?_
    refine ax_iasH (h2 := hp n xs f (upda a 43 (upd (a 43) q (nI b))) o) rfl rfl (vp_in_nI (by omega) (by omega)) (by rw [nI_clamp (by omega)]; rfl) ?_
    iterate 3 refine ax_nx rfl rfl ?_
    refine ax_top (y := nI (q + 1)) (nI_1 q) ?_
    refine ax_nx (al' := [.ref 25, .int (nI q), .int (nI b), .int (nI (q + 1))]) rfl rfl ?_
    exact q_Mo_next_z hN h15 hq h1 h2 h3 h4 h5 h6 h7 (N - (q + 1)) (q + 1) (by omega) (by omega) _ (fun j hj => (if_neg (by omega)).trans (hv j (by omega)).1) (if_pos rfl) (fun j hj hj2 => by omega)
  intro t
  induction t with
  | zero =>
    intro b hb h4 h7
    iterate 2 refine ax_nx rfl rfl ?_
    refine ax_nxt rfl rfl (nI_le (by omega) (by omega)) ?_
    exact fin b h4 (by omega) (Or.inl (by omega)) h7
  | succ t ih =>
    intro b hb h4 h7
    have vb := hv b (by omega)
    iterate 2 refine ax_nx rfl rfl ?_
    refine ax_nxf rfl rfl (nI_ge (by omega) (by omega)) ?_
    iterate 3 refine ax_nx rfl rfl ?_
    refine ax_ia rfl rfl (vp_in_nI (by omega) (by omega)) ?_
    rw [nI_clamp (by omega), vb.1]
    refine ax_nx rfl rfl ?_
    by_cases e : v b = b
    · refine ax_nxt rfl rfl (by rw [e]) ?_
      exact fin b h4 (by omega) (Or.inr e) h7
    · refine ax_nxf rfl rfl (fun h9 => e ((nI_eq (by omega) (by omega)).mp h9)) ?_
      refine ax_nx (al' := [.ref 25, .int (nI q), .int (nI b + 1), ax_u]) rfl rfl ?_
      rw [nI_1]
      refine ax_nx rfl rfl ?_
      refine ih (b + 1) (by omega) (by omega) (fun b' c1 c2 => ?_)
      rcases Nat.lt_succ_iff_lt_or_eq.mp c2 with c2 | rfl
      · exact h7 b' c1 c2
      · exact e
theorem q_Mo_next_k {N : Nat} (hN : N ≤ 8) (h15 : f 15 = nI N) {v : Nat → Nat} (hok : lb_ok N v) (hv : lw_at N v a) : ∀ q : Nat, q < N → (∀ i, q < i → i < N → v i = i) → ax_R d 24 7 [.ref 25, .int (nI q), ax_u, ax_u] [] (hp n xs f a o) k s (nx_Q n xs o N v f a k s) := by
  intro q
  induction q with
  | zero =>
    intro hq hd
    refine ax_nx rfl rfl ?_
    iterate 2 refine ax_nx rfl rfl ?_
    iterate 2 refine ax_nx rfl rfl ?_
    refine ax_retb rfl rfl (Or.inl rfl) ⟨_, rfl, rfl, rfl, Or.inl ⟨rfl, rfl, fun i hi => ?_⟩⟩
    rcases Nat.eq_zero_or_pos i with h9 | h9
    · have := (hok i hi).1
      omega
    · exact hd i h9 hi
  | succ q ih =>
    intro hq hd
    have vq := hv (q + 1) hq
    refine ax_nx rfl rfl ?_
    refine ax_nxf rfl rfl (nI_nle (by omega) (by omega)) ?_
    iterate 3 refine ax_nx rfl rfl ?_
    refine ax_ia rfl rfl (vp_in_nI (by omega) (by omega)) ?_
    rw [nI_clamp (by omega), vq.1]
    refine ax_nx rfl rfl ?_
    by_cases e : v (q + 1) = q + 1
    · refine ax_nxt rfl rfl (by rw [e]) ?_
      refine ax_nx (al' := [.ref 25, .int (nI (q + 1) + -1), ax_u, ax_u]) rfl rfl ?_
      refine ax_nx rfl rfl ?_
      rw [nI_dec]
      refine ih (by omega) (fun i h8 h9 => ?_)
      rcases Nat.lt_or_ge (q + 1) i with h7 | h7
      · exact hd i h7 h9
      · have : i = q + 1 := by omega
        rw [this]; exact e
    · refine ax_nxf rfl rfl (fun h9 => e ((nI_eq (by omega) (by omega)).mp h9)) ?_
      refine ax_nx rfl rfl ?_
      refine ax_nxt rfl rfl (nI_lt (a := 0) (by omega) (by omega)) ?_
      iterate 3 refine ax_nx rfl rfl ?_
      refine ax_ia rfl rfl (vp_in_nI (by omega) (by omega)) ?_
      rw [nI_clamp (by omega), vq.1]
      iterate 2 refine ax_nx rfl rfl ?_
      refine ax_top (y := nI (v (q + 1) + 1)) (nI_1 _) ?_
      refine ax_nx (al' := [.ref 25, .int (nI (q + 1)), .int (nI (v (q + 1) + 1)), ax_u]) rfl rfl ?_
      have hlt : v (q + 1) < q + 1 := by have := (hok (q + 1) hq).1; omega
      exact q_Mo_next_b hN h15 hv hq (by omega) hlt hd (q + 1 - (v (q + 1) + 1)) (v (q + 1) + 1) (by omega) (by omega) (fun b' c1 c2 => by omega)
theorem q_Mo_next {N : Nat} (hN0 : 0 < N) (hN : N ≤ 8) (h15 : f 15 = nI N) {v : Nat → Nat} (hok : lb_ok N v) (hv : lw_at N v a) : ax_R d 24 0 (ax_in 24 [.ref 25]) [] (hp n xs f a o) k s (nx_Q n xs o N v f a k s) := by
  iterate 4 refine ax_nx rfl rfl ?_
  refine ax_top (y := nI (N - 1)) (by show f 15 - 1 = _; rw [h15]; obtain ⟨m, rfl⟩ : ∃ m, N = m + 1 := ⟨N - 1, by omega⟩; exact nI_pred m) ?_
  refine ax_nx (al' := [.ref 25, .int (nI (N - 1)), ax_u, ax_u]) rfl rfl ?_
  exact q_Mo_next_k hN h15 hok hv (N - 1) (by omega) (fun i h8 h9 => by omega)
theorem q_Mo_search_l {c : Nat} {T : tm_T} {Z : List Nat} {K : tm_T} {I : List (List wl_L)} (hc0 : 0 < c) (h : mw_at c T Z K I f a) {w p q : Nat} (hw : w < 3) (hp9 : p < Z.length) (hq9 : q < Z.length) : ∀ (m : Nat) (v : Nat → Nat) (g : Nat → Int32), 8 ^ Z.length ≤ lb_no Z.length v + m → lb_ok Z.length v → (∀ i, i < Z.length → g i = nI (v i)) → (∀ u, lb_ok Z.length u → (ft w p q u ∧ wo K I.flatten u) → ¬ lb_lt Z.length u v) → ∀ x5 : Value, ax_R (d + 2) 19 7 [.ref 25, .int (nI p), .int (nI q), .int (nI w), .int 1, x5] [] (hp n xs f (upda a 43 g) o) k s (se_Q n xs o Z.length (fun u => ft w p q u ∧ wo K I.flatten u) f a k s) := by
  have h8 := h.2.1.2.1
  have h15 := h.2.1.1
  intro m
  induction m with
  | zero =>
    intro v g hm hok hg hlow x5
    have := lb_no_le (v := v) Z.length (fun i hi => by have := (hok i hi).1; omega)
    omega
  | succ m ih =>
    intro v g hm hok hg hlow x5
    have hv8 : ∀ i, i < Z.length → v i < 8 := fun i hi => by have := (hok i hi).1; omega
    have hv : lw_at Z.length v (upda a 43 g) := fun i hi => ⟨hg i hi, hv8 i hi⟩
    have hga : ag [] [43] f a f (upda a 43 g) := ⟨fun _ _ => rfl, fun j hj => if_neg (fun h9 => hj (by rw [h9]; decide))⟩
    have hmw := h.kept hga (by decide) (by decide)
    have pe : ∀ {u : Nat → Nat}, lb_eq Z.length u v → (ft w p q u ∧ wo K I.flatten u) → (ft w p q v ∧ wo K I.flatten v) := by
      intro u hu ⟨h9, h10⟩
      refine ⟨?_, wo_eq h.2.2.2.1 h.1.1 h.2.2.2.2.1 h.2.2.2.2.2 hu h10⟩
      unfold ft at h9 ⊢
      rw [← hu p hp9, ← hu q hq9]
      exact h9
    have step : ¬ (ft w p q v ∧ wo K I.flatten v) → ∀ x5 : Value, ax_R (d + 2) 19 70 [.ref 25, .int (nI p), .int (nI q), .int (nI w), .int 1, x5] [] (hp n xs f (upda a 43 g) o) k s (se_Q n xs o Z.length (fun u => ft w p q u ∧ wo K I.flatten u) f a k s) := by
      intro hno x5
      refine ax_nx rfl rfl ?_
      refine ax_cal (d := d + 1) rfl rfl (q_Mo_next (d := d + 1) (by omega) h8 h15 hok hv) (fun v h' hh => ?_)
      rcases hh with ⟨rfl, rfl, hall⟩ | ⟨rfl, g2, w2, rfl, hnx, hg2⟩
      · refine ax_nx (al' := [.ref 25, .int (nI p), .int (nI q), .int (nI w), .int 0, x5]) rfl rfl ?_
        iterate 2 refine ax_nx rfl rfl ?_
        iterate 2 refine ax_nx rfl rfl ?_
        refine ax_retb rfl rfl (Or.inl rfl) ⟨_, rfl, rfl, rfl, g, rfl, Or.inr ⟨rfl, fun u hu hu2 => ?_⟩⟩
        rcases lb_last hall hu with h9 | h9
        · exact hlow u hu hu2 h9
        · exact hno (pe (fun i hi => (h9 i hi)) hu2)
      · refine ax_nx (al' := [.ref 25, .int (nI p), .int (nI q), .int (nI w), .int 1, x5]) rfl rfl ?_
        refine ax_nx rfl rfl ?_
        refine ih w2 g2 ?_ (hnx.ok hok) hg2 (fun u hu hu2 hlt => ?_) _
        · have := lb_no_lt Z.length hv8 hnx.lt
          omega
        · rcases hnx.gap hu hlt with h9 | h9
          · exact hlow u hu hu2 h9
          · exact hno (pe (fun i hi => (h9 i hi)) hu2)
    have world : ft w p q v → ∀ x5 : Value, ax_R (d + 2) 19 61 [.ref 25, .int (nI p), .int (nI q), .int (nI w), .int 1, x5] [] (hp n xs f (upda a 43 g) o) k s (se_Q n xs o Z.length (fun u => ft w p q u ∧ wo K I.flatten u) f a k s) := by
      intro hft x5
      refine ax_nx rfl rfl ?_
      refine ax_cal (d := d + 1) rfl rfl (q_Mo_isW (d := d) hmw hv) (fun v h' hh => ?_)
      obtain ⟨⟨b, rfl, hb⟩, rfl⟩ := hh
      cases b with
      | true =>
        iterate 2 refine ax_nx rfl rfl ?_
        exact ax_retb rfl rfl (Or.inr rfl) ⟨_, rfl, rfl, rfl, g, rfl, Or.inl ⟨rfl, v, ⟨hok, ⟨hft, hb.mp rfl⟩, hlow⟩, hg⟩⟩
      | false =>
        refine ax_nx rfl rfl ?_
        exact step (fun h9 => by have := hb.mpr h9.2; cases this) _
    obtain rfl | hw0 : w = 0 ∨ 0 < w := by omega
    · refine ax_nx rfl rfl ?_
      iterate 2 refine ax_nx rfl rfl ?_
      iterate 3 refine ax_nx rfl rfl ?_
      refine ax_nx (al' := [.ref 25, .int (nI p), .int (nI q), .int (nI 0), .int 1, .int 1]) rfl rfl ?_
      refine ax_nx rfl rfl ?_
      refine ax_nx rfl rfl ?_
      exact world (Or.inl rfl) _
    refine ax_nx rfl rfl ?_
    iterate 2 refine ax_nx rfl rfl ?_
    refine ax_nxf rfl rfl (nI_ne0 hw0 (by omega)) ?_
    iterate 3 refine ax_nx rfl rfl ?_
    refine ax_ia rfl rfl (vp_in_nI (by omega) (by omega)) ?_
    rw [nI_clamp (by omega), show upda a 43 g 43 p = g p from rfl, hg p hp9]
    iterate 3 refine ax_nx rfl rfl ?_
    refine ax_ia rfl rfl (vp_in_nI (by omega) (by omega)) ?_
    rw [nI_clamp (by omega), show upda a 43 g 43 q = g q from rfl, hg q hq9]
    by_cases e : v p = v q
    · refine ax_nxt rfl rfl (by rw [e]) ?_
      iterate 4 refine ax_nx rfl rfl ?_
      obtain rfl | rfl : w = 1 ∨ w = 2 := by omega
      · iterate 3 refine ax_nx rfl rfl ?_
        iterate 3 refine ax_nx rfl rfl ?_
        refine ax_nx (al' := [.ref 25, .int (nI p), .int (nI q), .int (nI 1), .int 1, .int 1]) rfl rfl ?_
        refine ax_nx rfl rfl ?_
        refine ax_nx rfl rfl ?_
        exact world (Or.inr (by simp [e])) _
      · iterate 2 refine ax_nx rfl rfl ?_
        iterate 2 refine ax_nx rfl rfl ?_
        refine ax_nx (al' := [.ref 25, .int (nI p), .int (nI q), .int (nI 2), .int 1, .int 0]) rfl rfl ?_
        refine ax_nx rfl rfl ?_
        refine ax_nx rfl rfl ?_
        refine step (fun h9 => ?_) _
        have h10 := h9.1
        unfold ft at h10
        simp [e] at h10
    · refine ax_nxf rfl rfl (fun h9 => e ((nI_eq (by have := hv8 p hp9; omega) (by have := hv8 q hq9; omega)).mp h9)) ?_
      iterate 3 refine ax_nx rfl rfl ?_
      obtain rfl | rfl : w = 1 ∨ w = 2 := by omega
      · iterate 3 refine ax_nx rfl rfl ?_
        iterate 2 refine ax_nx rfl rfl ?_
        refine ax_nx (al' := [.ref 25, .int (nI p), .int (nI q), .int (nI 1), .int 1, .int 0]) rfl rfl ?_
        refine ax_nx rfl rfl ?_
        refine ax_nx rfl rfl ?_
        refine step (fun h9 => ?_) _
        have h10 := h9.1
        unfold ft at h10
        simp [e] at h10
      · iterate 2 refine ax_nx rfl rfl ?_
        iterate 3 refine ax_nx rfl rfl ?_
        refine ax_nx (al' := [.ref 25, .int (nI p), .int (nI q), .int (nI 2), .int 1, .int 1]) rfl rfl ?_
        refine ax_nx rfl rfl ?_
        refine ax_nx rfl rfl ?_
        exact world (Or.inr (by simp [e])) _
theorem q_Mo_search {c : Nat} {T : tm_T} {Z : List Nat} {K : tm_T} {I : List (List wl_L)} (hc0 : 0 < c) (h : mw_at c T Z K I f a) {w p q : Nat} (hw : w < 3) (hp9 : p < Z.length) (hq9 : q < Z.length) : ax_R (d + 2) 19 0 (ax_in 19 [.ref 25, .int (nI p), .int (nI q), .int (nI w)]) [] (hp n xs f a o) k s (se_Q n xs o Z.length (fun u => ft w p q u ∧ wo K I.flatten u) f a k s) := by
  have h8 := h.2.1.2.1
  refine ax_nx rfl rfl ?_
  refine ax_cal (d := d + 1) rfl rfl (q_Mo_lowest) (fun v h' hh => ?_)
  obtain ⟨rfl, g, rfl, hg⟩ := hh
  refine ax_nx rfl rfl ?_
  refine ax_nx (al' := [.ref 25, .int (nI p), .int (nI q), .int (nI w), .int 1, ax_u]) rfl rfl ?_
  exact q_Mo_search_l hc0 h hw hp9 hq9 (8 ^ Z.length) (fun _ => 0) g (by omega) (fun i hi => ⟨Nat.zero_le _, rfl⟩) (fun i hi => hg i (by omega)) (fun u hu _ => lb_first (fun _ _ => rfl)) _
theorem q_Mo_look_l {g : Nat → Int32} : ∀ (t i : Nat) (e : Nat → Int32), i + t = 8 → (∀ j, j < i → e j = g j) → ax_R d 18 26 [.ref 25, .int (nI i)] [] (hp n xs f (upda (upda a 43 g) 44 e) o) k s (ax_V (fun r h' => r = none ∧ ∃ e, h' = hp n xs f (upda (upda a 43 g) 44 e) o ∧ ∀ j, j < 8 → e j = g j) k s) := by
  intro t
  induction t with
  | zero =>
    intro i e hi he
    have hie : i = 8 := by omega
    subst hie
    iterate 2 refine ax_nx rfl rfl ?_
    refine ax_nx rfl rfl ?_
    exact ax_ret rfl rfl ⟨_, rfl, rfl, rfl, rfl, e, rfl, he⟩
  | succ t ih =>
    intro i e hi he
    iterate 2 refine ax_nx rfl rfl ?_
    refine ax_nxf rfl rfl (nI_ge (b := 8) (by omega) (by omega)) ?_
    iterate 6 refine ax_nx rfl rfl ?_
    refine ax_ia rfl rfl (vp_in_nI (by omega) (by omega)) ?_
    rw [nI_clamp (by omega)]
    refine ax_top (y := g i) rfl ?_
    refine ax_iasH (h2 := hp n xs f (upda (upda a 43 g) 44 (upd e i (g i))) o) rfl rfl (vp_in_nI (by omega) (by omega)) (by rw [nI_clamp (by omega)]; rfl) ?_
    refine ax_nx (al' := [.ref 25, .int (nI i + 1)]) rfl rfl ?_
    rw [nI_1]
    refine ax_nx rfl rfl ?_
    refine ih (i + 1) _ (by omega) (fun j hj => ?_)
    unfold upd
    by_cases hji : j = i
    · rw [if_pos hji, hji]
    · rw [if_neg hji]
      exact he j (by omega)
theorem q_Mo_lookFor {c : Nat} {T : tm_T} {Z : List Nat} {K : tm_T} {I : List (List wl_L)} (hc0 : 0 < c) (h : mw_at c T Z K I f a) (hch : f 21 = 0 ∨ (f 21 = 1 ∧ ch_at Z.length (wo K I.flatten) f a)) : ax_R (d + 3) 18 0 (ax_in 18 [.ref 25]) [] (hp n xs f a o) k s (lk_Q n xs o Z.length (wo K I.flatten) f a k s) := by
  have hN8 := h.2.1.2.1
  have hN0 : 0 < Z.length := Nat.lt_of_le_of_lt (Nat.zero_le _) (tm_lt (h.2.2.2.2.1.2.1 0 hc0))
  rcases hch with h21 | ⟨h21, hch⟩
  rotate_left
  · iterate 2 refine ax_nx rfl rfl ?_
    rw [h21]
    refine ax_nx rfl rfl ?_
    exact ax_ret rfl rfl ⟨_, rfl, rfl, rfl, rfl, f, a, rfl, ag.rf, h21, hch⟩
  iterate 2 refine ax_nx rfl rfl ?_
  rw [h21]
  iterate 3 refine ax_nx rfl rfl ?_
  refine ax_nx (h' := hp n xs (upd f 21 1) a o) rfl rfl ?_
  iterate 5 refine ax_nx rfl rfl ?_
  have g0 : ag [21] [] f a (upd f 21 1) a := ag.f1
  refine ax_cal (d := d + 2) rfl rfl (q_Mo_search (d := d) (w := 0) (p := 0) (q := 0) hc0 (h.kept g0 (by decide) (by decide)) (by omega) hN0 hN0) (fun v h' hh => ?_)
  obtain ⟨g, rfl, hh⟩ := hh
  have hP : ∀ u, (ft 0 0 0 u ∧ wo K I.flatten u) ↔ wo K I.flatten u := fun u => ⟨fun h9 => h9.2, fun h9 => ⟨Or.inl rfl, h9⟩⟩
  have gfin : ∀ (b : Int32) (e : Nat → Int32), ag [21, 22] [43, 44] f a (upd (upd f 21 1) 22 b) (upda (upda a 43 g) 44 e) := by
    intro b e
    refine ⟨fun j hj => ?_, fun j hj => ?_⟩
    · simp only [List.mem_cons, List.not_mem_nil, or_false, not_or] at hj
      simp [upd, hj]
    · simp only [List.mem_cons, List.not_mem_nil, or_false, not_or] at hj
      simp [upda, hj]
  rcases hh with ⟨rfl, w, hw, hg⟩ | ⟨rfl, hno⟩
  · refine ax_nx (h' := hp n xs (upd (upd f 21 1) 22 1) (upda a 43 g) o) rfl rfl ?_
    refine ax_nx rfl rfl ?_
    refine ax_nx (h' := hp n xs (upd (upd f 21 1) 22 1) (upda (upda a 43 g) 44 (a 44)) o) (al' := [.ref 25, .int (nI 0)]) rfl rfl ?_
    refine (q_Mo_look_l 8 0 (a 44) (by omega) (fun j hj => absurd hj (Nat.not_lt_zero _))).mono ?_
    rintro o1 h1 k1 s1 ⟨r, e1, e2, e3, rfl, e, rfl, he⟩
    exact ⟨_, e1, e2, e3, rfl, _, _, rfl, gfin _ e, rfl, Or.inl ⟨rfl, w, ⟨hw.1, hw.2.1.2, fun u hu hu2 => hw.2.2 u hu ((hP u).mpr hu2)⟩, fun i hi => (he i (by omega)).trans (hg i hi)⟩⟩
  · refine ax_nx (h' := hp n xs (upd (upd f 21 1) 22 0) (upda a 43 g) o) rfl rfl ?_
    refine ax_nx rfl rfl ?_
    refine ax_nx (h' := hp n xs (upd (upd f 21 1) 22 0) (upda (upda a 43 g) 44 (a 44)) o) (al' := [.ref 25, .int (nI 0)]) rfl rfl ?_
    refine (q_Mo_look_l 8 0 (a 44) (by omega) (fun j hj => absurd hj (Nat.not_lt_zero _))).mono ?_
    rintro o1 h1 k1 s1 ⟨r, e1, e2, e3, rfl, e, rfl, he⟩
    exact ⟨_, e1, e2, e3, rfl, _, _, rfl, gfin _ e, rfl, Or.inr ⟨rfl, fun u hu hu2 => hno u hu ((hP u).mpr hu2)⟩⟩
theorem q_Mo_contra {N : Nat} {W : (Nat → Nat) → Prop} (hl : ax_R d 18 0 (ax_in 18 [.ref 25]) [] (hp n xs (upd f 12 0) a o) k s (lk_Q n xs o N W (upd f 12 0) a k s)) : ax_R (d + 1) 17 0 (ax_in 17 [.ref 25]) [] (hp n xs f a o) k s (ax_V (fun v h' => ∃ f' a', h' = hp n xs f' a' o ∧ ag [12, 21, 22] [43, 44] f a f' a' ∧ f' 21 = 1 ∧ ch_at N W f' a' ∧ ∃ b : Bool, v = some (.int (bI b)) ∧ (b = true ↔ ∀ u, lb_ok N u → ¬ W u)) k s) := by
  iterate 2 refine ax_nx rfl rfl ?_
  refine ax_nx (h' := hp n xs (upd f 12 0) a o) rfl rfl ?_
  refine ax_nx rfl rfl ?_
  refine ax_cal (d := d) rfl rfl (hl) (fun v h' hh => ?_)
  obtain ⟨rfl, f1, a1, rfl, g1, h21, hch⟩ := hh
  have gw : ag [12, 21, 22] [43, 44] f a f1 a1 := ((ag.f1 (A := [])).wide (by simp) (by simp)).trans (g1.wide (by simp) (by simp))
  rcases id hch with ⟨h22, w, hw, -⟩ | ⟨h22, hno⟩
  · iterate 2 refine ax_nx rfl rfl ?_
    rw [h22]
    iterate 2 refine ax_nx rfl rfl ?_
    exact ax_retb rfl rfl (Or.inl rfl) ⟨_, rfl, rfl, rfl, f1, a1, rfl, gw, h21, hch, false, rfl, iff_of_false (by decide) (fun h9 => h9 w hw.1 hw.2.1)⟩
  · iterate 2 refine ax_nx rfl rfl ?_
    rw [h22]
    iterate 3 refine ax_nx rfl rfl ?_
    exact ax_retb rfl rfl (Or.inr rfl) ⟨_, rfl, rfl, rfl, f1, a1, rfl, gw, h21, hch, true, rfl, iff_of_true rfl hno⟩
theorem q_Mo_label_no {c : Int32} (h : ¬ (0 ≤ c ∧ c < f 15)) : ax_R (d + 1) 26 0 (ax_in 26 [.ref 25, .int c]) [] (hp n xs f a o) k s (ax_V (fun v h' => v = some (.int 0) ∧ h' = hp n xs (upd (upd f 12 0) 12 1) a o) k s) := by
  iterate 2 refine ax_nx rfl rfl ?_
  refine ax_nx (h' := hp n xs (upd f 12 0) a o) rfl rfl ?_
  iterate 2 refine ax_nx rfl rfl ?_
  refine ax_nx (st' := [.int (f 15), .int c]) rfl rfl ?_
  refine ax_cal rfl rfl (q_Mo_out (m := f 15)) (fun v h' hh => ?_)
  obtain ⟨rfl, rfl⟩ := hh
  rw [if_neg h]
  iterate 3 refine ax_nx rfl rfl ?_
  refine ax_cal rfl rfl (q_Mo_fail) (fun v h' hh => ?_)
  obtain ⟨rfl, rfl⟩ := hh
  exact ax_ret rfl rfl ⟨_, rfl, rfl, rfl, rfl, rfl⟩
theorem q_Mo_label {N j : Nat} {W : (Nat → Nat) → Prop} (h15 : f 15 = nI N) (hj : j < N) (hN : N ≤ 8) (hl : ax_R (d + 1) 18 0 (ax_in 18 [.ref 25]) [] (hp n xs (upd f 12 0) a o) k s (lk_Q n xs o N W (upd f 12 0) a k s)) : ax_R (d + 2) 26 0 (ax_in 26 [.ref 25, .int (nI j)]) [] (hp n xs f a o) k s (ax_V (fun v h' => ∃ f' a', h' = hp n xs f' a' o ∧ ag [12, 21, 22] [43, 44] f a f' a' ∧ f' 21 = 1 ∧ ch_at N W f' a' ∧ ((f' 12 = 0 ∧ ∃ w, lb_min N W w ∧ v = some (.int (nI (w j)))) ∨ (f' 12 = 2 ∧ v = some (.int 0) ∧ ∀ u, lb_ok N u → ¬ W u))) k s) := by
  iterate 2 refine ax_nx rfl rfl ?_
  refine ax_nx (h' := hp n xs (upd f 12 0) a o) rfl rfl ?_
  iterate 2 refine ax_nx rfl rfl ?_
  refine ax_nx (st' := [.int (f 15), .int (nI j)]) rfl rfl ?_
  refine ax_cal (d := d + 1) rfl rfl (q_Mo_out (m := f 15)) (fun v h' hh => ?_)
  obtain ⟨rfl, rfl⟩ := hh
  rw [h15, if_pos (nI_has' hj (by omega))]
  iterate 2 refine ax_nx rfl rfl ?_
  refine ax_cal (d := d + 1) rfl rfl (hl) (fun v h' hh => ?_)
  obtain ⟨rfl, f1, a1, rfl, g1, h21, hch⟩ := hh
  have gw : ag [12, 21, 22] [43, 44] f a f1 a1 := ((ag.f1 (A := [])).wide (by simp) (by simp)).trans (g1.wide (by simp) (by simp))
  have h12 : f1 12 = 0 := (g1.1 12 (by decide)).trans rfl
  rcases id hch with ⟨h22, w, hw, hw2⟩ | ⟨h22, hno⟩
  · iterate 2 refine ax_nx rfl rfl ?_
    rw [h22]
    iterate 4 refine ax_nx rfl rfl ?_
    refine ax_ia rfl rfl (vp_in_nI (by omega) (by omega)) ?_
    rw [nI_clamp (by omega), hw2 j hj]
    refine ax_nx rfl rfl ?_
    exact ax_ret rfl rfl ⟨_, rfl, rfl, rfl, f1, a1, rfl, gw, h21, hch, Or.inl ⟨h12, w, hw, rfl⟩⟩
  · iterate 2 refine ax_nx rfl rfl ?_
    rw [h22]
    iterate 3 refine ax_nx rfl rfl ?_
    refine ax_cal (d := d + 1) rfl rfl (q_Mo_fail) (fun v h' hh => ?_)
    obtain ⟨rfl, rfl⟩ := hh
    have g2 : ag [12] [] f1 a1 (upd f1 12 2) a1 := ag.f1
    exact ax_ret rfl rfl ⟨_, rfl, rfl, rfl, _, a1, rfl, gw.trans (g2.wide (by simp) (by simp)), h21, hch, Or.inr ⟨rfl, rfl, hno⟩⟩
theorem q_Mo_follows_no {p q z : Int32} (h : ¬ ((0 ≤ p ∧ p < f 15) ∧ 0 ≤ q ∧ q < f 15)) : ax_R (d + 1) 25 0 (ax_in 25 [.ref 25, .int p, .int q, .int z]) [] (hp n xs f a o) k s (ax_V (fun v h' => v = some (.int 0) ∧ h' = hp n xs (upd f 12 1) a o) k s) := by
  have fin : ax_R (d + 1) 25 23 [.ref 25, .int p, .int q, .int z] [.ref 25] (hp n xs f a o) k s (ax_V (fun v h' => v = some (.int 0) ∧ h' = hp n xs (upd f 12 1) a o) k s) := by
    iterate 2 refine ax_nx rfl rfl ?_
    refine ax_nx (h' := hp n xs (upd f 12 1) a o) rfl rfl ?_
    refine ax_nx rfl rfl ?_
    refine ax_nx (st' := [.int 1]) rfl rfl ?_
    iterate 2 refine ax_nx rfl rfl ?_
    exact ax_retb rfl rfl (Or.inl rfl) ⟨_, rfl, rfl, rfl, rfl, rfl⟩
  by_cases hp1 : 0 ≤ p ∧ p < f 15
  · iterate 4 refine ax_nx rfl rfl ?_
    refine ax_cal rfl rfl (q_Mo_out (m := f 15)) (fun v h' hh => ?_)
    obtain ⟨rfl, rfl⟩ := hh
    rw [if_pos hp1]
    iterate 4 refine ax_nx rfl rfl ?_
    refine ax_cal rfl rfl (q_Mo_out (m := f 15)) (fun v h' hh => ?_)
    obtain ⟨rfl, rfl⟩ := hh
    rw [if_neg (fun h9 => h ⟨hp1, h9⟩)]
    refine ax_nx rfl rfl ?_
    exact fin
  · iterate 4 refine ax_nx rfl rfl ?_
    refine ax_cal rfl rfl (q_Mo_out (m := f 15)) (fun v h' hh => ?_)
    obtain ⟨rfl, rfl⟩ := hh
    rw [if_neg hp1]
    refine ax_nx rfl rfl ?_
    exact fin
theorem q_Mo_follows {c : Nat} {T : tm_T} {Z : List Nat} {K : tm_T} {I : List (List wl_L)} (hc0 : 0 < c) (h : mw_at c T Z K I f a) {p q : Nat} (hp9 : p < Z.length) (hq9 : q < Z.length) (e : Bool) : ax_R (d + 3) 25 0 (ax_in 25 [.ref 25, .int (nI p), .int (nI q), .int (bI e)]) [] (hp n xs f a o) k s (ax_V (fun v h' => ∃ g, h' = hp n xs (upd f 12 0) (upda a 43 g) o ∧ ∃ b : Bool, v = some (.int (bI b)) ∧ (b = true ↔ ∀ u, lb_ok Z.length u → ¬ (ft (if e = true then 2 else 1) p q u ∧ wo K I.flatten u))) k s) := by
  have h8 := h.2.1.2.1
  have h15 := h.2.1.1
  have g0 : ag [12] [] f a (upd f 12 0) a := ag.f1
  have hm := h.kept g0 (by decide) (by decide)
  iterate 4 refine ax_nx rfl rfl ?_
  refine ax_cal (d := d + 2) rfl rfl (q_Mo_out (m := f 15)) (fun v h' hh => ?_)
  obtain ⟨rfl, rfl⟩ := hh
  rw [h15, if_pos (nI_has' hp9 (by omega))]
  iterate 4 refine ax_nx rfl rfl ?_
  refine ax_cal (d := d + 2) rfl rfl (q_Mo_out (m := f 15)) (fun v h' hh => ?_)
  obtain ⟨rfl, rfl⟩ := hh
  rw [h15, if_pos (nI_has' hq9 (by omega))]
  iterate 2 refine ax_nx rfl rfl ?_
  refine ax_nx (h' := hp n xs (upd f 12 0) a o) rfl rfl ?_
  refine ax_nx rfl rfl ?_
  refine ax_nx (st' := [.int 0]) rfl rfl ?_
  iterate 5 refine ax_nx rfl rfl ?_
  cases e with
  | true =>
    iterate 3 refine ax_nx rfl rfl ?_
    refine ax_top (y := nI 2) (rfl) ?_
    refine ax_cal (d := d + 2) rfl rfl (q_Mo_search (d := d) (w := 2) hc0 hm (by omega) hp9 hq9) (fun v h' hh => ?_)
    obtain ⟨g, rfl, hh⟩ := hh
    rcases hh with ⟨rfl, w, hw, -⟩ | ⟨rfl, hno⟩
    · iterate 2 refine ax_nx rfl rfl ?_
      exact ax_retb rfl rfl (Or.inl rfl) ⟨_, rfl, rfl, rfl, g, rfl, false, rfl, iff_of_false (by decide) (fun h9 => h9 w hw.1 hw.2.1)⟩
    · iterate 3 refine ax_nx rfl rfl ?_
      exact ax_retb rfl rfl (Or.inr rfl) ⟨_, rfl, rfl, rfl, g, rfl, true, rfl, iff_of_true rfl hno⟩
  | false =>
    iterate 2 refine ax_nx rfl rfl ?_
    refine ax_top (y := nI 1) (rfl) ?_
    refine ax_cal (d := d + 2) rfl rfl (q_Mo_search (d := d) (w := 1) hc0 hm (by omega) hp9 hq9) (fun v h' hh => ?_)
    obtain ⟨g, rfl, hh⟩ := hh
    rcases hh with ⟨rfl, w, hw, -⟩ | ⟨rfl, hno⟩
    · iterate 2 refine ax_nx rfl rfl ?_
      exact ax_retb rfl rfl (Or.inl rfl) ⟨_, rfl, rfl, rfl, g, rfl, false, rfl, iff_of_false (by decide) (fun h9 => h9 w hw.1 hw.2.1)⟩
    · iterate 3 refine ax_nx rfl rfl ?_
      exact ax_retb rfl rfl (Or.inr rfl) ⟨_, rfl, rfl, rfl, g, rfl, true, rfl, iff_of_true rfl hno⟩
end HSE
