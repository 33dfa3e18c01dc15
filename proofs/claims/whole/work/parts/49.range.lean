def vb (w : Nat) : Nat := if w = 3 then 1 else 2
def oc (T : tm_T) (w u : Nat) : Bool := decide (¬ tm_V T u &&& vb w = 0)
def md_at (D : dr_L) (f : Nat → Int32) (a : Nat → Nat → Int32) : Prop := f 18 = nI D.length ∧ D.length ≤ 4 ∧ ∀ (i : Nat) (q : Nat × Nat × Bool), D[i]? = some q → a 34 i = nI q.1 ∧ a 35 i = nI q.2.1 ∧ a 36 i = bI q.2.2
theorem md_at.kept {D : dr_L} {F A : List Nat} {f f' : Nat → Int32} {a a' : Nat → Nat → Int32} (h : md_at D f a) (g : ag F A f a f' a') (hF : 18 ∉ F) (hA : 34 ∉ A ∧ 35 ∉ A ∧ 36 ∉ A) : md_at D f' a' := by
  obtain ⟨h1, h2, h3⟩ := h
  refine ⟨(g.1 18 hF).trans h1, h2, ?_⟩
  rw [g.2 34 hA.1, g.2 35 hA.2.1, g.2 36 hA.2.2]
  exact h3
theorem oc_or {p q b : Nat} : (¬ (p ||| q) &&& b = 0) ↔ (¬ p &&& b = 0 ∨ ¬ q &&& b = 0) := by
  rw [Nat.and_or_distrib_right, Nat.or_eq_zero_iff]
  constructor
  · intro h
    by_cases h1 : p &&& b = 0
    · exact Or.inr (fun h2 => h ⟨h1, h2⟩)
    · exact Or.inl h1
  · rintro (h | h) ⟨h1, h2⟩
    · exact h h1
    · exact h h2
theorem dv_0 {V : Nat → Nat} {b : Nat} : ∀ {l : dr_L} {x : Nat}, dv V x l &&& b = 0 ↔ x &&& b = 0 ∧ ∀ q, q ∈ l → V q.1 &&& b = 0 ∧ V q.2.1 &&& b = 0 := by
  intro l
  induction l with
  | nil => intro x; exact ⟨fun h => ⟨h, fun q hq => by cases hq⟩, fun h => h.1⟩
  | cons q l ih =>
    intro x
    show dv V (x ||| (V q.1 ||| V q.2.1)) l &&& b = 0 ↔ _
    rw [ih, Nat.and_or_distrib_right, Nat.and_or_distrib_right, Nat.or_eq_zero_iff, Nat.or_eq_zero_iff]
    constructor
    · rintro ⟨⟨h1, h2, h3⟩, h4⟩
      refine ⟨h1, fun w hw => ?_⟩
      rcases List.mem_cons.mp hw with rfl | hw
      · exact ⟨h2, h3⟩
      · exact h4 w hw
    · rintro ⟨h1, h2⟩
      have := h2 q List.mem_cons_self
      exact ⟨⟨h1, this.1, this.2⟩, fun w hw => h2 w (List.mem_cons_of_mem _ hw)⟩
section HRA
variable {n : Nat} {xs : Nat → Int32} {f : Nat → Int32} {a : Nat → Nat → Int32} {o : Nat → Int64} {d k s : Nat}
theorem q_Mo_con {c : Nat} {T : tm_T} {w : Nat} {t9 : Int32} {Q : ax_P} (hw : w = 3 ∨ w = 4) : ∀ (u : Nat), u < T.length → ∀ (m : Nat) (f : Nat → Int32) (a : Nat → Nat → Int32) (fd : Bool) (x4 : Value), mt_at c T f a → m + u < 60 → f 16 = nI (m + 1) → a 33 m = nI u →
    (∀ (f' : Nat → Int32) (a' : Nat → Nat → Int32) (x4' : Value), ag [16] [33] f a f' a' → f' 16 = nI m → (∀ j, j < m → a' 33 j = a 33 j) → ax_R (d + 1) 12 12 [.ref 25, .int t9, .int (nI w), .int (bI (fd || oc T w u)), x4'] [] (hp n xs f' a' o) k s Q) → ax_R (d + 1) 12 12 [.ref 25, .int t9, .int (nI w), .int (bI fd), x4] [] (hp n xs f a o) k s Q := by
  intro u
  induction u using Nat.strongRecOn with
  | _ u ih =>
  intro hul m f a fd x4 hmt hmu h16 h33 hQ
  obtain ⟨hT, h20, h14, htb, hG⟩ := id hmt
  have hg : T[u]? = some T[u] := List.getElem?_eq_getElem hul
  generalize T[u] = e at hg
  obtain ⟨k1, k2, k3, l1, l2, l3⟩ := htb u e hg
  have hkd := hT.2.2 u e hg
  have hV := tm_V_vs hT u e hg
  have hgr := hG u hul
  iterate 2 refine ax_nx rfl rfl ?_
  refine ax_nxf rfl rfl (by rw [h16]; exact nI_nle (by omega) (by omega)) ?_
  iterate 5 refine ax_nx rfl rfl ?_
  refine ax_top (y := nI m) (by show f 16 - 1 = _; rw [h16]; exact nI_pred m) ?_
  refine ax_nx (h' := hp n xs (upd f 16 (nI m)) a o) rfl rfl ?_
  iterate 3 refine ax_nx rfl rfl ?_
  refine ax_nx (st' := [.int (nI m), .ref 33]) rfl rfl ?_
  refine ax_ia rfl rfl (vp_in_nI (by omega) (by omega)) ?_
  rw [nI_clamp (by omega), h33]
  refine ax_nx (al' := [.ref 25, .int t9, .int (nI w), .int (bI fd), .int (nI u)]) rfl rfl ?_
  have g0 : ag [16] [33] f a (upd f 16 (nI m)) a := (ag.f1 (A := [])).wide (by simp) (by simp)
  have seg : ∀ fd' : Bool, fd' = (fd || decide (e.1 = w)) → ax_R (d + 1) 12 61 [.ref 25, .int t9, .int (nI w), .int (bI fd'), .int (nI u)] [] (hp n xs (upd f 16 (nI m)) a o) k s Q := by
    intro fd' hfd
    by_cases hv : tm_V T u = 0
    · iterate 3 refine ax_nx rfl rfl ?_
      refine ax_ba rfl rfl (vp_in_nI (by omega) (by omega)) ?_
      rw [nI_clamp (by omega), hgr]
      rw [show gI (tm_V T u) = 1 from if_pos hv]
      iterate 4 refine ax_nx rfl rfl ?_
      refine ax_ba rfl rfl (vp_in_nI (by omega) (by omega)) ?_
      rw [nI_clamp (by omega), hgr]
      rw [show gI (tm_V T u) = 1 from if_pos hv]
      iterate 2 refine ax_nx rfl rfl ?_
      have hoc : oc T w u = false := by unfold oc; rw [hv]; simp
      have hne : ¬ e.1 = w := by
        intro h9
        rcases hkd with ⟨rfl, -⟩ | ⟨p, rfl, -⟩ | ⟨p, q, rfl, -⟩ | rfl | rfl
        · dsimp only at h9; omega
        · dsimp only at h9; omega
        · dsimp only at h9; omega
        · rw [hv] at hV; cases hV
        · rw [hv] at hV; cases hV
      have := hQ (upd f 16 (nI m)) a (.int (nI u)) g0 rfl (fun _ _ => rfl)
      rw [hoc] at this
      rw [hfd, decide_eq_false hne]
      exact this
    have hg0 : gI (tm_V T u) = 0 := if_neg hv
    iterate 3 refine ax_nx rfl rfl ?_
    refine ax_ba rfl rfl (vp_in_nI (by omega) (by omega)) ?_
    rw [nI_clamp (by omega), hgr]
    rw [hg0]
    iterate 4 refine ax_nx rfl rfl ?_
    rcases hkd with ⟨rfl, -⟩ | ⟨p, rfl, hp9⟩ | ⟨p, q, rfl, hp9, hq9⟩ | rfl | rfl
    · exact absurd hV hv
    · refine ax_ia rfl rfl (vp_in_nI (by omega) (by omega)) ?_
      rw [nI_clamp (by omega), k1]
      refine ax_nx rfl rfl ?_
      iterate 5 refine ax_nx rfl rfl ?_
      refine ax_ia rfl rfl (vp_in_nI (by omega) (by omega)) ?_
      rw [nI_clamp (by omega), k2]
      refine ax_cal rfl rfl (q_Mo_push (m := m) (by omega) rfl) (fun v h' hh => ?_)
      obtain ⟨rfl, rfl⟩ := hh
      iterate 3 refine ax_nx rfl rfl ?_
      refine ax_ba rfl rfl (vp_in_nI (by omega) (by omega)) ?_
      rw [nI_clamp (by omega), show (upda a 33 (upd (a 33) m (nI p))) 29 u = a 29 u from rfl, hgr, hg0]
      iterate 4 refine ax_nx rfl rfl ?_
      refine ax_ia rfl rfl (vp_in_nI (by omega) (by omega)) ?_
      rw [nI_clamp (by omega), show (upda a 33 (upd (a 33) m (nI p))) 26 u = a 26 u from rfl, k1]
      refine ax_nx rfl rfl ?_
      iterate 2 refine ax_nx rfl rfl ?_
      have g1 : ag [16] [33] f a (upd (upd f 16 (nI m)) 16 (nI (m + 1))) (upda a 33 (upd (a 33) m (nI p))) := by
        refine ⟨fun j hj => ?_, fun j hj => ?_⟩
        · simp only [List.mem_cons, List.not_mem_nil, or_false] at hj
          simp [upd, hj]
        · simp only [List.mem_cons, List.not_mem_nil, or_false] at hj
          simp [upda, hj]
      refine ih p hp9 (by omega) m _ _ fd' _ (hmt.kept g1 (by decide) (by decide)) (by omega) rfl (if_pos rfl) (fun f' a' x4' q1 q2 q3 => ?_)
      have hoc : oc T w u = oc T w p := by unfold oc; rw [hV]; rfl
      have := hQ f' a' x4' (g1.trans q1) q2 (fun j hj => (q3 j hj).trans (if_neg (by omega)))
      rw [hoc] at this
      rw [hfd, decide_eq_false (by dsimp only; omega), Bool.or_false]
      exact this
    · refine ax_ia rfl rfl (vp_in_nI (by omega) (by omega)) ?_
      rw [nI_clamp (by omega), k1]
      refine ax_nx rfl rfl ?_
      iterate 4 refine ax_nx rfl rfl ?_
      refine ax_ia rfl rfl (vp_in_nI (by omega) (by omega)) ?_
      rw [nI_clamp (by omega), k1]
      refine ax_nx rfl rfl ?_
      iterate 5 refine ax_nx rfl rfl ?_
      refine ax_ia rfl rfl (vp_in_nI (by omega) (by omega)) ?_
      rw [nI_clamp (by omega), k2]
      refine ax_cal rfl rfl (q_Mo_push (m := m) (by omega) rfl) (fun v h' hh => ?_)
      obtain ⟨rfl, rfl⟩ := hh
      iterate 3 refine ax_nx rfl rfl ?_
      refine ax_ba rfl rfl (vp_in_nI (by omega) (by omega)) ?_
      rw [nI_clamp (by omega), show (upda a 33 (upd (a 33) m (nI p))) 29 u = a 29 u from rfl, hgr, hg0]
      iterate 4 refine ax_nx rfl rfl ?_
      refine ax_ia rfl rfl (vp_in_nI (by omega) (by omega)) ?_
      rw [nI_clamp (by omega), show (upda a 33 (upd (a 33) m (nI p))) 26 u = a 26 u from rfl, k1]
      refine ax_nx rfl rfl ?_
      iterate 5 refine ax_nx rfl rfl ?_
      refine ax_ia rfl rfl (vp_in_nI (by omega) (by omega)) ?_
      rw [nI_clamp (by omega), show (upda a 33 (upd (a 33) m (nI p))) 28 u = a 28 u from rfl, k3]
      refine ax_cal rfl rfl (q_Mo_push (m := m + 1) (by omega) rfl) (fun v h' hh => ?_)
      obtain ⟨rfl, rfl⟩ := hh
      refine ax_nx rfl rfl ?_
      have g1 : ag [16] [33] f a (upd (upd (upd f 16 (nI m)) 16 (nI (m + 1))) 16 (nI (m + 1 + 1))) (upda (upda a 33 (upd (a 33) m (nI p))) 33 (upd (upd (a 33) m (nI p)) (m + 1) (nI q))) := by
        refine ⟨fun j hj => ?_, fun j hj => ?_⟩
        · simp only [List.mem_cons, List.not_mem_nil, or_false] at hj
          simp [upd, hj]
        · simp only [List.mem_cons, List.not_mem_nil, or_false] at hj
          simp [upda, hj]
      refine ih q hq9 (by omega) (m + 1) _ _ fd' _ (hmt.kept g1 (by decide) (by decide)) (by omega) rfl (if_pos rfl) (fun f' a' x4' q1 q2 q3 => ?_)
      have g2 := g1.trans q1
      have hm33 : a' 33 m = nI p := (q3 m (by omega)).trans ((if_neg (by omega)).trans (if_pos rfl))
      refine ih p hp9 (by omega) m f' a' _ _ (hmt.kept g2 (by decide) (by decide)) (by omega) q2 hm33 (fun f2 a2 x4' r1 r2 r3 => ?_)
      have hoc : oc T w u = (oc T w q || oc T w p) := by
        unfold oc
        rw [hV]
        show decide (¬ (tm_V T p ||| tm_V T q) &&& vb w = 0) = _
        rw [Bool.eq_iff_iff, Bool.or_eq_true, decide_eq_true_eq, decide_eq_true_eq, decide_eq_true_eq, oc_or]
        exact Or.comm
      have := hQ f2 a2 x4' (g2.trans r1) r2 (fun j hj => ((r3 j hj).trans (q3 j (by omega))).trans ((if_neg (by omega)).trans (if_neg (by omega))))
      rw [hoc] at this
      rw [hfd, decide_eq_false (by dsimp only; omega), Bool.or_false, Bool.or_assoc]
      exact this
    · refine ax_ia rfl rfl (vp_in_nI (by omega) (by omega)) ?_
      rw [nI_clamp (by omega), k1]
      refine ax_nx rfl rfl ?_
      iterate 4 refine ax_nx rfl rfl ?_
      refine ax_ia rfl rfl (vp_in_nI (by omega) (by omega)) ?_
      rw [nI_clamp (by omega), k1]
      refine ax_nx rfl rfl ?_
      iterate 4 refine ax_nx rfl rfl ?_
      refine ax_ba rfl rfl (vp_in_nI (by omega) (by omega)) ?_
      rw [nI_clamp (by omega), hgr]
      rw [hg0]
      iterate 4 refine ax_nx rfl rfl ?_
      refine ax_ia rfl rfl (vp_in_nI (by omega) (by omega)) ?_
      rw [nI_clamp (by omega), k1]
      refine ax_nx rfl rfl ?_
      iterate 2 refine ax_nx rfl rfl ?_
      have hoc : oc T w u = decide (3 = w) := by
        unfold oc
        rw [hV]
        rcases hw with rfl | rfl
        · show decide (¬ (1 : Nat) &&& vb 3 = 0) = _
          decide
        · show decide (¬ (1 : Nat) &&& vb 4 = 0) = _
          decide
      have := hQ (upd f 16 (nI m)) a (.int (nI u)) g0 rfl (fun _ _ => rfl)
      rw [hoc] at this
      rw [hfd]
      exact this
    · refine ax_ia rfl rfl (vp_in_nI (by omega) (by omega)) ?_
      rw [nI_clamp (by omega), k1]
      refine ax_nx rfl rfl ?_
      iterate 4 refine ax_nx rfl rfl ?_
      refine ax_ia rfl rfl (vp_in_nI (by omega) (by omega)) ?_
      rw [nI_clamp (by omega), k1]
      refine ax_nx rfl rfl ?_
      iterate 4 refine ax_nx rfl rfl ?_
      refine ax_ba rfl rfl (vp_in_nI (by omega) (by omega)) ?_
      rw [nI_clamp (by omega), hgr]
      rw [hg0]
      iterate 4 refine ax_nx rfl rfl ?_
      refine ax_ia rfl rfl (vp_in_nI (by omega) (by omega)) ?_
      rw [nI_clamp (by omega), k1]
      refine ax_nx rfl rfl ?_
      iterate 2 refine ax_nx rfl rfl ?_
      have hoc : oc T w u = decide (4 = w) := by
        unfold oc
        rw [hV]
        rcases hw with rfl | rfl
        · show decide (¬ (2 : Nat) &&& vb 3 = 0) = _
          decide
        · show decide (¬ (2 : Nat) &&& vb 4 = 0) = _
          decide
      have := hQ (upd f 16 (nI m)) a (.int (nI u)) g0 rfl (fun _ _ => rfl)
      rw [hoc] at this
      rw [hfd]
      exact this
  cases fd with
  | true =>
    refine ax_nx rfl rfl ?_
    iterate 3 refine ax_nx rfl rfl ?_
    refine ax_nx (al' := [.ref 25, .int t9, .int (nI w), .int 1, .int (nI u)]) rfl rfl ?_
    exact seg true rfl
  | false =>
    refine ax_nx rfl rfl ?_
    iterate 4 refine ax_nx rfl rfl ?_
    refine ax_ia rfl rfl (vp_in_nI (by omega) (by omega)) ?_
    rw [nI_clamp (by omega), k1]
    refine ax_nx rfl rfl ?_
    by_cases he : e.1 = w
    · refine ax_nxt rfl rfl (by rw [he]) ?_
      iterate 2 refine ax_nx rfl rfl ?_
      refine ax_nx (al' := [.ref 25, .int t9, .int (nI w), .int 1, .int (nI u)]) rfl rfl ?_
      exact seg true (by rw [decide_eq_true he]; rfl)
    · refine ax_nxf rfl rfl (fun h9 => he ((nI_eq l1 (by omega)).mp h9)) ?_
      refine ax_nx rfl rfl ?_
      refine ax_nx (al' := [.ref 25, .int t9, .int (nI w), .int 0, .int (nI u)]) rfl rfl ?_
      exact seg false (by rw [decide_eq_false he]; rfl)
theorem q_Mo_contains {c : Nat} {T : tm_T} {w u : Nat} (hw : w = 3 ∨ w = 4) (hmt : mt_at c T f a) (hu : u < T.length) : ax_R (d + 1) 12 0 (ax_in 12 [.ref 25, .int (nI u), .int (nI w)]) [] (hp n xs f a o) k s (ax_V (fun v h' => v = some (.int (bI (oc T w u))) ∧ ∃ f' a', h' = hp n xs f' a' o ∧ ag [16] [33] f a f' a') k s) := by
  have h20 := hmt.2.1
  refine ax_nx rfl rfl ?_
  refine ax_nx (al' := [.ref 25, .int (nI u), .int (nI w), .int 0, ax_u]) rfl rfl ?_
  iterate 2 refine ax_nx rfl rfl ?_
  refine ax_nx (h' := hp n xs (upd f 16 0) a o) rfl rfl ?_
  iterate 2 refine ax_nx rfl rfl ?_
  refine ax_cal rfl rfl (q_Mo_push (m := 0) (by omega) rfl) (fun v h' hh => ?_)
  obtain ⟨rfl, rfl⟩ := hh
  have g1 : ag [16] [33] f a (upd (upd f 16 0) 16 (nI (0 + 1))) (upda a 33 (upd (a 33) 0 (nI u))) := by
    refine ⟨fun j hj => ?_, fun j hj => ?_⟩
    · simp only [List.mem_cons, List.not_mem_nil, or_false] at hj
      simp [upd, hj]
    · simp only [List.mem_cons, List.not_mem_nil, or_false] at hj
      simp [upda, hj]
  refine q_Mo_con hw u hu 0 _ _ false _ (hmt.kept g1 (by decide) (by decide)) (by omega) rfl rfl (fun f' a' x4' q1 q2 q3 => ?_)
  iterate 2 refine ax_nx rfl rfl ?_
  rw [q2]
  iterate 2 refine ax_nx rfl rfl ?_
  rw [Bool.false_or]
  exact ax_retb rfl rfl (bI_01 _) ⟨_, rfl, rfl, rfl, rfl, f', a', rfl, g1.trans q1⟩
theorem q_Mo_range_l {c : Nat} {T : tm_T} {w : Nat} {D : dr_L} (hw : w = 3 ∨ w = 4) (hD : din T.length D) : ∀ (t i : Nat), i + t = D.length → ∀ (f : Nat → Int32) (a : Nat → Nat → Int32), mt_at c T f a → md_at D f a → f 13 = nI c → ax_R (d + 2) 11 2 [.ref 25, .int (nI w), .int (nI i)] [] (hp n xs f a o) k s (ax_V (fun v h' => v = some (.int (nI (nc c (vb w) (dv (tm_V T) 0 (D.drop i))))) ∧ ∃ f' a', h' = hp n xs f' a' o ∧ ag [16] [33] f a f' a') k s) := by
  intro t
  induction t with
  | zero =>
    intro i hi f a hmt hmd h13
    iterate 3 refine ax_nx rfl rfl ?_
    refine ax_nxt rfl rfl (by rw [hmd.1]; exact nI_le (by omega) (by have := hmd.2.1; omega)) ?_
    refine ax_nx rfl rfl ?_
    rw [List.drop_eq_nil_of_le (by omega)]
    refine ax_ret rfl rfl ⟨_, rfl, rfl, rfl, ?_, f, a, rfl, ag.rf⟩
    rw [show nc c (vb w) (dv (tm_V T) 0 []) = 1 from if_pos (Nat.zero_and _)]
    rfl
  | succ t ih =>
    intro i hi f a hmt hmd h13
    have hil : i < D.length := by omega
    have hdn : D.drop i = D[i] :: D.drop (i + 1) := List.drop_eq_getElem_cons hil
    have h4 := hmd.2.1
    have h20 := hmt.2.1
    obtain ⟨z1, z2, z3⟩ := hmd.2.2 i _ (List.getElem?_eq_getElem hil)
    obtain ⟨y1, y2⟩ := hD _ (List.getElem_mem hil)
    rw [hdn]
    generalize D[i] = q at z1 z2 z3 y1 y2
    have yes : (¬ tm_V T q.1 &&& vb w = 0 ∨ ¬ tm_V T q.2.1 &&& vb w = 0) → nc c (vb w) (dv (tm_V T) 0 (q :: D.drop (i + 1))) = c := by
      intro h9
      refine if_neg (fun h10 => ?_)
      have := (dv_0.mp h10).2 q List.mem_cons_self
      rcases h9 with h9 | h9
      · exact h9 this.1
      · exact h9 this.2
    have no : tm_V T q.1 &&& vb w = 0 → tm_V T q.2.1 &&& vb w = 0 → nc c (vb w) (dv (tm_V T) 0 (q :: D.drop (i + 1))) = nc c (vb w) (dv (tm_V T) 0 (D.drop (i + 1))) := by
      intro h8 h9
      unfold nc
      have : dv (tm_V T) 0 (q :: D.drop (i + 1)) &&& vb w = 0 ↔ dv (tm_V T) 0 (D.drop (i + 1)) &&& vb w = 0 := by
        rw [dv_0, dv_0]
        refine and_congr Iff.rfl ⟨fun h z hz => h z (List.mem_cons_of_mem _ hz), fun h z hz => ?_⟩
        rcases List.mem_cons.mp hz with rfl | hz
        · exact ⟨h8, h9⟩
        · exact h z hz
      by_cases h10 : dv (tm_V T) 0 (D.drop (i + 1)) &&& vb w = 0
      · rw [if_pos h10, if_pos (this.mpr h10)]
      · rw [if_neg h10, if_neg (fun h => h10 (this.mp h))]
    iterate 3 refine ax_nx rfl rfl ?_
    refine ax_nxf rfl rfl (by rw [hmd.1]; exact nI_ge hil (by omega)) ?_
    iterate 4 refine ax_nx rfl rfl ?_
    refine ax_ia rfl rfl (vp_in_nI (by omega) (by omega)) ?_
    rw [nI_clamp (by omega), z1]
    refine ax_nx rfl rfl ?_
    refine ax_cal (d := d + 1) rfl rfl (q_Mo_contains (d := d) hw hmt y1) (fun v h' hh => ?_)
    obtain ⟨rfl, f1, a1, rfl, g1⟩ := hh
    have hmt1 := hmt.kept g1 (by decide) (by decide)
    have hmd1 := hmd.kept g1 (by decide) (by decide)
    have h131 : f1 13 = nI c := (g1.1 13 (by decide)).trans h13
    have z2' : a1 35 i = nI q.2.1 := by rw [g1.2 35 (by decide)]; exact z2
    cases ho : oc T w q.1 with
    | true =>
      iterate 3 refine ax_nx rfl rfl ?_
      rw [h131]
      exact ax_ret rfl rfl ⟨_, rfl, rfl, rfl, by rw [yes (Or.inl (of_decide_eq_true ho))], f1, a1, rfl, g1⟩
    | false =>
      iterate 5 refine ax_nx rfl rfl ?_
      refine ax_ia rfl rfl (vp_in_nI (by omega) (by omega)) ?_
      rw [nI_clamp (by omega), z2']
      refine ax_nx rfl rfl ?_
      refine ax_cal (d := d + 1) rfl rfl (q_Mo_contains (d := d) hw hmt1 y2) (fun v h' hh => ?_)
      obtain ⟨rfl, f2, a2, rfl, g2⟩ := hh
      have hmt2 := hmt1.kept g2 (by decide) (by decide)
      have hmd2 := hmd1.kept g2 (by decide) (by decide)
      have h132 : f2 13 = nI c := (g2.1 13 (by decide)).trans h131
      cases ho2 : oc T w q.2.1 with
      | true =>
        iterate 3 refine ax_nx rfl rfl ?_
        rw [h132]
        exact ax_ret rfl rfl ⟨_, rfl, rfl, rfl, by rw [yes (Or.inr (of_decide_eq_true ho2))], f2, a2, rfl, g1.trans g2⟩
      | false =>
        refine ax_nx rfl rfl ?_
        refine ax_nx (al' := [.ref 25, .int (nI w), .int (nI i + 1)]) rfl rfl ?_
        rw [nI_1]
        refine ax_nx rfl rfl ?_
        have e1 : tm_V T q.1 &&& vb w = 0 := Decidable.not_not.mp (of_decide_eq_false ho)
        have e2 : tm_V T q.2.1 &&& vb w = 0 := Decidable.not_not.mp (of_decide_eq_false ho2)
        rw [no e1 e2]
        refine (ih (i + 1) (by omega) f2 a2 hmt2 hmd2 h132).mono ?_
        rintro o1 h1 k1 s1 ⟨v, e3, e4, e5, e6, f3, a3, e7, e8⟩
        exact ⟨v, e3, e4, e5, e6, f3, a3, e7, (g1.trans g2).trans e8⟩
theorem q_Mo_range {c : Nat} {T : tm_T} {w : Nat} {D : dr_L} (hw : w = 3 ∨ w = 4) (hD : din T.length D) (hmt : mt_at c T f a) (hmd : md_at D f a) (h13 : f 13 = nI c) : ax_R (d + 2) 11 0 (ax_in 11 [.ref 25, .int (nI w)]) [] (hp n xs f a o) k s (ax_V (fun v h' => v = some (.int (nI (nc c (vb w) (dv (tm_V T) 0 D)))) ∧ ∃ f' a', h' = hp n xs f' a' o ∧ ag [16] [33] f a f' a') k s) := by
  refine ax_nx rfl rfl ?_
  refine ax_nx (al' := [.ref 25, .int (nI w), .int (nI 0)]) rfl rfl ?_
  exact q_Mo_range_l hw hD D.length 0 (by omega) f a hmt hmd h13
end HRA
