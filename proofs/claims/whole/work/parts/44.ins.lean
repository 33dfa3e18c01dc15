def ps : List Nat → Nat → Nat
  | [], _ => 0
  | z :: Z, r => if z = r then 0 else ps Z r + 1
theorem ps_at : ∀ {Z : List Nat} {r : Nat}, r ∈ Z → Z[ps Z r]? = some r := by
  intro Z
  induction Z with
  | nil => intro r h; cases h
  | cons z Z ih =>
    intro r h
    rw [ps]
    by_cases e : z = r
    · rw [if_pos e, e]; rfl
    · rw [if_neg e]
      rcases List.mem_cons.mp h with h | h
      · exact absurd h.symm e
      · simpa using ih h
theorem ps_app : ∀ {Z S : List Nat} {r : Nat}, r ∈ Z → ps (Z ++ S) r = ps Z r := by
  intro Z
  induction Z with
  | nil => intro S r h; cases h
  | cons z Z ih =>
    intro S r h
    rw [List.cons_append, ps, ps]
    by_cases e : z = r
    · rw [if_pos e, if_pos e]
    · rw [if_neg e, if_neg e]
      rcases List.mem_cons.mp h with h | h
      · exact absurd h.symm e
      · rw [ih h]
theorem ps_of {c : Nat} {T : tm_T} {Z : List Nat} (hZ : th_wf c T Z) {p r : Nat} (h : Z[p]? = some r) : p = ps Z r := hZ.1 p _ r h (ps_at (List.mem_of_getElem? h))
abbrev dr_L : Type := List (Nat × Nat × Bool)
def ins (x y : Nat) : dr_L → tm_T → List Nat → tm_T × List Nat × wl_L
  | [], T, Z => (T, Z, [])
  | q :: D, T, Z => ((ins x y D (li x y (li x y T Z q.1).1 (li x y T Z q.1).2.1 q.2.1).1 (li x y (li x y T Z q.1).1 (li x y T Z q.1).2.1 q.2.1).2.1).1,
      (ins x y D (li x y (li x y T Z q.1).1 (li x y T Z q.1).2.1 q.2.1).1 (li x y (li x y T Z q.1).1 (li x y T Z q.1).2.1 q.2.1).2.1).2.1,
      (ps (li x y T Z q.1).2.1 (li x y T Z q.1).2.2, ps (li x y (li x y T Z q.1).1 (li x y T Z q.1).2.1 q.2.1).2.1 (li x y (li x y T Z q.1).1 (li x y T Z q.1).2.1 q.2.1).2.2, q.2.2) ::
      (ins x y D (li x y (li x y T Z q.1).1 (li x y T Z q.1).2.1 q.2.1).1 (li x y (li x y T Z q.1).1 (li x y T Z q.1).2.1 q.2.1).2.1).2.2)
theorem ins_cons {x y : Nat} {q : Nat × Nat × Bool} {D : dr_L} {T T1 T2 : tm_T} {Z Z1 Z2 : List Nat} {r1 r2 : Nat} (h1 : li x y T Z q.1 = (T1, Z1, r1)) (h2 : li x y T1 Z1 q.2.1 = (T2, Z2, r2)) : ins x y (q :: D) T Z = ((ins x y D T2 Z2).1, (ins x y D T2 Z2).2.1, (ps Z1 r1, ps Z2 r2, q.2.2) :: (ins x y D T2 Z2).2.2) := by
  rw [ins, h1]
  dsimp only
  rw [h2]
def din (N : Nat) (D : dr_L) : Prop := ∀ q, q ∈ D → q.1 < N ∧ q.2.1 < N
theorem ins_ok {c x y N : Nat} (hx : x < c) (hy : y < c) (hN : N ≤ 20) : ∀ {D : dr_L} {T : tm_T} {Z : List Nat}, tm_wf c T → th_wf c T Z → N ≤ T.length → din N D → (∃ S, (ins x y D T Z).1 = T ++ S) ∧ (∃ S, (ins x y D T Z).2.1 = Z ++ S) ∧ tm_wf c (ins x y D T Z).1 ∧ th_wf c (ins x y D T Z).1 (ins x y D T Z).2.1 ∧ wl_in (ins x y D T Z).2.1.length (ins x y D T Z).2.2 ∧ (ins x y D T Z).2.2.map (fun q => q.2.2) = D.map (fun q => q.2.2) := by
  intro D
  induction D with
  | nil => intro T Z hT hZ _ _; exact ⟨⟨[], by simp [ins]⟩, ⟨[], by simp [ins]⟩, hT, hZ, (fun q hq => by cases hq), rfl⟩
  | cons q D ih =>
    intro T Z hT hZ hNT hD
    obtain ⟨hq1, hq2⟩ := hD q List.mem_cons_self
    obtain ⟨⟨S1, a1⟩, ⟨S2, a2, -⟩, a3, a4, a5, a6, a7, a8⟩ := li_ok (Z := Z) hx hy hT hZ (show q.1 < T.length by omega) (show q.1 < 21 by omega)
    generalize e1 : li x y T Z q.1 = R1 at *
    obtain ⟨T1, Z1, r1⟩ := R1
    dsimp only at *
    have hl1 : T.length ≤ T1.length := by rw [a1, List.length_append]; omega
    obtain ⟨⟨S3, b1⟩, ⟨S4, b2, -⟩, b3, b4, b5, b6, b7, b8⟩ := li_ok (Z := Z1) hx hy a3 a4 (show q.2.1 < T1.length by omega) (show q.2.1 < 21 by omega)
    generalize e2 : li x y T1 Z1 q.2.1 = R2 at *
    obtain ⟨T2, Z2, r2⟩ := R2
    dsimp only at *
    have hl2 : T1.length ≤ T2.length := by rw [b1, List.length_append]; omega
    obtain ⟨⟨S5, c1⟩, ⟨S6, c2⟩, c3, c4, c5, c6⟩ := ih (T := T2) (Z := Z2) b3 b4 (by omega) (fun w hw => hD w (List.mem_cons_of_mem _ hw))
    rw [ins_cons e1 e2]
    dsimp only
    refine ⟨⟨S1 ++ (S3 ++ S5), by rw [c1, b1, a1, List.append_assoc, List.append_assoc]⟩, ⟨S2 ++ (S4 ++ S6), by rw [c2, b2, a2, List.append_assoc, List.append_assoc]⟩, c3, c4, ?_, ?_⟩
    · intro w hw
      rcases List.mem_cons.mp hw with rfl | hw
      · have h1 := tm_lt (ps_at a5)
        have h2 := tm_lt (ps_at b5)
        have h3 : Z1.length ≤ Z2.length := by rw [b2, List.length_append]; omega
        have h4 : Z2.length ≤ (ins x y D T2 Z2).2.1.length := by rw [c2, List.length_append]; omega
        dsimp only
        omega
      · exact c5 w hw
    · rw [List.map_cons, List.map_cons, c6]
theorem nd_at.kept {l : wl_L} {F A : List Nat} {f f' : Nat → Int32} {a a' : Nat → Nat → Int32} (h : nd_at l f) (g : ag F A f a f' a') (hF : 2 ∉ F ∧ 3 ∉ F ∧ 4 ∉ F) : nd_at l f' := by
  obtain ⟨h1, h2, h3⟩ := h
  exact ⟨(g.1 2 hF.1).trans h1, (g.1 3 hF.2.1).trans h2, (g.1 4 hF.2.2).trans h3⟩
theorem dr_at.kept {l : dr_L} {F A : List Nat} {f f' : Nat → Int32} {a a' : Nat → Nat → Int32} (h : dr_at l f a) (g : ag F A f a f' a') (hF : 0 ∉ F) (hA : 3 ∉ A ∧ 4 ∉ A ∧ 5 ∉ A) : dr_at l f' a' := by
  obtain ⟨h1, h2, h3⟩ := h
  refine ⟨(g.1 0 hF).trans h1, h2, ?_⟩
  rw [g.2 3 hA.1, g.2 4 hA.2.1, g.2 5 hA.2.2]
  exact h3
theorem ci_at.kept {P : List (Int32 × Int32)} {F A : List Nat} {f f' : Nat → Int32} {a a' : Nat → Nat → Int32} (h : ci_at P f a) (g : ag F A f a f' a') (hF : 1 ∉ F) (hA : 9 ∉ A ∧ 10 ∉ A) : ci_at P f' a' := by
  obtain ⟨h1, h2, h3⟩ := h
  refine ⟨(g.1 1 hF).trans h1, h2, ?_⟩
  rw [g.2 9 hA.1, g.2 10 hA.2]
  exact h3
theorem sv_at.kept {c x y N : Nat} {T : tm_T} {Z : List Nat} {F A : List Nat} {f f' : Nat → Int32} {a a' : Nat → Nat → Int32} (h : sv_at c x y N T Z f a) (g : ag F A f a f' a') (hF : 5 ∉ F ∧ 6 ∉ F ∧ 7 ∉ F ∧ 8 ∉ F) (hA : 7 ∉ A ∧ (16 ∉ A ∧ 17 ∉ A ∧ 18 ∉ A ∧ 19 ∉ A) ∧ 21 ∉ A ∧ 22 ∉ A ∧ 23 ∉ A ∧ 24 ∉ A) : sv_at c x y N T Z f' a' := by
  obtain ⟨h1, h2, h3, h4, h5, h6, h7⟩ := h
  refine ⟨h1.kept g hF.2.2.1 hA.2.1, h2.kept g hF.2.2.2 hA.2.2, h3, h4, (g.1 5 hF.1).trans h5, (g.1 6 hF.2.1).trans h6, ?_⟩
  rw [g.2 7 hA.1]
  exact h7
def ad_Q (n : Nat) (xs : Nat → Int32) (o : Nat → Int64) (c : Nat) (T : tm_T) (Z : List Nat) (P : List (Int32 × Int32)) (l : wl_L) (R : tm_T × List Nat × wl_L) (f : Nat → Int32) (a : Nat → Nat → Int32) (k s : Nat) : ax_P := ax_V (fun v h' => ∃ f' a' T1 Z1, h' = hp n xs f' a' o ∧ ag [1, 2, 3, 4, 5, 6, 7, 8] [7, 9, 10, 16, 17, 18, 19, 21, 22, 23, 24] f a f' a' ∧ (∃ S, T1 = T ++ S) ∧ (∃ S, Z1 = Z ++ S) ∧ ct_at c T1 f' a' ∧ zk_at T1 Z1 f' a' ∧ th_wf c T1 Z1 ∧ ((v = some (.int 1) ∧ T1 = R.1 ∧ Z1 = R.2.1 ∧ ci_at (P ++ (wl_kp (l ++ R.2.2)).toList) f' a') ∨ (v = some (.int 0) ∧ (20 < R.1.length ∨ 8 < R.2.1.length) ∧ ci_at P f' a'))) k s
section HIN
variable {n : Nat} {xs : Nat → Int32} {f : Nat → Int32} {a : Nat → Nat → Int32} {o : Nat → Int64} {d k s : Nat}
theorem q_Dr_says {j : Nat} {b : Bool} (hj : j < 4) (hb : a 5 j = bI b) : ax_R d 65 0 (ax_in 65 [.ref 2, .int (nI j)]) [] (hp n xs f a o) k s (ax_V (fun v h' => v = some (.int (bI b)) ∧ h' = hp n xs f a o) k s) := by
  iterate 3 refine ax_nx rfl rfl ?_
  refine ax_ba rfl rfl (vp_in_nI (by omega) (by omega)) ?_
  rw [nI_clamp (by omega), hb]
  exact ax_retb rfl rfl (bI_01 b) ⟨_, rfl, rfl, rfl, rfl, rfl⟩
theorem q_Ep_add_l {c x y N : Nat} (hx : x < c) (hy : y < c) (hN20 : N ≤ 20) {D : dr_L} (hD : din N D) {P : List (Int32 × Int32)} (hP : P.length < 257) : ∀ (t i : Nat), i + t = D.length → ∀ (T : tm_T) (Z : List Nat) (l : wl_L) (f : Nat → Int32) (a : Nat → Nat → Int32) (x4 x5 : Value), sv_at c x y N T Z f a → nd_at l f → dr_at D f a → ci_at P f a → ax_R (d + 43) 87 18 [.ref 1, .int (nI x), .int (nI y), .int (nI i), x4, x5] [] (hp n xs f a o) k s (ad_Q n xs o c T Z P l (ins x y (D.drop i) T Z) f a k s) := by
  intro t
  induction t with
  | zero =>
    intro i hi T Z l f a x4 x5 h hn hd hc
    have hdn : D.drop i = [] := List.drop_eq_nil_of_le (by omega)
    rw [hdn]
    iterate 3 refine ax_nx rfl rfl ?_
    refine ax_cal rfl rfl (q_Dr_size) (fun v h' hh => ?_)
    obtain ⟨rfl, rfl⟩ := hh
    rw [hd.1]
    refine ax_nxt rfl rfl (nI_le (by omega) (by have := hd.2.1; omega)) ?_
    iterate 2 refine ax_nx rfl rfl ?_
    refine ax_cal rfl rfl (q_In_finish hn hc hP) (fun v h' hh => ?_)
    obtain ⟨rfl, f1, a1, rfl, g1, hc1⟩ := hh
    refine ax_nx rfl rfl ?_
    refine ax_retb rfl rfl (Or.inr rfl) ⟨_, rfl, rfl, rfl, f1, a1, T, Z, rfl, g1.wide (by simp) (by simp), ⟨[], by simp⟩, ⟨[], by simp⟩, h.1.kept g1 (by decide) (by decide), h.2.1.kept g1 (by decide) (by decide), h.2.2.1, Or.inl ⟨rfl, rfl, rfl, ?_⟩⟩
    show ci_at (P ++ (wl_kp (l ++ [])).toList) f1 a1
    rw [List.append_nil]
    exact hc1
  | succ t ih =>
    intro i hi T Z l f a x4 x5 h hn hd hc
    have hil : i < D.length := by omega
    have hdn : D.drop i = D[i] :: D.drop (i + 1) := List.drop_eq_getElem_cons hil
    obtain ⟨hd1, hd2, hd3⟩ := id hd
    obtain ⟨z1, z2, z3⟩ := hd3 i _ (List.getElem?_eq_getElem hil)
    obtain ⟨y1, y2⟩ := hD _ (List.getElem_mem hil)
    have hD' : din N (D.drop (i + 1)) := fun q hq => hD q (List.mem_of_mem_drop hq)
    rw [hdn]
    generalize D[i] = q at z1 z2 z3 y1 y2
    obtain ⟨hct, hzk, hZ, hN, -⟩ := id h
    obtain ⟨⟨S1, a1⟩, ⟨S2, a2, -⟩, a3, a4, a5, a6, a7, a8⟩ := li_ok (Z := Z) hx hy hct.1 hZ (show q.1 < T.length by omega) (show q.1 < 21 by omega)
    generalize e1 : li x y T Z q.1 = R1 at *
    obtain ⟨T1, Z1, r1⟩ := R1
    dsimp only at a1 a2 a3 a4 a5 a6 a7 a8
    have hl1 : T.length ≤ T1.length := by rw [a1, List.length_append]; omega
    obtain ⟨⟨S3, b1⟩, ⟨S4, b2, -⟩, b3, b4, b5, b6, b7, b8⟩ := li_ok (Z := Z1) hx hy a3 a4 (show q.2.1 < T1.length by omega) (show q.2.1 < 21 by omega)
    generalize e2 : li x y T1 Z1 q.2.1 = R2 at *
    obtain ⟨T2, Z2, r2⟩ := R2
    dsimp only at b1 b2 b3 b4 b5 b6 b7 b8
    have hl2 : T1.length ≤ T2.length ∧ Z1.length ≤ Z2.length := by rw [b1, b2, List.length_append, List.length_append]; omega
    obtain ⟨⟨S5, c1⟩, ⟨S6, c2⟩, -⟩ := ins_ok hx hy hN20 b3 b4 (show N ≤ T2.length by omega) hD'
    rw [ins_cons e1 e2]
    have hl3 : T2.length ≤ (ins x y (D.drop (i + 1)) T2 Z2).1.length ∧ Z2.length ≤ (ins x y (D.drop (i + 1)) T2 Z2).2.1.length := by rw [c1, c2, List.length_append, List.length_append]; omega
    iterate 3 refine ax_nx rfl rfl ?_
    refine ax_cal rfl rfl (q_Dr_size) (fun v h' hh => ?_)
    obtain ⟨rfl, rfl⟩ := hh
    rw [hd1]
    refine ax_nxf rfl rfl (nI_ge hil (by omega)) ?_
    iterate 5 refine ax_nx rfl rfl ?_
    refine ax_cal rfl rfl (q_Dr_left (by omega)) (fun v h' hh => ?_)
    obtain ⟨rfl, rfl⟩ := hh
    rw [z1]
    iterate 5 refine ax_nx rfl rfl ?_
    refine ax_top (y := nI 0) (rfl) ?_
    refine ax_cal (d := d + 42) rfl rfl (q_tf hx hy hN20 q.1 T Z f a 0 (d + 42) h y1 (by omega) (by omega)) (fun v h' hh => ?_)
    obtain ⟨f1, a1', T1', Z1', rfl, g1, ⟨S1', hS1⟩, ⟨S2', hS2⟩, hs1, hv⟩ := hh
    rw [e1] at hv
    dsimp only at hv
    have gw1 := g1.wide (F' := [1, 2, 3, 4, 5, 6, 7, 8]) (A' := [7, 9, 10, 16, 17, 18, 19, 21, 22, 23, 24]) (by simp) (by simp)
    rcases hv with ⟨rfl, rfl, p1, hp1, rfl⟩ | ⟨hov, rfl⟩
    rotate_left
    · refine ax_nx (al' := [.ref 1, .int (nI x), .int (nI y), .int (nI i), .int (-1), x5]) rfl rfl ?_
      iterate 2 refine ax_nx rfl rfl ?_
      iterate 2 refine ax_nx rfl rfl ?_
      exact ax_retb rfl rfl (Or.inl rfl) ⟨_, rfl, rfl, rfl, f1, a1', _, _, rfl, gw1, ⟨_, hS1⟩, ⟨_, hS2⟩, hs1.1, hs1.2.1, hs1.2.2.1, Or.inr ⟨rfl, by dsimp only; omega, hc.kept g1 (by decide) (by decide)⟩⟩
    have hp18 : p1 < 8 := by have := tm_lt hp1; have := hs1.2.1.len; omega
    have hd' := hd.kept g1 (by decide) (by decide)
    obtain ⟨-, -, hd3'⟩ := id hd'
    have z2' : a1' 4 i = nI q.2.1 := by rw [g1.2 4 (by decide)]; exact z2
    refine ax_nx (al' := [.ref 1, .int (nI x), .int (nI y), .int (nI i), .int (nI p1), x5]) rfl rfl ?_
    iterate 2 refine ax_nx rfl rfl ?_
    refine ax_nxf rfl rfl (nI_nm1 (by omega)) ?_
    iterate 5 refine ax_nx rfl rfl ?_
    refine ax_cal rfl rfl (q_Dr_right (by omega)) (fun v h' hh => ?_)
    obtain ⟨rfl, rfl⟩ := hh
    rw [z2']
    iterate 5 refine ax_nx rfl rfl ?_
    refine ax_top (y := nI 0) (rfl) ?_
    refine ax_cal (d := d + 42) rfl rfl (q_tf hx hy hN20 q.2.1 T1' Z1' f1 a1' 0 (d + 42) hs1 y2 (by omega) (by omega)) (fun v h' hh => ?_)
    obtain ⟨f2, a2', T2', Z2', rfl, g2, ⟨S3', hS3⟩, ⟨S4', hS4⟩, hs2, hv⟩ := hh
    rw [e2] at hv
    dsimp only at hv
    have gw2 := gw1.trans (g2.wide (F' := [1, 2, 3, 4, 5, 6, 7, 8]) (A' := [7, 9, 10, 16, 17, 18, 19, 21, 22, 23, 24]) (by simp) (by simp))
    have g12 := g1.trans g2
    have hT2 : T2' = T ++ (S1' ++ S3') := by rw [hS3, hS1, List.append_assoc]
    have hZ2 : Z2' = Z ++ (S2' ++ S4') := by rw [hS4, hS2, List.append_assoc]
    rcases hv with ⟨rfl, rfl, p2, hp2, rfl⟩ | ⟨hov, rfl⟩
    rotate_left
    · refine ax_nx (al' := [.ref 1, .int (nI x), .int (nI y), .int (nI i), .int (nI p1), .int (-1)]) rfl rfl ?_
      iterate 2 refine ax_nx rfl rfl ?_
      iterate 2 refine ax_nx rfl rfl ?_
      exact ax_retb rfl rfl (Or.inl rfl) ⟨_, rfl, rfl, rfl, f2, a2', _, _, rfl, gw2, ⟨_, hT2⟩, ⟨_, hZ2⟩, hs2.1, hs2.2.1, hs2.2.2.1, Or.inr ⟨rfl, by dsimp only; omega, hc.kept g12 (by decide) (by decide)⟩⟩
    have hp28 : p2 < 8 := by have := tm_lt hp2; have := hs2.2.1.len; omega
    have z3' : a2' 5 i = bI q.2.2 := by rw [g12.2 5 (by decide)]; exact z3
    refine ax_nx (al' := [.ref 1, .int (nI x), .int (nI y), .int (nI i), .int (nI p1), .int (nI p2)]) rfl rfl ?_
    iterate 2 refine ax_nx rfl rfl ?_
    refine ax_nxf rfl rfl (nI_nm1 (by omega)) ?_
    iterate 7 refine ax_nx rfl rfl ?_
    refine ax_cal rfl rfl (q_Dr_says (by omega) z3') (fun v h' hh => ?_)
    obtain ⟨rfl, rfl⟩ := hh
    refine ax_cal (d := d + 42) rfl rfl (q_In_join (d := d + 40) (hn.kept g12 (by decide)) hp18 hp28 q.2.2) (fun v h' hh => ?_)
    obtain ⟨rfl, f3, rfl, g3, hn3⟩ := hh
    refine ax_nx (al' := [.ref 1, .int (nI x), .int (nI y), .int (nI i + 1), .int (nI p1), .int (nI p2)]) rfl rfl ?_
    rw [nI_1]
    refine ax_nx rfl rfl ?_
    have g3w := g3.wide (F' := [1, 2, 3, 4, 5, 6, 7, 8]) (A' := [7, 9, 10, 16, 17, 18, 19, 21, 22, 23, 24]) (by simp) (by simp)
    have hq1 : p1 = ps Z1' r1 := ps_of a4 hp1
    have hq2 : p2 = ps Z2' r2 := ps_of b4 hp2
    refine (ih (i + 1) (by omega) T2' Z2' (l ++ [(p1, p2, q.2.2)]) f3 a2' _ _ (hs2.kept g3 (by decide) (by decide)) hn3 ((hd.kept g12 (by decide) (by decide)).kept g3 (by decide) (by decide)) ((hc.kept g12 (by decide) (by decide)).kept g3 (by decide) (by decide))).mono ?_
    rintro o1 h1 k1 s1 ⟨v, w1, w2, w3, f', a', T3, Z3, w4, w5, ⟨S7, w6⟩, ⟨S8, w7⟩, w8, w9, w10, w11⟩
    refine ⟨v, w1, w2, w3, f', a', T3, Z3, w4, (gw2.trans g3w).trans w5, ⟨_, by rw [w6, hT2, List.append_assoc]⟩, ⟨_, by rw [w7, hZ2, List.append_assoc]⟩, w8, w9, w10, ?_⟩
    rw [List.append_assoc, hq1, hq2] at w11
    exact w11
theorem q_Ep_add {c x y N : Nat} (hx : x < c) (hy : y < c) (hN20 : N ≤ 20) {D : dr_L} (hD : din N D) {P : List (Int32 × Int32)} (hP : P.length < 257) {T : tm_T} {Z : List Nat} (hct : ct_at c T f a) (hzk : zk_at T Z f a) (hZ : th_wf c T Z) (hN : N ≤ T.length) (hd : dr_at D f a) (hc : ci_at P f a) : ax_R (d + 43) 87 0 (ax_in 87 [.ref 1, .int (nI x), .int (nI y)]) [] (hp n xs f a o) k s (ad_Q n xs o c T Z P [] (ins x y D T Z) f a k s) := by
  iterate 4 refine ax_nx rfl rfl ?_
  refine ax_cal rfl rfl (q_Su_begin) (fun v h' hh => ?_)
  obtain ⟨rfl, g0, rfl, hg0⟩ := hh
  iterate 2 refine ax_nx rfl rfl ?_
  refine ax_cal rfl rfl (q_In_begin) (fun v h' hh => ?_)
  obtain ⟨rfl, rfl⟩ := hh
  refine ax_nx rfl rfl ?_
  refine ax_nx (al' := [.ref 1, .int (nI x), .int (nI y), .int 0, ax_u, ax_u]) rfl rfl ?_
  have g1 : ag [2, 3, 4, 5, 6] [7] f a (upd (upd (upd (upd (upd f 5 (nI x)) 6 (nI y)) 2 0) 3 0) 4 0) (upda a 7 g0) := by
    refine ⟨fun j hj => ?_, fun j hj => ?_⟩
    · simp only [List.mem_cons, List.not_mem_nil, or_false, not_or] at hj
      simp [upd, hj]
    · simp only [List.mem_cons, List.not_mem_nil, or_false, not_or] at hj
      simp [upda, hj]
  refine (q_Ep_add_l hx hy hN20 hD hP D.length 0 (by omega) T Z [] _ _ _ _ ⟨hct.kept g1 (by decide) (by decide), hzk.kept g1 (by decide) (by decide), hZ, hN, rfl, rfl, fun u hu => Or.inl (hg0 u (by omega))⟩ ⟨rfl, rfl, rfl⟩ (hd.kept g1 (by decide) (by decide)) (hc.kept g1 (by decide) (by decide))).mono ?_
  rintro o1 h1 k1 s1 ⟨v, w1, w2, w3, f', a', T3, Z3, w4, w5, w6⟩
  exact ⟨v, w1, w2, w3, f', a', T3, Z3, w4, (g1.wide (by simp) (by simp)).trans w5, w6⟩
end HIN
