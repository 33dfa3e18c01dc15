theorem ps_new : ∀ {Z : List Nat} {r : Nat}, r ∉ Z → ps (Z ++ [r]) r = Z.length := by
  intro Z
  induction Z with
  | nil => intro r _; show (if r = r then 0 else _) = 0; rw [if_pos rfl]
  | cons z Z ih =>
    intro r h
    rw [List.cons_append, ps, if_neg (fun h9 => h (by rw [h9]; exact List.mem_cons_self)), ih (fun h9 => h (List.mem_cons_of_mem _ h9))]
    rfl
theorem mz_at.add {T : tm_T} {Z : List Nat} {f : Nat → Int32} {a : Nat → Nat → Int32} {u : Nat} (h : mz_at T Z f a) (hu : u ∉ Z) (h8 : Z.length < 8) : mz_at T (Z ++ [u]) (upd f 15 (nI (Z.length + 1))) (upda (upda a 32 (upd (a 32) Z.length (nI u))) 30 (upd (a 30) u (nI (Z.length + 1)))) := by
  obtain ⟨h1, h2, h3, h4⟩ := h
  refine ⟨by rw [List.length_append]; rfl, by rw [List.length_append]; simp; omega, fun i t hi => ?_, fun t ht => ?_⟩
  · show upd (a 32) Z.length (nI u) i = nI t
    rcases Nat.lt_or_ge i Z.length with hl | hl
    · rw [List.getElem?_append_left hl] at hi
      exact (if_neg (by omega)).trans (h3 i t hi)
    · have hz := tm_lt hi
      simp at hz
      have hie : i = Z.length := by omega
      subst hie
      rw [List.getElem?_append_right (Nat.le_refl _), Nat.sub_self] at hi
      cases hi
      exact if_pos rfl
  · show (t ∈ Z ++ [u] → upd (a 30) u (nI (Z.length + 1)) t = nI (ps (Z ++ [u]) t + 1)) ∧ (t ∉ Z ++ [u] → upd (a 30) u (nI (Z.length + 1)) t = 0)
    by_cases e : t = u
    · subst e
      refine ⟨fun _ => ?_, fun h9 => absurd (by simp) h9⟩
      rw [ps_new hu]
      exact if_pos rfl
    · refine ⟨fun h9 => ?_, fun h9 => ?_⟩
      · have hz : t ∈ Z := by
          rcases List.mem_append.mp h9 with h9 | h9
          · exact h9
          · exact absurd (List.mem_singleton.mp h9) e
        rw [ps_app hz]
        exact (if_neg e).trans ((h4 t ht).1 hz)
      · exact (if_neg e).trans ((h4 t ht).2 (fun h10 => h9 (List.mem_append_left _ h10)))
def en_K (n : Nat) (xs : Nat → Int32) (o : Nat → Int64) (d c : Nat) (T : tm_T) (t9 : Int32) (k s : Nat) (Q : ax_P) (m : Nat) (Z Z' : List Nat) (f : Nat → Int32) (a : Nat → Nat → Int32) : Prop := (∀ f' a' x2 x3, Z'.length ≤ 8 → mz_at T Z' f' a' → (∀ j, j < m → a' 33 j = a 33 j) → f' 17 = 0 → f' 16 = nI m → ag [15, 16, 17] [30, 32, 33] f a f' a' → ax_R (d + 1) 3 10 [.ref 25, .int t9, x2, x3] [] (hp n xs f' a' o) k s Q) ∧ (∀ f' a' x2 x3, 8 < Z'.length → (∃ S, mz_at T (Z ++ S) f' a' ∧ th_wf c T (Z ++ S)) → f' 17 = 1 → ag [15, 16, 17] [30, 32, 33] f a f' a' → ax_R (d + 1) 3 178 [.ref 25, .int t9, x2, x3] [] (hp n xs f' a' o) k s Q)
section HEN
variable {n : Nat} {xs : Nat → Int32} {f : Nat → Int32} {a : Nat → Nat → Int32} {o : Nat → Int64} {d k s : Nat}
theorem en_head {t9 : Int32} {x2 x3 : Value} {Q : ax_P} {m u kd : Nat} (h16 : f 16 = nI (m + 1)) (hm : m < 63) (h17 : f 17 = 0) (h33 : a 33 m = nI u) (hu : u < 20) (hk : a 26 u = nI kd) (kk : ax_R d 3 43 [.ref 25, .int t9, .int (nI u), .int (nI kd)] [] (hp n xs f a o) k s Q) : ax_R d 3 10 [.ref 25, .int t9, x2, x3] [] (hp n xs f a o) k s Q := by
  iterate 2 refine ax_nx rfl rfl ?_
  refine ax_nxf rfl rfl (by rw [h16]; exact nI_nle (by omega) (by omega)) ?_
  iterate 2 refine ax_nx rfl rfl ?_
  rw [h17]
  iterate 7 refine ax_nx rfl rfl ?_
  refine ax_top (y := nI m) (by show f 16 - 1 = _; rw [h16]; exact nI_pred m) ?_
  refine ax_ia rfl rfl (vp_in_nI (by omega) (by omega)) ?_
  rw [nI_clamp (by omega), h33]
  refine ax_nx (al' := [.ref 25, .int t9, .int (nI u), x3]) rfl rfl ?_
  iterate 3 refine ax_nx rfl rfl ?_
  refine ax_ia rfl rfl (vp_in_nI (by omega) (by omega)) ?_
  rw [nI_clamp (by omega), hk]
  refine ax_nx (al' := [.ref 25, .int t9, .int (nI u), .int (nI kd)]) rfl rfl ?_
  exact kk
theorem en_full {t9 : Int32} {x2 x3 : Value} {Q : ax_P} {m : Nat} (h16 : f 16 = nI (m + 1)) (hm : m < 63) (h17 : f 17 = 1) (kk : ax_R d 3 178 [.ref 25, .int t9, x2, x3] [] (hp n xs f a o) k s Q) : ax_R d 3 10 [.ref 25, .int t9, x2, x3] [] (hp n xs f a o) k s Q := by
  iterate 2 refine ax_nx rfl rfl ?_
  refine ax_nxf rfl rfl (by rw [h16]; exact nI_nle (by omega) (by omega)) ?_
  iterate 2 refine ax_nx rfl rfl ?_
  rw [h17]
  refine ax_nx rfl rfl ?_
  exact kk
theorem en_pop {t9 : Int32} {x2 x3 : Value} {Q : ax_P} {m u kd r : Nat} (h16 : f 16 = nI (m + 1)) (hm : m < 63) (h17 : f 17 = 0) (h33 : a 33 m = nI u) (hu : u < 20) (hk : a 26 u = nI kd) (hr : r < 100) (h30 : a 30 u = nI (r + 1)) (kk : ax_R d 3 10 [.ref 25, .int t9, .int (nI u), .int (nI kd)] [] (hp n xs (upd f 16 (nI m)) a o) k s Q) : ax_R d 3 10 [.ref 25, .int t9, x2, x3] [] (hp n xs f a o) k s Q := by
  refine en_head h16 hm h17 h33 hu hk ?_
  iterate 3 refine ax_nx rfl rfl ?_
  refine ax_ia rfl rfl (vp_in_nI (by omega) (by omega)) ?_
  rw [nI_clamp (by omega), h30]
  refine ax_nxf rfl rfl (nI_nle (by omega) (by omega)) ?_
  iterate 5 refine ax_nx rfl rfl ?_
  refine ax_top (y := nI m) (by show f 16 - 1 = _; rw [h16]; exact nI_pred m) ?_
  refine ax_nx (h' := hp n xs (upd f 16 (nI m)) a o) rfl rfl ?_
  iterate 2 refine ax_nx rfl rfl ?_
  exact kk
theorem en_add {c : Nat} {T : tm_T} {Z : List Nat} {t9 : Int32} {Q : ax_P} {m u kd : Nat} {Z0 S0 : List Nat} {f0 : Nat → Int32} {a0 : Nat → Nat → Int32} (hZ0 : Z = Z0 ++ S0) (hK : en_K n xs o d c T t9 k s Q m Z0 (Z ++ [u]) f0 a0) (hmt : mt_at c T f a) (hmz : mz_at T Z f a) (hZ : th_wf c T Z) (hul : u < T.length) (hm : m < 60) (h16 : f 16 = nI (m + 1)) (h17 : f 17 = 0) (h33 : a 33 m = nI u) (hk : a 26 u = nI kd) (hu : u ∉ Z) (hb : ∀ j, j < m → a 33 j = a0 33 j) (hg : ag [15, 16, 17] [30, 32, 33] f0 a0 f a) : ax_R (d + 1) 3 128 [.ref 25, .int t9, .int (nI u), .int (nI kd)] [] (hp n xs f a o) k s Q := by
  have h20 := hmt.2.1
  have h15 := hmz.1
  have h8 := hmz.2.1
  rcases Nat.lt_or_ge Z.length 8 with hlt | hge
  · iterate 3 refine ax_nx rfl rfl ?_
    refine ax_nxf rfl rfl (fun h9 => by rw [h15] at h9; have := (nI_eq (b := 8) (by omega) (by omega)).mp h9; omega) ?_
    iterate 5 refine ax_nx rfl rfl ?_
    rw [h15]
    refine ax_iasH (h2 := hp n xs f (upda a 32 (upd (a 32) (Z.length) (nI u))) o) rfl rfl (vp_in_nI (by omega) (by omega)) (by rw [nI_clamp (by omega)]; rfl) ?_
    iterate 5 refine ax_nx rfl rfl ?_
    refine ax_top (y := nI (Z.length + 1)) (by show f 15 + 1 = _; rw [h15]; exact nI_1 _) ?_
    refine ax_nx (h' := hp n xs (upd f 15 (nI (Z.length + 1))) (upda a 32 (upd (a 32) (Z.length) (nI u))) o) rfl rfl ?_
    iterate 4 refine ax_nx rfl rfl ?_
    refine ax_nx (st' := [.int (nI (Z.length + 1)), .int (nI u), .ref 30]) rfl rfl ?_
    refine ax_iasH (h2 := hp n xs (upd f 15 (nI (Z.length + 1))) (upda (upda a 32 (upd (a 32) (Z.length) (nI u))) 30 (upd (a 30) u (nI (Z.length + 1)))) o) rfl rfl (vp_in_nI (by omega) (by omega)) (by rw [nI_clamp (by omega)]; rfl) ?_
    refine ax_nx rfl rfl ?_
    have hadd := hmz.add hu hlt
    have g1 : ag [15] [30, 32] f a (upd f 15 (nI (Z.length + 1))) (upda (upda a 32 (upd (a 32) Z.length (nI u))) 30 (upd (a 30) u (nI (Z.length + 1)))) := by
      refine ⟨fun j hj => if_neg (fun h9 => hj (by rw [h9]; decide)), fun j hj => ?_⟩
      simp only [List.mem_cons, List.not_mem_nil, or_false, not_or] at hj
      simp [upda, hj]
    refine en_pop (m := m) (r := Z.length) h16 (by omega) h17 h33 (by omega) hk (by omega) (if_pos rfl) ?_
    have g2 : ag [16] [] (upd f 15 (nI (Z.length + 1))) (upda (upda a 32 (upd (a 32) Z.length (nI u))) 30 (upd (a 30) u (nI (Z.length + 1)))) (upd (upd f 15 (nI (Z.length + 1))) 16 (nI m)) (upda (upda a 32 (upd (a 32) Z.length (nI u))) 30 (upd (a 30) u (nI (Z.length + 1)))) := ag.f1
    exact hK.1 _ _ _ _ (by simp; omega) (hadd.kept g2 (by decide) (by decide)) hb h17 rfl ((hg.trans (g1.wide (by simp) (by simp))).trans (g2.wide (by simp) (by simp)))
  · have hz8 : Z.length = 8 := by omega
    iterate 3 refine ax_nx rfl rfl ?_
    refine ax_nxt rfl rfl (by rw [h15, hz8]; rfl) ?_
    iterate 2 refine ax_nx rfl rfl ?_
    refine ax_nx (h' := hp n xs (upd f 17 1) a o) rfl rfl ?_
    iterate 2 refine ax_nx rfl rfl ?_
    have g1 : ag [17] [] f a (upd f 17 1) a := ag.f1
    refine en_full (m := m) h16 (by omega) rfl ?_
    refine hK.2 _ _ _ _ (by simp; omega) ⟨S0, ?_, ?_⟩ rfl (hg.trans (g1.wide (by simp) (by simp)))
    · rw [← hZ0]; exact hmz.kept g1 (by decide) (by decide)
    · rw [← hZ0]; exact hZ
theorem en_fin1 {c p q : Nat} {T : tm_T} {Z : List Nat} {t9 : Int32} {x2 x3 : Value} {Q : ax_P} {m u : Nat} {Z0 S0 : List Nat} {f0 : Nat → Int32} {a0 : Nat → Nat → Int32} (hZ0 : Z = Z0 ++ S0) (hK : en_K n xs o d c T t9 k s Q m Z0 (Z ++ [u]) f0 a0) (hmt : mt_at c T f a) (hmz : mz_at T Z f a) (hZ : th_wf c T Z) (hm : m < 60) (h16 : f 16 = nI (m + 1)) (h17 : f 17 = 0) (h33 : a 33 m = nI u) (hu : u ∉ Z) (hb : ∀ j, j < m → a 33 j = a0 33 j) (hg : ag [15, 16, 17] [30, 32, 33] f0 a0 f a) (hTu : T[u]? = some (1, p, 0)) (hp0 : p ∈ Z) : ax_R (d + 1) 3 10 [.ref 25, .int t9, x2, x3] [] (hp n xs f a o) k s Q := by
  have hul := tm_lt hTu
  have h20 := hmt.2.1
  have h8 := hmz.2.1
  obtain ⟨k1, k2, k3, -, -, -⟩ := hmt.2.2.2.1 u _ hTu
  dsimp only at k1 k2 k3
  have hpT := th_lt hZ hp0
  have h30u := (hmz.2.2.2 u hul).2 hu
  have h30p := (hmz.2.2.2 p hpT).1 hp0
  have hps := tm_lt (ps_at hp0)
  refine en_head h16 (by omega) h17 h33 (by omega) k1 ?_
  iterate 3 refine ax_nx rfl rfl ?_
  refine ax_ia rfl rfl (vp_in_nI (by omega) (by omega)) ?_
  rw [nI_clamp (by omega), h30u]
  iterate 2 refine ax_nx rfl rfl ?_
  iterate 6 refine ax_nx rfl rfl ?_
  refine ax_ia rfl rfl (vp_in_nI (by omega) (by omega)) ?_
  rw [nI_clamp (by omega), k2]
  refine ax_ia rfl rfl (vp_in_nI (by omega) (by omega)) ?_
  rw [nI_clamp (by omega), h30p]
  refine ax_nxf rfl rfl (nI_ne0 (by omega) (by omega)) ?_
  iterate 2 refine ax_nx rfl rfl ?_
  refine ax_nx rfl rfl ?_
  exact en_add hZ0 hK hmt hmz hZ hul hm h16 h17 h33 k1 hu hb hg
theorem en_fin2 {c p q : Nat} {T : tm_T} {Z : List Nat} {t9 : Int32} {x2 x3 : Value} {Q : ax_P} {m u : Nat} {Z0 S0 : List Nat} {f0 : Nat → Int32} {a0 : Nat → Nat → Int32} (hZ0 : Z = Z0 ++ S0) (hK : en_K n xs o d c T t9 k s Q m Z0 (Z ++ [u]) f0 a0) (hmt : mt_at c T f a) (hmz : mz_at T Z f a) (hZ : th_wf c T Z) (hm : m < 60) (h16 : f 16 = nI (m + 1)) (h17 : f 17 = 0) (h33 : a 33 m = nI u) (hu : u ∉ Z) (hb : ∀ j, j < m → a 33 j = a0 33 j) (hg : ag [15, 16, 17] [30, 32, 33] f0 a0 f a) (hTu : T[u]? = some (2, p, q)) (hp0 : p ∈ Z) (hq : q ∈ Z) : ax_R (d + 1) 3 10 [.ref 25, .int t9, x2, x3] [] (hp n xs f a o) k s Q := by
  have hul := tm_lt hTu
  have h20 := hmt.2.1
  have h8 := hmz.2.1
  obtain ⟨k1, k2, k3, -, -, -⟩ := hmt.2.2.2.1 u _ hTu
  dsimp only at k1 k2 k3
  have hpT := th_lt hZ hp0
  have h30u := (hmz.2.2.2 u hul).2 hu
  have h30p := (hmz.2.2.2 p hpT).1 hp0
  have hps := tm_lt (ps_at hp0)
  have hqT := th_lt hZ hq
  have h30q := (hmz.2.2.2 q hqT).1 hq
  have hqs := tm_lt (ps_at hq)
  refine en_head h16 (by omega) h17 h33 (by omega) k1 ?_
  iterate 3 refine ax_nx rfl rfl ?_
  refine ax_ia rfl rfl (vp_in_nI (by omega) (by omega)) ?_
  rw [nI_clamp (by omega), h30u]
  iterate 2 refine ax_nx rfl rfl ?_
  iterate 6 refine ax_nx rfl rfl ?_
  refine ax_ia rfl rfl (vp_in_nI (by omega) (by omega)) ?_
  rw [nI_clamp (by omega), k2]
  refine ax_ia rfl rfl (vp_in_nI (by omega) (by omega)) ?_
  rw [nI_clamp (by omega), h30p]
  refine ax_nxf rfl rfl (nI_ne0 (by omega) (by omega)) ?_
  iterate 2 refine ax_nx rfl rfl ?_
  iterate 6 refine ax_nx rfl rfl ?_
  refine ax_ia rfl rfl (vp_in_nI (by omega) (by omega)) ?_
  rw [nI_clamp (by omega), k3]
  refine ax_ia rfl rfl (vp_in_nI (by omega) (by omega)) ?_
  rw [nI_clamp (by omega), h30q]
  refine ax_nxf rfl rfl (nI_ne0 (by omega) (by omega)) ?_
  exact en_add hZ0 hK hmt hmz hZ hul hm h16 h17 h33 k1 hu hb hg
theorem en_self {m : Nat} {f : Nat → Int32} {a : Nat → Nat → Int32} {x z : Int32} : ag [16] [33] f a (upd f 16 x) (upda a 33 (upd (a 33) (m + 1) z)) := ⟨fun j hj => if_neg (fun h9 => hj (by rw [h9]; decide)), fun j hj => if_neg (fun h9 => hj (by rw [h9]; decide))⟩
theorem q_Mo_en {c : Nat} {T : tm_T} {t9 : Int32} {Q : ax_P} : ∀ (u : Nat), u < T.length → tm_V T u = 0 → ∀ (Z : List Nat) (m : Nat) (f : Nat → Int32) (a : Nat → Nat → Int32) (x2 x3 : Value), mt_at c T f a → mz_at T Z f a → th_wf c T Z → m + u < 60 → f 16 = nI (m + 1) → f 17 = 0 → a 33 m = nI u → en_K n xs o d c T t9 k s Q m Z (tm_en T (u + 1) Z u) f a → ax_R (d + 1) 3 10 [.ref 25, .int t9, x2, x3] [] (hp n xs f a o) k s Q := by
  intro u
  induction u using Nat.strongRecOn with
  | _ u ih =>
  intro hul hv Z m f a x2 x3 hmt hmz hZ hmu h16 h17 h33 hK
  obtain ⟨hT, h20, h14, htb, hG⟩ := id hmt
  have h8 := hmz.2.1
  have hg : T[u]? = some T[u] := List.getElem?_eq_getElem hul
  generalize T[u] = e at hg
  obtain ⟨k1, k2, k3, -, -, -⟩ := htb u e hg
  have hkd := hT.2.2 u e hg
  have hV := tm_V_vs hT u e hg
  rw [hv] at hV
  by_cases hu : u ∈ Z
  · have hps := tm_lt (ps_at hu)
    rw [tm_en_in hu] at hK
    refine en_pop (m := m) (r := ps Z u) h16 (by omega) h17 h33 (by omega) k1 (by omega) ((hmz.2.2.2 u hul).1 hu) ?_
    have g1 : ag [16] [] f a (upd f 16 (nI m)) a := ag.f1
    exact hK.1 _ _ _ _ h8 (hmz.kept g1 (by decide) (by decide)) (fun _ _ => rfl) h17 rfl (g1.wide (by simp) (by simp))
  have h30u := (hmz.2.2.2 u hul).2 hu
  rcases hkd with ⟨rfl, huc⟩ | ⟨p, rfl, hp9⟩ | ⟨p, q, rfl, hp9, hq9⟩ | rfl | rfl
  · exact absurd (th_c hZ huc) hu
  · dsimp only at k1 k2 k3
    have hpl : p < T.length := by omega
    have hvp : tm_V T p = 0 := hV.symm
    have een : tm_en T (u + 1) Z u = tm_en T (p + 1) Z p ++ [u] := by
      rw [tm_en1 hT hZ hg (Nat.lt_succ_self _), if_neg hu, tm_en_fu hT (show p < u + 1 by omega) (show p < p + 1 by omega)]
    rw [een] at hK
    obtain ⟨⟨S, hS, hS2⟩, b2, b3⟩ := tm_en_ok hT hZ hpl (show p < p + 1 by omega) hvp
    have hun : u ∉ tm_en T (p + 1) Z p := by
      rw [hS]
      intro h9
      rcases List.mem_append.mp h9 with h9 | h9
      · exact hu h9
      · have := hS2 u h9; omega
    by_cases hp1 : p ∈ Z
    · rw [tm_en_in hp1] at hK
      exact en_fin1 (q := 0) (S0 := []) (by simp) hK hmt hmz hZ (by omega) h16 h17 h33 hu (fun _ _ => rfl) ag.rf hg hp1
    · have h30p := (hmz.2.2.2 p hpl).2 hp1
      refine en_head h16 (by omega) h17 h33 (by omega) k1 ?_
      iterate 3 refine ax_nx rfl rfl ?_
      refine ax_ia rfl rfl (vp_in_nI (by omega) (by omega)) ?_
      rw [nI_clamp (by omega), h30u]
      iterate 2 refine ax_nx rfl rfl ?_
      iterate 6 refine ax_nx rfl rfl ?_
      refine ax_ia rfl rfl (vp_in_nI (by omega) (by omega)) ?_
      rw [nI_clamp (by omega), k2]
      refine ax_ia rfl rfl (vp_in_nI (by omega) (by omega)) ?_
      rw [nI_clamp (by omega), h30p]
      iterate 5 refine ax_nx rfl rfl ?_
      refine ax_ia rfl rfl (vp_in_nI (by omega) (by omega)) ?_
      rw [nI_clamp (by omega), k2]
      refine ax_cal rfl rfl (q_Mo_push (m := m + 1) (by omega) h16) (fun v h' hh => ?_)
      obtain ⟨rfl, rfl⟩ := hh
      iterate 2 refine ax_nx rfl rfl ?_
      have g1 := en_self (m := m) (f := f) (a := a) (x := nI (m + 1 + 1)) (z := nI p)
      refine ih p hp9 hpl hvp Z (m + 1) _ _ _ _ (hmt.kept g1 (by decide) (by decide)) (hmz.kept g1 (by decide) (by decide)) hZ (by omega) rfl h17 (if_pos rfl) ⟨fun f' a' x2 x3 w1 w2 w3 w4 w5 w6 => ?_, fun f' a' x2 x3 w1 w2 w3 w4 => ?_⟩
      · have g2 := (g1.wide (F' := [15, 16, 17]) (A' := [30, 32, 33]) (by simp) (by simp)).trans w6
        refine en_fin1 (q := 0) hS hK (hmt.kept g2 (by decide) (by decide)) w2 b2 (by omega) w5 w4 ((w3 m (by omega)).trans ((if_neg (by omega)).trans h33)) hun (fun j hj => (w3 j (by omega)).trans (if_neg (by omega))) g2 hg b3
      · exact hK.2 f' a' x2 x3 (by rw [List.length_append]; omega) w2 w3 ((g1.wide (by simp) (by simp)).trans w4)
  · dsimp only at k1 k2 k3
    have hpl : p < T.length := by omega
    have hql : q < T.length := by omega
    obtain ⟨hvp, hvq⟩ : tm_V T p = 0 ∧ tm_V T q = 0 := Nat.or_eq_zero_iff.mp hV.symm
    have een : tm_en T (u + 1) Z u = tm_en T (q + 1) (tm_en T (p + 1) Z p) q ++ [u] := by
      rw [tm_en2 hT hZ hg (Nat.lt_succ_self _), if_neg hu, tm_en_fu hT (show p < u + 1 by omega) (show p < p + 1 by omega), tm_en_fu hT (show q < u + 1 by omega) (show q < q + 1 by omega)]
    rw [een] at hK
    obtain ⟨⟨S, hS, hS2⟩, b2, b3⟩ := tm_en_ok hT hZ hpl (show p < p + 1 by omega) hvp
    have hun : u ∉ tm_en T (p + 1) Z p := by
      rw [hS]
      intro h9
      rcases List.mem_append.mp h9 with h9 | h9
      · exact hu h9
      · have := hS2 u h9; omega
    obtain ⟨⟨S3, hS3, hS4⟩, c2, c3⟩ := tm_en_ok hT b2 hql (show q < q + 1 by omega) hvq
    have hun2 : u ∉ tm_en T (q + 1) (tm_en T (p + 1) Z p) q := by
      rw [hS3]
      intro h9
      rcases List.mem_append.mp h9 with h9 | h9
      · exact hun h9
      · have := hS4 u h9; omega
    have pass2 : ∀ (f1 : Nat → Int32) (a1 : Nat → Nat → Int32) (x2 x3 : Value), mz_at T (tm_en T (p + 1) Z p) f1 a1 → f1 17 = 0 → f1 16 = nI (m + 1) → a1 33 m = nI u → (∀ j, j < m → a1 33 j = a 33 j) → ag [15, 16, 17] [30, 32, 33] f a f1 a1 → ax_R (d + 1) 3 10 [.ref 25, .int t9, x2, x3] [] (hp n xs f1 a1 o) k s Q := by
      generalize tm_en T (p + 1) Z p = Z1 at *
      intro f1 a1 x2 x3 j1 j3 j4 j5 j6 j7
      have hmt1 := hmt.kept j7 (by decide) (by decide)
      have hz8 := j1.2.1
      by_cases hq1 : q ∈ Z1
      · rw [tm_en_in hq1] at hK
        exact en_fin2 hS hK hmt1 j1 b2 (by omega) j4 j3 j5 hun j6 j7 hg b3 hq1
      · obtain ⟨y1, y2, y3, -, -, -⟩ := hmt1.2.2.2.1 u _ hg
        dsimp only at y1 y2 y3
        have h30u1 := (j1.2.2.2 u hul).2 hun
        have h30p1 := (j1.2.2.2 p hpl).1 b3
        have h30q1 := (j1.2.2.2 q hql).2 hq1
        have hps := tm_lt (ps_at b3)
        refine en_head j4 (by omega) j3 j5 (by omega) y1 ?_
        iterate 3 refine ax_nx rfl rfl ?_
        refine ax_ia rfl rfl (vp_in_nI (by omega) (by omega)) ?_
        rw [nI_clamp (by omega), h30u1]
        iterate 2 refine ax_nx rfl rfl ?_
        iterate 6 refine ax_nx rfl rfl ?_
        refine ax_ia rfl rfl (vp_in_nI (by omega) (by omega)) ?_
        rw [nI_clamp (by omega), y2]
        refine ax_ia rfl rfl (vp_in_nI (by omega) (by omega)) ?_
        rw [nI_clamp (by omega), h30p1]
        refine ax_nxf rfl rfl (nI_ne0 (by omega) (by omega)) ?_
        iterate 2 refine ax_nx rfl rfl ?_
        iterate 6 refine ax_nx rfl rfl ?_
        refine ax_ia rfl rfl (vp_in_nI (by omega) (by omega)) ?_
        rw [nI_clamp (by omega), y3]
        refine ax_ia rfl rfl (vp_in_nI (by omega) (by omega)) ?_
        rw [nI_clamp (by omega), h30q1]
        iterate 5 refine ax_nx rfl rfl ?_
        refine ax_ia rfl rfl (vp_in_nI (by omega) (by omega)) ?_
        rw [nI_clamp (by omega), y3]
        refine ax_cal rfl rfl (q_Mo_push (m := m + 1) (by omega) j4) (fun v h' hh => ?_)
        obtain ⟨rfl, rfl⟩ := hh
        iterate 2 refine ax_nx rfl rfl ?_
        have g1 := en_self (m := m) (f := f1) (a := a1) (x := nI (m + 1 + 1)) (z := nI q)
        refine ih q hq9 hql hvq Z1 (m + 1) _ _ _ _ (hmt1.kept g1 (by decide) (by decide)) (j1.kept g1 (by decide) (by decide)) b2 (by omega) rfl j3 (if_pos rfl) ⟨fun f' a' x2 x3 w1 w2 w3 w4 w5 w6 => ?_, fun f' a' x2 x3 w1 w2 w3 w4 => ?_⟩
        · have g2 := (g1.wide (F' := [15, 16, 17]) (A' := [30, 32, 33]) (by simp) (by simp)).trans w6
          refine en_fin2 (S0 := S ++ S3) (by rw [hS3, hS, List.append_assoc]) hK (hmt1.kept g2 (by decide) (by decide)) w2 c2 (by omega) w5 w4 ((w3 m (by omega)).trans ((if_neg (by omega)).trans j5)) hun2 (fun j hj => ((w3 j (by omega)).trans (if_neg (by omega))).trans (j6 j hj)) (j7.trans g2) hg ?_ c3
          rw [hS3]
          exact List.mem_append_left _ b3
        · obtain ⟨S5, w2a, w2b⟩ := w2
          refine hK.2 f' a' x2 x3 (by rw [List.length_append]; omega) ⟨S ++ S5, ?_, ?_⟩ w3 ((j7.trans (g1.wide (by simp) (by simp))).trans w4)
          · rw [← List.append_assoc, ← hS]; exact w2a
          · rw [← List.append_assoc, ← hS]; exact w2b
    by_cases hp1 : p ∈ Z
    · rw [tm_en_in hp1] at pass2
      exact pass2 f a x2 x3 hmz h17 h16 h33 (fun _ _ => rfl) ag.rf
    · have h30p := (hmz.2.2.2 p hpl).2 hp1
      refine en_head h16 (by omega) h17 h33 (by omega) k1 ?_
      iterate 3 refine ax_nx rfl rfl ?_
      refine ax_ia rfl rfl (vp_in_nI (by omega) (by omega)) ?_
      rw [nI_clamp (by omega), h30u]
      iterate 2 refine ax_nx rfl rfl ?_
      iterate 6 refine ax_nx rfl rfl ?_
      refine ax_ia rfl rfl (vp_in_nI (by omega) (by omega)) ?_
      rw [nI_clamp (by omega), k2]
      refine ax_ia rfl rfl (vp_in_nI (by omega) (by omega)) ?_
      rw [nI_clamp (by omega), h30p]
      iterate 5 refine ax_nx rfl rfl ?_
      refine ax_ia rfl rfl (vp_in_nI (by omega) (by omega)) ?_
      rw [nI_clamp (by omega), k2]
      refine ax_cal rfl rfl (q_Mo_push (m := m + 1) (by omega) h16) (fun v h' hh => ?_)
      obtain ⟨rfl, rfl⟩ := hh
      iterate 2 refine ax_nx rfl rfl ?_
      have g1 := en_self (m := m) (f := f) (a := a) (x := nI (m + 1 + 1)) (z := nI p)
      refine ih p hp9 hpl hvp Z (m + 1) _ _ _ _ (hmt.kept g1 (by decide) (by decide)) (hmz.kept g1 (by decide) (by decide)) hZ (by omega) rfl h17 (if_pos rfl) ⟨fun f' a' x2 x3 w1 w2 w3 w4 w5 w6 => ?_, fun f' a' x2 x3 w1 w2 w3 w4 => ?_⟩
      · exact pass2 f' a' x2 x3 w2 w4 w5 ((w3 m (by omega)).trans ((if_neg (by omega)).trans h33)) (fun j hj => (w3 j (by omega)).trans (if_neg (by omega))) ((g1.wide (by simp) (by simp)).trans w6)
      · refine hK.2 f' a' x2 x3 ?_ w2 w3 ((g1.wide (by simp) (by simp)).trans w4)
        rw [hS3, List.length_append, List.length_append]
        omega
  · cases hV
  · cases hV
theorem q_Mo_enter {c : Nat} {T : tm_T} {Z : List Nat} {u : Nat} (hmt : mt_at c T f a) (hmz : mz_at T Z f a) (hZ : th_wf c T Z) (hu : u < T.length) (hv : tm_V T u = 0) (h17 : f 17 = 0) : ax_R (d + 1) 3 0 (ax_in 3 [.ref 25, .int (nI u)]) [] (hp n xs f a o) k s (ax_V (fun v h' => v = none ∧ ∃ f' a', h' = hp n xs f' a' o ∧ ag [15, 16, 17] [30, 32, 33] f a f' a' ∧ (((tm_en T (u + 1) Z u).length ≤ 8 ∧ f' 17 = 0 ∧ mz_at T (tm_en T (u + 1) Z u) f' a') ∨ (8 < (tm_en T (u + 1) Z u).length ∧ f' 17 = 1 ∧ ∃ S, mz_at T (Z ++ S) f' a' ∧ th_wf c T (Z ++ S)))) k s) := by
  have h20 := hmt.2.1
  iterate 2 refine ax_nx rfl rfl ?_
  refine ax_nx (h' := hp n xs (upd f 16 0) a o) rfl rfl ?_
  iterate 2 refine ax_nx rfl rfl ?_
  refine ax_cal rfl rfl (q_Mo_push (m := 0) (by omega) rfl) (fun v h' hh => ?_)
  obtain ⟨rfl, rfl⟩ := hh
  have g1 : ag [16] [33] f a (upd (upd f 16 0) 16 (nI (0 + 1))) (upda a 33 (upd (a 33) 0 (nI u))) := ⟨fun j hj => ?_, fun j hj => ?_⟩
  rotate_left
  · simp only [List.mem_cons, List.not_mem_nil, or_false] at hj
    simp [upd, hj]
  · simp only [List.mem_cons, List.not_mem_nil, or_false] at hj
    simp [upda, hj]
  refine q_Mo_en u hu hv Z 0 _ _ _ _ (hmt.kept g1 (by decide) (by decide)) (hmz.kept g1 (by decide) (by decide)) hZ (by omega) rfl h17 rfl ⟨fun f' a' x2 x3 w1 w2 w3 w4 w5 w6 => ?_, fun f' a' x2 x3 w1 w2 w3 w4 => ?_⟩
  · iterate 2 refine ax_nx rfl rfl ?_
    rw [w5]
    refine ax_nx rfl rfl ?_
    exact ax_ret rfl rfl ⟨_, rfl, rfl, rfl, rfl, f', a', rfl, (g1.wide (by simp) (by simp)).trans w6, Or.inl ⟨w1, w4, w2⟩⟩
  · exact ax_ret rfl rfl ⟨_, rfl, rfl, rfl, rfl, f', a', rfl, (g1.wide (by simp) (by simp)).trans w4, Or.inr ⟨w1, w3, w2⟩⟩
end HEN
