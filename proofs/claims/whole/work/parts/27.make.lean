def gI (v : Nat) : Int32 := if v = 0 then 1 else 0
theorem gI_01 (v : Nat) : gI v = 0 ∨ gI v = 1 := by
  unfold gI
  by_cases h : v = 0
  · rw [if_pos h]; exact Or.inr rfl
  · rw [if_neg h]; exact Or.inl rfl
def mt_at (c : Nat) (T : tm_T) (f : Nat → Int32) (a : Nat → Nat → Int32) : Prop := tm_wf c T ∧ T.length ≤ 20 ∧ f 14 = nI T.length ∧ tb_at T (a 26) (a 27) (a 28) ∧ ∀ i, i < T.length → a 29 i = gI (tm_V T i)
theorem tm_vk_app {c : Nat} {T S : tm_T} {e : Nat × Nat × Nat} (hT : tm_wf c T) (he : tm_kd c T.length e) : tm_vk (tm_V (T ++ S)) e = tm_vk (tm_V T) e := by
  rcases he with ⟨rfl, -⟩ | ⟨p, rfl, hp9⟩ | ⟨p, q, rfl, hp9, hq9⟩ | rfl | rfl
  · rfl
  · exact tm_V_app hT hp9
  · show tm_V _ p ||| tm_V _ q = tm_V T p ||| tm_V T q
    rw [tm_V_app hT hp9, tm_V_app hT hq9]
  · rfl
  · rfl
section HM
variable {n : Nat} {xs : Nat → Int32} {f : Nat → Int32} {a : Nat → Nat → Int32} {o : Nat → Int64} {d k s : Nat}
theorem q_Mo_make {c : Nat} {T : tm_T} (h : mt_at c T f a) {x y z : Nat} (he : tm_kd c T.length (x, y, z)) : ax_R (d + 1) 1 0 (ax_in 1 [.ref 25, .int (nI x), .int (nI y), .int (nI z)]) [] (hp n xs f a o) k s
    (ax_V (fun v h' => ∃ f' a', h' = hp n xs f' a' o ∧ (((tm_mk T (x, y, z)).1.length ≤ 20 ∧ v = some (.int (nI (tm_mk T (x, y, z)).2)) ∧ mt_at c (tm_mk T (x, y, z)).1 f' a' ∧ ag [14] [26, 27, 28, 29, 30] f a f' a' ∧ (∀ i, i < T.length → a' 30 i = a 30 i) ∧ ∀ i, T.length ≤ i → i < (tm_mk T (x, y, z)).1.length → a' 30 i = 0) ∨
      (20 < (tm_mk T (x, y, z)).1.length ∧ v = some (.int (-1)) ∧ f' = upd f 17 1 ∧ a' = a))) k s) := by
  obtain ⟨hT, hl, h14, htb, hG⟩ := id h
  obtain ⟨hx, hy, hz⟩ := tm_kd_lt he hl
  refine ax_nx rfl rfl ?_
  refine ax_nx rfl rfl ?_
  refine ax_nx rfl rfl ?_
  refine ax_nx rfl rfl ?_
  refine ax_cal rfl rfl (q_find_Mo htb h14 hl hx hy hz) (fun v h' hq => ?_)
  obtain ⟨rfl, rfl⟩ := hq
  cases hf : tm_fd T (x, y, z) with
  | some i =>
    have hmk : tm_mk T (x, y, z) = (T, i) := by unfold tm_mk; rw [hf]
    have hi := tm_lt (tm_fd_some hf)
    refine ax_nx (al' := [.ref 25, .int (nI x), .int (nI y), .int (nI z), .int (nI i)]) rfl rfl ?_
    refine ax_nx rfl rfl ?_
    refine ax_nxf rfl rfl (nI_pos (by omega)) ?_
    refine ax_nx rfl rfl ?_
    exact ax_ret rfl rfl ⟨_, rfl, rfl, rfl, f, a, rfl, Or.inl ⟨by rw [hmk]; exact hl, by rw [hmk], by rw [hmk]; exact h, ag.rf, fun _ _ => rfl, fun i9 h8 h9 => by rw [hmk] at h9; exact absurd h9 (by simpa using h8)⟩⟩
  | none =>
    have hmk : tm_mk T (x, y, z) = (T ++ [(x, y, z)], T.length) := tm_mk_new hf
    refine ax_nx (al' := [.ref 25, .int (nI x), .int (nI y), .int (nI z), .int (-1)]) rfl rfl ?_
    refine ax_nx rfl rfl ?_
    refine ax_nx rfl rfl ?_
    refine ax_nx rfl rfl ?_
    refine ax_nx rfl rfl ?_
    refine ax_nx rfl rfl ?_
    rcases Nat.lt_or_ge T.length 20 with hlt | hge
    · refine ax_nxf rfl rfl (fun h9 => ?_) ?_
      · rw [h14] at h9
        have h8 : nI T.length = nI 20 := h9
        have := (nI_eq (by omega) (by omega)).mp h8
        omega
      refine ax_nx rfl rfl ?_
      refine ax_nx rfl rfl ?_
      refine ax_nx rfl rfl ?_
      refine ax_nx rfl rfl ?_
      refine ax_nx rfl rfl ?_
      rw [h14]
      refine ax_iasH (h2 := hp n xs f (upda a 26 (upd (a 26) T.length (nI x))) o) rfl rfl (vp_in_nI (by omega) (by omega)) (by rw [nI_clamp (by omega)]; rfl) ?_
      refine ax_nx rfl rfl ?_
      refine ax_nx rfl rfl ?_
      refine ax_nx rfl rfl ?_
      refine ax_nx rfl rfl ?_
      refine ax_nx rfl rfl ?_
      rw [h14]
      refine ax_iasH (h2 := hp n xs f (upda (upda a 26 (upd (a 26) T.length (nI x))) 27 (upd (a 27) T.length (nI y))) o) rfl rfl (vp_in_nI (by omega) (by omega)) (by rw [nI_clamp (by omega)]; rfl) ?_
      refine ax_nx rfl rfl ?_
      refine ax_nx rfl rfl ?_
      refine ax_nx rfl rfl ?_
      refine ax_nx rfl rfl ?_
      refine ax_nx rfl rfl ?_
      rw [h14]
      refine ax_iasH (h2 := hp n xs f (upda (upda (upda a 26 (upd (a 26) T.length (nI x))) 27 (upd (a 27) T.length (nI y))) 28 (upd (a 28) T.length (nI z))) o) rfl rfl (vp_in_nI (by omega) (by omega)) (by rw [nI_clamp (by omega)]; rfl) ?_
      refine ax_nx rfl rfl ?_
      refine ax_nx rfl rfl ?_
      refine ax_nx rfl rfl ?_
      refine ax_nx rfl rfl ?_
      rw [h14]
      generalize ha3 : upda (upda (upda a 26 (upd (a 26) T.length (nI x))) 27 (upd (a 27) T.length (nI y))) 28 (upd (a 28) T.length (nI z)) = a3
      have g29 : a3 29 = a 29 := by rw [← ha3]; rfl
      have g30 : a3 30 = a 30 := by rw [← ha3]; rfl
      have fin : ∀ g : Int32, g = gI (tm_vk (tm_V T) (x, y, z)) → ax_R (d + 1) 1 117 [.ref 25, .int (nI x), .int (nI y), .int (nI z), .int (-1)] [.int g, .int (nI T.length), .ref 29] (hp n xs f a3 o) k s
          (ax_V (fun v h' => ∃ f' a', h' = hp n xs f' a' o ∧ (((tm_mk T (x, y, z)).1.length ≤ 20 ∧ v = some (.int (nI (tm_mk T (x, y, z)).2)) ∧ mt_at c (tm_mk T (x, y, z)).1 f' a' ∧ ag [14] [26, 27, 28, 29, 30] f a f' a' ∧ (∀ i, i < T.length → a' 30 i = a 30 i) ∧ ∀ i, T.length ≤ i → i < (tm_mk T (x, y, z)).1.length → a' 30 i = 0) ∨
            (20 < (tm_mk T (x, y, z)).1.length ∧ v = some (.int (-1)) ∧ f' = upd f 17 1 ∧ a' = a))) k s) := by
        intro g hg
        refine ax_basH (h2 := hp n xs f (upda a3 29 (upd (a3 29) T.length g)) o) rfl rfl (vp_in_nI (by omega) (by omega)) (by rw [hg]; exact gI_01 _) (by rw [nI_clamp (by omega)]; rfl) ?_
        refine ax_nx rfl rfl ?_
        refine ax_nx rfl rfl ?_
        refine ax_nx rfl rfl ?_
        refine ax_nx rfl rfl ?_
        refine ax_nx rfl rfl ?_
        rw [h14]
        refine ax_iasH (h2 := hp n xs f (upda (upda a3 29 (upd (a3 29) T.length g)) 30 (upd (a3 30) T.length 0)) o) rfl rfl (vp_in_nI (by omega) (by omega)) (by rw [nI_clamp (by omega)]; rfl) ?_
        refine ax_nx rfl rfl ?_
        refine ax_nx rfl rfl ?_
        refine ax_nx rfl rfl ?_
        refine ax_nx rfl rfl ?_
        refine ax_nx rfl rfl ?_
        rw [h14]
        refine ax_top (y := nI (T.length + 1)) (nI_1 _) ?_
        refine ax_nx (h' := hp n xs (upd f 14 (nI (T.length + 1))) (upda (upda a3 29 (upd (a3 29) T.length g)) 30 (upd (a3 30) T.length 0)) o) rfl rfl ?_
        refine ax_nx rfl rfl ?_
        refine ax_nx rfl rfl ?_
        refine ax_nx rfl rfl ?_
        refine ax_nx rfl rfl ?_
        refine ax_top (y := nI T.length) (nI_pred _) ?_
        refine ax_ret rfl rfl ⟨_, rfl, rfl, rfl, _, _, rfl, Or.inl ⟨by rw [hmk]; simp; omega, by rw [hmk], ?_, ?_, fun i hi => ?_, fun i hi hi2 => ?_⟩⟩
        · have hwf := tm_mk_wf hT he
          have hv := tm_mk_V hT he
          rw [hmk] at hwf hv ⊢
          refine ⟨hwf, by simp; omega, by rw [List.length_append]; rfl, ?_, fun i hi => ?_⟩
          · rw [← ha3]
            exact htb.push hx hy hz
          · show upd (a3 29) T.length g i = _
            rcases Nat.lt_or_ge i T.length with hil | hil
            · rw [tm_V_app hT hil, g29]
              exact (if_neg (Nat.ne_of_lt hil)).trans (hG i hil)
            · have hie : i = T.length := by simp at hi; omega
              subst hie
              refine (if_pos rfl).trans ?_
              rw [hg, hv]
              dsimp only
              rw [tm_vk_app hT he]
        · refine ⟨fun j hj => if_neg (fun h9 => hj (by rw [h9]; exact List.mem_cons_self)), fun j hj => ?_⟩
          simp only [List.mem_cons, List.not_mem_nil, or_false, not_or] at hj
          rw [← ha3]
          simp [upda, hj]
        · show upd (a3 30) T.length 0 i = _
          rw [g30]
          exact if_neg (Nat.ne_of_lt hi)
        · rw [hmk] at hi2
          have hie : i = T.length := by simp at hi2; omega
          subst hie
          exact if_pos rfl
      have hG3 : ∀ i, i < T.length → a3 29 i = gI (tm_V T i) := fun i hi => by rw [g29]; exact hG i hi
      rcases he with ⟨he, -⟩ | ⟨p, he, hp9⟩ | ⟨p, q, he, hp9, hq9⟩ | he | he
      · cases he
        refine ax_nx rfl rfl ?_
        refine ax_nx rfl rfl ?_
        refine ax_nx rfl rfl ?_
        refine ax_nx rfl rfl ?_
        exact fin _ rfl
      · cases he
        refine ax_nx rfl rfl ?_
        refine ax_nx rfl rfl ?_
        refine ax_nx rfl rfl ?_
        refine ax_nx rfl rfl ?_
        refine ax_nx rfl rfl ?_
        refine ax_nx rfl rfl ?_
        refine ax_nx rfl rfl ?_
        refine ax_nx rfl rfl ?_
        refine ax_ba rfl rfl (vp_in_nI (by omega) (by omega)) ?_
        rw [nI_clamp (by omega), hG3 _ hp9]
        by_cases hv : tm_V T y = 0
        · have e9 : gI (tm_V T y) = 1 := if_pos hv
          rw [e9]
          refine ax_nx rfl rfl ?_
          refine ax_nx rfl rfl ?_
          refine ax_nx rfl rfl ?_
          exact fin _ e9.symm
        · have e9 : gI (tm_V T y) = 0 := if_neg hv
          rw [e9]
          refine ax_nx rfl rfl ?_
          refine ax_nx rfl rfl ?_
          refine ax_nx rfl rfl ?_
          refine ax_nx rfl rfl ?_
          refine ax_nx rfl rfl ?_
          exact fin _ e9.symm
      · cases he
        refine ax_nx rfl rfl ?_
        refine ax_nx rfl rfl ?_
        refine ax_nx rfl rfl ?_
        refine ax_nx rfl rfl ?_
        refine ax_nx rfl rfl ?_
        refine ax_nx rfl rfl ?_
        refine ax_nx rfl rfl ?_
        refine ax_nx rfl rfl ?_
        refine ax_nx rfl rfl ?_
        refine ax_nx rfl rfl ?_
        refine ax_nx rfl rfl ?_
        refine ax_ba rfl rfl (vp_in_nI (by omega) (by omega)) ?_
        rw [nI_clamp (by omega), hG3 _ hp9]
        by_cases hv : tm_V T y = 0
        · have e9 : gI (tm_V T y) = 1 := if_pos hv
          rw [e9]
          refine ax_nx rfl rfl ?_
          refine ax_nx rfl rfl ?_
          refine ax_nx rfl rfl ?_
          refine ax_nx rfl rfl ?_
          refine ax_ba rfl rfl (vp_in_nI (by omega) (by omega)) ?_
          rw [nI_clamp (by omega), hG3 _ hq9]
          by_cases hw : tm_V T z = 0
          · have e8 : gI (tm_V T z) = 1 := if_pos hw
            rw [e8]
            refine ax_nx rfl rfl ?_
            refine ax_nx rfl rfl ?_
            refine ax_nx rfl rfl ?_
            refine fin _ (if_pos ?_).symm
            show tm_V T y ||| tm_V T z = 0
            rw [hv, hw]
            rfl
          · have e8 : gI (tm_V T z) = 0 := if_neg hw
            rw [e8]
            refine ax_nx rfl rfl ?_
            refine ax_nx rfl rfl ?_
            refine fin _ (if_neg ?_).symm
            show ¬ (tm_V T y ||| tm_V T z = 0)
            rw [hv, Nat.zero_or]
            exact hw
        · have e9 : gI (tm_V T y) = 0 := if_neg hv
          rw [e9]
          refine ax_nx rfl rfl ?_
          refine ax_nx rfl rfl ?_
          refine fin _ (if_neg ?_).symm
          show ¬ (tm_V T y ||| tm_V T z = 0)
          exact fun h9 => hv (Nat.or_eq_zero_iff.mp h9).1
      · cases he
        refine ax_nx rfl rfl ?_
        refine ax_nx rfl rfl ?_
        refine ax_nx rfl rfl ?_
        refine ax_nx rfl rfl ?_
        refine ax_nx rfl rfl ?_
        refine ax_nx rfl rfl ?_
        refine ax_nx rfl rfl ?_
        refine ax_nx rfl rfl ?_
        refine ax_nx rfl rfl ?_
        exact fin _ rfl
      · cases he
        refine ax_nx rfl rfl ?_
        refine ax_nx rfl rfl ?_
        refine ax_nx rfl rfl ?_
        refine ax_nx rfl rfl ?_
        refine ax_nx rfl rfl ?_
        refine ax_nx rfl rfl ?_
        refine ax_nx rfl rfl ?_
        refine ax_nx rfl rfl ?_
        refine ax_nx rfl rfl ?_
        exact fin _ rfl
    · have hL : T.length = 20 := by omega
      refine ax_nxt rfl rfl (by rw [h14, hL]; rfl) ?_
      refine ax_nx rfl rfl ?_
      refine ax_nx rfl rfl ?_
      refine ax_nx (h' := hp n xs (upd f 17 1) a o) rfl rfl ?_
      refine ax_nx rfl rfl ?_
      exact ax_ret rfl rfl ⟨_, rfl, rfl, rfl, _, _, rfl, Or.inr ⟨by rw [hmk]; simp; omega, rfl, rfl, rfl⟩⟩
end HM
