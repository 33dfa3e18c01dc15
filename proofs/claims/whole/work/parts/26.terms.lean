theorem nI_or (p q : Nat) : nI p ||| nI q = nI (p ||| q) := by
  apply Int32.toBitVec_inj.mp
  rw [Int32.toBitVec_or]
  show BitVec.ofNat 32 p ||| BitVec.ofNat 32 q = BitVec.ofNat 32 (p ||| q)
  apply BitVec.eq_of_getLsbD_eq
  intro i hi
  simp [BitVec.getLsbD_ofNat, hi, Nat.testBit_or]
def ag (F A : List Nat) (f : Nat → Int32) (a : Nat → Nat → Int32) (f' : Nat → Int32) (a' : Nat → Nat → Int32) : Prop := (∀ j, j ∉ F → f' j = f j) ∧ ∀ j, j ∉ A → a' j = a j
theorem ag.rf {F A : List Nat} {f : Nat → Int32} {a : Nat → Nat → Int32} : ag F A f a f a := ⟨fun _ _ => rfl, fun _ _ => rfl⟩
theorem ag.trans {F A : List Nat} {f f1 f2 : Nat → Int32} {a a1 a2 : Nat → Nat → Int32} (h1 : ag F A f a f1 a1) (h2 : ag F A f1 a1 f2 a2) : ag F A f a f2 a2 := ⟨fun j hj => (h2.1 j hj).trans (h1.1 j hj), fun j hj => (h2.2 j hj).trans (h1.2 j hj)⟩
theorem ag.wide {F A F' A' : List Nat} {f f1 : Nat → Int32} {a a1 : Nat → Nat → Int32} (h : ag F A f a f1 a1) (hF : ∀ j, j ∈ F → j ∈ F') (hA : ∀ j, j ∈ A → j ∈ A') : ag F' A' f a f1 a1 := ⟨fun j hj => h.1 j (fun h => hj (hF j h)), fun j hj => h.2 j (fun h => hj (hA j h))⟩
theorem ag.f1 {A : List Nat} {f : Nat → Int32} {a : Nat → Nat → Int32} {i : Nat} {x : Int32} : ag [i] A f a (upd f i x) a := ⟨fun j hj => if_neg (fun h => hj (by rw [h]; exact List.mem_cons_self)), fun _ _ => rfl⟩
def ct_at (c : Nat) (T : tm_T) (f : Nat → Int32) (a : Nat → Nat → Int32) : Prop := tm_wf c T ∧ T.length ≤ 20 ∧ f 7 = nI T.length ∧ tb_at T (a 16) (a 17) (a 18) ∧ ∀ i, i < T.length → a 19 i = nI (tm_V T i)
theorem ct_at.kept {c : Nat} {T : tm_T} {F A : List Nat} {f f' : Nat → Int32} {a a' : Nat → Nat → Int32} (h : ct_at c T f a) (g : ag F A f a f' a') (h7 : 7 ∉ F) (hA : 16 ∉ A ∧ 17 ∉ A ∧ 18 ∉ A ∧ 19 ∉ A) : ct_at c T f' a' := by
  obtain ⟨h1, h2, h3, h4, h5⟩ := h
  refine ⟨h1, h2, by rw [g.1 7 h7]; exact h3, ?_, ?_⟩
  · rw [g.2 16 hA.1, g.2 17 hA.2.1, g.2 18 hA.2.2.1]; exact h4
  · rw [g.2 19 hA.2.2.2]; exact h5
theorem tb_at.push {T : tm_T} {p q r : Nat → Int32} {x y z : Nat} (h : tb_at T p q r) (hx : x < 2 ^ 31) (hy : y < 2 ^ 31) (hz : z < 2 ^ 31) : tb_at (T ++ [(x, y, z)]) (upd p T.length (nI x)) (upd q T.length (nI y)) (upd r T.length (nI z)) := by
  intro i e hi
  rcases Nat.lt_or_ge i T.length with hl | hl
  · rw [List.getElem?_append_left hl] at hi
    obtain ⟨h1, h2, h3, h4⟩ := h i e hi
    have hne : ¬ i = T.length := by omega
    exact ⟨(if_neg hne).trans h1, (if_neg hne).trans h2, (if_neg hne).trans h3, h4⟩
  · rw [List.getElem?_append_right hl] at hi
    have hi0 : i - T.length = 0 := by
      have := tm_lt hi
      simp at this
      omega
    have he : i = T.length := by omega
    subst he
    rw [hi0] at hi
    cases hi
    exact ⟨if_pos rfl, if_pos rfl, if_pos rfl, hx, hy, hz⟩
section HT
variable {n : Nat} {xs : Nat → Int32} {f : Nat → Int32} {a : Nat → Nat → Int32} {o : Nat → Int64} {d k s : Nat}
theorem q_vi {c : Nat} {T : tm_T} {x y z : Nat} (he : tm_kd c T.length (x, y, z)) (hl : T.length ≤ 20) (hV : ∀ i, i < T.length → a 19 i = nI (tm_V T i)) : ax_R d 53 0 (ax_in 53 [.ref 15, .int (nI x), .int (nI y), .int (nI z)]) [] (hp n xs f a o) k s (ax_V (fun v h' => v = some (.int (nI (tm_vk (tm_V T) (x, y, z)))) ∧ h' = hp n xs f a o) k s) := by
  rcases he with ⟨he, -⟩ | ⟨p, he, hp9⟩ | ⟨p, q, he, hp9, hq9⟩ | he | he
  · cases he; exact q_vi_0
  · cases he
    refine q_vi_1 (by omega) |>.mono ?_
    intro o1 h1 k1 s1 hq
    rw [hV y hp9] at hq
    exact hq
  · cases he
    refine q_vi_2 (by omega) (by omega) |>.mono ?_
    intro o1 h1 k1 s1 hq
    rw [hV y hp9, hV z hq9, nI_or] at hq
    exact hq
  · cases he; exact q_vi_3
  · cases he; exact q_vi_4
theorem tm_kd_lt {c i : Nat} {e : Nat × Nat × Nat} (h : tm_kd c i e) (hi : i ≤ 20) : e.1 < 2 ^ 31 ∧ e.2.1 < 2 ^ 31 ∧ e.2.2 < 2 ^ 31 := by
  rcases h with ⟨rfl, -⟩ | ⟨p, rfl, hp9⟩ | ⟨p, q, rfl, hp9, hq9⟩ | rfl | rfl <;> refine ⟨?_, ?_, ?_⟩ <;> dsimp only <;> omega
theorem q_Te_foa {c : Nat} {T : tm_T} (h : ct_at c T f a) {x y z : Nat} (he : tm_kd c T.length (x, y, z)) : ax_R (d + 1) 52 0 (ax_in 52 [.ref 15, .int (nI x), .int (nI y), .int (nI z)]) [] (hp n xs f a o) k s
    (ax_V (fun v h' => ∃ f' a', h' = hp n xs f' a' o ∧ ag [7] [16, 17, 18, 19] f a f' a' ∧ (((tm_mk T (x, y, z)).1.length ≤ 20 ∧ v = some (.int (nI (tm_mk T (x, y, z)).2)) ∧ ct_at c (tm_mk T (x, y, z)).1 f' a') ∨ (20 < (tm_mk T (x, y, z)).1.length ∧ v = some (.int (-1)) ∧ ct_at c T f' a'))) k s) := by
  obtain ⟨hT, hl, h7, htb, hV⟩ := id h
  obtain ⟨hx, hy, hz⟩ := tm_kd_lt he hl
  refine ax_nx rfl rfl ?_
  refine ax_nx rfl rfl ?_
  refine ax_nx rfl rfl ?_
  refine ax_nx rfl rfl ?_
  refine ax_cal rfl rfl (q_find_Te htb h7 hl hx hy hz) (fun v h' hq => ?_)
  obtain ⟨rfl, rfl⟩ := hq
  cases hf : tm_fd T (x, y, z) with
  | some i =>
    have hmk : tm_mk T (x, y, z) = (T, i) := by unfold tm_mk; rw [hf]
    have hi := tm_lt (tm_fd_some hf)
    refine ax_nx (al' := [.ref 15, .int (nI x), .int (nI y), .int (nI z), .int (nI i), ax_u]) rfl rfl ?_
    refine ax_nx rfl rfl ?_
    refine ax_nx rfl rfl ?_
    refine ax_nxf rfl rfl (fun h9 => ?_) ?_
    · have := nI_pos (n := i) (by omega)
      rw [h9] at this
      exact this (by decide)
    refine ax_nx rfl rfl ?_
    exact ax_ret rfl rfl ⟨_, rfl, rfl, rfl, f, a, rfl, ag.rf, Or.inl ⟨by rw [hmk]; exact hl, by rw [hmk], by rw [hmk]; exact h⟩⟩
  | none =>
    have hmk : tm_mk T (x, y, z) = (T ++ [(x, y, z)], T.length) := tm_mk_new hf
    refine ax_nx (al' := [.ref 15, .int (nI x), .int (nI y), .int (nI z), .int (-1), ax_u]) rfl rfl ?_
    refine ax_nx rfl rfl ?_
    refine ax_nx rfl rfl ?_
    refine ax_nx rfl rfl ?_
    refine ax_nx rfl rfl ?_
    refine ax_nx rfl rfl ?_
    refine ax_nx rfl rfl ?_
    refine ax_nx rfl rfl ?_
    rcases Nat.lt_or_ge T.length 20 with hlt | hge
    · refine ax_cal rfl rfl (q_add_Te h7 hlt) (fun v h' hq => ?_)
      obtain ⟨rfl, rfl⟩ := hq
      refine ax_nx (al' := [.ref 15, .int (nI x), .int (nI y), .int (nI z), .int (-1), .int (nI T.length)]) rfl rfl ?_
      refine ax_nx rfl rfl ?_
      refine ax_nx rfl rfl ?_
      refine ax_nxf rfl rfl (fun h9 => ?_) ?_
      · have := nI_pos (n := T.length) (by omega)
        rw [h9] at this
        exact this (by decide)
      refine ax_nx rfl rfl ?_
      refine ax_nx rfl rfl ?_
      refine ax_nx rfl rfl ?_
      refine ax_nx rfl rfl ?_
      refine ax_nx rfl rfl ?_
      refine ax_nx rfl rfl ?_
      refine ax_nx rfl rfl ?_
      refine ax_cal rfl rfl (q_vi (T := T) he hl hV) (fun v h' hq => ?_)
      obtain ⟨rfl, rfl⟩ := hq
      refine ax_iasH (h2 := hp n xs (upd f 7 (nI (T.length + 1))) (upda (upda (upda (upda a 16 (upd (a 16) T.length (nI x))) 17 (upd (a 17) T.length (nI y))) 18 (upd (a 18) T.length (nI z))) 19 (upd (a 19) T.length (nI (tm_vk (tm_V T) (x, y, z))))) o) rfl rfl (vp_in_nI (by omega) (by omega)) (by rw [nI_clamp (by omega)]; rfl) ?_
      refine ax_nx rfl rfl ?_
      refine ax_ret rfl rfl ⟨_, rfl, rfl, rfl, _, _, rfl, ?_, Or.inl ⟨by rw [hmk]; simp; omega, by rw [hmk], ?_⟩⟩
      · refine ⟨fun j hj => if_neg (fun h9 => hj (by rw [h9]; exact List.mem_cons_self)), fun j hj => ?_⟩
        simp only [List.mem_cons, List.not_mem_nil, or_false, not_or] at hj
        simp [upda, hj]
      · have hwf := tm_mk_wf hT he
        rw [hmk] at hwf ⊢
        refine ⟨hwf, by simp; omega, by rw [List.length_append]; rfl, htb.push hx hy hz, fun i hi => ?_⟩
        have hv := tm_mk_V hT he
        rw [hmk] at hv
        show upd (a 19) T.length _ i = _
        rcases Nat.lt_or_ge i T.length with hil | hil
        · rw [tm_V_app hT hil]
          exact (if_neg (Nat.ne_of_lt hil)).trans (hV i hil)
        · have hie : i = T.length := by simp at hi; omega
          subst hie
          refine (if_pos rfl).trans ?_
          rw [hv]
          congr 1
          rcases he with ⟨he, -⟩ | ⟨p, he, hp9⟩ | ⟨p, q, he, hp9, hq9⟩ | he | he
          · cases he; rfl
          · cases he; exact (tm_V_app hT hp9).symm
          · cases he
            show tm_V T y ||| tm_V T z = tm_V _ y ||| tm_V _ z
            rw [tm_V_app hT hp9, tm_V_app hT hq9]
          · cases he; rfl
          · cases he; rfl
    · have hL : T.length = 20 := by omega
      refine ax_cal rfl rfl (q_add_Te_full (by rw [h7, hL])) (fun v h' hq => ?_)
      obtain ⟨rfl, rfl⟩ := hq
      refine ax_nx (al' := [.ref 15, .int (nI x), .int (nI y), .int (nI z), .int (-1), .int (-1)]) rfl rfl ?_
      refine ax_nx rfl rfl ?_
      refine ax_nx rfl rfl ?_
      refine ax_nx rfl rfl ?_
      refine ax_nx rfl rfl ?_
      exact ax_ret rfl rfl ⟨_, rfl, rfl, rfl, f, a, rfl, ag.rf, Or.inr ⟨by rw [hmk]; simp; omega, rfl, h⟩⟩
end HT
