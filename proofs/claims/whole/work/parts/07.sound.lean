theorem ax_cat1 {v : Value} (h : ax_c1 v = true) : v.category = 1 := by
  cases v <;> first | rfl | cases h
theorem ax_lg : ∀ {avc : List Value}, (∀ w ∈ avc, w.category = 1) → lg_sl avc = avc.map Slot.val
  | [], _ => rfl
  | w :: r, h => by
    have h1 := h w List.mem_cons_self
    have h2 := ax_lg (avc := r) (fun x hx => h x (List.mem_cons_of_mem _ hx))
    show (if w.category = 2 then [Slot.val w, .second] else [Slot.val w]) ++ lg_sl r = Slot.val w :: r.map Slot.val
    rw [h1, h2]
    rfl
theorem ax_lvargs : ∀ {avc : List Value} (k : Nat), (∀ w ∈ avc, w.category = 1) → ∀ (i : Nat) (w : Value), avc[i]? = some w → (k + i, w) ∈ lv_args k avc
  | [], k, _, i, w, h => by simp at h
  | v :: r, k, hc, i, w, h => by
    have h1 := hc v List.mem_cons_self
    rw [lv_args, h1]
    cases i with
    | zero =>
      have h : v = w := by simpa using h
      subst h
      exact List.mem_cons_self
    | succ i =>
      have h : r[i]? = some w := by simpa using h
      have := ax_lvargs (k + 1) (fun x hx => hc x (List.mem_cons_of_mem _ hx)) i w h
      have e : k + (i + 1) = k + 1 + i := by omega
      rw [e]
      exact List.mem_cons_of_mem _ this
theorem ax_vrs_c1 {L : List Nat} : ∀ {as avc : List Value}, as.all ax_c1 = true → ax_vrs L as avc → ∀ w ∈ avc, w.category = 1
  | [], avc, _, h, w, hw => by
    have := ax_vrs_nil h
    subst this
    cases hw
  | v :: r, avc, hc, h, w, hw => by
    obtain ⟨w0, q, rfl, h1, h2⟩ := ax_vrs_cons h
    rw [List.all_cons, Bool.and_eq_true] at hc
    rcases List.mem_cons.mp hw with rfl | hw
    · rw [ax_vr_cat h1]; exact ax_cat1 hc.1
    · exact ax_vrs_c1 hc.2 h2 w hw
theorem ax_entry {L : List Nat} {M : Nat} {m : MethodId} {as avc : List Value} (hc : as.all ax_c1 = true) (hv : ax_vrs L as avc) (hl : as.length ≤ ax_ml M) : ∃ ls, entryFrame m avc.toArray (ax_ml M) = F0 m 0 ls [] ∧ ax_lr L (ax_ml M) (ax_in M as) ls := by
  have hcat := ax_vrs_c1 hc hv
  have hlen := ax_vrs_len hv
  have hsl : (lg_sl avc).length ≤ ax_ml M := by rw [ax_lg hcat, List.length_map, ← hlen]; exact hl
  have he := lv_entry avc hsl
  refine ⟨_, lg_entry_eq m avc (ax_ml M), he.1, ?_, he.2.1, fun i v hi => ?_⟩
  · unfold ax_in
    rw [List.length_append, List.length_replicate]
    omega
  · unfold ax_in at hi
    rcases Nat.lt_or_ge i as.length with hil | hil
    · rw [List.getElem?_append_left hil] at hi
      obtain ⟨w, h1, h2⟩ := ax_vrs_get hv hi
      have hv1 : ax_c1 v = true := List.all_eq_true.mp hc v (List.mem_of_getElem? hi)
      refine Or.inr ⟨ax_cat1 hv1, w, ?_, h2⟩
      have := he.2.2 (0 + i, w) (ax_lvargs 0 hcat i w h1)
      simpa using this
    · rw [List.getElem?_append_right hil] at hi
      have := List.mem_of_getElem? hi
      rw [List.mem_replicate] at this
      exact Or.inl ⟨0, this.2⟩
theorem ax_nw_kind {w : Cond} (hw : w ∈ ax_nw) : (∃ (a : String) (i : Nat) (x : MethodName) (h : String), w = .methodLinkNest a i x h) ∨ (∃ x, w = .declares x) ∨ (∃ a b, w = .castable a b) ∨ (∃ a b, w = .not (.castable a b)) ∨ (∃ a i t, w = .stringRef a i t) := by
  simp only [ax_nw, List.mem_cons, List.not_mem_nil, or_false] at hw
  rcases hw with rfl | rfl | rfl | rfl | rfl | rfl | rfl | rfl | rfl | rfl | rfl | rfl | rfl | rfl | rfl | rfl | rfl | rfl | rfl | rfl | rfl | rfl | rfl
  · exact Or.inl ⟨_, _, _, _, rfl⟩
  · exact Or.inl ⟨_, _, _, _, rfl⟩
  · exact Or.inl ⟨_, _, _, _, rfl⟩
  · exact Or.inl ⟨_, _, _, _, rfl⟩
  · exact Or.inl ⟨_, _, _, _, rfl⟩
  · exact Or.inr (Or.inl ⟨_, rfl⟩)
  · exact Or.inr (Or.inl ⟨_, rfl⟩)
  · exact Or.inr (Or.inl ⟨_, rfl⟩)
  · exact Or.inr (Or.inr (Or.inl ⟨_, _, rfl⟩))
  · exact Or.inr (Or.inr (Or.inl ⟨_, _, rfl⟩))
  · exact Or.inr (Or.inr (Or.inl ⟨_, _, rfl⟩))
  · exact Or.inr (Or.inr (Or.inr (Or.inl ⟨_, _, rfl⟩)))
  · exact Or.inr (Or.inr (Or.inr (Or.inl ⟨_, _, rfl⟩)))
  · exact Or.inr (Or.inr (Or.inr (Or.inr ⟨_, _, _, rfl⟩)))
  · exact Or.inr (Or.inr (Or.inr (Or.inr ⟨_, _, _, rfl⟩)))
  · exact Or.inr (Or.inr (Or.inr (Or.inr ⟨_, _, _, rfl⟩)))
  · exact Or.inr (Or.inr (Or.inr (Or.inr ⟨_, _, _, rfl⟩)))
  · exact Or.inr (Or.inr (Or.inr (Or.inr ⟨_, _, _, rfl⟩)))
  · exact Or.inr (Or.inr (Or.inr (Or.inr ⟨_, _, _, rfl⟩)))
  · exact Or.inr (Or.inr (Or.inr (Or.inr ⟨_, _, _, rfl⟩)))
  · exact Or.inr (Or.inr (Or.inr (Or.inr ⟨_, _, _, rfl⟩)))
  · exact Or.inr (Or.inr (Or.inr (Or.inr ⟨_, _, _, rfl⟩)))
  · exact Or.inr (Or.inr (Or.inr (Or.inr ⟨_, _, _, rfl⟩)))
theorem ax_vmonly {w : Cond} (hw : w ∈ ax_nw) {s U : State} {a a' : Array Value} (h : w.before a s = true) : w.before a' (U.setVm s.vm) = true := by
  rcases ax_nw_kind hw with ⟨_, _, _, _, rfl⟩ | ⟨_, rfl⟩ | ⟨_, _, rfl⟩ | ⟨_, _, rfl⟩ | ⟨_, _, _, rfl⟩
  · exact va_tabs rfl (rfl : s.vm = (U.setVm s.vm).vm) h
  · exact va_tabs rfl (rfl : s.vm = (U.setVm s.vm).vm) h
  · exact va_tabs rfl (rfl : s.vm = (U.setVm s.vm).vm) h
  · exact h
  · exact h
theorem ax_nw_warm {s U : State} (hW : s.WarmedH U.vm) (h : ∀ w ∈ ax_nw, va_Nw w s) : ∀ w ∈ ax_nw, va_Nw w U := by
  intro w hw
  have h0 : w.before #[] s = true := h w hw
  have h1 : w.before #[] (s.setVm U.vm) = true := by
    rcases ax_nw_kind hw with ⟨_, _, _, _, rfl⟩ | ⟨_, rfl⟩ | ⟨_, _, rfl⟩ | ⟨_, _, rfl⟩ | ⟨_, _, _, rfl⟩
    · exact Cond.methodLinkNest_warmed (args := #[]) hW h0
    · exact Cond.before_shiftedFace (State.Shifted.of_warmed hW) _ rfl h0
    · exact Cond.before_shiftedFace (State.Shifted.of_warmed hW) _ rfl h0
    · exact Cond.castAtom_setVm hW.alike _ rfl h0
    · exact Cond.stringRef_warmed hW h0
  have h2 := ax_vmonly (s := s.setVm U.vm) (U := U) (a := #[]) (a' := #[]) hw h1
  exact h2
theorem ax_nw_same {s U : State} (hv : s.vm = U.vm) (h : ∀ w ∈ ax_nw, va_Nw w s) : ∀ w ∈ ax_nw, va_Nw w U := by
  intro w hw
  have h1 := ax_vmonly (U := U) (a := #[]) (a' := #[]) hw (h w hw)
  rw [hv] at h1
  exact h1
theorem ax_Zs_moved {A : Nat → Prop} {u U : State} {H : Heap} (hvm : u.vm.Alike U.vm) (h : ax_Zs A u H) : ax_Zs A U H := by
  obtain ⟨a, cell, h1, h2, h3⟩ := h
  exact ⟨a, cell, h1, h2, fun V args hV => h3 V args (hvm.trans hV)⟩
theorem ax_Zs_to {A B : Nat → Prop} {U : State} {H H1 : Heap} (h : ax_Zs A U H) (hq : ∀ q : Nat, q < H.size → ¬ A q → H1[q]? = H[q]?) (hB : ∀ q : Nat, q < H.size → ¬ A q → ¬ B q) : ax_Zs B U H1 := by
  obtain ⟨a, cell, h1, h2, h3⟩ := h
  have hlt : a < H.size := (Array.getElem?_eq_some_iff.mp h1).1
  exact ⟨a, cell, by rw [hq a hlt h2]; exact h1, hB a hlt h2, h3⟩
theorem ax_blind (D : va_G) (ca : Nat → ClassId) (b n : Nat) (xs : Nat → Int32) (ws : va_W) (sz : Nat) (avc : List Value) : FrameBlind (va_Pc avc (ax_B D ca b n xs ws sz)) := by
  intro a U g mk hq
  obtain ⟨q0, q1, q2, q3, q4, q5, q6, q7, q8, q9⟩ := hq
  have hal : U.vm.Alike (U.calling g mk a).vm := Vm.Alike.refl U.vm
  exact ⟨q0, q1, q2, va_K.moved (u := U) (U := U.calling g mk a) hal q3, q4, ax_nw_same (s := U) (U := U.calling g mk a) rfl q5, va_X.moved (u := U) (U := U.calling g mk a) hal q6, q7, q8, ax_Zs_moved (u := U) (U := U.calling g mk a) hal q9⟩
section AXB
variable {p : Program} {l : Launch} {e : Env} {R : Room} {s : State} {m : MethodId} {args : Array Value} {below : List Frame} {meth : Method} {c : Code} {H : Heap} {locs : List Loc} {cells slots : Nat} {Q : State → Prop}
variable {M : Nat} {D : va_G} {ca : Nat → ClassId} {b n : Nat} {xs : Nat → Int32} {A : Nat → Prop} {ws : va_W} {h : ax_H} {al st stc : List Value} {ls : Array Slot} {pc : Nat}
theorem ax_AF (hA : ∀ q, s.heap.size ≤ q → A q) (hJ : ax_J M D ca b n xs A s al st h ws H locs ls stc) : ∀ q, va_A ws H.size q → A q := by
  intro q hq
  rcases hq with ⟨k, ee, hk⟩ | hq
  · exact hJ.2.2.1.2 k (q, ee) hk
  · exact hA q (Nat.le_trans hJ.2.2.2.1.1 hq)
theorem ax_B_at (hX : ax_X M p s m args meth c D ca b n xs) (hA : ∀ q, s.heap.size ≤ q → A q) (hbA : ¬ A b) (hZ : ax_Zs A s s.heap) (hJ : ax_J M D ca b n xs A s al st h ws H locs ls stc) (U : State) (hU : U.heap = H) (hW : s.WarmedH U.vm) : ax_B D ca b n xs ws H.size U := by
  obtain ⟨hx, hb, hml, hr, hlk, hown, hts, hin, hK, hnw, hXs, hbl⟩ := hX
  have hAF := ax_AF hA hJ
  have hS := hJ.2.2.2.1
  refine ⟨by rw [hU], by rw [hU]; exact hJ.2.1, va_K.moved hW.alike hK, hJ.2.2.1.weaken (fun _ _ _ _ => trivial), ax_nw_warm hW hnw, ?_, Nat.lt_of_lt_of_le hbl hS.1, fun h1 => hbA (hAF b h1), ?_⟩
  · rw [hU]
    exact va_X.moved hW.alike (hXs.kept (hS.2.1 b hbl hbA))
  · rw [hU]
    exact ax_Zs_moved hW.alike (ax_Zs_to hZ hS.2.1 (fun q _ h2 h3 => h2 (hAF q h3)))
theorem ax_cont (hA : ∀ q, s.heap.size ≤ q → A q) (hJ : ax_J M D ca b n xs A s al st h ws H locs ls stc) {mc2 ms2 : Nat} {r q : List Value} {v : Option Value} {h2 : ax_H} {aa : Array Value} (hq : ax_vrs (ax_ad b ws) r q)
    (hr : va_Run p l e R s m args below meth c H locs cells slots mc2 ms2 (F0 m pc ls stc) q (ax_Q D ca b n xs ws H.size (.inl v) h2 aa) (va_A ws H.size))
    (kk : ax_K0 p l e R s m args below meth c cells slots Q M D ca b n xs A ws (pc + 3) al (v.toList ++ r) h2 mc2 ms2) : W p l e R s m args below meth c H locs cells slots Q (F0 m pc ls stc) := by
  intro T hT X
  obtain ⟨w, st₀, t, T', L, h0, X', hL, e1, e2, hQ, stp⟩ := hr T hT X
  obtain ⟨⟨ws', ⟨E, hE⟩, g1, g2, g3, w1, hw1, g4⟩, g5⟩ := hQ
  cases hw1
  have hAF := ax_AF hA hJ
  obtain ⟨h1, hP, hD, hS, hl, hv⟩ := hJ
  obtain ⟨f1, f2⟩ := g5
  rw [h0] at f1 f2
  have hS' : va_S A s.heap T'.heap (locs ++ L) := by
    refine ⟨Nat.le_trans hS.1 (by rw [e1]; exact f1), fun x x1 x2 => ?_, fun x hx => ?_⟩
    · rw [e1, f2 x (Nat.lt_of_lt_of_le x1 hS.1) (fun z => x2 (hAF x z))]
      exact hS.2.1 x x1 x2
    · rcases List.mem_append.mp hx with hx | hx
      · exact hS.2.2 x hx
      · exact hAF _ (hL x hx)
  have hvs : ax_vrs (ax_ad b ws') (v.toList ++ r) (w.toList ++ q) := by
    refine ax_vrs_append ?_ (by rw [hE]; exact ax_vrs_app hq)
    cases v with
    | none =>
      cases w with
      | none => exact trivial
      | some w2 => exact (g4 : False).elim
    | some v1 =>
      cases w with
      | none => exact (g4 : False).elim
      | some w2 => exact ⟨g4, trivial⟩
  have hK0 := kk ws' T'.heap (locs ++ L) ls (w.toList ++ q) ⟨g1, by rw [e1]; exact g2, g3.weaken (fun _ x _ hx => hAF x.1 hx), hS', by rw [hE]; exact ax_lr_app hl, hvs⟩ ⟨E, hE⟩
  obtain ⟨t2, a1, b1⟩ := hK0 T' rfl X'
  exact ⟨t2, stp t2 a1, b1⟩
end AXB
