def ax_Snd (l : Launch) (n : Nat) : Prop := ∀ (d M pc : Nat) (al st : List Value) (h : ax_H) (k0 s0 : Nat) (o : ax_O) (h' : ax_H) (k1 s1 : Nat), ax_run n d M pc al st h k0 s0 = some (o, h', k1, s1) →
  ∀ {p : Program} {e : Env} {R : Room} {s : State} {m : MethodId} {args : Array Value} {below : List Frame} {meth : Method} {c : Code} {D : va_G} {ca : Nat → ClassId} {b nn : Nat} {xs : Nat → Int32} {ws0 ws : va_W} {H : Heap} {locs : List Loc} {cells slots : Nat} {ls : Array Slot} {stc : List Value} {ke se mc ms : Nat},
  ax_X M p s m args meth c D ca b nn xs → c.exceptionTable.toList = tableOf (ax_hh M) → ax_Zs (va_A ws0 s.heap.size) s s.heap → ¬ va_A ws0 s.heap.size b →
  ax_J M D ca b nn xs (va_A ws0 s.heap.size) s al st h ws H locs ls stc → (∃ E, ax_ad b ws = ax_ad b ws0 ++ E) →
  cells + ke = k0 → slots + se = s0 → ke + mc = k1 → se + ms = s1 → mc ≤ R.cells → ms ≤ R.slots → R.slots ≤ 7292999 → d + 8 ≤ R.frames → 64 * d + 300 ≤ R.locals → e.platform.stackTraces = false →
  W p l e R s m args below meth c H locs cells slots (ax_MQ below (ax_Q D ca b nn xs ws0 s.heap.size o h') args s mc ms (va_A ws0 s.heap.size)) (F0 m pc ls stc)
theorem ax_met {l : Launch} {n : Nat} (ih : ax_Snd l n) (htr : ∀ e : Env, l.admits e → e.platform.stackTraces = false) {d M k0 s0 k2 s2 : Nat} {as avc : List Value} {h h2 : ax_H} {o : ax_O} (hM : M < 108) (hc : as.all ax_c1 = true) (hl : as.length ≤ ax_ml M) (hrun : ax_run n d M 0 (ax_in M as) [] h k0 s0 = some (o, h2, k2, s2))
    {D : va_G} {ca : Nat → ClassId} {b nn : Nat} {xs : Nat → Int32} {ws : va_W} (hw : ax_wr ca b nn xs h ws) (hv : ax_vrs (ax_ad b ws) as avc) {mc ms : Nat} (hmc : k0 + mc = k2) (hms : s0 + ms = s2) (hR : ms ≤ 7292999) (sz : Nat) :
    ax_M l (ax_y M) (ax_ws M) (ax_rm d mc ms) (va_Pc avc (ax_B D ca b nn xs ws sz)) (ax_Q D ca b nn xs ws sz o h2) mc ms (va_A ws sz) := by
  obtain ⟨hw1, -, hw3, hw4, hw5, hw6⟩ := ax_hwo hM
  refine ax_ofW (ax_plain hM) ?_
  intro p e s m args below meth c s₁ B hml htab hP
  obtain ⟨rfl, hsz, hPp, hK, hD0, hnw, hXs, hbl, hbA, hZ⟩ := hP
  subst hsz
  obtain ⟨ls, he, hls⟩ := ax_entry (L := ax_ad b ws) (M := M) (m := m) hc hv hl
  rw [he]
  have hts : ∀ w ∈ ax_gd, w.before avc.toArray s = true := fun w hw => atoms_spec (ws := ax_ws M) B.pre w (List.mem_cons_of_mem _ hw)
  have hown : s.vm.findClass (ax_ow M) = some m.cls := by rw [← hw3]; exact findClass_of_methodNamed B.named
  have hX : ax_X M p s m avc.toArray meth c D ca b nn xs := ⟨B.exec, B.bytes, hml, B.returns, B.notSynchronized, hown, hts, fun h1 => by rw [(name_of_methodNamed B.named B.method).1]; exact hw6 h1, hK, hnw, hXs, hbl⟩
  have hJ : ax_J M D ca b nn xs (va_A ws s.heap.size) s (ax_in M as) [] h ws s.heap [] ls [] := ⟨hw, hPp, hD0.self, va_S.rf, hls, trivial⟩
  exact ih d M 0 _ _ h k0 s0 o h2 k2 s2 hrun hX htab hZ hbA hJ ⟨[], by simp⟩ (Nat.zero_add k0) (Nat.zero_add s0) hmc hms (Nat.le_refl _) (Nat.le_refl _) hR (Nat.le_refl _) (Nat.le_refl _) (htr e B.admits)
theorem ax_Q_ret {D : va_G} {ca : Nat → ClassId} {b nn : Nat} {xs : Nat → Int32} {ws : va_W} {sz : Nat} {v : Option Value} {h2 : ax_H} : ∀ a st o t, ax_Q D ca b nn xs ws sz (.inl v) h2 a st o t → ∃ v, o = .returned v := by
  intro a st o t h
  obtain ⟨⟨ws', -, -, -, -, w, hw, -⟩, -⟩ := h
  exact ⟨w, hw⟩
section AXM
variable {p : Program} {l : Launch} {e : Env} {R : Room} {s : State} {m : MethodId} {args : Array Value} {below : List Frame} {meth : Method} {c : Code} {H : Heap} {locs : List Loc} {cells slots : Nat} {Q : State → Prop}
variable {M : Nat} {D : va_G} {ca : Nat → ClassId} {b nn : Nat} {xs : Nat → Int32} {A : Nat → Prop} {ws : va_W} {h : ax_H} {al st stc : List Value} {ls : Array Slot} {pc : Nat}
theorem ax_len_of {y : MethodName} {k : Nat} (h : (parseMethodDescriptor y.desc).map (fun d => d.parameters.length) = some k) : ∀ sig, parseMethodDescriptor y.desc = some sig → k = sig.parameters.length := by
  intro sig hs
  rw [hs] at h
  exact (Option.some.inj h).symm
theorem ax_pays (hts : ∀ w ∈ ax_gd, w.before args s = true) {M' : Nat} (hM : M' < 108) : ∀ w ∈ ax_ws M', ∀ (a' : Array Value) (U : State), s.WarmedH U.vm → w.before a' U = true := by
  intro w hw a' U hW
  have hg : w ∈ ax_gd := by
    rcases List.mem_cons.mp hw with rfl | hw
    · exact (ax_hwo hM).1
    · exact hw
  exact word_at hW (ax_gd_good w hg).2 (hts w hg)
theorem ax_hw_nil {M' : Nat} (h0 : ax_hh M' = []) : ax_hw M' = .code (ax_y M') (ax_cd M') (ax_ml M') (ax_rt M') := by
  unfold ax_hw
  rw [h0]
theorem ax_callV (htr : ∀ e : Env, l.admits e → e.platform.stackTraces = false) (hX : ax_X M p s m args meth c D ca b nn xs) (hA : ∀ q, s.heap.size ≤ q → A q) (hbA : ¬ A b) (hZ : ax_Zs A s s.heap) (hJ : ax_J M D ca b nn xs A s al st h ws H locs ls stc)
    {n d ix M' k ci o mc2 ms2 k0 s0 k2 s2 : Nat} {r : List Value} {v : Option Value} {h2 : ax_H} (ih : ax_Snd l n) (hd : decode (ax_cd M) pc = .ok (.invokevirtual ix, 3)) (hvir : ax_vir M ix = some (M', k, ci)) (hdr : st.drop k = .ref o :: r) (his : ax_is ci h[o]? = true) (hb8 : Nat.ble (ax_sw r) 8 = true) (hc1 : (st.take k).all ax_c1 = true)
    (hrun : ax_run n d M' 0 (ax_in M' (.ref o :: (st.take k).reverse)) [] h k0 s0 = some (.inl v, h2, k2, s2)) (hmc : k0 + mc2 = k2) (hms : s0 + ms2 = s2) (hroom : cells + mc2 ≤ R.cells ∧ slots + ms2 ≤ R.slots) (hR : R.slots ≤ 7292999 ∧ d + 9 ≤ R.frames ∧ 64 * (d + 1) + 300 ≤ R.locals)
    (kk : ax_K0 p l e R s m args below meth c cells slots Q M D ca b nn xs A ws (pc + 3) al (v.toList ++ r) h2 mc2 ms2) : W p l e R s m args below meth c H locs cells slots Q (F0 m pc ls stc) := by
  obtain ⟨hM', hh0, hml', hnp, C, T, N, hcl, hVL⟩ := ax_viro hvir
  obtain ⟨hw1, -, hw3, hw4, hw5, hw6⟩ := ax_hwo hM'
  obtain ⟨hx, hb, hml, hr, hlk, hown, hts, hin, hK, hnw, hXs, hbl⟩ := id hX
  obtain ⟨hv1, hv2⟩ := ax_vrs_split k hJ.2.2.2.2.2
  rw [hdr] at hv2
  obtain ⟨a, q, hq0, ha, hq⟩ := ax_vrs_ref hv2
  have hstk : stc = (stc.take k) ++ (.ref a :: q) := by rw [← hq0, List.take_append_drop]
  have hlenk : (st.take k).length = k := by
    rw [List.length_take]
    have : st.length = k + (r.length + 1) := by
      have h1 := congrArg List.length hdr
      rw [List.length_drop, List.length_cons] at h1
      omega
    omega
  cases hcell : h[o]? with
  | none => rw [hcell] at his; cases his
  | some ee =>
    rcases ee with x | ⟨c9, fs⟩
    · rw [hcell] at his; cases his
    have hci : c9 = ci := by rw [hcell] at his; exact Nat.eq_of_beq_eq_true his
    subst hci
    obtain ⟨j, gs, rfl, hwj, -⟩ := ax_obj hJ.1 hcell ha
    have hrev : (stc.take k).reverse.reverse = stc.take k := List.reverse_reverse _
    have hall : (Value.ref (j + 1) :: (st.take k).reverse).all ax_c1 = true := by
      rw [List.all_cons, List.all_reverse, hc1]; rfl
    have hvr : ax_vrs (ax_ad b ws) (.ref (j + 1) :: (st.take k).reverse) (.ref a :: (stc.take k).reverse) := ⟨⟨a, ha, rfl⟩, ax_vrs_rev hv1⟩
    have hlen : (Value.ref (j + 1) :: (st.take k).reverse).length ≤ ax_ml M' := by
      rw [List.length_cons, List.length_reverse, hlenk]; exact hml'
    have hMx := ax_met ih htr hM' hall hlen hrun (D := D) hJ.1 hvr hmc hms (by have := hroom.2; have := hR.1; omega) H.size
    have hM := ax_toMet hMx ax_Q_ret
    have hcode := ax_hw_nil hh0
    have hcg : Cond.code (ax_y M') (ax_cd M') (ax_ml M') (ax_rt M') ∈ ax_gd := by rw [← hcode]; exact hw1
    have hcw : Cond.code (ax_y M') (ax_cd M') (ax_ml M') (ax_rt M') ∈ ax_ws M' := by rw [← hcode]; exact List.mem_cons_self
    have hrec := va_recv (ci := c9) hK hJ.2.1 hcl hwj
    have hPre : PreV s H C a (va_Pc (.ref a :: (stc.take k).reverse) (ax_B D ca b nn xs ws H.size)) (stc.take k).reverse := ⟨ax_blind _ _ _ _ _ _ _ _, hrec, fun U hU hW => ⟨rfl, ax_B_at hX hA hbA hZ hJ U hU hW⟩⟩
    have hlk2 : (stc.take k).reverse.length = k := by rw [List.length_reverse, ← ax_vrs_len hv1]; exact hlenk
    have hstack : (F0 m pc ls stc).stack = (stc.take k).reverse.reverse ++ .ref a :: q := by rw [hrev]; exact hstk
    have hw8 := ax_sw_le hb8 hq
    have hfr : (ax_rm d mc2 ms2).frames + 1 ≤ R.frames := by show d + 8 + 1 ≤ _; omega
    have hlo : 8 + (ax_ml M' + 11) + (ax_rm d mc2 ms2).locals ≤ R.locals := by show 8 + (ax_ml M' + 11) + (64 * d + 300) ≤ _; omega
    have S : CallFix p m c (ax_cd M) (ax_ml M) s args ax_gd (ax_ow M) := ⟨hx, hb, hml, hown, hts⟩
    rcases hVL with ⟨l1, l2, l3, l4⟩ | ⟨l1, l2, l3, l4, l5⟩ | ⟨l1, l2, l3, l4⟩
    · refine ax_cont hA hJ hq (va_runV (C := C) S hM ⟨⟨rfl, rfl, hfr, hlo, ax_pays hts hM', hcw, hts _ hcg, hts _ l4, hw4, ax_len_of hnp, hts _ l1⟩, hts _ l2, hts _ l3⟩ hPre rfl hlk2 hJ.2.2.2.2.1.1 hstack (lv_room hw8) hd hroom) kk
    · refine ax_cont hA hJ hq (va_runU (C := C) (owner := (ax_y M').cls) (x := ax_sx C (ax_y M')) S hM ⟨⟨rfl, rfl, hfr, hlo, ax_pays hts hM', hcw⟩, hts _ hcg, hts _ l4, hw4, ax_len_of hnp, hts _ l1, hts _ l5, va_Decl.of (hts _ l2) (hts _ hcg), hts _ l3, hts _ l2⟩ hPre rfl hlk2 hJ.2.2.2.2.1.1 hstack (lv_room hw8) hd hroom) kk
    · refine ax_cont hA hJ hq (va_runVN (C := C) (host := "EqualityProver") S hM ⟨⟨⟨rfl, rfl, hfr, hlo, ax_pays hts hM', hcw⟩, hts _ hcg, hts _ l4, hw4, ax_len_of hnp, va_Nw.use rfl (hnw _ l1)⟩, hts _ l2, hts _ l3⟩ hPre rfl hlk2 hJ.2.2.2.2.1.1 hstack (lv_room hw8) hd hroom) kk
end AXM
