section AXR
variable {p : Program} {l : Launch} {e : Env} {R : Room} {s : State} {m : MethodId} {args : Array Value} {below : List Frame} {meth : Method} {c : Code} {H : Heap} {locs : List Loc} {cells slots : Nat}
variable {M : Nat} {D : va_G} {ca : Nat → ClassId} {b nn : Nat} {xs : Nat → Int32} {ws0 ws : va_W} {h : ax_H} {al st stc : List Value} {ls : Array Slot} {pc : Nat}
theorem ax_s_ireturn (hX : ax_X M p s m args meth c D ca b nn xs) {x : Int32} (hJ : ax_J M D ca b nn xs (va_A ws0 s.heap.size) s al [.int x] h ws H locs ls stc) (hE : ∃ E, ax_ad b ws = ax_ad b ws0 ++ E) {len : Nat} (hf : ax_fx M pc = some (.ireturn, len)) (hbo : ax_bo M = true → x = 0 ∨ x = 1) :
    W p l e R s m args below meth c H locs cells slots (ax_MQ below (ax_Q D ca b nn xs ws0 s.heap.size (.inl (some (.int x))) h) args s cells slots (va_A ws0 s.heap.size)) (F0 m pc ls stc) := by
  obtain ⟨hd, hok⟩ := ax_fxo hf
  obtain ⟨hx, hb, hml, hr, hlk, hown, hts, hin, hK, hnw, hXs, hbl⟩ := hX
  have hl : len = 1 := Nat.eq_of_beq_eq_true hok
  subst hl
  obtain ⟨q, rfl, h6⟩ := ax_vrs_int hJ.2.2.2.2.2
  have := ax_vrs_nil h6
  subst this
  have hS := hJ.2.2.2.1
  have hq : ∀ t : State, t.heap = H → s.WarmedH t.vm → ax_Q D ca b nn xs ws0 s.heap.size (.inl (some (.int x))) h args s (.returned (some (.int x))) t := fun t ht hW => ⟨⟨ws, hE, hJ.1, by rw [ht]; exact hJ.2.1, hJ.2.2.1, some (.int x), rfl, rfl⟩, hS.F ht⟩
  rcases ax_rti hf with ⟨h1, h2⟩ | ⟨h1, h2⟩
  · exact ax_Wmono (W.iret (v := x) hx hb (by rw [hr]; exact h1) hq hS.2.2 hd hlk) (fun t ht => ax_MQ_of ht)
  · exact ax_Wmono (W.zret (v := x) (ty := .boolean) hx hb (by rw [hr]; exact h1) (by rcases hbo h2 with rfl | rfl <;> rfl) hq hS.2.2 hd hlk) (fun t ht => ax_MQ_of ht)
theorem ax_s_vreturn (hX : ax_X M p s m args meth c D ca b nn xs) (hJ : ax_J M D ca b nn xs (va_A ws0 s.heap.size) s al [] h ws H locs ls stc) (hE : ∃ E, ax_ad b ws = ax_ad b ws0 ++ E) {len : Nat} (hf : ax_fx M pc = some (.return_, len)) :
    W p l e R s m args below meth c H locs cells slots (ax_MQ below (ax_Q D ca b nn xs ws0 s.heap.size (.inl none) h) args s cells slots (va_A ws0 s.heap.size)) (F0 m pc ls stc) := by
  obtain ⟨hd, hok⟩ := ax_fxo hf
  obtain ⟨hx, hb, hml, hr, hlk, hown, hts, hin, hK, hnw, hXs, hbl⟩ := hX
  have hl : len = 1 := Nat.eq_of_beq_eq_true hok
  subst hl
  have := ax_vrs_nil hJ.2.2.2.2.2
  subst this
  have hS := hJ.2.2.2.1
  have hq : ∀ t : State, t.heap = H → s.WarmedH t.vm → ax_Q D ca b nn xs ws0 s.heap.size (.inl none) h args s (.returned none) t := fun t ht hW => ⟨⟨ws, hE, hJ.1, by rw [ht]; exact hJ.2.1, hJ.2.2.1, none, rfl, trivial⟩, hS.F ht⟩
  exact ax_Wmono (W.vret hx hb (by rw [hr]; exact ax_rtv hf) hq hS.2.2 hd hlk) (fun t ht => ax_MQ_of ht)
end AXR
theorem ax_at_cell {D : va_G} {q : Nat × va_E} {H : Heap} (h : va_at D ax_cl q H) : ∃ cell, H[q.1]? = some cell ∧ cell.vm = .none := by
  unfold va_at at h
  split at h
  · rename_i a _
    refine ⟨_, h, ?_⟩
    unfold vp_cell
    split <;> rfl
  · obtain ⟨r, -, cell, h1, -, h2, -⟩ := h
    exact ⟨cell, h1, h2⟩
theorem ax_at_lt {D : va_G} {q : Nat × va_E} {H : Heap} (h : va_at D ax_cl q H) : q.1 < H.size := by
  obtain ⟨cell, h1, -⟩ := ax_at_cell h
  exact (Array.getElem?_eq_some_iff.mp h1).1
theorem ax_nost {D : va_G} {b : Nat} {ws0 ws : va_W} {s V : State} {H : Heap} {locs : List Loc} {cells slots : Nat} (hP : va_P D ax_cl ws H) (hE : ∃ E, ax_ad b ws = ax_ad b ws0 ++ E) (hS : va_S (va_A ws0 s.heap.size) s.heap H locs) (hV : ∀ q, q < H.size → V.heap[q]? = H[q]?) (same : s.sameButNew V locs cells slots) : ∀ x ∈ locs, ∀ cell, s.heap[x.base]? = some cell → cell.vm.isStatics = false := by
  intro x hx cell hc
  have hlt : x.base < s.heap.size := (Array.getElem?_eq_some_iff.mp hc).1
  rcases hS.2.2 x hx with ⟨k, ee, hk⟩ | hge
  · obtain ⟨E, hE⟩ := hE
    have hE2 : ws.map (·.1) = ws0.map (·.1) ++ E := by
      have := List.cons.inj hE
      exact this.2
    have h1 : (ws.map (·.1))[k]? = some x.base := by
      have h2 : (ws0.map (·.1))[k]? = some x.base := by rw [List.getElem?_map, hk]; rfl
      have h3 : k < (ws0.map (·.1)).length := (List.getElem?_eq_some_iff.mp h2).1
      rw [hE2, List.getElem?_append_left h3]
      exact h2
    rw [List.getElem?_map] at h1
    obtain ⟨q, hq, hqx⟩ := Option.map_eq_some_iff.mp h1
    obtain ⟨c1, hc1, hv1⟩ := ax_at_cell (hP k q hq)
    rw [hqx] at hc1
    obtain ⟨c2, hc2, hv2, -⟩ := same.2.2.2.2.2 x.base cell hc
    rw [hV _ (Nat.lt_of_lt_of_le hlt hS.1), hc1] at hc2
    cases hc2
    have e1 : cell.vm = .none := (congrArg Cell.vm hv2).symm.trans hv1
    rw [e1]
    rfl
  · exact absurd hlt (Nat.not_lt.mpr hge)
theorem ax_thrown {l : Launch} {p : Program} {e : Env} {R : Room} {s : State} {m : MethodId} {args : Array Value} {below : List Frame} {meth : Method} {c : Code} {H : Heap} {locs : List Loc} {cells slots M : Nat} {D : va_G} {ca : Nat → ClassId} {b nn : Nat} {xs : Nat → Int32} {ws0 ws : va_W} {h : ax_H} {al stc : List Value} {ls : Array Slot} {pc ix ex len : Nat}
    (hX : ax_X M p s m args meth c D ca b nn xs) (htab : c.exceptionTable.toList = tableOf (ax_hh M)) (hZ : ax_Zs (va_A ws0 s.heap.size) s s.heap) (hJ : ax_J M D ca b nn xs (va_A ws0 s.heap.size) s al [] h ws H locs ls stc) (hE : ∃ E, ax_ad b ws = ax_ad b ws0 ++ E) (hf : ax_fx M pc = some (.new ix, len)) (hn : ax_new M ix = some (.inr ex))
    (hroom : cells + 1 ≤ R.cells ∧ slots + 6 ≤ R.slots) (hR : 8 ≤ R.frames ∧ 300 ≤ R.locals) (htr : e.platform.stackTraces = false) :
    W p l e R s m args below meth c H locs cells slots (ax_MQ below (ax_Q D ca b nn xs ws0 s.heap.size (.inr ex) h) args s (cells + 1) (slots + 6) (va_A ws0 s.heap.size)) (F0 m pc ls stc) := by
  obtain ⟨t1, t2, rfl, t4, rfl, t5, t6, t7, k, tx, t8, t9⟩ := ax_thro hf hn
  obtain ⟨hx, hb, hml, hr, hlk, hown, hts, hin, hK, hnw, hXs, hbl⟩ := hX
  rw [t1] at hown
  obtain ⟨g1, g2, g3⟩ := ax_wkN ex t4
  obtain ⟨b0, b1, b2, b5⟩ := ax_wkB ex t4
  have hst := ax_vrs_nil hJ.2.2.2.2.2
  subst hst
  have hS := hJ.2.2.2.1
  obtain ⟨cX, kX0, hfX, -⟩ := Cond.instantiable_spec (hts _ g2)
  have hsr : (Cond.stringRef "EqualityProver" k tx).before #[] s = true := hnw _ (ax_ks_nw t9)
  obtain ⟨_, _, _, q, -, -, -, -, -, hev⟩ := Cond.stringRef_spec hown hsr
  refine W.newcK hx hb hown (hts _ g1) (hts _ g2) (hts _ g3) (g := F0 m pc ls []) rfl (ax_fxo hf).1 hroom.1 hroom.2 hfX rfl (fun H' kX hk h1 h2 h3 => ?_)
  refine lv_dup hx hb (pc := pc + 3) (ax_fxo t5).1 rfl ?_
  refine va_ldcS hx hb hown (q := q) ⟨hsr, hev⟩ (ax_fxo t8).1 ?_
  intro T hT X
  subst hT
  have h4 : ∀ w ∈ ax_ta (ax_xc ex) (ax_en ex) (ax_xp ex) (ax_xb ex), w.before args s = true := by
    intro w hw
    rcases ax_wkA ex t4 w hw with h9 | h9 | h9
    · exact hts _ h9
    · exact ax_vmonly (U := s) h9 (hnw _ h9)
    · obtain ⟨a9, cell9, z1, z2, z3⟩ := hZ
      exact z3 s args (Vm.Alike.refl s.vm) z1 w h9
  obtain ⟨U, u1, u2, u3, u4, u5, u6, u7, ce, u8, u9, u10⟩ := ax_ctor X hx htr hown (ax_wkF ex t4) b0 b1 b2 b5 h4 (ax_nost (V := T.setVm s.vm) hJ.2.1 hE hS (fun x hx9 => h3 x hx9) X.same) (q := q) (pc := pc + 3 + 1 + 2) hfX hk h1 hS.1 (by rw [hml]; exact hJ.2.2.2.2.1.1) (by rw [hb]; exact (ax_fxo t6).1) (by rw [hb]; exact (ax_fxo t7).1) (by rw [htab, t2]; exact fun x h9 => by cases h9) hR.1 hR.2 hlk
  have hU : ∀ x, x < H.size → U.heap[x]? = H[x]? := fun x h9 => (u6 x (Nat.ne_of_lt h9)).trans (h3 x h9)
  refine ⟨U, u1, .threw H.size, u2, u3, ⟨⟨ws, hE, hJ.1, hJ.2.1.kept (fun k9 q9 hk9 => hU _ (ax_at_lt (hJ.2.1 k9 q9 hk9))), hJ.2.2.1, H.size, ce, rfl, u8, u9, ?_⟩, ?_, fun x x1 x2 => ?_⟩, locs, ⟨u4, u5⟩, hS.2.2⟩
  · rw [u10, u4.alike.findClass]
    exact hfX
  · rw [u7, h2]
    exact Nat.le_succ_of_le hS.1
  · rw [hU x (Nat.lt_of_lt_of_le x1 hS.1)]
    exact hS.2.1 x x1 x2
theorem ax_sound {l : Launch} (htr : ∀ e : Env, l.admits e → e.platform.stackTraces = false) : ∀ n, ax_Snd l n := by
  intro n
  induction n with
  | zero => intro d M pc al st h k0 s0 o h' k1 s1 hrun; simp [ax_run] at hrun
  | succ n ih =>
    intro d M pc al st h k0 s0 o h' k1 s1 hrun p e R s m args below meth c D ca b nn xs ws0 ws H locs cells slots ls stc ke se mc ms hX htab hZ hbA hJ hE hk0 hs0 hk1 hs1 hmc hms hRs hfr hlo hst
    have hA : ∀ q, s.heap.size ≤ q → va_A ws0 s.heap.size q := fun q hq => Or.inr hq
    rw [ax_run] at hrun
    cases hf : ax_fx M pc with
    | none => rw [hf] at hrun; cases hrun
    | some q =>
      obtain ⟨i, len⟩ := q
      rw [hf] at hrun
      dsimp only at hrun
      cases hs : ax_step M i len pc al st h with
      | none => rw [hs] at hrun; cases hrun
      | some w =>
        rw [hs] at hrun
        rcases w with ⟨pc', al', st', h9, k', s'⟩ | ww
        · dsimp only at hrun
          have hc := ax_cnt _ _ _ _ _ _ _ _ _ _ _ _ _ hrun
          refine ax_one hX hA hbA hJ hf hs ⟨by omega, by omega⟩ ⟨hRs, by omega, by omega⟩ ?_
          intro ws' H' locs' ls' stc' hJ' hE'
          obtain ⟨E, hE⟩ := hE
          obtain ⟨E', hE'⟩ := hE'
          exact ih d M pc' al' st' h9 (k0 + k') (s0 + s') o h' k1 s1 hrun hX htab hZ hbA hJ' ⟨E ++ E', by rw [hE', hE, List.append_assoc]⟩ (by omega) (by omega) hk1 hs1 hmc hms hRs hfr hlo hst
        · have hoth := ax_other hs
          rcases ww with ⟨M', as, r⟩ | v | ex
          · dsimp only at hrun
            cases d with
            | zero => cases hrun
            | succ d =>
              dsimp only at hrun
              cases hc : ax_run n d M' 0 (ax_in M' as) [] h k0 s0 with
              | none => rw [hc] at hrun; cases hrun
              | some q =>
                rw [hc] at hrun
                rcases q with ⟨v | ex, h2, k2, s2⟩
                · dsimp only at hrun
                  have hc1 := ax_cnt _ _ _ _ _ _ _ _ _ _ _ _ _ hc
                  have hc2 := ax_cnt _ _ _ _ _ _ _ _ _ _ _ _ _ hrun
                  obtain ⟨hd, hok⟩ := ax_fxo hf
                  have hmc2 : k0 + (k2 - k0) = k2 := by omega
                  have hms2 : s0 + (s2 - s0) = s2 := by omega
                  have hroom : cells + (k2 - k0) ≤ R.cells ∧ slots + (s2 - s0) ≤ R.slots := ⟨by omega, by omega⟩
                  have hR9 : R.slots ≤ 7292999 ∧ d + 9 ≤ R.frames ∧ 64 * (d + 1) + 300 ≤ R.locals := ⟨hRs, by omega, by omega⟩
                  have kk : len = 3 → ax_K0 p l e R s m args below meth c cells slots (ax_MQ below (ax_Q D ca b nn xs ws0 s.heap.size o h') args s mc ms (va_A ws0 s.heap.size)) M D ca b nn xs (va_A ws0 s.heap.size) ws (pc + 3) al (v.toList ++ r) h2 (k2 - k0) (s2 - s0) := by
                    intro hl3
                    subst hl3
                    intro ws' H' locs' ls' stc' hJ' hE'
                    obtain ⟨E, hE⟩ := hE
                    obtain ⟨E', hE'⟩ := hE'
                    exact ih (d + 1) M (pc + 3) al (v.toList ++ r) h2 k2 s2 o h' k1 s1 hrun hX htab hZ hbA hJ' ⟨E ++ E', by rw [hE', hE, List.append_assoc]⟩ (by omega) (by omega) hk1 hs1 hmc hms hRs hfr hlo hst
                  rcases hoth with ⟨ix, M9, k, ci, o9, r9, rfl, g1, g2, g3, g4, g5, g6⟩ | ⟨ix, M9, k, o9, r9, rfl, g1, g2, g4, g5, g6⟩ | ⟨ix, M9, k, rfl, g1, g4, g5, g7, g6⟩ | ⟨x, rfl, g1, g2, g6⟩ | ⟨rfl, g1, g6⟩ | ⟨ix, ex, rfl, g1, -, g6⟩
                  · cases g6
                    have hl : len = 3 := Nat.eq_of_beq_eq_true hok
                    subst hl
                    exact ax_callV htr hX hA hbA hZ hJ ih hd g1 g2 g3 g4 g5 hc hmc2 hms2 hroom hR9 (kk rfl)
                  · cases g6
                    have hl : len = 3 := Nat.eq_of_beq_eq_true hok
                    subst hl
                    exact ax_callI htr hX hA hbA hZ hJ ih hd g1 g2 g4 g5 hc hmc2 hms2 hroom hR9 (kk rfl)
                  · cases g6
                    have hl : len = 3 := Nat.eq_of_beq_eq_true hok
                    subst hl
                    exact ax_callS htr hX hA hbA hZ hJ ih hd g1 g4 g5 g7 hc hmc2 hms2 hroom hR9 (kk rfl)
                  · cases g6
                  · cases g6
                  · cases g6
                · dsimp only at hrun
                  cases hh : ax_hd M pc ex with
                  | none => rw [hh] at hrun; cases hrun
                  | some hp =>
                    rw [hh] at hrun
                    dsimp only at hrun
                    have hc1 := ax_cnt _ _ _ _ _ _ _ _ _ _ _ _ _ hc
                    have hc2 := ax_cnt _ _ _ _ _ _ _ _ _ _ _ _ _ hrun
                    refine ax_caught htr hX htab hA hbA hZ hJ ih hf hs hc hh (mc2 := k2 - k0) (ms2 := s2 - s0) (by omega) (by omega) ⟨by omega, by omega⟩ ⟨hRs, by omega, by omega⟩ ?_
                    intro ws' H' locs' ls' stc' hJ' hE'
                    obtain ⟨E, hE⟩ := hE
                    obtain ⟨E', hE'⟩ := hE'
                    exact ih (d + 1) M hp al [.null] h2 k2 s2 o h' k1 s1 hrun hX htab hZ hbA hJ' ⟨E ++ E', by rw [hE', hE, List.append_assoc]⟩ (by omega) (by omega) hk1 hs1 hmc hms hRs hfr hlo hst
          · dsimp only at hrun
            cases hrun
            have e1 : cells = mc := by omega
            have e2 : slots = ms := by omega
            subst e1; subst e2
            rcases hoth with ⟨ix, M9, k, ci, o9, r9, -, g1, g2, g3, g4, g5, g6⟩ | ⟨ix, M9, k, o9, r9, -, g1, g2, g4, g5, g6⟩ | ⟨ix, M9, k, -, g1, g4, g5, g7, g6⟩ | ⟨x, rfl, rfl, g2, g6⟩ | ⟨rfl, rfl, g6⟩ | ⟨ix, ex, -, g1, -, g6⟩
            · cases g6
            · cases g6
            · cases g6
            · cases g6
              exact ax_s_ireturn hX hJ hE hf g2
            · cases g6
              exact ax_s_vreturn hX hJ hE hf
            · cases g6
          · dsimp only at hrun
            cases hrun
            rcases hoth with ⟨ix, M9, k, ci, o9, r9, -, g1, g2, g3, g4, g5, g6⟩ | ⟨ix, M9, k, o9, r9, -, g1, g2, g4, g5, g6⟩ | ⟨ix, M9, k, -, g1, g4, g5, g7, g6⟩ | ⟨x, rfl, rfl, g2, g6⟩ | ⟨rfl, rfl, g6⟩ | ⟨ix, ex9, rfl, g1, rfl, g6⟩
            · cases g6
            · cases g6
            · cases g6
            · cases g6
            · cases g6
            · cases g6
              have e1 : mc = cells + 1 := by omega
              have e2 : ms = slots + 6 := by omega
              subst e1; subst e2
              exact ax_thrown hX htab hZ hJ hE hf g1 ⟨hmc, hms⟩ ⟨by omega, by omega⟩ hst
