section AXN
variable {p : Program} {l : Launch} {e : Env} {R : Room} {s : State} {m : MethodId} {args : Array Value} {below : List Frame} {meth : Method} {c : Code} {H : Heap} {locs : List Loc} {cells slots : Nat} {Q : State → Prop}
variable {M : Nat} {D : va_G} {ca : Nat → ClassId} {b nn : Nat} {xs : Nat → Int32} {A : Nat → Prop} {ws : va_W} {h : ax_H} {al st stc : List Value} {ls : Array Slot} {pc : Nat}
theorem ax_callI (htr : ∀ e : Env, l.admits e → e.platform.stackTraces = false) (hX : ax_X M p s m args meth c D ca b nn xs) (hA : ∀ q, s.heap.size ≤ q → A q) (hbA : ¬ A b) (hZ : ax_Zs A s s.heap) (hJ : ax_J M D ca b nn xs A s al st h ws H locs ls stc)
    {n d ix M' k o mc2 ms2 k0 s0 k2 s2 : Nat} {r : List Value} {v : Option Value} {h2 : ax_H} (ih : ax_Snd l n) (hd : decode (ax_cd M) pc = .ok (.invokespecial ix, 3)) (hspe : ax_spe M ix = some (some (M', k))) (hdr : st.drop k = .ref o :: r) (hb8 : Nat.ble (ax_sw r) 8 = true) (hc1 : (st.take k).all ax_c1 = true)
    (hrun : ax_run n d M' 0 (ax_in M' (.ref o :: (st.take k).reverse)) [] h k0 s0 = some (.inl v, h2, k2, s2)) (hmc : k0 + mc2 = k2) (hms : s0 + ms2 = s2) (hroom : cells + mc2 ≤ R.cells ∧ slots + ms2 ≤ R.slots) (hR : R.slots ≤ 7292999 ∧ d + 9 ≤ R.frames ∧ 64 * (d + 1) + 300 ≤ R.locals)
    (kk : ax_K0 p l e R s m args below meth c cells slots Q M D ca b nn xs A ws (pc + 3) al (v.toList ++ r) h2 mc2 ms2) : W p l e R s m args below meth c H locs cells slots Q (F0 m pc ls stc) := by
  obtain ⟨hM', hh0, hml', hnp, hname, hret, hPL⟩ := ax_spco hspe
  obtain ⟨hw1, -, hw3, hw4, hw5, hw6⟩ := ax_hwo hM'
  obtain ⟨hx, hb, hml, hr, hlk, hown, hts, hin, hK, hnw, hXs, hbl⟩ := id hX
  obtain ⟨hv1, hv2⟩ := ax_vrs_split k hJ.2.2.2.2.2
  rw [hdr] at hv2
  obtain ⟨a, q, hq0, ha, hq⟩ := ax_vrs_ref hv2
  have hstk : stc = (stc.take k) ++ (.ref a :: q) := by rw [← hq0, List.take_append_drop]
  have hlenk : (st.take k).length = k := by
    rw [List.length_take]
    have : st.length = k + (r.length + 1) := by
      have h1 := congrArg List.length hdr
      rw [List.length_drop, List.length_cons] at h1
      omega
    omega
  have hrev : (stc.take k).reverse.reverse = stc.take k := List.reverse_reverse _
  have hall : (Value.ref o :: (st.take k).reverse).all ax_c1 = true := by
    rw [List.all_cons, List.all_reverse, hc1]; rfl
  have hvr : ax_vrs (ax_ad b ws) (.ref o :: (st.take k).reverse) (.ref a :: (stc.take k).reverse) := ⟨⟨a, ha, rfl⟩, ax_vrs_rev hv1⟩
  have hlen : (Value.ref o :: (st.take k).reverse).length ≤ ax_ml M' := by
    rw [List.length_cons, List.length_reverse, hlenk]; exact hml'
  have hMx := ax_met ih htr hM' hall hlen hrun (D := D) hJ.1 hvr hmc hms (by have := hroom.2; have := hR.1; omega) H.size
  have hM := ax_toMet hMx ax_Q_ret
  have hcode := ax_hw_nil hh0
  rw [hret] at hcode
  have hcg : Cond.code (ax_y M') (ax_cd M') (ax_ml M') none ∈ ax_gd := by rw [← hcode]; exact hw1
  have hcw : Cond.code (ax_y M') (ax_cd M') (ax_ml M') none ∈ ax_ws M' := by rw [← hcode]; exact List.mem_cons_self
  have hPre : PreS s H (va_Pc (.ref a :: (stc.take k).reverse) (ax_B D ca b nn xs ws H.size)) (.ref a :: (stc.take k).reverse) := ⟨ax_blind _ _ _ _ _ _ _ _, fun U hU hW => ⟨rfl, ax_B_at hX hA hbA hZ hJ U hU hW⟩⟩
  have hlk2 : (stc.take k).reverse.length = k := by rw [List.length_reverse, ← ax_vrs_len hv1]; exact hlenk
  have hstack : (F0 m pc ls stc).stack = (stc.take k).reverse.reverse ++ .ref a :: q := by rw [hrev]; exact hstk
  have hw8 := ax_sw_le hb8 hq
  have hfr : (ax_rm d mc2 ms2).frames + 1 ≤ R.frames := by show d + 8 + 1 ≤ _; omega
  have hlo : 8 + (ax_ml M' + 11) + (ax_rm d mc2 ms2).locals ≤ R.locals := by show 8 + (ax_ml M' + 11) + (64 * d + 300) ≤ _; omega
  have S : CallFix p m c (ax_cd M) (ax_ml M) s args ax_gd (ax_ow M) := ⟨hx, hb, hml, hown, hts⟩
  rcases hPL with ⟨l1, l2, l3⟩ | ⟨l1, l2, l3⟩
  · exact ax_cont hA hJ hq (va_runI S hM ⟨⟨rfl, rfl, hfr, hlo, ax_pays hts hM', hcw, hts _ hcg, hts _ l3, hw4, ax_len_of hnp, hts _ l1⟩, hname, hts _ l2⟩ hPre rfl hlk2 hJ.2.2.2.2.1.1 hstack (lv_room hw8) hd hroom) kk
  · exact ax_cont hA hJ hq (va_runIN (host := "EqualityProver") S hM ⟨⟨⟨rfl, rfl, hfr, hlo, ax_pays hts hM', hcw⟩, hts _ hcg, hts _ l3, hw4, ax_len_of hnp, va_Nw.use rfl (hnw _ l1)⟩, hname, hts _ l2⟩ hPre rfl hlk2 hJ.2.2.2.2.1.1 hstack (lv_room hw8) hd hroom) kk
theorem ax_runSW {y : MethodName} {bytes cc : ByteArray} {maxL nL mc ms k index : Nat} {ret : Option FieldType} {hh : List (Nat × Nat × Nat × Nat)} {ws : List Cond} {rm : Room} {Pc : Array Value → State → Prop} {Qc : Array Value → State → Outcome → State → Prop} {free : Addr → Prop} {Ts : List Cond} {own : String} {As rest : List Value} {g : JFrame}
    (S : CallFix p m c cc nL s args Ts own) (hM : Met l y ws rm Pc Qc mc ms free) (hrc : rm.cells = mc) (hrs : rm.slots = ms) (hfr : rm.frames + 1 ≤ R.frames) (hlo : 8 + (maxL + 11) + rm.locals ≤ R.locals) (hws : ∀ w ∈ ws, ∀ (a' : Array Value) (U : State), s.WarmedH U.vm → w.before a' U = true) (hcw : Cond.codeWith y bytes maxL ret hh ∈ ws)
    (hcode : (Cond.codeWith y bytes maxL ret hh).before args s = true) (hini : (Cond.initialized y.cls).before args s = true) (hy : y.cls ≠ "java/lang/invoke/MethodHandle" ∧ y.cls ≠ "java/lang/invoke/VarHandle") (hlen : ∀ sig, parseMethodDescriptor y.desc = some sig → k = sig.parameters.length) (hl : (Cond.methodLink own index y).before args s = true) (hstat : (Cond.static y).before args s = true) (hp : PreS s H Pc As)
    (hg : g.method = m) (hn : As.length = k) (hsize : g.locals.size = nL) (hstack : g.stack = As.reverse ++ rest) (hW : 2 * g.monitorRoom + (rest.map fun v => v.category).sum ≤ 8) (hdg : decode cc g.pc = .ok (.invokestatic index, 3)) (hf : cells + mc ≤ R.cells ∧ slots + ms ≤ R.slots) :
    va_Run p l e R s m args below meth c H locs cells slots mc ms g rest (Qc As.toArray) (free) := by
  have hK : Back l R p e below s args y 3 8 (PreOf R mc ms Pc) (PostOf Qc mc ms free) := va_backW (bytes := bytes) (maxL := maxL) (ret := ret) (hh := hh) hM hp.1 hrc hrs hfr hlo hws hcw (fun a' U hW => word_at hW (Or.inl (by first | rfl | simp [Cond.onTables, Cond.keeps, Cond.steady])) hini)
  obtain ⟨hx, hb, hml, ho, -⟩ := S
  subst hb
  obtain ⟨mk, methM, cM, hnamed, hmethM, -, -, -, -, -, -, hsigM⟩ := Cond.codeWith_spec hcode
  have hstatic : methM.isStatic = true := Cond.static_spec hnamed hmethM hstat
  obtain ⟨kP, hkP, -⟩ := className_of_methodNamed hnamed
  have hinitP : kP.init = .initialized := Cond.initialized_spec (findClass_of_methodNamed hnamed) hkP hini
  intro T hT X
  obtain ⟨vm₁, X₁, hstep₁⟩ := X.invokestatic hx ho hl hnamed hmethM hstatic hkP hinitP hy (g := g) hg (argsL := As) (rest := rest) (hn.trans (hlen _ hsigM)) hstack hdg
  obtain ⟨v, ⟨U', l2, c2, s2⟩, X', ⟨g', mk', t, L, e1, e2, hq, h1, hL, h2, h3⟩, hsteps⟩ := hK m meth c ⟨T.setVm vm₁, locs, cells, slots⟩ { g with stack := rest } (.invokestatic index) mk As.toArray X₁ hg (hsize.trans hml.symm) hdg hW (X₁.named hnamed) ⟨hf.1, hf.2, hp.2 (T.setVm vm₁) hT X₁.warmed⟩
  dsimp only [Pt.U, Pt.locs, Pt.cells, Pt.slots] at X' e1 e2 h1 h2 h3 hsteps
  subst h1; subst h2; subst h3
  exact ⟨v, (T.setVm vm₁).calling g' mk' As.toArray, t, U', L, hT, X', hL, e1, e2, hq, fun target h9 => hstep₁ _ fun acts => by rw [doInvoke_state]; exact hsteps.trans h9⟩
theorem ax_callS (htr : ∀ e : Env, l.admits e → e.platform.stackTraces = false) (hX : ax_X M p s m args meth c D ca b nn xs) (hA : ∀ q, s.heap.size ≤ q → A q) (hbA : ¬ A b) (hZ : ax_Zs A s s.heap) (hJ : ax_J M D ca b nn xs A s al st h ws H locs ls stc)
    {n d ix M' k mc2 ms2 k0 s0 k2 s2 : Nat} {v : Option Value} {h2 : ax_H} (ih : ax_Snd l n) (hd : decode (ax_cd M) pc = .ok (.invokestatic ix, 3)) (hsta : ax_sta M ix = some (M', k)) (hb8 : Nat.ble (ax_sw (st.drop k)) 8 = true) (hc1 : (st.take k).all ax_c1 = true) (hk : k ≤ st.length)
    (hrun : ax_run n d M' 0 (ax_in M' (st.take k).reverse) [] h k0 s0 = some (.inl v, h2, k2, s2)) (hmc : k0 + mc2 = k2) (hms : s0 + ms2 = s2) (hroom : cells + mc2 ≤ R.cells ∧ slots + ms2 ≤ R.slots) (hR : R.slots ≤ 7292999 ∧ d + 9 ≤ R.frames ∧ 64 * (d + 1) + 300 ≤ R.locals)
    (kk : ax_K0 p l e R s m args below meth c cells slots Q M D ca b nn xs A ws (pc + 3) al (v.toList ++ st.drop k) h2 mc2 ms2) : W p l e R s m args below meth c H locs cells slots Q (F0 m pc ls stc) := by
  obtain ⟨hM', hml', hnp, l1, l2, l3⟩ := ax_stao hsta
  obtain ⟨hw1, -, hw3, hw4, hw5, hw6⟩ := ax_hwo hM'
  obtain ⟨hx, hb, hml, hr, hlk, hown, hts, hin, hK, hnw, hXs, hbl⟩ := id hX
  obtain ⟨hv1, hq⟩ := ax_vrs_split k hJ.2.2.2.2.2
  have hlenk : (st.take k).length = k := by rw [List.length_take]; omega
  have hrev : (stc.take k).reverse.reverse = stc.take k := List.reverse_reverse _
  have hall : ((st.take k).reverse).all ax_c1 = true := by rw [List.all_reverse, hc1]
  have hvr : ax_vrs (ax_ad b ws) (st.take k).reverse (stc.take k).reverse := ax_vrs_rev hv1
  have hlen : ((st.take k).reverse).length ≤ ax_ml M' := by rw [List.length_reverse, hlenk]; exact hml'
  have hMx := ax_met ih htr hM' hall hlen hrun (D := D) hJ.1 hvr hmc hms (by have := hroom.2; have := hR.1; omega) H.size
  have hM := ax_toMet hMx ax_Q_ret
  have hPre : PreS s H (va_Pc (stc.take k).reverse (ax_B D ca b nn xs ws H.size)) (stc.take k).reverse := ⟨ax_blind _ _ _ _ _ _ _ _, fun U hU hW => ⟨rfl, ax_B_at hX hA hbA hZ hJ U hU hW⟩⟩
  have hlk2 : (stc.take k).reverse.length = k := by rw [List.length_reverse, ← ax_vrs_len hv1]; exact hlenk
  have hstack : (F0 m pc ls stc).stack = (stc.take k).reverse.reverse ++ stc.drop k := by rw [hrev, List.take_append_drop]
  have hw8 := ax_sw_le hb8 hq
  have hfr : (ax_rm d mc2 ms2).frames + 1 ≤ R.frames := by show d + 8 + 1 ≤ _; omega
  have hlo : 8 + (ax_ml M' + 11) + (ax_rm d mc2 ms2).locals ≤ R.locals := by show 8 + (ax_ml M' + 11) + (64 * d + 300) ≤ _; omega
  have S : CallFix p m c (ax_cd M) (ax_ml M) s args ax_gd (ax_ow M) := ⟨hx, hb, hml, hown, hts⟩
  cases hh0 : ax_hh M' with
  | nil =>
    have hcode := ax_hw_nil hh0
    have hcg : Cond.code (ax_y M') (ax_cd M') (ax_ml M') (ax_rt M') ∈ ax_gd := by rw [← hcode]; exact hw1
    have hcw : Cond.code (ax_y M') (ax_cd M') (ax_ml M') (ax_rt M') ∈ ax_ws M' := by rw [← hcode]; exact List.mem_cons_self
    exact ax_cont hA hJ hq (va_runS S hM ⟨⟨rfl, rfl, hfr, hlo, ax_pays hts hM', hcw, hts _ hcg, hts _ l3, hw4, ax_len_of hnp, hts _ l1⟩, hts _ l2⟩ hPre rfl hlk2 hJ.2.2.2.2.1.1 hstack (lv_room hw8) hd hroom) kk
  | cons q0 r0 =>
    have hcode : ax_hw M' = .codeWith (ax_y M') (ax_cd M') (ax_ml M') (ax_rt M') (ax_hh M') := by
      unfold ax_hw
      rw [hh0]
    have hcg : Cond.codeWith (ax_y M') (ax_cd M') (ax_ml M') (ax_rt M') (ax_hh M') ∈ ax_gd := by rw [← hcode]; exact hw1
    have hcw : Cond.codeWith (ax_y M') (ax_cd M') (ax_ml M') (ax_rt M') (ax_hh M') ∈ ax_ws M' := by rw [← hcode]; exact List.mem_cons_self
    exact ax_cont hA hJ hq (ax_runSW S hM rfl rfl hfr hlo (ax_pays hts hM') hcw (hts _ hcg) (hts _ l3) hw4 (ax_len_of hnp) (hts _ l1) (hts _ l2) hPre rfl hlk2 hJ.2.2.2.2.1.1 hstack (lv_room hw8) hd hroom) kk
end AXN
