def ax_PoT (Qc : Array Value → State → Outcome → State → Prop) (mc ms : Nat) (free : Addr → Prop) : Pt → Array Value → Addr → Pt → Prop := fun A a x B =>
  ∃ (g : JFrame) (mk : MethodId) (t : State) (L : List Loc), B.U.heap = t.heap ∧ B.U.vm = t.vm ∧ Qc a (A.U.calling g mk a) (.threw x) t ∧ B.locs = A.locs ++ L ∧ (∀ q ∈ L, free q.base) ∧ B.cells = A.cells + mc ∧ B.slots = A.slots + ms
section AXT
variable {p : Program} {l : Launch} {e : Env} {R : Room} {s : State} {m : MethodId} {args : Array Value} {below : List Frame} {meth : Method} {c : Code} {H : Heap} {locs : List Loc} {cells slots : Nat} {Q : State → Prop}
variable {M : Nat} {D : va_G} {ca : Nat → ClassId} {b nn : Nat} {xs : Nat → Int32} {A : Nat → Prop} {ws : va_W} {h : ax_H} {al st stc : List Value} {ls : Array Slot} {pc : Nat}
theorem ax_backT {y : MethodName} {vs : List Cond} {rm : Room} {Pc : Array Value → State → Prop} {Qc : Array Value → State → Outcome → State → Prop} {mc ms : Nat} {free : Addr → Prop} {bytes : ByteArray} {maxL : Nat} {ret : Option FieldType}
    (hM : ax_M l y vs rm Pc Qc mc ms free) (hthr : ∀ a st o t, Qc a st o t → ∃ x, o = .threw x) (hbl : FrameBlind Pc) (hrc : rm.cells = mc) (hrs : rm.slots = ms) (hfr : rm.frames + 1 ≤ R.frames) (hlo : 8 + (maxL + 11) + rm.locals ≤ R.locals)
    (hws : ∀ w ∈ vs, ∀ (a' : Array Value) (U : State), s.WarmedH U.vm → w.before a' U = true) (hcode : Cond.code y bytes maxL ret ∈ vs) (hini : ∀ (a' : Array Value) (U : State), s.WarmedH U.vm → (Cond.initialized y.cls).before a' U = true) :
    BackT l R p e below s args y 3 8 (PreOf R mc ms Pc) (ax_PoT Qc mc ms free) := by
  refine BackT.of_free (S := headSpec vs rm) (P := Pc) (K := fun _ _ _ _ _ => True) (Q := fun a st o t => Qc a st o t ∧ ∃ L, ax_FE st t L mc ms ∧ ∀ q ∈ L, free q.base) (bytes := bytes) (maxL := maxL) (ret := ret)
    (E := fun a st o t L k n => k = mc ∧ n = ms ∧ ∀ q ∈ L, free q.base) hM hfr hlo ?_ ?_ (fun _ _ _ _ _ _ _ _ _ => trivial) ?_ ?_
  · intro m1 meth1 c1 A1 a X hp
    refine ⟨atoms_intro fun w hw => hws w hw _ _ X.warmed, hws _ hcode _ _ X.warmed, hini _ _ X.warmed, ?_, ?_⟩
    · have h1 := hp.1
      have h2 : (headSpec vs rm).room.cells = mc := hrc
      omega
    · have h1 := hp.2.1
      have h2 : (headSpec vs rm).room.slots = ms := hrs
      omega
  · intro m1 meth1 c1 A1 a g mk X hp
    exact hbl _ _ _ _ hp.2.2
  · intro a st1 o t hq
    obtain ⟨hq, L, hF, hL⟩ := hq
    exact ⟨L, mc, ms, ⟨hthr _ _ _ _ hq, hF.1, hF.2⟩, rfl, rfl, hL⟩
  · intro m1 meth1 c1 A1 a g mk v t L k n X hp hq hF hE
    obtain ⟨e1, e2, hL⟩ := hE
    subst e1; subst e2
    exact ⟨g, mk, t, L, rfl, rfl, hq.1, rfl, hL, rfl, rfl⟩
theorem ax_runT {own C : String} {index mc ms k maxL : Nat} {y : MethodName} {vs : List Cond} {rm : Room} {Pc : Array Value → State → Prop} {Qc : Array Value → State → Outcome → State → Prop} {free : Addr → Prop} {bytes cc : ByteArray} {ret : Option FieldType} {ba : Addr} {As rest : List Value} {g : JFrame}
    (hx : p.tables.exec = Jvm.exec) (hb : c.code = cc) (hown : s.vm.findClass own = some m.cls) (hM : ax_M l y vs rm Pc Qc mc ms free) (hthr : ∀ a st o t, Qc a st o t → ∃ x, o = .threw x) (hp : PreV s H C ba Pc As) (hrc : rm.cells = mc) (hrs : rm.slots = ms) (hfr : rm.frames + 1 ≤ R.frames) (hlo : 8 + (maxL + 11) + rm.locals ≤ R.locals)
    (hws : ∀ w ∈ vs, ∀ (a' : Array Value) (U : State), s.WarmedH U.vm → w.before a' U = true) (hcw : Cond.code y bytes maxL ret ∈ vs) (hcode : (Cond.code y bytes maxL ret).before args s = true) (hini : (Cond.initialized y.cls).before args s = true) (hy : y.cls ≠ "java/lang/invoke/MethodHandle" ∧ y.cls ≠ "java/lang/invoke/VarHandle") (hlen : ∀ sig, parseMethodDescriptor y.desc = some sig → k = sig.parameters.length)
    (hlink : (Cond.methodLink own index y).before args s = true) (hinst : (Cond.instanceMethod y).before args s = true) (hsel : (Cond.selects C y y).before args s = true)
    (hg : g.method = m) (hn : As.length = k) (hsize : g.locals.size = c.maxLocals) (hstack : g.stack = As.reverse ++ .ref ba :: rest) (hW : 2 * g.monitorRoom + (rest.map fun v => v.category).sum ≤ 8) (hdg : decode cc g.pc = .ok (.invokevirtual index, 3)) (hf : cells + mc ≤ R.cells ∧ slots + ms ≤ R.slots) :
    ∀ T : State, T.heap = H → Stand p l e R s m args below meth c T locs cells slots → ∃ (v : Addr) (st₀ t T' : State) (L : List Loc), st₀.heap = H ∧ Stand p l e R s m args below meth c T' (locs ++ L) (cells + mc) (slots + ms) ∧ (∀ q ∈ L, free q.base) ∧ T'.heap = t.heap ∧ T'.vm = t.vm ∧ Qc (Value.ref ba :: As).toArray st₀ (.threw v) t ∧
      Steps p.tables e below (T.setTop g) ((T'.setTop { g with stack := rest }).pushFrame (.throwing v)) := by
  intro T hT X
  have hK := ax_backT (p := p) (e := e) (below := below) (args := args) (s := s) (R := R) hM hthr hp.1 hrc hrs hfr hlo hws hcw (fun a' U hW => word_at hW (Or.inl (by first | rfl | simp [Cond.onTables, Cond.keeps, Cond.steady])) hini)
  obtain ⟨-, ⟨cellB, hcB, hoB, hclB⟩, hPc⟩ := hp
  obtain ⟨mk, methM, hnamed, hmethM, hstM, habM⟩ := Cond.instanceMethod_spec hinst
  obtain ⟨methM', cM, hmethM', -, -, -, -, -, -, hsigM⟩ := Cond.code_spec hnamed hcode
  cases hmethM.symm.trans hmethM'
  obtain ⟨c2, r2, m2, q1, q2, q3, q4, kP, hkP, hkPi⟩ := Cond.selects_spec hsel
  cases hclB.symm.trans q1
  cases (State.methodFound?_of_named hnamed hy).symm.trans q2
  cases hnamed.symm.trans q3
  have hselP : selectMethod e.platform s.vm cellB.cls mk = .method mk := by rw [Launch.admits_selectMethod X.admits]; exact q4
  have hcT : T.heap[ba]? = some cellB := by rw [hT]; exact hcB
  have hdc : decode c.code g.pc = .ok (.invokevirtual index, 3) := by rw [hb]; exact hdg
  obtain ⟨vm₁, X₁, hst⟩ := X.invokevirtual hx hown hlink hnamed hmethM hstM hkP hkPi hy (a := ba) (cell := cellB) hcT
    (fun z hz => by rw [hz] at hoB; cases hoB) hselP hmethM habM hkP hkPi (g := g) hg (argsL := As) (rest := rest) (hn.trans (hlen _ hsigM)) hstack hdc
  obtain ⟨v, ⟨U', l2, c9, s9⟩, X', ⟨g', mk', t, L, e1, e2, hq, h1, hL, h2, h3⟩, stp⟩ := hK m meth c ⟨T.setVm vm₁, locs, cells, slots⟩ { g with stack := rest } (.invokevirtual index) mk (Value.ref ba :: As).toArray X₁ hg hsize hdc hW (X₁.named hnamed) ⟨hf.1, hf.2, hPc (T.setVm vm₁) hT X₁.warmed⟩
  dsimp only [Pt.U, Pt.locs, Pt.cells, Pt.slots] at X' e1 e2 h1 h2 h3 stp
  subst h1; subst h2; subst h3
  exact ⟨v, (T.setVm vm₁).calling g' mk' (Value.ref ba :: As).toArray, t, U', L, hT, X', hL, e1, e2, hq, hst _ fun acts => by rw [doInvoke_state]; exact stp⟩
theorem ax_Q_thr {sz ex : Nat} {h2 : ax_H} : ∀ a st o t, ax_Q D ca b nn xs ws sz (.inr ex) h2 a st o t → ∃ x, o = .threw x := by
  intro a st o t h
  obtain ⟨⟨ws', -, -, -, -, x, cell, hx, -⟩, -⟩ := h
  exact ⟨x, hx⟩
theorem ax_caught (htr : ∀ e : Env, l.admits e → e.platform.stackTraces = false) (hX : ax_X M p s m args meth c D ca b nn xs) (htab : c.exceptionTable.toList = tableOf (ax_hh M)) (hA : ∀ q, s.heap.size ≤ q → A q) (hbA : ¬ A b) (hZ : ax_Zs A s s.heap) (hJ : ax_J M D ca b nn xs A s al st h ws H locs ls stc)
    {n d M' mc2 ms2 k0 s0 k2 s2 len ex hp : Nat} {i : Instr} {as r : List Value} {h2 : ax_H} (ih : ax_Snd l n) (hf : ax_fx M pc = some (i, len)) (hs : ax_step M i len pc al st h = some (.inr (.inl (M', as, r))))
    (hrun : ax_run n d M' 0 (ax_in M' as) [] h k0 s0 = some (.inr ex, h2, k2, s2)) (hh : ax_hd M pc ex = some hp) (hmc : k0 + mc2 = k2) (hms : s0 + ms2 = s2) (hroom : cells + mc2 ≤ R.cells ∧ slots + ms2 ≤ R.slots) (hR : R.slots ≤ 7292999 ∧ d + 9 ≤ R.frames ∧ 64 * (d + 1) + 300 ≤ R.locals)
    (kk : ax_K0 p l e R s m args below meth c cells slots Q M D ca b nn xs A ws hp al [.null] h2 mc2 ms2) : W p l e R s m args below meth c H locs cells slots Q (F0 m pc ls stc) := by
  obtain ⟨o1, o2, o3, o4, o5⟩ := ax_covo hf hh
  rcases ax_other hs with ⟨ix, M9, k, ci, o, r9, rfl, hvir, hdr, his, hb8, hc1, g6⟩ | ⟨ix, M9, k, o9, r9, hi, -⟩ | ⟨ix, M9, k, hi, -⟩ | ⟨x, -, -, -, g6⟩ | ⟨-, -, g6⟩ | ⟨ix, ex, -, -, -, g6⟩
  rotate_left
  · exact absurd hi (o4 ix)
  · exact absurd hi (o5 ix)
  · cases g6
  · cases g6
  · cases g6
  cases g6
  obtain ⟨hd, hok⟩ := ax_fxo hf
  have hl : len = 3 := Nat.eq_of_beq_eq_true hok
  subst hl
  obtain ⟨hM', hh0, hml', hnp, C, T, N, hcl, hVL⟩ := ax_viro hvir
  obtain ⟨hw1, -, hw3, hw4, hw5, hw6⟩ := ax_hwo hM'
  obtain ⟨hx, hb, hml, hr, hlk, hown, hts, hin, hK, hnw, hXs, hbl⟩ := id hX
  have hyC : (ax_y M').cls = C := ax_lawy o2 hvir hcl
  have hVL2 : Cond.methodLink (ax_ow M) ix (ax_y M') ∈ ax_gd ∧ Cond.instanceMethod (ax_y M') ∈ ax_gd ∧ Cond.selects C (ax_y M') (ax_y M') ∈ ax_gd ∧ Cond.initialized (ax_y M').cls ∈ ax_gd := by
    rcases hVL with hv | ⟨l1, l2, l3, l4, -⟩ | ⟨l1, -⟩
    · exact hv
    · have e9 : ax_sx C (ax_y M') = ax_y M' := by rw [← hyC]; rfl
      rw [e9] at l1 l3
      exact ⟨l1, l2, l3, l4⟩
    · rw [o1] at l1
      simp [ax_nw] at l1
  obtain ⟨l1, l2, l3, l4⟩ := hVL2
  obtain ⟨hv1, hv2⟩ := ax_vrs_split k hJ.2.2.2.2.2
  rw [hdr] at hv2
  obtain ⟨a, q, hq0, ha, hq⟩ := ax_vrs_ref hv2
  have hstk : stc = (stc.take k) ++ (.ref a :: q) := by rw [← hq0, List.take_append_drop]
  have hlenk : (st.take k).length = k := by
    rw [List.length_take]
    have : st.length = k + (r.length + 1) := by
      have h1 := congrArg List.length hdr
      rw [List.length_drop, List.length_cons] at h1
      omega
    omega
  cases hcell : h[o]? with
  | none => rw [hcell] at his; cases his
  | some ee =>
    rcases ee with x | ⟨c9, fs⟩
    · rw [hcell] at his; cases his
    have hci : c9 = ci := by rw [hcell] at his; exact Nat.eq_of_beq_eq_true his
    subst hci
    obtain ⟨j, gs, rfl, hwj, -⟩ := ax_obj hJ.1 hcell ha
    have hrev : (stc.take k).reverse.reverse = stc.take k := List.reverse_reverse _
    have hall : (Value.ref (j + 1) :: (st.take k).reverse).all ax_c1 = true := by
      rw [List.all_cons, List.all_reverse, hc1]; rfl
    have hvr : ax_vrs (ax_ad b ws) (.ref (j + 1) :: (st.take k).reverse) (.ref a :: (stc.take k).reverse) := ⟨⟨a, ha, rfl⟩, ax_vrs_rev hv1⟩
    have hlen : (Value.ref (j + 1) :: (st.take k).reverse).length ≤ ax_ml M' := by
      rw [List.length_cons, List.length_reverse, hlenk]; exact hml'
    have hMx := ax_met ih htr hM' hall hlen hrun (D := D) hJ.1 hvr hmc hms (by have := hroom.2; have := hR.1; omega) H.size
    have hcode := ax_hw_nil hh0
    have hcg : Cond.code (ax_y M') (ax_cd M') (ax_ml M') (ax_rt M') ∈ ax_gd := by rw [← hcode]; exact hw1
    have hcw : Cond.code (ax_y M') (ax_cd M') (ax_ml M') (ax_rt M') ∈ ax_ws M' := by rw [← hcode]; exact List.mem_cons_self
    have hrec := va_recv (ci := c9) hK hJ.2.1 hcl hwj
    have hPre : PreV s H C a (va_Pc (.ref a :: (stc.take k).reverse) (ax_B D ca b nn xs ws H.size)) (stc.take k).reverse := ⟨ax_blind _ _ _ _ _ _ _ _, hrec, fun U hU hW => ⟨rfl, ax_B_at hX hA hbA hZ hJ U hU hW⟩⟩
    have hlk2 : (stc.take k).reverse.length = k := by rw [List.length_reverse, ← ax_vrs_len hv1]; exact hlenk
    have hstack : (F0 m pc ls stc).stack = (stc.take k).reverse.reverse ++ .ref a :: q := by rw [hrev]; exact hstk
    have hw8 := ax_sw_le hb8 hq
    have hfr : (ax_rm d mc2 ms2).frames + 1 ≤ R.frames := by show d + 8 + 1 ≤ _; omega
    have hlo : 8 + (ax_ml M' + 11) + (ax_rm d mc2 ms2).locals ≤ R.locals := by show 8 + (ax_ml M' + 11) + (64 * d + 300) ≤ _; omega
    obtain ⟨hex, pre, xe, rest, t1, t2, t3, t4, t5, t6⟩ := ax_hsplit o3 hh
    intro T0 hT0 X
    obtain ⟨v, st₀, t, T', L, h0, X', hL, e1, e2, hQ, stp⟩ := ax_runT (C := C) hx hb hown hMx ax_Q_thr hPre rfl rfl hfr hlo (ax_pays hts hM') hcw (hts _ hcg) (hts _ l4) hw4 (ax_len_of hnp) (hts _ l1) (hts _ l2) (hts _ l3) rfl hlk2 (hJ.2.2.2.2.1.1.trans hml.symm) hstack (lv_room hw8) hd hroom T0 hT0 X
    obtain ⟨⟨ws', ⟨E, hE⟩, y1, y2, y3, x9, cell, hx9, hc, hcv, hcf⟩, y5⟩ := hQ
    cases hx9
    have hAF := ax_AF hA hJ
    obtain ⟨hJ1, hP, hD, hS, hl9, hv9⟩ := hJ
    obtain ⟨f1, f2⟩ := y5
    rw [h0] at f1 f2
    have hS' : va_S A s.heap T'.heap (locs ++ L) := by
      refine ⟨Nat.le_trans hS.1 (by rw [e1]; exact f1), fun x x1 x2 => ?_, fun x hx => ?_⟩
      · rw [e1, f2 x (Nat.lt_of_lt_of_le x1 hS.1) (fun z => x2 (hAF x z))]
        exact hS.2.1 x x1 x2
      · rcases List.mem_append.mp hx with hx | hx
        · exact hS.2.2 x hx
        · exact hAF _ (hL x hx)
    have hfs : s.vm.findClass (ax_en ex) = some cell.cls := by
      rw [← X'.warmed.alike.findClass, e2]
      exact hcf
    have hcT : T'.heap[v]? = some cell := by rw [e1]; exact hc
    obtain ⟨c3, c4, hc3, hc4, hasg⟩ := Cond.castable_spec (hnw _ (ax_cast ex hex))
    cases Option.some.inj (hc3.symm.trans hfs)
    cases Option.some.inj (hc4.symm.trans hfs)
    rw [o1] at hown
    have hpl : e.platform.magicAccessors = ({} : Platform).magicAccessors := by rw [X'.admits.platform]
    obtain ⟨hend, hk0⟩ := X'.catches_of_link hown t4 (hts _ t5) hfs hasg
    obtain ⟨vm', XV, st2⟩ := X'.caughtThrough v (g := F0 m pc ls q) rfl hcT (by rw [hcv]; rfl) hk0 pre xe rest (htab.trans t1) (fun y hy => by
      rcases t6 y hy with h9 | ⟨h9, h10, h11⟩
      · exact Or.inl h9
      · exact RowPassed.of_words hpl hown h9 (hts _ h10) hfs (ax_vmonly (U := s) (ax_ncast ex hex h11) (hnw _ (ax_ncast ex hex h11)))) t2 hend
    have hK0 := kk ws' T'.heap (locs ++ L) ls [.ref v] ⟨y1, by rw [e1]; exact y2, y3.weaken (fun _ x _ hx => hAF x.1 hx), hS', by rw [hE]; exact ax_lr_app hl9, ⟨Or.inr ⟨v, rfl⟩, trivial⟩⟩ ⟨E, hE⟩
    obtain ⟨t9, a1, b1⟩ := hK0 (T'.setVm vm') rfl XV
    refine ⟨t9, stp.trans ?_, b1⟩
    rw [show ({ F0 m pc ls stc with stack := q } : JFrame) = F0 m pc ls q from rfl, X'.pushThrowing_eq]
    refine st2 t9 ?_
    rw [t3]
    exact a1
end AXT
