set_option maxHeartbeats 2000000 in
theorem ax_ctor {p : Program} {l : Launch} {e : Env} {R : Room} {s : State} {m : MethodId} {args : Array Value} {below : List Frame} {meth : Method} {c : Code} {V : State} {locs : List Loc} {cells slots : Nat} (X : Stand p l e R s m args below meth c V locs cells slots) (hx : p.tables.exec = Jvm.exec) (htr : e.platform.stackTraces = false) (hown : s.vm.findClass "EqualityProver" = some m.cls) {cls : String} {ic ip : Nat} {bs : ByteArray} (hcls : Bundle.fit cls = true)
    (b0 : decode bs 0 = .ok (.aload_n 0, 1)) (b1 : decode bs 1 = .ok (.aload_n 1, 1)) (b2 : decode bs 2 = .ok (.invokespecial ip, 3)) (b5 : decode bs 5 = .ok (.return_, 1)) (h : ∀ w ∈ ax_ta ic cls ip bs, w.before args s = true) (hlocs : ∀ x ∈ locs, ∀ cell, s.heap[x.base]? = some cell → cell.vm.isStatics = false)
    {a q pc : Nat} {cX : ClassId} {kX : Class} (hfX : s.vm.findClass cls = some cX) (hkX : s.vm.classes[cX]? = some kX) (hcell : V.heap[a]? = some (freshCell cX kX)) (hnew : s.heap.size ≤ a) {ls : Array Slot} (hls : ls.size = c.maxLocals) (d6 : decode c.code pc = .ok (.invokespecial ic, 3)) (d9 : decode c.code (pc + 3) = .ok (.athrow, 1)) (hout : ∀ x ∈ c.exceptionTable.toList, covers x (pc + 3) = false)
    (hRf : 8 ≤ R.frames) (hRl : 300 ≤ R.locals) (hlk : meth.locks = false) :
    ∃ U : State, Steps p.tables e below (V.setTop (F0 m pc ls [.ref q, .ref a, .ref a])) U ∧ U.status = .running ∧ Ended U below (.threw a) ∧ s.WarmedH U.vm ∧ s.sameButNew ({ U with vm := s.vm } : State) locs cells slots ∧ (∀ x, x ≠ a → U.heap[x]? = V.heap[x]?) ∧ U.heap.size = V.heap.size ∧ ∃ ce, U.heap[a]? = some ce ∧ ce.vm = .none ∧ ce.cls = cX := by
  have howns : e.platform.frameOwnsMonitors = true := by rw [X.admits.platform]
  have hfin : e.platform.finalization = false := by rw [X.admits.platform]
  have hpl : e.platform.magicAccessors = ({} : Platform).magicAccessors := by rw [X.admits.platform]
  unfold ax_ta at h
  obtain ⟨hT, h2⟩ := List.forall_mem_append.mp h
  obtain ⟨hS, h3⟩ := List.forall_mem_append.mp h2
  obtain ⟨hP, h4⟩ := List.forall_mem_append.mp h3
  obtain ⟨hC, h5⟩ := List.forall_mem_append.mp h4
  have w1 := h5 _ (List.mem_cons_self)
  have w2 := h5 (.instantiable cls 6) (by simp)
  have w3 := h5 (.selects cls Bundle.tFill0 Bundle.tFill0) (by simp)
  have w4 := h5 (.selects cls Bundle.tFill Bundle.tFill) (by simp)
  have w5 := h5 (.lays cls Bundle.tN "cause" "Ljava/lang/Throwable;") (by simp)
  have w6 := h5 (.lays cls Bundle.tN "stackTrace" Bundle.steD) (by simp)
  have w7 := h5 (.lays cls Bundle.tN "suppressedExceptions" Bundle.listD) (by simp)
  have w8 := h5 (.lays cls Bundle.tN "detailMessage" "Ljava/lang/String;") (by simp)
  have w9 := h5 (.isRef (.static Bundle.tN "UNASSIGNED_STACK" Bundle.steD)) (by simp)
  have w10 := h5 (.isRef (.static Bundle.tN "SUPPRESSED_SENTINEL" Bundle.listD)) (by simp)
  have w11 := h5 (.fieldLink Bundle.tN 198 Bundle.tN "backtrace" "Ljava/lang/Object;") (by simp)
  have w12 := h5 (.lays Bundle.tN Bundle.tN "backtrace" "Ljava/lang/Object;") (by simp)
  have w13 := h5 (.lays cls Bundle.tN "backtrace" "Ljava/lang/Object;") (by simp)
  obtain ⟨T, Z0, L, -, Y⟩ := ThrowableC.of_atoms (args := args) howns hfin hpl hT
  obtain ⟨Z, Mc, LZ, LM, hnZ⟩ := Init0T.ofS_atoms (args := args) hpl L Y hS
  obtain ⟨P1, Ps, hlen, L1, hL, hP1m, hl1, hl2⟩ := Bundle.chainS (args := args) hpl hnZ ["java/lang/Exception"] "java/lang/RuntimeException" (by decide +kernel) (by decide +kernel) hC
  obtain ⟨P0, L0, hP0m, hP0s⟩ := PassC.ofS_atoms (args := args) (s := s) hpl (X := cls) (Y := "java/lang/RuntimeException") (Bundle.fit_spec hcls).1 (by decide) b0 b1 b2 b5 hP
  have hP01 : P0.sup = P1.m := Option.some.inj (hP0s.symm.trans hP1m)
  have hfound : s.vm.findClass cls = some P0.m.cls := findClass_of_methodNamed hP0m
  cases Option.some.inj (hfX.symm.trans hfound)
  obtain ⟨c1, kX', hc1, hk, hord, -, -, hn6⟩ := Cond.instantiable_spec w2
  cases Option.some.inj (hc1.symm.trans hfound)
  cases Option.some.inj (hkX.symm.trans hk)
  have hsel : ∀ {y : MethodName} {mm : MethodId}, (Cond.selects cls y y).before args s = true → y.cls = Bundle.tN → s.methodNamed? y = some mm → s.methodFound? y.cls y.name y.desc = some mm → selectMethod e.platform s.vm P0.m.cls mm = .method mm := by
    intro y mm hw _ hy hy2
    obtain ⟨c2, r2, m2, q1, q2, q3, q4, -⟩ := Cond.selects_spec hw
    cases Option.some.inj (q1.symm.trans hfound)
    cases Option.some.inj (q2.symm.trans hy2)
    cases Option.some.inj (q3.symm.trans hy)
    rw [Launch.admits_selectMethod X.admits]
    exact q4
  have hsel0 := hsel w3 rfl Y.fill0 (State.methodFound?_of_named Y.fill0 (by decide))
  have hselF := hsel w4 rfl Y.fill (State.methodFound?_of_named Y.fill (by decide))
  obtain ⟨cS0, hcS0, hiss⟩ := Y.statics
  obtain ⟨u0, hu0⟩ := Cond.staticRefV Y.unassigned L.unassignedStatic L.statics hcS0 hiss w9
  obtain ⟨sen, hsen⟩ := Cond.staticRefV Y.sentinel L.sentinelStatic L.statics hcS0 hiss w10
  obtain ⟨ci198, i198, fB, hk198, hg198, ha198, hsB, -, hnB, htB, hffB⟩ := Cond.ownField (t := .object "java/lang/Object") Y.found L.cls (by decide +kernel) w11 w12 e.platform hpl
  obtain ⟨cS, hcS, heS, -, hkeep⟩ := X.same.2.2.2.2.2 T.aS cS0 hcS0
  have hcellS : V.heap[T.aS]? = some cS := hcS
  have hfree : ∀ i, (⟨T.aS, i⟩ : Loc) ∉ locs := fun i hm => by
    have h9 := hlocs _ hm cS0 hcS0
    rw [hiss] at h9
    cases h9
  have hknS : cS.vm ≠ .unknown := by
    rw [heS]
    intro hu
    rw [show cS0.vm = .unknown from hu] at hiss
    cases hiss
  have hneS : T.aS ≠ a := Nat.ne_of_lt (Nat.lt_of_lt_of_le (Array.getElem?_eq_some_iff.mp hcS0).1 hnew)
  obtain ⟨iM, hffM⟩ := Y.msg
  obtain ⟨tyC, dC, hdC, hdnC⟩ := Cond.laysAt hfound hk Y.cause w5
  obtain ⟨tyS, dS, hdS, hdnS⟩ := Cond.laysAt hfound hk Y.stack w6
  obtain ⟨tyP, dP, hdP, hdnP⟩ := Cond.laysAt hfound hk Y.supp w7
  obtain ⟨tyM, dM, hdM, hdnM⟩ := Cond.laysAt hfound hk hffM w8
  obtain ⟨tyB, dB, hdB, hdnB⟩ := Cond.laysAt hfound hk hffB w13
  have bC := Cond.laysApart hdB hdC hdnB hdnC (by rw [hnB, Y.causeName]; decide)
  have bS := Cond.laysApart hdB hdS hdnB hdnS (by rw [hnB, Y.stackName]; decide)
  have bP := Cond.laysApart hdB hdP hdnB hdnP (by rw [hnB, Y.suppName]; decide)
  have hskip : SkipFacts T e.platform s (fun u => u) u0 ((preparedCellV T.toThrowableT (freshCell P0.m.cls kX) a u0 sen).withEntry V.cur) := by
    refine ⟨{ ci198 := ci198, i198 := i198, fBack := fB }, ⟨hk198, hg198, ha198, hsB⟩, ?_, fun _ _ => rfl⟩
    have h9 := fresh_default (c := P0.m.cls) tyB
    rw [htB] at h9
    simpa [preparedCellV, Cell.setSlot, Cell.withEntry, Array.getElem?_setIfInBounds, bC, bS, bP, bC.symm, bS.symm, bP.symm, defaultValue] using h9
  obtain ⟨tm, methC, cdC, kC, vm₁, hnC, -, -, -, -, -, -, -, hW₁, st1⟩ := Steps.initColdS (tb := p.tables) (e := e) (below := below) (s := s) (U := V) X.here hx X.warmed hpl hown (t := Bundle.initS cls) rfl rfl (Bundle.fit_spec hcls).2 w1 (hP (.instanceMethod (Bundle.initS cls)) (by simp [Bundle.passSAtoms])) (bytes := bs) (maxL := 2) (hP (.code (Bundle.initS cls) bs 2 none) (by simp [Bundle.passSAtoms]))
    (f := F0 m pc ls [.ref q, .ref a, .ref a]) rfl (a := a) (msg := .ref q) (rest := [.ref a]) rfl d6
  cases Option.some.inj (hnC.symm.trans hP0m)
  have X₁ := X.noted hW₁
  obtain ⟨vm₂, X₂, st2⟩ := X₁.ctorMessageOffV hx (g := F0 m pc ls [.ref a]) rfl hls T L Z LZ Mc LM (P0 :: P1 :: Ps)
    (fun P hP => by rcases List.mem_cons.mp hP with rfl | hP; exact L0; rcases List.mem_cons.mp hP with rfl | hP; exact L1; exact hL P hP) ⟨hP01, hl1, hl2⟩ (u0 := u0) (sen := sen) (self := a) (msg := .ref q) rfl (cell := freshCell P0.m.cls kX) (cellS := cS)
    hcell (fun _ => by simp) (by simp) rfl rfl hsel0 hselF hcellS hneS hknS (by rw [hkeep _ (hfree _)]; exact hu0) (by rw [hkeep _ (hfree _)]; exact hsen)
    (Takes.of_laid hk hord tyC (by rw [Y.causeType]; rfl)) (Takes.of_laid hk hord tyS (by rw [Y.stackType]; exact fits_refV_array _ u0)) (Takes.of_laid hk hord tyP (by rw [Y.suppType]; exact fits_refV_object _ sen))
    (Takes.of_laid hk hord tyM (by rw [Y.msgType]; exact fits_refV_object _ ⟨.ref q, rfl⟩)) Y.objLocals hskip htr [] d6
    (by simp only [List.length_cons, hlen, List.length_nil]; omega) (by simp only [List.length_cons, hlen, List.length_nil]; show 2 * 0 + 1 + _ ≤ _; omega)
  obtain ⟨hwalk, hrun, hended, hWU, hsame⟩ := X₂.athrowLeaves hx (g := F0 m (pc + 3) ls [.ref a]) rfl rfl rfl hout (a := a) (rest := []) rfl d9
  have hlt : a < ((V.setVm vm₁).setVm vm₂).heap.size := (Array.getElem?_eq_some_iff.mp hcell).1
  refine ⟨_, st1 _ (fun acts => ?_), hrun, hended, hWU, hsame.weaken (fun y hy hlt' => ?_) (Nat.le_refl _) (Nat.le_refl _), fun x hx9 => ?_, ?_, _, heapAt_setCell_self (s := (V.setVm vm₁).setVm vm₂) (plainBareV T.toThrowableT (freshCell P0.m.cls kX) a u0 sen (.ref q)) hlt, rfl, rfl⟩
  · rw [doInvoke_state]
    exact st2 _ hwalk
  · rcases List.mem_append.mp hy with h9 | h9
    · exact h9
    · exfalso
      have hb : y.base = a := by
        simp only [List.mem_cons, List.not_mem_nil, or_false] at h9
        rcases h9 with rfl | rfl | rfl | rfl | rfl <;> rfl
      rw [hb] at hlt'
      exact Nat.not_lt.mpr hnew hlt'
  · exact heapAt_setCell_ne (s := (V.setVm vm₁).setVm vm₂) _ (Ne.symm hx9)
  · exact Array.size_setIfInBounds ..
