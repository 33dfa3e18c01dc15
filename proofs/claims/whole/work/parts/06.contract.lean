def ax_ws (M : Nat) : List Cond := ax_hw M :: ax_gd
def ax_rm (d k n : Nat) : Room := { frames := d + 8, cells := k, slots := n, locals := 64 * d + 300 }
def ax_FE (st t : State) (L : List Loc) (mc ms : Nat) : Prop := st.WarmedH t.vm ∧ st.sameButNew ({ t with vm := st.vm } : State) L mc ms
def ax_M (l : Launch) (y : MethodName) (ws : List Cond) (rm : Room) (Pc : Array Value → State → Prop) (Qc : Array Value → State → Outcome → State → Prop) (mc ms : Nat) (free : Addr → Prop) : Prop :=
  MetFree l y (headSpec ws rm) Pc (fun _ _ _ _ _ => True) (fun a st o t => Qc a st o t ∧ ∃ L, ax_FE st t L mc ms ∧ ∀ q ∈ L, free q.base)
def ax_MQ (below : List Frame) (Qc : Array Value → State → Outcome → State → Prop) (a : Array Value) (s : State) (mc ms : Nat) (free : Addr → Prop) : State → Prop := fun t =>
  ∃ o, t.status = .running ∧ Ended t below o ∧ Qc a s o t ∧ ∃ L, ax_FE s t L mc ms ∧ ∀ q ∈ L, free q.base
theorem ax_toMet {l : Launch} {y : MethodName} {ws : List Cond} {rm : Room} {Pc : Array Value → State → Prop} {Qc : Array Value → State → Outcome → State → Prop} {mc ms : Nat} {free : Addr → Prop} (h : ax_M l y ws rm Pc Qc mc ms free) (hr : ∀ a st o t, Qc a st o t → ∃ v, o = .returned v) : Met l y ws rm Pc Qc mc ms free := by
  intro p e h1 h2 h3 s m args below h4 h5 h6 h7
  obtain ⟨n, o, g1, g2, g3, g4, L, g5, g6⟩ := h p e h1 h2 h3 s m args below h4 h5 h6 h7
  exact ⟨n, o, g1, g2, g3, g4, L, ⟨hr _ _ _ _ g4, g5.1, g5.2⟩, g6⟩
section AXC
variable {p : Program} {l : Launch} {e : Env} {R : Room} {s : State} {m : MethodId} {args : Array Value} {below : List Frame} {meth : Method} {c : Code} {H : Heap} {locs : List Loc} {cells slots : Nat} {Q : State → Prop}
theorem ax_Wmono {Q' : State → Prop} {g : JFrame} (h : W p l e R s m args below meth c H locs cells slots Q g) (hq : ∀ t, Q t → Q' t) : W p l e R s m args below meth c H locs cells slots Q' g := by
  intro T hT X
  obtain ⟨t, h1, h2⟩ := h T hT X
  exact ⟨t, h1, hq t h2⟩
theorem ax_MQ_of {Qc : Array Value → State → Outcome → State → Prop} {mc ms : Nat} {free : Addr → Prop} {t : State} (h : MQ below Qc args s mc ms free t) : ax_MQ below Qc args s mc ms free t := by
  obtain ⟨o, h1, h2, h3, L, h4, h5⟩ := h
  exact ⟨o, h1, h2, h3, L, ⟨h4.2.1, h4.2.2⟩, h5⟩
end AXC
theorem ax_tabof {M : Nat} {args : Array Value} {s : State} {m : MethodId} {meth : Method} {c : Code} (hn : s.methodNamed? (ax_y M) = some m) (hm : s.vm.method? m = some meth) (hc : meth.code = some c) (hw : (ax_hw M).before args s = true) : c.code = ax_cd M ∧ c.maxLocals = ax_ml M ∧ meth.sig.returnType = ax_rt M ∧ meth.locks = false ∧ c.exceptionTable.toList = tableOf (ax_hh M) := by
  unfold ax_hw at hw
  cases hh : ax_hh M with
  | nil =>
    rw [hh] at hw
    obtain ⟨meth', c', h1, h2, h3, h4, h5, h6, h7, -⟩ := Cond.code_spec hn hw
    cases hm.symm.trans h1
    cases hc.symm.trans h2
    refine ⟨h3, h4, h5, h6, ?_⟩
    have : c.exceptionTable = #[] := by simpa using h7
    rw [this]
    rfl
  | cons q r =>
    rw [hh] at hw
    obtain ⟨m9, meth', c', hn9, h1, h2, h3, h4, h5, h6, h7, -⟩ := Cond.codeWith_spec hw
    cases hn.symm.trans hn9
    cases hm.symm.trans h1
    cases hc.symm.trans h2
    refine ⟨h3, h4, h6, h7, ?_⟩
    rw [← h5]
    exact (table_eq _).symm
theorem ax_ofW {l : Launch} {M : Nat} (hpl : plainFor (ax_y M) = true) {rm : Room} {Pc : Array Value → State → Prop} {Qc : Array Value → State → Outcome → State → Prop} {mc ms : Nat} {free : Addr → Prop}
    (body : ∀ p e s m args below meth c s₁, BodyLoose p l (ax_y M) (headSpec (ax_ws M) rm) (ax_cd M) (ax_ml M) (ax_rt M) e s m args below meth c s₁ → c.maxLocals = ax_ml M → c.exceptionTable.toList = tableOf (ax_hh M) → Pc args s →
      W p l e rm s m args below meth c s.heap [] 0 0 (ax_MQ below Qc args s mc ms free) (entryFrame m args (ax_ml M))) : ax_M l (ax_y M) (ax_ws M) rm Pc Qc mc ms free := by
  refine MetFree.of_bodySF (code := ax_cd M) (maxLocals := ax_ml M) (ret := ax_rt M) hpl ?_ ?_
  · intro args s m h hn
    have hw := atoms_spec (ws := ax_ws M) h _ List.mem_cons_self
    have hw2 : (ax_hw M).before args s = true := hw
    unfold ax_hw at hw2
    have key : ∃ meth c, s.vm.method? m = some meth ∧ meth.code = some c := by
      cases hh : ax_hh M with
      | nil =>
        rw [hh] at hw2
        obtain ⟨meth', c', h1, h2, -⟩ := Cond.code_spec hn hw2
        exact ⟨meth', c', h1, h2⟩
      | cons q r =>
        rw [hh] at hw2
        obtain ⟨m9, meth', c', hn9, h1, h2, -⟩ := Cond.codeWith_spec hw2
        cases hn.symm.trans hn9
        exact ⟨meth', c', h1, h2⟩
    obtain ⟨meth, c, h1, h2⟩ := key
    obtain ⟨g1, g2, g3, g4, -⟩ := ax_tabof hn h1 h2 hw
    exact ⟨meth, c, h1, h2, g1, g2, g3, g4⟩
  · intro p e s m args below meth c s₁ B hml hP _
    have hh0 : s₁.heap = s.heap := by rw [B.state]; rfl
    have X₀ := Stand.of_body B
    have hw := atoms_spec (ws := ax_ws M) B.pre _ List.mem_cons_self
    obtain ⟨-, -, -, -, ht⟩ := ax_tabof B.named B.method X₀.code hw
    obtain ⟨t, a1, o, b1, b2, b3⟩ := body p e s m args below meth c s₁ B hml ht hP s₁ hh0 X₀
    exact ⟨t, o, a1, b1, b2, ⟨b3.1, b3.2⟩⟩
def ax_4 : List Cond := [.laysStatic "java/lang/Throwable" "UNASSIGNED_STACK" "[Ljava/lang/StackTraceElement;", .laysStatic "java/lang/Throwable" "SUPPRESSED_SENTINEL" "Ljava/util/List;", .isRef (.static "java/lang/Throwable" "UNASSIGNED_STACK" "[Ljava/lang/StackTraceElement;"), .isRef (.static "java/lang/Throwable" "SUPPRESSED_SENTINEL" "Ljava/util/List;")]
def ax_Zs (A : Nat → Prop) (U : State) (H : Heap) : Prop := ∃ (a : Nat) (cell : Cell), H[a]? = some cell ∧ ¬ A a ∧ ∀ (V : State) (args : Array Value), U.vm.Alike V.vm → V.heap[a]? = some cell → ∀ w ∈ ax_4, w.before args V = true
def ax_B (D : va_G) (ca : Nat → ClassId) (b n : Nat) (xs : Nat → Int32) (ws : va_W) (sz : Nat) (U : State) : Prop :=
  U.heap.size = sz ∧ va_P D ax_cl ws U.heap ∧ va_K D ax_cl (ax_ty ca) U ∧ va_D (fun _ => True) ws ∧ (∀ w ∈ ax_nw, va_Nw w U) ∧ va_X b n xs U U.heap ∧ b < sz ∧ ¬ va_A ws sz b ∧ ax_Zs (va_A ws sz) U U.heap
def ax_vro (L : List Nat) : Option Value → Option Value → Prop
  | none, none => True
  | some v, some w => ax_vr L v w
  | _, _ => False
def ax_en : Nat → String
  | 0 => "java/lang/IllegalArgumentException"
  | 1 => "java/lang/IllegalStateException"
  | _ => "java/util/NoSuchElementException"
def ax_out (L : List Nat) (o : ax_O) (oc : Outcome) (t : State) : Prop := match o with
  | .inl v => ∃ w, oc = .returned w ∧ ax_vro L v w
  | .inr ex => ∃ a cell, oc = .threw a ∧ t.heap[a]? = some cell ∧ cell.vm = .none ∧ t.vm.findClass (ax_en ex) = some cell.cls
def ax_Q (D : va_G) (ca : Nat → ClassId) (b n : Nat) (xs : Nat → Int32) (ws : va_W) (sz : Nat) (o : ax_O) (h' : ax_H) : Array Value → State → Outcome → State → Prop := fun _ st oc t =>
  (∃ ws', (∃ E, ax_ad b ws' = ax_ad b ws ++ E) ∧ ax_wr ca b n xs h' ws' ∧ va_P D ax_cl ws' t.heap ∧ va_D (va_A ws sz) ws' ∧ ax_out (ax_ad b ws') o oc t) ∧ va_F (va_A ws sz) st t
