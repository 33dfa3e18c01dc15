theorem ii_0 : Cond.instantiable "EqualityProver$Draft" 4 ∈ ax_gd := ax_gd_mem 52 (by decide +kernel) rfl
theorem ii_1 : Cond.instantiable "EqualityProver$InstanceList" 6 ∈ ax_gd := ax_gd_mem 89 (by decide +kernel) rfl
theorem ii_2 : Cond.instantiable "EqualityProver$Substitution" 3 ∈ ax_gd := ax_gd_mem 73 (by decide +kernel) rfl
theorem ii_3 : Cond.instantiable "EqualityProver$TermTable" 5 ∈ ax_gd := ax_gd_mem 127 (by decide +kernel) rfl
theorem ii_4 : Cond.instantiable "EqualityProver$ThingTable" 5 ∈ ax_gd := ax_gd_mem 158 (by decide +kernel) rfl
theorem ii_5 : Cond.instantiable "EqualityProver$World" 1 ∈ ax_gd := ax_gd_mem 114 (by decide +kernel) rfl
theorem ii_6 : Cond.instantiable "EqualityProver" 11 ∈ ax_gd := ax_gd_mem 44 (by decide +kernel) rfl
theorem ii_7 : Cond.instantiable "EqualityProverModel" 30 ∈ ax_gd := ax_gd_mem 607 (by decide +kernel) rfl
theorem ax_ini : ∀ q ∈ ax_cl, Cond.instantiable q.1 q.2.2 ∈ ax_gd := List.forall_mem_cons.mpr ⟨ii_0, List.forall_mem_cons.mpr ⟨ii_1, List.forall_mem_cons.mpr ⟨ii_2, List.forall_mem_cons.mpr ⟨ii_3, List.forall_mem_cons.mpr ⟨ii_4, List.forall_mem_cons.mpr ⟨ii_5, List.forall_mem_cons.mpr ⟨ii_6, List.forall_mem_cons.mpr ⟨ii_7, fun _ h => nomatch h⟩⟩⟩⟩⟩⟩⟩⟩
theorem ax_nw_of {s : State} {a : Array Value} (hts : ∀ w ∈ lw_tbl, w.before a s = true) (hn : ∀ w ∈ flatC (Jvm.Cond.and given_1 narrow_1), w.before a s = true) : ∀ w ∈ ax_nw, w.before a s = true := by
  refine List.forall_mem_cons.mpr ⟨hts _ (List.mem_of_getElem? (i := 53) (by decide +kernel)), ?_⟩
  refine List.forall_mem_cons.mpr ⟨hts _ (List.mem_of_getElem? (i := 74) (by decide +kernel)), ?_⟩
  refine List.forall_mem_cons.mpr ⟨hts _ (List.mem_of_getElem? (i := 90) (by decide +kernel)), ?_⟩
  refine List.forall_mem_cons.mpr ⟨hts _ (List.mem_of_getElem? (i := 115) (by decide +kernel)), ?_⟩
  refine List.forall_mem_cons.mpr ⟨hts _ (List.mem_of_getElem? (i := 467) (by decide +kernel)), ?_⟩
  refine List.forall_mem_cons.mpr ⟨hts _ (List.mem_of_getElem? (i := 304) (by decide +kernel)), ?_⟩
  refine List.forall_mem_cons.mpr ⟨hts _ (List.mem_of_getElem? (i := 306) (by decide +kernel)), ?_⟩
  refine List.forall_mem_cons.mpr ⟨hts _ (List.mem_of_getElem? (i := 308) (by decide +kernel)), ?_⟩
  refine List.forall_mem_cons.mpr ⟨hts _ (List.mem_of_getElem? (i := 302) (by decide +kernel)), ?_⟩
  refine List.forall_mem_cons.mpr ⟨hts _ (List.mem_of_getElem? (i := 391) (by decide +kernel)), ?_⟩
  refine List.forall_mem_cons.mpr ⟨hts _ (List.mem_of_getElem? (i := 569) (by decide +kernel)), ?_⟩
  refine List.forall_mem_cons.mpr ⟨hn _ (by decide +kernel), ?_⟩
  refine List.forall_mem_cons.mpr ⟨hn _ (by decide +kernel), ?_⟩
  refine List.forall_mem_cons.mpr ⟨hts _ (List.mem_of_getElem? (i := 341) (by decide +kernel)), ?_⟩
  refine List.forall_mem_cons.mpr ⟨hts _ (List.mem_of_getElem? (i := 374) (by decide +kernel)), ?_⟩
  refine List.forall_mem_cons.mpr ⟨hts _ (List.mem_of_getElem? (i := 398) (by decide +kernel)), ?_⟩
  refine List.forall_mem_cons.mpr ⟨hts _ (List.mem_of_getElem? (i := 416) (by decide +kernel)), ?_⟩
  refine List.forall_mem_cons.mpr ⟨hts _ (List.mem_of_getElem? (i := 531) (by decide +kernel)), ?_⟩
  refine List.forall_mem_cons.mpr ⟨hts _ (List.mem_of_getElem? (i := 539) (by decide +kernel)), ?_⟩
  refine List.forall_mem_cons.mpr ⟨hts _ (List.mem_of_getElem? (i := 547) (by decide +kernel)), ?_⟩
  refine List.forall_mem_cons.mpr ⟨hts _ (List.mem_of_getElem? (i := 558) (by decide +kernel)), ?_⟩
  refine List.forall_mem_cons.mpr ⟨hts _ (List.mem_of_getElem? (i := 576) (by decide +kernel)), ?_⟩
  refine List.forall_mem_cons.mpr ⟨hts _ (List.mem_of_getElem? (i := 602) (by decide +kernel)), ?_⟩
  exact fun w h => nomatch h
theorem ax_Zs1 {s : State} {args : Array Value} {O f d : String} (hl : (Cond.laysStatic O f d).before args s = true) (hr : (Cond.isRef (.static O f d)).before args s = true) : ∃ c k i fd a cell, s.vm.findClass O = some c ∧ s.fieldFound? O f d = some (c, k, i, fd) ∧ k.statics = some a ∧ s.heap[a]? = some cell ∧
    ∀ (V : State) (args' : Array Value), s.vm.Alike V.vm → V.heap[a]? = some cell → (Cond.laysStatic O f d).before args' V = true ∧ (Cond.isRef (.static O f d)).before args' V = true := by
  obtain ⟨c, k, i, fd, a, cell, hc, hf, hst, hsta, hcell, hiss, hcls, hlt, hty⟩ := Cond.laysStatic_spec hl
  refine ⟨c, k, i, fd, a, cell, hc, hf, hsta, hcell, fun V args' hV hVc => ?_⟩
  obtain ⟨k', hf', he⟩ := State.fieldFound?_setVm hV hf
  have hf2 : V.fieldFound? O f d = some (c, k', i, fd) := hf'
  have hc2 : V.vm.findClass O = some c := by rw [hV.findClass]; exact hc
  have hs2 : k'.statics = some a := by rw [he]; exact hsta
  have ht2 : k'.staticTypes[fd.slot]? = some fd.type := by rw [he]; exact hty
  refine ⟨by simp [Cond.before, Cond.holds, Cond.value, hc2, hf2, hst, hs2, hVc, hiss, hcls, hlt, ht2], ?_⟩
  have e1 : (Term.static O f d).eval args s none [] s = cell.slots[fd.slot]? := by simp [Term.eval, State.fieldNamed?, hf, hst, hsta, hcell, hiss]
  have e2 : (Term.static O f d).eval args' V none [] V = cell.slots[fd.slot]? := by simp [Term.eval, State.fieldNamed?, hf2, hst, hs2, hVc, hiss]
  simp only [Cond.before, Cond.holds, Cond.value, e1] at hr
  simp only [Cond.before, Cond.holds, Cond.value, e2]
  exact hr
theorem ax_Zs_of {s : State} {a0 : Array Value} {A : Nat → Prop} (hA : ∀ q, q < s.heap.size → ¬ A q) (hts : ∀ w ∈ lw_tbl, w.before a0 s = true) (hn : ∀ w ∈ flatC (Jvm.Cond.and given_1 narrow_1), w.before a0 s = true) : ax_Zs A s s.heap := by
  obtain ⟨c, k, i, fd, a, cell, z1, z2, z3, z4, z5⟩ := ax_Zs1 (hts (.laysStatic "java/lang/Throwable" "UNASSIGNED_STACK" "[Ljava/lang/StackTraceElement;") (List.mem_of_getElem? (i := 327) (by decide +kernel))) (hn _ (by decide +kernel))
  obtain ⟨c', k', i', fd', a', cell', y1, y2, y3, y4, y5⟩ := ax_Zs1 (hts (.laysStatic "java/lang/Throwable" "SUPPRESSED_SENTINEL" "Ljava/util/List;") (List.mem_of_getElem? (i := 329) (by decide +kernel))) (hn _ (by decide +kernel))
  have ec : c' = c := Option.some.inj (y1.symm.trans z1)
  subst ec
  have ek : k' = k := Option.some.inj ((State.fieldFound?_spec y2).1.symm.trans (State.fieldFound?_spec z2).1)
  subst ek
  have ea : a' = a := Option.some.inj (y3.symm.trans z3)
  subst ea
  have ee : cell' = cell := Option.some.inj (y4.symm.trans z4)
  subst ee
  refine ⟨a', cell', z4, hA _ (Array.getElem?_eq_some_iff.mp z4).1, fun V args' hV hVc => ?_⟩
  obtain ⟨r1, r2⟩ := z5 V args' hV hVc
  obtain ⟨r3, r4⟩ := y5 V args' hV hVc
  exact List.forall_mem_cons.mpr ⟨r1, List.forall_mem_cons.mpr ⟨r3, List.forall_mem_cons.mpr ⟨r2, List.forall_mem_cons.mpr ⟨r4, fun _ h => nomatch h⟩⟩⟩⟩
theorem ax_arrk {s : State} {args : Array Value} {ty : FieldType} (h : (Cond.arrayClass ty).before args s = true) : ∃ cA, ArrOfT s cA ty ∧ s.vm.findClass ("[" ++ ty.toString) = some cA := by
  obtain ⟨cA, k, comp, h1, h2, h3⟩ := Cond.arrayClass_spec h
  exact ⟨cA, fun n z => ⟨fun k h => (by cases h), k, h2, comp, h3⟩, h1⟩
theorem ax_K_of {s : State} {args : Array Value} (hts : ∀ w ∈ ax_gd, w.before args s = true) : ∃ D ca, va_K D ax_cl (ax_ty ca) s := by
  have h : ∀ c : Nat, ∃ d : ClassId × (Nat → Nat), ∀ q, ax_cl[c]? = some q → u_Kn s q.1 q.2.1 q.2.2 d.1 d.2 := by
    intro c
    cases hq : ax_cl[c]? with
    | none => exact ⟨(0, fun _ => 0), fun q h => by cases h⟩
    | some q =>
      obtain ⟨cC, iS, hK⟩ := u_known (C := q.1) (T := q.2.1) (N := q.2.2) hts (ax_clo q (List.mem_of_getElem? hq)).1 (hts _ (ax_ini q (List.mem_of_getElem? hq)))
      exact ⟨(cC, iS), fun q' h => by cases h; exact hK⟩
  obtain ⟨c0, a0, n0⟩ := ax_arrk (hts _ ax_w_int)
  obtain ⟨c1, a1, n1⟩ := ax_arrk (hts _ ax_w_bool)
  obtain ⟨c2, a2, n2⟩ := ax_arrk (hts _ ax_w_long)
  refine ⟨(fun c => (Classical.choose (h c)).1, fun c => (Classical.choose (h c)).2), fun k => match k with | 0 => c0 | 1 => c1 | _ => c2, fun c q hq => Classical.choose_spec (h c) q hq, fun k q hk => ?_⟩
  match k, hk with
  | 0, hk => cases hk; exact ⟨a0, n0⟩
  | 1, hk => cases hk; exact ⟨a1, n1⟩
  | 2, hk => cases hk; exact ⟨a2, n2⟩
  | _ + 3, hk => cases hk
def ax_Law : Prop := ∀ (L : Nat) (xs : Nat → Int32), L ≤ 2049 → ax_R 1000 108 0 (ax_in 108 [.ref 0]) [] [.inl (3, L, .inl xs)] 0 0 (fun o _ k s => o = .inl (some (.int 1)) ∧ k ≤ 601024 ∧ s ≤ 7292999)
theorem ax_start (hlaw : ax_Law) {l : Launch} (htr : ∀ e : Env, l.admits e → e.platform.stackTraces = false) {p : Program} {e : Env} (he : l.admits e) {s : State} {m : MethodId} {below : List Frame} {meth : Method} {c : Code} {b L : Nat} {xs : Nat → Int32} (hL : L ≤ 2049) (C0 : lw_At p s m meth c b L xs) (htab : c.exceptionTable.toList = []) : W p l e room_1 s m #[Value.ref b] below meth c s.heap [] 0 0 (lw_Z below #[Value.ref b] s) (entryFrame m ([Value.ref b] : List Value).toArray 7) := by
  obtain ⟨hx, hb, hr, hml, hown, hts, hXs, hbl, hlk, hgv⟩ := C0
  have hn := flat_of_before _ hgv
  have hgd : ∀ w ∈ ax_gd, w.before #[Value.ref b] s = true := fun w hw => hts w (List.mem_filter.mp hw).1
  obtain ⟨D, ca, hK⟩ := ax_K_of hgd
  have hnw : ∀ w ∈ ax_nw, va_Nw w s := fun w hw => ax_vmonly (U := s) hw (ax_nw_of hts hn w hw)
  have hA : ∀ q, q < s.heap.size → ¬ va_A [] s.heap.size q := fun q hq h => by
    rcases h with ⟨k, ee, h⟩ | h
    · simp at h
    · omega
  obtain ⟨n, o, h', k1, s1, hrun, ho, hk1, hs1⟩ := hlaw L xs hL
  subst ho
  obtain ⟨ls, hef, hls⟩ := ax_entry (L := ax_ad b []) (M := 108) (m := m) (as := [.ref 0]) (avc := [.ref b]) rfl ⟨⟨b, rfl, rfl⟩, trivial⟩ (by decide)
  have hX : ax_X 108 p s m #[Value.ref b] meth c D ca b L xs := ⟨hx, hb, hml, hr, hlk, hown, hgd, (fun h => by cases h), hK, hnw, hXs, hbl⟩
  have hJ : ax_J 108 D ca b L xs (va_A [] s.heap.size) s (ax_in 108 [.ref 0]) [] [.inl (3, L, .inl xs)] [] s.heap [] ls [] := by
    refine ⟨⟨rfl, rfl, fun i e1 q _ hq => by simp at hq⟩, fun k q hq => by simp at hq, ⟨fun i j p q hp _ _ => by simp at hp, fun k q hq => by simp at hq⟩, va_S.rf, hls, trivial⟩
  have hw := ax_sound htr n 1000 108 0 _ _ _ 0 0 _ h' k1 s1 hrun (R := room_1) (e := e) (below := below) (cells := 0) (slots := 0) (ke := 0) (se := 0) (mc := k1) (ms := s1) hX htab (ax_Zs_of hA hts hn) (hA b hbl) hJ ⟨[], by simp⟩ rfl rfl (Nat.zero_add _) (Nat.zero_add _) hk1 hs1 (Nat.le_refl _) (by decide) (by decide) (htr e he)
  have hef2 : entryFrame m ([Value.ref b] : List Value).toArray 7 = F0 m 0 ls [] := hef
  rw [hef2]
  refine ax_Wmono hw (fun t ht => ?_)
  obtain ⟨o, h1, h2, ⟨⟨ws', -, -, -, -, w, rfl, hv⟩, -⟩, Ls, ⟨hW, hsame⟩, hLs⟩ := ht
  cases w with
  | none => exact (hv : False).elim
  | some w =>
    have hv : w = .int 1 := hv
    subst hv
    refine ⟨_, h1, h2, rfl, ⟨_, rfl⟩, hW, hsame.weaken (fun y hy hlt => ?_) hk1 hs1⟩
    exact absurd (hLs y hy) (hA _ hlt)
