def ax_ty (ca : Nat → ClassId) : List (ClassId × FieldType) := [(ca 0, .int), (ca 1, .boolean), (ca 2, .long)]
def ax_X (M : Nat) (p : Program) (s : State) (m : MethodId) (args : Array Value) (meth : Method) (c : Code) (D : va_G) (ca : Nat → ClassId) (b n : Nat) (xs : Nat → Int32) : Prop :=
  p.tables.exec = Jvm.exec ∧ c.code = ax_cd M ∧ c.maxLocals = ax_ml M ∧ meth.sig.returnType = ax_rt M ∧ meth.locks = false ∧ s.vm.findClass (ax_ow M) = some m.cls ∧ (∀ w ∈ ax_gd, w.before args s = true) ∧ (ax_ct M = true → meth.name = "<init>") ∧ va_K D ax_cl (ax_ty ca) s ∧ (∀ w ∈ ax_nw, va_Nw w s) ∧ va_X b n xs s s.heap ∧ b < s.heap.size
def ax_J (M : Nat) (D : va_G) (ca : Nat → ClassId) (b n : Nat) (xs : Nat → Int32) (A : Nat → Prop) (s : State) (al st : List Value) (h : ax_H) (ws : va_W) (H : Heap) (locs : List Loc) (ls : Array Slot) (stc : List Value) : Prop :=
  ax_wr ca b n xs h ws ∧ va_P D ax_cl ws H ∧ va_D A ws ∧ va_S A s.heap H locs ∧ ax_lr (ax_ad b ws) (ax_ml M) al ls ∧ ax_vrs (ax_ad b ws) st stc
section AXS
variable {p : Program} {l : Launch} {e : Env} {R : Room} {s : State} {m : MethodId} {args : Array Value} {below : List Frame} {meth : Method} {c : Code} {H : Heap} {locs : List Loc} {cells slots : Nat} {Q : State → Prop}
variable {M : Nat} {D : va_G} {ca : Nat → ClassId} {b n : Nat} {xs : Nat → Int32} {A : Nat → Prop} {ws : va_W} {h : ax_H} {al st stc : List Value} {ls : Array Slot} {pc : Nat}
def ax_K0 (p : Program) (l : Launch) (e : Env) (R : Room) (s : State) (m : MethodId) (args : Array Value) (below : List Frame) (meth : Method) (c : Code) (cells slots : Nat) (Q : State → Prop) (M : Nat) (D : va_G) (ca : Nat → ClassId) (b n : Nat) (xs : Nat → Int32) (A : Nat → Prop) (ws : va_W) (pc' : Nat) (al' st' : List Value) (h' : ax_H) (k' s' : Nat) : Prop :=
  ∀ (ws' : va_W) (H' : Heap) (locs' : List Loc) (ls' : Array Slot) (stc' : List Value), ax_J M D ca b n xs A s al' st' h' ws' H' locs' ls' stc' → (∃ E, ax_ad b ws' = ax_ad b ws ++ E) → W p l e R s m args below meth c H' locs' (cells + k') (slots + s') Q (F0 m pc' ls' stc')
theorem ax_go_inj {pc1 pc2 : Nat} {a1 a2 t1 t2 : List Value} {h1 h2 : ax_H} {k2 s2 : Nat} (e : ax_go pc1 a1 t1 h1 = some (.inl (pc2, a2, t2, h2, k2, s2))) : pc1 = pc2 ∧ a1 = a2 ∧ t1 = t2 ∧ h1 = h2 ∧ k2 = 0 ∧ s2 = 0 := by
  unfold ax_go at e
  cases e
  exact ⟨rfl, rfl, rfl, rfl, rfl, rfl⟩
theorem ax_tg_ok {pc : Nat} {off : Int} (h : 0 ≤ (pc : Int) + off) : (pc : Int) + off = ((ax_tg pc off : Nat) : Int) := by
  unfold ax_tg
  rw [Int.toNat_of_nonneg h]
theorem ax_s_fr {pc' : Nat} {al' st' : List Value} (hJ : ax_J M D ca b n xs A s al st h ws H locs ls stc) (kk : ax_K0 p l e R s m args below meth c cells slots Q M D ca b n xs A ws pc' al' st' h 0 0) {ls' : Array Slot} {stc' : List Value} (hl : ax_lr (ax_ad b ws) (ax_ml M) al' ls') (hv : ax_vrs (ax_ad b ws) st' stc') : W p l e R s m args below meth c H locs cells slots Q (F0 m pc' ls' stc') :=
  kk ws H locs ls' stc' ⟨hJ.1, hJ.2.1, hJ.2.2.1, hJ.2.2.2.1, hl, hv⟩ ⟨[], by simp⟩
theorem ax_s_push (hJ : ax_J M D ca b n xs A s al st h ws H locs ls stc) {v : Value} {pc1 pc' k' s' : Nat} {al' st' : List Value} {h' : ax_H} (hv : ax_vr (ax_ad b ws) v v) (hs : ax_go pc1 al (v :: st) h = some (.inl (pc', al', st', h', k', s')))
    (row : W p l e R s m args below meth c H locs cells slots Q (F0 m pc1 ls (v :: stc)) → W p l e R s m args below meth c H locs cells slots Q (F0 m pc ls stc))
    (kk : ax_K0 p l e R s m args below meth c cells slots Q M D ca b n xs A ws pc' al' st' h' k' s') : W p l e R s m args below meth c H locs cells slots Q (F0 m pc ls stc) := by
  obtain ⟨rfl, rfl, rfl, rfl, rfl, rfl⟩ := ax_go_inj hs
  exact row (ax_s_fr hJ kk hJ.2.2.2.2.1 ⟨hv, hJ.2.2.2.2.2⟩)
theorem ax_s_iload (hJ : ax_J M D ca b n xs A s al st h ws H locs ls stc) {k pc1 pc' k' s' : Nat} {al' st' : List Value} {h' : ax_H} (hs : ax_psh pc1 al st h (ax_ldi al k) = some (.inl (pc', al', st', h', k', s')))
    (row : ∀ {y : Int32}, ls[k]? = some (.val (.int y)) → W p l e R s m args below meth c H locs cells slots Q (F0 m pc1 ls (.int y :: stc)) → W p l e R s m args below meth c H locs cells slots Q (F0 m pc ls stc))
    (kk : ax_K0 p l e R s m args below meth c cells slots Q M D ca b n xs A ws pc' al' st' h' k' s') : W p l e R s m args below meth c H locs cells slots Q (F0 m pc ls stc) := by
  cases hg : al[k]? with
  | none => unfold ax_ldi at hs; rw [hg] at hs; cases hs
  | some w =>
    cases w with
    | int x =>
      have e1 : ax_ldi al k = some (.int x) := by unfold ax_ldi; rw [hg]
      rw [e1] at hs
      exact ax_s_push (v := .int x) hJ rfl hs (row (ax_lr_int hJ.2.2.2.2.1 hg)) kk
    | ref o => unfold ax_ldi at hs; rw [hg] at hs; cases hs
    | null => unfold ax_ldi at hs; rw [hg] at hs; cases hs
    | long x => unfold ax_ldi at hs; rw [hg] at hs; cases hs
    | float x => unfold ax_ldi at hs; rw [hg] at hs; cases hs
    | double x => unfold ax_ldi at hs; rw [hg] at hs; cases hs
    | retAddr x => unfold ax_ldi at hs; rw [hg] at hs; cases hs
theorem ax_s_aload (hJ : ax_J M D ca b n xs A s al st h ws H locs ls stc) {k pc1 pc' k' s' : Nat} {al' st' : List Value} {h' : ax_H} (hs : ax_psh pc1 al st h (ax_lda al k) = some (.inl (pc', al', st', h', k', s')))
    (row : ∀ {y : Nat}, ls[k]? = some (.val (.ref y)) → W p l e R s m args below meth c H locs cells slots Q (F0 m pc1 ls (.ref y :: stc)) → W p l e R s m args below meth c H locs cells slots Q (F0 m pc ls stc))
    (rowN : ls[k]? = some (.val .null) → W p l e R s m args below meth c H locs cells slots Q (F0 m pc1 ls (.null :: stc)) → W p l e R s m args below meth c H locs cells slots Q (F0 m pc ls stc))
    (kk : ax_K0 p l e R s m args below meth c cells slots Q M D ca b n xs A ws pc' al' st' h' k' s') : W p l e R s m args below meth c H locs cells slots Q (F0 m pc ls stc) := by
  cases hg : al[k]? with
  | none => unfold ax_lda at hs; rw [hg] at hs; cases hs
  | some w =>
    cases w with
    | ref o =>
      have e1 : ax_lda al k = some (.ref o) := by unfold ax_lda; rw [hg]
      rw [e1] at hs
      obtain ⟨a, g1, g2⟩ := ax_lr_ref hJ.2.2.2.2.1 hg
      obtain ⟨rfl, rfl, rfl, rfl, rfl, rfl⟩ := ax_go_inj hs
      exact row g2 (ax_s_fr hJ kk hJ.2.2.2.2.1 ⟨⟨a, g1, rfl⟩, hJ.2.2.2.2.2⟩)
    | null =>
      have e1 : ax_lda al k = some .null := by unfold ax_lda; rw [hg]
      rw [e1] at hs
      obtain ⟨rfl, rfl, rfl, rfl, rfl, rfl⟩ := ax_go_inj hs
      rcases ax_lr_null hJ.2.2.2.2.1 hg with g | ⟨a, g⟩
      · exact rowN g (ax_s_fr hJ kk hJ.2.2.2.2.1 ⟨Or.inl rfl, hJ.2.2.2.2.2⟩)
      · exact row g (ax_s_fr hJ kk hJ.2.2.2.2.1 ⟨Or.inr ⟨a, rfl⟩, hJ.2.2.2.2.2⟩)
    | int x => unfold ax_lda at hs; rw [hg] at hs; cases hs
    | long x => unfold ax_lda at hs; rw [hg] at hs; cases hs
    | float x => unfold ax_lda at hs; rw [hg] at hs; cases hs
    | double x => unfold ax_lda at hs; rw [hg] at hs; cases hs
    | retAddr x => unfold ax_lda at hs; rw [hg] at hs; cases hs
theorem ax_sto_inj {pc1 pc2 k : Nat} {a1 a2 t1 t2 : List Value} {h1 h2 : ax_H} {k2 s2 : Nat} {v : Value} (e : ax_sto pc1 a1 t1 h1 k v = some (.inl (pc2, a2, t2, h2, k2, s2))) : k < a1.length ∧ pc1 = pc2 ∧ a1.set k v = a2 ∧ t1 = t2 ∧ h1 = h2 ∧ k2 = 0 ∧ s2 = 0 := by
  unfold ax_sto at e
  cases hg : a1[k]? with
  | none => rw [hg] at e; cases e
  | some w =>
    rw [hg] at e
    exact ⟨(List.getElem?_eq_some_iff.mp hg).1, ax_go_inj e⟩
theorem ax_s_store {k pc1 pc' k' s' : Nat} {al' st' q : List Value} {h' : ax_H} {v w : Value} (hJ : ax_J M D ca b n xs A s al (v :: st) h ws H locs ls (w :: q)) (hc : v.category = 1) (hs : ax_sto pc1 al st h k v = some (.inl (pc', al', st', h', k', s')))
    (row : ∀ {lv lv' : List (Nat × Value)}, lv_has ls (ax_ml M) lv → k < ax_ml M → (k, w) :: lv.filter (fun q => !(q.1 == k) && !(q.1 + 1 == k && q.2.category == 2)) = lv' → (∀ ls' : Array Slot, lv_has ls' (ax_ml M) lv' → W p l e R s m args below meth c H locs cells slots Q (F0 m pc1 ls' q)) → W p l e R s m args below meth c H locs cells slots Q (F0 m pc ls (w :: q)))
    (kk : ax_K0 p l e R s m args below meth c cells slots Q M D ca b n xs A ws pc' al' st' h' k' s') : W p l e R s m args below meth c H locs cells slots Q (F0 m pc ls (w :: q)) := by
  obtain ⟨hk, rfl, rfl, rfl, rfl, rfl, rfl⟩ := ax_sto_inj hs
  obtain ⟨h1, h2, h3, h4, h5, h6, h7⟩ := hJ
  exact row (ax_lv_has h5) (by rw [← h5.2.1]; exact hk) rfl fun ls' hl' => kk ws H locs ls' q ⟨h1, h2, h3, h4, ax_lr_set h5 h6 hc hl', h7⟩ ⟨[], by simp⟩
theorem ax_s_istore {k pc1 pc' k' s' : Nat} {al' st' : List Value} {h' : ax_H} (hJ : ax_J M D ca b n xs A s al st h ws H locs ls stc) (hs : ax_st1 pc1 al st h k true = some (.inl (pc', al', st', h', k', s')))
    (row : ∀ {x : Int32} {q : List Value} {lv lv' : List (Nat × Value)}, lv_has ls (ax_ml M) lv → k < ax_ml M → (k, Value.int x) :: lv.filter (fun q => !(q.1 == k) && !(q.1 + 1 == k && q.2.category == 2)) = lv' → (∀ ls' : Array Slot, lv_has ls' (ax_ml M) lv' → W p l e R s m args below meth c H locs cells slots Q (F0 m pc1 ls' q)) → W p l e R s m args below meth c H locs cells slots Q (F0 m pc ls (.int x :: q)))
    (kk : ax_K0 p l e R s m args below meth c cells slots Q M D ca b n xs A ws pc' al' st' h' k' s') : W p l e R s m args below meth c H locs cells slots Q (F0 m pc ls stc) := by
  unfold ax_st1 at hs
  split at hs
  · rename_i x r
    have h6 := hJ.2.2.2.2.2
    obtain ⟨q, rfl, h6⟩ := ax_vrs_int h6
    exact ax_s_store hJ rfl hs row kk
  · rename_i heq; cases heq
  · rename_i heq; cases heq
  · cases hs
theorem ax_s_astore {k pc1 pc' k' s' : Nat} {al' st' : List Value} {h' : ax_H} (hJ : ax_J M D ca b n xs A s al st h ws H locs ls stc) (hs : ax_st1 pc1 al st h k false = some (.inl (pc', al', st', h', k', s')))
    (row : ∀ {x : Nat} {q : List Value} {lv lv' : List (Nat × Value)}, lv_has ls (ax_ml M) lv → k < ax_ml M → (k, Value.ref x) :: lv.filter (fun q => !(q.1 == k) && !(q.1 + 1 == k && q.2.category == 2)) = lv' → (∀ ls' : Array Slot, lv_has ls' (ax_ml M) lv' → W p l e R s m args below meth c H locs cells slots Q (F0 m pc1 ls' q)) → W p l e R s m args below meth c H locs cells slots Q (F0 m pc ls (.ref x :: q)))
    (rowN : ∀ {q : List Value} {lv lv' : List (Nat × Value)}, lv_has ls (ax_ml M) lv → k < ax_ml M → (k, Value.null) :: lv.filter (fun q => !(q.1 == k) && !(q.1 + 1 == k && q.2.category == 2)) = lv' → (∀ ls' : Array Slot, lv_has ls' (ax_ml M) lv' → W p l e R s m args below meth c H locs cells slots Q (F0 m pc1 ls' q)) → W p l e R s m args below meth c H locs cells slots Q (F0 m pc ls (.null :: q)))
    (kk : ax_K0 p l e R s m args below meth c cells slots Q M D ca b n xs A ws pc' al' st' h' k' s') : W p l e R s m args below meth c H locs cells slots Q (F0 m pc ls stc) := by
  unfold ax_st1 at hs
  split at hs
  · rename_i heq; cases heq
  · rename_i x r
    obtain ⟨a, q, rfl, -, -⟩ := ax_vrs_ref hJ.2.2.2.2.2
    exact ax_s_store hJ rfl hs row kk
  · rename_i r
    obtain ⟨w, q, rfl, h1, -⟩ := ax_vrs_cons hJ.2.2.2.2.2
    rcases (h1 : w = .null ∨ ∃ a, w = .ref a) with rfl | ⟨a, rfl⟩
    · exact ax_s_store hJ rfl hs rowN kk
    · exact ax_s_store hJ rfl hs row kk
  · cases hs
theorem ax_s_bin (hJ : ax_J M D ca b n xs A s al st h ws H locs ls stc) {f : Int32 → Int32 → Int32} {pc1 pc' k' s' : Nat} {al' st' : List Value} {h' : ax_H} (hs : ax_bin pc1 al st h f = some (.inl (pc', al', st', h', k', s')))
    (row : ∀ {x y : Int32} {q : List Value}, W p l e R s m args below meth c H locs cells slots Q (F0 m pc1 ls (.int (f x y) :: q)) → W p l e R s m args below meth c H locs cells slots Q (F0 m pc ls (.int y :: .int x :: q)))
    (kk : ax_K0 p l e R s m args below meth c cells slots Q M D ca b n xs A ws pc' al' st' h' k' s') : W p l e R s m args below meth c H locs cells slots Q (F0 m pc ls stc) := by
  unfold ax_bin at hs
  split at hs
  · rename_i y x r
    obtain ⟨rfl, rfl, rfl, rfl, rfl, rfl⟩ := ax_go_inj hs
    obtain ⟨q1, rfl, h6⟩ := ax_vrs_int hJ.2.2.2.2.2
    obtain ⟨q2, rfl, h7⟩ := ax_vrs_int h6
    exact row (ax_s_fr hJ kk hJ.2.2.2.2.1 ⟨rfl, h7⟩)
  · cases hs
theorem ax_s_stk (hJ : ax_J M D ca b n xs A s al st h ws H locs ls stc) {i : Instr} {pc1 pc' k' s' : Nat} {al' st' : List Value} {h' : ax_H} (hs : (match ax_stk i st with | some st1 => ax_go pc1 al st1 h | none => none) = some (.inl (pc', al', st', h', k', s')))
    (row : ∀ st1, ax_stk i st = some st1 → ∃ stc1, ax_vrs (ax_ad b ws) st1 stc1 ∧ (W p l e R s m args below meth c H locs cells slots Q (F0 m pc1 ls stc1) → W p l e R s m args below meth c H locs cells slots Q (F0 m pc ls stc)))
    (kk : ax_K0 p l e R s m args below meth c cells slots Q M D ca b n xs A ws pc' al' st' h' k' s') : W p l e R s m args below meth c H locs cells slots Q (F0 m pc ls stc) := by
  cases hk : ax_stk i st with
  | none => rw [hk] at hs; cases hs
  | some st1 =>
    rw [hk] at hs
    obtain ⟨rfl, rfl, rfl, rfl, rfl, rfl⟩ := ax_go_inj hs
    obtain ⟨stc1, h1, h2⟩ := row st1 hk
    exact h2 (ax_s_fr hJ kk hJ.2.2.2.2.1 h1)
theorem ax_c1_cat {L : List Nat} {v w : Value} (hc : ax_c1 v = true) (h : ax_vr L v w) : w.category = 1 := by
  rw [ax_vr_cat h]
  cases v <;> first | rfl | cases hc
theorem ax_s_if (hJ : ax_J M D ca b n xs A s al st h ws H locs ls stc) {r q : List Value} (hq : ax_vrs (ax_ad b ws) r q) {P : Prop} {dc : Decidable P} {t1 t2 pc' k' s' : Nat} {al' st' : List Value} {h' : ax_H} (hs : @ite _ P dc (ax_go t1 al r h) (ax_go t2 al r h) = some (.inl (pc', al', st', h', k', s')))
    (row : (P → W p l e R s m args below meth c H locs cells slots Q (F0 m t1 ls q)) → (¬ P → W p l e R s m args below meth c H locs cells slots Q (F0 m t2 ls q)) → W p l e R s m args below meth c H locs cells slots Q (F0 m pc ls stc))
    (kk : ax_K0 p l e R s m args below meth c cells slots Q M D ca b n xs A ws pc' al' st' h' k' s') : W p l e R s m args below meth c H locs cells slots Q (F0 m pc ls stc) := by
  by_cases hP : P
  · rw [if_pos hP] at hs
    obtain ⟨rfl, rfl, rfl, rfl, rfl, rfl⟩ := ax_go_inj hs
    exact row (fun _ => ax_s_fr hJ kk hJ.2.2.2.2.1 hq) (fun hn => absurd hP hn)
  · rw [if_neg hP] at hs
    obtain ⟨rfl, rfl, rfl, rfl, rfl, rfl⟩ := ax_go_inj hs
    exact row (fun hy => absurd hy hP) (fun _ => ax_s_fr hJ kk hJ.2.2.2.2.1 hq)
theorem ax_psh_inj {pc1 : Nat} {al0 st0 : List Value} {h0 : ax_H} {v : Option Value} {w : ax_N} (e : ax_psh pc1 al0 st0 h0 v = some (.inl w)) : ∃ x, v = some x ∧ w = (pc1, al0, x :: st0, h0, 0, 0) := by
  cases v with
  | none => cases e
  | some x => cases e; exact ⟨x, rfl, rfl⟩
theorem ax_upd_inj {pc1 o : Nat} {al0 st0 : List Value} {h0 : ax_H} {v : Option va_E} {w : ax_N} (e : ax_upd pc1 al0 st0 h0 o v = some (.inl w)) : ∃ x, v = some x ∧ w = (pc1, al0, st0, h0.set o x, 0, 0) := by
  cases v with
  | none => cases e
  | some x => cases e; exact ⟨x, rfl, rfl⟩
theorem ax_ald_spec {w : Nat} {x : Option va_E} {j : Int32} {v : Value} (e : ax_ald w x j = some v) : (∃ (N : Nat) (f : Nat → Int32), x = some (.inl (0, N, .inl f)) ∧ w = 0 ∧ vp_in j N ∧ v = .int (f j.toNatClampNeg)) ∨ (∃ (N : Nat) (f : Nat → Int32), x = some (.inl (3, N, .inl f)) ∧ w = 0 ∧ vp_in j N ∧ v = .int (f j.toNatClampNeg)) ∨ (∃ (N : Nat) (f : Nat → Int32), x = some (.inl (1, N, .inl f)) ∧ w = 1 ∧ vp_in j N ∧ v = .int (f j.toNatClampNeg)) ∨ (∃ (N : Nat) (f : Nat → Int64), x = some (.inl (2, N, .inr (.inl f))) ∧ w = 2 ∧ vp_in j N ∧ v = .long (f j.toNatClampNeg)) := by
  unfold ax_ald at e
  split at e
  · rename_i N f
    by_cases hc : j < 0 ∨ N ≤ j.toNatClampNeg
    · rw [if_pos hc] at e; cases e
    · rw [if_neg hc] at e; cases e; exact Or.inl ⟨N, f, rfl, rfl, hc, rfl⟩
  · rename_i N f
    by_cases hc : j < 0 ∨ N ≤ j.toNatClampNeg
    · rw [if_pos hc] at e; cases e
    · rw [if_neg hc] at e; cases e; exact Or.inr (Or.inl ⟨N, f, rfl, rfl, hc, rfl⟩)
  · rename_i N f
    by_cases hc : j < 0 ∨ N ≤ j.toNatClampNeg
    · rw [if_pos hc] at e; cases e
    · rw [if_neg hc] at e; cases e; exact Or.inr (Or.inr (Or.inl ⟨N, f, rfl, rfl, hc, rfl⟩))
  · rename_i N f
    by_cases hc : j < 0 ∨ N ≤ j.toNatClampNeg
    · rw [if_pos hc] at e; cases e
    · rw [if_neg hc] at e; cases e; exact Or.inr (Or.inr (Or.inr ⟨N, f, rfl, rfl, hc, rfl⟩))
  · cases e
theorem ax_ast_spec {w : Nat} {x : Option va_E} {j : Int32} {v : Value} {x' : va_E} (e : ax_ast w x j v = some x') : (∃ (N : Nat) (f : Nat → Int32) (y : Int32), x = some (.inl (0, N, .inl f)) ∧ w = 0 ∧ vp_in j N ∧ v = .int y ∧ x' = .inl (0, N, .inl (upd f j.toNatClampNeg y))) ∨ (∃ (N : Nat) (f : Nat → Int32) (y : Int32), x = some (.inl (1, N, .inl f)) ∧ w = 1 ∧ vp_in j N ∧ (y = 0 ∨ y = 1) ∧ v = .int y ∧ x' = .inl (1, N, .inl (upd f j.toNatClampNeg y))) ∨ (∃ (N : Nat) (f : Nat → Int64) (y : Int64), x = some (.inl (2, N, .inr (.inl f))) ∧ w = 2 ∧ vp_in j N ∧ v = .long y ∧ x' = .inl (2, N, .inr (.inl (vp_updL f j.toNatClampNeg y)))) := by
  unfold ax_ast at e
  split at e
  · rename_i N f y
    by_cases hc : j < 0 ∨ N ≤ j.toNatClampNeg
    · rw [if_pos hc] at e; cases e
    · rw [if_neg hc] at e; cases e; exact Or.inl ⟨N, f, y, rfl, rfl, hc, rfl, rfl⟩
  · rename_i N f y
    by_cases hc : j < 0 ∨ N ≤ j.toNatClampNeg
    · rw [if_pos hc] at e; cases e
    · rw [if_neg hc] at e
      by_cases hy : y = 0 ∨ y = 1
      · rw [if_pos hy] at e; cases e; exact Or.inr (Or.inl ⟨N, f, y, rfl, rfl, hc, hy, rfl, rfl⟩)
      · rw [if_neg hy] at e; cases e
  · rename_i N f y
    by_cases hc : j < 0 ∨ N ≤ j.toNatClampNeg
    · rw [if_pos hc] at e; cases e
    · rw [if_neg hc] at e; cases e; exact Or.inr (Or.inr ⟨N, f, y, rfl, rfl, hc, rfl, rfl⟩)
  · cases e
theorem ax_gfd_spec {ix : Nat} {x : Option va_E} {v : Value} (e : ax_gfd M ix x = some v) : ∃ (ci : Nat) (fs : List Value) (q : Nat × Nat × Bool), x = some (.inr (ci, fs)) ∧ ax_fld M ix ci = some q ∧ fs[q.1]? = some v := by
  unfold ax_gfd at e
  split at e
  · rename_i ci fs
    cases hf : ax_fld M ix ci with
    | none => rw [hf] at e; cases e
    | some q => rw [hf] at e; exact ⟨ci, fs, q, rfl, hf, e⟩
  · cases e
theorem ax_pfd_spec {ix : Nat} {x : Option va_E} {v : Value} {x' : va_E} (e : ax_pfd M ix x v = some x') : ∃ (ci : Nat) (fs : List Value) (k ty : Nat) (fin : Bool), x = some (.inr (ci, fs)) ∧ ax_fld M ix ci = some (k, ty, fin) ∧ (fin = true → ax_ct M = true) ∧ ax_fit ty v = some () ∧ k < fs.length ∧ x' = .inr (ci, fs.set k v) := by
  unfold ax_pfd at e
  split at e
  · rename_i ci fs
    cases hf : ax_fld M ix ci with
    | none => rw [hf] at e; cases e
    | some q =>
      obtain ⟨k, ty, fin⟩ := q
      rw [hf] at e
      dsimp only at e
      cases hb : fin && !(ax_ct M) with
      | true => rw [hb] at e; cases e
      | false =>
        rw [hb] at e
        dsimp only at e
        cases ht : ax_fit ty v with
        | none => rw [ht] at e; cases e
        | some u =>
          rw [ht] at e
          dsimp only at e
          cases hk : fs[k]? with
          | none => rw [hk] at e; cases e
          | some w =>
            rw [hk] at e
            cases e
            refine ⟨ci, fs, k, ty, fin, rfl, hf, fun h1 => ?_, ht, (List.getElem?_eq_some_iff.mp hk).1, rfl⟩
            rw [h1] at hb
            cases hct : ax_ct M with
            | true => rfl
            | false => rw [hct] at hb; cases hb
  · cases e
theorem ax_tk_spec {ty : Nat} {d : String} {v w : Value} {L : List Nat} (ht : ax_tk ty d = true) (hf : ax_fit ty v = some ()) (hv : ax_vr L v w) : ∃ t, parseFieldDescriptor d = some t ∧ narrow t w = w ∧ fits t w = true := by
  unfold ax_tk at ht
  unfold ax_fit at hf
  split at ht
  · rename_i h1
    split at hf
    · have hv := (hv : w = _); subst hv; exact ⟨_, h1, rfl, rfl⟩
    · rename_i h2; cases h2
    · rename_i h2; cases h2
    · cases hf
  · rename_i h1
    split at hf
    · rename_i h2; cases h2
    · rename_i x hq
      have hv := (hv : w = _); subst hv
      by_cases hx : x = 0 ∨ x = 1
      · rcases hx with rfl | rfl
        · exact ⟨_, h1, rfl, rfl⟩
        · exact ⟨_, h1, rfl, rfl⟩
      · rw [if_neg hx] at hf; cases hf
    · rename_i h2; cases h2
    · cases hf
  · rename_i h1
    split at hf
    · rename_i h2; cases h2
    · rename_i h2; cases h2
    · obtain ⟨a, -, hv⟩ := (hv : ∃ a, _ ∧ w = .ref a)
      subst hv; exact ⟨_, h1, rfl, rfl⟩
    · cases hf
  · rename_i h1
    split at hf
    · rename_i h2; cases h2
    · rename_i h2; cases h2
    · obtain ⟨a, -, hv⟩ := (hv : ∃ a, _ ∧ w = .ref a)
      subst hv; exact ⟨_, h1, rfl, rfl⟩
    · cases hf
  · cases ht
end AXS
