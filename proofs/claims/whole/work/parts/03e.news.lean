def ax_dv (v : Value) : Bool := match v with
  | .int _ => true
  | .null => true
  | _ => false
def ax_neo (own : String) (q : (Nat × ((Nat × List Value) ⊕ Nat)) × Nat × Nat × Nat) : Bool := match q.1.2 with
  | .inl (ci, fs) => (match ax_nth ax_cl ci with
    | some (C, T, N) => decide (lw_tbl[q.2.1]? = some (Cond.classLink own q.1.1 C)) && (decide (lw_tbl[q.2.2.1]? = some (Cond.instantiable C N)) && (decide (lw_tbl[q.2.2.2]? = some (Cond.initialized C)) && (Nat.beq fs.length N && (fs.all ax_dv && (List.range N).all (fun j => decide ((parseFieldDescriptor (T j).2.2.1).map defaultValue = some (vp_V fs j)))))))
    | none => false)
  | .inr _ => true
def ax_np : List (List (Nat × Nat × Nat)) := [[], [], [], [], [], [], [], [], [(51, 52, 27), (72, 73, 28), (88, 89, 29), (113, 114, 30), (126, 127, 33), (157, 158, 34), (0, 0, 0), (0, 0, 0), (0, 0, 0)], [(43, 44, 26), (0, 0, 0), (0, 0, 0), (0, 0, 0), (606, 607, 35)], [], []]
theorem no_0 : ∀ r r2, ax_nth ax_nt 0 = some r → ax_nth ax_np 0 = some r2 → r.length = r2.length ∧ (r.zip r2).all (ax_neo "EqualityProverModel") = true := fun r r2 h h2 => by cases h; cases h2; exact ⟨by decide +kernel, by decide +kernel⟩
theorem no_1 : ∀ r r2, ax_nth ax_nt 1 = some r → ax_nth ax_np 1 = some r2 → r.length = r2.length ∧ (r.zip r2).all (ax_neo "EqualityProver$InstanceList") = true := fun r r2 h h2 => by cases h; cases h2; exact ⟨by decide +kernel, by decide +kernel⟩
theorem no_2 : ∀ r r2, ax_nth ax_nt 2 = some r → ax_nth ax_np 2 = some r2 → r.length = r2.length ∧ (r.zip r2).all (ax_neo "EqualityProver$NumberedTable") = true := fun r r2 h h2 => by cases h; cases h2; exact ⟨by decide +kernel, by decide +kernel⟩
theorem no_3 : ∀ r r2, ax_nth ax_nt 3 = some r → ax_nth ax_np 3 = some r2 → r.length = r2.length ∧ (r.zip r2).all (ax_neo "EqualityProver$TermTable") = true := fun r r2 h h2 => by cases h; cases h2; exact ⟨by decide +kernel, by decide +kernel⟩
theorem no_4 : ∀ r r2, ax_nth ax_nt 4 = some r → ax_nth ax_np 4 = some r2 → r.length = r2.length ∧ (r.zip r2).all (ax_neo "EqualityProver$ThingTable") = true := fun r r2 h h2 => by cases h; cases h2; exact ⟨by decide +kernel, by decide +kernel⟩
theorem no_5 : ∀ r r2, ax_nth ax_nt 5 = some r → ax_nth ax_np 5 = some r2 → r.length = r2.length ∧ (r.zip r2).all (ax_neo "EqualityProver$Draft") = true := fun r r2 h h2 => by cases h; cases h2; exact ⟨by decide +kernel, by decide +kernel⟩
theorem no_6 : ∀ r r2, ax_nth ax_nt 6 = some r → ax_nth ax_np 6 = some r2 → r.length = r2.length ∧ (r.zip r2).all (ax_neo "EqualityProver$Substitution") = true := fun r r2 h h2 => by cases h; cases h2; exact ⟨by decide +kernel, by decide +kernel⟩
theorem no_7 : ∀ r r2, ax_nth ax_nt 7 = some r → ax_nth ax_np 7 = some r2 → r.length = r2.length ∧ (r.zip r2).all (ax_neo "EqualityProver$World") = true := fun r r2 h h2 => by cases h; cases h2; exact ⟨by decide +kernel, by decide +kernel⟩
theorem no_8 : ∀ r r2, ax_nth ax_nt 8 = some r → ax_nth ax_np 8 = some r2 → r.length = r2.length ∧ (r.zip r2).all (ax_neo "EqualityProver") = true := fun r r2 h h2 => by cases h; cases h2; exact ⟨by decide +kernel, by decide +kernel⟩
theorem no_9 : ∀ r r2, ax_nth ax_nt 9 = some r → ax_nth ax_np 9 = some r2 → r.length = r2.length ∧ (r.zip r2).all (ax_neo "EqualityProverLaw") = true := fun r r2 h h2 => by cases h; cases h2; exact ⟨by decide +kernel, by decide +kernel⟩
theorem no_10 : ∀ r r2, ax_nth ax_nt 10 = some r → ax_nth ax_np 10 = some r2 → r.length = r2.length ∧ (r.zip r2).all (ax_neo "java/lang/Math") = true := fun r r2 h h2 => by cases h; cases h2; exact ⟨by decide +kernel, by decide +kernel⟩
theorem no_11 : ∀ r r2, ax_nth ax_nt 11 = some r → ax_nth ax_np 11 = some r2 → r.length = r2.length ∧ (r.zip r2).all (ax_neo "java/util/Arrays") = true := fun r r2 h h2 => by cases h; cases h2; exact ⟨by decide +kernel, by decide +kernel⟩
theorem ax_no : ∀ (j : Nat) (own : String) (r : List (Nat × ((Nat × List Value) ⊕ Nat))) (r2 : List (Nat × Nat × Nat)), ax_nth ax_os j = some own → ax_nth ax_nt j = some r → ax_nth ax_np j = some r2 → r.length = r2.length ∧ (r.zip r2).all (ax_neo own) = true
  | 0, _, r, r2, h1, h2, h3 => by cases h1; exact no_0 r r2 h2 h3
  | 1, _, r, r2, h1, h2, h3 => by cases h1; exact no_1 r r2 h2 h3
  | 2, _, r, r2, h1, h2, h3 => by cases h1; exact no_2 r r2 h2 h3
  | 3, _, r, r2, h1, h2, h3 => by cases h1; exact no_3 r r2 h2 h3
  | 4, _, r, r2, h1, h2, h3 => by cases h1; exact no_4 r r2 h2 h3
  | 5, _, r, r2, h1, h2, h3 => by cases h1; exact no_5 r r2 h2 h3
  | 6, _, r, r2, h1, h2, h3 => by cases h1; exact no_6 r r2 h2 h3
  | 7, _, r, r2, h1, h2, h3 => by cases h1; exact no_7 r r2 h2 h3
  | 8, _, r, r2, h1, h2, h3 => by cases h1; exact no_8 r r2 h2 h3
  | 9, _, r, r2, h1, h2, h3 => by cases h1; exact no_9 r r2 h2 h3
  | 10, _, r, r2, h1, h2, h3 => by cases h1; exact no_10 r r2 h2 h3
  | 11, _, r, r2, h1, h2, h3 => by cases h1; exact no_11 r r2 h2 h3
  | _ + 12, _, _, _, h1, _, _ => by cases h1
theorem ax_own2 {M : Nat} (h : ax_on M < 12) : ax_nth ax_os (ax_on M) = some (ax_ow M) := by
  unfold ax_on ax_inf at h
  unfold ax_on ax_ow ax_inf
  cases hq : ax_nth ax_is0 M with
  | none => rw [hq] at h; exact absurd h (by decide)
  | some q => exact ax_isok q (ax_nth_mem hq)
theorem ax_nth_lt {α : Type} : ∀ {l : List α} {n : Nat} {x : α}, ax_nth l n = some x → n < l.length
  | [], _, _, h => by cases h
  | y :: r, 0, x, h => Nat.succ_pos _
  | y :: r, n + 1, x, h => Nat.succ_lt_succ (ax_nth_lt (l := r) (n := n) h)
theorem ax_nth_of_lt {α : Type} : ∀ {l : List α} {n : Nat}, n < l.length → ∃ x, ax_nth l n = some x
  | [], _, h => absurd h (Nat.not_lt_zero _)
  | y :: r, 0, _ => ⟨y, rfl⟩
  | y :: r, n + 1, h => ax_nth_of_lt (l := r) (n := n) (Nat.lt_of_succ_lt_succ h)
theorem ax_lk2_mem {α : Type} : ∀ {t : List (Nat × α)} {ix : Nat} {q : α}, ax_lk2 t ix = some q → (ix, q) ∈ t
  | [], _, _, h => by cases h
  | (p, q0) :: r, ix, q, h => by
    rw [ax_lk2] at h
    cases hb : Nat.beq p ix with
    | true =>
      rw [hb] at h
      cases h
      have : p = ix := Nat.eq_of_beq_eq_true hb
      subst this
      exact List.mem_cons_self
    | false =>
      rw [hb] at h
      exact List.mem_cons_of_mem _ (ax_lk2_mem h)
theorem ax_zip {α β : Type} : ∀ {r : List α} {r2 : List β} {x : α}, r.length = r2.length → x ∈ r → ∃ y, (x, y) ∈ r.zip r2
  | [], _, _, _, h => by cases h
  | a :: r, [], _, h, _ => by cases h
  | a :: r, b :: r2, x, h, hx => by
    rcases List.mem_cons.mp hx with rfl | hx
    · exact ⟨b, List.mem_cons_self⟩
    · obtain ⟨y, hy⟩ := ax_zip (r := r) (r2 := r2) (Nat.succ.inj h) hx
      exact ⟨y, List.mem_cons_of_mem _ hy⟩
theorem ax_newo {M ix ci : Nat} {fs : List Value} (h : ax_new M ix = some (.inl (ci, fs))) : ∃ (C : String) (T : u_T) (N : Nat), ax_cl[ci]? = some (C, T, N) ∧ Cond.classLink (ax_ow M) ix C ∈ ax_gd ∧ Cond.instantiable C N ∈ ax_gd ∧ Cond.initialized C ∈ ax_gd ∧ fs.length = N ∧ fs.all ax_dv = true ∧ ∀ j, j < N → (parseFieldDescriptor (T j).2.2.1).map defaultValue = some (vp_V fs j) := by
  unfold ax_new at h
  cases hr : ax_nth ax_nt (ax_on M) with
  | none => rw [hr] at h; cases h
  | some r =>
    rw [hr] at h
    have hl := ax_nth_lt hr
    have hl : ax_on M < 12 := hl
    obtain ⟨r2, hr2⟩ := ax_nth_of_lt (l := ax_np) (n := ax_on M) hl
    obtain ⟨h1, h2⟩ := ax_no _ _ r r2 (ax_own2 hl) hr hr2
    obtain ⟨y, hy⟩ := ax_zip h1 (ax_lk2_mem h)
    have h3 := List.all_eq_true.mp h2 _ hy
    unfold ax_neo at h3
    dsimp only at h3
    cases hc : ax_nth ax_cl ci with
    | none => rw [hc] at h3; cases h3
    | some q =>
      obtain ⟨C, T, N⟩ := q
      rw [hc] at h3
      simp only [Bool.and_eq_true, decide_eq_true_eq] at h3
      obtain ⟨g1, g2, g3, g4, g5, g6⟩ := h3
      refine ⟨C, T, N, ax_nth_get hc, ax_gd_mem _ g1 rfl, ax_gd_mem _ g2 rfl, ax_gd_mem _ g3 rfl, Nat.eq_of_beq_eq_true g4, g5, fun j hj => ?_⟩
      have := List.all_eq_true.mp g6 j (List.mem_range.mpr hj)
      exact of_decide_eq_true this
theorem ax_w_int : Cond.arrayClass .int ∈ ax_gd := ax_gd_mem 70 (by decide +kernel) rfl
theorem ax_w_bool : Cond.arrayClass .boolean ∈ ax_gd := ax_gd_mem 71 (by decide +kernel) rfl
theorem ax_w_long : Cond.arrayClass .long ∈ ax_gd := ax_gd_mem 830 (by decide +kernel) rfl
theorem ax_w_oi : Cond.instanceMethod Lib.objectInit ∈ ax_gd := ax_gd_mem 49 (by decide +kernel) rfl
theorem ax_w_oc : Cond.code Lib.objectInit ⟨#[0xb1]⟩ 1 none ∈ ax_gd := ax_gd_mem 50 (by decide +kernel) rfl
def ax_ol : List (List (Nat × Nat)) := [[(1, 611)], [(3, 93)], [(3, 134)], [], [], [(3, 56)], [(3, 77)], [(3, 118)], [(3, 48)], [], [], []]
theorem ol_0 : ∀ r r2, ax_nth ax_st 0 = some r → ax_nth ax_ol 0 = some r2 → r.all (fun q => match q.2 with | none => (match ax_lk2 r2 q.1 with | some p => decide (lw_tbl[p]? = some (Cond.methodLink "EqualityProverModel" q.1 Lib.objectInit)) | none => false) | some _ => true) = true := fun r r2 h h2 => by cases h; cases h2; decide +kernel
theorem ol_1 : ∀ r r2, ax_nth ax_st 1 = some r → ax_nth ax_ol 1 = some r2 → r.all (fun q => match q.2 with | none => (match ax_lk2 r2 q.1 with | some p => decide (lw_tbl[p]? = some (Cond.methodLink "EqualityProver$InstanceList" q.1 Lib.objectInit)) | none => false) | some _ => true) = true := fun r r2 h h2 => by cases h; cases h2; decide +kernel
theorem ol_2 : ∀ r r2, ax_nth ax_st 2 = some r → ax_nth ax_ol 2 = some r2 → r.all (fun q => match q.2 with | none => (match ax_lk2 r2 q.1 with | some p => decide (lw_tbl[p]? = some (Cond.methodLink "EqualityProver$NumberedTable" q.1 Lib.objectInit)) | none => false) | some _ => true) = true := fun r r2 h h2 => by cases h; cases h2; decide +kernel
theorem ol_3 : ∀ r r2, ax_nth ax_st 3 = some r → ax_nth ax_ol 3 = some r2 → r.all (fun q => match q.2 with | none => (match ax_lk2 r2 q.1 with | some p => decide (lw_tbl[p]? = some (Cond.methodLink "EqualityProver$TermTable" q.1 Lib.objectInit)) | none => false) | some _ => true) = true := fun r r2 h h2 => by cases h; cases h2; decide +kernel
theorem ol_4 : ∀ r r2, ax_nth ax_st 4 = some r → ax_nth ax_ol 4 = some r2 → r.all (fun q => match q.2 with | none => (match ax_lk2 r2 q.1 with | some p => decide (lw_tbl[p]? = some (Cond.methodLink "EqualityProver$ThingTable" q.1 Lib.objectInit)) | none => false) | some _ => true) = true := fun r r2 h h2 => by cases h; cases h2; decide +kernel
theorem ol_5 : ∀ r r2, ax_nth ax_st 5 = some r → ax_nth ax_ol 5 = some r2 → r.all (fun q => match q.2 with | none => (match ax_lk2 r2 q.1 with | some p => decide (lw_tbl[p]? = some (Cond.methodLink "EqualityProver$Draft" q.1 Lib.objectInit)) | none => false) | some _ => true) = true := fun r r2 h h2 => by cases h; cases h2; decide +kernel
theorem ol_6 : ∀ r r2, ax_nth ax_st 6 = some r → ax_nth ax_ol 6 = some r2 → r.all (fun q => match q.2 with | none => (match ax_lk2 r2 q.1 with | some p => decide (lw_tbl[p]? = some (Cond.methodLink "EqualityProver$Substitution" q.1 Lib.objectInit)) | none => false) | some _ => true) = true := fun r r2 h h2 => by cases h; cases h2; decide +kernel
theorem ol_7 : ∀ r r2, ax_nth ax_st 7 = some r → ax_nth ax_ol 7 = some r2 → r.all (fun q => match q.2 with | none => (match ax_lk2 r2 q.1 with | some p => decide (lw_tbl[p]? = some (Cond.methodLink "EqualityProver$World" q.1 Lib.objectInit)) | none => false) | some _ => true) = true := fun r r2 h h2 => by cases h; cases h2; decide +kernel
theorem ol_8 : ∀ r r2, ax_nth ax_st 8 = some r → ax_nth ax_ol 8 = some r2 → r.all (fun q => match q.2 with | none => (match ax_lk2 r2 q.1 with | some p => decide (lw_tbl[p]? = some (Cond.methodLink "EqualityProver" q.1 Lib.objectInit)) | none => false) | some _ => true) = true := fun r r2 h h2 => by cases h; cases h2; decide +kernel
theorem ol_9 : ∀ r r2, ax_nth ax_st 9 = some r → ax_nth ax_ol 9 = some r2 → r.all (fun q => match q.2 with | none => (match ax_lk2 r2 q.1 with | some p => decide (lw_tbl[p]? = some (Cond.methodLink "EqualityProverLaw" q.1 Lib.objectInit)) | none => false) | some _ => true) = true := fun r r2 h h2 => by cases h; cases h2; decide +kernel
theorem ol_10 : ∀ r r2, ax_nth ax_st 10 = some r → ax_nth ax_ol 10 = some r2 → r.all (fun q => match q.2 with | none => (match ax_lk2 r2 q.1 with | some p => decide (lw_tbl[p]? = some (Cond.methodLink "java/lang/Math" q.1 Lib.objectInit)) | none => false) | some _ => true) = true := fun r r2 h h2 => by cases h; cases h2; decide +kernel
theorem ol_11 : ∀ r r2, ax_nth ax_st 11 = some r → ax_nth ax_ol 11 = some r2 → r.all (fun q => match q.2 with | none => (match ax_lk2 r2 q.1 with | some p => decide (lw_tbl[p]? = some (Cond.methodLink "java/util/Arrays" q.1 Lib.objectInit)) | none => false) | some _ => true) = true := fun r r2 h h2 => by cases h; cases h2; decide +kernel
theorem ax_olo : ∀ (j : Nat) (own : String) (r : List (Nat × Option (Nat × Nat))) (r2 : List (Nat × Nat)), ax_nth ax_os j = some own → ax_nth ax_st j = some r → ax_nth ax_ol j = some r2 → r.all (fun q => match q.2 with | none => (match ax_lk2 r2 q.1 with | some p => decide (lw_tbl[p]? = some (Cond.methodLink own q.1 Lib.objectInit)) | none => false) | some _ => true) = true
  | 0, _, r, r2, h1, h2, h3 => by cases h1; exact ol_0 r r2 h2 h3
  | 1, _, r, r2, h1, h2, h3 => by cases h1; exact ol_1 r r2 h2 h3
  | 2, _, r, r2, h1, h2, h3 => by cases h1; exact ol_2 r r2 h2 h3
  | 3, _, r, r2, h1, h2, h3 => by cases h1; exact ol_3 r r2 h2 h3
  | 4, _, r, r2, h1, h2, h3 => by cases h1; exact ol_4 r r2 h2 h3
  | 5, _, r, r2, h1, h2, h3 => by cases h1; exact ol_5 r r2 h2 h3
  | 6, _, r, r2, h1, h2, h3 => by cases h1; exact ol_6 r r2 h2 h3
  | 7, _, r, r2, h1, h2, h3 => by cases h1; exact ol_7 r r2 h2 h3
  | 8, _, r, r2, h1, h2, h3 => by cases h1; exact ol_8 r r2 h2 h3
  | 9, _, r, r2, h1, h2, h3 => by cases h1; exact ol_9 r r2 h2 h3
  | 10, _, r, r2, h1, h2, h3 => by cases h1; exact ol_10 r r2 h2 h3
  | 11, _, r, r2, h1, h2, h3 => by cases h1; exact ol_11 r r2 h2 h3
  | _ + 12, _, _, _, h1, _, _ => by cases h1
theorem ax_speo {M ix : Nat} (h : ax_spe M ix = some none) : Cond.methodLink (ax_ow M) ix Lib.objectInit ∈ ax_gd := by
  unfold ax_spe at h
  cases hr : ax_nth ax_st (ax_on M) with
  | none => rw [hr] at h; cases h
  | some r =>
    rw [hr] at h
    have hl : ax_on M < 12 := ax_nth_lt hr
    obtain ⟨r2, hr2⟩ := ax_nth_of_lt (l := ax_ol) (n := ax_on M) hl
    have h3 := List.all_eq_true.mp (ax_olo _ _ r r2 (ax_own2 hl) hr hr2) _ (ax_lk2_mem h)
    dsimp only at h3
    cases hp : ax_lk2 r2 ix with
    | none => rw [hp] at h3; cases h3
    | some p =>
      rw [hp] at h3
      exact ax_gd_mem p (of_decide_eq_true h3) rfl
