theorem ax_gd_sub {ws : List Cond} (ps : List Nat) (hp : ws = ps.filterMap (fun i => lw_tbl[i]?)) (h : ws.all goodWord = true) : ∀ w ∈ ws, w ∈ ax_gd := fun w hw => by
  have h1 := List.all_eq_true.mp h w hw
  rw [hp] at hw
  obtain ⟨i, -, hi⟩ := List.mem_filterMap.mp hw
  exact List.mem_filter.mpr ⟨List.mem_of_getElem? hi, h1⟩
def ax_os : List String := ["EqualityProverModel", "EqualityProver$InstanceList", "EqualityProver$NumberedTable", "EqualityProver$TermTable", "EqualityProver$ThingTable", "EqualityProver$Draft", "EqualityProver$Substitution", "EqualityProver$World", "EqualityProver", "EqualityProverLaw", "java/lang/Math", "java/util/Arrays"]
theorem oc_w0 : ∀ w ∈ u_ws "EqualityProver$Draft" ox_F0 4, w ∈ ax_gd := ax_gd_sub [61, 63, 65, 67] (by decide +kernel) (by decide +kernel)
theorem oc_n0 : ∀ a, a < 4 → ∀ b, b < 4 → a ≠ b → (ox_F0 a).2.1 ≠ (ox_F0 b).2.1 := by decide +kernel
theorem oc_t0 : ∀ k, k < 4 → parseFieldDescriptor (ox_F0 k).2.2.1 = some (ox_t0 k) := by decide +kernel
theorem oc_w1 : ∀ w ∈ u_ws "EqualityProver$InstanceList" ox_F1 6, w ∈ ax_gd := ax_gd_sub [100, 102, 104, 106, 108, 110] (by decide +kernel) (by decide +kernel)
theorem oc_n1 : ∀ a, a < 6 → ∀ b, b < 6 → a ≠ b → (ox_F1 a).2.1 ≠ (ox_F1 b).2.1 := by decide +kernel
theorem oc_t1 : ∀ k, k < 6 → parseFieldDescriptor (ox_F1 k).2.2.1 = some (ox_t1 k) := by decide +kernel
theorem oc_w2 : ∀ w ∈ u_ws "EqualityProver$Substitution" ox_F2 3, w ∈ ax_gd := ax_gd_sub [81, 83, 85] (by decide +kernel) (by decide +kernel)
theorem oc_n2 : ∀ a, a < 3 → ∀ b, b < 3 → a ≠ b → (ox_F2 a).2.1 ≠ (ox_F2 b).2.1 := by decide +kernel
theorem oc_t2 : ∀ k, k < 3 → parseFieldDescriptor (ox_F2 k).2.2.1 = some (ox_t2 k) := by decide +kernel
theorem oc_w3 : ∀ w ∈ u_ws "EqualityProver$TermTable" ox_F3 5, w ∈ ax_gd := ax_gd_sub [146, 148, 150, 152, 154] (by decide +kernel) (by decide +kernel)
theorem oc_n3 : ∀ a, a < 5 → ∀ b, b < 5 → a ≠ b → (ox_F3 a).2.1 ≠ (ox_F3 b).2.1 := by decide +kernel
theorem oc_t3 : ∀ k, k < 5 → parseFieldDescriptor (ox_F3 k).2.2.1 = some (ox_t3 k) := by decide +kernel
theorem oc_w4 : ∀ w ∈ u_ws "EqualityProver$ThingTable" ox_F4 5, w ∈ ax_gd := ax_gd_sub [167, 169, 170, 171, 172] (by decide +kernel) (by decide +kernel)
theorem oc_n4 : ∀ a, a < 5 → ∀ b, b < 5 → a ≠ b → (ox_F4 a).2.1 ≠ (ox_F4 b).2.1 := by decide +kernel
theorem oc_t4 : ∀ k, k < 5 → parseFieldDescriptor (ox_F4 k).2.2.1 = some (ox_t4 k) := by decide +kernel
theorem oc_w5 : ∀ w ∈ u_ws "EqualityProver$World" ox_F5 1, w ∈ ax_gd := ax_gd_sub [120] (by decide +kernel) (by decide +kernel)
theorem oc_n5 : ∀ a, a < 1 → ∀ b, b < 1 → a ≠ b → (ox_F5 a).2.1 ≠ (ox_F5 b).2.1 := by decide +kernel
theorem oc_t5 : ∀ k, k < 1 → parseFieldDescriptor (ox_F5 k).2.2.1 = some (ox_t5 k) := by decide +kernel
theorem oc_w6 : ∀ w ∈ u_ws "EqualityProver" ox_F6 11, w ∈ ax_gd := ax_gd_sub [185, 187, 189, 191, 193, 195, 197, 199, 201, 203, 205] (by decide +kernel) (by decide +kernel)
theorem oc_n6 : ∀ a, a < 11 → ∀ b, b < 11 → a ≠ b → (ox_F6 a).2.1 ≠ (ox_F6 b).2.1 := by decide +kernel
theorem oc_t6 : ∀ k, k < 11 → parseFieldDescriptor (ox_F6 k).2.2.1 = some (ox_t6 k) := by decide +kernel
theorem oc_w7 : ∀ w ∈ u_ws "EqualityProverModel" ox_F7 30, w ∈ ax_gd := ax_gd_sub [658, 660, 662, 664, 666, 668, 670, 672, 674, 676, 678, 680, 682, 684, 686, 688, 690, 692, 694, 696, 698, 700, 702, 704, 706, 708, 710, 712, 714, 716] (by decide +kernel) (by decide +kernel)
theorem oc_n7 : ∀ a, a < 30 → ∀ b, b < 30 → a ≠ b → (ox_F7 a).2.1 ≠ (ox_F7 b).2.1 := by decide +kernel
theorem oc_t7 : ∀ k, k < 30 → parseFieldDescriptor (ox_F7 k).2.2.1 = some (ox_t7 k) := by decide +kernel
def ax_oc (q : vw_C) : Prop := (∀ w ∈ u_ws q.1 q.2.1 q.2.2, w ∈ ax_gd) ∧ (∀ a, a < q.2.2 → ∀ b, b < q.2.2 → a ≠ b → (q.2.1 a).2.1 ≠ (q.2.1 b).2.1) ∧ ∃ ty : Nat → FieldType, ∀ k, k < q.2.2 → parseFieldDescriptor (q.2.1 k).2.2.1 = some (ty k)
theorem ax_clo : ∀ q ∈ ax_cl, ax_oc q := List.forall_mem_cons.mpr ⟨⟨oc_w0, oc_n0, ox_t0, oc_t0⟩, List.forall_mem_cons.mpr ⟨⟨oc_w1, oc_n1, ox_t1, oc_t1⟩, List.forall_mem_cons.mpr ⟨⟨oc_w2, oc_n2, ox_t2, oc_t2⟩, List.forall_mem_cons.mpr ⟨⟨oc_w3, oc_n3, ox_t3, oc_t3⟩, List.forall_mem_cons.mpr ⟨⟨oc_w4, oc_n4, ox_t4, oc_t4⟩, List.forall_mem_cons.mpr ⟨⟨oc_w5, oc_n5, ox_t5, oc_t5⟩, List.forall_mem_cons.mpr ⟨⟨oc_w6, oc_n6, ox_t6, oc_t6⟩, List.forall_mem_cons.mpr ⟨⟨oc_w7, oc_n7, ox_t7, oc_t7⟩, fun _ h => absurd h List.not_mem_nil⟩⟩⟩⟩⟩⟩⟩⟩
def ax_tk (ty : Nat) (d : String) : Bool := match ty, parseFieldDescriptor d with
  | 0, some .int => true
  | 1, some .boolean => true
  | 2, some (.object _) => true
  | 2, some (.array _) => true
  | _, _ => false
def ax_feo (own : String) (q : ax_Fe) : Bool := match ax_nth ax_cl q.2.1 with
  | some (_, T, N) => Nat.blt q.2.2.1 N && (decide (lw_tbl[q.2.2.2.2.2]? = some (Cond.fieldLink own q.1 (T q.2.2.1).1 (T q.2.2.1).2.1 (T q.2.2.1).2.2.1)) && (((T q.2.2.1).2.2.2 == q.2.2.2.2.1) && ((!q.2.2.2.2.1 || decide ((T q.2.2.1).1 = own)) && ax_tk q.2.2.2.1 (T q.2.2.1).2.2.1)))
  | none => false
theorem fo_0 : ∀ r, ax_nth ax_ft 0 = some r → r.all (ax_feo "EqualityProverModel") = true := fun r h => by cases h; decide +kernel
theorem fo_1 : ∀ r, ax_nth ax_ft 1 = some r → r.all (ax_feo "EqualityProver$InstanceList") = true := fun r h => by cases h; decide +kernel
theorem fo_2 : ∀ r, ax_nth ax_ft 2 = some r → r.all (ax_feo "EqualityProver$NumberedTable") = true := fun r h => by cases h; decide +kernel
theorem fo_3 : ∀ r, ax_nth ax_ft 3 = some r → r.all (ax_feo "EqualityProver$TermTable") = true := fun r h => by cases h; decide +kernel
theorem fo_4 : ∀ r, ax_nth ax_ft 4 = some r → r.all (ax_feo "EqualityProver$ThingTable") = true := fun r h => by cases h; decide +kernel
theorem fo_5 : ∀ r, ax_nth ax_ft 5 = some r → r.all (ax_feo "EqualityProver$Draft") = true := fun r h => by cases h; decide +kernel
theorem fo_6 : ∀ r, ax_nth ax_ft 6 = some r → r.all (ax_feo "EqualityProver$Substitution") = true := fun r h => by cases h; decide +kernel
theorem fo_7 : ∀ r, ax_nth ax_ft 7 = some r → r.all (ax_feo "EqualityProver$World") = true := fun r h => by cases h; decide +kernel
theorem fo_8 : ∀ r, ax_nth ax_ft 8 = some r → r.all (ax_feo "EqualityProver") = true := fun r h => by cases h; decide +kernel
theorem fo_9 : ∀ r, ax_nth ax_ft 9 = some r → r.all (ax_feo "EqualityProverLaw") = true := fun r h => by cases h; decide +kernel
theorem fo_10 : ∀ r, ax_nth ax_ft 10 = some r → r.all (ax_feo "java/lang/Math") = true := fun r h => by cases h; decide +kernel
theorem fo_11 : ∀ r, ax_nth ax_ft 11 = some r → r.all (ax_feo "java/util/Arrays") = true := fun r h => by cases h; decide +kernel
theorem ax_fo : ∀ (j : Nat) (own : String) (r : List ax_Fe), ax_nth ax_os j = some own → ax_nth ax_ft j = some r → r.all (ax_feo own) = true
  | 0, _, r, h1, h2 => by cases h1; exact fo_0 r h2
  | 1, _, r, h1, h2 => by cases h1; exact fo_1 r h2
  | 2, _, r, h1, h2 => by cases h1; exact fo_2 r h2
  | 3, _, r, h1, h2 => by cases h1; exact fo_3 r h2
  | 4, _, r, h1, h2 => by cases h1; exact fo_4 r h2
  | 5, _, r, h1, h2 => by cases h1; exact fo_5 r h2
  | 6, _, r, h1, h2 => by cases h1; exact fo_6 r h2
  | 7, _, r, h1, h2 => by cases h1; exact fo_7 r h2
  | 8, _, r, h1, h2 => by cases h1; exact fo_8 r h2
  | 9, _, r, h1, h2 => by cases h1; exact fo_9 r h2
  | 10, _, r, h1, h2 => by cases h1; exact fo_10 r h2
  | 11, _, r, h1, h2 => by cases h1; exact fo_11 r h2
  | _ + 12, _, _, h1, _ => by cases h1
theorem ax_isok : ∀ q ∈ ax_is0, ax_nth ax_os q.2.2.1 = some q.2.1 := by decide +kernel
theorem ax_own {M j : Nat} {r : List ax_Fe} (hr : ax_nth ax_ft (ax_on M) = some r) : ax_nth ax_os (ax_on M) = some (ax_ow M) := by
  unfold ax_on ax_inf at hr
  unfold ax_on ax_ow ax_inf
  cases hq : ax_nth ax_is0 M with
  | none => rw [hq] at hr; cases hr
  | some q => exact ax_isok q (ax_nth_mem hq)
theorem ax_fl1_mem : ∀ {r : List ax_Fe} {ix ci : Nat} {q : Nat × Nat × Bool}, ax_fl1 r ix ci = some q → ∃ p, (ix, ci, q.1, q.2.1, q.2.2, p) ∈ r
  | [], _, _, _, h => by cases h
  | (a, b, k, ty, fin, p) :: r, ix, ci, q, h => by
    rw [ax_fl1] at h
    cases hb : Nat.beq a ix && Nat.beq b ci with
    | true =>
      rw [hb] at h
      cases h
      rw [Bool.and_eq_true] at hb
      have h1 : a = ix := Nat.eq_of_beq_eq_true hb.1
      have h2 : b = ci := Nat.eq_of_beq_eq_true hb.2
      subst h1; subst h2
      exact ⟨p, List.mem_cons_self⟩
    | false =>
      rw [hb] at h
      obtain ⟨p', h'⟩ := ax_fl1_mem h
      exact ⟨p', List.mem_cons_of_mem _ h'⟩
theorem ax_nth_get {α : Type} : ∀ {l : List α} {n : Nat} {x : α}, ax_nth l n = some x → l[n]? = some x
  | [], _, _, h => by cases h
  | y :: r, 0, x, h => by cases h; rfl
  | y :: r, n + 1, x, h => by
    have := ax_nth_get (l := r) (n := n) h
    simpa using this
theorem ax_fldo {M ix ci k ty : Nat} {fin : Bool} (h : ax_fld M ix ci = some (k, ty, fin)) : ∃ (C : String) (T : u_T) (N : Nat), ax_cl[ci]? = some (C, T, N) ∧ k < N ∧ Cond.fieldLink (ax_ow M) ix (T k).1 (T k).2.1 (T k).2.2.1 ∈ ax_gd ∧ (T k).2.2.2 = fin ∧ (fin = true → (T k).1 = ax_ow M) ∧ ax_tk ty (T k).2.2.1 = true := by
  unfold ax_fld at h
  cases hr : ax_nth ax_ft (ax_on M) with
  | none => rw [hr] at h; cases h
  | some r =>
    rw [hr] at h
    obtain ⟨p, hm⟩ := ax_fl1_mem h
    have h1 := List.all_eq_true.mp (ax_fo _ _ r (ax_own (j := 0) hr) hr) _ hm
    unfold ax_feo at h1
    dsimp only at h1
    cases hc : ax_nth ax_cl ci with
    | none => rw [hc] at h1; cases h1
    | some q =>
      obtain ⟨C, T, N⟩ := q
      rw [hc] at h1
      simp only [Bool.and_eq_true, Bool.or_eq_true, decide_eq_true_eq, beq_iff_eq, Bool.not_eq_true'] at h1
      obtain ⟨h2, h3, h4, h5, h6⟩ := h1
      have h9 : k + 1 ≤ N := by simpa [Nat.blt] using h2
      refine ⟨C, T, N, ax_nth_get hc, h9, ax_gd_mem p h3 rfl, h4, fun hf => ?_, h6⟩
      rcases h5 with h5 | h5
      · rw [hf] at h5; cases h5
      · exact h5
