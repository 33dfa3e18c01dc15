theorem ax_go_no {pc : Nat} {al st : List Value} {h : ax_H} {w : (Nat × List Value × List Value) ⊕ (Option Value) ⊕ Nat} (e : ax_go pc al st h = some (.inr w)) : False := by cases e
theorem ax_psh_no {pc : Nat} {al st : List Value} {h : ax_H} {v : Option Value} {w : (Nat × List Value × List Value) ⊕ (Option Value) ⊕ Nat} (e : ax_psh pc al st h v = some (.inr w)) : False := by cases v <;> cases e
theorem ax_upd_no {pc o : Nat} {al st : List Value} {h : ax_H} {v : Option va_E} {w : (Nat × List Value × List Value) ⊕ (Option Value) ⊕ Nat} (e : ax_upd pc al st h o v = some (.inr w)) : False := by cases v <;> cases e
theorem ax_sto_no {pc k : Nat} {al st : List Value} {h : ax_H} {v : Value} {w : (Nat × List Value × List Value) ⊕ (Option Value) ⊕ Nat} (e : ax_sto pc al st h k v = some (.inr w)) : False := by
  unfold ax_sto at e
  split at e
  · exact ax_go_no e
  · cases e
theorem ax_inc_no {pc k : Nat} {al st : List Value} {h : ax_H} {v : Int} {w : (Nat × List Value × List Value) ⊕ (Option Value) ⊕ Nat} (e : ax_inc pc al st h k v = some (.inr w)) : False := by
  unfold ax_inc at e
  split at e
  · exact ax_go_no e
  · cases e
theorem ax_st1_no {pc k : Nat} {al st : List Value} {h : ax_H} {v : Bool} {w : (Nat × List Value × List Value) ⊕ (Option Value) ⊕ Nat} (e : ax_st1 pc al st h k v = some (.inr w)) : False := by
  unfold ax_st1 at e
  split at e
  · exact ax_sto_no e
  · exact ax_sto_no e
  · exact ax_sto_no e
  · cases e
theorem ax_bin_no {pc : Nat} {al st : List Value} {h : ax_H} {f : Int32 → Int32 → Int32} {w : (Nat × List Value × List Value) ⊕ (Option Value) ⊕ Nat} (e : ax_bin pc al st h f = some (.inr w)) : False := by
  unfold ax_bin at e
  split at e
  · exact ax_go_no e
  · cases e
theorem ax_ite_no {P : Prop} {dc : Decidable P} {p1 p2 : Nat} {a1 a2 t1 t2 : List Value} {h1 h2 : ax_H} {w : (Nat × List Value × List Value) ⊕ (Option Value) ⊕ Nat} (e : @ite _ P dc (ax_go p1 a1 t1 h1) (ax_go p2 a2 t2 h2) = some (.inr w)) : False := by
  by_cases hP : P
  · rw [if_pos hP] at e; exact ax_go_no e
  · rw [if_neg hP] at e; exact ax_go_no e
theorem ax_br_no {cd : ClassFile.Cond} {x y : Int32} {p1 p2 : Nat} {a1 a2 t1 t2 : List Value} {h1 h2 : ax_H} {w : (Nat × List Value × List Value) ⊕ (Option Value) ⊕ Nat} (e : ax_br cd x y (ax_go p1 a1 t1 h1) (ax_go p2 a2 t2 h2) = some (.inr w)) : False := by
  cases cd <;> exact ax_ite_no e
theorem ax_tsw_no {pc : Nat} {al st : List Value} {h : ax_H} {x : Int32} {d lo hi : Int} {offs : Array Int} {w : (Nat × List Value × List Value) ⊕ (Option Value) ⊕ Nat} (e : ax_tsw pc al st h x d lo hi offs = some (.inr w)) : False := by
  unfold ax_tsw at e
  split at e
  · exact ax_go_no e
  · split at e
    · exact ax_go_no e
    · cases e
theorem ax_new2_no {pc : Nat} {al st : List Value} {h : ax_H} {x : Int32} {v : Option va_E} {w : (Nat × List Value × List Value) ⊕ (Option Value) ⊕ Nat} (e : ax_new2 pc al st h x v = some (.inr w)) : False := by cases v <;> cases e
theorem ax_other {M len pc : Nat} {i : Instr} {al st : List Value} {h : ax_H} {w : (Nat × List Value × List Value) ⊕ (Option Value) ⊕ Nat} (e : ax_step M i len pc al st h = some (.inr w)) :
    (∃ ix M' n ci o r, i = .invokevirtual ix ∧ ax_vir M ix = some (M', n, ci) ∧ st.drop n = .ref o :: r ∧ ax_is ci h[o]? = true ∧ Nat.ble (ax_sw r) 8 = true ∧ (st.take n).all ax_c1 = true ∧ w = .inl (M', .ref o :: (st.take n).reverse, r)) ∨
    (∃ ix M' n o r, i = .invokespecial ix ∧ ax_spe M ix = some (some (M', n)) ∧ st.drop n = .ref o :: r ∧ Nat.ble (ax_sw r) 8 = true ∧ (st.take n).all ax_c1 = true ∧ w = .inl (M', .ref o :: (st.take n).reverse, r)) ∨
    (∃ ix M' n, i = .invokestatic ix ∧ ax_sta M ix = some (M', n) ∧ Nat.ble (ax_sw (st.drop n)) 8 = true ∧ (st.take n).all ax_c1 = true ∧ n ≤ st.length ∧ w = .inl (M', (st.take n).reverse, st.drop n)) ∨
    (∃ x, i = .ireturn ∧ st = [.int x] ∧ (ax_bo M = true → x = 0 ∨ x = 1) ∧ w = .inr (.inl (some (.int x)))) ∨
    (i = .return_ ∧ st = [] ∧ w = .inr (.inl none)) ∨
    (∃ ix ex, i = .new ix ∧ ax_new M ix = some (.inr ex) ∧ st = [] ∧ w = .inr (.inr ex)) := by
  cases i with
  | iconst v => exact (ax_go_no e).elim
  | bipush v => exact (ax_go_no e).elim
  | sipush v => exact (ax_go_no e).elim
  | lconst v => exact (ax_go_no e).elim
  | iload_n k => exact (ax_psh_no e).elim
  | iload k => exact (ax_psh_no e).elim
  | aload_n k => exact (ax_psh_no e).elim
  | aload k => exact (ax_psh_no e).elim
  | istore_n k => exact (ax_st1_no e).elim
  | istore k => exact (ax_st1_no e).elim
  | astore_n k => exact (ax_st1_no e).elim
  | astore k => exact (ax_st1_no e).elim
  | iinc k v => exact (ax_inc_no e).elim
  | iadd => exact (ax_bin_no e).elim
  | isub => exact (ax_bin_no e).elim
  | imul => exact (ax_bin_no e).elim
  | iand => exact (ax_bin_no e).elim
  | ior => exact (ax_bin_no e).elim
  | ixor => exact (ax_bin_no e).elim
  | ishl => exact (ax_bin_no e).elim
  | idiv =>
    simp only [ax_step] at e
    split at e
    · split at e
      · cases e
      · exact (ax_go_no e).elim
    · cases e
  | irem =>
    simp only [ax_step] at e
    split at e
    · split at e
      · cases e
      · exact (ax_go_no e).elim
    · cases e
  | i2l =>
    simp only [ax_step] at e
    split at e
    · exact (ax_go_no e).elim
    · cases e
  | lcmp =>
    simp only [ax_step] at e
    split at e
    · exact (ax_go_no e).elim
    · cases e
  | dup =>
    simp only [ax_step] at e
    split at e
    · exact (ax_go_no e).elim
    · cases e
  | pop =>
    simp only [ax_step] at e
    split at e
    · exact (ax_go_no e).elim
    · cases e
  | dup_x1 =>
    simp only [ax_step] at e
    split at e
    · exact (ax_go_no e).elim
    · cases e
  | dup_x2 =>
    simp only [ax_step] at e
    split at e
    · exact (ax_go_no e).elim
    · cases e
  | dup2 =>
    simp only [ax_step] at e
    split at e
    · exact (ax_go_no e).elim
    · cases e
  | ifCond cd off =>
    simp only [ax_step] at e
    split at e
    · exact (ax_br_no e).elim
    · cases e
  | if_icmp cd off =>
    simp only [ax_step] at e
    split at e
    · exact (ax_br_no e).elim
    · cases e
  | goto off => exact (ax_go_no e).elim
  | tableswitch d lo hi offs =>
    simp only [ax_step] at e
    split at e
    · exact (ax_tsw_no e).elim
    · cases e
  | lookupswitch d ps =>
    simp only [ax_step] at e
    split at e
    · exact (ax_go_no e).elim
    · cases e
  | getfield ix =>
    simp only [ax_step] at e
    split at e
    · exact (ax_psh_no e).elim
    · cases e
  | putfield ix =>
    simp only [ax_step] at e
    split at e
    · exact (ax_upd_no e).elim
    · cases e
  | iaload =>
    simp only [ax_step] at e
    split at e
    · exact (ax_psh_no e).elim
    · cases e
  | baload =>
    simp only [ax_step] at e
    split at e
    · exact (ax_psh_no e).elim
    · cases e
  | laload =>
    simp only [ax_step] at e
    split at e
    · exact (ax_psh_no e).elim
    · cases e
  | iastore =>
    simp only [ax_step] at e
    split at e
    · exact (ax_upd_no e).elim
    · cases e
  | bastore =>
    simp only [ax_step] at e
    split at e
    · exact (ax_upd_no e).elim
    · cases e
  | lastore =>
    simp only [ax_step] at e
    split at e
    · exact (ax_upd_no e).elim
    · cases e
  | arraylength =>
    simp only [ax_step] at e
    split at e
    · exact (ax_psh_no e).elim
    · cases e
  | newarray t =>
    simp only [ax_step] at e
    split at e
    · split at e
      · cases e
      · exact (ax_new2_no e).elim
    · cases e
  | new ix =>
    simp only [ax_step] at e
    unfold ax_new1 at e
    split at e
    · cases e
    · rename_i ex hn
      split at e
      · cases e
        exact Or.inr (Or.inr (Or.inr (Or.inr (Or.inr ⟨ix, ex, rfl, hn, rfl, rfl⟩))))
      · cases e
    · cases e
  | invokevirtual ix =>
    simp only [ax_step] at e
    split at e
    · rename_i M' n ci hv
      unfold ax_inv at e
      split at e
      · rename_i o r hd
        split at e
        · rename_i hb
          cases e
          rw [Bool.and_eq_true, Bool.and_eq_true] at hb
          exact Or.inl ⟨ix, M', n, ci, o, r, rfl, hv, hd, hb.1, hb.2.1, hb.2.2, rfl⟩
        · cases e
      · cases e
    · cases e
  | invokespecial ix =>
    simp only [ax_step] at e
    split at e
    · rename_i M' n hv
      unfold ax_spc at e
      split at e
      · rename_i o r hd
        split at e
        · rename_i hb
          cases e
          rw [Bool.and_eq_true] at hb
          exact Or.inr (Or.inl ⟨ix, M', n, o, r, rfl, hv, hd, hb.1, hb.2, rfl⟩)
        · cases e
      · cases e
    · split at e
      · split at e
        · exact (ax_go_no e).elim
        · cases e
      · cases e
    · cases e
  | invokestatic ix =>
    simp only [ax_step] at e
    split at e
    · rename_i M' n hv
      split at e
      · rename_i hb
        cases e
        rw [Bool.and_eq_true, Bool.and_eq_true] at hb
        exact Or.inr (Or.inr (Or.inl ⟨ix, M', n, rfl, hv, hb.1, hb.2.1, Nat.le_of_ble_eq_true hb.2.2, rfl⟩))
      · cases e
    · cases e
  | ireturn =>
    simp only [ax_step] at e
    split at e
    · rename_i x
      split at e
      · rename_i hb
        split at e
        · rename_i hx
          cases e
          exact Or.inr (Or.inr (Or.inr (Or.inl ⟨x, rfl, rfl, fun _ => hx, rfl⟩)))
        · cases e
      · rename_i hb
        cases e
        exact Or.inr (Or.inr (Or.inr (Or.inl ⟨x, rfl, rfl, fun h1 => absurd (hb.symm.trans h1) (by decide), rfl⟩)))
    · cases e
  | return_ =>
    simp only [ax_step] at e
    split at e
    · cases e
      exact Or.inr (Or.inr (Or.inr (Or.inr (Or.inl ⟨rfl, rfl, rfl⟩))))
    · cases e
  | _ => cases e
theorem ax_cnt : ∀ (n d M pc : Nat) (al st : List Value) (h : ax_H) (k s : Nat) (o : ax_O) (h' : ax_H) (k' s' : Nat), ax_run n d M pc al st h k s = some (o, h', k', s') → k ≤ k' ∧ s ≤ s' := by
  intro n
  induction n with
  | zero => intro d M pc al st h k s o h' k' s' hr; simp [ax_run] at hr
  | succ n ih =>
    intro d M pc al st h k s o h' k' s' hr
    rw [ax_run] at hr
    cases hf : ax_fx M pc with
    | none => rw [hf] at hr; cases hr
    | some q =>
      obtain ⟨i, len⟩ := q
      rw [hf] at hr
      dsimp only at hr
      cases hs : ax_step M i len pc al st h with
      | none => rw [hs] at hr; cases hr
      | some w =>
        rw [hs] at hr
        rcases w with ⟨pc', al', st', h', k', s'⟩ | ⟨M', as, rs⟩ | v | e
        · dsimp only at hr
          have := ih _ _ _ _ _ _ _ _ _ _ _ _ hr
          omega
        · dsimp only at hr
          cases d with
          | zero => cases hr
          | succ d' =>
            dsimp only at hr
            cases hc : ax_run n d' M' 0 (ax_in M' as) [] h k s with
            | none => rw [hc] at hr; cases hr
            | some q =>
              rw [hc] at hr
              rcases q with ⟨v | e, h2, k2, s2⟩
              · dsimp only at hr
                have h1 := ih _ _ _ _ _ _ _ _ _ _ _ _ hc
                have h2 := ih _ _ _ _ _ _ _ _ _ _ _ _ hr
                omega
              · dsimp only at hr
                cases hh : ax_hd M pc e with
                | none => rw [hh] at hr; cases hr
                | some hp =>
                  rw [hh] at hr
                  dsimp only at hr
                  have h1 := ih _ _ _ _ _ _ _ _ _ _ _ _ hc
                  have h2 := ih _ _ _ _ _ _ _ _ _ _ _ _ hr
                  omega
        · cases hr; omega
        · cases hr; omega
