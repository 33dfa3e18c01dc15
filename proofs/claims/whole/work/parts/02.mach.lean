abbrev ax_H : Type := List va_E
abbrev ax_N : Type := Nat × List Value × List Value × ax_H × Nat × Nat
abbrev ax_S : Type := ax_N ⊕ (Nat × List Value × List Value) ⊕ (Option Value) ⊕ Nat
abbrev ax_O : Type := Option Value ⊕ Nat
abbrev ax_P : Type := ax_O → ax_H → Nat → Nat → Prop
abbrev ax_u : Value := .retAddr 0
def ax_go (pc : Nat) (al st : List Value) (h : ax_H) : Option ax_S := some (.inl (pc, al, st, h, 0, 0))
def ax_tg (pc : Nat) (off : Int) : Nat := ((pc : Int) + off).toNat
def ax_jp (pc : Nat) (off : Int) (al st : List Value) (h : ax_H) : Option ax_S := ax_go (ax_tg pc off) al st h
def ax_in (M : Nat) (as : List Value) : List Value := as ++ List.replicate (ax_ml M - as.length) ax_u
def ax_gfd (M ix : Nat) (e : Option va_E) : Option Value := match e with
  | some (.inr (ci, fs)) => (match ax_fld M ix ci with
    | some q => fs[q.1]?
    | none => none)
  | _ => none
def ax_fit (ty : Nat) (v : Value) : Option Unit := match ty, v with
  | 0, .int _ => some ()
  | 1, .int x => if x = 0 ∨ x = 1 then some () else none
  | 2, .ref _ => some ()
  | _, _ => none
def ax_pfd (M ix : Nat) (e : Option va_E) (v : Value) : Option va_E := match e with
  | some (.inr (ci, fs)) => (match ax_fld M ix ci with
    | some (k, ty, fin) => (match fin && !(ax_ct M) with
      | true => none
      | false => (match ax_fit ty v with
        | some _ => (match fs[k]? with
          | some _ => some (.inr (ci, fs.set k v))
          | none => none)
        | none => none))
    | none => none)
  | _ => none
def ax_ald (w : Nat) (e : Option va_E) (j : Int32) : Option Value := match e, w with
  | some (.inl (0, n, .inl f)), 0 => if j < 0 ∨ n ≤ j.toNatClampNeg then none else some (.int (f j.toNatClampNeg))
  | some (.inl (3, n, .inl f)), 0 => if j < 0 ∨ n ≤ j.toNatClampNeg then none else some (.int (f j.toNatClampNeg))
  | some (.inl (1, n, .inl f)), 1 => if j < 0 ∨ n ≤ j.toNatClampNeg then none else some (.int (f j.toNatClampNeg))
  | some (.inl (2, n, .inr (.inl f))), 2 => if j < 0 ∨ n ≤ j.toNatClampNeg then none else some (.long (f j.toNatClampNeg))
  | _, _ => none
def ax_ast (w : Nat) (e : Option va_E) (j : Int32) (v : Value) : Option va_E := match e, w, v with
  | some (.inl (0, n, .inl f)), 0, .int x => if j < 0 ∨ n ≤ j.toNatClampNeg then none else some (.inl (0, n, .inl (upd f j.toNatClampNeg x)))
  | some (.inl (1, n, .inl f)), 1, .int x => if j < 0 ∨ n ≤ j.toNatClampNeg then none else if x = 0 ∨ x = 1 then some (.inl (1, n, .inl (upd f j.toNatClampNeg x))) else none
  | some (.inl (2, n, .inr (.inl f))), 2, .long x => if j < 0 ∨ n ≤ j.toNatClampNeg then none else some (.inl (2, n, .inr (.inl (vp_updL f j.toNatClampNeg x))))
  | _, _, _ => none
def ax_len (e : Option va_E) : Option Value := match e with
  | some (.inl (_, n, _)) => some (.int (Int32.ofNat n))
  | _ => none
def ax_nwa (t : ArrayType) (N : Nat) : Option va_E := match t with
  | .int => some (.inl (0, N, .inl (fun _ => 0)))
  | .boolean => some (.inl (1, N, .inl (fun _ => 0)))
  | .long => some (.inl (2, N, .inr (.inl (fun _ => 0))))
  | _ => none
def ax_is (ci : Nat) (e : Option va_E) : Bool := match e with
  | some (.inr (c, _)) => Nat.beq c ci
  | _ => false
def ax_psh (pc : Nat) (al st : List Value) (h : ax_H) (v : Option Value) : Option ax_S := match v with
  | some v => ax_go pc al (v :: st) h
  | none => none
def ax_upd (pc : Nat) (al st : List Value) (h : ax_H) (o : Nat) (e : Option va_E) : Option ax_S := match e with
  | some e => ax_go pc al st (h.set o e)
  | none => none
def ax_ldi (al : List Value) (k : Nat) : Option Value := match al[k]? with
  | some (.int x) => some (.int x)
  | _ => none
def ax_lda (al : List Value) (k : Nat) : Option Value := match al[k]? with
  | some (.ref x) => some (.ref x)
  | some .null => some .null
  | _ => none
def ax_sto (pc : Nat) (al st : List Value) (h : ax_H) (k : Nat) (v : Value) : Option ax_S := match al[k]? with
  | some _ => ax_go pc (al.set k v) st h
  | none => none
def ax_inc (pc : Nat) (al st : List Value) (h : ax_H) (k : Nat) (n : Int) : Option ax_S := match al[k]? with
  | some (.int x) => ax_go pc (al.set k (.int (x + Int32.ofInt n))) st h
  | _ => none
def ax_new1 (pc : Nat) (al st : List Value) (h : ax_H) (w : Option ((Nat × List Value) ⊕ Nat)) : Option ax_S := match w with
  | some (.inl (ci, fs)) => some (.inl (pc, al, .ref h.length :: st, h ++ [.inr (ci, fs)], 1, fs.length))
  | some (.inr e) => (match st with
    | [] => some (.inr (.inr (.inr e)))
    | _ :: _ => none)
  | none => none
def ax_new2 (pc : Nat) (al st : List Value) (h : ax_H) (n : Int32) (e : Option va_E) : Option ax_S := match e with
  | some e => some (.inl (pc, al, .ref h.length :: st, h ++ [e], 1, n.toNatClampNeg))
  | none => none
def ax_c1 (v : Value) : Bool := match v with
  | .int _ => true
  | .ref _ => true
  | .null => true
  | _ => false
def ax_sw : List Value → Nat
  | [] => 0
  | v :: r => v.category + ax_sw r
def ax_inv (M' n : Nat) (ci : Nat) (st : List Value) (h : ax_H) : Option ax_S := match st.drop n with
  | .ref o :: r => (match ax_is ci h[o]? && (Nat.ble (ax_sw r) 8 && (st.take n).all ax_c1) with
    | true => some (.inr (.inl (M', .ref o :: (st.take n).reverse, r)))
    | false => none)
  | _ => none
def ax_spc (M' n : Nat) (st : List Value) : Option ax_S := match st.drop n with
  | .ref o :: r => (match Nat.ble (ax_sw r) 8 && (st.take n).all ax_c1 with
    | true => some (.inr (.inl (M', .ref o :: (st.take n).reverse, r)))
    | false => none)
  | _ => none
def ax_st1 (pc : Nat) (al st : List Value) (h : ax_H) (k : Nat) (a : Bool) : Option ax_S := match st, a with
  | .int x :: r, true => ax_sto pc al r h k (.int x)
  | .ref x :: r, false => ax_sto pc al r h k (.ref x)
  | .null :: r, false => ax_sto pc al r h k .null
  | _, _ => none
def ax_bin (pc : Nat) (al st : List Value) (h : ax_H) (f : Int32 → Int32 → Int32) : Option ax_S := match st with
  | .int y :: .int x :: r => ax_go pc al (.int (f x y) :: r) h
  | _ => none
def ax_stk (i : Instr) (st : List Value) : Option (List Value) := match i, st with
  | .dup, v :: r => (match ax_c1 v with
    | true => some (v :: v :: r)
    | false => none)
  | .pop, v :: r => (match ax_c1 v with
    | true => some r
    | false => none)
  | .dup_x1, v :: w :: r => (match ax_c1 v && ax_c1 w with
    | true => some (v :: w :: v :: r)
    | false => none)
  | .dup_x2, v :: w :: z :: r => (match ax_c1 v && (ax_c1 w && ax_c1 z) with
    | true => some (v :: w :: z :: v :: r)
    | false => none)
  | .dup2, v :: w :: r => (match ax_c1 v && ax_c1 w with
    | true => some (v :: w :: v :: w :: r)
    | false => none)
  | _, _ => none
def ax_br (c : ClassFile.Cond) (x y : Int32) (A B : Option ax_S) : Option ax_S := match c with
  | .eq => if x = y then A else B
  | .ne => if x = y then B else A
  | .lt => if x < y then A else B
  | .ge => if y ≤ x then A else B
  | .gt => if y < x then A else B
  | .le => if x ≤ y then A else B
def ax_tsw (pc : Nat) (al st : List Value) (h : ax_H) (x : Int32) (dflt lo hi : Int) (offs : Array Int) : Option ax_S :=
  if x.toInt < lo ∨ hi < x.toInt then ax_jp pc dflt al st h else (match offs[(x.toInt - lo).toNat]? with
    | some off => ax_jp pc off al st h
    | none => none)
def ax_step (M : Nat) (i : Instr) (len pc : Nat) (al st : List Value) (h : ax_H) : Option ax_S := match i with
  | .iconst n => ax_go (pc + 1) al (.int (Int32.ofInt n) :: st) h
  | .bipush n => ax_go (pc + 2) al (.int (Int8.ofInt n).toInt32 :: st) h
  | .sipush n => ax_go (pc + 3) al (.int (Int16.ofInt n).toInt32 :: st) h
  | .lconst n => ax_go (pc + 1) al (.long (Int64.ofNat (n : Nat)) :: st) h
  | .iload_n k => ax_psh (pc + 1) al st h (ax_ldi al k.val)
  | .iload k => ax_psh (pc + 2) al st h (ax_ldi al k)
  | .aload_n k => ax_psh (pc + 1) al st h (ax_lda al k.val)
  | .aload k => ax_psh (pc + 2) al st h (ax_lda al k)
  | .istore_n k => ax_st1 (pc + 1) al st h k.val true
  | .istore k => ax_st1 (pc + 2) al st h k true
  | .astore_n k => ax_st1 (pc + 1) al st h k.val false
  | .astore k => ax_st1 (pc + 2) al st h k false
  | .iinc k n => ax_inc (pc + 3) al st h k n
  | .iadd => ax_bin (pc + 1) al st h (fun x y => x + y)
  | .isub => ax_bin (pc + 1) al st h (fun x y => x - y)
  | .imul => ax_bin (pc + 1) al st h (fun x y => x * y)
  | .iand => ax_bin (pc + 1) al st h (fun x y => x &&& y)
  | .ior => ax_bin (pc + 1) al st h (fun x y => x ||| y)
  | .ixor => ax_bin (pc + 1) al st h (fun x y => x ^^^ y)
  | .ishl => ax_bin (pc + 1) al st h (fun x y => x <<< (y &&& 31))
  | .idiv => (match st with
    | .int y :: .int x :: r => if y = 0 then none else ax_go (pc + 1) al (.int (x / y) :: r) h
    | _ => none)
  | .irem => (match st with
    | .int y :: .int x :: r => if y = 0 then none else ax_go (pc + 1) al (.int (x - x / y * y) :: r) h
    | _ => none)
  | .i2l => (match st with
    | .int x :: r => ax_go (pc + 1) al (.long x.toInt64 :: r) h
    | _ => none)
  | .lcmp => (match st with
    | .long y :: .long x :: r => ax_go (pc + 1) al (.int (lg_cmp x y) :: r) h
    | _ => none)
  | .dup => (match ax_stk .dup st with
    | some st' => ax_go (pc + 1) al st' h
    | none => none)
  | .pop => (match ax_stk .pop st with
    | some st' => ax_go (pc + 1) al st' h
    | none => none)
  | .dup_x1 => (match ax_stk .dup_x1 st with
    | some st' => ax_go (pc + 1) al st' h
    | none => none)
  | .dup_x2 => (match ax_stk .dup_x2 st with
    | some st' => ax_go (pc + 1) al st' h
    | none => none)
  | .dup2 => (match ax_stk .dup2 st with
    | some st' => ax_go (pc + 1) al st' h
    | none => none)
  | .ifCond c off => (match st with
    | .int x :: r => ax_br c x 0 (ax_jp pc off al r h) (ax_go (pc + 3) al r h)
    | _ => none)
  | .if_icmp c off => (match st with
    | .int y :: .int x :: r => ax_br c x y (ax_jp pc off al r h) (ax_go (pc + 3) al r h)
    | _ => none)
  | .goto off => ax_jp pc off al st h
  | .tableswitch dflt lo hi offs => (match st with
    | .int x :: r => ax_tsw pc al r h x dflt lo hi offs
    | _ => none)
  | .lookupswitch dflt ps => (match st with
    | .int x :: r => ax_jp pc (Op.lookupswitch.offset ps.toList dflt x.toInt) al r h
    | _ => none)
  | .getfield ix => (match st with
    | .ref o :: r => ax_psh (pc + 3) al r h (ax_gfd M ix h[o]?)
    | _ => none)
  | .putfield ix => (match st with
    | v :: .ref o :: r => ax_upd (pc + 3) al r h o (ax_pfd M ix h[o]? v)
    | _ => none)
  | .iaload => (match st with
    | .int j :: .ref o :: r => ax_psh (pc + 1) al r h (ax_ald 0 h[o]? j)
    | _ => none)
  | .baload => (match st with
    | .int j :: .ref o :: r => ax_psh (pc + 1) al r h (ax_ald 1 h[o]? j)
    | _ => none)
  | .laload => (match st with
    | .int j :: .ref o :: r => ax_psh (pc + 1) al r h (ax_ald 2 h[o]? j)
    | _ => none)
  | .iastore => (match st with
    | v :: .int j :: .ref o :: r => ax_upd (pc + 1) al r h o (ax_ast 0 h[o]? j v)
    | _ => none)
  | .bastore => (match st with
    | v :: .int j :: .ref o :: r => ax_upd (pc + 1) al r h o (ax_ast 1 h[o]? j v)
    | _ => none)
  | .lastore => (match st with
    | v :: .int j :: .ref o :: r => ax_upd (pc + 1) al r h o (ax_ast 2 h[o]? j v)
    | _ => none)
  | .arraylength => (match st with
    | .ref o :: r => ax_psh (pc + 1) al r h (ax_len h[o]?)
    | _ => none)
  | .new ix => ax_new1 (pc + 3) al st h (ax_new M ix)
  | .newarray t => (match st with
    | .int n :: r => if n < 0 then none else ax_new2 (pc + 2) al r h n (ax_nwa t n.toNatClampNeg)
    | _ => none)
  | .invokevirtual ix => (match ax_vir M ix with
    | some (M', n, ci) => ax_inv M' n ci st h
    | none => none)
  | .invokespecial ix => (match ax_spe M ix with
    | some (some (M', n)) => ax_spc M' n st
    | some none => (match st with
      | .ref _ :: r => (match Nat.ble (ax_sw r) 8 with
        | true => ax_go (pc + 3) al r h
        | false => none)
      | _ => none)
    | none => none)
  | .invokestatic ix => (match ax_sta M ix with
    | some (M', n) => (match Nat.ble (ax_sw (st.drop n)) 8 && ((st.take n).all ax_c1 && Nat.ble n st.length) with
      | true => some (.inr (.inl (M', (st.take n).reverse, st.drop n)))
      | false => none)
    | none => none)
  | .ireturn => (match st with
    | [.int x] => (match ax_bo M with
      | true => if x = 0 ∨ x = 1 then some (.inr (.inr (.inl (some (.int x))))) else none
      | false => some (.inr (.inr (.inl (some (.int x))))))
    | _ => none)
  | .return_ => (match st with
    | [] => some (.inr (.inr (.inl none)))
    | _ => none)
  | _ => none
def ax_run : Nat → Nat → Nat → Nat → List Value → List Value → ax_H → Nat → Nat → Option (ax_O × ax_H × Nat × Nat)
  | 0, _, _, _, _, _, _, _, _ => none
  | n + 1, d, M, pc, al, st, h, k, s => match ax_fx M pc with
    | none => none
    | some (i, len) => match ax_step M i len pc al st h with
      | none => none
      | some (.inl (pc', al', st', h', k', s')) => ax_run n d M pc' al' st' h' (k + k') (s + s')
      | some (.inr (.inl (M', as, r))) => (match d with
        | 0 => none
        | d' + 1 => match ax_run n d' M' 0 (ax_in M' as) [] h k s with
          | none => none
          | some (.inl v, h', k', s') => ax_run n (d' + 1) M (pc + len) al (v.toList ++ r) h' k' s'
          | some (.inr e, h', k', s') => (match ax_hd M pc e with
            | none => none
            | some hp => ax_run n (d' + 1) M hp al [.null] h' k' s'))
      | some (.inr (.inr (.inl v))) => some (.inl v, h, k, s)
      | some (.inr (.inr (.inr e))) => some (.inr e, h, k + 1, s + 6)
theorem ax_up1 : ∀ (n d M pc : Nat) (al st : List Value) (h : ax_H) (k s : Nat) (r : ax_O × ax_H × Nat × Nat), ax_run n d M pc al st h k s = some r → ax_run (n + 1) d M pc al st h k s = some r := by
  intro n
  induction n with
  | zero => intro d M pc al st h k s r hr; simp [ax_run] at hr
  | succ n ih =>
    intro d M pc al st h k s r hr
    rw [ax_run] at hr ⊢
    cases hf : ax_fx M pc with
    | none => rw [hf] at hr; cases hr
    | some q =>
      obtain ⟨i, len⟩ := q
      rw [hf] at hr
      dsimp only at hr ⊢
      cases hs : ax_step M i len pc al st h with
      | none => rw [hs] at hr; cases hr
      | some w =>
        rw [hs] at hr
        rcases w with ⟨pc', al', st', h', k', s'⟩ | ⟨M', as, rs⟩ | v | e
        · dsimp only at hr ⊢
          exact ih _ _ _ _ _ _ _ _ _ hr
        · dsimp only at hr ⊢
          cases d with
          | zero => cases hr
          | succ d' =>
            dsimp only at hr ⊢
            cases hc : ax_run n d' M' 0 (ax_in M' as) [] h k s with
            | none => rw [hc] at hr; cases hr
            | some q =>
              rw [ih _ _ _ _ _ _ _ _ _ hc]
              rw [hc] at hr
              rcases q with ⟨v | e, h', k', s'⟩
              · dsimp only at hr ⊢
                exact ih _ _ _ _ _ _ _ _ _ hr
              · dsimp only at hr ⊢
                cases hh : ax_hd M pc e with
                | none => rw [hh] at hr; cases hr
                | some hp =>
                  rw [hh] at hr
                  dsimp only at hr ⊢
                  exact ih _ _ _ _ _ _ _ _ _ hr
        · exact hr
        · exact hr
theorem ax_up {n m d M pc : Nat} {al st : List Value} {h : ax_H} {k s : Nat} {r : ax_O × ax_H × Nat × Nat} (hr : ax_run n d M pc al st h k s = some r) (hm : n ≤ m) : ax_run m d M pc al st h k s = some r := by
  induction hm with
  | refl => exact hr
  | step _ ih => exact ax_up1 _ _ _ _ _ _ _ _ _ _ ih
theorem ax_deep1 : ∀ (n d M pc : Nat) (al st : List Value) (h : ax_H) (k s : Nat) (r : ax_O × ax_H × Nat × Nat), ax_run n d M pc al st h k s = some r → ax_run n (d + 1) M pc al st h k s = some r := by
  intro n
  induction n with
  | zero => intro d M pc al st h k s r hr; simp [ax_run] at hr
  | succ n ih =>
    intro d M pc al st h k s r hr
    rw [ax_run] at hr ⊢
    cases hf : ax_fx M pc with
    | none => rw [hf] at hr; cases hr
    | some q =>
      obtain ⟨i, len⟩ := q
      rw [hf] at hr
      dsimp only at hr ⊢
      cases hs : ax_step M i len pc al st h with
      | none => rw [hs] at hr; cases hr
      | some w =>
        rw [hs] at hr
        rcases w with ⟨pc', al', st', h', k', s'⟩ | ⟨M', as, rs⟩ | v | e
        · dsimp only at hr ⊢
          exact ih _ _ _ _ _ _ _ _ _ hr
        · dsimp only at hr ⊢
          cases d with
          | zero => cases hr
          | succ d' =>
            dsimp only at hr ⊢
            cases hc : ax_run n d' M' 0 (ax_in M' as) [] h k s with
            | none => rw [hc] at hr; cases hr
            | some q =>
              rw [ih _ _ _ _ _ _ _ _ _ hc]
              rw [hc] at hr
              rcases q with ⟨v | e, h', k', s'⟩
              · dsimp only at hr ⊢
                exact ih _ _ _ _ _ _ _ _ _ hr
              · dsimp only at hr ⊢
                cases hh : ax_hd M pc e with
                | none => rw [hh] at hr; cases hr
                | some hp =>
                  rw [hh] at hr
                  dsimp only at hr ⊢
                  exact ih _ _ _ _ _ _ _ _ _ hr
        · exact hr
        · exact hr
def ax_R (d M pc : Nat) (al st : List Value) (h : ax_H) (k s : Nat) (Q : ax_P) : Prop := ∃ (n : Nat) (o : ax_O) (h' : ax_H) (k' s' : Nat), ax_run n d M pc al st h k s = some (o, h', k', s') ∧ Q o h' k' s'
section AX
variable {d M pc : Nat} {al st : List Value} {h : ax_H} {k s : Nat} {Q : ax_P}
theorem ax_R.mono {Q' : ax_P} (hr : ax_R d M pc al st h k s Q) (hq : ∀ o h' k' s', Q o h' k' s' → Q' o h' k' s') : ax_R d M pc al st h k s Q' := by
  obtain ⟨n, o, h', k', s', h1, h2⟩ := hr
  exact ⟨n, o, h', k', s', h1, hq _ _ _ _ h2⟩
theorem ax_R.deep {d' : Nat} (hr : ax_R d M pc al st h k s Q) (hd : d ≤ d') : ax_R d' M pc al st h k s Q := by
  obtain ⟨n, o, h', k', s', h1, h2⟩ := hr
  refine ⟨n, o, h', k', s', ?_, h2⟩
  induction hd with
  | refl => exact h1
  | step _ ih => exact ax_deep1 _ _ _ _ _ _ _ _ _ _ ih
theorem ax_next {i : Instr} {len pc' : Nat} {al' st' : List Value} {h' : ax_H} {k' s' : Nat} (hf : ax_fx M pc = some (i, len)) (hs : ax_step M i len pc al st h = some (.inl (pc', al', st', h', k', s'))) (kk : ax_R d M pc' al' st' h' (k + k') (s + s') Q) : ax_R d M pc al st h k s Q := by
  obtain ⟨n, o, h2, k2, s2, h3, h4⟩ := kk
  refine ⟨n + 1, o, h2, k2, s2, ?_, h4⟩
  rw [ax_run, hf]
  dsimp only
  rw [hs]
  exact h3
theorem ax_nx {i : Instr} {len pc' : Nat} {al' st' : List Value} {h' : ax_H} (hf : ax_fx M pc = some (i, len)) (hs : ax_step M i len pc al st h = some (.inl (pc', al', st', h', 0, 0))) (kk : ax_R d M pc' al' st' h' k s Q) : ax_R d M pc al st h k s Q := ax_next hf hs kk
theorem ax_nxt {i : Instr} {len pc' : Nat} {al' st' : List Value} {h' : ax_H} {c : Prop} {dc : Decidable c} {B : Option ax_S} (hf : ax_fx M pc = some (i, len)) (hs : ax_step M i len pc al st h = @ite _ c dc (some (.inl (pc', al', st', h', 0, 0))) B) (hc : c) (kk : ax_R d M pc' al' st' h' k s Q) : ax_R d M pc al st h k s Q := ax_nx hf (hs.trans (if_pos hc)) kk
theorem ax_nxf {i : Instr} {len pc' : Nat} {al' st' : List Value} {h' : ax_H} {c : Prop} {dc : Decidable c} {A : Option ax_S} (hf : ax_fx M pc = some (i, len)) (hs : ax_step M i len pc al st h = @ite _ c dc A (some (.inl (pc', al', st', h', 0, 0)))) (hc : ¬ c) (kk : ax_R d M pc' al' st' h' k s Q) : ax_R d M pc al st h k s Q := ax_nx hf (hs.trans (if_neg hc)) kk
theorem ax_if {i : Instr} {len p1 p2 : Nat} {a1 t1 a2 t2 : List Value} {h1 h2 : ax_H} {c : Prop} {dc : Decidable c} (hf : ax_fx M pc = some (i, len)) (hs : ax_step M i len pc al st h = @ite _ c dc (some (.inl (p1, a1, t1, h1, 0, 0))) (some (.inl (p2, a2, t2, h2, 0, 0)))) (kt : c → ax_R d M p1 a1 t1 h1 k s Q) (kf : ¬ c → ax_R d M p2 a2 t2 h2 k s Q) : ax_R d M pc al st h k s Q := by
  by_cases hc : c
  · exact ax_nxt hf hs hc (kt hc)
  · exact ax_nxf hf hs hc (kf hc)
theorem ax_get {ix len o : Nat} {r : List Value} {e : va_E} {v : Value} (hf : ax_fx M pc = some (.getfield ix, len)) (hh : h[o]? = some e) (hv : ax_gfd M ix (some e) = some v) (kk : ax_R d M (pc + 3) al (v :: r) h k s Q) : ax_R d M pc al (.ref o :: r) h k s Q :=
  ax_nx hf (by show ax_psh _ _ _ _ (ax_gfd M ix h[o]?) = _; rw [hh, hv]; rfl) kk
theorem ax_put {ix len o : Nat} {r : List Value} {e e' : va_E} {v : Value} (hf : ax_fx M pc = some (.putfield ix, len)) (hh : h[o]? = some e) (hv : ax_pfd M ix (some e) v = some e') (kk : ax_R d M (pc + 3) al r (h.set o e') k s Q) : ax_R d M pc al (v :: .ref o :: r) h k s Q :=
  ax_nx hf (by show ax_upd _ _ _ _ _ (ax_pfd M ix h[o]? v) = _; rw [hh, hv]; rfl) kk
theorem ax_inb {j : Int32} {n : Nat} (hb : vp_in j n) : ¬ (j < 0 ∨ n ≤ j.toNatClampNeg) := hb
theorem ax_ia {len o n : Nat} {j : Int32} {r : List Value} {f : Nat → Int32} (hf : ax_fx M pc = some (.iaload, len)) (hh : h[o]? = some (.inl (0, n, .inl f))) (hb : vp_in j n) (kk : ax_R d M (pc + 1) al (.int (f j.toNatClampNeg) :: r) h k s Q) : ax_R d M pc al (.int j :: .ref o :: r) h k s Q :=
  ax_nx hf (by show ax_psh _ _ _ _ (ax_ald 0 h[o]? j) = _; rw [hh]; show ax_psh _ _ _ _ (if _ then _ else _) = _; rw [if_neg hb]; rfl) kk
theorem ax_ba {len o n : Nat} {j : Int32} {r : List Value} {f : Nat → Int32} (hf : ax_fx M pc = some (.baload, len)) (hh : h[o]? = some (.inl (1, n, .inl f))) (hb : vp_in j n) (kk : ax_R d M (pc + 1) al (.int (f j.toNatClampNeg) :: r) h k s Q) : ax_R d M pc al (.int j :: .ref o :: r) h k s Q :=
  ax_nx hf (by show ax_psh _ _ _ _ (ax_ald 1 h[o]? j) = _; rw [hh]; show ax_psh _ _ _ _ (if _ then _ else _) = _; rw [if_neg hb]; rfl) kk
theorem ax_la {len o n : Nat} {j : Int32} {r : List Value} {f : Nat → Int64} (hf : ax_fx M pc = some (.laload, len)) (hh : h[o]? = some (.inl (2, n, .inr (.inl f)))) (hb : vp_in j n) (kk : ax_R d M (pc + 1) al (.long (f j.toNatClampNeg) :: r) h k s Q) : ax_R d M pc al (.int j :: .ref o :: r) h k s Q :=
  ax_nx hf (by show ax_psh _ _ _ _ (ax_ald 2 h[o]? j) = _; rw [hh]; show ax_psh _ _ _ _ (if _ then _ else _) = _; rw [if_neg hb]; rfl) kk
theorem ax_ias {len o n : Nat} {j x : Int32} {r : List Value} {f : Nat → Int32} (hf : ax_fx M pc = some (.iastore, len)) (hh : h[o]? = some (.inl (0, n, .inl f))) (hb : vp_in j n) (kk : ax_R d M (pc + 1) al r (h.set o (.inl (0, n, .inl (upd f j.toNatClampNeg x)))) k s Q) : ax_R d M pc al (.int x :: .int j :: .ref o :: r) h k s Q :=
  ax_nx hf (by show ax_upd _ _ _ _ _ (ax_ast 0 h[o]? j (.int x)) = _; rw [hh]; show ax_upd _ _ _ _ _ (if _ then _ else _) = _; rw [if_neg hb]; rfl) kk
theorem ax_bas {len o n : Nat} {j x : Int32} {r : List Value} {f : Nat → Int32} (hf : ax_fx M pc = some (.bastore, len)) (hh : h[o]? = some (.inl (1, n, .inl f))) (hb : vp_in j n) (hx : x = 0 ∨ x = 1) (kk : ax_R d M (pc + 1) al r (h.set o (.inl (1, n, .inl (upd f j.toNatClampNeg x)))) k s Q) : ax_R d M pc al (.int x :: .int j :: .ref o :: r) h k s Q :=
  ax_nx hf (by show ax_upd _ _ _ _ _ (ax_ast 1 h[o]? j (.int x)) = _; rw [hh]; show ax_upd _ _ _ _ _ (if _ then _ else (if _ then _ else _)) = _; rw [if_neg hb, if_pos hx]; rfl) kk
theorem ax_las {len o n : Nat} {j : Int32} {x : Int64} {r : List Value} {f : Nat → Int64} (hf : ax_fx M pc = some (.lastore, len)) (hh : h[o]? = some (.inl (2, n, .inr (.inl f)))) (hb : vp_in j n) (kk : ax_R d M (pc + 1) al r (h.set o (.inl (2, n, .inr (.inl (vp_updL f j.toNatClampNeg x))))) k s Q) : ax_R d M pc al (.long x :: .int j :: .ref o :: r) h k s Q :=
  ax_nx hf (by show ax_upd _ _ _ _ _ (ax_ast 2 h[o]? j (.long x)) = _; rw [hh]; show ax_upd _ _ _ _ _ (if _ then _ else _) = _; rw [if_neg hb]; rfl) kk
theorem ax_al {len o n cA : Nat} {r : List Value} {w : (Nat → Int32) ⊕ (Nat → Int64) ⊕ (Nat → UInt32) ⊕ (Nat → UInt64) ⊕ (Nat → Option Nat)} (hf : ax_fx M pc = some (.arraylength, len)) (hh : h[o]? = some (.inl (cA, n, w))) (kk : ax_R d M (pc + 1) al (.int (nI n) :: r) h k s Q) : ax_R d M pc al (.ref o :: r) h k s Q :=
  ax_nx hf (by show ax_psh _ _ _ _ (ax_len h[o]?) = _; rw [hh]; rfl) kk
theorem ax_call {i : Instr} {len M' : Nat} {as r : List Value} {Q' : ax_P} (hf : ax_fx M pc = some (i, len)) (hs : ax_step M i len pc al st h = some (.inr (.inl (M', as, r)))) (hc : ax_R d M' 0 (ax_in M' as) [] h k s Q')
    (kk : ∀ (o : ax_O) (h' : ax_H) (k' s' : Nat), Q' o h' k' s' → (∃ v : Option Value, o = .inl v ∧ ax_R (d + 1) M (pc + len) al (v.toList ++ r) h' k' s' Q) ∨ (∃ (e hp : Nat), o = .inr e ∧ ax_hd M pc e = some hp ∧ ax_R (d + 1) M hp al [.null] h' k' s' Q)) : ax_R (d + 1) M pc al st h k s Q := by
  obtain ⟨n, o, h2, k2, s2, h3, h4⟩ := hc
  rcases kk o h2 k2 s2 h4 with ⟨v, rfl, n2, o2, h5, k5, s5, h6, h7⟩ | ⟨e, hp, rfl, hh, n2, o2, h5, k5, s5, h6, h7⟩
  · refine ⟨n + n2 + 1, o2, h5, k5, s5, ?_, h7⟩
    rw [ax_run, hf]
    dsimp only
    rw [hs]
    dsimp only
    rw [ax_up h3 (Nat.le_add_right n n2)]
    exact ax_up h6 (Nat.le_add_left n2 n)
  · refine ⟨n + n2 + 1, o2, h5, k5, s5, ?_, h7⟩
    rw [ax_run, hf]
    dsimp only
    rw [hs]
    dsimp only
    rw [ax_up h3 (Nat.le_add_right n n2)]
    dsimp only
    rw [hh]
    exact ax_up h6 (Nat.le_add_left n2 n)
def ax_V (P : Option Value → ax_H → Prop) (k s : Nat) : ax_P := fun o h' k' s' => ∃ v : Option Value, o = .inl v ∧ k' = k ∧ s' = s ∧ P v h'
theorem ax_cal {i : Instr} {len M' : Nat} {as r : List Value} {P : Option Value → ax_H → Prop} (hf : ax_fx M pc = some (i, len)) (hs : ax_step M i len pc al st h = some (.inr (.inl (M', as, r)))) (hc : ax_R d M' 0 (ax_in M' as) [] h k s (ax_V P k s))
    (kk : ∀ (v : Option Value) (h' : ax_H), P v h' → ax_R (d + 1) M (pc + len) al (v.toList ++ r) h' k s Q) : ax_R (d + 1) M pc al st h k s Q :=
  ax_call hf hs hc fun o h' k' s' hq => by
    obtain ⟨v, e1, e2, e3, hp⟩ := hq
    subst e2; subst e3
    exact Or.inl ⟨v, e1, kk v h' hp⟩
theorem ax_ret {i : Instr} {len : Nat} {v : Option Value} (hf : ax_fx M pc = some (i, len)) (hs : ax_step M i len pc al st h = some (.inr (.inr (.inl v)))) (hq : Q (.inl v) h k s) : ax_R d M pc al st h k s Q :=
  ⟨1, _, _, _, _, by rw [ax_run, hf]; dsimp only; rw [hs], hq⟩
theorem ax_thr {i : Instr} {len e : Nat} (hf : ax_fx M pc = some (i, len)) (hs : ax_step M i len pc al st h = some (.inr (.inr (.inr e)))) (hq : Q (.inr e) h (k + 1) (s + 6)) : ax_R d M pc al st h k s Q :=
  ⟨1, _, _, _, _, by rw [ax_run, hf]; dsimp only; rw [hs], hq⟩
theorem ax_top {x y : Int32} {r : List Value} (e : x = y) (kk : ax_R d M pc al (.int y :: r) h k s Q) : ax_R d M pc al (.int x :: r) h k s Q := by rw [e]; exact kk
end AX
