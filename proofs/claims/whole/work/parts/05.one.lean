section AXO
variable {p : Program} {l : Launch} {e : Env} {R : Room} {s : State} {m : MethodId} {args : Array Value} {below : List Frame} {meth : Method} {c : Code} {H : Heap} {locs : List Loc} {cells slots : Nat} {Q : State → Prop}
variable {M : Nat} {D : va_G} {ca : Nat → ClassId} {b n : Nat} {xs : Nat → Int32} {A : Nat → Prop} {ws : va_W} {h : ax_H} {al st stc : List Value} {ls : Array Slot} {pc : Nat}
theorem ax_lt3 {t : Nat} (h : t < 3) : t = 0 ∨ t = 1 ∨ t = 2 := by omega
theorem ax_arr {t o a : Nat} {x : vp_A} (hw : ax_wr ca b n xs h ws) (hc : h[o]? = some (.inl (t, x))) (ht : t < 3) (ha : (ax_ad b ws)[o]? = some a) : ∃ j, o = j + 1 ∧ ws[j]? = some (a, .inl (ca t, x)) := by
  rcases ax_wr_at hw hc ha with ⟨-, -, e⟩ | ⟨j, e', rfl, h2, h3⟩
  · cases e; omega
  · rcases e' with ⟨c', a'⟩ | ⟨cj, gs⟩
    · obtain ⟨-, rfl, rfl⟩ := (h3 : t < 3 ∧ c' = ca t ∧ a' = x)
      exact ⟨j, rfl, h2⟩
    · exact (h3 : False).elim
theorem ax_obj {ci o a : Nat} {fs : List Value} (hw : ax_wr ca b n xs h ws) (hc : h[o]? = some (.inr (ci, fs))) (ha : (ax_ad b ws)[o]? = some a) : ∃ j gs, o = j + 1 ∧ ws[j]? = some (a, .inr (ci, gs)) ∧ ax_vrs (ax_ad b ws) fs gs := by
  rcases ax_wr_at hw hc ha with ⟨-, -, e⟩ | ⟨j, e', rfl, h2, h3⟩
  · cases e
  · rcases e' with ⟨c', a'⟩ | ⟨cj, gs⟩
    · exact (h3 : False).elim
    · obtain ⟨rfl, h4⟩ := (h3 : cj = ci ∧ ax_vrs (ax_ad b ws) fs gs)
      exact ⟨j, gs, rfl, h2, h4⟩
theorem ax_scr {N o a : Nat} {f : Nat → Int32} (hw : ax_wr ca b n xs h ws) (hc : h[o]? = some (.inl (3, N, .inl f))) (ha : (ax_ad b ws)[o]? = some a) : a = b ∧ N = n ∧ f = xs := by
  rcases ax_wr_at hw hc ha with ⟨-, h1, e⟩ | ⟨j, e', rfl, h2, h3⟩
  · cases e; exact ⟨h1, rfl, rfl⟩
  · rcases e' with ⟨c', a'⟩ | ⟨cj, gs⟩
    · exact absurd (h3 : 3 < 3 ∧ c' = ca 3 ∧ a' = (N, .inl f)).1 (Nat.lt_irrefl 3)
    · exact (h3 : False).elim
theorem ax_Jset {j a : Nat} {e0 e1 e1' : va_E} {al' st' stc' : List Value} {ls' : Array Slot} {H1 : Heap} {locs1 : List Loc} (hJ : ax_J M D ca b n xs A s al st h ws H locs ls stc) (hw : ws[j]? = some (a, e0))
    (hP : va_P D ax_cl (ws.set j (a, e1')) H1) (hD : va_D A (ws.set j (a, e1'))) (hS : va_S A s.heap H1 locs1) (he : ax_er (ax_ad b ws) ca e1 e1') (hl : ax_lr (ax_ad b ws) (ax_ml M) al' ls') (hv : ax_vrs (ax_ad b ws) st' stc') : ax_J M D ca b n xs A s al' st' (h.set (j + 1) e1) (ws.set j (a, e1')) H1 locs1 ls' stc' ∧ ∃ E, ax_ad b (ws.set j (a, e1')) = ax_ad b ws ++ E := by
  have ea := ax_ad_set (b := b) (e' := e1') hw
  refine ⟨⟨ax_wr_set hJ.1 hw he, hP, hD, hS, ?_, ?_⟩, [], by rw [ea]; simp⟩
  · rw [ea]; exact hl
  · rw [ea]; exact hv
theorem ax_Jpush {q : Nat} {e1 e1' : va_E} {al' st' stc' : List Value} {ls' : Array Slot} {H1 : Heap} {locs1 : List Loc} (hJ : ax_J M D ca b n xs A s al st h ws H locs ls stc) (hP : va_P D ax_cl (ws ++ [(q, e1')]) H1) (hD : va_D A (ws ++ [(q, e1')])) (hS : va_S A s.heap H1 locs1) (he : ax_er (ax_ad b ws) ca e1 e1') (hl : ax_lr (ax_ad b ws) (ax_ml M) al' ls') (hv : ax_vrs (ax_ad b ws) st' stc') : ax_J M D ca b n xs A s al' (.ref h.length :: st') (h ++ [e1]) (ws ++ [(q, e1')]) H1 locs1 ls' (.ref q :: stc') ∧ ∃ E, ax_ad b (ws ++ [(q, e1')]) = ax_ad b ws ++ E := by
  have ea := ax_ad_push (b := b) (a := q) (e := e1') (ws := ws)
  refine ⟨⟨ax_wr_push hJ.1 he, hP, hD, hS, ?_, ?_⟩, [q], ea⟩
  · rw [ea]; exact ax_lr_app hl
  · rw [ea]
    refine ⟨⟨q, ?_, rfl⟩, ax_vrs_app hv⟩
    have hlen : (ax_ad b ws).length = h.length := by
      show (b :: ws.map (·.1)).length = h.length
      rw [hJ.1.2.1, List.length_cons, List.length_map]
    rw [← hlen, List.getElem?_append_right (Nat.le_refl _), Nat.sub_self]
    rfl
theorem ax_dv_rel {L : List Nat} : ∀ {fs : List Value}, fs.all ax_dv = true → ax_vrs L fs fs
  | [], _ => trivial
  | v :: r, hv => by
    rw [List.all_cons, Bool.and_eq_true] at hv
    refine ⟨?_, ax_dv_rel hv.2⟩
    cases v <;> first | exact rfl | exact Or.inl rfl | (exact absurd hv.1 (by simp [ax_dv]))
theorem ax_sw_sum {L : List Nat} : ∀ {r q : List Value}, ax_vrs L r q → (q.map fun v => v.category).sum = ax_sw r
  | [], q, hq => by
    have := ax_vrs_nil hq
    subst this
    rfl
  | v :: r, q, hq => by
    obtain ⟨w, q2, rfl, h1, h2⟩ := ax_vrs_cons hq
    rw [List.map_cons, List.sum_cons, ax_sw_sum h2, ax_vr_cat h1]
    rfl
theorem ax_sw_le {L : List Nat} {r q : List Value} (hb8 : Nat.ble (ax_sw r) 8 = true) (hq : ax_vrs L r q) : (q.map fun v => v.category).sum ≤ 8 := by
  rw [ax_sw_sum hq]
  exact Nat.le_of_ble_eq_true hb8
set_option maxHeartbeats 4000000 in
theorem ax_one (hX : ax_X M p s m args meth c D ca b n xs) (hA : ∀ q, s.heap.size ≤ q → A q) (hbA : ¬ A b) (hJ : ax_J M D ca b n xs A s al st h ws H locs ls stc) {i : Instr} {len pc' k' s' : Nat} {al' st' : List Value} {h' : ax_H} (hf : ax_fx M pc = some (i, len)) (hs : ax_step M i len pc al st h = some (.inl (pc', al', st', h', k', s')))
    (hroom : cells + k' ≤ R.cells ∧ slots + s' ≤ R.slots) (hR : R.slots ≤ 7292999 ∧ 1 ≤ R.frames ∧ 20 ≤ R.locals)
    (kk : ax_K0 p l e R s m args below meth c cells slots Q M D ca b n xs A ws pc' al' st' h' k' s') : W p l e R s m args below meth c H locs cells slots Q (F0 m pc ls stc) := by
  obtain ⟨hd, hok⟩ := ax_fxo hf
  obtain ⟨hx, hb, hml, hr, hlk, hown, hts, hin, hK, hnw, hXs, hbl⟩ := hX
  cases i with
  | iconst v =>
    have hl : len = 1 := Nat.eq_of_beq_eq_true hok
    subst hl
    exact ax_s_push (v := .int (Int32.ofInt v)) hJ rfl hs (fun k => lv_iconst hx hb hd rfl k) kk
  | bipush v =>
    have hl : len = 2 := Nat.eq_of_beq_eq_true hok
    subst hl
    exact ax_s_push (v := .int (Int8.ofInt v).toInt32) hJ rfl hs (fun k => lv_bipush hx hb hd rfl k) kk
  | sipush v =>
    have hl : len = 3 := Nat.eq_of_beq_eq_true hok
    subst hl
    exact ax_s_push (v := .int (Int16.ofInt v).toInt32) hJ rfl hs (fun k => lv_sipush hx hb hd rfl k) kk
  | lconst v =>
    have hl : len = 1 := Nat.eq_of_beq_eq_true hok
    subst hl
    exact ax_s_push (v := .long (Int64.ofNat (v : Nat))) hJ rfl hs (fun k => lv_lconst hx hb hd rfl k) kk
  | iload_n k =>
    have hl : len = 1 := Nat.eq_of_beq_eq_true hok
    subst hl
    exact ax_s_iload hJ hs (fun hy k9 => lv_iload_n hx hb hd rfl hy k9) kk
  | iload k =>
    have hl : len = 2 := Nat.eq_of_beq_eq_true hok
    subst hl
    exact ax_s_iload hJ hs (fun hy k9 => lv_iload hx hb hd hy k9) kk
  | aload_n k =>
    have hl : len = 1 := Nat.eq_of_beq_eq_true hok
    subst hl
    exact ax_s_aload hJ hs (fun hy k9 => lv_aload_n hx hb hd rfl hy k9) (fun hy k9 => lv_aload_nN hx hb hd rfl hy k9) kk
  | aload k =>
    have hl : len = 2 := Nat.eq_of_beq_eq_true hok
    subst hl
    exact ax_s_aload hJ hs (fun hy k9 => lv_aload hx hb hd hy k9) (fun hy k9 => lv_aloadN hx hb hd hy k9) kk
  | istore_n k =>
    have hl : len = 1 := Nat.eq_of_beq_eq_true hok
    subst hl
    exact ax_s_istore hJ hs (fun h1 h2 h3 h4 => lv_istore_n hx hb hd rfl h1 h2 h3 h4) kk
  | istore k =>
    have hl : len = 2 := Nat.eq_of_beq_eq_true hok
    subst hl
    exact ax_s_istore hJ hs (fun h1 h2 h3 h4 => lv_istore hx hb hd h1 h2 h3 h4) kk
  | astore_n k =>
    have hl : len = 1 := Nat.eq_of_beq_eq_true hok
    subst hl
    exact ax_s_astore hJ hs (fun h1 h2 h3 h4 => lv_astore_n hx hb hd rfl h1 h2 h3 h4) (fun h1 h2 h3 h4 => lv_astore_nN hx hb hd rfl h1 h2 h3 h4) kk
  | astore k =>
    have hl : len = 2 := Nat.eq_of_beq_eq_true hok
    subst hl
    exact ax_s_astore hJ hs (fun h1 h2 h3 h4 => lv_astore hx hb hd h1 h2 h3 h4) (fun h1 h2 h3 h4 => lv_astoreN hx hb hd h1 h2 h3 h4) kk
  | iinc k v =>
    have hl : len = 3 := Nat.eq_of_beq_eq_true hok
    subst hl
    have hs : ax_inc (pc + 3) al st h k v = some (.inl (pc', al', st', h', k', s')) := hs
    unfold ax_inc at hs
    cases hg : al[k]? with
    | none => rw [hg] at hs; cases hs
    | some w =>
      rw [hg] at hs
      cases w with
      | int x =>
        obtain ⟨rfl, rfl, rfl, rfl, rfl, rfl⟩ := ax_go_inj hs
        have h5 := hJ.2.2.2.2.1
        have hm := ax_lv_mem (q := (k, .int x)) |>.mpr (ax_lr_int h5 hg)
        obtain ⟨j, hj⟩ := List.getElem?_of_mem hm
        exact lv_iinc hx hb hd (ax_lv_has h5) hj rfl (by rw [← h5.2.1]; exact (List.getElem?_eq_some_iff.mp hg).1) rfl fun ls' hl' => ax_s_fr hJ kk (ax_lr_set h5 (v := .int (x + Int32.ofInt v)) rfl rfl hl') hJ.2.2.2.2.2
      | ref o => cases hs
      | null => cases hs
      | long x => cases hs
      | float x => cases hs
      | double x => cases hs
      | retAddr x => cases hs
  | iadd =>
    have hl : len = 1 := Nat.eq_of_beq_eq_true hok
    subst hl
    exact ax_s_bin hJ hs (fun k => lv_iadd hx hb hd k) kk
  | isub =>
    have hl : len = 1 := Nat.eq_of_beq_eq_true hok
    subst hl
    exact ax_s_bin hJ hs (fun k => lv_isub hx hb hd k) kk
  | imul =>
    have hl : len = 1 := Nat.eq_of_beq_eq_true hok
    subst hl
    exact ax_s_bin hJ hs (fun k => lv_imul hx hb hd k) kk
  | iand =>
    have hl : len = 1 := Nat.eq_of_beq_eq_true hok
    subst hl
    exact ax_s_bin hJ hs (fun k => lv_iand hx hb hd k) kk
  | ior =>
    have hl : len = 1 := Nat.eq_of_beq_eq_true hok
    subst hl
    exact ax_s_bin hJ hs (fun k => lv_ior hx hb hd k) kk
  | ixor =>
    have hl : len = 1 := Nat.eq_of_beq_eq_true hok
    subst hl
    exact ax_s_bin hJ hs (fun k => lv_ixor hx hb hd k) kk
  | ishl =>
    have hl : len = 1 := Nat.eq_of_beq_eq_true hok
    subst hl
    exact ax_s_bin hJ hs (fun k => lv_ishl hx hb hd k) kk
  | idiv =>
    have hl : len = 1 := Nat.eq_of_beq_eq_true hok
    subst hl
    simp only [ax_step] at hs
    split at hs
    · rename_i y x r
      obtain ⟨q1, rfl, h6⟩ := ax_vrs_int hJ.2.2.2.2.2
      obtain ⟨q2, rfl, h7⟩ := ax_vrs_int h6
      by_cases hy : y = 0
      · rw [if_pos hy] at hs; cases hs
      · rw [if_neg hy] at hs
        obtain ⟨rfl, rfl, rfl, rfl, rfl, rfl⟩ := ax_go_inj hs
        exact lv_idiv hx hb hd hy (ax_s_fr hJ kk hJ.2.2.2.2.1 ⟨rfl, h7⟩)
    · cases hs
  | irem =>
    have hl : len = 1 := Nat.eq_of_beq_eq_true hok
    subst hl
    simp only [ax_step] at hs
    split at hs
    · rename_i y x r
      obtain ⟨q1, rfl, h6⟩ := ax_vrs_int hJ.2.2.2.2.2
      obtain ⟨q2, rfl, h7⟩ := ax_vrs_int h6
      by_cases hy : y = 0
      · rw [if_pos hy] at hs; cases hs
      · rw [if_neg hy] at hs
        obtain ⟨rfl, rfl, rfl, rfl, rfl, rfl⟩ := ax_go_inj hs
        exact lv_irem hx hb hd hy (ax_s_fr hJ kk hJ.2.2.2.2.1 ⟨rfl, h7⟩)
    · cases hs
  | i2l =>
    have hl : len = 1 := Nat.eq_of_beq_eq_true hok
    subst hl
    simp only [ax_step] at hs
    split at hs
    · rename_i x r
      obtain ⟨q1, rfl, h6⟩ := ax_vrs_int hJ.2.2.2.2.2
      obtain ⟨rfl, rfl, rfl, rfl, rfl, rfl⟩ := ax_go_inj hs
      exact lv_i2l hx hb hd rfl (ax_s_fr hJ kk hJ.2.2.2.2.1 ⟨rfl, h6⟩)
    · cases hs
  | lcmp =>
    have hl : len = 1 := Nat.eq_of_beq_eq_true hok
    subst hl
    simp only [ax_step] at hs
    split at hs
    · rename_i y x r
      obtain ⟨q1, rfl, h6⟩ := ax_vrs_long hJ.2.2.2.2.2
      obtain ⟨q2, rfl, h7⟩ := ax_vrs_long h6
      obtain ⟨rfl, rfl, rfl, rfl, rfl, rfl⟩ := ax_go_inj hs
      exact W.lcmp hx hb hd (ax_s_fr hJ kk hJ.2.2.2.2.1 ⟨rfl, h7⟩)
    · cases hs
  | dup =>
    have hl : len = 1 := Nat.eq_of_beq_eq_true hok
    subst hl
    refine ax_s_stk (i := .dup) hJ hs (fun st1 hk => ?_) kk
    cases st with
    | nil => cases hk
    | cons v r =>
      obtain ⟨w, q, rfl, h1, h2⟩ := ax_vrs_cons hJ.2.2.2.2.2
      cases hc : ax_c1 v with
      | false => simp [ax_stk, hc] at hk
      | true =>
        have hk : v :: v :: r = st1 := by simpa [ax_stk, hc] using hk
        subst hk
        exact ⟨w :: w :: q, ⟨h1, h1, h2⟩, fun k => lv_dup hx hb hd (ax_c1_cat hc h1) k⟩
  | pop =>
    have hl : len = 1 := Nat.eq_of_beq_eq_true hok
    subst hl
    refine ax_s_stk (i := .pop) hJ hs (fun st1 hk => ?_) kk
    cases st with
    | nil => cases hk
    | cons v r =>
      obtain ⟨w, q, rfl, h1, h2⟩ := ax_vrs_cons hJ.2.2.2.2.2
      cases hc : ax_c1 v with
      | false => simp [ax_stk, hc] at hk
      | true =>
        have hk : r = st1 := by simpa [ax_stk, hc] using hk
        subst hk
        exact ⟨_, h2, fun k => lv_pop hx hb hd (ax_c1_cat hc h1) k⟩
  | dup_x1 =>
    have hl : len = 1 := Nat.eq_of_beq_eq_true hok
    subst hl
    refine ax_s_stk (i := .dup_x1) hJ hs (fun st1 hk => ?_) kk
    cases st with
    | nil => cases hk
    | cons v r =>
      cases r with
      | nil => cases hk
      | cons v2 r =>
        obtain ⟨w, q, rfl, h1, h2⟩ := ax_vrs_cons hJ.2.2.2.2.2
        obtain ⟨w2, q2, rfl, h3, h4⟩ := ax_vrs_cons h2
        cases hc : ax_c1 v && ax_c1 v2 with
        | false => simp only [ax_stk, hc] at hk; cases hk
        | true =>
          simp only [ax_stk, hc] at hk
          cases hk
          rw [Bool.and_eq_true] at hc
          exact ⟨w :: w2 :: w :: q2, ⟨h1, h3, h1, h4⟩, fun k => lv_dup_x1 hx hb hd (ax_c1_cat hc.1 h1) (ax_c1_cat hc.2 h3) k⟩
  | dup_x2 =>
    have hl : len = 1 := Nat.eq_of_beq_eq_true hok
    subst hl
    refine ax_s_stk (i := .dup_x2) hJ hs (fun st1 hk => ?_) kk
    cases st with
    | nil => cases hk
    | cons v r =>
      cases r with
      | nil => cases hk
      | cons v2 r =>
        cases r with
        | nil => cases hk
        | cons v3 r =>
          obtain ⟨w, q, rfl, h1, h2⟩ := ax_vrs_cons hJ.2.2.2.2.2
          obtain ⟨w2, q2, rfl, h3, h4⟩ := ax_vrs_cons h2
          obtain ⟨w3, q3, rfl, h5, h6⟩ := ax_vrs_cons h4
          cases hc : ax_c1 v && (ax_c1 v2 && ax_c1 v3) with
          | false => simp only [ax_stk, hc] at hk; cases hk
          | true =>
            simp only [ax_stk, hc] at hk
            cases hk
            rw [Bool.and_eq_true, Bool.and_eq_true] at hc
            exact ⟨w :: w2 :: w3 :: w :: q3, ⟨h1, h3, h5, h1, h6⟩, fun k => lv_dup_x2 hx hb hd (ax_c1_cat hc.1 h1) (ax_c1_cat hc.2.1 h3) (ax_c1_cat hc.2.2 h5) k⟩
  | dup2 =>
    have hl : len = 1 := Nat.eq_of_beq_eq_true hok
    subst hl
    refine ax_s_stk (i := .dup2) hJ hs (fun st1 hk => ?_) kk
    cases st with
    | nil => cases hk
    | cons v r =>
      cases r with
      | nil => cases hk
      | cons v2 r =>
        obtain ⟨w, q, rfl, h1, h2⟩ := ax_vrs_cons hJ.2.2.2.2.2
        obtain ⟨w2, q2, rfl, h3, h4⟩ := ax_vrs_cons h2
        cases hc : ax_c1 v && ax_c1 v2 with
        | false => simp only [ax_stk, hc] at hk; cases hk
        | true =>
          simp only [ax_stk, hc] at hk
          cases hk
          rw [Bool.and_eq_true] at hc
          exact ⟨w :: w2 :: w :: w2 :: q2, ⟨h1, h3, h1, h3, h4⟩, fun k => lv_dup2_11 hx hb hd (ax_c1_cat hc.1 h1) (ax_c1_cat hc.2 h3) k⟩
  | ifCond cd off =>
    rw [ax_ok, Bool.and_eq_true, decide_eq_true_eq] at hok
    have hl : len = 3 := Nat.eq_of_beq_eq_true hok.1
    subst hl
    have ht := ax_tg_ok hok.2
    simp only [ax_step] at hs
    split at hs
    · rename_i x r
      obtain ⟨q, rfl, h6⟩ := ax_vrs_int hJ.2.2.2.2.2
      cases cd with
      | eq => exact ax_s_if hJ h6 hs (fun kt kf => lv_if_eq hx hb hd ht kt kf) kk
      | ne => exact ax_s_if hJ h6 hs (fun kt kf => lv_if_ne hx hb hd ht kf kt) kk
      | lt => exact ax_s_if hJ h6 hs (fun kt kf => lv_if_lt hx hb hd ht kt kf) kk
      | ge => exact ax_s_if hJ h6 hs (fun kt kf => lv_if_ge hx hb hd ht kt kf) kk
      | gt => exact ax_s_if hJ h6 hs (fun kt kf => lv_if_gt hx hb hd ht kt kf) kk
      | le => exact ax_s_if hJ h6 hs (fun kt kf => lv_if_le hx hb hd ht kt kf) kk
    · cases hs
  | if_icmp cd off =>
    rw [ax_ok, Bool.and_eq_true, decide_eq_true_eq] at hok
    have hl : len = 3 := Nat.eq_of_beq_eq_true hok.1
    subst hl
    have ht := ax_tg_ok hok.2
    simp only [ax_step] at hs
    split at hs
    · rename_i y x r
      obtain ⟨q1, rfl, h5⟩ := ax_vrs_int hJ.2.2.2.2.2
      obtain ⟨q, rfl, h6⟩ := ax_vrs_int h5
      cases cd with
      | eq => exact ax_s_if hJ h6 hs (fun kt kf => lv_icmp_eq hx hb hd ht kt kf) kk
      | ne => exact ax_s_if hJ h6 hs (fun kt kf => lv_icmp_ne hx hb hd ht kf kt) kk
      | lt => exact ax_s_if hJ h6 hs (fun kt kf => lv_icmp_lt hx hb hd ht kt kf) kk
      | ge => exact ax_s_if hJ h6 hs (fun kt kf => lv_icmp_ge hx hb hd ht kt kf) kk
      | gt => exact ax_s_if hJ h6 hs (fun kt kf => lv_icmp_gt hx hb hd ht kt kf) kk
      | le => exact ax_s_if hJ h6 hs (fun kt kf => lv_icmp_le hx hb hd ht kt kf) kk
    · cases hs
  | goto off =>
    rw [ax_ok, Bool.and_eq_true, decide_eq_true_eq] at hok
    have hl : len = 3 := Nat.eq_of_beq_eq_true hok.1
    subst hl
    have ht := ax_tg_ok hok.2
    have hs : ax_go (ax_tg pc off) al st h = some (.inl (pc', al', st', h', k', s')) := hs
    obtain ⟨rfl, rfl, rfl, rfl, rfl, rfl⟩ := ax_go_inj hs
    exact lv_goto hx hb hd ht (ax_s_fr hJ kk hJ.2.2.2.2.1 hJ.2.2.2.2.2)
  | tableswitch dflt lo hi offs =>
    rw [ax_ok, Bool.and_eq_true, decide_eq_true_eq] at hok
    simp only [ax_step] at hs
    split at hs
    · rename_i x r
      obtain ⟨q, rfl, h6⟩ := ax_vrs_int hJ.2.2.2.2.2
      unfold ax_tsw at hs
      by_cases hc : x.toInt < lo ∨ hi < x.toInt
      · rw [if_pos hc] at hs
        obtain ⟨rfl, rfl, rfl, rfl, rfl, rfl⟩ := ax_go_inj hs
        exact lv_tableOut hx hb hd hc (ax_tg_ok hok.1) (ax_s_fr hJ kk hJ.2.2.2.2.1 h6)
      · rw [if_neg hc] at hs
        cases ho : offs[(x.toInt - lo).toNat]? with
        | none => rw [ho] at hs; cases hs
        | some off =>
          rw [ho] at hs
          have hs : ax_go (ax_tg pc off) al r h = some (.inl (pc', al', st', h', k', s')) := hs
          obtain ⟨rfl, rfl, rfl, rfl, rfl, rfl⟩ := ax_go_inj hs
          have hm : off ∈ offs.toList := by
            rw [← Array.getElem?_toList] at ho
            exact List.mem_of_getElem? ho
          have ht := of_decide_eq_true (List.all_eq_true.mp hok.2 off hm)
          exact lv_tableIn hx hb hd (fun q => hc (Or.inl q)) (fun q => hc (Or.inr q)) ho (ax_tg_ok ht) (ax_s_fr hJ kk hJ.2.2.2.2.1 h6)
    · cases hs
  | lookupswitch dflt ps =>
    rw [ax_ok, Bool.and_eq_true, Bool.and_eq_true, decide_eq_true_eq] at hok
    simp only [ax_step] at hs
    split at hs
    · rename_i x r
      obtain ⟨q, rfl, h6⟩ := ax_vrs_int hJ.2.2.2.2.2
      have hs : ax_go (ax_tg pc (Op.lookupswitch.offset ps.toList dflt x.toInt)) al r h = some (.inl (pc', al', st', h', k', s')) := hs
      obtain ⟨rfl, rfl, rfl, rfl, rfl, rfl⟩ := ax_go_inj hs
      have ht : 0 ≤ (pc : Int) + Op.lookupswitch.offset ps.toList dflt x.toInt := by
        have key : ∀ t : List (Int × Int), t.all (fun q => decide (0 ≤ (pc : Int) + q.2)) = true → 0 ≤ (pc : Int) + Op.lookupswitch.offset t dflt x.toInt := by
          intro t
          induction t with
          | nil => intro _; exact hok.1
          | cons y t ih =>
            intro hy
            rw [List.all_cons, Bool.and_eq_true, decide_eq_true_eq] at hy
            obtain ⟨y1, y2⟩ := y
            rw [Op.lookupswitch.offset_cons]
            split
            · exact hy.1
            · exact ih hy.2
        exact key _ hok.2.1
      exact lv_lookup hx hb hd hok.2.2 rfl (ax_tg_ok ht) (ax_s_fr hJ kk hJ.2.2.2.2.1 h6)
    · cases hs
  | getfield ix =>
    have hl : len = 3 := Nat.eq_of_beq_eq_true hok
    subst hl
    simp only [ax_step] at hs
    split at hs
    · rename_i o r
      obtain ⟨x, hv, e1⟩ := ax_psh_inj hs
      cases e1
      obtain ⟨ci, fs, q, hc, hq, hg⟩ := ax_gfd_spec hv
      obtain ⟨k, ty, fin⟩ := q
      obtain ⟨C, T, N, f1, f2, f3, f4, f5, f6⟩ := ax_fldo hq
      obtain ⟨o1, o2, o3⟩ := ax_clo _ (List.mem_of_getElem? f1)
      obtain ⟨a, q, rfl, ha, h6⟩ := ax_vrs_ref hJ.2.2.2.2.2
      obtain ⟨j, gs, rfl, hw, hgs⟩ := ax_obj hJ.1 hc ha
      obtain ⟨w, hw1, hw2⟩ := ax_vrs_get hgs hg
      exact va_get hx hb hts o1 hown hK hJ.2.1 j hw f1 k f2 (hts _ f3) (fun _ h9 => h9) hw1 hd (ax_s_fr hJ kk hJ.2.2.2.2.1 ⟨hw2, h6⟩)
    · cases hs
  | putfield ix =>
    have hl : len = 3 := Nat.eq_of_beq_eq_true hok
    subst hl
    simp only [ax_step] at hs
    split at hs
    · rename_i v o r
      obtain ⟨x, hv, e1⟩ := ax_upd_inj hs
      cases e1
      obtain ⟨ci, fs, k, ty, fin, hc, hq, hfin, hfit, hlen, rfl⟩ := ax_pfd_spec hv
      obtain ⟨C, T, N, f1, f2, f3, f4, f5, f6⟩ := ax_fldo hq
      obtain ⟨o1, o2, ty0, o3⟩ := ax_clo _ (List.mem_of_getElem? f1)
      obtain ⟨w, q1, rfl, hvw, h5⟩ := ax_vrs_cons hJ.2.2.2.2.2
      obtain ⟨a, q, rfl, ha, h6⟩ := ax_vrs_ref h5
      obtain ⟨j, gs, rfl, hw, hgs⟩ := ax_obj hJ.1 hc ha
      obtain ⟨t, g1, g2, g3⟩ := ax_tk_spec f6 hfit hvw
      have hlen2 : k < gs.length := by rw [← ax_vrs_len hgs]; exact hlen
      cases fin with
      | false =>
        refine va_put hx hb hts o1 ty0 o3 o2 hown hK hJ.2.1 hJ.2.2.1 hJ.2.2.2.1 j hw f1 k f2 (hts _ f3) (fun _ h9 => h9) f4 g1 g2 g3 hlen2 hd (fun H1 locs1 hP hD hS => ?_)
        obtain ⟨hJ2, hE⟩ := ax_Jset (e1 := .inr (ci, fs.set k v)) hJ hw hP hD hS ⟨rfl, ax_vrs_set hgs hvw⟩ hJ.2.2.2.2.1 h6
        exact kk _ _ _ _ _ hJ2 hE
      | true =>
        refine va_putF hx hb hts o1 ty0 o3 o2 hown hK hJ.2.1 hJ.2.2.1 hJ.2.2.2.1 j hw f1 k f2 (hts _ f3) (fun _ h9 => h9) f4 (hin (hfin rfl)) (f5 rfl) g1 g2 g3 hlen2 hd (fun H1 locs1 hP hD hS => ?_)
        obtain ⟨hJ2, hE⟩ := ax_Jset (e1 := .inr (ci, fs.set k v)) hJ hw hP hD hS ⟨rfl, ax_vrs_set hgs hvw⟩ hJ.2.2.2.2.1 h6
        exact kk _ _ _ _ _ hJ2 hE
    · cases hs
  | iaload =>
    have hl : len = 1 := Nat.eq_of_beq_eq_true hok
    subst hl
    simp only [ax_step] at hs
    split at hs
    · rename_i jj o r
      obtain ⟨x, hv, e1⟩ := ax_psh_inj hs
      cases e1
      obtain ⟨q1, rfl, h5⟩ := ax_vrs_int hJ.2.2.2.2.2
      obtain ⟨a, q, rfl, ha, h6⟩ := ax_vrs_ref h5
      rcases ax_ald_spec hv with ⟨N, f, hc, -, hi, rfl⟩ | ⟨N, f, hc, -, hi, rfl⟩ | ⟨N, f, hc, hw, -⟩ | ⟨N, f, hc, hw, -⟩
      · obtain ⟨j, rfl, hw⟩ := ax_arr hJ.1 hc (by decide) ha
        exact va_iald hx hb hK hJ.2.1 j 0 hw rfl hi hd (ax_s_fr hJ kk hJ.2.2.2.2.1 ⟨rfl, h6⟩)
      · obtain ⟨rfl, rfl, rfl⟩ := ax_scr hJ.1 hc ha
        exact va_sld hx hb hXs hbl hbA hJ.2.2.2.1 hi hd (ax_s_fr hJ kk hJ.2.2.2.2.1 ⟨rfl, h6⟩)
      · cases hw
      · cases hw
    · cases hs
  | baload =>
    have hl : len = 1 := Nat.eq_of_beq_eq_true hok
    subst hl
    simp only [ax_step] at hs
    split at hs
    · rename_i jj o r
      obtain ⟨x, hv, e1⟩ := ax_psh_inj hs
      cases e1
      obtain ⟨q1, rfl, h5⟩ := ax_vrs_int hJ.2.2.2.2.2
      obtain ⟨a, q, rfl, ha, h6⟩ := ax_vrs_ref h5
      rcases ax_ald_spec hv with ⟨N, f, hc, hw, -⟩ | ⟨N, f, hc, hw, -⟩ | ⟨N, f, hc, -, hi, rfl⟩ | ⟨N, f, hc, hw, -⟩
      · cases hw
      · cases hw
      · obtain ⟨j, rfl, hw⟩ := ax_arr hJ.1 hc (by decide) ha
        exact va_zald hx hb hK hJ.2.1 j 1 hw rfl hi hd (ax_s_fr hJ kk hJ.2.2.2.2.1 ⟨rfl, h6⟩)
      · cases hw
    · cases hs
  | laload =>
    have hl : len = 1 := Nat.eq_of_beq_eq_true hok
    subst hl
    simp only [ax_step] at hs
    split at hs
    · rename_i jj o r
      obtain ⟨x, hv, e1⟩ := ax_psh_inj hs
      cases e1
      obtain ⟨q1, rfl, h5⟩ := ax_vrs_int hJ.2.2.2.2.2
      obtain ⟨a, q, rfl, ha, h6⟩ := ax_vrs_ref h5
      rcases ax_ald_spec hv with ⟨N, f, hc, hw, -⟩ | ⟨N, f, hc, hw, -⟩ | ⟨N, f, hc, hw, -⟩ | ⟨N, f, hc, -, hi, rfl⟩
      · cases hw
      · cases hw
      · cases hw
      · obtain ⟨j, rfl, hw⟩ := ax_arr hJ.1 hc (by decide) ha
        exact va_lald hx hb hK hJ.2.1 j 2 hw rfl hi hd (ax_s_fr hJ kk hJ.2.2.2.2.1 ⟨rfl, h6⟩)
    · cases hs
  | iastore =>
    have hl : len = 1 := Nat.eq_of_beq_eq_true hok
    subst hl
    simp only [ax_step] at hs
    split at hs
    · rename_i v jj o r
      obtain ⟨x, hv, e1⟩ := ax_upd_inj hs
      cases e1
      rcases ax_ast_spec hv with ⟨N, f, y, hc, -, hi, rfl, rfl⟩ | ⟨N, f, y, hc, hw, -⟩ | ⟨N, f, y, hc, hw, -⟩
      · obtain ⟨q0, rfl, h4⟩ := ax_vrs_int hJ.2.2.2.2.2
        obtain ⟨q1, rfl, h5⟩ := ax_vrs_int h4
        obtain ⟨a, q, rfl, ha, h6⟩ := ax_vrs_ref h5
        obtain ⟨j, rfl, hw⟩ := ax_arr hJ.1 hc (by decide) ha
        refine va_iast hx hb hK hJ.2.1 hJ.2.2.1 hJ.2.2.2.1 j 0 hw rfl hi hd (fun H1 locs1 hP hD hS => ?_)
        obtain ⟨hJ2, hE⟩ := ax_Jset (e1 := .inl (0, N, .inl (upd f jj.toNatClampNeg y))) hJ hw hP hD hS ⟨by decide, rfl, rfl⟩ hJ.2.2.2.2.1 h6
        exact kk _ _ _ _ _ hJ2 hE
      · cases hw
      · cases hw
    · cases hs
  | bastore =>
    have hl : len = 1 := Nat.eq_of_beq_eq_true hok
    subst hl
    simp only [ax_step] at hs
    split at hs
    · rename_i v jj o r
      obtain ⟨x, hv, e1⟩ := ax_upd_inj hs
      cases e1
      rcases ax_ast_spec hv with ⟨N, f, y, hc, hw, -⟩ | ⟨N, f, y, hc, -, hi, hy, rfl, rfl⟩ | ⟨N, f, y, hc, hw, -⟩
      · cases hw
      · obtain ⟨q0, rfl, h4⟩ := ax_vrs_int hJ.2.2.2.2.2
        obtain ⟨q1, rfl, h5⟩ := ax_vrs_int h4
        obtain ⟨a, q, rfl, ha, h6⟩ := ax_vrs_ref h5
        obtain ⟨j, rfl, hw⟩ := ax_arr hJ.1 hc (by decide) ha
        have hny : vp_nar .boolean y = y := by rcases hy with rfl | rfl <;> rfl
        refine va_zast hx hb hK hJ.2.1 hJ.2.2.1 hJ.2.2.2.1 j 1 hw rfl hi hd (fun H1 locs1 hP hD hS => ?_)
        rw [hny] at hP hD
        obtain ⟨hJ2, hE⟩ := ax_Jset (e1 := .inl (1, N, .inl (upd f jj.toNatClampNeg y))) hJ hw hP hD hS ⟨by decide, rfl, rfl⟩ hJ.2.2.2.2.1 h6
        exact kk _ _ _ _ _ hJ2 hE
      · cases hw
    · cases hs
  | lastore =>
    have hl : len = 1 := Nat.eq_of_beq_eq_true hok
    subst hl
    simp only [ax_step] at hs
    split at hs
    · rename_i v jj o r
      obtain ⟨x, hv, e1⟩ := ax_upd_inj hs
      cases e1
      rcases ax_ast_spec hv with ⟨N, f, y, hc, hw, -⟩ | ⟨N, f, y, hc, hw, -⟩ | ⟨N, f, y, hc, -, hi, rfl, rfl⟩
      · cases hw
      · cases hw
      · obtain ⟨q0, rfl, h4⟩ := ax_vrs_long hJ.2.2.2.2.2
        obtain ⟨q1, rfl, h5⟩ := ax_vrs_int h4
        obtain ⟨a, q, rfl, ha, h6⟩ := ax_vrs_ref h5
        obtain ⟨j, rfl, hw⟩ := ax_arr hJ.1 hc (by decide) ha
        refine va_last hx hb hK hJ.2.1 hJ.2.2.1 hJ.2.2.2.1 j 2 hw rfl hi hd (fun H1 locs1 hP hD hS => ?_)
        obtain ⟨hJ2, hE⟩ := ax_Jset (e1 := .inl (2, N, .inr (.inl (vp_updL f jj.toNatClampNeg y)))) hJ hw hP hD hS ⟨by decide, rfl, rfl⟩ hJ.2.2.2.2.1 h6
        exact kk _ _ _ _ _ hJ2 hE
    · cases hs
  | arraylength =>
    have hl : len = 1 := Nat.eq_of_beq_eq_true hok
    subst hl
    simp only [ax_step] at hs
    split at hs
    · rename_i o r
      obtain ⟨x, hv, e1⟩ := ax_psh_inj hs
      cases e1
      obtain ⟨a, q, rfl, ha, h6⟩ := ax_vrs_ref hJ.2.2.2.2.2
      unfold ax_len at hv
      split at hv
      · rename_i t N w hc
        cases hv
        rcases ax_wr_at hJ.1 hc ha with ⟨rfl, rfl, e1⟩ | ⟨j, e', rfl, h2, h3⟩
        · cases e1
          exact va_slen hx hb hXs hbl hbA hJ.2.2.2.1 hd (ax_s_fr hJ kk hJ.2.2.2.2.1 ⟨rfl, h6⟩)
        · rcases e' with ⟨c', a'⟩ | ⟨cj, gs⟩
          · obtain ⟨ht, rfl, rfl⟩ := (h3 : t < 3 ∧ c' = ca t ∧ a' = (N, w))
            have hty : ∃ ty, (ax_ty ca)[t]? = some (ca t, ty) := by
              rcases (show (t : Nat) = 0 ∨ (t : Nat) = 1 ∨ (t : Nat) = 2 from ax_lt3 ht) with rfl | rfl | rfl
              · exact ⟨_, rfl⟩
              · exact ⟨_, rfl⟩
              · exact ⟨_, rfl⟩
            obtain ⟨ty, hty⟩ := hty
            exact va_alen hx hb hK hJ.2.1 j t h2 hty rfl hd (ax_s_fr hJ kk hJ.2.2.2.2.1 ⟨rfl, h6⟩)
          · exact (h3 : False).elim
      · cases hv
    · cases hs
  | new ix =>
    have hl : len = 3 := Nat.eq_of_beq_eq_true hok
    subst hl
    simp only [ax_step] at hs
    unfold ax_new1 at hs
    split at hs
    · rename_i ci fs hn
      cases hs
      obtain ⟨C, T, N, f1, f2, f3, f4, f5, f6, f7⟩ := ax_newo hn
      obtain ⟨o1, o2, ty0, o3⟩ := ax_clo _ (List.mem_of_getElem? f1)
      subst f5
      refine va_new hx hb hts o1 ty0 o3 hown (hts _ f2) (hts _ f3) (hts _ f4) hK hJ.2.1 hJ.2.2.1 hJ.2.2.2.1 hA f1 (fs := fs) (fun j hj => ?_) hroom.1 hroom.2 hd (fun q H1 hP hD hS => ?_)
      · have := f7 j hj
        rw [o3 j hj] at this
        exact Option.some.inj this
      · obtain ⟨hJ2, hE⟩ := ax_Jpush (e1 := .inr (ci, fs)) hJ hP hD hS ⟨rfl, ax_dv_rel f6⟩ hJ.2.2.2.2.1 hJ.2.2.2.2.2
        exact kk _ _ _ _ _ hJ2 hE
    · split at hs <;> cases hs
    · cases hs
  | newarray t =>
    have hl : len = 2 := Nat.eq_of_beq_eq_true hok
    subst hl
    simp only [ax_step] at hs
    split at hs
    · rename_i v r
      by_cases hneg : v < 0
      · rw [if_pos hneg] at hs; cases hs
      rw [if_neg hneg] at hs
      obtain ⟨q0, rfl, h6⟩ := ax_vrs_int hJ.2.2.2.2.2
      have same : ∀ {ty : FieldType} {cA : ClassId} (j : Nat), (ax_ty ca)[j]? = some (ca j, ty) → (∀ C, ty ≠ .object C) → va_K D ax_cl (ax_ty ca ++ [(cA, ty)]) s → cA = ca j := by
        intro ty cA j hj hno hK2
        have h1 := (hK.2 j _ hj).2
        have h2 := (hK2.2 3 (cA, ty) rfl).2
        unfold va_RA at h1 h2
        cases ty with
        | object C => exact absurd rfl (hno C)
        | _ => exact Option.some.inj (h2.symm.trans h1)
      cases t with
      | int =>
        cases hs
        refine va_newa (atype := .int) (ty := .int) hx hb (hts _ ax_w_int) rfl hK hJ.2.1 hJ.2.2.1 hJ.2.2.2.1 hA (a0 := (v.toNatClampNeg, .inl (fun _ => 0))) (fun cA => rfl) hneg rfl (by have := hroom.2; have := hR.1; show v.toNatClampNeg * 4 ≤ 536870912; omega) hroom.1 hroom.2 hd (fun q cA H1 hK2 hP hD hS => ?_)
        have ec := same 0 rfl (fun C h => by cases h) hK2
        subst ec
        obtain ⟨hJ2, hE⟩ := ax_Jpush (e1 := .inl (0, v.toNatClampNeg, .inl (fun _ => 0))) hJ hP hD hS ⟨by decide, rfl, rfl⟩ hJ.2.2.2.2.1 h6
        exact kk _ _ _ _ _ hJ2 hE
      | boolean =>
        cases hs
        refine va_newa (atype := .boolean) (ty := .boolean) hx hb (hts _ ax_w_bool) rfl hK hJ.2.1 hJ.2.2.1 hJ.2.2.2.1 hA (a0 := (v.toNatClampNeg, .inl (fun _ => 0))) (fun cA => rfl) hneg rfl (by have := hroom.2; have := hR.1; show v.toNatClampNeg * 1 ≤ 536870912; omega) hroom.1 hroom.2 hd (fun q cA H1 hK2 hP hD hS => ?_)
        have ec := same 1 rfl (fun C h => by cases h) hK2
        subst ec
        obtain ⟨hJ2, hE⟩ := ax_Jpush (e1 := .inl (1, v.toNatClampNeg, .inl (fun _ => 0))) hJ hP hD hS ⟨by decide, rfl, rfl⟩ hJ.2.2.2.2.1 h6
        exact kk _ _ _ _ _ hJ2 hE
      | long =>
        cases hs
        refine va_newa (atype := .long) (ty := .long) hx hb (hts _ ax_w_long) rfl hK hJ.2.1 hJ.2.2.1 hJ.2.2.2.1 hA (a0 := (v.toNatClampNeg, .inr (.inl (fun _ => 0)))) (fun cA => rfl) hneg rfl (by have := hroom.2; have := hR.1; show v.toNatClampNeg * 8 ≤ 536870912; omega) hroom.1 hroom.2 hd (fun q cA H1 hK2 hP hD hS => ?_)
        have ec := same 2 rfl (fun C h => by cases h) hK2
        subst ec
        obtain ⟨hJ2, hE⟩ := ax_Jpush (e1 := .inl (2, v.toNatClampNeg, .inr (.inl (fun _ => 0)))) hJ hP hD hS ⟨by decide, rfl, rfl⟩ hJ.2.2.2.2.1 h6
        exact kk _ _ _ _ _ hJ2 hE
      | char => cases hs
      | float => cases hs
      | double => cases hs
      | byte => cases hs
      | short => cases hs
    · cases hs
  | invokespecial ix =>
    have hl : len = 3 := Nat.eq_of_beq_eq_true hok
    subst hl
    simp only [ax_step] at hs
    split at hs
    · unfold ax_spc at hs
      split at hs
      · split at hs <;> cases hs
      · cases hs
    · rename_i hsp
      split at hs
      · rename_i o r
        cases hb8 : Nat.ble (ax_sw r) 8 with
        | false => rw [hb8] at hs; cases hs
        | true =>
          rw [hb8] at hs
          obtain ⟨rfl, rfl, rfl, rfl, rfl, rfl⟩ := ax_go_inj hs
          obtain ⟨a, q, rfl, ha, h6⟩ := ax_vrs_ref hJ.2.2.2.2.2
          have hsw := ax_sw_le hb8 h6
          exact W.objInit hx hb hown (hts _ (ax_speo hsp)) (hts _ ax_w_oi) (hts _ ax_w_oc) rfl (by rw [hml]; exact hJ.2.2.2.2.1.1) rfl hd hR.2.1 (by have := hR.2.2; show 2 * 0 + _ + 12 ≤ R.locals; omega) (ax_s_fr hJ kk hJ.2.2.2.2.1 h6)
      · cases hs
    · cases hs
  | invokevirtual ix =>
    simp only [ax_step] at hs
    split at hs
    · unfold ax_inv at hs
      split at hs
      · split at hs <;> cases hs
      · cases hs
    · cases hs
  | invokestatic ix =>
    simp only [ax_step] at hs
    split at hs
    · split at hs <;> cases hs
    · cases hs
  | ireturn =>
    simp only [ax_step] at hs
    split at hs
    · split at hs
      · split at hs <;> cases hs
      · cases hs
    · cases hs
  | return_ =>
    simp only [ax_step] at hs
    split at hs
    · cases hs
    · cases hs
  | _ => cases hs
end AXO
