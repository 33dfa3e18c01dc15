theorem nI_and (p q : Nat) : nI p &&& nI q = nI (p &&& q) := by
  apply Int32.toBitVec_inj.mp
  rw [Int32.toBitVec_and]
  show BitVec.ofNat 32 p &&& BitVec.ofNat 32 q = BitVec.ofNat 32 (p &&& q)
  apply BitVec.eq_of_getLsbD_eq
  intro i hi
  simp [BitVec.getLsbD_ofNat, hi, Nat.testBit_and]
def nc (c b v : Nat) : Nat := if v &&& b = 0 then 1 else c
theorem nc_pos {c b v : Nat} (hc : 0 < c) : 0 < nc c b v := by
  unfold nc
  by_cases h : v &&& b = 0
  · rw [if_pos h]; omega
  · rw [if_neg h]; exact hc
theorem nc_le {c b v : Nat} (hc : 0 < c) : nc c b v ≤ c := by
  unfold nc
  by_cases h : v &&& b = 0
  · rw [if_pos h]; omega
  · rw [if_neg h]; omega
def cl (ys : Nat) (D : dr_L) : Nat → Nat → tm_T → List Nat → tm_T × List Nat × List wl_L
  | 0, _, T, Z => (T, Z, [])
  | m + 1, k, T, Z => ((cl ys D m (k + 1) (ins (k / ys) (k % ys) D T Z).1 (ins (k / ys) (k % ys) D T Z).2.1).1, (cl ys D m (k + 1) (ins (k / ys) (k % ys) D T Z).1 (ins (k / ys) (k % ys) D T Z).2.1).2.1, (ins (k / ys) (k % ys) D T Z).2.2 :: (cl ys D m (k + 1) (ins (k / ys) (k % ys) D T Z).1 (ins (k / ys) (k % ys) D T Z).2.1).2.2)
theorem cl_ok {c ys N : Nat} (hN : N ≤ 20) {D : dr_L} (hD : din N D) : ∀ {m k : Nat} {T : tm_T} {Z : List Nat}, (∀ j, j < k + m → j / ys < c ∧ j % ys < c) → tm_wf c T → th_wf c T Z → N ≤ T.length → (∃ S, (cl ys D m k T Z).1 = T ++ S) ∧ (∃ S, (cl ys D m k T Z).2.1 = Z ++ S) ∧ tm_wf c (cl ys D m k T Z).1 ∧ th_wf c (cl ys D m k T Z).1 (cl ys D m k T Z).2.1 ∧ (∀ l, l ∈ (cl ys D m k T Z).2.2 → wl_in (cl ys D m k T Z).2.1.length l ∧ l.map (fun q => q.2.2) = D.map (fun q => q.2.2)) ∧ (cl ys D m k T Z).2.2.length = m := by
  intro m
  induction m with
  | zero => intro k T Z _ hT hZ _; exact ⟨⟨[], by simp [cl]⟩, ⟨[], by simp [cl]⟩, hT, hZ, (fun l hl => by cases hl), rfl⟩
  | succ m ih =>
    intro k T Z hk hT hZ hNT
    obtain ⟨hx, hy⟩ := hk k (by omega)
    obtain ⟨⟨S1, a1⟩, ⟨S2, a2⟩, a3, a4, a5, a6⟩ := ins_ok hx hy hN hT hZ hNT hD
    rw [cl]
    generalize ins (k / ys) (k % ys) D T Z = R1 at *
    obtain ⟨T1, Z1, l1⟩ := R1
    dsimp only at *
    obtain ⟨⟨S3, b1⟩, ⟨S4, b2⟩, b3, b4, b5, b6⟩ := ih (k := k + 1) (T := T1) (Z := Z1) (fun j hj => hk j (by omega)) a3 a4 (by rw [a1, List.length_append]; omega)
    refine ⟨⟨S1 ++ S3, by rw [b1, a1, List.append_assoc]⟩, ⟨S2 ++ S4, by rw [b2, a2, List.append_assoc]⟩, b3, b4, fun l hl => ?_, by rw [List.length_cons, b6]⟩
    rcases List.mem_cons.mp hl with rfl | hl
    · exact ⟨a5.mono (by rw [b2, List.length_append]; omega), a6⟩
    · exact b5 l hl
theorem ct_at.take {c : Nat} {T S : tm_T} {f : Nat → Int32} {a : Nat → Nat → Int32} (h : ct_at c (T ++ S) f a) (hT : tm_wf c T) : ct_at c T (upd f 7 (nI T.length)) a := by
  obtain ⟨h1, h2, h3, h4, h5⟩ := h
  rw [List.length_append] at h2 h5
  refine ⟨hT, by omega, rfl, fun i e hi => h4 i e (tm_app hi), fun i hi => ?_⟩
  rw [h5 i (by omega), tm_V_app hT hi]
theorem zk_at.take {c : Nat} {T S : tm_T} {Z S2 : List Nat} {f : Nat → Int32} {a : Nat → Nat → Int32} (h : zk_at (T ++ S) (Z ++ S2) f a) (hZ : th_wf c T Z) : zk_at T Z (upd f 8 (nI Z.length)) a := by
  obtain ⟨K, ⟨h1, h2, h3, h4, h5⟩, h6⟩ := h
  rw [List.length_append] at h4
  have hk : (K.take Z.length).length = Z.length := by rw [List.length_take]; omega
  refine ⟨K.take Z.length, ⟨by omega, by rw [hk]; rfl, fun i e hi => ?_, hk.symm, fun i t hi => h5 i t (tm_app hi)⟩, h6.take hZ⟩
  have := tm_lt hi
  rw [List.getElem?_take, if_pos (by omega)] at hi
  exact h3 i e hi
theorem dm1 {k ys : Nat} (hy : 0 < ys) (h : k % ys + 1 < ys) : (k + 1) / ys = k / ys ∧ (k + 1) % ys = k % ys + 1 := by
  have e : k + 1 = ys * (k / ys) + (k % ys + 1) := by have := Nat.div_add_mod k ys; omega
  constructor
  · rw [e, Nat.mul_add_div hy, Nat.div_eq_of_lt h, Nat.add_zero]
  · rw [e, Nat.mul_add_mod, Nat.mod_eq_of_lt h]
theorem dm2 {k ys : Nat} (hy : 0 < ys) (h : k % ys + 1 = ys) : (k + 1) / ys = k / ys + 1 ∧ (k + 1) % ys = 0 := by
  have e : k + 1 = ys * (k / ys + 1) := by have := Nat.div_add_mod k ys; rw [Nat.mul_add, Nat.mul_one]; omega
  constructor
  · rw [e, Nat.mul_div_cancel_left _ hy]
  · rw [e, Nat.mul_mod_right]
theorem wl_kp_len (l : wl_L) : (wl_kp l).toList.length ≤ 1 := by
  cases wl_kp l <;> simp
def td_Q (n : Nat) (xs : Nat → Int32) (o : Nat → Int64) (c w : Nat) (T : tm_T) (Z : List Nat) (P : List (Int32 × Int32)) (R : tm_T × List Nat × List (Int32 × Int32)) (f : Nat → Int32) (a : Nat → Nat → Int32) (k s : Nat) : ax_P := ax_V (fun v h' => ∃ f' a', h' = hp n xs f' a' o ∧ ag [1, 2, 3, 4, 5, 6, 7, 8, 10] [7, 9, 10, 16, 17, 18, 19, 21, 22, 23, 24] f a f' a' ∧ ((v = some (.int (nI w)) ∧ ct_at c R.1 f' a' ∧ zk_at R.1 R.2.1 f' a' ∧ ci_at R.2.2 f' a' ∧ f' 10 = f 10 + 1) ∨ (v = some (.int (-1)) ∧ (20 < R.1.length ∨ 8 < R.2.1.length) ∧ ct_at c T f' a' ∧ zk_at T Z f' a' ∧ ci_at P f' a' ∧ f' 10 = f 10))) k s
theorem nI_mul (p q : Nat) : nI p * nI q = nI (p * q) := by
  apply Int32.toBitVec_inj.mp
  rw [Int32.toBitVec_mul]
  show BitVec.ofNat 32 p * BitVec.ofNat 32 q = BitVec.ofNat 32 (p * q)
  rw [BitVec.ofNat_mul]
section HCL
variable {n : Nat} {xs : Nat → Int32} {f : Nat → Int32} {a : Nat → Nat → Int32} {o : Nat → Int64} {d k s : Nat}
theorem q_Ep_td_l {c N xx ys : Nat} (hN20 : N ≤ 20) {D : dr_L} (hD : din N D) (hxx : xx ≤ 4) (hys : ys ≤ 4) (hy0 : 0 < ys) (hxc : xx ≤ c) (hyc : ys ≤ c) {T0 : tm_T} {Z0 : List Nat} {P0 : List (Int32 × Int32)} {vv : Int32} (hT0 : tm_wf c T0) (hZ0 : th_wf c T0 Z0) (hN0 : N ≤ T0.length) : ∀ (m q : Nat), q + (m + 1) = xx * ys → ∀ (x y : Nat), x = q / ys → y = q % ys → ∀ (T : tm_T) (Z : List Nat) (P : List (Int32 × Int32)) (f : Nat → Int32) (a : Nat → Nat → Int32), (∃ S, T = T0 ++ S) → (∃ S, Z = Z0 ++ S) → (∃ S, P = P0 ++ S) → P.length + (m + 1) ≤ 256 → ct_at c T f a → zk_at T Z f a → th_wf c T Z → dr_at D f a → ci_at P f a → ax_R (d + 44) 86 102 [.ref 1, .int (nI T0.length), .int (nI Z0.length), .int (nI P0.length), .int vv, .int (nI xx), .int (nI ys), .int (nI x), .int (nI y)] [] (hp n xs f a o) k s (td_Q n xs o c (xx * ys) T0 Z0 P0 ((cl ys D (m + 1) q T Z).1, (cl ys D (m + 1) q T Z).2.1, P ++ (cl ys D (m + 1) q T Z).2.2.filterMap wl_kp) f a k s) := by
  intro m
  induction m with
  | zero =>
    intro q hq x y ex ey T Z P f a ⟨S1, hS1⟩ ⟨S2, hS2⟩ ⟨S3, hS3⟩ hPl hct hzk hZ hd hc
    have hqw : q < xx * ys := by omega
    have hx : x < xx := by rw [ex]; exact (Nat.div_lt_iff_lt_mul hy0).mpr hqw
    have hy : y < ys := by rw [ey]; exact Nat.mod_lt _ hy0
    have hNT : N ≤ T.length := by rw [hS1, List.length_append]; omega
    have hall : ∀ j, j < xx * ys → j / ys < c ∧ j % ys < c := fun j hj => ⟨Nat.lt_of_lt_of_le ((Nat.div_lt_iff_lt_mul hy0).mpr hj) hxc, Nat.lt_of_lt_of_le (Nat.mod_lt _ hy0) hyc⟩
    rw [cl, ← ex, ← ey]
    iterate 3 refine ax_nx rfl rfl ?_
    refine ax_cal (d := d + 43) rfl rfl (q_Ep_add (d := d) (show x < c by omega) (show y < c by omega) hN20 hD (show P.length < 257 by omega) hct hzk hZ hNT hd hc) (fun v h' hh => ?_)
    obtain ⟨f1, a1, T1, Z1, rfl, g1, ⟨S4, hS4⟩, ⟨S5, hS5⟩, hct1, hzk1, hZ1, hv⟩ := hh
    rw [List.nil_append] at hv
    have hio := ins_ok (show x < c by omega) (show y < c by omega) hN20 hct.1 hZ hNT hD
    generalize ins x y D T Z = R1 at *
    obtain ⟨T1', Z1', l1⟩ := R1
    dsimp only at hio hv ⊢
    obtain ⟨⟨S6, b1⟩, ⟨S7, b2⟩, b3, b4, b5, b6⟩ := hio
    have hNT1 : N ≤ T1'.length := by rw [b1, List.length_append]; omega
    obtain ⟨⟨S8, c1⟩, ⟨S9, c2⟩, c3, c4, c5, c6⟩ := cl_ok (k := q + 1) (m := 0) hN20 hD (fun j hj => hall j (by omega)) b3 b4 hNT1
    have hlen : T1'.length ≤ (cl ys D 0 (q + 1) T1' Z1').1.length ∧ Z1'.length ≤ (cl ys D 0 (q + 1) T1' Z1').2.1.length := by rw [c1, c2, List.length_append, List.length_append]; omega
    have hTT : T1 = T0 ++ (S1 ++ S4) := by rw [hS4, hS1, List.append_assoc]
    have hZZ : Z1 = Z0 ++ (S2 ++ S5) := by rw [hS5, hS2, List.append_assoc]
    rcases hv with ⟨rfl, rfl, rfl, hc1⟩ | ⟨rfl, hov, hc1⟩
    rotate_left
    · iterate 4 refine ax_nx rfl rfl ?_
      refine ax_cal rfl rfl (q_shrink_Te (c := nI T0.length)) (fun v h' hh => ?_)
      obtain ⟨rfl, rfl⟩ := hh
      iterate 3 refine ax_nx rfl rfl ?_
      refine ax_cal rfl rfl (q_shrink_Th (c := nI Z0.length)) (fun v h' hh => ?_)
      obtain ⟨rfl, rfl⟩ := hh
      iterate 3 refine ax_nx rfl rfl ?_
      refine ax_cal rfl rfl (q_In_shrink (c := nI P0.length)) (fun v h' hh => ?_)
      obtain ⟨rfl, rfl⟩ := hh
      refine ax_nx rfl rfl ?_
      rw [hTT] at hct1
      rw [hTT, hZZ] at hzk1
      have g2 : ag [1, 7, 8] [] f1 a1 (upd (upd (upd f1 7 (nI T0.length)) 8 (nI Z0.length)) 1 (nI P0.length)) a1 := by
        refine ⟨fun j hj => ?_, fun _ _ => rfl⟩
        simp only [List.mem_cons, List.not_mem_nil, or_false, not_or] at hj
        simp [upd, hj]
      have q1 : ag [1, 8] [] (upd f1 7 (nI T0.length)) a1 (upd (upd (upd f1 7 (nI T0.length)) 8 (nI Z0.length)) 1 (nI P0.length)) a1 := by
        refine ⟨fun j hj => ?_, fun _ _ => rfl⟩
        simp only [List.mem_cons, List.not_mem_nil, or_false, not_or] at hj
        simp [upd, hj]
      have q2 : ag [1, 7] [] (upd f1 8 (nI Z0.length)) a1 (upd (upd (upd f1 7 (nI T0.length)) 8 (nI Z0.length)) 1 (nI P0.length)) a1 := by
        refine ⟨fun j hj => ?_, fun _ _ => rfl⟩
        simp only [List.mem_cons, List.not_mem_nil, or_false, not_or] at hj
        simp [upd, hj]
      have q3 : ag [7, 8] [] (upd f1 1 (nI P0.length)) a1 (upd (upd (upd f1 7 (nI T0.length)) 8 (nI Z0.length)) 1 (nI P0.length)) a1 := by
        refine ⟨fun j hj => ?_, fun _ _ => rfl⟩
        simp only [List.mem_cons, List.not_mem_nil, or_false, not_or] at hj
        simp [upd, hj]
      have hcc := ci_at.take (m := P0.length) hc1 (by rw [hS3, List.length_append]; omega)
      rw [hS3, List.take_left] at hcc
      exact ax_ret rfl rfl ⟨_, rfl, rfl, rfl, _, a1, rfl, (g1.wide (by simp) (by simp)).trans (g2.wide (by simp) (by simp)), Or.inr ⟨rfl, by dsimp only; omega, (hct1.take hT0).kept q1 (by decide) (by decide), (hzk1.take hZ0).kept q2 (by decide) (by decide), hcc.kept q3 (by decide) (by decide), by rw [(g1.wide (F' := [1, 2, 3, 4, 5, 6, 7, 8]) (A' := [7, 9, 10, 16, 17, 18, 19, 21, 22, 23, 24]) (by simp) (by simp)).1 10 (by decide) |>.symm]; rfl⟩⟩
    have hkl := wl_kp_len l1
    have hfm : ∀ L : List wl_L, P ++ (l1 :: L).filterMap wl_kp = (P ++ (wl_kp l1).toList) ++ L.filterMap wl_kp := by
      intro L
      rw [List.append_assoc]
      congr 1
      cases hk : wl_kp l1 with
      | none => rw [List.filterMap_cons_none hk]; rfl
      | some p => rw [List.filterMap_cons_some hk]; rfl
    rw [hfm]
    refine ax_nx rfl rfl ?_
    refine ax_nx (al' := [.ref 1, .int (nI T0.length), .int (nI Z0.length), .int (nI P0.length), .int vv, .int (nI xx), .int (nI ys), .int (nI x), .int (nI y + 1)]) rfl rfl ?_
    rw [nI_1]
    iterate 3 refine ax_nx rfl rfl ?_
    have hend : y + 1 = ys ∧ x + 1 = xx := by
      rcases Nat.lt_or_ge (y + 1) ys with h9 | h9
      · have := (dm1 (k := q) hy0 (by omega)).1
        rw [hq, Nat.mul_div_cancel _ hy0] at this
        omega
      · have := (dm2 (k := q) hy0 (by omega)).1
        rw [hq, Nat.mul_div_cancel _ hy0] at this
        omega
    refine ax_nxt rfl rfl (by rw [hend.1]; exact nI_le (Nat.le_refl _) (by omega)) ?_
    refine ax_nx (al' := [.ref 1, .int (nI T0.length), .int (nI Z0.length), .int (nI P0.length), .int vv, .int (nI xx), .int (nI ys), .int (nI x + 1), .int (nI (y + 1))]) rfl rfl ?_
    rw [nI_1]
    iterate 3 refine ax_nx rfl rfl ?_
    refine ax_nxt rfl rfl (by rw [hend.2]; exact nI_le (Nat.le_refl _) (by omega)) ?_
    iterate 5 refine ax_nx rfl rfl ?_
    refine ax_nx (h' := hp n xs (upd f1 10 ((f1 10) + 1)) a1 o) rfl rfl ?_
    iterate 3 refine ax_nx rfl rfl ?_
    refine ax_top (y := nI (xx * ys)) (nI_mul xx ys) ?_
    have g2 : ag [10] [] f1 a1 (upd f1 10 (f1 10 + 1)) a1 := ag.f1
    have e10 : f1 10 = f 10 := g1.1 10 (by decide)
    refine ax_ret rfl rfl ⟨_, rfl, rfl, rfl, _, a1, rfl, (g1.wide (by simp) (by simp)).trans (g2.wide (by simp) (by simp)), Or.inl ⟨rfl, hct1.kept g2 (by decide) (by decide), hzk1.kept g2 (by decide) (by decide), ?_, by rw [← e10]; rfl⟩⟩
    show ci_at (P ++ (wl_kp l1).toList ++ []) _ a1
    rw [List.append_nil]
    exact hc1.kept g2 (by decide) (by decide)
  | succ m ih =>
    intro q hq x y ex ey T Z P f a ⟨S1, hS1⟩ ⟨S2, hS2⟩ ⟨S3, hS3⟩ hPl hct hzk hZ hd hc
    have hqw : q < xx * ys := by omega
    have hx : x < xx := by rw [ex]; exact (Nat.div_lt_iff_lt_mul hy0).mpr hqw
    have hy : y < ys := by rw [ey]; exact Nat.mod_lt _ hy0
    have hNT : N ≤ T.length := by rw [hS1, List.length_append]; omega
    have hall : ∀ j, j < xx * ys → j / ys < c ∧ j % ys < c := fun j hj => ⟨Nat.lt_of_lt_of_le ((Nat.div_lt_iff_lt_mul hy0).mpr hj) hxc, Nat.lt_of_lt_of_le (Nat.mod_lt _ hy0) hyc⟩
    rw [cl, ← ex, ← ey]
    iterate 3 refine ax_nx rfl rfl ?_
    refine ax_cal (d := d + 43) rfl rfl (q_Ep_add (d := d) (show x < c by omega) (show y < c by omega) hN20 hD (show P.length < 257 by omega) hct hzk hZ hNT hd hc) (fun v h' hh => ?_)
    obtain ⟨f1, a1, T1, Z1, rfl, g1, ⟨S4, hS4⟩, ⟨S5, hS5⟩, hct1, hzk1, hZ1, hv⟩ := hh
    rw [List.nil_append] at hv
    have hio := ins_ok (show x < c by omega) (show y < c by omega) hN20 hct.1 hZ hNT hD
    generalize ins x y D T Z = R1 at *
    obtain ⟨T1', Z1', l1⟩ := R1
    dsimp only at hio hv ⊢
    obtain ⟨⟨S6, b1⟩, ⟨S7, b2⟩, b3, b4, b5, b6⟩ := hio
    have hNT1 : N ≤ T1'.length := by rw [b1, List.length_append]; omega
    obtain ⟨⟨S8, c1⟩, ⟨S9, c2⟩, c3, c4, c5, c6⟩ := cl_ok (k := q + 1) (m := (m + 1)) hN20 hD (fun j hj => hall j (by omega)) b3 b4 hNT1
    have hlen : T1'.length ≤ (cl ys D (m + 1) (q + 1) T1' Z1').1.length ∧ Z1'.length ≤ (cl ys D (m + 1) (q + 1) T1' Z1').2.1.length := by rw [c1, c2, List.length_append, List.length_append]; omega
    have hTT : T1 = T0 ++ (S1 ++ S4) := by rw [hS4, hS1, List.append_assoc]
    have hZZ : Z1 = Z0 ++ (S2 ++ S5) := by rw [hS5, hS2, List.append_assoc]
    rcases hv with ⟨rfl, rfl, rfl, hc1⟩ | ⟨rfl, hov, hc1⟩
    rotate_left
    · iterate 4 refine ax_nx rfl rfl ?_
      refine ax_cal rfl rfl (q_shrink_Te (c := nI T0.length)) (fun v h' hh => ?_)
      obtain ⟨rfl, rfl⟩ := hh
      iterate 3 refine ax_nx rfl rfl ?_
      refine ax_cal rfl rfl (q_shrink_Th (c := nI Z0.length)) (fun v h' hh => ?_)
      obtain ⟨rfl, rfl⟩ := hh
      iterate 3 refine ax_nx rfl rfl ?_
      refine ax_cal rfl rfl (q_In_shrink (c := nI P0.length)) (fun v h' hh => ?_)
      obtain ⟨rfl, rfl⟩ := hh
      refine ax_nx rfl rfl ?_
      rw [hTT] at hct1
      rw [hTT, hZZ] at hzk1
      have g2 : ag [1, 7, 8] [] f1 a1 (upd (upd (upd f1 7 (nI T0.length)) 8 (nI Z0.length)) 1 (nI P0.length)) a1 := by
        refine ⟨fun j hj => ?_, fun _ _ => rfl⟩
        simp only [List.mem_cons, List.not_mem_nil, or_false, not_or] at hj
        simp [upd, hj]
      have q1 : ag [1, 8] [] (upd f1 7 (nI T0.length)) a1 (upd (upd (upd f1 7 (nI T0.length)) 8 (nI Z0.length)) 1 (nI P0.length)) a1 := by
        refine ⟨fun j hj => ?_, fun _ _ => rfl⟩
        simp only [List.mem_cons, List.not_mem_nil, or_false, not_or] at hj
        simp [upd, hj]
      have q2 : ag [1, 7] [] (upd f1 8 (nI Z0.length)) a1 (upd (upd (upd f1 7 (nI T0.length)) 8 (nI Z0.length)) 1 (nI P0.length)) a1 := by
        refine ⟨fun j hj => ?_, fun _ _ => rfl⟩
        simp only [List.mem_cons, List.not_mem_nil, or_false, not_or] at hj
        simp [upd, hj]
      have q3 : ag [7, 8] [] (upd f1 1 (nI P0.length)) a1 (upd (upd (upd f1 7 (nI T0.length)) 8 (nI Z0.length)) 1 (nI P0.length)) a1 := by
        refine ⟨fun j hj => ?_, fun _ _ => rfl⟩
        simp only [List.mem_cons, List.not_mem_nil, or_false, not_or] at hj
        simp [upd, hj]
      have hcc := ci_at.take (m := P0.length) hc1 (by rw [hS3, List.length_append]; omega)
      rw [hS3, List.take_left] at hcc
      exact ax_ret rfl rfl ⟨_, rfl, rfl, rfl, _, a1, rfl, (g1.wide (by simp) (by simp)).trans (g2.wide (by simp) (by simp)), Or.inr ⟨rfl, by dsimp only; omega, (hct1.take hT0).kept q1 (by decide) (by decide), (hzk1.take hZ0).kept q2 (by decide) (by decide), hcc.kept q3 (by decide) (by decide), by rw [(g1.wide (F' := [1, 2, 3, 4, 5, 6, 7, 8]) (A' := [7, 9, 10, 16, 17, 18, 19, 21, 22, 23, 24]) (by simp) (by simp)).1 10 (by decide) |>.symm]; rfl⟩⟩
    have hkl := wl_kp_len l1
    have hfm : ∀ L : List wl_L, P ++ (l1 :: L).filterMap wl_kp = (P ++ (wl_kp l1).toList) ++ L.filterMap wl_kp := by
      intro L
      rw [List.append_assoc]
      congr 1
      cases hk : wl_kp l1 with
      | none => rw [List.filterMap_cons_none hk]; rfl
      | some p => rw [List.filterMap_cons_some hk]; rfl
    rw [hfm]
    refine ax_nx rfl rfl ?_
    refine ax_nx (al' := [.ref 1, .int (nI T0.length), .int (nI Z0.length), .int (nI P0.length), .int vv, .int (nI xx), .int (nI ys), .int (nI x), .int (nI y + 1)]) rfl rfl ?_
    rw [nI_1]
    iterate 3 refine ax_nx rfl rfl ?_
    have gw := g1.wide (F' := [1, 2, 3, 4, 5, 6, 7, 8, 10]) (A' := [7, 9, 10, 16, 17, 18, 19, 21, 22, 23, 24]) (by simp) (by simp)
    have e10 : f1 10 = f 10 := g1.1 10 (by decide)
    have go : ∀ x' y' : Nat, x' = (q + 1) / ys → y' = (q + 1) % ys → ax_R (d + 44) 86 102 [.ref 1, .int (nI T0.length), .int (nI Z0.length), .int (nI P0.length), .int vv, .int (nI xx), .int (nI ys), .int (nI x'), .int (nI y')] [] (hp n xs f1 a1 o) k s (td_Q n xs o c (xx * ys) T0 Z0 P0 ((cl ys D (m + 1) (q + 1) T1 Z1).1, (cl ys D (m + 1) (q + 1) T1 Z1).2.1, (P ++ (wl_kp l1).toList) ++ (cl ys D (m + 1) (q + 1) T1 Z1).2.2.filterMap wl_kp) f a k s) := by
      intro x' y' ex' ey'
      refine (ih (q + 1) (by omega) x' y' ex' ey' T1 Z1 (P ++ (wl_kp l1).toList) f1 a1 ⟨_, hTT⟩ ⟨_, hZZ⟩ ⟨S3 ++ (wl_kp l1).toList, by rw [hS3, List.append_assoc]⟩ (by rw [List.length_append]; omega) hct1 hzk1 hZ1 (hd.kept g1 (by decide) (by decide)) hc1).mono ?_
      rintro o1 h1 k1 s1 ⟨v, w1, w2, w3, f', a', w4, w5, w6⟩
      refine ⟨v, w1, w2, w3, f', a', w4, gw.trans w5, ?_⟩
      rw [e10] at w6
      exact w6
    rcases Nat.lt_or_ge (y + 1) ys with h9 | h9
    · have hdm := dm1 (k := q) hy0 (by omega)
      refine ax_nxf rfl rfl (nI_ge h9 (by omega)) ?_
      exact go x (y + 1) (by omega) (by omega)
    · have hdm := dm2 (k := q) hy0 (by omega)
      have hx1 : x + 1 < xx := by
        have : (q + 1) / ys < xx := (Nat.div_lt_iff_lt_mul hy0).mpr (by omega)
        omega
      refine ax_nxt rfl rfl (nI_le h9 (by omega)) ?_
      refine ax_nx (al' := [.ref 1, .int (nI T0.length), .int (nI Z0.length), .int (nI P0.length), .int vv, .int (nI xx), .int (nI ys), .int (nI x + 1), .int (nI (y + 1))]) rfl rfl ?_
      rw [nI_1]
      iterate 3 refine ax_nx rfl rfl ?_
      refine ax_nxf rfl rfl (nI_ge hx1 (by omega)) ?_
      refine ax_nx rfl rfl ?_
      refine ax_nx (al' := [.ref 1, .int (nI T0.length), .int (nI Z0.length), .int (nI P0.length), .int vv, .int (nI xx), .int (nI ys), .int (nI (x + 1)), .int 0]) rfl rfl ?_
      iterate 2 refine ax_nx rfl rfl ?_
      refine ax_nxf rfl rfl (nI_ge (a := 0) hy0 (by omega)) ?_
      exact go (x + 1) 0 (by omega) (by omega)
theorem q_Ep_td {c N C : Nat} (hN20 : N ≤ 20) (hc0 : 0 < c) (hc4 : c ≤ 4) {D : dr_L} (hD : din N D) {T : tm_T} {Z : List Nat} {P : List (Int32 × Int32)} (h9 : f 9 = nI c) (h10 : f 10 = nI C) (hC : C < 16) (hN : N ≤ T.length) (hPl : P.length + 16 ≤ 256) (hct : ct_at c T f a) (hzk : zk_at T Z f a) (hZ : th_wf c T Z) (hd : dr_at D f a) (hc : ci_at P f a) : ax_R (d + 44) 86 0 (ax_in 86 [.ref 1]) [] (hp n xs f a o) k s (td_Q n xs o c (nc c 1 (dv (tm_V T) 0 D) * nc c 2 (dv (tm_V T) 0 D)) T Z P ((cl (nc c 2 (dv (tm_V T) 0 D)) D (nc c 1 (dv (tm_V T) 0 D) * nc c 2 (dv (tm_V T) 0 D)) 0 T Z).1, (cl (nc c 2 (dv (tm_V T) 0 D)) D (nc c 1 (dv (tm_V T) 0 D) * nc c 2 (dv (tm_V T) 0 D)) 0 T Z).2.1, P ++ (cl (nc c 2 (dv (tm_V T) 0 D)) D (nc c 1 (dv (tm_V T) 0 D) * nc c 2 (dv (tm_V T) 0 D)) 0 T Z).2.2.filterMap wl_kp) f a k s) := by
  obtain ⟨K, ⟨hK1, hK2, hK3, hK4, hK5⟩, hkz⟩ := id hzk
  have hzl : f 8 = nI Z.length := by rw [hK4]; exact hK2
  iterate 3 refine ax_nx rfl rfl ?_
  refine ax_nxt rfl rfl (by rw [h10]; exact nI_lt (b := 16) hC (by omega)) ?_
  iterate 2 refine ax_nx rfl rfl ?_
  refine ax_cal rfl rfl (q_size_Te) (fun v h' hh => ?_)
  obtain ⟨rfl, rfl⟩ := hh
  rw [hct.2.2.1]
  refine ax_nx (al' := [.ref 1, .int (nI T.length), ax_u, ax_u, ax_u, ax_u, ax_u, ax_u, ax_u]) rfl rfl ?_
  iterate 2 refine ax_nx rfl rfl ?_
  refine ax_cal rfl rfl (q_size_Th) (fun v h' hh => ?_)
  obtain ⟨rfl, rfl⟩ := hh
  rw [hzl]
  refine ax_nx (al' := [.ref 1, .int (nI T.length), .int (nI Z.length), ax_u, ax_u, ax_u, ax_u, ax_u, ax_u]) rfl rfl ?_
  iterate 2 refine ax_nx rfl rfl ?_
  refine ax_cal rfl rfl (q_In_size) (fun v h' hh => ?_)
  obtain ⟨rfl, rfl⟩ := hh
  rw [hc.1]
  refine ax_nx (al' := [.ref 1, .int (nI T.length), .int (nI Z.length), .int (nI P.length), ax_u, ax_u, ax_u, ax_u, ax_u]) rfl rfl ?_
  iterate 4 refine ax_nx rfl rfl ?_
  refine ax_cal rfl rfl (q_Dr_vars hct hd (fun q hq => ⟨Nat.lt_of_lt_of_le (hD q hq).1 hN, Nat.lt_of_lt_of_le (hD q hq).2 hN⟩)) (fun v h' hh => ?_)
  obtain ⟨rfl, rfl⟩ := hh
  generalize hw : dv (tm_V T) 0 D = w
  refine ax_nx (al' := [.ref 1, .int (nI T.length), .int (nI Z.length), .int (nI P.length), .int (nI w), ax_u, ax_u, ax_u, ax_u]) rfl rfl ?_
  iterate 3 refine ax_nx rfl rfl ?_
  have e1 : nI w &&& 1 = nI (w &&& 1) := nI_and w 1
  have e2 : nI w &&& 2 = nI (w &&& 2) := nI_and w 2
  have b1 : w &&& 1 ≤ 1 := Nat.and_le_right
  have b2 : w &&& 2 ≤ 2 := Nat.and_le_right
  have hx4 := nc_le (b := 1) (v := w) hc0
  have hy4 := nc_le (b := 2) (v := w) hc0
  have hx0 := nc_pos (b := 1) (v := w) hc0
  have hy0 := nc_pos (b := 2) (v := w) hc0
  have tail : ax_R (d + 44) 86 82 [.ref 1, .int (nI T.length), .int (nI Z.length), .int (nI P.length), .int (nI w), .int (nI (nc c 1 w)), .int (nI (nc c 2 w)), ax_u, ax_u] [] (hp n xs f a o) k s (td_Q n xs o c (nc c 1 w * nc c 2 w) T Z P ((cl (nc c 2 w) D (nc c 1 w * nc c 2 w) 0 T Z).1, (cl (nc c 2 w) D (nc c 1 w * nc c 2 w) 0 T Z).2.1, P ++ (cl (nc c 2 w) D (nc c 1 w * nc c 2 w) 0 T Z).2.2.filterMap wl_kp) f a k s) := by
    generalize nc c 1 w = xx at *
    generalize nc c 2 w = ys at *
    have hpos : 0 < xx * ys := Nat.mul_pos hx0 hy0
    have h16 : xx * ys ≤ 4 * 4 := Nat.mul_le_mul (by omega) (by omega)
    obtain ⟨m, hm⟩ : ∃ m, xx * ys = m + 1 := ⟨xx * ys - 1, by omega⟩
    refine ax_nx rfl rfl ?_
    refine ax_nx (al' := [.ref 1, .int (nI T.length), .int (nI Z.length), .int (nI P.length), .int (nI w), .int (nI xx), .int (nI ys), .int 0, ax_u]) rfl rfl ?_
    iterate 2 refine ax_nx rfl rfl ?_
    refine ax_nxf rfl rfl (nI_ge (a := 0) hx0 (by omega)) ?_
    refine ax_nx rfl rfl ?_
    refine ax_nx (al' := [.ref 1, .int (nI T.length), .int (nI Z.length), .int (nI P.length), .int (nI w), .int (nI xx), .int (nI ys), .int (nI 0), .int 0]) rfl rfl ?_
    iterate 2 refine ax_nx rfl rfl ?_
    refine ax_nxf rfl rfl (nI_ge (a := 0) hy0 (by omega)) ?_
    have hl := q_Ep_td_l (d := d) (n := n) (xs := xs) (o := o) (k := k) (s := s) (vv := nI w) (P0 := P) hN20 hD (show xx ≤ 4 by omega) (show ys ≤ 4 by omega) hy0 hx4 hy4 hct.1 hZ hN m 0 (by omega) 0 0 (by simp) (by simp) T Z P f a ⟨[], by simp⟩ ⟨[], by simp⟩ ⟨[], by simp⟩ (by omega) hct hzk hZ hd hc
    rw [hm] at hl ⊢
    exact hl
  have second : ax_R (d + 44) 86 65 [.ref 1, .int (nI T.length), .int (nI Z.length), .int (nI P.length), .int (nI w), .int (nI (nc c 1 w)), ax_u, ax_u, ax_u] [] (hp n xs f a o) k s (td_Q n xs o c (nc c 1 w * nc c 2 w) T Z P ((cl (nc c 2 w) D (nc c 1 w * nc c 2 w) 0 T Z).1, (cl (nc c 2 w) D (nc c 1 w * nc c 2 w) 0 T Z).2.1, P ++ (cl (nc c 2 w) D (nc c 1 w * nc c 2 w) 0 T Z).2.2.filterMap wl_kp) f a k s) := by
    rcases Nat.eq_zero_or_pos (w &&& 2) with hb | hb
    · iterate 3 refine ax_nx rfl rfl ?_
      refine ax_nxt rfl rfl (e2.trans (by rw [hb]; rfl)) ?_
      refine ax_nx rfl rfl ?_
      refine ax_top (y := nI (nc c 2 w)) (by unfold nc; rw [if_pos hb]; rfl) ?_
      refine ax_nx (al' := [.ref 1, .int (nI T.length), .int (nI Z.length), .int (nI P.length), .int (nI w), .int (nI (nc c 1 w)), .int (nI (nc c 2 w)), ax_u, ax_u]) rfl rfl ?_
      exact tail
    · iterate 3 refine ax_nx rfl rfl ?_
      refine ax_nxf rfl rfl (fun h8 => nI_ne0 hb (by omega) (e2.symm.trans h8)) ?_
      iterate 3 refine ax_nx rfl rfl ?_
      refine ax_top (y := nI (nc c 2 w)) (by unfold nc; rw [if_neg (by omega)]; exact h9) ?_
      refine ax_nx (al' := [.ref 1, .int (nI T.length), .int (nI Z.length), .int (nI P.length), .int (nI w), .int (nI (nc c 1 w)), .int (nI (nc c 2 w)), ax_u, ax_u]) rfl rfl ?_
      exact tail
  rcases Nat.eq_zero_or_pos (w &&& 1) with hb | hb
  · refine ax_nxt rfl rfl (e1.trans (by rw [hb]; rfl)) ?_
    refine ax_nx rfl rfl ?_
    refine ax_top (y := nI (nc c 1 w)) (by unfold nc; rw [if_pos hb]; rfl) ?_
    refine ax_nx (al' := [.ref 1, .int (nI T.length), .int (nI Z.length), .int (nI P.length), .int (nI w), .int (nI (nc c 1 w)), ax_u, ax_u, ax_u]) rfl rfl ?_
    exact second
  · refine ax_nxf rfl rfl (fun h8 => nI_ne0 hb (by omega) (e1.symm.trans h8)) ?_
    iterate 3 refine ax_nx rfl rfl ?_
    refine ax_top (y := nI (nc c 1 w)) (by unfold nc; rw [if_neg (by omega)]; exact h9) ?_
    refine ax_nx (al' := [.ref 1, .int (nI T.length), .int (nI Z.length), .int (nI P.length), .int (nI w), .int (nI (nc c 1 w)), ax_u, ax_u, ax_u]) rfl rfl ?_
    exact second
theorem q_Ep_td_no (h10 : f 10 = nI 16) : ax_R d 86 0 (ax_in 86 [.ref 1]) [] (hp n xs f a o) k s (ax_V (fun v h' => v = some (.int (-1)) ∧ h' = hp n xs f a o) k s) := by
  iterate 3 refine ax_nx rfl rfl ?_
  rw [h10]
  iterate 2 refine ax_nx rfl rfl ?_
  exact ax_ret rfl rfl ⟨_, rfl, rfl, rfl, rfl, rfl⟩
def ec_Q (n : Nat) (xs : Nat → Int32) (o : Nat → Int64) (c C w : Nat) (T : tm_T) (Z : List Nat) (P : List (Int32 × Int32)) (R : tm_T × List Nat × List (Int32 × Int32)) (f : Nat → Int32) (a : Nat → Nat → Int32) (k s : Nat) : ax_P := fun o1 h' k' s' => ∃ f' a', h' = hp n xs f' a' o ∧ ag [0, 1, 2, 3, 4, 5, 6, 7, 8, 10] [7, 9, 10, 16, 17, 18, 19, 21, 22, 23, 24] f a f' a' ∧ f' 0 = 0 ∧ ((o1 = .inl (some (.int (nI w))) ∧ k' = k ∧ s' = s ∧ C < 16 ∧ R.1.length ≤ 20 ∧ R.2.1.length ≤ 8 ∧ ct_at c R.1 f' a' ∧ zk_at R.1 R.2.1 f' a' ∧ ci_at R.2.2 f' a' ∧ f' 10 = nI (C + 1)) ∨ (o1 = .inr 1 ∧ k' = k + 1 ∧ s' = s + 6 ∧ (C = 16 ∨ 20 < R.1.length ∨ 8 < R.2.1.length) ∧ ct_at c T f' a' ∧ zk_at T Z f' a' ∧ ci_at P f' a' ∧ f' 10 = nI C))
theorem q_Ep_clause {c N C : Nat} (hN20 : N ≤ 20) (hc0 : 0 < c) (hc4 : c ≤ 4) {D : dr_L} (hD : din N D) {T : tm_T} {Z : List Nat} {P : List (Int32 × Int32)} (h9 : f 9 = nI c) (h10 : f 10 = nI C) (hC : C ≤ 16) (hN : N ≤ T.length) (hPl : P.length ≤ 16 * C) (hct : ct_at c T f a) (hzk : zk_at T Z f a) (hZ : th_wf c T Z) (hd : dr_at D f a) (hc : ci_at P f a) : ax_R (d + 45) 85 0 (ax_in 85 [.ref 1]) [] (hp n xs f a o) k s (ec_Q n xs o c C (nc c 1 (dv (tm_V T) 0 D) * nc c 2 (dv (tm_V T) 0 D)) T Z P ((cl (nc c 2 (dv (tm_V T) 0 D)) D (nc c 1 (dv (tm_V T) 0 D) * nc c 2 (dv (tm_V T) 0 D)) 0 T Z).1, (cl (nc c 2 (dv (tm_V T) 0 D)) D (nc c 1 (dv (tm_V T) 0 D) * nc c 2 (dv (tm_V T) 0 D)) 0 T Z).2.1, P ++ (cl (nc c 2 (dv (tm_V T) 0 D)) D (nc c 1 (dv (tm_V T) 0 D) * nc c 2 (dv (tm_V T) 0 D)) 0 T Z).2.2.filterMap wl_kp) f a k s) := by
  have hx4 := nc_le (b := 1) (v := dv (tm_V T) 0 D) hc0
  have hy4 := nc_le (b := 2) (v := dv (tm_V T) 0 D) hc0
  have h16 : nc c 1 (dv (tm_V T) 0 D) * nc c 2 (dv (tm_V T) 0 D) ≤ 4 * 4 := Nat.mul_le_mul (by omega) (by omega)
  rcases Nat.lt_or_ge C 16 with hlt | hge
  · refine ax_nx rfl rfl ?_
    refine ax_cal (d := d + 44) rfl rfl (q_Ep_td (d := d) hN20 hc0 hc4 hD h9 h10 hlt hN (by omega) hct hzk hZ hd hc) (fun v h' hh => ?_)
    obtain ⟨f1, a1, rfl, g1, hv⟩ := hh
    have gw : ag [0, 1, 2, 3, 4, 5, 6, 7, 8, 10] [7, 9, 10, 16, 17, 18, 19, 21, 22, 23, 24] f a (upd f1 0 0) a1 := (g1.wide (by simp) (by simp)).trans ((ag.f1 (A := [])).wide (by simp) (by simp))
    have g0 : ag [0] [] f1 a1 (upd f1 0 0) a1 := ag.f1
    rcases hv with ⟨rfl, hct1, hzk1, hc1, e10⟩ | ⟨rfl, hov, hct1, hzk1, hc1, e10⟩
    · generalize nc c 1 (dv (tm_V T) 0 D) * nc c 2 (dv (tm_V T) 0 D) = WW at *
      refine ax_nx (al' := [.ref 1, .int (nI WW)]) rfl rfl ?_
      iterate 2 refine ax_nx rfl rfl ?_
      refine ax_cal rfl rfl (q_Dr_empty) (fun v h' hh => ?_)
      obtain ⟨rfl, rfl⟩ := hh
      iterate 2 refine ax_nx rfl rfl ?_
      refine ax_nxf rfl rfl (nI_nm1 (by omega)) ?_
      refine ax_nx rfl rfl ?_
      exact ax_ret rfl rfl ⟨_, a1, rfl, gw, rfl, Or.inl ⟨rfl, rfl, rfl, hlt, hct1.2.1, hzk1.len, hct1.kept g0 (by decide) (by decide), hzk1.kept g0 (by decide) (by decide), hc1.kept g0 (by decide) (by decide), (e10.trans (by rw [h10]; exact nI_1 C) : f1 10 = nI (C + 1))⟩⟩
    · refine ax_nx (al' := [.ref 1, .int (-1)]) rfl rfl ?_
      iterate 2 refine ax_nx rfl rfl ?_
      refine ax_cal rfl rfl (q_Dr_empty) (fun v h' hh => ?_)
      obtain ⟨rfl, rfl⟩ := hh
      iterate 2 refine ax_nx rfl rfl ?_
      refine ax_nx rfl rfl ?_
      exact ax_thr rfl rfl ⟨_, a1, rfl, gw, rfl, Or.inr ⟨rfl, rfl, rfl, Or.inr hov, hct1.kept g0 (by decide) (by decide), hzk1.kept g0 (by decide) (by decide), hc1.kept g0 (by decide) (by decide), (e10.trans h10 : f1 10 = nI C)⟩⟩
  · have hC16 : C = 16 := by omega
    subst hC16
    refine ax_nx rfl rfl ?_
    refine ax_cal (d := d + 44) rfl rfl (q_Ep_td_no h10) (fun v h' hh => ?_)
    obtain ⟨rfl, rfl⟩ := hh
    refine ax_nx (al' := [.ref 1, .int (-1)]) rfl rfl ?_
    iterate 2 refine ax_nx rfl rfl ?_
    refine ax_cal rfl rfl (q_Dr_empty) (fun v h' hh => ?_)
    obtain ⟨rfl, rfl⟩ := hh
    iterate 2 refine ax_nx rfl rfl ?_
    refine ax_nx rfl rfl ?_
    have g0 : ag [0] [] f a (upd f 0 0) a := ag.f1
    exact ax_thr rfl rfl ⟨_, a, rfl, g0.wide (by simp) (by simp), rfl, Or.inr ⟨rfl, rfl, rfl, Or.inl rfl, hct.kept g0 (by decide) (by decide), hzk.kept g0 (by decide) (by decide), hc.kept g0 (by decide) (by decide), h10⟩⟩
end HCL
