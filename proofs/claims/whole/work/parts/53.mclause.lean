theorem nI_dm0 : ∀ (q : Fin 17) (y : Fin 5), 0 < y.val → nI q.val / nI y.val = nI (q.val / y.val) ∧ nI q.val - nI q.val / nI y.val * nI y.val = nI (q.val % y.val) := by decide +kernel
theorem nI_dm {q y : Nat} (hq : q < 17) (hy : y < 5) (h0 : 0 < y) : nI q / nI y = nI (q / y) ∧ nI q - nI q / nI y * nI y = nI (q % y) := nI_dm0 ⟨q, hq⟩ ⟨y, hy⟩ h0
def mc_Q (n : Nat) (xs : Nat → Int32) (o : Nat → Int64) (c w : Nat) (T : tm_T) (Z : List Nat) (I : List (List wl_L)) (R : tm_T × List Nat × List wl_L) (f : Nat → Int32) (a : Nat → Nat → Int32) (k s : Nat) : ax_P := ax_V (fun v h' => ∃ f' a', h' = hp n xs f' a' o ∧ ag [12, 14, 15, 16, 17, 18, 19, 21] [26, 27, 28, 29, 30, 31, 32, 33, 37, 38, 39, 40, 41] f a f' a' ∧ f' 18 = 0 ∧ ((I.length < 16 ∧ R.1.length ≤ 20 ∧ R.2.1.length ≤ 8 ∧ v = some (.int (nI w)) ∧ f' 12 = 0 ∧ mt_at c R.1 f' a' ∧ mz_at R.1 R.2.1 f' a' ∧ cl_at (I ++ [R.2.2]) f' a' ∧ f' 21 = 0) ∨ ((I.length = 16 ∨ 20 < R.1.length ∨ 8 < R.2.1.length) ∧ v = some (.int 0) ∧ f' 12 = 1 ∧ mt_at c T f' a' ∧ mz_at T Z f' a' ∧ cl_at I f' a' ∧ f' 21 = f 21))) k s
theorem ax_R.heap {d M pc : Nat} {al st : List Value} {h h2 : ax_H} {k s : Nat} {Q : ax_P} (e : h = h2) (kk : ax_R d M pc al st h2 k s Q) : ax_R d M pc al st h k s Q := by rw [e]; exact kk
section HMC
variable {n : Nat} {xs : Nat → Int32} {f : Nat → Int32} {a : Nat → Nat → Int32} {o : Nat → Int64} {d k s : Nat}
theorem mc_rest {T : tm_T} {Z S2 : List Nat} {x3 x4 x6 : Value} {Q : ax_P} (hin : ∀ z, z ∈ Z ++ S2 → z < 20) (hinj : ∀ i j t : Nat, (Z ++ S2)[i]? = some t → (Z ++ S2)[j]? = some t → i = j) (h8 : (Z ++ S2).length ≤ 8) (h15 : f 15 = nI (Z ++ S2).length) (h32 : ∀ i t : Nat, (Z ++ S2)[i]? = some t → a 32 i = nI t) : ∀ (t q : Nat) (g : Nat → Int32), q + t = (Z ++ S2).length → Z.length ≤ q → (∀ w, w < T.length → (w ∈ Z → g w = nI (ps Z w + 1)) ∧ (w ∉ Z → g w = 0 ∨ ∃ j, q ≤ j ∧ (Z ++ S2)[j]? = some w)) → (∀ g x5, (∀ w, w < T.length → (w ∈ Z → g w = nI (ps Z w + 1)) ∧ (w ∉ Z → g w = 0)) → ax_R d 10 174 [.ref 25, .int (nI T.length), .int (nI Z.length), x3, x4, x5, x6] [] (hp n xs f (upda a 30 g) o) k s Q) → ax_R d 10 146 [.ref 25, .int (nI T.length), .int (nI Z.length), x3, x4, .int (nI q), x6] [] (hp n xs f (upda a 30 g) o) k s Q := by
  intro t
  induction t with
  | zero =>
    intro q g hq hzq hg hQ
    iterate 3 refine ax_nx rfl rfl ?_
    refine ax_nxt rfl rfl (by rw [h15]; exact nI_le (by omega) (by omega)) ?_
    refine hQ g _ (fun w hw => ⟨(hg w hw).1, fun hn => ?_⟩)
    rcases (hg w hw).2 hn with h9 | ⟨j, h9, h10⟩
    · exact h9
    · have := tm_lt h10; omega
  | succ t ih =>
    intro q g hq hzq hg hQ
    have hql : q < (Z ++ S2).length := by omega
    have hz : (Z ++ S2)[q]? = some (Z ++ S2)[q] := List.getElem?_eq_getElem hql
    generalize (Z ++ S2)[q] = z at hz
    have hz20 := hin z (List.mem_of_getElem? hz)
    have hz32 := h32 q z hz
    iterate 3 refine ax_nx rfl rfl ?_
    refine ax_nxf rfl rfl (by rw [h15]; exact nI_ge hql (by omega)) ?_
    iterate 5 refine ax_nx rfl rfl ?_
    refine ax_ia rfl rfl (vp_in_nI (by omega) (by omega)) ?_
    rw [nI_clamp (by omega), show (upda a 30 g) 32 q = a 32 q from rfl, hz32]
    refine ax_nx rfl rfl ?_
    refine ax_iasH (h2 := hp n xs f (upda a 30 (upd g z 0)) o) rfl rfl (vp_in_nI (by omega) (by omega)) (by rw [nI_clamp (by omega)]; rfl) ?_
    refine ax_nx (al' := [.ref 25, .int (nI T.length), .int (nI Z.length), x3, x4, .int (nI q + 1), x6]) rfl rfl ?_
    rw [nI_1]
    refine ax_nx rfl rfl ?_
    refine ih (q + 1) _ (by omega) (by omega) (fun w hw => ⟨fun hm => ?_, fun hn => ?_⟩) hQ
    · have hwz : ¬ w = z := by
        intro h9
        subst h9
        have h10 := ps_at hm
        have := hinj q _ w hz (tm_app h10)
        have := tm_lt h10
        omega
      exact (if_neg hwz).trans ((hg w hw).1 hm)
    · by_cases hwz : w = z
      · exact Or.inl (if_pos hwz)
      · rcases (hg w hw).2 hn with h9 | ⟨j, h9, h10⟩
        · exact Or.inl ((if_neg hwz).trans h9)
        · refine Or.inr ⟨j, ?_, h10⟩
          rcases Nat.lt_or_ge q j with h11 | h11
          · exact h11
          · have : j = q := by omega
            subst this
            rw [hz] at h10
            cases h10
            exact absurd rfl hwz
theorem mc_full {c w : Nat} {T S : tm_T} {Z S2 : List Nat} {I : List (List wl_L)} {R : tm_T × List Nat × List wl_L} {f0 : Nat → Int32} {a0 : Nat → Nat → Int32} {x3 x4 x5 x6 : Value} (hov : I.length = 16 ∨ 20 < R.1.length ∨ 8 < R.2.1.length) (hT : tm_wf c T) (hZ : th_wf c T Z) (h17 : f 17 = 1) (h1 : mt_at c (T ++ S) f a) (h2 : mz_at (T ++ S) (Z ++ S2) f a) (h3 : th_wf c (T ++ S) (Z ++ S2)) (hcl : cl_at I f a) (h21 : f 21 = f0 21) (hg : ag [12, 14, 15, 16, 17, 18, 19, 21] [26, 27, 28, 29, 30, 31, 32, 33, 37, 38, 39, 40, 41] f0 a0 f a) : ax_R d 10 109 [.ref 25, .int (nI T.length), .int (nI Z.length), x3, x4, x5, x6] [] (hp n xs f a o) k s (mc_Q n xs o c w T Z I R f0 a0 k s) := by
  have hT20 := h1.2.1
  have hz8 := h2.2.1
  rw [List.length_append] at hT20
  have e17 : ∀ z : Int32, upd f 18 z 17 = 1 := fun z => h17
  iterate 2 refine ax_nx rfl rfl ?_
  refine ax_nx (al' := [.ref 25, .int (nI T.length), .int (nI Z.length), x3, .int (f 18), x5, x6]) rfl rfl ?_
  iterate 2 refine ax_nx rfl rfl ?_
  refine ax_nx (h' := hp n xs (upd f 18 0) a o) rfl rfl ?_
  iterate 2 refine ax_nx rfl rfl ?_
  refine ax_nx (st' := [.int (f 17), .ref 25]) rfl rfl ?_
  rw [h17]
  iterate 3 refine ax_nx rfl rfl ?_
  refine ax_nx (h' := hp n xs (upd (upd f 18 0) 12 1) a o) rfl rfl ?_
  refine ax_nx rfl rfl ?_
  refine ax_nx (st' := [.int (f 17)]) rfl rfl ?_
  rw [h17]
  iterate 2 refine ax_nx rfl rfl ?_
  refine ax_nx (al' := [.ref 25, .int (nI T.length), .int (nI Z.length), x3, .int (f 18), .int (nI Z.length), x6]) rfl rfl ?_
  refine ax_R.heap (h2 := hp n xs (upd (upd f 18 0) 12 1) (upda a 30 (a 30)) o) (by rfl) ?_
  refine mc_rest (f := (upd (upd f 18 0) 12 1)) (a := a) (T := T) (S2 := S2) (fun z hz => by have := th_lt h3 hz; have := h1.2.1; omega) h3.1 hz8 h2.1 h2.2.2.1 ((Z ++ S2).length - Z.length) Z.length (a 30) (by rw [List.length_append]; omega) (Nat.le_refl _) (fun w hw => ?_) (fun g x5 hg9 => ?_)
  · have hw2 : w < (T ++ S).length := by rw [List.length_append]; omega
    refine ⟨fun hm => ?_, fun hn => ?_⟩
    · rw [(h2.2.2.2 w hw2).1 (List.mem_append_left _ hm), ps_app hm]
    · by_cases hm : w ∈ Z ++ S2
      · obtain ⟨j, -, hj⟩ := th_at hm
        refine Or.inr ⟨j, ?_, hj⟩
        rcases Nat.lt_or_ge j Z.length with h9 | h9
        · exact absurd (List.mem_of_getElem? (tm_app' h9 hj)) hn
        · exact h9
      · exact Or.inl ((h2.2.2.2 w hw2).2 hm)
  iterate 2 refine ax_nx rfl rfl ?_
  refine ax_nx (h' := hp n xs (upd (upd (upd f 18 0) 12 1) 14 (nI T.length)) (upda a 30 g) o) rfl rfl ?_
  iterate 2 refine ax_nx rfl rfl ?_
  refine ax_nx (h' := hp n xs (upd (upd (upd (upd f 18 0) 12 1) 14 (nI T.length)) 15 (nI Z.length)) (upda a 30 g) o) rfl rfl ?_
  refine ax_nx rfl rfl ?_
  have g1 : ag [12, 14, 15, 18] [30] f a (upd (upd (upd (upd f 18 0) 12 1) 14 (nI T.length)) 15 (nI Z.length)) (upda a 30 g) := by
    refine ⟨fun j hj => ?_, fun j hj => ?_⟩
    · simp only [List.mem_cons, List.not_mem_nil, or_false, not_or] at hj
      simp [upd, hj]
    · simp only [List.mem_cons, List.not_mem_nil, or_false] at hj
      simp [upda, hj]
  obtain ⟨m1, m2, m3, m4, m5⟩ := h1
  refine ax_ret rfl rfl ⟨_, rfl, rfl, rfl, _, _, rfl, hg.trans (g1.wide (by simp) (by simp)), rfl, Or.inr ⟨hov, rfl, rfl, ⟨hT, by omega, rfl, fun i e hi => m4 i e (tm_app hi), fun i hi => ?_⟩, ⟨rfl, by rw [List.length_append] at hz8; omega, fun i t hi => h2.2.2.1 i t (tm_app hi), hg9⟩, hcl.kept g1 (by decide) (by decide), h21⟩⟩
  exact (m5 i (by rw [List.length_append]; omega)).trans (by rw [tm_V_app hT hi])
theorem mc_eqs {C : Nat} {D : dr_L} {x1 x2 x3 x6 : Value} {Q : ax_P} (hC : C < 16) (h4 : D.length ≤ 4) (h19 : f 19 = nI C) (h36 : ∀ (i : Nat) (q : Nat × Nat × Bool), D[i]? = some q → a 36 i = bI q.2.2) : ∀ (t q : Nat) (g : Nat → Int32), q + t = D.length → (∀ j, j < 4 * C → g j = a 41 j) → (∀ (j : Nat) (w : Nat × Nat × Bool), j < q → D[j]? = some w → g (4 * C + j) = bI w.2.2) → (∀ g x5, (∀ j, j < 4 * C → g j = a 41 j) → (∀ (j : Nat) (w : Nat × Nat × Bool), D[j]? = some w → g (4 * C + j) = bI w.2.2) → ax_R d 10 244 [.ref 25, x1, x2, x3, .int (nI D.length), x5, x6] [] (hp n xs f (upda a 41 g) o) k s Q) → ax_R d 10 210 [.ref 25, x1, x2, x3, .int (nI D.length), .int (nI q), x6] [] (hp n xs f (upda a 41 g) o) k s Q := by
  intro t
  induction t with
  | zero =>
    intro q g hq g1 g2 hQ
    iterate 2 refine ax_nx rfl rfl ?_
    refine ax_nxt rfl rfl (nI_le (by omega) (by omega)) ?_
    exact hQ g _ g1 (fun j w hw => g2 j w (by have := tm_lt hw; omega) hw)
  | succ t ih =>
    intro q g hq g1 g2 hQ
    have hql : q < D.length := by omega
    have hz : D[q]? = some D[q] := List.getElem?_eq_getElem hql
    generalize D[q] = z at hz
    have hz36 := h36 q z hz
    iterate 2 refine ax_nx rfl rfl ?_
    refine ax_nxf rfl rfl (nI_ge hql (by omega)) ?_
    iterate 5 refine ax_nx rfl rfl ?_
    rw [h19]
    iterate 3 refine ax_nx rfl rfl ?_
    refine ax_top (y := nI (4 * C + q)) (by show nI 4 * nI C + nI q = _; rw [nI_mul, nI_add]) ?_
    iterate 3 refine ax_nx rfl rfl ?_
    refine ax_ba rfl rfl (vp_in_nI (by omega) (by omega)) ?_
    rw [nI_clamp (by omega), show (upda a 41 g) 36 q = a 36 q from rfl, hz36]
    refine ax_basH (h2 := hp n xs f (upda a 41 (upd g (4 * C + q) (bI z.2.2))) o) rfl rfl (vp_in_nI (by omega) (by omega)) (bI_01 _) (by rw [nI_clamp (by omega)]; rfl) ?_
    refine ax_nx (al' := [.ref 25, x1, x2, x3, .int (nI D.length), .int (nI q + 1), x6]) rfl rfl ?_
    rw [nI_1]
    refine ax_nx rfl rfl ?_
    refine ih (q + 1) _ (by omega) (fun j hj => (if_neg (by omega)).trans (g1 j hj)) (fun j w hj hw => ?_) hQ
    by_cases hjq : j = q
    · subst hjq
      rw [hz] at hw
      cases hw
      exact if_pos rfl
    · exact (if_neg (by omega)).trans (g2 j w (by omega) hw)
theorem mc_loop {c N C xx ys : Nat} (hN20 : N ≤ 20) {D : dr_L} (hD : din N D) (hC : C < 16) (hxx : xx ≤ 4) (hys : ys ≤ 4) (hy0 : 0 < ys) (hxc : xx ≤ c) (hyc : ys ≤ c) {T0 : tm_T} {Z0 : List Nat} {x3 : Value} {Q : ax_P} : ∀ (m q : Nat), q + m = xx * ys → ∀ (T : tm_T) (Z : List Nat) (f : Nat → Int32) (a : Nat → Nat → Int32), mt_at c T f a → mz_at T Z f a → th_wf c T Z → N ≤ T.length → md_at D f a → f 17 = 0 → f 19 = nI C →
    (∀ f' a' x6, (cl ys D m q T Z).1.length ≤ 20 → (cl ys D m q T Z).2.1.length ≤ 8 → mt_at c (cl ys D m q T Z).1 f' a' → mz_at (cl ys D m q T Z).1 (cl ys D m q T Z).2.1 f' a' → f' 17 = 0 → ag [14, 15, 16, 17] [26, 27, 28, 29, 30, 31, 32, 33, 39, 40] f a f' a' → (∀ j, j < 64 * C + 4 * q → a' 39 j = a 39 j ∧ a' 40 j = a 40 j) → (∀ (i : Nat) (l : wl_L), (cl ys D m q T Z).2.2[i]? = some l → ∀ (j : Nat) (w : Nat × Nat × Bool), l[j]? = some w → a' 39 (64 * C + 4 * (q + i) + j) = nI w.1 ∧ a' 40 (64 * C + 4 * (q + i) + j) = nI w.2.1) → ax_R (d + 4) 10 103 [.ref 25, .int (nI T0.length), .int (nI Z0.length), x3, .int (nI xx), .int (nI ys), x6] [] (hp n xs f' a' o) k s Q) →
    (∀ f' a' x6, (20 < (cl ys D m q T Z).1.length ∨ 8 < (cl ys D m q T Z).2.1.length) → (∃ S S2, mt_at c (T ++ S) f' a' ∧ mz_at (T ++ S) (Z ++ S2) f' a' ∧ th_wf c (T ++ S) (Z ++ S2)) → f' 17 = 1 → ag [14, 15, 16, 17] [26, 27, 28, 29, 30, 31, 32, 33, 39, 40] f a f' a' → (∀ j, j < 64 * C + 4 * q → a' 39 j = a 39 j ∧ a' 40 j = a 40 j) → ax_R (d + 4) 10 103 [.ref 25, .int (nI T0.length), .int (nI Z0.length), x3, .int (nI xx), .int (nI ys), x6] [] (hp n xs f' a' o) k s Q) → ax_R (d + 4) 10 54 [.ref 25, .int (nI T0.length), .int (nI Z0.length), x3, .int (nI xx), .int (nI ys), .int (nI q)] [] (hp n xs f a o) k s Q := by
  have hw16 : xx * ys ≤ 4 * 4 := Nat.mul_le_mul hxx hys
  intro m
  induction m with
  | zero =>
    intro q hq T Z f a h1 h2 h3 hN hmd h17 h19 hs hf
    iterate 4 refine ax_nx rfl rfl ?_
    refine ax_top (y := nI (xx * ys)) (nI_mul xx ys) ?_
    refine ax_nxt rfl rfl (nI_le (by omega) (by omega)) ?_
    exact hs f a _ h1.2.1 h2.2.1 h1 h2 h17 ag.rf (fun _ _ => ⟨rfl, rfl⟩) (fun i l hl => by cases hl)
  | succ m ih =>
    intro q hq T Z f a h1 h2 h3 hN hmd h17 h19 hs hf
    have hqw : q < xx * ys := by omega
    have hall : ∀ j, j < xx * ys → j / ys < c ∧ j % ys < c := fun j hj => ⟨Nat.lt_of_lt_of_le ((Nat.div_lt_iff_lt_mul hy0).mpr hj) hxc, Nat.lt_of_lt_of_le (Nat.mod_lt _ hy0) hyc⟩
    obtain ⟨hx, hy⟩ := hall q hqw
    have hdm := nI_dm (q := q) (y := ys) (by omega) (by omega) hy0
    iterate 4 refine ax_nx rfl rfl ?_
    refine ax_top (y := nI (xx * ys)) (nI_mul xx ys) ?_
    refine ax_nxf rfl rfl (nI_ge hqw (by omega)) ?_
    iterate 2 refine ax_nx rfl rfl ?_
    rw [h17]
    iterate 5 refine ax_nx rfl rfl ?_
    rw [h19]
    iterate 5 refine ax_nx rfl rfl ?_
    refine ax_top (y := nI (64 * C + 4 * q)) (by show nI 64 * nI C + nI 4 * nI q = _; rw [nI_mul, nI_mul, nI_add]) ?_
    iterate 2 refine ax_nx rfl rfl ?_
    refine ax_nxf rfl rfl (nI_ne0 hy0 (by omega)) ?_
    refine ax_top (y := nI (q / ys)) (hdm.1) ?_
    iterate 2 refine ax_nx rfl rfl ?_
    refine ax_nxf rfl rfl (nI_ne0 hy0 (by omega)) ?_
    refine ax_top (y := nI (q % ys)) (hdm.2) ?_
    refine ax_cal (d := d + 3) rfl rfl (q_Mo_it (d := d) hx hy hN20 hD (show 64 * C + 4 * q + 4 ≤ 1024 by omega) h1 h2 h3 hN hmd h17) (fun v h' hh => ?_)
    obtain ⟨rfl, f1, a1, rfl, g1, fr1, hv⟩ := hh
    have hio := ins_ok hx hy hN20 h1.1 h3 hN hD
    rw [cl] at hs hf
    generalize ins (q / ys) (q % ys) D T Z = R1 at *
    obtain ⟨T1, Z1, l1⟩ := R1
    dsimp only at hio hv hs hf
    obtain ⟨⟨S6, b1⟩, ⟨S7, b2⟩, b3, b4, b5, b6⟩ := hio
    have hNT1 : N ≤ T1.length := by rw [b1, List.length_append]; omega
    obtain ⟨⟨S8, c1⟩, ⟨S9, c2⟩, c3, c4, c5, c6⟩ := cl_ok (k := q + 1) (m := m) hN20 hD (fun j hj => hall j (by omega)) b3 b4 hNT1
    have hlen : T1.length ≤ (cl ys D m (q + 1) T1 Z1).1.length ∧ Z1.length ≤ (cl ys D m (q + 1) T1 Z1).2.1.length := by rw [c1, c2, List.length_append, List.length_append]; omega
    have h191 : f1 19 = nI C := (g1.1 19 (by decide)).trans h19
    have hmd1 := hmd.kept g1 (by decide) (by decide)
    rcases hv with ⟨v1, v2, v3, v4, v5, v6⟩ | ⟨v1, v2, v3⟩
    · refine ax_nx (al' := [.ref 25, .int (nI T0.length), .int (nI Z0.length), x3, .int (nI xx), .int (nI ys), .int (nI q + 1)]) rfl rfl ?_
      rw [nI_1]
      refine ax_nx rfl rfl ?_
      refine ih (q + 1) (by omega) T1 Z1 f1 a1 v4 v5 b4 hNT1 hmd1 v3 h191 (fun f' a' x6 w1 w2 w3 w4 w5 w6 w7 w8 => ?_) (fun f' a' x6 w1 w2 w3 w4 w5 => ?_)
      · refine hs f' a' x6 w1 w2 w3 w4 w5 (g1.trans w6) (fun j hj => ⟨((w7 j (by omega)).1).trans (fr1 j hj).1, ((w7 j (by omega)).2).trans (fr1 j hj).2⟩) (fun i l hl j w hw => ?_)
        cases i with
        | zero =>
          cases hl
          have hj : j < 4 := by
            have h9 := tm_lt hw
            have h10 : l1.length = D.length := by have := congrArg List.length b6; rw [List.length_map, List.length_map] at this; exact this
            have := hmd.2.1
            omega
          have := v6 j w hw
          have h11 := w7 (64 * C + 4 * q + j) (by omega)
          rw [show 64 * C + 4 * (q + 0) + j = 64 * C + 4 * q + j by omega]
          exact ⟨h11.1.trans this.1, h11.2.trans this.2⟩
        | succ i =>
          have := w8 i l (by simpa using hl) j w hw
          rw [show q + (i + 1) = q + 1 + i by omega]
          exact this
      · obtain ⟨SX, SY, y1, y2, y3⟩ := w2
        refine hf f' a' x6 w1 ⟨S6 ++ SX, S7 ++ SY, ?_, ?_, ?_⟩ w3 (g1.trans w4) (fun j hj => ⟨((w5 j (by omega)).1).trans (fr1 j hj).1, ((w5 j (by omega)).2).trans (fr1 j hj).2⟩)
        · rw [← List.append_assoc, ← b1]; exact y1
        · rw [← List.append_assoc, ← b1, ← List.append_assoc, ← b2]; exact y2
        · rw [← List.append_assoc, ← b1, ← List.append_assoc, ← b2]; exact y3
    · refine ax_nx (al' := [.ref 25, .int (nI T0.length), .int (nI Z0.length), x3, .int (nI xx), .int (nI ys), .int (nI q + 1)]) rfl rfl ?_
      rw [nI_1]
      refine ax_nx rfl rfl ?_
      iterate 4 refine ax_nx rfl rfl ?_
      refine ax_top (y := nI (xx * ys)) (nI_mul xx ys) ?_
      rcases Nat.lt_or_ge (q + 1) (xx * ys) with h9 | h9
      · refine ax_nxf rfl rfl (nI_ge h9 (by omega)) ?_
        iterate 2 refine ax_nx rfl rfl ?_
        rw [v2]
        refine ax_nx rfl rfl ?_
        exact hf f1 a1 _ (by omega) v3 v2 g1 fr1
      · refine ax_nxt rfl rfl (nI_le h9 (by omega)) ?_
        exact hf f1 a1 _ (by omega) v3 v2 g1 fr1
theorem cl_at.push {I : List (List wl_L)} {D : dr_L} {L : List wl_L} {w : Nat} {f f' : Nat → Int32} {a a' : Nat → Nat → Int32} (h : cl_at I f a) (hC : I.length < 16) (h19 : f' 19 = nI (I.length + 1)) (hL : L.length = w) (hw : w ≤ 16) (hD4 : D.length ≤ 4) (hLm : ∀ l, l ∈ L → l.map (fun q => q.2.2) = D.map (fun q => q.2.2)) (h37 : a' 37 = upd (a 37) I.length (nI D.length)) (h38 : a' 38 = upd (a 38) I.length (nI w)) (h41 : ∀ j, j < 4 * I.length → a' 41 j = a 41 j) (h41' : ∀ (j : Nat) (q : Nat × Nat × Bool), D[j]? = some q → a' 41 (4 * I.length + j) = bI q.2.2) (h39 : ∀ j, j < 64 * I.length → a' 39 j = a 39 j ∧ a' 40 j = a 40 j) (h39' : ∀ (i : Nat) (l : wl_L), L[i]? = some l → ∀ (j : Nat) (q : Nat × Nat × Bool), l[j]? = some q → a' 39 (64 * I.length + 4 * i + j) = nI q.1 ∧ a' 40 (64 * I.length + 4 * i + j) = nI q.2.1) : cl_at (I ++ [L]) f' a' := by
  obtain ⟨k1, k2, k3⟩ := h
  refine ⟨by rw [List.length_append]; exact h19, by rw [List.length_append]; simp; omega, fun c G hG => ?_⟩
  rw [h37, h38]
  rcases Nat.lt_or_ge c I.length with hl | hl
  · rw [List.getElem?_append_left hl] at hG
    obtain ⟨m1, m2, E, m3, m4, m5, m6⟩ := k3 c G hG
    refine ⟨m1, (if_neg (Nat.ne_of_lt hl)).trans m2, E, m3, (if_neg (Nat.ne_of_lt hl)).trans m4, fun j b hb => ?_, fun i l hil => ?_⟩
    · have := tm_lt hb
      rw [h41 _ (by omega)]
      exact m5 j b hb
    · obtain ⟨e1, e2⟩ := m6 i l hil
      refine ⟨e1, fun j q hq => ?_⟩
      have hil2 := tm_lt hil
      have hj := tm_lt hq
      have : l.length = E.length := by rw [← e1, List.length_map]
      have h9 := h39 (64 * c + 4 * i + j) (by omega)
      rw [h9.1, h9.2]
      exact e2 j q hq
  · have hz := tm_lt hG
    simp at hz
    have hce : c = I.length := by omega
    subst hce
    rw [List.getElem?_append_right (Nat.le_refl _), Nat.sub_self] at hG
    cases hG
    refine ⟨by omega, (if_pos rfl).trans (by rw [hL]), D.map (fun q => q.2.2), by rw [List.length_map]; exact hD4, (if_pos rfl).trans (by rw [List.length_map]), fun j b hb => ?_, fun i l hil => ⟨hLm l (List.mem_of_getElem? hil), h39' i l hil⟩⟩
    rw [List.getElem?_map] at hb
    cases hd : D[j]? with
    | none => rw [hd] at hb; cases hb
    | some q =>
      rw [hd] at hb
      cases hb
      exact h41' j q hd
theorem q_Mo_clause {c N : Nat} (hN20 : N ≤ 20) (hc0 : 0 < c) (hc4 : c ≤ 4) {D : dr_L} (hD : din N D) {T : tm_T} {Z : List Nat} {I : List (List wl_L)} (h13 : f 13 = nI c) (hN : N ≤ T.length) (h1 : mt_at c T f a) (h2 : mz_at T Z f a) (h3 : th_wf c T Z) (hmd : md_at D f a) (hcl : cl_at I f a) : ax_R (d + 4) 10 0 (ax_in 10 [.ref 25]) [] (hp n xs f a o) k s (mc_Q n xs o c (nc c 1 (dv (tm_V T) 0 D) * nc c 2 (dv (tm_V T) 0 D)) T Z I (cl (nc c 2 (dv (tm_V T) 0 D)) D (nc c 1 (dv (tm_V T) 0 D) * nc c 2 (dv (tm_V T) 0 D)) 0 T Z) f a k s) := by
  have h14 := h1.2.2.1
  have h15 := h2.1
  have h19 := hcl.1
  have hI16 := hcl.2.1
  have hx4 := nc_le (b := 1) (v := dv (tm_V T) 0 D) hc0
  have hy4 := nc_le (b := 2) (v := dv (tm_V T) 0 D) hc0
  have hx0 := nc_pos (b := 1) (v := dv (tm_V T) 0 D) hc0
  have hy0 := nc_pos (b := 2) (v := dv (tm_V T) 0 D) hc0
  iterate 2 refine ax_nx rfl rfl ?_
  rw [h14]
  refine ax_nx (al' := [.ref 25, .int (nI T.length), ax_u, ax_u, ax_u, ax_u, ax_u]) rfl rfl ?_
  iterate 2 refine ax_nx rfl rfl ?_
  rw [h15]
  refine ax_nx (al' := [.ref 25, .int (nI T.length), .int (nI Z.length), ax_u, ax_u, ax_u, ax_u]) rfl rfl ?_
  refine ax_nx rfl rfl ?_
  refine ax_nx (al' := [.ref 25, .int (nI T.length), .int (nI Z.length), .int 0, ax_u, ax_u, ax_u]) rfl rfl ?_
  iterate 4 refine ax_nx rfl rfl ?_
  rw [h19]
  rcases Nat.lt_or_ge I.length 16 with hlt | hge
  rotate_left
  · have hI : I.length = 16 := by omega
    rw [hI]
    iterate 3 refine ax_nx rfl rfl ?_
    refine ax_nx (h' := hp n xs (upd f 17 1) a o) rfl rfl ?_
    refine ax_nx rfl rfl ?_
    refine ax_nx (st' := [.int 1]) rfl rfl ?_
    refine ax_nx rfl rfl ?_
    have g1 : ag [17] [] f a (upd f 17 1) a := ag.f1
    exact mc_full (S := []) (S2 := []) (Or.inl hI) h1.1 h3 rfl (by rw [List.append_nil]; exact h1.kept g1 (by decide) (by decide)) (by rw [List.append_nil, List.append_nil]; exact h2.kept g1 (by decide) (by decide)) (by rw [List.append_nil, List.append_nil]; exact h3) (hcl.kept g1 (by decide) (by decide)) rfl (g1.wide (by simp) (by simp))
  refine ax_nxf rfl rfl (fun h9 => by have := (nI_eq (b := 16) (by omega) (by omega)).mp h9; omega) ?_
  refine ax_nx rfl rfl ?_
  refine ax_nx (h' := hp n xs (upd f 17 0) a o) rfl rfl ?_
  refine ax_nx rfl rfl ?_
  refine ax_nx (st' := [.int 0]) rfl rfl ?_
  iterate 3 refine ax_nx rfl rfl ?_
  have g1 : ag [17] [] f a (upd f 17 0) a := ag.f1
  have hDT : din T.length D := fun q hq => ⟨Nat.lt_of_lt_of_le (hD q hq).1 hN, Nat.lt_of_lt_of_le (hD q hq).2 hN⟩
  refine ax_cal (d := d + 3) rfl rfl (q_Mo_range (w := 3) (d := d + 1) (Or.inl rfl) hDT (h1.kept g1 (by decide) (by decide)) (hmd.kept g1 (by decide) (by decide)) h13) (fun v h' hh => ?_)
  obtain ⟨rfl, f2, a2, rfl, g2⟩ := hh
  have g12 := (g1.wide (F' := [16, 17]) (A' := [33]) (by simp) (by simp)).trans (g2.wide (F' := [16, 17]) (A' := [33]) (by simp) (by simp))
  refine ax_nx (al' := [.ref 25, .int (nI T.length), .int (nI Z.length), .int 0, .int (nI (nc c (vb 3) (dv (tm_V T) 0 D))), ax_u, ax_u]) rfl rfl ?_
  iterate 2 refine ax_nx rfl rfl ?_
  refine ax_cal (d := d + 3) rfl rfl (q_Mo_range (w := 4) (d := d + 1) (Or.inr rfl) hDT (h1.kept g12 (by decide) (by decide)) (hmd.kept g12 (by decide) (by decide)) ((g12.1 13 (by decide)).trans h13)) (fun v h' hh => ?_)
  obtain ⟨rfl, f3, a3, rfl, g3⟩ := hh
  have g13 := g12.trans (g3.wide (F' := [16, 17]) (A' := [33]) (by simp) (by simp))
  have h173 : f3 17 = 0 := (g3.1 17 (by decide)).trans ((g2.1 17 (by decide)).trans rfl)
  rw [show vb 3 = 1 from rfl, show vb 4 = 2 from rfl]
  generalize nc c 1 (dv (tm_V T) 0 D) = xx at *
  generalize nc c 2 (dv (tm_V T) 0 D) = ys at *
  refine ax_nx (al' := [.ref 25, .int (nI T.length), .int (nI Z.length), .int 0, .int (nI xx), .int (nI ys), ax_u]) rfl rfl ?_
  refine ax_nx rfl rfl ?_
  refine ax_nx (al' := [.ref 25, .int (nI T.length), .int (nI Z.length), .int 0, .int (nI xx), .int (nI ys), .int (nI 0)]) rfl rfl ?_
  have h16 : xx * ys ≤ 4 * 4 := Nat.mul_le_mul (by omega) (by omega)
  have hmd3 := hmd.kept g13 (by decide) (by decide)
  refine mc_loop (C := I.length) hN20 hD hlt (by omega) (by omega) hy0 hx4 hy4 (xx * ys) 0 (by omega) T Z f3 a3 (h1.kept g13 (by decide) (by decide)) (h2.kept g13 (by decide) (by decide)) h3 hN hmd3 h173 ((g13.1 19 (by decide)).trans h19) (fun f' a' x6 w1 w2 w3 w4 w5 w6 w7 w8 => ?_) (fun f' a' x6 w1 w2 w3 w4 w5 => ?_)
  rotate_left
  · iterate 3 refine ax_nx rfl rfl ?_
    refine ax_nx (al' := [.ref 25, .int (nI T.length), .int (nI Z.length), .int (nI xx * nI ys), .int (nI xx), .int (nI ys), x6]) rfl rfl ?_
    obtain ⟨S, S2, y1, y2, y3⟩ := w2
    have gall := (g13.wide (F' := [12, 14, 15, 16, 17, 18, 19, 21]) (A' := [26, 27, 28, 29, 30, 31, 32, 33, 37, 38, 39, 40, 41]) (by simp) (by simp)).trans (w4.wide (F' := [12, 14, 15, 16, 17, 18, 19, 21]) (A' := [26, 27, 28, 29, 30, 31, 32, 33, 37, 38, 39, 40, 41]) (by simp) (by simp))
    have hcl' : cl_at I f' a' := by
      obtain ⟨k1, k2, k3⟩ := hcl.kept g13 (by decide) (by decide)
      refine ⟨(w4.1 19 (by decide)).trans k1, k2, fun c9 G hG => ?_⟩
      obtain ⟨m1, m2, E, m3, m4, m5, m6⟩ := k3 c9 G hG
      rw [w4.2 37 (by decide), w4.2 38 (by decide), w4.2 41 (by decide)]
      refine ⟨m1, m2, E, m3, m4, m5, fun i l hil => ?_⟩
      obtain ⟨e1, e2⟩ := m6 i l hil
      refine ⟨e1, fun j q hq => ?_⟩
      have hil2 := tm_lt hil
      have hj := tm_lt hq
      have hG2 := tm_lt hG
      have : l.length = E.length := by rw [← e1, List.length_map]
      have h9 := w5 (64 * c9 + 4 * i + j) (by omega)
      rw [h9.1, h9.2]
      exact e2 j q hq
    exact mc_full (Or.inr w1) h1.1 h3 w3 y1 y2 y3 hcl' ((w4.1 21 (by decide)).trans (g13.1 21 (by decide))) gall
  have hmd18 : f' 18 = nI D.length := (w6.1 18 (by decide)).trans hmd3.1
  have h19' : f' 19 = nI I.length := (w6.1 19 (by decide)).trans ((g13.1 19 (by decide)).trans h19)
  have hmd' := hmd3.kept w6 (by decide) (by decide)
  iterate 3 refine ax_nx rfl rfl ?_
  refine ax_top (y := nI (xx * ys)) (nI_mul xx ys) ?_
  refine ax_nx (al' := [.ref 25, .int (nI T.length), .int (nI Z.length), .int (nI (xx * ys)), .int (nI xx), .int (nI ys), x6]) rfl rfl ?_
  iterate 2 refine ax_nx rfl rfl ?_
  rw [hmd18]
  refine ax_nx (al' := [.ref 25, .int (nI T.length), .int (nI Z.length), .int (nI (xx * ys)), .int (nI D.length), .int (nI ys), x6]) rfl rfl ?_
  iterate 2 refine ax_nx rfl rfl ?_
  refine ax_nx (h' := hp n xs (upd f' 18 0) a' o) rfl rfl ?_
  iterate 2 refine ax_nx rfl rfl ?_
  refine ax_nx (st' := [.int (f' 17), .ref 25]) rfl rfl ?_
  rw [w5]
  iterate 2 refine ax_nx rfl rfl ?_
  refine ax_nx (h' := hp n xs (upd (upd f' 18 0) 12 0) a' o) rfl rfl ?_
  refine ax_nx rfl rfl ?_
  refine ax_nx (st' := [.int (f' 17)]) rfl rfl ?_
  rw [w5]
  iterate 4 refine ax_nx rfl rfl ?_
  refine ax_nx (st' := [.int (f' 19), .ref 37]) rfl rfl ?_
  rw [h19']
  refine ax_nx rfl rfl ?_
  refine ax_iasH (h2 := hp n xs (upd (upd f' 18 0) 12 0) (upda a' 37 (upd (a' 37) (I.length) (nI D.length))) o) rfl rfl (vp_in_nI (by omega) (by omega)) (by rw [nI_clamp (by omega)]; rfl) ?_
  iterate 3 refine ax_nx rfl rfl ?_
  refine ax_nx (st' := [.int (f' 19), .ref 38]) rfl rfl ?_
  rw [h19']
  refine ax_nx rfl rfl ?_
  refine ax_iasH (h2 := hp n xs (upd (upd f' 18 0) 12 0) (upda (upda a' 37 (upd (a' 37) (I.length) (nI D.length))) 38 (upd (a' 38) (I.length) (nI (xx * ys)))) o) rfl rfl (vp_in_nI (by omega) (by omega)) (by rw [nI_clamp (by omega)]; rfl) ?_
  refine ax_nx rfl rfl ?_
  refine ax_nx (h' := hp n xs (upd (upd f' 18 0) 12 0) (upda (upda (upda a' 37 (upd (a' 37) (I.length) (nI D.length))) 38 (upd (a' 38) (I.length) (nI (xx * ys)))) 41 (a' 41)) o) (al' := [.ref 25, .int (nI T.length), .int (nI Z.length), .int (nI (xx * ys)), .int (nI D.length), .int (nI 0), x6]) rfl rfl ?_
  refine mc_eqs (f := (upd (upd f' 18 0) 12 0)) (a := (upda (upda a' 37 (upd (a' 37) (I.length) (nI D.length))) 38 (upd (a' 38) (I.length) (nI (xx * ys))))) (C := I.length) (D := D) hlt hmd.2.1 h19' (fun i q hq => (hmd'.2.2 i q hq).2.2) D.length 0 (a' 41) (by omega) (fun _ _ => rfl) (fun j w hj => absurd hj (Nat.not_lt_zero _)) (fun g x5 e1 e2 => ?_)
  iterate 2 refine ax_nx rfl rfl ?_
  refine ax_nx (st' := [.int (f' 19), .ref 25]) rfl rfl ?_
  iterate 2 refine ax_nx rfl rfl ?_
  refine ax_top (y := nI (I.length + 1)) (by show f' 19 + 1 = _; rw [h19']; exact nI_1 _) ?_
  refine ax_nx (h' := hp n xs (upd (upd (upd f' 18 0) 12 0) 19 (nI (I.length + 1))) (upda (upda (upda a' 37 (upd (a' 37) (I.length) (nI D.length))) 38 (upd (a' 38) (I.length) (nI (xx * ys)))) 41 g) o) rfl rfl ?_
  iterate 2 refine ax_nx rfl rfl ?_
  refine ax_nx (h' := hp n xs (upd (upd (upd (upd f' 18 0) 12 0) 19 (nI (I.length + 1))) 21 0) (upda (upda (upda a' 37 (upd (a' 37) (I.length) (nI D.length))) 38 (upd (a' 38) (I.length) (nI (xx * ys)))) 41 g) o) rfl rfl ?_
  refine ax_nx rfl rfl ?_
  have g5 : ag [12, 18, 19, 21] [37, 38, 41] f' a' (upd (upd (upd (upd f' 18 0) 12 0) 19 (nI (I.length + 1))) 21 0) (upda (upda (upda a' 37 (upd (a' 37) (I.length) (nI D.length))) 38 (upd (a' 38) (I.length) (nI (xx * ys)))) 41 g) := by
    refine ⟨fun j hj => ?_, fun j hj => ?_⟩
    · simp only [List.mem_cons, List.not_mem_nil, or_false, not_or] at hj
      simp [upd, hj]
    · simp only [List.mem_cons, List.not_mem_nil, or_false, not_or] at hj
      simp [upda, hj]
  have gall := ((g13.wide (F' := [12, 14, 15, 16, 17, 18, 19, 21]) (A' := [26, 27, 28, 29, 30, 31, 32, 33, 37, 38, 39, 40, 41]) (by simp) (by simp)).trans (w6.wide (F' := [12, 14, 15, 16, 17, 18, 19, 21]) (A' := [26, 27, 28, 29, 30, 31, 32, 33, 37, 38, 39, 40, 41]) (by simp) (by simp))).trans (g5.wide (F' := [12, 14, 15, 16, 17, 18, 19, 21]) (A' := [26, 27, 28, 29, 30, 31, 32, 33, 37, 38, 39, 40, 41]) (by simp) (by simp))
  obtain ⟨-, -, -, -, c5, c6⟩ := cl_ok (c := c) (ys := ys) (m := xx * ys) (k := 0) (T := T) (Z := Z) hN20 hD (fun j hj => ⟨Nat.lt_of_lt_of_le ((Nat.div_lt_iff_lt_mul hy0).mpr (by omega)) hx4, Nat.lt_of_lt_of_le (Nat.mod_lt _ hy0) hy4⟩) h1.1 h3 hN
  refine ax_ret rfl rfl ⟨_, rfl, rfl, rfl, _, _, rfl, gall, rfl, Or.inl ⟨hlt, w1, w2, rfl, rfl, w3.kept g5 (by decide) (by decide), w4.kept g5 (by decide) (by decide), ?_, rfl⟩⟩
  refine cl_at.push (w := xx * ys) (D := D) (f := f) (a := a) hcl hlt rfl c6 (by omega) hmd.2.1 (fun l hl => (c5 l hl).2) ?_ ?_ (fun j hj => (e1 j hj).trans ?_) e2 (fun j hj => ⟨((w7 j (by omega)).1).trans (by rw [g13.2 39 (by decide)]), ((w7 j (by omega)).2).trans (by rw [g13.2 40 (by decide)])⟩) (fun i l hil j q hq => ?_)
  · show upd (a' 37) I.length (nI D.length) = _
    rw [w6.2 37 (by decide), g13.2 37 (by decide)]
  · show upd (a' 38) I.length (nI (xx * ys)) = _
    rw [w6.2 38 (by decide), g13.2 38 (by decide)]
  · show a' 41 j = a 41 j
    rw [w6.2 41 (by decide), g13.2 41 (by decide)]
  · have := w8 i l hil j q hq
    rw [Nat.zero_add] at this
    exact this
end HMC
