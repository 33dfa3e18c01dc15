section HQ
variable {n : Nat} {xs : Nat → Int32} {f : Nat → Int32} {o : Nat → Int64} {d k s : Nat}
def pl_Q (n : Nat) (xs : Nat → Int32) (f : Nat → Int32) (a : Nat → Nat → Int32) (o : Nat → Int64) (N q : Nat) (Pr : (Nat → Nat) → Prop) (v : Nat → Nat) (k s : Nat) : ax_P := ax_V (fun r h' => ∃ g, h' = hp n xs f (upda a 12 g) o ∧ ((r = some (.int 1) ∧ ∃ w, lb_mx N q Pr v w ∧ ∀ i, i < N → g i = nI (w i)) ∨ (r = some (.int 0) ∧ (∀ i, i < q → g i = nI (v i)) ∧ ∀ u, lb_ex N q v u → ¬ Pr u))) k s
theorem q_place {N : Nat} {kd fi se : Nat → Nat} {P : List (Int32 × Int32)} (hN : N ≤ 8) (h8 : f 8 = nI N) : ∀ (r q : Nat), q + r = N → ∀ (v : Nat → Nat) (E : Int32) (a : Nat → Nat → Int32), (∀ m, m < N → ks_at m kd fi se a) → ci_at P f a → lb_ok q v → (∀ j, j < q → wl_C kd fi se P v j) → (∀ i, i < q → a 12 i = nI (v i)) →
    (∀ b, b < 32 → (bt E b = true ↔ ∃ i j, i < j ∧ j < q ∧ wl_pq i j = b ∧ v i = v j)) →
    ax_R (r + 3) 73 0 (ax_in 73 [.ref 11, .int (nI q), .int E, .ref 20, .ref 8]) [] (hp n xs f a o) k s (pl_Q n xs f a o N q (fun u => ∀ j, j < N → wl_C kd fi se P u j) v k s) := by
  intro r
  induction r with
  | zero =>
    intro q hq v E a hK hc hv hC hl hE
    have hqN : q = N := by omega
    subst hqN
    have fin : ax_R (0 + 3) 73 14 (ax_in 73 [.ref 11, .int (nI q), .int E, .ref 20, .ref 8]) [] (hp n xs f a o) k s (pl_Q n xs f a o q q (fun u => ∀ j, j < q → wl_C kd fi se P u j) v k s) := by
      refine ax_nx rfl rfl ?_
      refine ax_retb rfl rfl (Or.inr rfl) ⟨_, rfl, rfl, rfl, a 12, rfl, Or.inl ⟨rfl, v, ⟨⟨hv, fun i hi => rfl⟩, hC, fun u hu _ hlt => ?_⟩, hl⟩⟩
      obtain ⟨j, hj, -, h2⟩ := hlt
      have := hu.2 j hj
      omega
    refine ax_nx rfl rfl ?_
    refine ax_nx rfl rfl ?_
    rcases Nat.lt_or_ge q 8 with h9 | h9
    · refine ax_nxf rfl rfl (nI_ge (b := 8) h9 (by omega)) ?_
      refine ax_nx rfl rfl ?_
      refine ax_nx rfl rfl ?_
      refine ax_cal rfl rfl q_size_Th (fun w h' hh => ?_)
      obtain ⟨rfl, rfl⟩ := hh
      rw [h8]
      refine ax_nxf rfl rfl (nI_nlt (Nat.le_refl _) (by omega)) ?_
      exact fin
    · refine ax_nxt rfl rfl (nI_le (a := 8) h9 (by omega)) ?_
      exact fin
  | succ r ih =>
    intro q hq v E a hK hc hv hC hl hE
    have hqN : q < N := by omega
    have hlab : ∀ i, i < q → v i < 8 := fun i hi => by have := (hv i hi).1; omega
    refine ax_nx rfl rfl ?_
    refine ax_nx rfl rfl ?_
    refine ax_nxf rfl rfl (nI_ge (b := 8) (by omega) (by omega)) ?_
    refine ax_nx rfl rfl ?_
    refine ax_nx rfl rfl ?_
    refine ax_cal rfl rfl q_size_Th (fun w h' hh => ?_)
    obtain ⟨rfl, rfl⟩ := hh
    rw [h8]
    refine ax_nxt rfl rfl (nI_lt hqN (by omega)) ?_
    refine ax_nx rfl rfl ?_
    refine ax_nx (h' := hp n xs f (upda a 12 (a 12)) o) (al' := [.ref 11, .int (nI q), .int E, .ref 20, .ref 8, .int (nI 0), ax_u, ax_u]) rfl rfl ?_
    have loop : ∀ (t b : Nat) (g : Nat → Int32) (x6 x7 : Value), b + t = q + 1 → (∀ i, i < q → g i = nI (v i)) → (∀ u, lb_ex N q v u → (∀ j, j < N → wl_C kd fi se P u j) → b ≤ u q) →
        ax_R (r + 1 + 3) 73 19 [.ref 11, .int (nI q), .int E, .ref 20, .ref 8, .int (nI b), x6, x7] [] (hp n xs f (upda a 12 g) o) k s (pl_Q n xs f a o N q (fun u => ∀ j, j < N → wl_C kd fi se P u j) v k s) := by
      intro t
      induction t with
      | zero =>
        intro b g x6 x7 hb hg hlow
        have hbq : b = q + 1 := by omega
        subst hbq
        refine ax_nx rfl rfl ?_
        refine ax_nx rfl rfl ?_
        refine ax_nxt rfl rfl (nI_lt (by omega) (by omega)) ?_
        refine ax_nx rfl rfl ?_
        exact ax_retb rfl rfl (Or.inl rfl) ⟨_, rfl, rfl, rfl, g, rfl, Or.inr ⟨rfl, hg, wl_end hqN hlow⟩⟩
      | succ t iht =>
        intro b g x6 x7 hb hg hlow
        have next : ∀ (g : Nat → Int32) (x6 x7 : Value), (∀ i, i < q → g i = nI (v i)) → (∀ u, lb_ex N q v u → (∀ j, j < N → wl_C kd fi se P u j) → b + 1 ≤ u q) → ax_R (r + 1 + 3) 73 116 [.ref 11, .int (nI q), .int E, .ref 20, .ref 8, .int (nI b), x6, x7] [] (hp n xs f (upda a 12 g) o) k s (pl_Q n xs f a o N q (fun u => ∀ j, j < N → wl_C kd fi se P u j) v k s) := by
          intro g x6 x7 hg hlow
          refine ax_nx (al' := [.ref 11, .int (nI q), .int E, .ref 20, .ref 8, .int (nI b + 1), x6, x7]) rfl rfl ?_
          refine ax_nx rfl rfl ?_
          rw [nI_1]
          exact iht (b + 1) g x6 x7 (by omega) hg hlow
        have try1 : (b = q ∨ v b = b) → ax_R (r + 1 + 3) 73 46 [.ref 11, .int (nI q), .int E, .ref 20, .ref 8, .int (nI b), x6, x7] [] (hp n xs f (upda a 12 g) o) k s (pl_Q n xs f a o N q (fun u => ∀ j, j < N → wl_C kd fi se P u j) v k s) := by
          intro hbb
          have hbq : b ≤ q := by omega
          have vq : va_up v q b q = b := if_pos rfl
          have vi : ∀ i, i < q → va_up v q b i = v i := fun i hi => if_neg (Nat.ne_of_lt hi)
          have hv' : lb_ok (q + 1) (va_up v q b) := by
            intro i hi
            rcases Nat.lt_succ_iff_lt_or_eq.mp hi with hi | rfl
            · have h1 := hv i hi
              rw [vi i hi, vi (v i) (by omega)]
              exact h1
            · rw [vq]
              refine ⟨hbq, ?_⟩
              rcases hbb with rfl | hbb
              · exact vq
              · rcases Nat.lt_or_ge b i with h1 | h1
                · rw [vi b h1]; exact hbb
                · have : b = i := by omega
                  subst this
                  exact vq
          have hg' : ∀ i, i ≤ q → upd g q (nI b) i = nI (va_up v q b i) ∧ va_up v q b i < 8 := by
            intro i hi
            rcases Nat.lt_or_ge i q with h1 | h1
            · rw [vi i h1]
              exact ⟨(if_neg (Nat.ne_of_lt h1)).trans (hg i h1), hlab i h1⟩
            · have : i = q := by omega
              subst this
              rw [vq]
              exact ⟨if_pos rfl, by omega⟩
          have hfi : ∀ i, i ≤ q → fi i ≤ q ∧ se i ≤ q := fun i hi => ⟨(hK q hqN i hi).2.2.2.2.1, (hK q hqN i hi).2.2.2.2.2⟩
          refine ax_nx rfl rfl ?_
          refine ax_nx rfl rfl ?_
          refine ax_nx rfl rfl ?_
          refine ax_nx rfl rfl ?_
          refine ax_iasH (h2 := hp n xs f (upda a 12 (upd g q (nI b))) o) rfl rfl (vp_in_nI (by omega) (by omega)) (by rw [nI_clamp (by omega)]; rfl) ?_
          refine ax_nx rfl rfl ?_
          refine ax_nx rfl rfl ?_
          refine ax_nx rfl rfl ?_
          refine ax_cal (d := r + 3) rfl rfl (q_Wo_pairs (d := r + 1) (v := va_up v q b) (by omega) hg') (fun w h' hh => ?_)
          obtain ⟨⟨y, rfl, hy⟩, rfl⟩ := hh
          refine ax_nx rfl rfl ?_
          refine ax_nx (al' := [.ref 11, .int (nI q), .int E, .ref 20, .ref 8, .int (nI b), .int (E ||| y), x7]) rfl rfl ?_
          have hE' : ∀ z, z < 32 → (bt (E ||| y) z = true ↔ ∃ i j, i < j ∧ j < q + 1 ∧ wl_pq i j = z ∧ va_up v q b i = va_up v q b j) := by
            intro z hz
            rw [b_or, Bool.or_eq_true, hE z hz, hy z hz]
            constructor
            · rintro (⟨i, j, h1, h2, h3, h4⟩ | ⟨j, h1, h2, h3⟩)
              · exact ⟨i, j, h1, by omega, h3, by rw [vi i (by omega), vi j h2]; exact h4⟩
              · exact ⟨j, q, h1, by omega, h2, h3⟩
            · rintro ⟨i, j, h1, h2, h3, h4⟩
              rcases Nat.lt_succ_iff_lt_or_eq.mp h2 with h5 | rfl
              · rw [vi i (by omega), vi j h5] at h4
                exact Or.inl ⟨i, j, h1, h5, h3, h4⟩
              · exact Or.inr ⟨i, h1, h3, h4⟩
          have hEq : ∀ z, z < 32 → (bt (E ||| y) z = true ↔ wl_eqd q (va_up v q b) z) := by
            intro z hz
            rw [hE' z hz]
            constructor
            · rintro ⟨i, j, h1, h2, h3, h4⟩
              exact ⟨i, j, h1, by omega, h3, h4⟩
            · rintro ⟨i, j, h1, h2, h3, h4⟩
              exact ⟨i, j, h1, by omega, h3, h4⟩
          refine ax_nx rfl rfl ?_
          refine ax_nx rfl rfl ?_
          refine ax_nx rfl rfl ?_
          refine ax_top (y := nI (q + 1)) (nI_1 q) ?_
          refine ax_cal (d := r + 3) rfl rfl (q_In_among (by omega)) (fun w h' hh => ?_)
          obtain ⟨rfl, rfl⟩ := hh
          refine ax_nx rfl rfl ?_
          refine ax_nx rfl rfl ?_
          refine ax_nx (al' := [.ref 11, .int (nI q), .int E, .ref 20, .ref 8, .int (nI b), .int (E ||| y), .int (wl_am (q + 1) ^^^ -1)]) rfl rfl ?_
          have noC : ¬ wl_C kd fi se P (va_up v q b) q → ∀ u, lb_ex N q v u → (∀ j, j < N → wl_C kd fi se P u j) → b + 1 ≤ u q := fun h9 => wl_no (fun w hw hPw => h9 (wl_C_eq hfi (fun i hi => (hw.2 i hi).symm) (hPw q hqN))) hlow
          have hgl : ∀ i, i < q → upd g q (nI b) i = nI (v i) := fun i hi => (if_neg (Nat.ne_of_lt hi)).trans (hg i hi)
          refine ax_nx rfl rfl ?_
          refine ax_nx rfl rfl ?_
          refine ax_nx rfl rfl ?_
          refine ax_cal (d := r + 3) rfl rfl (q_Wo_resp (d := r + 2) (v := va_up v q b) (kd := kd) (fi := fi) (se := se) (by omega) (hK q hqN) hg') (fun w h' hh => ?_)
          obtain ⟨⟨b1, rfl, hb1⟩, rfl⟩ := hh
          cases b1 with
          | false =>
            refine ax_nx rfl rfl ?_
            exact next _ _ _ hgl (noC (fun h9 => by have := hb1.mpr h9.1; cases this))
          | true =>
            refine ax_nx rfl rfl ?_
            refine ax_nx rfl rfl ?_
            refine ax_nx rfl rfl ?_
            refine ax_nx rfl rfl ?_
            refine ax_nx rfl rfl ?_
            refine ax_nx rfl rfl ?_
            refine ax_nx rfl rfl ?_
            refine ax_nx rfl rfl ?_
            refine ax_cal (d := r + 3) rfl rfl (q_In_can (a := upda a 12 (upd g q (nI b))) (P := P) hc) (fun w h' hh => ?_)
            obtain ⟨⟨b2, rfl, hb2⟩, rfl⟩ := hh
            have hb3 := hb2.trans (cH_can (P := P) (by omega) hEq)
            cases b2 with
            | false =>
              refine ax_nx rfl rfl ?_
              exact next _ _ _ hgl (noC (fun h9 => by have := hb3.mpr h9.2; cases this))
            | true =>
              have hCq : wl_C kd fi se P (va_up v q b) q := ⟨hb1.mp rfl, hb3.mp rfl⟩
              have hC' : ∀ j, j < q + 1 → wl_C kd fi se P (va_up v q b) j := by
                intro j hj
                rcases Nat.lt_succ_iff_lt_or_eq.mp hj with hj | rfl
                · refine wl_C_eq (fun i hi => ⟨(hK j (by omega) i hi).2.2.2.2.1, (hK j (by omega) i hi).2.2.2.2.2⟩) (fun i hi => (vi i (by omega)).symm) (hC j hj)
                · exact hCq
              refine ax_nx rfl rfl ?_
              refine ax_nx rfl rfl ?_
              refine ax_nx rfl rfl ?_
              refine ax_nx rfl rfl ?_
              refine ax_nx rfl rfl ?_
              refine ax_top (y := nI (q + 1)) (nI_1 q) ?_
              refine ax_nx rfl rfl ?_
              refine ax_nx rfl rfl ?_
              refine ax_nx rfl rfl ?_
              refine ax_cal (d := r + 3) rfl rfl (ih (q + 1) (by omega) (va_up v q b) (E ||| y) (upda a 12 (upd g q (nI b))) hK hc hv' hC' (fun i hi => (hg' i (by omega)).1) hE') (fun w h' hh => ?_)
              obtain ⟨g2, rfl, hh⟩ := hh
              rcases hh with ⟨rfl, w, hw, hw2⟩ | ⟨rfl, hg2, hno⟩
              · refine ax_nx rfl rfl ?_
                refine ax_nx rfl rfl ?_
                exact ax_retb rfl rfl (Or.inr rfl) ⟨_, rfl, rfl, rfl, g2, rfl, Or.inl ⟨rfl, w, wl_go hw hlow, hw2⟩⟩
              · refine ax_nx rfl rfl ?_
                exact next g2 _ _ (fun i hi => (hg2 i (by omega)).trans (by rw [vi i hi])) (wl_no hno hlow)
        refine ax_nx rfl rfl ?_
        refine ax_nx rfl rfl ?_
        refine ax_nxf rfl rfl (nI_nlt (by omega) (by omega)) ?_
        refine ax_nx rfl rfl ?_
        refine ax_nx rfl rfl ?_
        rcases Nat.lt_or_ge b q with hbq | hbq
        · refine ax_nxf rfl rfl (nI_ge hbq (by omega)) ?_
          refine ax_nx rfl rfl ?_
          refine ax_nx rfl rfl ?_
          refine ax_nx rfl rfl ?_
          refine ax_ia rfl rfl (vp_in_nI (by omega) (by omega)) ?_
          rw [nI_clamp (by omega), show upda a 12 g 12 b = g b from rfl, hg b hbq]
          refine ax_nx rfl rfl ?_
          refine ax_if rfl rfl (fun e1 => ?_) (fun e1 => ?_)
          · exact try1 (Or.inr ((nI_eq (by have := hlab b hbq; omega) (by omega)).mp e1))
          · refine ax_nx rfl rfl ?_
            exact next g x6 x7 hg (wl_skip hqN hbq (fun h9 => e1 (by rw [h9])) hlow)
        · refine ax_nxt rfl rfl (nI_le hbq (by omega)) ?_
          exact try1 (Or.inl (by omega))
    exact loop (q + 1) 0 (a 12) ax_u ax_u (by omega) hl (fun u _ _ => Nat.zero_le _)
end HQ
