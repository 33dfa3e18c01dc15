theorem and15 (x : Int32) : ∃ j, j < 16 ∧ x &&& 15 = nI j := by
  refine ⟨(x.toBitVec &&& 15#32).toNat, ?_, ?_⟩
  · rw [BitVec.toNat_and]
    have : (15#32).toNat = 15 := rfl
    rw [this]
    exact Nat.lt_of_le_of_lt Nat.and_le_right (by omega)
  · apply Int32.toBitVec_inj.mp
    rw [Int32.toBitVec_and]
    show x.toBitVec &&& 15#32 = BitVec.ofNat 32 (x.toBitVec &&& 15#32).toNat
    rw [BitVec.ofNat_toNat, BitVec.setWidth_eq]
theorem nI_sub4 (m : Nat) : nI (m + 4) - 4 = nI m := by
  have h : nI (m + 4) = nI m + 4 := (nI_add m 4).symm
  rw [h]
  apply Int32.toBitVec_inj.mp
  rw [Int32.toBitVec_sub, Int32.toBitVec_add, BitVec.add_sub_cancel]
theorem sub4_lt {n i : Nat} (hn : n ≤ 2049) (hi : i ≤ 3000) (h0 : 0 < i) (h : n < i + 4) : nI n - 4 < nI i := by
  rcases Nat.lt_or_ge n 4 with h4 | h4
  · rw [Int32.lt_iff_toInt_lt, nI_toInt (by omega)]
    obtain rfl | rfl | rfl | rfl : n = 0 ∨ n = 1 ∨ n = 2 ∨ n = 3 := by omega
    · have e : (nI 0 - 4 : Int32).toInt = -4 := by decide
      omega
    · have e : (nI 1 - 4 : Int32).toInt = -3 := by decide
      omega
    · have e : (nI 2 - 4 : Int32).toInt = -2 := by decide
      omega
    · have e : (nI 3 - 4 : Int32).toInt = -1 := by decide
      omega
  · obtain ⟨m, rfl⟩ : ∃ m, n = m + 4 := ⟨n - 4, by omega⟩
    rw [nI_sub4]
    exact nI_lt (by omega) (by omega)
def law_Q : ax_P := fun o1 _ k s => o1 = .inl (some (.int 1)) ∧ k ≤ 601024 ∧ s ≤ 7292999
section HLO
variable {n : Nat} {xs : Nat → Int32} {d : Nat}
set_option maxRecDepth 8000 in
theorem law_l (hn : n ≤ 2049) : ∀ (m t i : Nat), i = 4 * t + 1 → n < i + 4 + 4 * m → i ≤ 2053 → ∀ (f : Nat → Int32) (a : Nat → Nat → Int32) (o : Nat → Int64) (k s : Nat) (x5 x6 : Value), ivx f a → k ≤ 45 + t → s ≤ 3111 + 6 * t → ax_R (d + 60) 108 33 [.ref 0, .ref 1, .ref 25, .ref 45, .int (nI i), x5, x6] [] (hp n xs f a o) k s law_Q := by
  intro m
  induction m with
  | zero =>
    intro t i hit hni hi3 f a o k s x5 x6 hiv hk hs
    iterate 2 refine ax_nx rfl rfl ?_
    refine ax_al rfl rfl ?_
    iterate 2 refine ax_nx rfl rfl ?_
    refine ax_nxt rfl rfl (sub4_lt hn (by omega) (by omega) (by omega)) ?_
    refine ax_nx rfl rfl ?_
    exact ax_retb rfl rfl (Or.inr rfl) ⟨rfl, by omega, by omega⟩
  | succ m ih =>
    intro t i hit hni hi3 f a o k s x5 x6 hiv hk hs
    rcases Nat.lt_or_ge n (i + 4) with hi | hi
    · iterate 2 refine ax_nx rfl rfl ?_
      refine ax_al rfl rfl ?_
      iterate 2 refine ax_nx rfl rfl ?_
      refine ax_nxt rfl rfl (sub4_lt hn (by omega) (by omega) (by omega)) ?_
      refine ax_nx rfl rfl ?_
      exact ax_retb rfl rfl (Or.inr rfl) ⟨rfl, by omega, by omega⟩
    · have hi : i + 4 ≤ n := hi
      have hnx : nx n xs (d + 60) i k s law_Q := by
        intro f' a' o' k' s' x5 x6 hiv' hk' hs'
        refine ax_nx (al' := [.ref 0, .ref 1, .ref 25, .ref 45, .int (nI i + nI 4), x5, x6]) rfl rfl ?_
        refine ax_nx rfl rfl ?_
        rw [nI_add]
        exact ih (t + 1) (i + 4) (by omega) (by omega) (by omega) f' a' o' k' s' x5 x6 hiv' (by omega) (by omega)
      iterate 2 refine ax_nx rfl rfl ?_
      refine ax_al rfl rfl ?_
      iterate 2 refine ax_nx rfl rfl ?_
      refine ax_nxf rfl rfl (by obtain ⟨m, rfl⟩ : ∃ m, n = m + 4 := ⟨n - 4, by omega⟩; exact fun h9 => nI_nlt (a := m) (b := i) (by omega) (by omega) (by rw [← nI_sub4 m]; exact h9)) ?_
      iterate 2 refine ax_nx rfl rfl ?_
      refine ax_ia3 rfl rfl (vp_in_nI (by omega) (by omega)) ?_
      rw [nI_clamp (by omega)]
      iterate 2 refine ax_nx rfl rfl ?_
      obtain ⟨j, hj, hje⟩ := and15 (xs i)
      refine ax_top (y := nI j) hje ?_
      obtain ⟨c, T, Z, K, D, I, L, h⟩ := id hiv
      have hjs : j = 0 ∨ j = 1 ∨ j = 2 ∨ j = 3 ∨ j = 4 ∨ j = 5 ∨ j = 6 ∨ j = 7 ∨ j = 8 ∨ j = 9 ∨ j = 10 ∨ j = 11 ∨ j = 12 ∨ j = 13 ∨ j = 14 ∨ j = 15 := by omega
      rcases hjs with rfl | rfl | rfl | rfl | rfl | rfl | rfl | rfl | rfl | rfl | rfl | rfl | rfl | rfl | rfl | rfl
      · refine ax_nx (pc' := 120) rfl rfl ?_
        exact tu_term hi hn h hnx
      · refine ax_nx (pc' := 200) rfl rfl ?_
        exact tu_lit hi hn h hnx
      · refine ax_nx (pc' := 296) rfl rfl ?_
        exact tu_clause hi hn h hnx
      · refine ax_nx (pc' := 340) rfl rfl ?_
        exact tu_open hi hn h hnx
      · refine ax_nx (pc' := 384) rfl rfl ?_
        exact tu_close hi hn h hnx
      · refine ax_nx (pc' := 428) rfl rfl ?_
        exact tu_contra h hnx
      · refine ax_nx (pc' := 441) rfl rfl ?_
        exact tu_fol hi hn h hnx
      · refine ax_nx (pc' := 544) rfl rfl ?_
        exact tu_label hi hn h hnx
      · refine ax_nx (pc' := 600) rfl rfl ?_
        exact tu_thing hi hn h hnx
      · refine ax_nx (pc' := 656) rfl rfl ?_
        exact tu_things h hnx
      · refine ax_nx (pc' := 669) rfl rfl ?_
        exact tu_terms h hnx
      · refine ax_nx (pc' := 682) rfl rfl ?_
        exact tu_look hi hn h hnx
      · refine ax_nx (pc' := 750) rfl rfl ?_
        exact tu_clauses h hnx
      · refine ax_nx (pc' := 763) rfl rfl ?_
        exact tu_level h hnx
      · refine ax_nx (pc' := 776) rfl rfl ?_
        exact hnx f a o k s _ _ hiv (by omega) (by omega)
      · refine ax_nx (pc' := 776) rfl rfl ?_
        exact hnx f a o k s _ _ hiv (by omega) (by omega)
end HLO
