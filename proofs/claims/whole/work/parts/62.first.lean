def cT (c : Nat) : tm_T := (List.range c).map (fun i => (0, i, 0))
theorem cT_get {c i : Nat} {e : Nat × Nat × Nat} (h : (cT c)[i]? = some e) : i < c ∧ e = (0, i, 0) := by
  unfold cT at h
  rw [List.getElem?_map] at h
  rcases Nat.lt_or_ge i c with hl | hl
  · rw [List.getElem?_range hl] at h
    cases h
    exact ⟨hl, rfl⟩
  · rw [List.getElem?_eq_none (by rw [List.length_range]; exact hl)] at h
    cases h
theorem cT_at {c i : Nat} (hi : i < c) : (cT c)[i]? = some (0, i, 0) := by
  unfold cT
  rw [List.getElem?_map, List.getElem?_range hi]
  rfl
theorem cT_len (c : Nat) : (cT c).length = c := by unfold cT; rw [List.length_map, List.length_range]
theorem rg_get {c i t : Nat} (h : (List.range c)[i]? = some t) : i < c ∧ t = i := by
  rcases Nat.lt_or_ge i c with hl | hl
  · rw [List.getElem?_range hl] at h
    cases h
    exact ⟨hl, rfl⟩
  · rw [List.getElem?_eq_none (by rw [List.length_range]; exact hl)] at h
    cases h
theorem cT_wf (c : Nat) : tm_wf c (cT c) := by
  refine ⟨fun i j e hi hj => ?_, fun i hi => cT_at hi, fun i e hi => ?_⟩
  · have h1 := (cT_get hi).2
    have h2 := (cT_get hj).2
    rw [h1] at h2
    exact (Prod.mk.inj (Prod.mk.inj h2).2).1
  · obtain ⟨h1, h2⟩ := cT_get hi
    exact Or.inl ⟨h2, h1⟩
theorem rg_wf (c : Nat) : th_wf c (cT c) (List.range c) := by
  refine ⟨fun i j t hi hj => ?_, fun i hi => List.getElem?_range hi, fun i t hi => ?_⟩
  · rw [← (rg_get hi).2, ← (rg_get hj).2]
  · obtain ⟨h1, h2⟩ := rg_get hi
    subst h2
    exact ⟨_, cT_at h1, Or.inl ⟨_, _, rfl⟩⟩
theorem rg_kz (c : Nat) : kz (cT c) (List.range c) (cT c) := by
  refine ⟨by rw [cT_len, List.length_range], fun i t hi => ?_⟩
  obtain ⟨h1, h2⟩ := rg_get hi
  subst h2
  exact ⟨_, _, cT_at h1, cT_at h1, Or.inl ⟨_, rfl, rfl⟩⟩
theorem cT_V {c i : Nat} (hi : i < c) : tm_V (cT c) i = 0 := tm_V_vs (cT_wf c) i _ (cT_at hi)
theorem rg_ps {c i : Nat} (hi : i < c) : ps (List.range c) i = i := (ps_of (rg_wf c) (List.getElem?_range hi)).symm
def f0 (c : Nat) : Nat → Int32 := fun i => if i = 7 ∨ i = 8 ∨ i = 9 ∨ i = 13 ∨ i = 14 ∨ i = 15 then nI c else 0
theorem iv0 {c : Nat} {a : Nat → Nat → Int32} (hc0 : 0 < c) (hc4 : c ≤ 4) (h : ∀ i, i < c → (a 16 i = 0 ∧ a 17 i = nI i ∧ a 18 i = 0 ∧ a 19 i = 0) ∧ (a 21 i = 0 ∧ a 22 i = nI i ∧ a 23 i = 0 ∧ a 24 i = nI i) ∧ (a 26 i = 0 ∧ a 27 i = nI i ∧ a 28 i = 0 ∧ a 29 i = 1) ∧ a 30 i = nI (i + 1) ∧ a 32 i = nI i) : IV c (cT c) (List.range c) (cT c) [] [] [] (f0 c) a := by
  have htb : ∀ x y z : Nat → Int32, (∀ i, i < c → x i = 0 ∧ y i = nI i ∧ z i = 0) → tb_at (cT c) x y z := by
    intro x y z hx i e hi
    obtain ⟨h1, h2⟩ := cT_get hi
    subst h2
    obtain ⟨q1, q2, q3⟩ := hx i h1
    exact ⟨q1, q2, q3, by dsimp only; omega, by dsimp only; omega, by dsimp only; omega⟩
  have hrl : (List.range c).length = c := List.length_range
  refine ⟨⟨hc0, hc4, rfl, rfl⟩, ⟨⟨cT_wf c, by rw [cT_len]; omega, by rw [cT_len]; rfl, htb _ _ _ (fun i hi => ⟨(h i hi).1.1, (h i hi).1.2.1, (h i hi).1.2.2.1⟩), fun i hi => ?_⟩, ⟨cT_wf c, by rw [cT_len]; omega, by rw [cT_len]; rfl, htb _ _ _ (fun i hi => ⟨(h i hi).2.2.1.1, (h i hi).2.2.1.2.1, (h i hi).2.2.1.2.2.1⟩), fun i hi => ?_⟩, ⟨by rw [cT_len]; omega, by rw [cT_len]; rfl, htb _ _ _ (fun i hi => ⟨(h i hi).2.1.1, (h i hi).2.1.2.1, (h i hi).2.1.2.2.1⟩), by rw [cT_len, hrl], fun i t hi => ?_⟩, rg_kz c, rg_wf c, ⟨by rw [hrl]; rfl, by rw [hrl]; omega, fun i t hi => ?_, fun t ht => ?_⟩⟩, ⟨⟨rfl, by simp, fun i q hq => by cases hq⟩, ⟨rfl, by simp, fun i q hq => by cases hq⟩, fun q hq => by cases hq⟩, ⟨⟨rfl, by simp, fun i q hq => by cases hq⟩, rfl, ⟨rfl, by simp, fun i q hq => by cases hq⟩, fun C hC => by cases hC⟩, ⟨rfl, rfl, by simp, (fun i j p q _ hp => by cases hp), (fun j m hj => by cases hj)⟩, Or.inl rfl⟩
  · rw [cT_len] at hi
    rw [cT_V hi]
    exact (h i hi).1.2.2.2
  · rw [cT_len] at hi
    rw [cT_V hi]
    exact (h i hi).2.2.1.2.2.2
  · obtain ⟨h1, h2⟩ := rg_get hi
    subst h2
    exact (h _ h1).2.1.2.2.2
  · obtain ⟨h1, h2⟩ := rg_get hi
    subst h2
    exact (h _ h1).2.2.2.2
  · rw [cT_len] at ht
    refine ⟨fun _ => ?_, fun h9 => absurd (List.mem_range.mpr ht) h9⟩
    rw [rg_ps ht]
    exact (h t ht).2.2.2.1
def fmc (v : Int32) (j : Nat) : Prop := j < 4 ∧ ((¬ v < 0 ∧ v - v / 4 * 4 = nI j) ∨ (v < 0 ∧ j = 0 ∧ v - v / 4 * 4 = 0) ∨ (v < 0 ∧ 0 < j ∧ v - v / 4 * 4 = nI j - 4))
theorem fm_toInt (v : Int32) : (v - v / 4 * 4).toInt = v.toInt.tmod 4 := by
  have h1 := Int32.le_toInt v
  have h2 := Int32.toInt_lt v
  have e4 : (4 : Int32).toInt = 4 := rfl
  have hq : -536870912 ≤ v.toInt.tdiv 4 ∧ v.toInt.tdiv 4 ≤ 536870912 ∧ v.toInt = 4 * v.toInt.tdiv 4 + v.toInt.tmod 4 ∧ -4 < v.toInt.tmod 4 ∧ v.toInt.tmod 4 < 4 := by
    have a1 := Int.mul_tdiv_add_tmod v.toInt 4
    have a2 := Int.tmod_lt_of_pos v.toInt (show (0 : Int) < 4 by omega)
    have a3 := Int.lt_tmod_of_pos v.toInt (show (0 : Int) < 4 by omega)
    omega
  obtain ⟨q1, q2, q3, q4, q5⟩ := hq
  have hs1 : 0 ≤ v.toInt → 0 ≤ v.toInt.tmod 4 := fun h9 => Int.tmod_nonneg 4 h9
  have hs2 : v.toInt ≤ 0 → v.toInt.tmod 4 ≤ 0 := fun h9 => by
    have e : v.toInt = -(-v.toInt) := by omega
    rw [e, Int.neg_tmod]
    have := Int.tmod_nonneg 4 (show 0 ≤ -v.toInt by omega)
    omega
  have hd : (v / 4).toInt = v.toInt.tdiv 4 := by
    rw [Int32.toInt_div, e4, Int.bmod_eq_of_le (by omega) (by omega)]
  have hm : (v / 4 * 4).toInt = v.toInt.tdiv 4 * 4 := by
    rw [Int32.toInt_mul, hd, e4, Int.bmod_eq_of_le (by omega) (by omega)]
  rw [Int32.toInt_sub, hm, Int.bmod_eq_of_le (by omega) (by omega)]
  omega
theorem fm_ex (v : Int32) : ∃ j, fmc v j := by
  have h := fm_toInt v
  have a2 := Int.tmod_lt_of_pos v.toInt (show (0 : Int) < 4 by omega)
  have a3 := Int.lt_tmod_of_pos v.toInt (show (0 : Int) < 4 by omega)
  have inj : ∀ {x y : Int32}, x.toInt = y.toInt → x = y := fun h9 => Int32.toInt_inj.mp h9
  by_cases hv : v < 0
  · have hv' : v.toInt < 0 := by
      rw [Int32.lt_iff_toInt_lt] at hv
      exact hv
    have hneg : v.toInt.tmod 4 ≤ 0 := by
      have e : v.toInt = -(-v.toInt) := by omega
      rw [e, Int.neg_tmod]
      have := Int.tmod_nonneg 4 (show 0 ≤ -v.toInt by omega)
      omega
    generalize v.toInt.tmod 4 = r at *
    have hr : r = 0 ∨ r = -1 ∨ r = -2 ∨ r = -3 := by omega
    rcases hr with rfl | rfl | rfl | rfl
    · exact ⟨0, by omega, Or.inr (Or.inl ⟨hv, rfl, inj (h.trans rfl)⟩)⟩
    · exact ⟨3, by omega, Or.inr (Or.inr ⟨hv, by omega, inj (h.trans (by decide))⟩)⟩
    · exact ⟨2, by omega, Or.inr (Or.inr ⟨hv, by omega, inj (h.trans (by decide))⟩)⟩
    · exact ⟨1, by omega, Or.inr (Or.inr ⟨hv, by omega, inj (h.trans (by decide))⟩)⟩
  · have hv' : 0 ≤ v.toInt := by
      rw [Int32.lt_iff_toInt_lt] at hv
      have e0 : (0 : Int32).toInt = 0 := rfl
      omega
    have hpos := Int.tmod_nonneg 4 hv'
    generalize v.toInt.tmod 4 = r at *
    have hr : r = 0 ∨ r = 1 ∨ r = 2 ∨ r = 3 := by omega
    rcases hr with rfl | rfl | rfl | rfl
    · exact ⟨0, by omega, Or.inl ⟨hv, inj (h.trans (by decide))⟩⟩
    · exact ⟨1, by omega, Or.inl ⟨hv, inj (h.trans (by decide))⟩⟩
    · exact ⟨2, by omega, Or.inl ⟨hv, inj (h.trans (by decide))⟩⟩
    · exact ⟨3, by omega, Or.inl ⟨hv, inj (h.trans (by decide))⟩⟩
theorem xor4 (v : Int32) : v ^^^ 4 < 0 ↔ v < 0 := by
  rw [Int32.lt_iff_toInt_lt, Int32.lt_iff_toInt_lt]
  have e0 : (0 : Int32).toInt = 0 := rfl
  have key : ∀ x : Int32, x.toInt < 0 ↔ x.toBitVec.msb = true := fun x => by
    rw [BitVec.msb_eq_toInt, decide_eq_true_eq]
    rfl
  rw [e0, key, key, Int32.toBitVec_xor, BitVec.msb_xor]
  have : (4 : Int32).toBitVec.msb = false := by decide
  rw [this, Bool.xor_false]
section HFM
variable {d k s : Nat} {h : ax_H}
theorem q_fm {v : Int32} {j : Nat} (hj : fmc v j) : ax_R d 104 0 (ax_in 104 [.int v, .int 4]) [] h k s (ax_V (fun r h' => r = some (.int (nI j)) ∧ h' = h) k s) := by
  obtain ⟨hj4, hj⟩ := hj
  iterate 2 refine ax_nx rfl rfl ?_
  refine ax_nx rfl rfl ?_
  rcases hj with ⟨hv, hx⟩ | ⟨hv, rfl, hx⟩ | ⟨hv, hj0, hx⟩
  · refine ax_top (y := nI j) hx ?_
    refine ax_nx (al' := [.int v, .int 4, .int (nI j)]) rfl rfl ?_
    iterate 3 refine ax_nx rfl rfl ?_
    refine ax_nxt rfl rfl (Int32.not_lt.mp (fun h9 => hv ((xor4 v).mp h9))) ?_
    refine ax_nx rfl rfl ?_
    exact ax_ret rfl rfl ⟨_, rfl, rfl, rfl, rfl, rfl⟩
  · refine ax_top (y := 0) hx ?_
    refine ax_nx (al' := [.int v, .int 4, .int 0]) rfl rfl ?_
    iterate 3 refine ax_nx rfl rfl ?_
    refine ax_nxf rfl rfl (Int32.not_le.mpr ((xor4 v).mpr hv)) ?_
    iterate 3 refine ax_nx rfl rfl ?_
    exact ax_ret rfl rfl ⟨_, rfl, rfl, rfl, rfl, rfl⟩
  · refine ax_top (y := nI j - 4) hx ?_
    refine ax_nx (al' := [.int v, .int 4, .int (nI j - 4)]) rfl rfl ?_
    iterate 3 refine ax_nx rfl rfl ?_
    refine ax_nxf rfl rfl (Int32.not_le.mpr ((xor4 v).mpr hv)) ?_
    refine ax_nx rfl rfl ?_
    have hjs : j = 1 ∨ j = 2 ∨ j = 3 := by omega
    rcases hjs with rfl | rfl | rfl
    · iterate 4 refine ax_nx rfl rfl ?_
      exact ax_ret rfl rfl ⟨_, rfl, rfl, rfl, rfl, rfl⟩
    · iterate 4 refine ax_nx rfl rfl ?_
      exact ax_ret rfl rfl ⟨_, rfl, rfl, rfl, rfl, rfl⟩
    · iterate 4 refine ax_nx rfl rfl ?_
      exact ax_ret rfl rfl ⟨_, rfl, rfl, rfl, rfl, rfl⟩
def v0 (n : Nat) (xs : Nat → Int32) : Int32 := if n = 0 then 0 else xs 0
theorem q_cell {n : Nat} {xs : Nat → Int32} {r : ax_H} (hn : n ≤ 2049) : ax_R d 94 0 (ax_in 94 [.ref 0, .int 0]) [] (.inl (3, n, .inl xs) :: r) k s (ax_V (fun w h' => w = some (.int (v0 n xs)) ∧ h' = .inl (3, n, .inl xs) :: r) k s) := by
  iterate 2 refine ax_nx rfl rfl ?_
  refine ax_al rfl rfl ?_
  rcases Nat.eq_zero_or_pos n with h0 | h0
  · subst h0
    iterate 2 refine ax_nx rfl rfl ?_
    exact ax_ret rfl rfl ⟨_, rfl, rfl, rfl, rfl, rfl⟩
  · refine ax_nxf rfl rfl (nI_ge (a := 0) h0 (by omega)) ?_
    iterate 2 refine ax_nx rfl rfl ?_
    refine ax_ia3 rfl rfl (vp_in_nI (n := 0) h0 (by omega)) ?_
    refine ax_nx rfl rfl ?_
    refine ax_top (y := v0 n xs) ?_ ?_
    · unfold v0
      rw [if_neg (by omega)]
      rfl
    exact ax_ret rfl rfl ⟨_, rfl, rfl, rfl, rfl, rfl⟩
end HFM
