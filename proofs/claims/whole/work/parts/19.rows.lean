def upda (a : Nat → Nat → Int32) (i : Nat) (g : Nat → Int32) : Nat → Nat → Int32 := fun j => if j = i then g else a j
def bI (b : Bool) : Int32 := if b = true then 1 else 0
theorem bI_01 (b : Bool) : bI b = 0 ∨ bI b = 1 := by cases b <;> simp [bI]
section AXQ
variable {d M pc : Nat} {al st : List Value} {h : ax_H} {k s : Nat} {Q : ax_P}
theorem ax_retb {len : Nat} {x : Int32} (hf : ax_fx M pc = some (.ireturn, len)) (hbo : ax_bo M = true) (hx : x = 0 ∨ x = 1) (hq : Q (.inl (some (.int x))) h k s) : ax_R d M pc al [.int x] h k s Q := by
  refine ax_ret hf ?_ hq
  simp only [ax_step]
  rw [hbo]
  dsimp only
  rw [if_pos hx]
theorem ax_iasH {len o n : Nat} {j x : Int32} {r : List Value} {f : Nat → Int32} {h2 : ax_H} (hf : ax_fx M pc = some (.iastore, len)) (hh : h[o]? = some (.inl (0, n, .inl f))) (hb : vp_in j n) (he : h.set o (.inl (0, n, .inl (upd f j.toNatClampNeg x))) = h2) (kk : ax_R d M (pc + 1) al r h2 k s Q) : ax_R d M pc al (.int x :: .int j :: .ref o :: r) h k s Q := ax_ias hf hh hb (by rw [he]; exact kk)
theorem ax_basH {len o n : Nat} {j x : Int32} {r : List Value} {f : Nat → Int32} {h2 : ax_H} (hf : ax_fx M pc = some (.bastore, len)) (hh : h[o]? = some (.inl (1, n, .inl f))) (hb : vp_in j n) (hx : x = 0 ∨ x = 1) (he : h.set o (.inl (1, n, .inl (upd f j.toNatClampNeg x))) = h2) (kk : ax_R d M (pc + 1) al r h2 k s Q) : ax_R d M pc al (.int x :: .int j :: .ref o :: r) h k s Q := ax_bas hf hh hb hx (by rw [he]; exact kk)
theorem ax_lasH {len o n : Nat} {j : Int32} {x : Int64} {r : List Value} {f : Nat → Int64} {h2 : ax_H} (hf : ax_fx M pc = some (.lastore, len)) (hh : h[o]? = some (.inl (2, n, .inr (.inl f)))) (hb : vp_in j n) (he : h.set o (.inl (2, n, .inr (.inl (vp_updL f j.toNatClampNeg x)))) = h2) (kk : ax_R d M (pc + 1) al r h2 k s Q) : ax_R d M pc al (.long x :: .int j :: .ref o :: r) h k s Q := ax_las hf hh hb (by rw [he]; exact kk)
end AXQ
