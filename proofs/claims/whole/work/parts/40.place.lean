theorem wl_amb0 : ∀ (m : Fin 9) (b : Fin 32), bt (wl_am m.val ^^^ -1) b.val = decide (m.val * (m.val - 1) / 2 ≤ b.val) := by decide +kernel
theorem wl_amb {m b : Nat} (hm : m < 9) (hb : b < 32) : bt (wl_am m ^^^ -1) b = decide (m * (m - 1) / 2 ≤ b) := wl_amb0 ⟨m, hm⟩ ⟨b, hb⟩
theorem cH_can {k : Nat} {v : Nat → Nat} {E : Int32} {P : List (Int32 × Int32)} (hk : k < 8) (hE : ∀ b, b < 32 → (bt E b = true ↔ wl_eqd k v b)) : cH (E ||| (wl_am (k + 1) ^^^ -1)) (E ^^^ -1) P ↔ ∀ p, p ∈ P → wl_can k v p := by
  have key : ∀ p : Int32 × Int32, ¬ ((E ||| (wl_am (k + 1) ^^^ -1)) &&& p.1 = 0 ∧ (E ^^^ -1) &&& p.2 = 0) ↔ wl_can k v p := by
    intro p
    have h1 : ∀ b, b < 32 → (bt (E ||| (wl_am (k + 1) ^^^ -1)) b = true ↔ wl_eqd k v b ∨ (k + 1) * k / 2 ≤ b) := fun b hb => by
      rw [b_or, Bool.or_eq_true, hE b hb, wl_amb (by omega) hb, decide_eq_true_eq]
      rfl
    have h2 : ∀ b, b < 32 → (bt (E ^^^ -1) b = true ↔ ¬ wl_eqd k v b) := fun b hb => by
      rw [b_xor, b_m1 b hb, ← hE b hb]
      cases bt E b <;> simp
    rw [wl_and0, wl_and0]
    constructor
    · intro h9
      by_cases h10 : ∃ b, b < 32 ∧ bt p.1 b = true ∧ (wl_eqd k v b ∨ (k + 1) * k / 2 ≤ b)
      · exact Or.inl h10
      · by_cases h11 : ∃ b, b < 32 ∧ bt p.2 b = true ∧ ¬ wl_eqd k v b
        · exact Or.inr h11
        · exact absurd ⟨fun b hb h12 => h10 ⟨b, hb, h12.2, (h1 b hb).mp h12.1⟩, fun b hb h12 => h11 ⟨b, hb, h12.2, (h2 b hb).mp h12.1⟩⟩ h9
    · rintro (⟨b, hb, h10, h11⟩ | ⟨b, hb, h10, h11⟩) ⟨h12, h13⟩
      · exact h12 b hb ⟨(h1 b hb).mpr h11, h10⟩
      · exact h13 b hb ⟨(h2 b hb).mpr h11, h10⟩
  exact ⟨fun h p hp => (key p).mp (h p hp), fun h p hp => (key p).mpr (h p hp)⟩
