/-! Phase B: a new object -/
theorem rfC_0 : rfC mC 1 13 13 := by
  unfold rfC
  funext k j
  by_cases c1 : k = 0 ∧ j = 11
  · rw [if_pos c1, c1.1, c1.2]; rfl
  · rw [if_neg c1]
    by_cases c2 : k = 0 ∧ j = 12
    · rw [if_pos c2, c2.1, c2.2]; rfl
    · rw [if_neg c2]
      by_cases c3 : k = 27 ∧ j = 1
      · rw [if_pos c3, c3.1, c3.2]; rfl
      · rw [if_neg c3]; rfl
theorem ytab_b : ∀ q : Nat, q ≤ 64 → btw (ytab 65 q) 0 1000 := by
  have h : ∀ q : Nat, q < 65 → 0 ≤ (ytab 65 q).toInt ∧ (ytab 65 q).toInt ≤ 1000 := by decide +kernel
  exact fun q hq => h q (by omega)
theorem nil_at (q : Nat) : (([] : List Int32).getD q 0) = 0 := by cases q <;> rfl
theorem hI0 : Inv 0 mC mM := by
  have z0 : (0 : Int32).toInt = 0 := rfl
  have f23 : (zI mM 1 23).toInt = 0 := rfl
  have n8 : ∀ q, zI mM 8 q = 0 := fun q => nil_at q
  refine ⟨1, 13, 13, 0, 0, Or.inl ⟨rfl, rfl⟩, rfC_0, rfl, ⟨rfl, ⟨by decide, by decide⟩, fun i hi => ?_⟩, ⟨rfl, rfl, rfl, rfl, fun b hb => ?_⟩, ⟨by omega, by omega, rfl, rfl, rfl, rfl, rfl, rfl, ⟨by decide, by decide⟩, rfl, ⟨by decide, by decide⟩, fun a ha => by omega, fun b hb => by omega, fun q hq => ⟨?_, ?_⟩⟩, fun q hq => ⟨rfl, rfl, ytab_b q hq⟩, ⟨rfl, ⟨by decide, by decide⟩, rfl, rfl, rfl, ⟨by decide, by decide⟩, fun i hi hi2 => ?_, fun i a hi ha => by omega, fun a ha => by omega, rfl, Or.inl rfl, Or.inl ⟨rfl, rfl⟩⟩, ⟨0, 0, by omega, by omega, rfl, rfl, rfl, fun i hi => by omega⟩⟩
  · rw [show (zI mM 0 2).toInt = 0 from rfl] at hi; omega
  · rcases hb with rfl | rfl | rfl | rfl | rfl | rfl | rfl | rfl | rfl | rfl | rfl | rfl <;> rfl
  · rw [n8, Int32.add_zero]; rfl
  · rw [n8]; exact ⟨by decide, by decide⟩
  · rw [f23] at hi2; omega
