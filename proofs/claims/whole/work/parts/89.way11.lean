/-! WAYS: what far is in the end -/
theorem zfix {b : Int → Int} {h : Int} {G : Int → Prop} {F : Int → Int} (hh : 1 ≤ h ∧ h ≤ 8) (H : zfi b h G F) (hr : ∀ t, F t ≠ -1 → (0 ≤ t ∧ t < 4096) ∧ b (t / 4) = 0) (hx : ∀ t, 0 ≤ t → t < 4096 → b (t / 4) = 0 → ∀ j, 0 ≤ j → j ≤ 3 → ¬ zrx b h F t j) : (∀ t, 0 < F t → ∃ m, (0 ≤ m ∧ m ≤ 3) ∧ zmv b t m ≠ -1 ∧ 0 ≤ F (zmv b t m) ∧ F t = F (zmv b t m) + zpm h m) ∧ (∀ t m, 0 ≤ t → t < 4096 → b (t / 4) = 0 → 0 ≤ m → m ≤ 3 → zmv b t m ≠ -1 → 0 ≤ F (zmv b t m) → 0 ≤ F t ∧ F t ≤ F (zmv b t m) + zpm h m) ∧ ∀ t, F t = 0 ↔ G t := by
  obtain ⟨H1, H2, H3⟩ := H
  have nz : ∀ t m, 0 ≤ t → t < 4096 → b (t / 4) = 0 → 0 ≤ m → m ≤ 3 → zmv b t m ≠ -1 → 0 ≤ F (zmv b t m) → 0 ≤ F t ∧ F t ≤ F (zmv b t m) + zpm h m := fun t m t0 t1 tb m0 m1 v1 v2 => by
    have c := hx t t0 t1 tb m m0 m1
    have d := H1 t
    by_cases e : F t = -1
    · exact absurd ⟨v1, by omega, .inl e⟩ c
    · by_cases e2 : F (zmv b t m) + zpm h m < F t
      · exact absurd ⟨v1, by omega, .inr e2⟩ c
      · omega
  refine ⟨fun t ht => ?_, nz, fun t => ⟨fun ht => ?_, H2 t⟩⟩
  · have ng : ¬ G t := fun c => by have := H2 t c; omega
    obtain ⟨m, m1, m2, m3, m4⟩ := H3 t (by omega) ng
    obtain ⟨⟨t0, t1⟩, tb⟩ := hr t (by omega)
    have d := H1 (zmv b t m)
    have c := nz t m t0 t1 tb m1.1 m1.2 m2 (by omega)
    exact ⟨m, m1, m2, by omega, by omega⟩
  · by_cases g : G t
    · exact g
    · obtain ⟨m, m1, m2, m3, m4⟩ := H3 t (by omega) g
      have d := H1 (zmv b t m)
      have p := zpm_le (m := m) hh
      omega
