/-! roles are disks in another order -/
theorem ct_perm0 : ∀ D, D < 7 → 2 ≤ D → ∀ t, t < 12 → ∀ m, m < 256 → ct (fun r => m.testBit (dk D t r)) (D + 2) = ct (fun r => m.testBit r) (D + 2) := by decide +kernel
