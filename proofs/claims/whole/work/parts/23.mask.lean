/-! sets of small numbers as bits; loops -/
theorem lp {α β : Type} {L : Nat → Nat → α → β} {I : Nat → α → Prop} {Q : β → Prop} {N : Nat}
    (step : ∀ m k a, k < N → I k a → (∃ a', L (m + 1) k a = L m (k + 1) a' ∧ I (k + 1) a') ∨ Q (L (m + 1) k a))
    (fin : ∀ m a, I N a → Q (L (m + 1) N a)) : ∀ q m k a, k + q = N → q < m → I k a → Q (L m k a) := by
  intro q
  induction q with
  | zero =>
    intro m k a hk hm hI
    obtain ⟨m, rfl⟩ : ∃ m', m = m' + 1 := ⟨m - 1, by omega⟩
    have : k = N := by omega
    subst this
    exact fin m a hI
  | succ q ih =>
    intro m k a hk hm hI
    obtain ⟨m, rfl⟩ : ∃ m', m = m' + 1 := ⟨m - 1, by omega⟩
    rcases step m k a (by omega) hI with ⟨a', e, h⟩ | h
    · rw [e]
      exact ih m (k + 1) a' (by omega) (by omega) h
    · exact h
def bm (p : Nat → Bool) : Nat → Nat
  | 0 => 0
  | n + 1 => bm p n + (if p n then 2 ^ n else 0)
def ct (p : Nat → Bool) : Nat → Nat
  | 0 => 0
  | n + 1 => ct p n + (if p n then 1 else 0)
theorem bm_lt (p : Nat → Bool) : ∀ n, bm p n < 2 ^ n
  | 0 => Nat.one_pos
  | n + 1 => by
    have := bm_lt p n
    rw [bm, Nat.pow_succ]
    split <;> omega
theorem bm_lt8 {p : Nat → Bool} {n : Nat} (h : n ≤ 8) : bm p n < 256 := Nat.lt_of_lt_of_le (bm_lt p n) (Nat.pow_le_pow_right (by decide) h : 2 ^ n ≤ 2 ^ 8)
theorem bm_lt12 {p : Nat → Bool} {n : Nat} (h : n ≤ 12) : bm p n < 4096 := Nat.lt_of_lt_of_le (bm_lt p n) (Nat.pow_le_pow_right (by decide) h : 2 ^ n ≤ 2 ^ 12)
theorem bm_up (p : Nat → Bool) (n : Nat) : bm p (n + 1) = bm p n ||| (if p n then 2 ^ n else 0) := by
  rw [bm]
  split
  · have := Nat.two_pow_add_eq_or_of_lt (bm_lt p n) 1
    rw [Nat.mul_one] at this
    rw [Nat.add_comm, this, Nat.or_comm]
  · rw [Nat.add_zero, Nat.or_zero]
theorem bm_tb (p : Nat → Bool) : ∀ n k, (bm p n).testBit k = (decide (k < n) && p k)
  | 0, k => by simp [bm]
  | n + 1, k => by
    rw [bm_up, Nat.testBit_or, bm_tb p n k]
    by_cases hp : p n = true
    · rw [if_pos hp, Nat.testBit_two_pow]
      by_cases hk : n = k
      · subst hk; simp [hp]
      · have e : decide (k < n + 1) = decide (k < n) := by
          apply decide_eq_decide.mpr; omega
        simp [hk, e]
    · rw [if_neg hp, Nat.zero_testBit, Bool.or_false]
      by_cases hk : n = k
      · subst hk; simp [hp]
      · have e : decide (k < n + 1) = decide (k < n) := by
          apply decide_eq_decide.mpr; omega
        rw [e]
theorem bm_ext {p q : Nat → Bool} {n : Nat} (h : ∀ k, k < n → p k = q k) : bm p n = bm q n := by
  apply Nat.eq_of_testBit_eq
  intro k
  rw [bm_tb, bm_tb]
  by_cases hk : k < n
  · rw [h k hk]
  · simp [hk]
theorem bm_and (p q : Nat → Bool) (n : Nat) : bm p n &&& bm q n = bm (fun r => p r && q r) n := by
  apply Nat.eq_of_testBit_eq
  intro k
  rw [Nat.testBit_and, bm_tb, bm_tb, bm_tb]
  cases decide (k < n) <;> simp
theorem bm_or (p q : Nat → Bool) (n : Nat) : bm p n ||| bm q n = bm (fun r => p r || q r) n := by
  apply Nat.eq_of_testBit_eq
  intro k
  rw [Nat.testBit_or, bm_tb, bm_tb, bm_tb]
  cases decide (k < n) <;> simp
theorem bm_not (p q : Nat → Bool) (n : Nat) : bm p n ^^^ (bm p n &&& bm q n) = bm (fun r => p r && !q r) n := by
  apply Nat.eq_of_testBit_eq
  intro k
  rw [Nat.testBit_xor, Nat.testBit_and, bm_tb, bm_tb, bm_tb]
  cases decide (k < n) <;> cases p k <;> cases q k <;> rfl
theorem bm_one {k n : Nat} (h : k < n) : 2 ^ k = bm (fun r => decide (r = k)) n := by
  apply Nat.eq_of_testBit_eq
  intro j
  rw [bm_tb, Nat.testBit_two_pow]
  by_cases e : k = j
  · subst e; simp [h]
  · have e' : ¬ j = k := fun q => e q.symm
    simp [e, e']
theorem bm_low {d n : Nat} (h : d ≤ n) : 2 ^ d - 1 = bm (fun r => decide (r < d)) n := by
  apply Nat.eq_of_testBit_eq
  intro j
  rw [bm_tb, Nat.testBit_two_pow_sub_one]
  by_cases e : j < d
  · simp [e, Nat.lt_of_lt_of_le e h]
  · simp [e]
theorem bm_all (n : Nat) : 2 ^ n - 1 = bm (fun _ => true) n := by
  rw [bm_low (Nat.le_refl n)]
  exact bm_ext fun k hk => by simp [hk]
theorem bm_z {p : Nat → Bool} {n : Nat} : bm p n = 0 ↔ ∀ k, k < n → p k = false := by
  constructor
  · intro h k hk
    have := bm_tb p n k
    rw [h, Nat.zero_testBit] at this
    simpa [hk] using this.symm
  · intro h
    apply Nat.eq_of_testBit_eq
    intro k
    rw [bm_tb, Nat.zero_testBit]
    by_cases hk : k < n
    · simp [h k hk]
    · simp [hk]
theorem bm_bit {p : Nat → Bool} {n k : Nat} (h : k < n) : bm p n / 2 ^ k % 2 = if p k then 1 else 0 := by
  have := bm_tb p n k
  rw [Nat.testBit_eq_decide_div_mod_eq] at this
  have h2 : bm p n / 2 ^ k % 2 < 2 := Nat.mod_lt _ (by decide)
  cases hp : p k
  · simp [h, hp] at this
    simp; omega
  · simp [h, hp] at this
    simp; omega
theorem ct_ext {p q : Nat → Bool} : ∀ {n : Nat}, (∀ k, k < n → p k = q k) → ct p n = ct q n
  | 0, _ => rfl
  | n + 1, h => by rw [ct, ct, h n (by omega), ct_ext fun k hk => h k (by omega)]
theorem ct_le (p : Nat → Bool) : ∀ n, ct p n ≤ n
  | 0 => Nat.le_refl _
  | n + 1 => by
    have := ct_le p n
    rw [ct]
    split <;> omega
theorem ct_cut {p : Nat → Bool} {n : Nat} : ∀ m, n ≤ m → ct (fun k => decide (k < n) && p k) m = ct p n
  | 0, h => by
    have : n = 0 := by omega
    subst this; rfl
  | m + 1, h => by
    by_cases e : n = m + 1
    · subst e
      exact ct_ext fun k hk => by simp [hk]
    · rw [ct, ct_cut m (by omega)]
      have : ¬ m < n := by omega
      simp [this]
def zM : gM := (fun _ _ => 0, fun _ => 0)
def bcI (v : Int32) : Int32 := ((fJ6_bitCount_0f7a4 v zM).getD (0, zM)).1
theorem bcI_ok (v : Int32) (σ : gM) : fJ6_bitCount_0f7a4 v σ = some (bcI v, σ) := rfl
theorem bc_all0 : ∀ a, a < 64 → ∀ b, b < 64 → bcI (nI (64 * a + b)) = nI (ct (fun k => (64 * a + b).testBit k) 12) := by decide +kernel
theorem bc_all (x : Nat) (h : x < 4096) : bcI (nI x) = nI (ct (fun k => x.testBit k) 12) := by
  have := bc_all0 (x / 64) (by omega) (x % 64) (by omega)
  rwa [Nat.div_add_mod] at this
theorem bc_bm {p : Nat → Bool} {n : Nat} (h : n ≤ 12) (σ : gM) : fJ6_bitCount_0f7a4 (nI (bm p n)) σ = some (nI (ct p n), σ) := by
  rw [bcI_ok, bc_all _ (bm_lt12 h)]
  congr 3
  rw [ct_ext (fun k _ => bm_tb p n k), ct_cut 12 h]
theorem nANDN (a b : Nat) : nI a &&& (nI b ^^^ -1) = nI (a ^^^ (a &&& b)) := by
  apply Int32.toBitVec_inj.mp
  apply BitVec.eq_of_getLsbD_eq
  intro k hk
  have e1 : (-1 : Int32).toBitVec = BitVec.allOnes 32 := by decide
  simp only [Int32.toBitVec_and, Int32.toBitVec_xor, e1, nI, Int32.toBitVec_ofNat', BitVec.getLsbD_and, BitVec.getLsbD_xor, BitVec.getLsbD_ofNat, BitVec.getLsbD_allOnes, Nat.testBit_xor, Nat.testBit_and]
  simp only [hk, decide_true, Bool.true_and, Bool.xor_true]
  cases a.testBit k <;> cases b.testBit k <;> rfl
theorem tz_1 : ∀ i, i < 8 → ∀ σ : gM, fJ6_numberOfTrailingZeros_0f7a4 (nI (2 ^ i)) σ = some (nI i, σ) ∧ fJ6_numberOfLeadingZeros_0f7a4 (nI (2 ^ i)) σ = some (nI (31 - i), σ) := by
  intro i hi σ
  rcases (show i = 0 ∨ i = 1 ∨ i = 2 ∨ i = 3 ∨ i = 4 ∨ i = 5 ∨ i = 6 ∨ i = 7 by omega) with rfl | rfl | rfl | rfl | rfl | rfl | rfl | rfl <;> exact ⟨rfl, rfl⟩
theorem tz_2 : ∀ i j, i < j → j < 6 → ∀ σ : gM, fJ6_numberOfTrailingZeros_0f7a4 (nI (2 ^ i + 2 ^ j)) σ = some (nI i, σ) ∧ fJ6_numberOfLeadingZeros_0f7a4 (nI (2 ^ i + 2 ^ j)) σ = some (nI (31 - j), σ) := by
  intro i j hi hj σ
  rcases (show j = 1 ∨ j = 2 ∨ j = 3 ∨ j = 4 ∨ j = 5 by omega) with rfl | rfl | rfl | rfl | rfl <;>
  rcases (show i = 0 ∨ i = 1 ∨ i = 2 ∨ i = 3 ∨ i = 4 by omega) with rfl | rfl | rfl | rfl | rfl <;> first | exact ⟨rfl, rfl⟩ | (exfalso; omega)
