/-! the ways of a write -/
theorem ct_compl (p : Nat → Bool) : ∀ n, ct p n + ct (fun r => !p r) n = n
  | 0 => rfl
  | n + 1 => by
    have := ct_compl p n
    rw [ct, ct]
    cases h : p n <;> simp <;> omega
theorem ct_single {p : Nat → Bool} {k : Nat} : ∀ n, ct (fun r => decide (r = k) && p r) n = if k < n ∧ p k = true then 1 else 0
  | 0 => by simp [ct]
  | n + 1 => by
    rw [ct, ct_single n]
    by_cases e : n = k
    · subst e
      cases h : p n <;> simp
    · have : (k < n + 1) = (k < n) := by apply propext; omega
      simp [e, this]
theorem ct_one {p : Nat → Bool} {k n : Nat} (hk : k < n) (h : p k = true) : ct p n = 1 ↔ ∀ r, r < n → r ≠ k → p r = false := by
  constructor
  · intro h1 r hr hne
    cases hp : p r with
    | false => rfl
    | true =>
      exfalso
      by_cases l : r < k
      · have a := ct_ge h n hk
        have b := ct_ge hp k l
        omega
      · have a := ct_ge hp n hr
        have b := ct_ge h r (by omega)
        omega
  · intro h1
    rw [ct_ext (q := fun r => decide (r = k) && p r) (by
      intro r hr
      by_cases e : r = k
      · simp [e]
      · rw [h1 r hr e]; simp), ct_single, if_pos ⟨hk, h⟩]
/-- parts but one that are there -/
def oc (D : Nat) (is : Nat → Bool) (part : Nat) : Nat := ct (fun r => !decide (r = part) && is r) D
def sm (D : Nat) (is : Nat → Bool) : Nat := (if is D then 1 else 0) + (if is (D + 1) then 1 else 0)
def wy (D : Nat) (is : Nat → Bool) (part : Nat) : Nat := if is part then (if oc D is part = D - 1 ∧ D - 1 < 1 + sm D is then 1 else 0) else if oc D is part = D - 1 then 1 else 2
/-- what is written; what is read -/
def wp (D : Nat) (is : Nat → Bool) (part : Nat) (r : Nat) : Bool := (decide (r = part) || decide (r = D) || decide (r = D + 1)) && is r
def rp (D : Nat) (is : Nat → Bool) (part w : Nat) (r : Nat) : Bool := if w = 0 then wp D is part r else if w = 1 then (decide (r < D) && !decide (r = part)) && is r else is r
theorem oc_all {D part : Nat} {is : Nat → Bool} (hp : part < D) : oc D is part = D - 1 ↔ ∀ r, r < D → r ≠ part → is r = true := by
  have c := ct_compl (fun r => !decide (r = part) && is r) D
  have o := ct_one (p := fun r => !(!decide (r = part) && is r)) hp (by simp)
  unfold oc
  constructor
  · intro h r hr hne
    have := o.mp (by omega) r hr hne
    simpa [hne] using this
  · intro h
    have := o.mpr (by
      intro r hr hne
      simp [hne, h r hr hne])
    omega
theorem oc_two {D part : Nat} {is : Nat → Bool} (hp : part < D) (h : is part = false) (h2 : ct (fun r => !is r) (D + 2) ≤ 2) (hn : ¬ oc D is part = D - 1) : oc D is part = D - 2 ∧ is D = true ∧ is (D + 1) = true ∧ ct (fun r => !is r) (D + 2) = 2 := by
  have c := ct_compl (fun r => !decide (r = part) && is r) D
  have e : ct (fun r => !(!decide (r = part) && is r)) D = ct (fun r => !is r) D := ct_ext (by
    intro r hr
    by_cases q : r = part
    · rw [q]; simp [h]
    · simp [q])
  have g := ct_ge (p := fun r => !is r) (c := part) (by simp [h]) D hp
  have s2 : ct (fun r => !is r) (D + 2) = ct (fun r => !is r) D + (if (!is D) = true then 1 else 0) + (if (!is (D + 1)) = true then 1 else 0) := rfl
  unfold oc at *
  rw [e] at c
  cases hD : is D <;> cases hQ : is (D + 1) <;> simp [hD, hQ] at s2 <;> refine ⟨?_, ?_, ?_, ?_⟩ <;> first | rfl | omega
theorem ct_wp {D part : Nat} {is : Nat → Bool} (hp : part < D) : ct (wp D is part) (D + 2) = (if is part then 1 else 0) + sm D is := by
  have s2 : ct (wp D is part) (D + 2) = ct (wp D is part) D + (if wp D is part D = true then 1 else 0) + (if wp D is part (D + 1) = true then 1 else 0) := rfl
  rw [s2, ct_ext (q := fun r => decide (r = part) && is r) (by
    intro r hr
    have a : ¬ r = D := by omega
    have b : ¬ r = D + 1 := by omega
    simp [wp, a, b]), ct_single, sm]
  have a : ¬ D = part := by omega
  have b : ¬ D + 1 = part := by omega
  simp [wp, hp, a, b]
  omega
theorem ct_rp1 {D part : Nat} {is : Nat → Bool} (hp : part < D) : ct (fun r => (decide (r < D) && !decide (r = part)) && is r) (D + 2) = oc D is part := by
  have s2 : ct (fun r => (decide (r < D) && !decide (r = part)) && is r) (D + 2) = ct (fun r => (decide (r < D) && !decide (r = part)) && is r) D + (if ((decide (D < D) && !decide (D = part)) && is D) = true then 1 else 0) + (if ((decide (D + 1 < D) && !decide (D + 1 = part)) && is (D + 1)) = true then 1 else 0) := rfl
  rw [s2, ct_ext (q := fun r => !decide (r = part) && is r) (by intro r hr; simp [hr])]
  have a : ¬ D + 1 < D := by omega
  simp [oc, a]
theorem sh1 {k : Nat} (h : k < 31) : (1 : Int32) <<< (nI k &&& 31) = nI (2 ^ k) := by
  have e : (2 : Nat) ^ k < 2 ^ 31 := Nat.pow_lt_pow_right (by decide) h
  have e' : (2 : Nat) ^ 31 = 2147483648 := by decide
  rw [show (1 : Int32) = nI 1 from rfl, show (31 : Int32) = nI 31 from rfl, fa_and, n31 (by omega), nSHL (by omega) (by omega), Nat.one_mul]
theorem X_writeBits {D S C F i part : Nat} {is : Nat → Bool} {σ : gM} (hE : XE D S C F σ) (hp : part < D) : fX8_writeBits i (nI (bm (fun r => !is r) (D + 2))) (nI part) σ = some (nI (bm (wp D is part) (D + 2)), σ) := by
  obtain ⟨⟨w1, w2, w3, w4, w5, w6, w7⟩, ⟨h0, h1, h2, h3, h5, h6, h7, h8, h9⟩, hf⟩ := hE
  unfold fX8_writeBits
  rw [h6, h7, sh1 (by omega), sh1 (by omega), sh1 (by omega), fa_or, fa_or, nANDN, bm_one (show part < D + 2 by omega), bm_one (show D < D + 2 by omega), bm_one (show D + 1 < D + 2 by omega), bm_or, bm_or, bm_not]
  congr 3
  exact bm_ext fun r hr => by simp [wp]
theorem X_readBits {D S C F i part w : Nat} {is : Nat → Bool} {σ : gM} (hE : XE D S C F σ) (hp : part < D) (hw : w < 3) : fX8_readBits i (nI w) (nI (bm (fun r => !is r) (D + 2))) (nI part) σ = some (nI (bm (rp D is part w) (D + 2)), σ) := by
  have hE' := hE
  obtain ⟨⟨w1, w2, w3, w4, w5, w6, w7⟩, ⟨h0, h1, h2, h3, h5, h6, h7, h8, h9⟩, hf⟩ := hE
  unfold fX8_readBits fX8_readBits_b39
  rcases (show w = 0 ∨ w = 1 ∨ w = 2 by omega) with rfl | rfl | rfl
  · rw [if_pos (show nI 0 = 0 from rfl), X_writeBits hE' hp, b_I]
    rfl
  · rw [if_neg (by decide), if_pos (show nI 1 = 1 from rfl), h8, sh1 (by omega), nANDN, bm_low (show D ≤ D + 2 by omega), bm_one (show part < D + 2 by omega), bm_not, nANDN, bm_not]
    congr 3
    exact bm_ext fun r hr => by simp [rp]
  · rw [if_neg (by decide), if_neg (by decide), h9, nANDN, bm_all, bm_not]
    congr 3
    exact bm_ext fun r hr => by simp [rp]
theorem X_wayOf {D S C F i part : Nat} {is : Nat → Bool} {σ : gM} (hE : XE D S C F σ) (hp : part < D) : fX8_wayOf i (nI (bm (fun r => !is r) (D + 2))) (nI part) σ = some (nI (wy D is part), σ) := by
  have hE' := hE
  obtain ⟨⟨w1, w2, w3, w4, w5, w6, w7⟩, ⟨h0, h1, h2, h3, h5, h6, h7, h8, h9⟩, hf⟩ := hE
  have hl := bm_lt8 (p := fun r => !is r) (show D + 2 ≤ 8 by omega)
  have hbit := bm_bit (p := fun r => !is r) (show part < D + 2 by omega)
  have hoc : oc D is part ≤ D := ct_le _ _
  have eo : nI (bm (fun r => !is r) (D + 2)) &&& nI (2 ^ D - 1) &&& ((1 : Int32) <<< (nI part &&& 31) ^^^ -1) = nI (if oc D is part = D - 1 then 0 else bm (fun r => !is r && decide (r < D) && !decide (r = part)) (D + 2)) ∧ (¬ oc D is part = D - 1 → bm (fun r => !is r && decide (r < D) && !decide (r = part)) (D + 2) ≠ 0) := by
    rw [sh1 (by omega), fa_and, bm_low (show D ≤ D + 2 by omega), bm_and, nANDN, bm_one (show part < D + 2 by omega), bm_not]
    constructor
    · by_cases c : oc D is part = D - 1
      · rw [if_pos c]
        congr 1
        apply bm_z.mpr
        intro r hr
        by_cases q : r < D ∧ r ≠ part
        · rw [(oc_all hp).mp c r q.1 q.2]; simp
        · by_cases q1 : r < D
          · have : r = part := by
              apply Classical.byContradiction
              intro z; exact q ⟨q1, z⟩
            simp [this]
          · simp [q1]
      · rw [if_neg c]
    · intro c z
      apply c
      rw [oc_all hp]
      intro r hr hne
      have := bm_z.mp z r (by omega)
      simpa [hr, hne] using this
  have b2 := bm_lt8 (p := fun r => !is r && decide (r < D) && !decide (r = part)) (show D + 2 ≤ 8 by omega)
  have key : ∀ own : Nat, own < 2 → (own = 1 ↔ is part = true) → fX8_wayOf_b13 i (nI (bm (fun r => !is r) (D + 2))) (nI part) (nI own) σ = some (nI (wy D is part), σ) := by
    intro own ho hoi
    have k2 : ∀ oth : Nat, oth < 2 → (oth = 1 ↔ oc D is part = D - 1) → fX8_wayOf_b37 i (nI (bm (fun r => !is r) (D + 2))) (nI part) (nI own) (nI oth) σ = some (nI (wy D is part), σ) := by
      intro oth hoth ho2
      unfold fX8_wayOf_b37 wy
      by_cases c : is part = true
      · have : own = 1 := hoi.mpr c
        subst this
        rw [if_neg (by decide), if_pos c, show (0 : Int32) = nI 0 from rfl, X_readBits hE' hp (by omega), b_I, bc_bm (by omega), b_I, show (1 : Int32) = nI 1 from rfl, X_readBits hE' hp (by omega), b_I, bc_bm (by omega), b_I]
        have e1 : ct (rp D is part 0) (D + 2) = 1 + sm D is := by
          show ct (wp D is part) (D + 2) = _
          rw [ct_wp hp, if_pos c]
        have e2 : ct (rp D is part 1) (D + 2) = oc D is part := ct_rp1 hp
        have hs : sm D is ≤ 2 := by unfold sm; split <;> split <;> omega
        rw [e1, e2]
        by_cases c2 : oc D is part = D - 1
        · have : oth = 1 := ho2.mpr c2
          subst this
          rw [if_neg (by decide)]
          by_cases c3 : D - 1 < 1 + sm D is
          · rw [if_neg (by rw [nLE _ _ (by omega) (by omega)]; omega), if_pos ⟨c2, c3⟩]
          · rw [if_pos (by rw [nLE _ _ (by omega) (by omega)]; omega), if_neg (fun z => c3 z.2)]
        · have : oth = 0 := by
            have := fun z : oth = 1 => c2 (ho2.mp z)
            omega
          subst this
          rw [if_pos (show nI 0 = nI 0 from rfl), if_neg (fun z => c2 z.1)]
      · have : own = 0 := by
          rcases (show own = 0 ∨ own = 1 by clear hoi; omega) with q | q
          · exact q
          · exact absurd (hoi.mp q) c
        subst this
        rw [if_pos (show nI 0 = 0 from rfl), if_neg c]
        by_cases c2 : oc D is part = D - 1
        · have : oth = 1 := ho2.mpr c2
          subst this
          rw [if_neg (by decide), if_pos c2]; rfl
        · have : oth = 0 := by
            have := fun z : oth = 1 => c2 (ho2.mp z)
            omega
          subst this
          rw [if_pos (show nI 0 = 0 from rfl), if_neg c2]; rfl
    unfold fX8_wayOf_b13
    rw [h8, eo.1]
    by_cases c2 : oc D is part = D - 1
    · rw [if_pos c2, if_pos (show nI 0 = 0 from rfl)]
      exact k2 1 (by omega) ⟨fun _ => c2, fun _ => rfl⟩
    · have z := eo.2 c2
      rw [if_neg c2, if_neg (nI_ne0 (by omega) (by omega))]
      exact k2 0 (by omega) ⟨fun q => absurd q (by decide), fun q => absurd q c2⟩
  unfold fX8_wayOf
  by_cases c : is part = true
  · simp only [c, Bool.not_true, Bool.false_eq_true, if_false] at hbit
    rw [if_pos (by simp (disch := first | omega | assumption) only [fa_lit, nLE, nLT, nEQ, nI_add, nSA, nSUB, pk_mul, nDIV, nREM, nCL, fa_and, nx_xor, fa_or, nSHL, nSHR, nUS, n31, n255, Nat.and_one_is_mod, b_I, b_V, b_L, not_or, Nat.not_lt_zero, Nat.not_le, Nat.not_lt, not_false_eq_true, true_and, and_true, false_or, or_false, Classical.not_not, if_true, if_false, if_pos, if_neg, hbit])]
    exact key 1 (by omega) ⟨fun _ => c, fun _ => rfl⟩
  · simp only [c, Bool.not_false, if_true] at hbit
    rw [if_neg (by simp (disch := first | omega | assumption) only [fa_lit, nLE, nLT, nEQ, nI_add, nSA, nSUB, pk_mul, nDIV, nREM, nCL, fa_and, nx_xor, fa_or, nSHL, nSHR, nUS, n31, n255, Nat.and_one_is_mod, b_I, b_V, b_L, not_or, Nat.not_lt_zero, Nat.not_le, Nat.not_lt, not_false_eq_true, true_and, and_true, false_or, or_false, Classical.not_not, if_true, if_false, if_pos, if_neg, hbit] <;> omega)]
    exact key 0 (by omega) ⟨fun q => absurd q (by decide), fun q => absurd q c⟩
