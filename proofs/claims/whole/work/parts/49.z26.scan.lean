/-! reading of the tape: blanks, numbers, letters -/
def gk (L J : List Nat) (σ σ' : gM) : Prop := (∀ p, p ∉ L → p ≠ 1 → σ'.1 p = σ.1 p) ∧ (∀ k, k ∉ J → σ'.1 1 k = σ.1 1 k) ∧ σ'.2 = σ.2
theorem gk_refl (L J : List Nat) (σ : gM) : gk L J σ σ := ⟨fun _ _ _ => rfl, fun _ _ => rfl, rfl⟩
theorem gk_trans {L J : List Nat} {a b c : gM} (h1 : gk L J a b) (h2 : gk L J b c) : gk L J a c := ⟨fun p hp h0 => (h2.1 p hp h0).trans (h1.1 p hp h0), fun k hk => (h2.2.1 k hk).trans (h1.2.1 k hk), h2.2.2.trans h1.2.2⟩
theorem gk_mono {L L' J J' : List Nat} {a b : gM} (h : gk L J a b) (hL : ∀ p, p ∈ L → p ∈ L') (hJ : ∀ p, p ∈ J → p ∈ J') : gk L' J' a b := ⟨fun p hp h0 => h.1 p (fun q => hp (hL p q)) h0, fun k hk => h.2.1 k (fun q => hk (hJ k q)), h.2.2⟩
theorem gk_put {L J : List Nat} (σ : gM) {k : Nat} (i : Nat) (x : Int32) (h : k ∈ L) (h0 : k ≠ 1) : gk L J σ (g_put σ k i x) := ⟨fun p hp _ => g_put_o σ k i x p (fun e => hp (e ▸ h)), fun j _ => gp_o (fun e => h0 e.symm) j, rfl⟩
theorem gk_put1 {L J : List Nat} (σ : gM) {i : Nat} (x : Int32) (h : i ∈ J) : gk L J σ (g_put σ 1 i x) := ⟨fun p _ h0 => g_put_o σ 1 i x p h0, fun j hj => by rw [gp_k, if_neg (fun e : j = i => hj (by rw [e]; exact h))], rfl⟩
def XT (L : Nat) (T : Nat → Nat) (σ : gM) : Prop := σ.1 1 1 = nI L ∧ ∀ k, k < L → 0 < T k ∧ T k < 256 ∧ σ.1 2 k = nI (T k)
def MT (L : Nat) (T : Nat → Nat) (σ : gM) : Prop := σ.1 0 2 = nI L ∧ ∀ k, k < L → 0 < T k ∧ T k < 256 ∧ σ.1 1 k &&& 255 = nI (T k)
theorem XT_gk {L : Nat} {T : Nat → Nat} {σ σ' : gM} {A J : List Nat} (h : XT L T σ) (f : gk A J σ σ') (h2 : 2 ∉ A) (j : 1 ∉ J) : XT L T σ' := by
  unfold XT at *
  rw [f.2.1 1 j, f.1 2 h2 (by decide)]
  exact h
theorem MT_gj {L : Nat} {T : Nat → Nat} {σ σ' : gM} {A J : List Nat} (h : MT L T σ) (f : gj A J σ σ') (h2 : 1 ∉ A) (j : 2 ∉ J) : MT L T σ' := by
  unfold MT at *
  rw [f.2.1 2 j, f.1 1 h2 (by decide)]
  exact h
def bl (T : Nat → Nat) (L p : Nat) : Bool := decide (p < L) && decide (T p = 32)
def skF (T : Nat → Nat) (L : Nat) : Nat → Nat → Nat
  | 0, p => p
  | q + 1, p => if bl T L p then skF T L q (p + 1) else p
def sk (T : Nat → Nat) (L p : Nat) : Nat := skF T L (L - p) p
theorem skF_ge (T : Nat → Nat) (L : Nat) : ∀ q p, p ≤ skF T L q p
  | 0, p => Nat.le_refl _
  | q + 1, p => by
    rw [skF]
    split
    · have := skF_ge T L q (p + 1); omega
    · exact Nat.le_refl _
theorem skF_bl (T : Nat → Nat) (L : Nat) : ∀ q p j, p ≤ j → j < skF T L q p → bl T L j = true
  | 0, p, j, h1, h2 => by rw [skF] at h2; omega
  | q + 1, p, j, h1, h2 => by
    rw [skF] at h2
    by_cases c : bl T L p = true
    · rw [if_pos c] at h2
      by_cases e : j = p
      · rw [e]; exact c
      · exact skF_bl T L q (p + 1) j (by omega) h2
    · rw [if_neg c] at h2; omega
theorem skF_nb (T : Nat → Nat) (L : Nat) : ∀ q p, L ≤ p + q → bl T L (skF T L q p) = false
  | 0, p, h => by
    rw [skF, bl]
    have : ¬ p < L := by omega
    simp [this]
  | q + 1, p, h => by
    rw [skF]
    by_cases c : bl T L p = true
    · rw [if_pos c]; exact skF_nb T L q (p + 1) (by omega)
    · rw [if_neg c]; exact Bool.eq_false_iff.mpr c
theorem skF_le (T : Nat → Nat) (L : Nat) : ∀ q p, p ≤ L → skF T L q p ≤ L
  | 0, p, h => h
  | q + 1, p, h => by
    rw [skF]
    by_cases c : bl T L p = true
    · rw [if_pos c]
      have : p < L := by unfold bl at c; simp only [Bool.and_eq_true, decide_eq_true_eq] at c; exact c.1
      exact skF_le T L q (p + 1) (by omega)
    · rw [if_neg c]; exact h
theorem sk_ge (T : Nat → Nat) (L p : Nat) : p ≤ sk T L p := skF_ge T L _ p
theorem sk_le {T : Nat → Nat} {L p : Nat} (h : p ≤ L) : sk T L p ≤ L := skF_le T L _ p h
theorem sk_nb (T : Nat → Nat) (L p : Nat) : bl T L (sk T L p) = false := skF_nb T L _ p (by omega)
theorem sk_id {T : Nat → Nat} {L p : Nat} (h : bl T L p = false) : sk T L p = p := by
  unfold sk
  cases hq : L - p with
  | zero => rfl
  | succ q => rw [skF, h]; rfl
def sx (T : Nat → Nat) (L p : Nat) : Int32 := if p < L then nI (T p) else 0
def hr (T : Nat → Nat) (L p : Nat) : Int32 := if p < L then nI (T p) else -1
theorem X_sign {L p : Nat} {T : Nat → Nat} {σ : gM} (h : XT L T σ) (hL : L ≤ 280) (ha : σ.1 1 2 = nI p) (hp : p ≤ L) : fX10_sign σ = some (sx T L p, σ) := by
  unfold fX10_sign sx
  rw [ha, h.1, nCL (by omega)]
  by_cases c : p < L
  · rw [if_neg (by simp (disch := first | omega | assumption) only [fa_lit, nLE, nLT, nEQ, nI_add, nSA, nSUB, pk_mul, nDIV, nREM, nCL, fa_and, nx_xor, fa_or, nSHL, nSHR, nUS, n31, n255, Nat.and_one_is_mod, b_I, b_V, b_L, not_or, Nat.not_lt_zero, Nat.not_le, Nat.not_lt, not_false_eq_true, true_and, and_true, false_or, or_false, Classical.not_not, if_true, if_false, if_pos, if_neg] <;> omega), if_neg (by simp (disch := first | omega | assumption) only [fa_lit, nLE, nLT, nEQ, nI_add, nSA, nSUB, pk_mul, nDIV, nREM, nCL, fa_and, nx_xor, fa_or, nSHL, nSHR, nUS, n31, n255, Nat.and_one_is_mod, b_I, b_V, b_L, not_or, Nat.not_lt_zero, Nat.not_le, Nat.not_lt, not_false_eq_true, true_and, and_true, false_or, or_false, Classical.not_not, if_true, if_false, if_pos, if_neg] <;> omega), if_neg (by simp (disch := first | omega | assumption) only [fa_lit, nLE, nLT, nEQ, nI_add, nSA, nSUB, pk_mul, nDIV, nREM, nCL, fa_and, nx_xor, fa_or, nSHL, nSHR, nUS, n31, n255, Nat.and_one_is_mod, b_I, b_V, b_L, not_or, Nat.not_lt_zero, Nat.not_le, Nat.not_lt, not_false_eq_true, true_and, and_true, false_or, or_false, Classical.not_not, if_true, if_false, if_pos, if_neg] <;> omega), if_pos (by simp (disch := first | omega | assumption) only [fa_lit, nLE, nLT, nEQ, nI_add, nSA, nSUB, pk_mul, nDIV, nREM, nCL, fa_and, nx_xor, fa_or, nSHL, nSHR, nUS, n31, n255, Nat.and_one_is_mod, b_I, b_V, b_L, not_or, Nat.not_lt_zero, Nat.not_le, Nat.not_lt, not_false_eq_true, true_and, and_true, false_or, or_false, Classical.not_not, if_true, if_false, if_pos, if_neg] <;> omega), (h.2 p c).2.2, if_pos c]
  · rw [if_neg (by simp (disch := first | omega | assumption) only [fa_lit, nLE, nLT, nEQ, nI_add, nSA, nSUB, pk_mul, nDIV, nREM, nCL, fa_and, nx_xor, fa_or, nSHL, nSHR, nUS, n31, n255, Nat.and_one_is_mod, b_I, b_V, b_L, not_or, Nat.not_lt_zero, Nat.not_le, Nat.not_lt, not_false_eq_true, true_and, and_true, false_or, or_false, Classical.not_not, if_true, if_false, if_pos, if_neg] <;> omega), if_pos (by simp (disch := first | omega | assumption) only [fa_lit, nLE, nLT, nEQ, nI_add, nSA, nSUB, pk_mul, nDIV, nREM, nCL, fa_and, nx_xor, fa_or, nSHL, nSHR, nUS, n31, n255, Nat.and_one_is_mod, b_I, b_V, b_L, not_or, Nat.not_lt_zero, Nat.not_le, Nat.not_lt, not_false_eq_true, true_and, and_true, false_or, or_false, Classical.not_not, if_true, if_false, if_pos, if_neg] <;> omega), if_neg c]
theorem M_here {L p : Nat} {T : Nat → Nat} {σ : gM} (h : MT L T σ) (hL : L ≤ 280) (ha : σ.1 0 3 = nI p) (hp : p ≤ L) : fX12_here σ = some (hr T L p, σ) := by
  unfold fX12_here hr
  rw [ha, h.1, nCL (by omega)]
  by_cases c : p < L
  · rw [if_neg (by simp (disch := first | omega | assumption) only [fa_lit, nLE, nLT, nEQ, nI_add, nSA, nSUB, pk_mul, nDIV, nREM, nCL, fa_and, nx_xor, fa_or, nSHL, nSHR, nUS, n31, n255, Nat.and_one_is_mod, b_I, b_V, b_L, not_or, Nat.not_lt_zero, Nat.not_le, Nat.not_lt, not_false_eq_true, true_and, and_true, false_or, or_false, Classical.not_not, if_true, if_false, if_pos, if_neg] <;> omega), if_pos (by simp (disch := first | omega | assumption) only [fa_lit, nLE, nLT, nEQ, nI_add, nSA, nSUB, pk_mul, nDIV, nREM, nCL, fa_and, nx_xor, fa_or, nSHL, nSHR, nUS, n31, n255, Nat.and_one_is_mod, b_I, b_V, b_L, not_or, Nat.not_lt_zero, Nat.not_le, Nat.not_lt, not_false_eq_true, true_and, and_true, false_or, or_false, Classical.not_not, if_true, if_false, if_pos, if_neg] <;> omega), (h.2 p c).2.2, if_pos c]
  · rw [if_pos (by simp (disch := first | omega | assumption) only [fa_lit, nLE, nLT, nEQ, nI_add, nSA, nSUB, pk_mul, nDIV, nREM, nCL, fa_and, nx_xor, fa_or, nSHL, nSHR, nUS, n31, n255, Nat.and_one_is_mod, b_I, b_V, b_L, not_or, Nat.not_lt_zero, Nat.not_le, Nat.not_lt, not_false_eq_true, true_and, and_true, false_or, or_false, Classical.not_not, if_true, if_false, if_pos, if_neg] <;> omega), if_neg c]
theorem X_skip {L p : Nat} {T : Nat → Nat} {σ : gM} (h : XT L T σ) (hL : L ≤ 280) (ha : σ.1 1 2 = nI p) (hp : p ≤ L) : ∃ σ', fX10_skipBlanks 1000 σ = some σ' ∧ σ'.1 1 2 = nI (sk T L p) ∧ gk [] [2] σ σ' := by
  have hge := sk_ge T L p
  have hle := sk_le (T := T) hp
  have hnb := sk_nb T L p
  unfold fX10_skipBlanks
  refine lp (L := fun m k a => fX10_skipBlanks_L0 1000 m a) (I := fun k a => a.1 1 2 = nI (p + k) ∧ gk [] [2] σ a) (Q := fun o => ∃ σ', o = some σ' ∧ σ'.1 1 2 = nI (sk T L p) ∧ gk [] [2] σ σ') (N := sk T L p - p) ?_ ?_ (sk T L p - p) 1000 0 σ (by omega) (by omega) ⟨ha, gk_refl _ _ _⟩
  · intro m k a hk hq
    obtain ⟨q1, q2⟩ := hq
    have ht := XT_gk h q2 (by simp) (by simp)
    have hb := skF_bl T L (L - p) p (p + k) (by omega) (by show p + k < sk T L p; omega)
    unfold bl at hb
    simp only [Bool.and_eq_true, decide_eq_true_eq] at hb
    refine Or.inl ⟨g_put a 1 2 (nI (p + (k + 1))), ?_, gp_s _ _ _ _, gk_trans q2 (gk_put1 _ _ (by simp))⟩
    show fX10_skipBlanks_b0 1000 (fX10_skipBlanks_L0 1000 m) a = _
    unfold fX10_skipBlanks_b0
    rw [q1, ht.1, nCL (by omega), if_neg (by simp (disch := first | omega | assumption) only [fa_lit, nLE, nLT, nEQ, nI_add, nSA, nSUB, pk_mul, nDIV, nREM, nCL, fa_and, nx_xor, fa_or, nSHL, nSHR, nUS, n31, n255, Nat.and_one_is_mod, b_I, b_V, b_L, not_or, Nat.not_lt_zero, Nat.not_le, Nat.not_lt, not_false_eq_true, true_and, and_true, false_or, or_false, Classical.not_not, if_true, if_false, if_pos, if_neg] <;> omega), if_neg (by simp (disch := first | omega | assumption) only [fa_lit, nLE, nLT, nEQ, nI_add, nSA, nSUB, pk_mul, nDIV, nREM, nCL, fa_and, nx_xor, fa_or, nSHL, nSHR, nUS, n31, n255, Nat.and_one_is_mod, b_I, b_V, b_L, not_or, Nat.not_lt_zero, Nat.not_le, Nat.not_lt, not_false_eq_true, true_and, and_true, false_or, or_false, Classical.not_not, if_true, if_false, if_pos, if_neg] <;> omega), if_neg (by simp (disch := first | omega | assumption) only [fa_lit, nLE, nLT, nEQ, nI_add, nSA, nSUB, pk_mul, nDIV, nREM, nCL, fa_and, nx_xor, fa_or, nSHL, nSHR, nUS, n31, n255, Nat.and_one_is_mod, b_I, b_V, b_L, not_or, Nat.not_lt_zero, Nat.not_le, Nat.not_lt, not_false_eq_true, true_and, and_true, false_or, or_false, Classical.not_not, if_true, if_false, if_pos, if_neg] <;> omega), if_pos (by simp (disch := first | omega | assumption) only [fa_lit, nLE, nLT, nEQ, nI_add, nSA, nSUB, pk_mul, nDIV, nREM, nCL, fa_and, nx_xor, fa_or, nSHL, nSHR, nUS, n31, n255, Nat.and_one_is_mod, b_I, b_V, b_L, not_or, Nat.not_lt_zero, Nat.not_le, Nat.not_lt, not_false_eq_true, true_and, and_true, false_or, or_false, Classical.not_not, if_true, if_false, if_pos, if_neg] <;> omega), (ht.2 _ hb.1).2.2, hb.2, if_pos (by decide), b_L, show nI (p + k) + 1 = nI (p + (k + 1)) from nI_add _ 1]
  · intro m a hq
    obtain ⟨q1, q2⟩ := hq
    have ht := XT_gk h q2 (by simp) (by simp)
    rw [show p + (sk T L p - p) = sk T L p by omega] at q1
    refine ⟨a, ?_, q1, q2⟩
    show fX10_skipBlanks_b0 1000 (fX10_skipBlanks_L0 1000 m) a = _
    unfold fX10_skipBlanks_b0
    rw [q1, ht.1, nCL (by omega), if_neg (by simp (disch := first | omega | assumption) only [fa_lit, nLE, nLT, nEQ, nI_add, nSA, nSUB, pk_mul, nDIV, nREM, nCL, fa_and, nx_xor, fa_or, nSHL, nSHR, nUS, n31, n255, Nat.and_one_is_mod, b_I, b_V, b_L, not_or, Nat.not_lt_zero, Nat.not_le, Nat.not_lt, not_false_eq_true, true_and, and_true, false_or, or_false, Classical.not_not, if_true, if_false, if_pos, if_neg] <;> omega)]
    by_cases c : sk T L p < L
    · have hb := ht.2 _ c
      have h32 : T (sk T L p) ≠ 32 := by
        intro z
        unfold bl at hnb
        simp [c, z] at hnb
      rw [if_neg (by simp (disch := first | omega | assumption) only [fa_lit, nLE, nLT, nEQ, nI_add, nSA, nSUB, pk_mul, nDIV, nREM, nCL, fa_and, nx_xor, fa_or, nSHL, nSHR, nUS, n31, n255, Nat.and_one_is_mod, b_I, b_V, b_L, not_or, Nat.not_lt_zero, Nat.not_le, Nat.not_lt, not_false_eq_true, true_and, and_true, false_or, or_false, Classical.not_not, if_true, if_false, if_pos, if_neg] <;> omega), if_neg (by simp (disch := first | omega | assumption) only [fa_lit, nLE, nLT, nEQ, nI_add, nSA, nSUB, pk_mul, nDIV, nREM, nCL, fa_and, nx_xor, fa_or, nSHL, nSHR, nUS, n31, n255, Nat.and_one_is_mod, b_I, b_V, b_L, not_or, Nat.not_lt_zero, Nat.not_le, Nat.not_lt, not_false_eq_true, true_and, and_true, false_or, or_false, Classical.not_not, if_true, if_false, if_pos, if_neg] <;> omega), if_pos (by simp (disch := first | omega | assumption) only [fa_lit, nLE, nLT, nEQ, nI_add, nSA, nSUB, pk_mul, nDIV, nREM, nCL, fa_and, nx_xor, fa_or, nSHL, nSHR, nUS, n31, n255, Nat.and_one_is_mod, b_I, b_V, b_L, not_or, Nat.not_lt_zero, Nat.not_le, Nat.not_lt, not_false_eq_true, true_and, and_true, false_or, or_false, Classical.not_not, if_true, if_false, if_pos, if_neg] <;> omega), hb.2.2, if_neg (by rw [show (32 : Int32) = nI 32 from rfl, nEQ _ _ (by omega) (by omega)]; exact h32)]
    · rw [if_pos (by simp (disch := first | omega | assumption) only [fa_lit, nLE, nLT, nEQ, nI_add, nSA, nSUB, pk_mul, nDIV, nREM, nCL, fa_and, nx_xor, fa_or, nSHL, nSHR, nUS, n31, n255, Nat.and_one_is_mod, b_I, b_V, b_L, not_or, Nat.not_lt_zero, Nat.not_le, Nat.not_lt, not_false_eq_true, true_and, and_true, false_or, or_false, Classical.not_not, if_true, if_false, if_pos, if_neg] <;> omega)]
theorem M_look {L p : Nat} {T : Nat → Nat} {σ : gM} (h : MT L T σ) (hL : L ≤ 280) (ha : σ.1 0 3 = nI p) (hp : p ≤ L) : ∃ σ', fX12_look 1000 σ = some (hr T L (sk T L p), σ') ∧ σ'.1 0 3 = nI (sk T L p) ∧ gj [] [3] σ σ' := by
  have hge := sk_ge T L p
  have hle := sk_le (T := T) hp
  have hnb := sk_nb T L p
  unfold fX12_look
  refine lp (L := fun m k a => fX12_look_L0 1000 m a) (I := fun k a => a.1 0 3 = nI (p + k) ∧ gj [] [3] σ a) (Q := fun o => ∃ σ', o = some (hr T L (sk T L p), σ') ∧ σ'.1 0 3 = nI (sk T L p) ∧ gj [] [3] σ σ') (N := sk T L p - p) ?_ ?_ (sk T L p - p) 1000 0 σ (by omega) (by omega) ⟨ha, gj_refl _ _ _⟩
  · intro m k a hk hq
    obtain ⟨q1, q2⟩ := hq
    have ht := MT_gj h q2 (by simp) (by simp)
    have hb := skF_bl T L (L - p) p (p + k) (by omega) (by show p + k < sk T L p; omega)
    unfold bl at hb
    simp only [Bool.and_eq_true, decide_eq_true_eq] at hb
    refine Or.inl ⟨g_put a 0 3 (nI (p + (k + 1))), ?_, gp_s _ _ _ _, gj_trans q2 (gj_put0 _ _ (by simp))⟩
    show fX12_look_b0 1000 (fX12_look_L0 1000 m) a = _
    unfold fX12_look_b0
    rw [M_here ht hL q1 (by omega), b_I, hr, if_pos hb.1, hb.2, if_pos (by decide), q1, b_L, show nI (p + k) + 1 = nI (p + (k + 1)) from nI_add _ 1]
  · intro m a hq
    obtain ⟨q1, q2⟩ := hq
    have ht := MT_gj h q2 (by simp) (by simp)
    rw [show p + (sk T L p - p) = sk T L p by omega] at q1
    refine ⟨a, ?_, q1, q2⟩
    show fX12_look_b0 1000 (fX12_look_L0 1000 m) a = _
    unfold fX12_look_b0
    have n32 : ¬ hr T L (sk T L p) = 32 := by
      unfold hr
      by_cases c : sk T L p < L
      · have hb := ht.2 _ c
        rw [if_pos c, show (32 : Int32) = nI 32 from rfl, nEQ _ _ (by omega) (by omega)]
        intro z
        unfold bl at hnb
        simp [c, z] at hnb
      · rw [if_neg c]; decide
    rw [M_here ht hL q1 hle, b_I, if_neg n32, M_here ht hL q1 hle, b_I]
/-! numbers -/
def dg (T : Nat → Nat) (L p : Nat) : Bool := decide (p < L) && (decide (48 ≤ T p) && decide (T p ≤ 57))
theorem X_isDigit {L p : Nat} {T : Nat → Nat} {σ σ' : gM} (h : XT L T σ) : fX10_isDigit (sx T L p) σ' = some (nI (if dg T L p then 1 else 0), σ') := by
  unfold fX10_isDigit sx dg
  by_cases c : p < L
  · have hb := h.2 p c
    rw [if_pos c]
    by_cases c1 : 48 ≤ T p
    · by_cases c2 : T p ≤ 57
      · rw [if_neg (by simp (disch := first | omega | assumption) only [fa_lit, nLE, nLT, nEQ, nI_add, nSA, nSUB, pk_mul, nDIV, nREM, nCL, fa_and, nx_xor, fa_or, nSHL, nSHR, nUS, n31, n255, Nat.and_one_is_mod, b_I, b_V, b_L, not_or, Nat.not_lt_zero, Nat.not_le, Nat.not_lt, not_false_eq_true, true_and, and_true, false_or, or_false, Classical.not_not, if_true, if_false, if_pos, if_neg] <;> omega), if_neg (by simp (disch := first | omega | assumption) only [fa_lit, nLE, nLT, nEQ, nI_add, nSA, nSUB, pk_mul, nDIV, nREM, nCL, fa_and, nx_xor, fa_or, nSHL, nSHR, nUS, n31, n255, Nat.and_one_is_mod, b_I, b_V, b_L, not_or, Nat.not_lt_zero, Nat.not_le, Nat.not_lt, not_false_eq_true, true_and, and_true, false_or, or_false, Classical.not_not, if_true, if_false, if_pos, if_neg] <;> omega), if_pos (by simp [c, c1, c2])]; rfl
      · rw [if_neg (by simp (disch := first | omega | assumption) only [fa_lit, nLE, nLT, nEQ, nI_add, nSA, nSUB, pk_mul, nDIV, nREM, nCL, fa_and, nx_xor, fa_or, nSHL, nSHR, nUS, n31, n255, Nat.and_one_is_mod, b_I, b_V, b_L, not_or, Nat.not_lt_zero, Nat.not_le, Nat.not_lt, not_false_eq_true, true_and, and_true, false_or, or_false, Classical.not_not, if_true, if_false, if_pos, if_neg] <;> omega), if_pos (by simp (disch := first | omega | assumption) only [fa_lit, nLE, nLT, nEQ, nI_add, nSA, nSUB, pk_mul, nDIV, nREM, nCL, fa_and, nx_xor, fa_or, nSHL, nSHR, nUS, n31, n255, Nat.and_one_is_mod, b_I, b_V, b_L, not_or, Nat.not_lt_zero, Nat.not_le, Nat.not_lt, not_false_eq_true, true_and, and_true, false_or, or_false, Classical.not_not, if_true, if_false, if_pos, if_neg] <;> omega), if_neg (by simp [c2])]; rfl
    · rw [if_pos (by simp (disch := first | omega | assumption) only [fa_lit, nLE, nLT, nEQ, nI_add, nSA, nSUB, pk_mul, nDIV, nREM, nCL, fa_and, nx_xor, fa_or, nSHL, nSHR, nUS, n31, n255, Nat.and_one_is_mod, b_I, b_V, b_L, not_or, Nat.not_lt_zero, Nat.not_le, Nat.not_lt, not_false_eq_true, true_and, and_true, false_or, or_false, Classical.not_not, if_true, if_false, if_pos, if_neg] <;> omega), if_neg (by simp [c1])]; rfl
  · rw [if_neg c, if_pos (by decide), if_neg (by simp [c])]; rfl
theorem M_isDigit {L p : Nat} {T : Nat → Nat} {σ : gM} (h : MT L T σ) (hL : L ≤ 280) (ha : σ.1 0 3 = nI p) (hp : p ≤ L) : fX12_isDigit σ = some (nI (if dg T L p then 1 else 0), σ) := by
  unfold fX12_isDigit
  rw [M_here h hL ha hp, b_I, M_here h hL ha hp, b_I]
  unfold hr dg
  by_cases c : p < L
  · have hb := h.2 p c
    rw [if_pos c]
    by_cases c1 : 48 ≤ T p
    · by_cases c2 : T p ≤ 57
      · rw [if_neg (by simp (disch := first | omega | assumption) only [fa_lit, nLE, nLT, nEQ, nI_add, nSA, nSUB, pk_mul, nDIV, nREM, nCL, fa_and, nx_xor, fa_or, nSHL, nSHR, nUS, n31, n255, Nat.and_one_is_mod, b_I, b_V, b_L, not_or, Nat.not_lt_zero, Nat.not_le, Nat.not_lt, not_false_eq_true, true_and, and_true, false_or, or_false, Classical.not_not, if_true, if_false, if_pos, if_neg] <;> omega), if_neg (by simp (disch := first | omega | assumption) only [fa_lit, nLE, nLT, nEQ, nI_add, nSA, nSUB, pk_mul, nDIV, nREM, nCL, fa_and, nx_xor, fa_or, nSHL, nSHR, nUS, n31, n255, Nat.and_one_is_mod, b_I, b_V, b_L, not_or, Nat.not_lt_zero, Nat.not_le, Nat.not_lt, not_false_eq_true, true_and, and_true, false_or, or_false, Classical.not_not, if_true, if_false, if_pos, if_neg] <;> omega), if_pos (by simp [c, c1, c2])]; rfl
      · rw [if_neg (by simp (disch := first | omega | assumption) only [fa_lit, nLE, nLT, nEQ, nI_add, nSA, nSUB, pk_mul, nDIV, nREM, nCL, fa_and, nx_xor, fa_or, nSHL, nSHR, nUS, n31, n255, Nat.and_one_is_mod, b_I, b_V, b_L, not_or, Nat.not_lt_zero, Nat.not_le, Nat.not_lt, not_false_eq_true, true_and, and_true, false_or, or_false, Classical.not_not, if_true, if_false, if_pos, if_neg] <;> omega), if_pos (by simp (disch := first | omega | assumption) only [fa_lit, nLE, nLT, nEQ, nI_add, nSA, nSUB, pk_mul, nDIV, nREM, nCL, fa_and, nx_xor, fa_or, nSHL, nSHR, nUS, n31, n255, Nat.and_one_is_mod, b_I, b_V, b_L, not_or, Nat.not_lt_zero, Nat.not_le, Nat.not_lt, not_false_eq_true, true_and, and_true, false_or, or_false, Classical.not_not, if_true, if_false, if_pos, if_neg] <;> omega), if_neg (by simp [c2])]; rfl
    · rw [if_pos (by simp (disch := first | omega | assumption) only [fa_lit, nLE, nLT, nEQ, nI_add, nSA, nSUB, pk_mul, nDIV, nREM, nCL, fa_and, nx_xor, fa_or, nSHL, nSHR, nUS, n31, n255, Nat.and_one_is_mod, b_I, b_V, b_L, not_or, Nat.not_lt_zero, Nat.not_le, Nat.not_lt, not_false_eq_true, true_and, and_true, false_or, or_false, Classical.not_not, if_true, if_false, if_pos, if_neg] <;> omega), if_neg (by simp [c1])]; rfl
  · rw [if_neg c, if_pos (by decide), if_neg (by simp [c])]; rfl
def nc (T : Nat → Nat) (L p : Nat) : Nat := if dg T L p then (if dg T L (p + 1) then (if dg T L (p + 2) then 3 else 2) else 1) else 0
def nvR (T : Nat → Nat) (p : Nat) : Nat → Nat
  | 0 => 0
  | k + 1 => 10 * nvR T p k + (T (p + k) - 48)
def nok (T : Nat → Nat) (L p : Nat) : Bool := decide (0 < nc T L p) && !dg T L (p + nc T L p)
theorem dg_iff {T : Nat → Nat} {L p : Nat} (h : dg T L p = true) : p < L ∧ 48 ≤ T p ∧ T p ≤ 57 := by
  unfold dg at h
  simp only [Bool.and_eq_true, decide_eq_true_eq] at h
  exact h
theorem nc_le (T : Nat → Nat) (L p : Nat) : nc T L p ≤ 3 := by
  unfold nc
  split
  · split
    · split <;> omega
    · omega
  · omega
theorem nc_dg (T : Nat → Nat) (L p : Nat) : ∀ k, k < nc T L p → dg T L (p + k) = true := by
  intro k hk
  unfold nc at hk
  by_cases c0 : dg T L p = true
  · rw [if_pos c0] at hk
    by_cases c1 : dg T L (p + 1) = true
    · rw [if_pos c1] at hk
      by_cases c2 : dg T L (p + 2) = true
      · rcases (show k = 0 ∨ k = 1 ∨ k = 2 by rw [if_pos c2] at hk; omega) with rfl | rfl | rfl
        · exact c0
        · exact c1
        · exact c2
      · rcases (show k = 0 ∨ k = 1 by rw [if_neg c2] at hk; omega) with rfl | rfl
        · exact c0
        · exact c1
    · rw [if_neg c1] at hk
      rw [show k = 0 by omega]
      exact c0
  · rw [if_neg c0] at hk; omega
theorem nc_nd (T : Nat → Nat) (L p : Nat) (h : nc T L p < 3) : dg T L (p + nc T L p) = false := by
  unfold nc at h ⊢
  by_cases c0 : dg T L p = true
  · rw [if_pos c0] at h ⊢
    by_cases c1 : dg T L (p + 1) = true
    · rw [if_pos c1] at h ⊢
      by_cases c2 : dg T L (p + 2) = true
      · rw [if_pos c2] at h; omega
      · rw [if_neg c2]; exact Bool.eq_false_iff.mpr c2
    · rw [if_neg c1]; exact Bool.eq_false_iff.mpr c1
  · rw [if_neg c0]; exact Bool.eq_false_iff.mpr c0
theorem nc_L {T : Nat → Nat} {L p : Nat} (hp : p ≤ L) : p + nc T L p ≤ L := by
  by_cases c : nc T L p = 0
  · omega
  · have := dg_iff (nc_dg T L p (nc T L p - 1) (by omega))
    omega
theorem nvR_le {T : Nat → Nat} {L p : Nat} : ∀ k, k ≤ nc T L p → nvR T p k ≤ 10 ^ k - 1
  | 0, _ => Nat.le_refl _
  | k + 1, hk => by
    have ih := nvR_le (T := T) (L := L) (p := p) k (by omega)
    have hd := dg_iff (nc_dg T L p k (by omega))
    have h3 := nc_le T L p
    rw [nvR]
    rcases (show k = 0 ∨ k = 1 ∨ k = 2 by omega) with rfl | rfl | rfl
    · simp at ih hd ⊢; omega
    · simp at ih ⊢; omega
    · simp at ih ⊢; omega
theorem nvR_999 (T : Nat → Nat) (L p : Nat) : nvR T p (nc T L p) ≤ 999 := by
  have h := nvR_le (T := T) (L := L) (p := p) (nc T L p) (Nat.le_refl _)
  have h3 := nc_le T L p
  rcases (show nc T L p = 0 ∨ nc T L p = 1 ∨ nc T L p = 2 ∨ nc T L p = 3 by omega) with e | e | e | e <;> rw [e] at h ⊢ <;> simp at h <;> omega
theorem X_number' {L p lo hi : Nat} {T : Nat → Nat} {σ : gM} (h : XT L T σ) (hL : L ≤ 280) (ha : σ.1 1 2 = nI p) (hp : p ≤ L) (hlo : lo < 1000) (hhi : hi < 1000) :
    ∃ σ', gk [] [2, 3, 4] σ σ' ∧ σ'.1 1 2 = nI (sk T L p + nc T L (sk T L p)) ∧
      ((nok T L (sk T L p) = true ∧ lo ≤ nvR T (sk T L p) (nc T L (sk T L p)) ∧ nvR T (sk T L p) (nc T L (sk T L p)) ≤ hi ∧ fX10_readNumber 1000 (nI lo) (nI hi) σ = some (1, σ') ∧ σ'.1 1 4 = nI (nvR T (sk T L p) (nc T L (sk T L p)))) ∨
       (nok T L (sk T L p) = true ∧ ¬ (lo ≤ nvR T (sk T L p) (nc T L (sk T L p)) ∧ nvR T (sk T L p) (nc T L (sk T L p)) ≤ hi) ∧ fX10_readNumber 1000 (nI lo) (nI hi) σ = some (0, σ') ∧ σ'.1 1 3 = nI (sk T L p + nc T L (sk T L p) - 1)) ∨
       (nok T L (sk T L p) = false ∧ fX10_readNumber 1000 (nI lo) (nI hi) σ = some (0, σ') ∧ σ'.1 1 3 = nI (sk T L p + nc T L (sk T L p)))) := by
  obtain ⟨σ1, e1, a1, f1⟩ := X_skip h hL ha hp
  have hle := sk_le (T := T) hp
  unfold fX10_readNumber
  rw [e1, b_V]
  generalize sk T L p = p1 at *
  have h1 := XT_gk h f1 (by simp) (by simp)
  have h3 := nc_le T L p1
  have hcL := nc_L (T := T) hle
  have h99 := nvR_999 T L p1
  have key : ∃ σ2, fX10_readNumber_L9 1000 1000 (nI lo) (nI hi) 0 0 σ1 = fX10_readNumber_b54 1000 (nI lo) (nI hi) (nI (nvR T p1 (nc T L p1))) (nI (nc T L p1)) σ2 ∧ σ2.1 1 2 = nI (p1 + nc T L p1) ∧ gk [] [2, 3, 4] σ σ2 := by
    refine lp (L := fun m k a => fX10_readNumber_L9 1000 m (nI lo) (nI hi) (nI (nvR T p1 k)) (nI k) a) (I := fun k a => a.1 1 2 = nI (p1 + k) ∧ gk [] [2, 3, 4] σ a) (Q := fun o => ∃ σ2, o = fX10_readNumber_b54 1000 (nI lo) (nI hi) (nI (nvR T p1 (nc T L p1))) (nI (nc T L p1)) σ2 ∧ σ2.1 1 2 = nI (p1 + nc T L p1) ∧ gk [] [2, 3, 4] σ σ2) (N := nc T L p1) ?_ ?_ (nc T L p1) 1000 0 σ1 (by omega) (by omega) ⟨a1, gk_mono f1 (by simp) (by simp)⟩
    · intro m k a hk hq
      obtain ⟨q1, q2⟩ := hq
      have ht := XT_gk h q2 (by simp) (by simp)
      have hd := nc_dg T L p1 k hk
      have hdi := dg_iff hd
      refine Or.inl ⟨g_put a 1 2 (nI (p1 + (k + 1))), ?_, gp_s _ _ _ _, gk_trans q2 (gk_put1 _ _ (by simp))⟩
      show fX10_readNumber_b9 1000 (fX10_readNumber_L9 1000 m) (nI lo) (nI hi) (nI (nvR T p1 k)) (nI k) a = _
      unfold fX10_readNumber_b9
      have ev : (10 : Int32) * nI (nvR T p1 k) + nI (T (p1 + k)) - 48 = nI (nvR T p1 (k + 1)) := by
        rw [show (10 : Int32) * nI (nvR T p1 k) = nI (10 * nvR T p1 k) from pk_mul 10 _, nI_add, show (48 : Int32) = nI 48 from rfl, nSUB (by omega), nvR]
        congr 1
        omega
      rw [if_neg (by simp (disch := first | omega | assumption) only [fa_lit, nLE, nLT, nEQ, nI_add, nSA, nSUB, pk_mul, nDIV, nREM, nCL, fa_and, nx_xor, fa_or, nSHL, nSHR, nUS, n31, n255, Nat.and_one_is_mod, b_I, b_V, b_L, not_or, Nat.not_lt_zero, Nat.not_le, Nat.not_lt, not_false_eq_true, true_and, and_true, false_or, or_false, Classical.not_not, if_true, if_false, if_pos, if_neg] <;> omega), X_sign ht hL q1 (by omega), b_I, X_isDigit ht, b_I, if_pos hd, if_neg (show ¬ nI 1 = 0 by decide), X_sign ht hL q1 (by omega), b_I, q1, b_L, sx, if_pos hdi.1, ev, show nI k + 1 = nI (k + 1) from nI_add k 1, show nI (p1 + k) + 1 = nI (p1 + (k + 1)) from nI_add _ 1]
    · intro m a hq
      obtain ⟨q1, q2⟩ := hq
      have ht := XT_gk h q2 (by simp) (by simp)
      refine ⟨a, ?_, q1, q2⟩
      show fX10_readNumber_b9 1000 (fX10_readNumber_L9 1000 m) (nI lo) (nI hi) (nI (nvR T p1 (nc T L p1))) (nI (nc T L p1)) a = _
      unfold fX10_readNumber_b9
      by_cases c : 3 ≤ nc T L p1
      · rw [if_pos (show (3 : Int32) ≤ nI (nc T L p1) by rw [show (3 : Int32) = nI 3 from rfl, nLE _ _ (by omega) (by omega)]; exact c)]
      · rw [if_neg (show ¬ (3 : Int32) ≤ nI (nc T L p1) by rw [show (3 : Int32) = nI 3 from rfl, nLE _ _ (by omega) (by omega)]; exact c), X_sign ht hL q1 hcL, b_I, X_isDigit ht, b_I, nc_nd T L p1 (by omega), if_pos (by decide)]
  obtain ⟨σ2, k1, k2, k3⟩ := key
  have h2 := XT_gk h k3 (by simp) (by simp)
  rw [k1]
  unfold fX10_readNumber_b54 fX10_readNumber_b69 fX10_readNumber_b88 fX10_wrong
  rw [X_sign h2 hL k2 hcL, b_I, X_isDigit h2, b_I, k2, b_L, b_I, if_pos (show (0 : Int32) &&& 1 = 0 by decide), b_L, b_I, if_pos (show (0 : Int32) &&& 1 = 0 by decide)]
  unfold nok
  by_cases c0 : nc T L p1 = 0
  · rw [if_pos (show nI (nc T L p1) = 0 by rw [c0]; rfl)]
    refine ⟨_, gk_trans k3 (gk_put1 _ _ (by simp)), by rw [gp_k, if_neg (by decide)]; exact k2, Or.inr (Or.inr ⟨by simp [c0], rfl, gp_s _ _ _ _⟩)⟩
  · rw [if_neg (show ¬ nI (nc T L p1) = 0 by rw [show (0 : Int32) = nI 0 from rfl, nEQ _ _ (by omega) (by omega)]; exact c0)]
    by_cases c1 : dg T L (p1 + nc T L p1) = true
    · rw [if_pos c1, if_neg (show ¬ nI 1 = 0 by decide)]
      refine ⟨_, gk_trans k3 (gk_put1 _ _ (by simp)), by rw [gp_k, if_neg (by decide)]; exact k2, Or.inr (Or.inr ⟨by simp [c1], rfl, gp_s _ _ _ _⟩)⟩
    · have ok : (decide (0 < nc T L p1) && !dg T L (p1 + nc T L p1)) = true := by
        have : 0 < nc T L p1 := by omega
        simp [c1, this]
      rw [if_neg c1, if_pos (show nI 0 = 0 from rfl), ok]
      by_cases c2 : nvR T p1 (nc T L p1) < lo
      · rw [if_pos (show nI (nvR T p1 (nc T L p1)) < nI lo by rw [nLT _ _ (by omega) (by omega)]; exact c2), show nI (p1 + nc T L p1) - 1 = nI (p1 + nc T L p1 - 1) from pk_sub (b := 1) (by omega)]
        exact ⟨_, gk_trans k3 (gk_put1 _ _ (by simp)), by rw [gp_k, if_neg (by decide)]; exact k2, Or.inr (Or.inl ⟨rfl, by omega, rfl, gp_s _ _ _ _⟩)⟩
      · rw [if_neg (show ¬ nI (nvR T p1 (nc T L p1)) < nI lo by rw [nLT _ _ (by omega) (by omega)]; exact c2)]
        by_cases c3 : nvR T p1 (nc T L p1) ≤ hi
        · rw [if_pos (show nI (nvR T p1 (nc T L p1)) ≤ nI hi by rw [nLE _ _ (by omega) (by omega)]; exact c3), b_L]
          exact ⟨_, gk_trans k3 (gk_put1 _ _ (by simp)), by rw [gp_k, if_neg (by decide)]; exact k2, Or.inl ⟨rfl, by omega, c3, rfl, gp_s _ _ _ _⟩⟩
        · rw [if_neg (show ¬ nI (nvR T p1 (nc T L p1)) ≤ nI hi by rw [nLE _ _ (by omega) (by omega)]; exact c3), show nI (p1 + nc T L p1) - 1 = nI (p1 + nc T L p1 - 1) from pk_sub (b := 1) (by omega)]
          exact ⟨_, gk_trans k3 (gk_put1 _ _ (by simp)), by rw [gp_k, if_neg (by decide)]; exact k2, Or.inr (Or.inl ⟨rfl, by omega, rfl, gp_s _ _ _ _⟩)⟩
theorem M_fails {f : Int32} {σ : gM} (h : σ.1 0 4 = -1) (ha : σ.1 0 3 = f) : fX12_fails σ = some (g_put σ 0 4 f) := by
  unfold fX12_fails
  rw [if_pos h, b_L, ha]
theorem M_digit {L p : Nat} {T : Nat → Nat} {σ : gM} (h : MT L T σ) (hL : L ≤ 280) (ha : σ.1 0 3 = nI p) (hp : p ≤ L) (hf : σ.1 0 4 = -1) :
    ∃ σ', gj [] [3, 4] σ σ' ∧ ((dg T L (sk T L p) = true ∧ fX12_digit 1000 σ = some (nI (T (sk T L p) - 48), σ') ∧ σ'.1 0 3 = nI (sk T L p + 1) ∧ σ'.1 0 4 = -1) ∨ (dg T L (sk T L p) = false ∧ fX12_digit 1000 σ = some (0, σ') ∧ σ'.1 0 3 = nI (sk T L p) ∧ σ'.1 0 4 = nI (sk T L p))) := by
  obtain ⟨σ1, e1, a1, f1⟩ := M_look h hL ha hp
  have hle := sk_le (T := T) hp
  have h1 := MT_gj h f1 (by simp) (by simp)
  have hf1 : σ1.1 0 4 = -1 := by rw [f1.2.1 4 (by simp)]; exact hf
  unfold fX12_digit fX12_digit_b20
  rw [e1, b_I, if_pos hf1, M_isDigit h1 hL a1 hle, b_I, M_fails hf1 a1, b_V]
  by_cases c : dg T L (sk T L p) = true
  · have hd := dg_iff c
    rw [if_pos c, if_neg (show ¬ nI 1 = 0 by decide), a1, b_L, hr, if_pos hd.1, show nI (T (sk T L p)) - 48 = nI (T (sk T L p) - 48) from pk_sub (b := 48) hd.2.1, show nI (sk T L p) + 1 = nI (sk T L p + 1) from nI_add _ 1]
    refine ⟨_, gj_trans (gj_mono f1 (by simp) (by simp)) (gj_put0 _ _ (by simp)), Or.inl ⟨c, rfl, gp_s _ _ _ _, ?_⟩⟩
    rw [gp_k, if_neg (by decide)]
    exact hf1
  · rw [if_neg c, if_pos (show nI 0 = 0 from rfl)]
    refine ⟨_, gj_trans (gj_mono f1 (by simp) (by simp)) (gj_put0 _ _ (by simp)), Or.inr ⟨Bool.eq_false_iff.mpr c, rfl, ?_, gp_s _ _ _ _⟩⟩
    rw [gp_k, if_neg (by decide)]
    exact a1
theorem dg_nb {T : Nat → Nat} {L p : Nat} (h : dg T L p = true) : sk T L p = p := by
  have hd := dg_iff h
  apply sk_id
  unfold bl
  have : T p ≠ 32 := by omega
  simp [this]
theorem M_number {L p : Nat} {T : Nat → Nat} {σ : gM} (h : MT L T σ) (hL : L ≤ 280) (ha : σ.1 0 3 = nI p) (hp : p ≤ L) (hf : σ.1 0 4 = -1) :
    ∃ σ', gj [] [3, 4] σ σ' ∧ σ'.1 0 3 = nI (sk T L p + nc T L (sk T L p)) ∧ fX12_number 1000 σ = some (nI (nvR T (sk T L p) (nc T L (sk T L p))), σ') ∧ σ'.1 0 4 = if nok T L (sk T L p) = true then -1 else nI (sk T L p + nc T L (sk T L p)) := by
  obtain ⟨σ1, f1, r1⟩ := M_digit h hL ha hp hf
  have hle := sk_le (T := T) hp
  have h1 := MT_gj h f1 (by simp) (by simp)
  unfold fX12_number
  generalize sk T L p = p1 at *
  have h3 := nc_le T L p1
  have hcL := nc_L (T := T) hle
  rcases r1 with ⟨d1, e1, a1, g1⟩ | ⟨d1, e1, a1, g1⟩
  · have hn1 : 1 ≤ nc T L p1 := by
      unfold nc
      rw [if_pos d1]
      split
      · split <;> omega
      · omega
    have fin : ∀ a : gM, a.1 0 3 = nI (p1 + nc T L p1) → a.1 0 4 = -1 → gj [] [3, 4] σ a → ∃ σ', gj [] [3, 4] σ σ' ∧ σ'.1 0 3 = nI (p1 + nc T L p1) ∧ fX12_number_b43 1000 (nI (nvR T p1 (nc T L p1))) a = some (nI (nvR T p1 (nc T L p1)), σ') ∧ σ'.1 0 4 = if nok T L p1 = true then -1 else nI (p1 + nc T L p1) := by
      intro a q1 q2 q3
      have hta := MT_gj h q3 (by simp) (by simp)
      unfold fX12_number_b43 fX12_number_b62 nok
      rw [if_pos q2, M_isDigit hta hL q1 hcL, b_I, M_fails q2 q1, b_V]
      by_cases c : dg T L (p1 + nc T L p1) = true
      · rw [if_pos c, if_neg (show ¬ nI 1 = 0 by decide), if_neg (by simp [c])]
        exact ⟨_, gj_trans q3 (gj_put0 _ _ (by simp)), by rw [gp_k, if_neg (by decide)]; exact q1, rfl, gp_s _ _ _ _⟩
      · have h0 : 0 < nc T L p1 := by omega
        rw [if_neg c, if_pos (show nI 0 = 0 from rfl), if_pos (by simp [c, h0])]
        exact ⟨a, q3, q1, rfl, q2⟩
    rw [e1, b_I]
    have e0 : fX12_number_L7 1000 1000 (nI (T p1 - 48)) 1 σ1 = fX12_number_L7 1000 1000 (nI (nvR T p1 (1 + 0))) (nI (1 + 0)) σ1 := by
      have ev : nvR T p1 (1 + 0) = T p1 - 48 := by
        show 10 * 0 + (T (p1 + 0) - 48) = T p1 - 48
        rw [Nat.add_zero]; omega
      rw [ev]
      exact congrArg (fun y => fX12_number_L7 1000 1000 (nI (T p1 - 48)) y σ1) (show (1 : Int32) = nI (1 + 0) from rfl)
    rw [e0]
    refine lp (L := fun m k a => fX12_number_L7 1000 m (nI (nvR T p1 (1 + k))) (nI (1 + k)) a) (I := fun k a => a.1 0 3 = nI (p1 + (1 + k)) ∧ a.1 0 4 = -1 ∧ gj [] [3, 4] σ a) (Q := fun o => ∃ σ', gj [] [3, 4] σ σ' ∧ σ'.1 0 3 = nI (p1 + nc T L p1) ∧ o = some (nI (nvR T p1 (nc T L p1)), σ') ∧ σ'.1 0 4 = if nok T L p1 = true then -1 else nI (p1 + nc T L p1)) (N := nc T L p1 - 1) ?_ ?_ (nc T L p1 - 1) 1000 0 σ1 (by omega) (by omega) ⟨a1, g1, f1⟩
    · intro m k a hk hq
      obtain ⟨q1, q2, q3⟩ := hq
      have hta := MT_gj h q3 (by simp) (by simp)
      have hd := nc_dg T L p1 (1 + k) (by omega)
      have hdi := dg_iff hd
      obtain ⟨a2, u1, u2⟩ := M_digit hta hL q1 (by omega) q2
      rw [dg_nb hd] at u2
      rcases u2 with ⟨v1, v2, v3, v4⟩ | ⟨v1, _⟩
      · refine Or.inl ⟨a2, ?_, by rw [v3, Nat.add_assoc]; rfl, v4, gj_trans q3 u1⟩
        show fX12_number_b7 1000 (fX12_number_L7 1000 m) (nI (nvR T p1 (1 + k))) (nI (1 + k)) a = _
        unfold fX12_number_b7
        have ev : (10 : Int32) * nI (nvR T p1 (1 + k)) + nI (T (p1 + (1 + k)) - 48) = nI (nvR T p1 (1 + (k + 1))) := by
          rw [show (10 : Int32) * nI (nvR T p1 (1 + k)) = nI (10 * nvR T p1 (1 + k)) from pk_mul 10 _, nI_add]
          rfl
        rw [if_neg (by simp (disch := first | omega | assumption) only [fa_lit, nLE, nLT, nEQ, nI_add, nSA, nSUB, pk_mul, nDIV, nREM, nCL, fa_and, nx_xor, fa_or, nSHL, nSHR, nUS, n31, n255, Nat.and_one_is_mod, b_I, b_V, b_L, not_or, Nat.not_lt_zero, Nat.not_le, Nat.not_lt, not_false_eq_true, true_and, and_true, false_or, or_false, Classical.not_not, if_true, if_false, if_pos, if_neg] <;> omega), if_pos q2, M_isDigit hta hL q1 (by omega), b_I, if_pos hd, if_neg (show ¬ nI 1 = 0 by decide), v2, b_I, ev, show nI (1 + k) + 1 = nI (1 + (k + 1)) from nI_add _ 1]
      · rw [hd] at v1; cases v1
    · intro m a hq
      obtain ⟨q1, q2, q3⟩ := hq
      rw [show 1 + (nc T L p1 - 1) = nc T L p1 by omega] at q1
      have hta := MT_gj h q3 (by simp) (by simp)
      show ∃ σ', gj [] [3, 4] σ σ' ∧ σ'.1 0 3 = nI (p1 + nc T L p1) ∧ fX12_number_b7 1000 (fX12_number_L7 1000 m) (nI (nvR T p1 (1 + (nc T L p1 - 1)))) (nI (1 + (nc T L p1 - 1))) a = some (nI (nvR T p1 (nc T L p1)), σ') ∧ _
      rw [show 1 + (nc T L p1 - 1) = nc T L p1 by omega]
      unfold fX12_number_b7
      by_cases c : 3 ≤ nc T L p1
      · rw [if_pos (show (3 : Int32) ≤ nI (nc T L p1) by rw [show (3 : Int32) = nI 3 from rfl, nLE _ _ (by omega) (by omega)]; exact c)]
        exact fin a q1 q2 q3
      · rw [if_neg (show ¬ (3 : Int32) ≤ nI (nc T L p1) by rw [show (3 : Int32) = nI 3 from rfl, nLE _ _ (by omega) (by omega)]; exact c), if_pos q2, M_isDigit hta hL q1 hcL, b_I, nc_nd T L p1 (by omega), if_pos (by decide)]
        exact fin a q1 q2 q3
  · have hn0 : nc T L p1 = 0 := by
      unfold nc
      rw [d1]; rfl
    have hno : ¬ nok T L p1 = true := by
      unfold nok
      simp [hn0]
    rw [e1, b_I, hn0, Nat.add_zero, if_neg hno]
    have n4 : ¬ σ1.1 0 4 = -1 := by rw [g1]; exact nM1 (by omega)
    refine ⟨σ1, f1, a1, ?_, g1⟩
    refine lp (L := fun m _ (_ : Unit) => fX12_number_L7 1000 m 0 1 σ1) (I := fun _ _ => True) (Q := fun o => o = some (nI (nvR T p1 0), σ1)) (N := 0) (fun _ _ _ h _ => absurd h (Nat.not_lt_zero _)) ?_ 0 1000 0 () rfl (by omega) trivial
    intro m _ _
    show fX12_number_b7 1000 (fX12_number_L7 1000 m) 0 1 σ1 = _
    unfold fX12_number_b7 fX12_number_b43 fX12_number_b62
    rw [if_neg (by decide), if_neg n4, if_neg n4]
    rfl
