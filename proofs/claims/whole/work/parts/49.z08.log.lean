/-! rows copied; the log; the history -/
theorem gr_k (σ : gM) (k : Nat) (f : Nat → Int32) : (g_row σ k f).1 k = f := by simp [g_row]
theorem gr_o {σ : gM} {k : Nat} {f : Nat → Int32} {p : Nat} (h : p ≠ k) : (g_row σ k f).1 p = σ.1 p := by simp [g_row, h]
theorem fr_row {L : List Nat} (σ : gM) {k : Nat} (f : Nat → Int32) (h : k ∈ L) : fr L σ (g_row σ k f) := by
  refine ⟨fun p hp => ?_, rfl⟩
  exact gr_o (fun e => hp (e ▸ h))
theorem MS_copy {C : Nat} {s : Sh} {A A' : Nat → Int32} {o o' : Nat} (hC : C ≤ 4) (h : MS C s A o) (e : ∀ k, k < 616 → A' (o' + k) = A (o + k)) : MS C s A' o' := by
  refine ⟨?_, ?_, ?_, ?_, ?_, ?_, ?_, ?_, ?_, ?_, ?_, ?_, ?_, ?_, ?_, ?_, ?_, ?_⟩
  · intro d t b hd ht hb hl
    rw [e _ (by omega)]; exact h.byt d t b hd ht hb hl
  · intro d hd; rw [e _ (by omega)]; exact h.how d hd
  · intro d hd q; rw [e _ (by omega)]; exact h.don d hd q
  · intro d hd; rw [e _ (by omega)]; exact h.rd d hd
  · intro d hd; rw [e _ (by omega)]; exact h.wr d hd
  · intro d hd; rw [e _ (by omega)]; exact h.md d hd
  · rw [e _ (by omega)]; exact h.sp
  · rw [e _ (by omega)]; exact h.di
  · rw [e _ (by omega)]; exact h.nx
  · rw [e _ (by omega)]; exact h.rds
  · rw [e _ (by omega)]; exact h.wrs
  · rw [e _ (by omega)]; exact h.mds
  · rw [e _ (by omega)]; exact h.op
  · rw [e _ (by omega)]; exact h.ps
  · rw [e _ (by omega)]; exact h.l0
  · rw [e _ (by omega)]; exact h.l1
  · rw [e _ (by omega)]; exact h.l2
  · intro k hk; rw [e _ (by omega)]; exact h.lo k hk
theorem XS_copy {C : Nat} {s : Sh} {A A' : Nat → Int32} (h : XS C s A) (e : ∀ k, k < 144 → A' k = A k) : XS C s A' := by
  refine ⟨?_, ?_, ?_, ?_, ?_, ?_, ?_, ?_, ?_, ?_, ?_, ?_, ?_, ?_⟩
  · intro d t b hd ht hb hl
    unfold rb
    rw [e _ (by omega)]; exact h.byt d t b hd ht hb hl
  · intro d hd; rw [e _ (by omega)]; exact h.how d hd
  · intro d hd; rw [e _ (by omega)]; exact h.don d hd
  · intro d hd; rw [e _ (by omega)]; exact h.rd d hd
  · intro d hd; rw [e _ (by omega)]; exact h.wr d hd
  · intro d hd; rw [e _ (by omega)]; exact h.md d hd
  · rw [e _ (by omega)]; exact h.sp
  · rw [e _ (by omega)]; exact h.op
  · rw [e _ (by omega)]; exact h.ps
  · rw [e _ (by omega)]; exact h.nx
  · rw [e _ (by omega)]; exact h.di
  · rw [e _ (by omega)]; exact h.l0
  · rw [e _ (by omega)]; exact h.l1
  · rw [e _ (by omega)]; exact h.l2
theorem M_copyRow {n w nw u nu f t : Nat} {σ : gM} (hn : 700 ≤ n) (hwu : w ≠ u) (hf : f + 616 ≤ nw) (ht : t + 616 ≤ nu) (hw : nw < 100000) (hu : nu < 100000) :
    ∃ σ', fX12_copyRow n w nw u nu (nI f) (nI t) σ = some σ' ∧ (∀ k, k < 616 → σ'.1 u (t + k) = σ.1 w (f + k)) ∧ (∀ j, (j < t ∨ t + 616 ≤ j) → σ'.1 u j = σ.1 u j) ∧ fr [u] σ σ' := by
  unfold fX12_copyRow
  refine lp (L := fun m k a => fX12_copyRow_L3 n w nw u nu m (nI f) (nI t) (nI k) a) (I := fun k a => (∀ j, j < k → a.1 u (t + j) = σ.1 w (f + j)) ∧ (∀ j, (j < t ∨ t + k ≤ j) → a.1 u j = σ.1 u j) ∧ fr [u] σ a) (Q := fun o => ∃ σ', o = some σ' ∧ (∀ k, k < 616 → σ'.1 u (t + k) = σ.1 w (f + k)) ∧ (∀ j, (j < t ∨ t + 616 ≤ j) → σ'.1 u j = σ.1 u j) ∧ fr [u] σ σ') (N := 616) ?_ ?_ 616 n 0 σ (by omega) (by omega) ⟨fun j hj => absurd hj (Nat.not_lt_zero _), fun _ _ => rfl, fr_refl _ _⟩
  · intro m k a hk ha
    obtain ⟨a1, a2, a3⟩ := ha
    refine Or.inl ⟨g_put a u (t + k) (a.1 w (f + k)), ?_, ?_, ?_, fr_trans a3 (fr_put _ _ _ (by simp))⟩
    · show fX12_copyRow_b3 n w nw u nu (fX12_copyRow_L3 n w nw u nu m) (nI f) (nI t) (nI k) a = _
      unfold fX12_copyRow_b3
      rw [if_neg (by simp (disch := first | omega | assumption) only [fa_lit, nLE, nLT, nEQ, nI_add, nSA, nSUB, pk_mul, nDIV, nREM, nCL, fa_and, nx_xor, fa_or, nSHL, nSHR, nUS, n31, n255, Nat.and_one_is_mod, b_I, b_V, b_L, not_or, Nat.not_lt_zero, Nat.not_le, Nat.not_lt, not_false_eq_true, true_and, and_true, false_or, or_false, Classical.not_not, if_true, if_false, if_pos, if_neg] <;> omega), nI_add, nI_add, nCL (by omega), nCL (by omega), if_pos (by simp (disch := first | omega | assumption) only [fa_lit, nLE, nLT, nEQ, nI_add, nSA, nSUB, pk_mul, nDIV, nREM, nCL, fa_and, nx_xor, fa_or, nSHL, nSHR, nUS, n31, n255, Nat.and_one_is_mod, b_I, b_V, b_L, not_or, Nat.not_lt_zero, Nat.not_le, Nat.not_lt, not_false_eq_true, true_and, and_true, false_or, or_false, Classical.not_not, if_true, if_false, if_pos, if_neg] <;> omega), if_pos (by simp (disch := first | omega | assumption) only [fa_lit, nLE, nLT, nEQ, nI_add, nSA, nSUB, pk_mul, nDIV, nREM, nCL, fa_and, nx_xor, fa_or, nSHL, nSHR, nUS, n31, n255, Nat.and_one_is_mod, b_I, b_V, b_L, not_or, Nat.not_lt_zero, Nat.not_le, Nat.not_lt, not_false_eq_true, true_and, and_true, false_or, or_false, Classical.not_not, if_true, if_false, if_pos, if_neg] <;> omega), b_L, show nI k + 1 = nI (k + 1) from nI_add k 1]
    · intro j hj
      rw [gp_k]
      by_cases c : j = k
      · rw [if_pos (by omega), c, a3.1 w (by simp; exact hwu)]
      · rw [if_neg (by omega)]; exact a1 j (by omega)
    · intro j hj
      rw [gp_k, if_neg (by omega)]
      exact a2 j (by omega)
  · intro m a ha
    obtain ⟨a1, a2, a3⟩ := ha
    refine ⟨a, ?_, a1, a2, a3⟩
    show fX12_copyRow_b3 n w nw u nu (fX12_copyRow_L3 n w nw u nu m) (nI f) (nI t) (nI 616) a = _
    unfold fX12_copyRow_b3
    rw [if_pos (by simp (disch := first | omega | assumption) only [fa_lit, nLE, nLT, nEQ, nI_add, nSA, nSUB, pk_mul, nDIV, nREM, nCL, fa_and, nx_xor, fa_or, nSHL, nSHR, nUS, n31, n255, Nat.and_one_is_mod, b_I, b_V, b_L, not_or, Nat.not_lt_zero, Nat.not_le, Nat.not_lt, not_false_eq_true, true_and, and_true, false_or, or_false, Classical.not_not, if_true, if_false, if_pos, if_neg] <;> omega)]
theorem X_copy {i j : Nat} (σ : gM) : fX9_copy i j σ = some (g_row σ (11 + 5 * i) (va_cpy (σ.1 (11 + 5 * j)) (σ.1 (11 + 5 * i)) 0 0 144)) := rfl
theorem XS_cpy {C i j : Nat} {s : Sh} {σ : gM} (h : XS C s (σ.1 (11 + 5 * j))) : XS C s ((g_row σ (11 + 5 * i) (va_cpy (σ.1 (11 + 5 * j)) (σ.1 (11 + 5 * i)) 0 0 144)).1 (11 + 5 * i)) := by
  rw [gr_k]
  refine XS_copy h (fun k hk => ?_)
  unfold va_cpy
  rw [if_pos (by omega), show 0 + (k - 0) = k by omega]
theorem X_save {i r : Nat} (σ : gM) (hr : r < 40) : fX9_saveTo i (nI (r * 144)) σ = some (g_row σ 30 (va_cpy (σ.1 (11 + 5 * i)) (σ.1 30) 0 (r * 144) 144)) := by
  unfold fX9_saveTo
  have e1 : ((5760 : Int32) - 144) = nI 5616 := rfl
  have e2 : (0 : Int32).toNatClampNeg = 0 := rfl
  have e3 : (144 : Int32).toNatClampNeg = 144 := rfl
  rw [e1, e2, e3, nCL (by omega), if_neg (by simp (disch := first | omega | assumption) only [fa_lit, nLE, nLT, nEQ, nI_add, nSA, nSUB, pk_mul, nDIV, nREM, nCL, fa_and, nx_xor, fa_or, nSHL, nSHR, nUS, n31, n255, Nat.and_one_is_mod, b_I, b_V, b_L, not_or, Nat.not_lt_zero, Nat.not_le, Nat.not_lt, not_false_eq_true, true_and, and_true, false_or, or_false, Classical.not_not, if_true, if_false, if_pos, if_neg] <;> omega), if_neg (by simp (disch := first | omega | assumption) only [fa_lit, nLE, nLT, nEQ, nI_add, nSA, nSUB, pk_mul, nDIV, nREM, nCL, fa_and, nx_xor, fa_or, nSHL, nSHR, nUS, n31, n255, Nat.and_one_is_mod, b_I, b_V, b_L, not_or, Nat.not_lt_zero, Nat.not_le, Nat.not_lt, not_false_eq_true, true_and, and_true, false_or, or_false, Classical.not_not, if_true, if_false, if_pos, if_neg] <;> omega), if_pos (by decide), if_pos (by simp (disch := first | omega | assumption) only [fa_lit, nLE, nLT, nEQ, nI_add, nSA, nSUB, pk_mul, nDIV, nREM, nCL, fa_and, nx_xor, fa_or, nSHL, nSHR, nUS, n31, n255, Nat.and_one_is_mod, b_I, b_V, b_L, not_or, Nat.not_lt_zero, Nat.not_le, Nat.not_lt, not_false_eq_true, true_and, and_true, false_or, or_false, Classical.not_not, if_true, if_false, if_pos, if_neg] <;> omega), if_pos (by decide), if_pos (by omega), if_pos (by omega), b_L]
theorem X_load_row {i r : Nat} (σ : gM) (hr : r < 40) : fX9_loadFrom i (nI (r * 144)) σ = some (g_row σ (11 + 5 * i) (va_cpy (σ.1 30) (σ.1 (11 + 5 * i)) (r * 144) 0 144)) := by
  unfold fX9_loadFrom
  have e1 : ((5760 : Int32) - 144) = nI 5616 := rfl
  have e2 : (0 : Int32).toNatClampNeg = 0 := rfl
  have e3 : (144 : Int32).toNatClampNeg = 144 := rfl
  rw [e1, e2, e3, nCL (by omega), if_neg (by simp (disch := first | omega | assumption) only [fa_lit, nLE, nLT, nEQ, nI_add, nSA, nSUB, pk_mul, nDIV, nREM, nCL, fa_and, nx_xor, fa_or, nSHL, nSHR, nUS, n31, n255, Nat.and_one_is_mod, b_I, b_V, b_L, not_or, Nat.not_lt_zero, Nat.not_le, Nat.not_lt, not_false_eq_true, true_and, and_true, false_or, or_false, Classical.not_not, if_true, if_false, if_pos, if_neg] <;> omega), if_neg (by simp (disch := first | omega | assumption) only [fa_lit, nLE, nLT, nEQ, nI_add, nSA, nSUB, pk_mul, nDIV, nREM, nCL, fa_and, nx_xor, fa_or, nSHL, nSHR, nUS, n31, n255, Nat.and_one_is_mod, b_I, b_V, b_L, not_or, Nat.not_lt_zero, Nat.not_le, Nat.not_lt, not_false_eq_true, true_and, and_true, false_or, or_false, Classical.not_not, if_true, if_false, if_pos, if_neg] <;> omega), if_pos (by simp (disch := first | omega | assumption) only [fa_lit, nLE, nLT, nEQ, nI_add, nSA, nSUB, pk_mul, nDIV, nREM, nCL, fa_and, nx_xor, fa_or, nSHL, nSHR, nUS, n31, n255, Nat.and_one_is_mod, b_I, b_V, b_L, not_or, Nat.not_lt_zero, Nat.not_le, Nat.not_lt, not_false_eq_true, true_and, and_true, false_or, or_false, Classical.not_not, if_true, if_false, if_pos, if_neg] <;> omega), if_pos (by decide), if_pos (by decide), if_pos (by omega), if_pos (by omega), b_L]
theorem X_sum8 {C n i o : Nat} {f : Nat → Nat} {σ : gM} (hn : 20 ≤ n) (ho : o + 8 ≤ 144) (h : ∀ d, d < 8 → σ.1 (11 + 5 * i) (o + d) = nI (f d)) : fX9_sumOfDisks n i (nI o) σ = some (nI (s8 f), σ) := by
  unfold fX9_sumOfDisks
  have key : ∀ k, k ≤ 8 → True := fun _ _ => trivial
  let g : Nat → Nat := fun k => ([0, f 0, f 0 + f 1, f 0 + f 1 + f 2, f 0 + f 1 + f 2 + f 3, f 0 + f 1 + f 2 + f 3 + f 4, f 0 + f 1 + f 2 + f 3 + f 4 + f 5, f 0 + f 1 + f 2 + f 3 + f 4 + f 5 + f 6, s8 f] : List Nat).getD k 0
  have hg : ∀ k, k < 8 → g k + f k = g (k + 1) := by
    intro k hk
    rcases (show k = 0 ∨ k = 1 ∨ k = 2 ∨ k = 3 ∨ k = 4 ∨ k = 5 ∨ k = 6 ∨ k = 7 by omega) with rfl | rfl | rfl | rfl | rfl | rfl | rfl | rfl
    · show 0 + f 0 = f 0
      omega
    all_goals rfl
  refine lp (L := fun m k (q : Int32) => fX9_sumOfDisks_L4 n i m (nI o) q (nI k) σ) (I := fun k q => q = nI (g k)) (Q := fun o => o = some (nI (s8 f), σ)) (N := 8) ?_ ?_ 8 n 0 0 (by omega) (by omega) rfl
  · intro m k q hk hq
    subst hq
    refine Or.inl ⟨nI (g (k + 1)), ?_, rfl⟩
    show fX9_sumOfDisks_b4 n i (fX9_sumOfDisks_L4 n i m) (nI o) (nI (g k)) (nI k) σ = _
    unfold fX9_sumOfDisks_b4
    rw [if_neg (by simp (disch := first | omega | assumption) only [fa_lit, nLE, nLT, nEQ, nI_add, nSA, nSUB, pk_mul, nDIV, nREM, nCL, fa_and, nx_xor, fa_or, nSHL, nSHR, nUS, n31, n255, Nat.and_one_is_mod, b_I, b_V, b_L, not_or, Nat.not_lt_zero, Nat.not_le, Nat.not_lt, not_false_eq_true, true_and, and_true, false_or, or_false, Classical.not_not, if_true, if_false, if_pos, if_neg] <;> omega), nI_add, X_get (by omega), b_I, h k hk, nI_add, hg k hk, show nI k + 1 = nI (k + 1) from nI_add k 1]
  · intro m q hq
    subst hq
    show fX9_sumOfDisks_b4 n i (fX9_sumOfDisks_L4 n i m) (nI o) (nI (g 8)) (nI 8) σ = _
    unfold fX9_sumOfDisks_b4
    rw [if_pos (by decide)]
    rfl
def cst (s : Sh) : Nat := s8 s.rd + s8 s.wr
theorem X_cost {C n i : Nat} {s : Sh} {σ : gM} (hn : 20 ≤ n) (h : XS C s (σ.1 (11 + 5 * i))) : fX9_costEver n i σ = some (nI (cst s), σ) := by
  unfold fX9_costEver
  rw [show (112 : Int32) = nI 112 from rfl, show (120 : Int32) = nI 120 from rfl, X_sum8 (C := C) hn (by omega) h.rd, b_I, X_sum8 (C := C) hn (by omega) h.wr, b_I, nI_add]
  rfl
theorem M_cost {C w : Nat} {s : Sh} {σ : gM} (h : MS C s (σ.1 w) 0) : fX12_costs w σ = some (nI (cst s), σ) := by
  have a := h.rds
  have b := h.wrs
  rw [Nat.zero_add] at a b
  unfold fX12_costs
  rw [a, b, nI_add]
  rfl
/-- the log of the reference, in its row -/
def LO (E : Nat → Nat → Int32) (a : Nat) (lo : Nat → Int32) : Prop := lo 0 = nI (min a 60) ∧ ∀ i c, i < min a 60 → c < 3 → lo (1 + 3 * i + c) = E (a - min a 60 + i) c
/-- the log of the class -/
def XL (E : Nat → Nat → Int32) (a h j : Nat) (σ : gM) : Prop := σ.1 (25 + 2 * j) 1 = nI a ∧ ∀ k c, k < a → a ≤ k + 60 + h → c < 3 → σ.1 (26 + 2 * j) (3 * (k % 100) + c) = E k c
def eU (E : Nat → Nat → Int32) (a : Nat) (x y z : Int32) : Nat → Nat → Int32 := fun k c => if k = a then (if c = 0 then x else if c = 1 then y else z) else E k c
theorem eU_o {E : Nat → Nat → Int32} {a k : Nat} {x y z : Int32} (h : k ≠ a) (c : Nat) : eU E a x y z k c = E k c := if_neg h
theorem LO_ext {E E' : Nat → Nat → Int32} {a : Nat} {lo : Nat → Int32} (h : LO E a lo) (e : ∀ k c, k < a → E' k c = E k c) : LO E' a lo := by
  refine ⟨h.1, fun i c hi hc => ?_⟩
  rw [h.2 i c hi hc, e _ _ (by omega)]
theorem X_add_log {E : Nat → Nat → Int32} {a h h' : Nat} {x y z : Int32} {σ : gM} (hL : XL E a h 0 σ) (ha : a < 1000000) (h1 : h' ≤ h + 1) (h2 : h' ≤ 40) :
    ∃ σ', fX3_add 0 x y z σ = some σ' ∧ XL (eU E a x y z) (a + 1) h' 0 σ' ∧ fr [25, 26] σ σ' := by
  obtain ⟨l1, l2⟩ := hL
  have l1 : σ.1 25 1 = nI a := l1
  have hm : a % 100 < 100 := Nat.mod_lt _ (by decide)
  unfold fX3_add
  show ∃ σ', g_bI (fJ9_floorMod_7cf53 (σ.1 25 1) 100 σ) _ = some σ' ∧ _
  have e3 : (3 : Int32) * nI (a % 100) = nI (3 * (a % 100)) := pk_mul 3 _
  have f1 : fr [25, 26] σ (g_put (g_put (g_put (g_put σ 26 (3 * (a % 100)) x) 26 (3 * (a % 100) + 1) y) 26 (3 * (a % 100) + 2) z) 25 1 (nI (a + 1))) :=
    fr_trans (fr_trans (fr_trans (fr_put _ _ _ (by simp)) (fr_put _ _ _ (by simp))) (fr_put _ _ _ (by simp))) (fr_put _ _ _ (by simp))
  have e25 : (g_put (g_put (g_put σ 26 (3 * (a % 100)) x) 26 (3 * (a % 100) + 1) y) 26 (3 * (a % 100) + 2) z).1 25 1 = nI a := by
    rw [gp_o (by decide), gp_o (by decide), gp_o (by decide), l1]
  refine ⟨g_put (g_put (g_put (g_put σ 26 (3 * (a % 100)) x) 26 (3 * (a % 100) + 1) y) 26 (3 * (a % 100) + 2) z) 25 1 (nI (a + 1)), ?_, ⟨gp_s _ _ _ _, ?_⟩, f1⟩
  · rw [l1, show (100 : Int32) = nI 100 from rfl, fm_pos (by omega) (by omega) (by omega), b_I]
    show (if ¬ (3 * nI (a % 100) < 0 ∨ _) then _ else _) = _
    rw [e3, show nI (3 * (a % 100)) + 1 = nI (3 * (a % 100) + 1) from nI_add _ 1, show nI (3 * (a % 100)) + 2 = nI (3 * (a % 100) + 2) from nI_add _ 2, nCL (by omega), nCL (by omega), nCL (by omega), if_pos (by simp (disch := first | omega | assumption) only [fa_lit, nLE, nLT, nEQ, nI_add, nSA, nSUB, pk_mul, nDIV, nREM, nCL, fa_and, nx_xor, fa_or, nSHL, nSHR, nUS, n31, n255, Nat.and_one_is_mod, b_I, b_V, b_L, not_or, Nat.not_lt_zero, Nat.not_le, Nat.not_lt, not_false_eq_true, true_and, and_true, false_or, or_false, Classical.not_not, if_true, if_false, if_pos, if_neg] <;> omega), b_L, if_pos (by simp (disch := first | omega | assumption) only [fa_lit, nLE, nLT, nEQ, nI_add, nSA, nSUB, pk_mul, nDIV, nREM, nCL, fa_and, nx_xor, fa_or, nSHL, nSHR, nUS, n31, n255, Nat.and_one_is_mod, b_I, b_V, b_L, not_or, Nat.not_lt_zero, Nat.not_le, Nat.not_lt, not_false_eq_true, true_and, and_true, false_or, or_false, Classical.not_not, if_true, if_false, if_pos, if_neg] <;> omega), b_L, if_pos (by simp (disch := first | omega | assumption) only [fa_lit, nLE, nLT, nEQ, nI_add, nSA, nSUB, pk_mul, nDIV, nREM, nCL, fa_and, nx_xor, fa_or, nSHL, nSHR, nUS, n31, n255, Nat.and_one_is_mod, b_I, b_V, b_L, not_or, Nat.not_lt_zero, Nat.not_le, Nat.not_lt, not_false_eq_true, true_and, and_true, false_or, or_false, Classical.not_not, if_true, if_false, if_pos, if_neg] <;> omega), b_L, e25, show nI a + 1 = nI (a + 1) from nI_add a 1, b_L]
  · intro k c hk hr hc
    show (g_put (g_put (g_put (g_put σ 26 (3 * (a % 100)) x) 26 (3 * (a % 100) + 1) y) 26 (3 * (a % 100) + 2) z) 25 1 (nI (a + 1))).1 26 (3 * (k % 100) + c) = _
    rw [gp_o (by decide), gp_k, gp_k, gp_k]
    have hk0 : k % 100 < 100 := Nat.mod_lt _ (by decide)
    by_cases e : k = a
    · subst e
      unfold eU
      rw [if_pos rfl]
      rcases (show c = 0 ∨ c = 1 ∨ c = 2 by omega) with rfl | rfl | rfl
      · rw [if_neg (by omega), if_neg (by omega), if_pos (by omega), if_pos rfl]
      · rw [if_neg (by omega), if_pos (by omega), if_neg (by decide), if_pos rfl]
      · rw [if_pos (by omega), if_neg (by decide), if_neg (by decide)]
    · rw [eU_o e]
      have hne : k % 100 ≠ a % 100 := by omega
      rw [if_neg (by omega), if_neg (by omega), if_neg (by omega)]
      exact l2 k c (by omega) (by omega) hc
/-- an entry more in the reference's log -/
theorem M_notes {C n a : Nat} {E : Nat → Nat → Int32} {s : Sh} {x z : Int32} {σ : gM} (hn : 700 ≤ n) (hC : C ≤ 4) (hX : MS C s (σ.1 10) 0) (hL : LO E a s.lo) (ha : a < 1000000) :
    ∃ σ' lo', fX12_notes n x z σ = some σ' ∧ MS C (s.w_lo lo') (σ'.1 10) 0 ∧ LO (eU E a x (σ.1 0 30) z) (a + 1) lo' ∧ fr [10] σ σ' := by
  obtain ⟨l1, l2⟩ := hL
  have hlo : ∀ k, k < 181 → σ.1 10 (435 + k) = s.lo k := fun k hk => by have := hX.lo k hk; rw [Nat.zero_add] at this; exact this
  have key : ∀ τ : gM, (∀ k, k < 435 → τ.1 10 k = σ.1 10 k) → fr [10] σ τ → MS C (s.w_lo (fun k => τ.1 10 (435 + k))) (τ.1 10) 0 := by
    intro τ hk _
    refine ⟨?_, ?_, ?_, ?_, ?_, ?_, ?_, ?_, ?_, ?_, ?_, ?_, ?_, ?_, ?_, ?_, ?_, ?_⟩
    · intro d t b hd ht hb hl
      rw [hk _ (by omega)]; exact hX.byt d t b hd ht hb hl
    · intro d hd; rw [hk _ (by omega)]; exact hX.how d hd
    · intro d hd q; rw [hk _ (by omega)]; exact hX.don d hd q
    · intro d hd; rw [hk _ (by omega)]; exact hX.rd d hd
    · intro d hd; rw [hk _ (by omega)]; exact hX.wr d hd
    · intro d hd; rw [hk _ (by omega)]; exact hX.md d hd
    · rw [hk _ (by omega)]; exact hX.sp
    · rw [hk _ (by omega)]; exact hX.di
    · rw [hk _ (by omega)]; exact hX.nx
    · rw [hk _ (by omega)]; exact hX.rds
    · rw [hk _ (by omega)]; exact hX.wrs
    · rw [hk _ (by omega)]; exact hX.mds
    · rw [hk _ (by omega)]; exact hX.op
    · rw [hk _ (by omega)]; exact hX.ps
    · rw [hk _ (by omega)]; exact hX.l0
    · rw [hk _ (by omega)]; exact hX.l1
    · rw [hk _ (by omega)]; exact hX.l2
    · intro k _
      rw [Nat.zero_add]; rfl
  -- the end: an entry behind q others
  have fin : ∀ (τ : gM) (q : Nat), q < 60 → τ.1 10 435 = nI q → (∀ k, k < 435 → τ.1 10 k = σ.1 10 k) → fr [10] σ τ → ∃ σ', fX12_notes_b62 n x z τ = some σ' ∧ (∀ k, k < 435 → σ'.1 10 k = σ.1 10 k) ∧ fr [10] σ σ' ∧ σ'.1 10 435 = nI (q + 1) ∧ σ'.1 10 (436 + 3 * q) = x ∧ σ'.1 10 (436 + 3 * q + 1) = σ.1 0 30 ∧ σ'.1 10 (436 + 3 * q + 2) = z ∧ ∀ j, 436 ≤ j → (j < 436 + 3 * q ∨ 436 + 3 * q + 2 < j) → σ'.1 10 j = τ.1 10 j := by
    intro τ q hq e1 e2 e3
    have e30 : ∀ (u : Nat) (v : Int32), (g_put τ 10 u v).1 0 30 = σ.1 0 30 := by
      intro u v
      rw [gp_o (by decide), e3.1 0 (by simp)]
    unfold fX12_notes_b62
    rw [e1, show (3 : Int32) * nI q = nI (3 * q) from pk_mul 3 q, show (436 : Int32) + nI (3 * q) = nI (436 + 3 * q) from nI_add 436 _, show nI (436 + 3 * q) + 1 = nI (436 + 3 * q + 1) from nI_add _ 1, show nI (436 + 3 * q) + 2 = nI (436 + 3 * q + 2) from nI_add _ 2, nCL (by omega), nCL (by omega), nCL (by omega), if_pos (by simp (disch := first | omega | assumption) only [fa_lit, nLE, nLT, nEQ, nI_add, nSA, nSUB, pk_mul, nDIV, nREM, nCL, fa_and, nx_xor, fa_or, nSHL, nSHR, nUS, n31, n255, Nat.and_one_is_mod, b_I, b_V, b_L, not_or, Nat.not_lt_zero, Nat.not_le, Nat.not_lt, not_false_eq_true, true_and, and_true, false_or, or_false, Classical.not_not, if_true, if_false, if_pos, if_neg] <;> omega), b_L, if_pos (by simp (disch := first | omega | assumption) only [fa_lit, nLE, nLT, nEQ, nI_add, nSA, nSUB, pk_mul, nDIV, nREM, nCL, fa_and, nx_xor, fa_or, nSHL, nSHR, nUS, n31, n255, Nat.and_one_is_mod, b_I, b_V, b_L, not_or, Nat.not_lt_zero, Nat.not_le, Nat.not_lt, not_false_eq_true, true_and, and_true, false_or, or_false, Classical.not_not, if_true, if_false, if_pos, if_neg] <;> omega), e30, b_L, if_pos (by simp (disch := first | omega | assumption) only [fa_lit, nLE, nLT, nEQ, nI_add, nSA, nSUB, pk_mul, nDIV, nREM, nCL, fa_and, nx_xor, fa_or, nSHL, nSHR, nUS, n31, n255, Nat.and_one_is_mod, b_I, b_V, b_L, not_or, Nat.not_lt_zero, Nat.not_le, Nat.not_lt, not_false_eq_true, true_and, and_true, false_or, or_false, Classical.not_not, if_true, if_false, if_pos, if_neg] <;> omega), b_L]
    rw [show (g_put (g_put (g_put τ 10 (436 + 3 * q) x) 10 (436 + 3 * q + 1) (σ.1 0 30)) 10 (436 + 3 * q + 2) z).1 10 435 = nI q from by rw [gp_k, if_neg (by omega), gp_k, if_neg (by omega), gp_k, if_neg (by omega), e1], show nI q + 1 = nI (q + 1) from nI_add q 1, b_L]
    refine ⟨_, rfl, ?_, ?_, gp_s _ _ _ _, ?_, ?_, ?_, ?_⟩
    · intro k hk
      rw [gp_k, if_neg (by omega), gp_k, if_neg (by omega), gp_k, if_neg (by omega), gp_k, if_neg (by omega)]
      exact e2 k hk
    · exact fr_trans e3 (fr_trans (fr_trans (fr_trans (fr_put _ _ _ (by simp)) (fr_put _ _ _ (by simp))) (fr_put _ _ _ (by simp))) (fr_put _ _ _ (by simp)))
    · rw [gp_k, if_neg (by omega), gp_k, if_neg (by omega), gp_k, if_neg (by omega), gp_s]
    · rw [gp_k, if_neg (by omega), gp_k, if_neg (by omega), gp_s]
    · rw [gp_k, if_neg (by omega), gp_s]
    · intro j h1 h2
      rw [gp_k, if_neg (by omega), gp_k, if_neg (by omega), gp_k, if_neg (by omega), gp_k, if_neg (by omega)]
  have h435 := hlo 0 (by omega)
  have e435 : σ.1 10 435 = nI (min a 60) := h435.trans l1
  unfold fX12_notes
  rw [e435]
  by_cases c : a < 60
  · have em : min a 60 = a := by omega
    have em1 : min (a + 1) 60 = a + 1 := by omega
    rw [em] at e435 ⊢
    obtain ⟨σ', e, k1, k2, k3, k4, k5, k6, k7⟩ := fin σ a c e435 (fun _ _ => rfl) (fr_refl _ _)
    rw [if_neg (by simp (disch := first | omega | assumption) only [fa_lit, nLE, nLT, nEQ, nI_add, nSA, nSUB, pk_mul, nDIV, nREM, nCL, fa_and, nx_xor, fa_or, nSHL, nSHR, nUS, n31, n255, Nat.and_one_is_mod, b_I, b_V, b_L, not_or, Nat.not_lt_zero, Nat.not_le, Nat.not_lt, not_false_eq_true, true_and, and_true, false_or, or_false, Classical.not_not, if_true, if_false, if_pos, if_neg] <;> omega), e]
    refine ⟨σ', _, rfl, key σ' k1 k2, ⟨?_, ?_⟩, k2⟩
    · rw [em1]; exact k3
    · rw [em1]
      intro i c0 hi hc
      show σ'.1 10 (435 + (1 + 3 * i + c0)) = _
      rw [Nat.sub_self, Nat.zero_add]
      by_cases q : i = a
      · unfold eU
        rw [if_pos q, q]
        rcases (show c0 = 0 ∨ c0 = 1 ∨ c0 = 2 by omega) with rfl | rfl | rfl
        · rw [if_pos rfl, show 435 + (1 + 3 * a + 0) = 436 + 3 * a by omega]; exact k4
        · rw [if_neg (by decide), if_pos rfl, show 435 + (1 + 3 * a + 1) = 436 + 3 * a + 1 by omega]; exact k5
        · rw [if_neg (by decide), if_neg (by decide), show 435 + (1 + 3 * a + 2) = 436 + 3 * a + 2 by omega]; exact k6
      · rw [eU_o q, k7 _ (by omega) (by omega), hlo _ (by omega), l2 i c0 (by omega) hc, em, Nat.sub_self, Nat.zero_add]
  · have em : min a 60 = 60 := by omega
    have em1 : min (a + 1) 60 = 60 := by omega
    rw [em] at e435 l2 ⊢
    rw [if_pos (by decide)]
    refine lp (L := fun m k t => fX12_notes_L15 n m x z (nI (1 + k)) t) (I := fun k t => (∀ j, j < k → t.1 10 (436 + j) = σ.1 10 (436 + j + 3)) ∧ (∀ j, (j < 436 ∨ 436 + k ≤ j) → t.1 10 j = σ.1 10 j) ∧ fr [10] σ t) (Q := fun o => ∃ σ' lo', o = some σ' ∧ MS C (s.w_lo lo') (σ'.1 10) 0 ∧ LO (eU E a x (σ.1 0 30) z) (a + 1) lo' ∧ fr [10] σ σ') (N := 177) ?_ ?_ 177 n 0 σ (by omega) (by omega) ⟨fun j hj => absurd hj (Nat.not_lt_zero _), fun _ _ => rfl, fr_refl _ _⟩
    · intro m k t hk ht
      obtain ⟨t1, t2, t3⟩ := ht
      refine Or.inl ⟨g_put t 10 (436 + k) (t.1 10 (436 + k + 3)), ?_, ?_, ?_, fr_trans t3 (fr_put _ _ _ (by simp))⟩
      · show fX12_notes_b15 n (fX12_notes_L15 n m) x z (nI (1 + k)) t = _
        unfold fX12_notes_b15
        rw [if_neg (by simp (disch := first | omega | assumption) only [fa_lit, nLE, nLT, nEQ, nI_add, nSA, nSUB, pk_mul, nDIV, nREM, nCL, fa_and, nx_xor, fa_or, nSHL, nSHR, nUS, n31, n255, Nat.and_one_is_mod, b_I, b_V, b_L, not_or, Nat.not_lt_zero, Nat.not_le, Nat.not_lt, not_false_eq_true, true_and, and_true, false_or, or_false, Classical.not_not, if_true, if_false, if_pos, if_neg] <;> omega), show (435 : Int32) + nI (1 + k) = nI (436 + k) from by rw [show (435 : Int32) = nI 435 from rfl, nI_add]; congr 1; omega, show nI (436 + k) + 3 = nI (436 + k + 3) from nI_add _ 3, nCL (by omega), nCL (by omega), if_pos (by simp (disch := first | omega | assumption) only [fa_lit, nLE, nLT, nEQ, nI_add, nSA, nSUB, pk_mul, nDIV, nREM, nCL, fa_and, nx_xor, fa_or, nSHL, nSHR, nUS, n31, n255, Nat.and_one_is_mod, b_I, b_V, b_L, not_or, Nat.not_lt_zero, Nat.not_le, Nat.not_lt, not_false_eq_true, true_and, and_true, false_or, or_false, Classical.not_not, if_true, if_false, if_pos, if_neg] <;> omega), if_pos (by simp (disch := first | omega | assumption) only [fa_lit, nLE, nLT, nEQ, nI_add, nSA, nSUB, pk_mul, nDIV, nREM, nCL, fa_and, nx_xor, fa_or, nSHL, nSHR, nUS, n31, n255, Nat.and_one_is_mod, b_I, b_V, b_L, not_or, Nat.not_lt_zero, Nat.not_le, Nat.not_lt, not_false_eq_true, true_and, and_true, false_or, or_false, Classical.not_not, if_true, if_false, if_pos, if_neg] <;> omega), b_L, show nI (1 + k) + 1 = nI (1 + (k + 1)) from nI_add _ 1]
      · intro j hj
        rw [gp_k]
        by_cases q : j = k
        · rw [if_pos (by omega), q]; exact t2 _ (by omega)
        · rw [if_neg (by omega)]; exact t1 j (by omega)
      · intro j hj
        rw [gp_k, if_neg (by omega)]
        exact t2 j (by omega)
    · intro m t ht
      obtain ⟨t1, t2, t3⟩ := ht
      have e5 : t.1 10 435 = nI 60 := by rw [t2 435 (by omega)]; exact e435
      obtain ⟨σ', e, k1, k2, k3, k4, k5, k6, k7⟩ := fin (g_put t 10 435 (nI 59)) 59 (by omega) (gp_s _ _ _ _) (fun k hk => by rw [gp_k, if_neg (by omega)]; exact t2 k (by omega)) (fr_trans t3 (fr_put _ _ _ (by simp)))
      show ∃ σ' lo', fX12_notes_b15 n (fX12_notes_L15 n m) x z (nI 178) t = _ ∧ _
      unfold fX12_notes_b15
      rw [if_pos (by simp (disch := first | omega | assumption) only [fa_lit, nLE, nLT, nEQ, nI_add, nSA, nSUB, pk_mul, nDIV, nREM, nCL, fa_and, nx_xor, fa_or, nSHL, nSHR, nUS, n31, n255, Nat.and_one_is_mod, b_I, b_V, b_L, not_or, Nat.not_lt_zero, Nat.not_le, Nat.not_lt, not_false_eq_true, true_and, and_true, false_or, or_false, Classical.not_not, if_true, if_false, if_pos, if_neg] <;> omega), e5, show nI 60 - 1 = nI 59 from pk_sub (b := 1) (by omega), b_L, e]
      refine ⟨σ', _, rfl, key σ' k1 k2, ⟨?_, ?_⟩, k2⟩
      · rw [em1]; exact k3
      · rw [em1]
        intro i c0 hi hc
        show σ'.1 10 (435 + (1 + 3 * i + c0)) = _
        by_cases q : i = 59
        · have ea : a + 1 - 60 + i = a := by omega
          rw [ea]
          unfold eU
          rw [if_pos rfl, q]
          rcases (show c0 = 0 ∨ c0 = 1 ∨ c0 = 2 by omega) with rfl | rfl | rfl
          · rw [if_pos rfl]; exact k4
          · rw [if_neg (by decide), if_pos rfl]; exact k5
          · rw [if_neg (by decide), if_neg (by decide)]; exact k6
        · rw [eU_o (by omega), k7 _ (by omega) (by omega), gp_k, if_neg (by omega), show 435 + (1 + 3 * i + c0) = 436 + (3 * i + c0) by omega, t1 _ (by omega), show 436 + (3 * i + c0) + 3 = 435 + (1 + 3 * (i + 1) + c0) by omega, hlo _ (by omega), l2 (i + 1) c0 (by omega) hc]
          congr 1
          omega
