/-! the act: clean -/
def cv (F D : Nat) (v : Nat → Nat) : Nat → Nat := ud (ud v D (sp v D)) (D + 1) (sq F v D)
def pPQ (D : Nat) (r : Nat) : Bool := decide (r = D) || decide (r = D + 1)
def clB (F D : Nat) (s : Sh) (t b : Nat) : Sh := ((s.w_rd (cn D t (fun r => decide (r < D)) s.rd)).w_byt (bs D t b (pPQ D) (cv F D (va D s t b)) s.byt)).w_wr (cn D t (pPQ D) s.wr)
def clC (F D : Nat) (s : Sh) (t : Nat) : Nat → Sh
  | 0 => s
  | b + 1 => clB F D (clC F D s t b) t b
theorem clC_don (F D : Nat) (s : Sh) (t : Nat) : ∀ b, (clC F D s t b).don = s.don
  | 0 => rfl
  | b + 1 => (clC_don F D s t b : _)
theorem clC_di (F D : Nat) (s : Sh) (t : Nat) : ∀ b, (clC F D s t b).di = s.di
  | 0 => rfl
  | b + 1 => (clC_di F D s t b : _)
theorem clC_lo (F D : Nat) (s : Sh) (t : Nat) : ∀ b, (clC F D s t b).lo = s.lo
  | 0 => rfl
  | b + 1 => (clC_lo F D s t b : _)
theorem cv_lt {F D : Nat} {v : Nat → Nat} (hF : F < 4) (hv : ∀ r, r < D + 2 → v r < 256) : ∀ r, r < D + 2 → cv F D v r < 256 := ud_lt (ud_lt hv (sp_lt fun r hr => hv r (by omega))) (sq_lt hF D)
theorem clB_ok {F D S C t b : Nat} {s : Sh} (h1 : D < 7) (h2 : 2 ≤ D) (hF : F < 4) (ht : t < 12) (hO : Ok D S C s) : Ok D S C (clB F D s t b) :=
  ⟨hO.how, hO.h0, hO.h1, hO.h2, bs_lt h1 h2 ht (fun r hr _ => cv_lt hF (fun r _ => va_lt hO.byt r) r hr) hO.byt, hO.two, hO.sp, hO.nx, hO.di⟩
theorem clC_ok {F D S C t : Nat} {s : Sh} (h1 : D < 7) (h2 : 2 ≤ D) (hF : F < 4) (ht : t < 12) (hO : Ok D S C s) : ∀ k, Ok D S C (clC F D s t k)
  | 0 => hO
  | k + 1 => clB_ok h1 h2 hF ht (clC_ok h1 h2 hF ht hO k)
theorem sd_rd (s : Sh) (x : Nat → Nat) (y : Nat) : (s.w_di y).w_rd x = (s.w_rd x).w_di y := rfl
theorem sd_byt (s : Sh) (x : Nat → Nat → Nat → Nat) (y : Nat) : (s.w_di y).w_byt x = (s.w_byt x).w_di y := rfl
theorem sd_wr (s : Sh) (x : Nat → Nat) (y : Nat) : (s.w_di y).w_wr x = (s.w_wr x).w_di y := rfl
theorem sd_di (s : Sh) (x y : Nat) : (s.w_di y).w_di x = s.w_di x := rfl
theorem clB_wdi (F D : Nat) (s : Sh) (t b y : Nat) : clB F D (s.w_di y) t b = (clB F D s t b).w_di y := by
  have e : va D (s.w_di y) t b = va D s t b := rfl
  unfold clB
  simp only [e, wdi_rd, wdi_byt, wdi_wr, sd_rd, sd_byt, sd_wr]
theorem clC_wdi (F D : Nat) (s : Sh) (t y : Nat) : ∀ k, clC F D (s.w_di y) t k = (clC F D s t k).w_di y
  | 0 => rfl
  | k + 1 => by rw [clC, clC_wdi F D s t y k, clB_wdi, clC]
theorem X_cleanByte {D S C F n i t b : Nat} {s : Sh} {σ : gM} (hn : 20 ≤ n) (hE : XE D S C F σ) (hO : Ok D S C s) (hX : XS C s (σ.1 (11 + 5 * i))) (ht : t < 12) (hb : b < C) (hT : ∀ r, r < D + 2 → th D s t r = true) (K : Int32 → Int32 → gM → Option gM) :
    ∃ σ', fX8_cleanStripe_b2 n i K (nI t) (nI b) σ = K (nI t) (nI (b + 1)) σ' ∧ XS C (clB F D s t b) (σ'.1 (11 + 5 * i)) ∧ fr [11 + 5 * i, 13 + 5 * i] σ σ' := by
  have hw := hE.1
  have hw' := hw
  obtain ⟨w1, w2, w3, w4, w5, w6, w7⟩ := hw'
  have em : bm (fun r => !(fun _ => true : Nat → Bool) r) (D + 2) = 0 := bm_z.mpr fun _ _ => rfl
  obtain ⟨σ1, e1, B1, f1⟩ := X_load (is := fun _ => true) hn hE hX ht hb (fun r hr _ => hT r hr)
  rw [em] at e1
  have hE1 := XE_fr hE f1 (by simp <;> omega) (by simp <;> omega) (by simp <;> omega) (by simp <;> omega)
  have hv : ∀ r, r < D + 2 → va D s t b r < 256 := fun r _ => va_lt hO.byt r
  obtain ⟨σ2, e2, B2, f2⟩ := X_reckon hn hE1 B1 hv
  have hE2 := XE_fr hE1 f2 (by simp <;> omega) (by simp <;> omega) (by simp <;> omega) (by simp <;> omega)
  have X2 : XS C s (σ2.1 (11 + 5 * i)) := by rw [f2.1 _ (by simp <;> omega), f1.1 _ (by simp <;> omega)]; exact hX
  obtain ⟨σ3, e3, X3, f3, _⟩ := X_countReads (p := fun r => decide (r < D)) hn hE2 X2 ht
  rw [← bm_low (by omega : D ≤ D + 2)] at e3
  have hE3 := XE_fr hE2 f3 (by simp <;> omega) (by simp <;> omega) (by simp <;> omega) (by simp <;> omega)
  have B3 := XB_fr B2 f3 (by simp <;> omega)
  obtain ⟨σ4, e4, X4, f4, _⟩ := X_store (p := pPQ D) (t := t) (b := b) hn hE3 X3 B3 (cv_lt w7 hv) ht hb
  have ep : bm (pPQ D) (D + 2) = 2 ^ D ||| 2 ^ (D + 1) := by
    rw [bm_one (show D < D + 2 by omega), bm_one (show D + 1 < D + 2 by omega), bm_or]
    rfl
  rw [ep] at e4
  obtain ⟨h0, h1, h2, h3, h5, h6, h7, h8, h9⟩ := hE.2.1
  obtain ⟨i0, i1, i2, i3, i5, i6, i7, i8, i9⟩ := hE2.2.1
  obtain ⟨j0, j1, j2, j3, j5, j6, j7, j8, j9⟩ := hE3.2.1
  unfold fX8_cleanStripe_b2
  rw [h2, if_neg (by simp (disch := first | omega | assumption) only [fa_lit, nLE, nLT, nEQ, nI_add, nSA, nSUB, pk_mul, nDIV, nREM, nCL, fa_and, nx_xor, fa_or, nSHL, nSHR, nUS, n31, n255, Nat.and_one_is_mod, b_I, b_V, b_L, not_or, Nat.not_lt_zero, Nat.not_le, Nat.not_lt, not_false_eq_true, true_and, and_true, false_or, or_false, Classical.not_not, if_true, if_false, if_pos, if_neg] <;> omega), show (0 : Int32) = nI 0 from rfl, e1, b_V, e2, b_V, i8, e3, b_V, j6, j7, sh1 (by omega), sh1 (by omega), fa_or, e4, b_V, show nI b + 1 = nI (b + 1) from nI_add b 1]
  exact ⟨σ4, rfl, X4, fr_trans (fr_mono f1 (by simp)) (fr_trans (fr_mono f2 (by simp)) (fr_trans (fr_mono f3 (by simp)) (fr_mono f4 (by simp))))⟩
theorem X_cleanStripe {D S C F n i t : Nat} {s : Sh} {σ : gM} (hn : 20 ≤ n) (hE : XE D S C F σ) (hO : Ok D S C s) (hX : XS C s (σ.1 (11 + 5 * i))) (ht : t < 12) (hT : ∀ r, r < D + 2 → th D s t r = true) :
    ∃ σ', fX8_cleanStripe n i (nI t) σ = some σ' ∧ XS C ((clC F D s t C).w_di (s.di ^^^ (s.di &&& 2 ^ t))) (σ'.1 (11 + 5 * i)) ∧ fr [11 + 5 * i, 13 + 5 * i] σ σ' := by
  obtain ⟨w1, w2, w3, w4, w5, w6, w7⟩ := hE.1
  unfold fX8_cleanStripe
  refine lp (L := fun m k a => fX8_cleanStripe_L2 n i m (nI t) (nI k) a) (I := fun k a => XS C (clC F D s t k) (a.1 (11 + 5 * i)) ∧ fr [11 + 5 * i, 13 + 5 * i] σ a) (Q := fun o => ∃ σ', o = some σ' ∧ XS C ((clC F D s t C).w_di (s.di ^^^ (s.di &&& 2 ^ t))) (σ'.1 (11 + 5 * i)) ∧ fr [11 + 5 * i, 13 + 5 * i] σ σ') (N := C) ?_ ?_ C n 0 σ (by omega) (by omega) ⟨hX, fr_refl _ _⟩
  · intro m k a hk ha
    obtain ⟨a2, a3⟩ := ha
    have hEa := XE_fr hE a3 (by simp <;> omega) (by simp <;> omega) (by simp <;> omega) (by simp <;> omega)
    obtain ⟨σ', e, X', f'⟩ := X_cleanByte hn hEa (clC_ok (by omega) w1 w7 ht hO k) a2 ht hk (fun r hr => by
      have := hT r hr
      unfold th at this ⊢
      rw [clC_don]; exact this) (fX8_cleanStripe_L2 n i m)
    exact Or.inl ⟨σ', e, X', fr_trans a3 f'⟩
  · intro m a ha
    obtain ⟨a2, a3⟩ := ha
    have hEa := XE_fr hE a3 (by simp <;> omega) (by simp <;> omega) (by simp <;> omega) (by simp <;> omega)
    obtain ⟨h0, h1, h2, h3, h5, h6, h7, h8, h9⟩ := hEa.2.1
    have ed := a2.di
    rw [clC_di] at ed
    show ∃ σ', fX8_cleanStripe_b2 n i (fX8_cleanStripe_L2 n i m) (nI t) (nI C) a = some σ' ∧ _
    unfold fX8_cleanStripe_b2
    rw [h2, if_pos (by simp (disch := first | omega | assumption) only [fa_lit, nLE, nLT, nEQ, nI_add, nSA, nSUB, pk_mul, nDIV, nREM, nCL, fa_and, nx_xor, fa_or, nSHL, nSHR, nUS, n31, n255, Nat.and_one_is_mod, b_I, b_V, b_L, not_or, Nat.not_lt_zero, Nat.not_le, Nat.not_lt, not_false_eq_true, true_and, and_true, false_or, or_false, Classical.not_not, if_true, if_false, if_pos, if_neg] <;> omega), show (140 : Int32) = nI 140 from rfl, X_get (by omega), b_I, ed, sh1 (by omega), nANDN, X_set (by omega), b_V]
    exact ⟨_, rfl, XS_di a2, fr_trans a3 (fr_put _ _ _ (by simp))⟩
/-! which stripes are to be cleaned -/
def cq (D : Nat) (s : Sh) (t : Nat) : Bool := dtB s t && alB D s t
def cK (F D C : Nat) (s : Sh) : Nat → Sh
  | 0 => s
  | t + 1 => if cq D s t then clC F D (cK F D C s t) t C else cK F D C s t
theorem cK_don (F D C : Nat) (s : Sh) : ∀ k, (cK F D C s k).don = s.don
  | 0 => rfl
  | k + 1 => by
    rw [cK]
    split
    · rw [clC_don, cK_don F D C s k]
    · exact cK_don F D C s k
theorem cK_di (F D C : Nat) (s : Sh) : ∀ k, (cK F D C s k).di = s.di
  | 0 => rfl
  | k + 1 => by
    rw [cK]
    split
    · rw [clC_di, cK_di F D C s k]
    · exact cK_di F D C s k
theorem cK_lo (F D C : Nat) (s : Sh) : ∀ k, (cK F D C s k).lo = s.lo
  | 0 => rfl
  | k + 1 => by
    rw [cK]
    split
    · rw [clC_lo, cK_lo F D C s k]
    · exact cK_lo F D C s k
theorem cK_ok {F D S C : Nat} {s : Sh} (h1 : D < 7) (h2 : 2 ≤ D) (hF : F < 4) (hO : Ok D S C s) : ∀ k, k ≤ 12 → Ok D S C (cK F D C s k)
  | 0, _ => hO
  | k + 1, h => by
    rw [cK]
    split
    · exact clC_ok h1 h2 hF (by omega) (cK_ok h1 h2 hF hO k (by omega)) C
    · exact cK_ok h1 h2 hF hO k (by omega)
def dd (x : Nat) (p : Nat → Bool) (k : Nat) : Nat := x ^^^ (x &&& bm p k)
theorem dd_tb (x : Nat) (p : Nat → Bool) (k j : Nat) : (dd x p k).testBit j = (x.testBit j && !(decide (j < k) && p j)) := by
  rw [dd, Nat.testBit_xor, Nat.testBit_and, bm_tb]
  cases x.testBit j <;> cases decide (j < k) <;> cases p j <;> rfl
theorem dd_lt {x S : Nat} {p : Nat → Bool} (k : Nat) (h : x < 2 ^ S) : dd x p k < 2 ^ S := Nat.xor_lt_two_pow h (Nat.lt_of_le_of_lt Nat.and_le_left h)
theorem dd_yes {x k : Nat} {p : Nat → Bool} (hp : p k = true) : dd x p (k + 1) = dd x p k ^^^ (dd x p k &&& 2 ^ k) := by
  apply Nat.eq_of_testBit_eq
  intro j
  rw [dd_tb, Nat.testBit_xor, Nat.testBit_and, dd_tb, Nat.testBit_two_pow]
  by_cases e : k = j
  · subst e; simp [hp]
  · have e' : decide (j < k + 1) = decide (j < k) := by
      apply decide_eq_decide.mpr; omega
    simp [e, e']
theorem dd_no {x k : Nat} {p : Nat → Bool} (hp : p k = false) : dd x p (k + 1) = dd x p k := by
  apply Nat.eq_of_testBit_eq
  intro j
  rw [dd_tb, dd_tb]
  by_cases e : k = j
  · subst e; simp [hp]
  · have e' : decide (j < k + 1) = decide (j < k) := by
      apply decide_eq_decide.mpr; omega
    rw [e']
theorem dtB_tb (s : Sh) (t : Nat) : dtB s t = s.di.testBit t := by rw [dtB, Nat.testBit_eq_decide_div_mod_eq]
theorem di_ok {D S C x : Nat} {s : Sh} (hO : Ok D S C s) (hx : x < 2 ^ S) : Ok D S C (s.w_di x) := ⟨hO.how, hO.h0, hO.h1, hO.h2, hO.byt, hO.two, hO.sp, hO.nx, hx⟩
theorem alB_don {D t : Nat} {s s' : Sh} (h : s.don = s'.don) : alB D s t = alB D s' t := by
  unfold alB
  rw [th_don h]
theorem X_doClean {D S C F n i : Nat} {s : Sh} {σ : gM} (hn : 20 ≤ n) (hE : XE D S C F σ) (hO : Ok D S C s) (hX : XS C s (σ.1 (11 + 5 * i))) :
    ∃ σ', fX8_doClean n i σ = some (nI (ct (cq D s) S), σ') ∧ XS C ((cK F D C s S).w_di (dd s.di (cq D s) S)) (σ'.1 (11 + 5 * i)) ∧ fr [11 + 5 * i, 13 + 5 * i] σ σ' := by
  obtain ⟨w1, w2, w3, w4, w5, w6, w7⟩ := hE.1
  have d0 : dd s.di (cq D s) 0 = s.di := by simp [dd, bm]
  unfold fX8_doClean
  refine lp (L := fun m k (q : Int32 × gM) => fX8_doClean_L4 n i m q.1 (nI k) q.2) (I := fun k q => q.1 = nI (ct (cq D s) k) ∧ XS C ((cK F D C s k).w_di (dd s.di (cq D s) k)) (q.2.1 (11 + 5 * i)) ∧ fr [11 + 5 * i, 13 + 5 * i] σ q.2) (Q := fun o => ∃ σ', o = some (nI (ct (cq D s) S), σ') ∧ XS C ((cK F D C s S).w_di (dd s.di (cq D s) S)) (σ'.1 (11 + 5 * i)) ∧ fr [11 + 5 * i, 13 + 5 * i] σ σ') (N := S) ?_ ?_ S n 0 (0, σ) (by omega) (by omega) ⟨rfl, by rw [d0]; exact hX, fr_refl _ _⟩
  · intro m k q hk hq
    obtain ⟨q1, q2, q3⟩ := hq
    have hEa := XE_fr hE q3 (by simp <;> omega) (by simp <;> omega) (by simp <;> omega) (by simp <;> omega)
    obtain ⟨h0, h1, h2, h3, h5, h6, h7, h8, h9⟩ := hEa.2.1
    have hOk := di_ok (cK_ok (F := F) (by omega) w1 w7 hO k (by omega)) (dd_lt (p := cq D s) k hO.di)
    have edn : ((cK F D C s k).w_di (dd s.di (cq D s) k)).don = s.don := cK_don F D C s k
    have edt : dtB ((cK F D C s k).w_di (dd s.di (cq D s) k)) k = dtB s k := by
      rw [dtB_tb, dtB_tb]
      show (dd s.di (cq D s) k).testBit k = _
      rw [dd_tb]; simp
    have em := X_missing (n := n) (i := i) (t := k) hn hEa (Ok_don hOk w4) q2 (by omega)
    rw [th_don edn] at em
    have hbl := bm_lt8 (p := fun r => !th D s k r) (show D + 2 ≤ 8 by omega)
    left
    show ∃ a', fX8_doClean_b4 n i (fX8_doClean_L4 n i m) q.1 (nI k) q.2 = _ ∧ _
    unfold fX8_doClean_b4 fX8_doClean_b39
    rw [h1, if_neg (by simp (disch := first | omega | assumption) only [fa_lit, nLE, nLT, nEQ, nI_add, nSA, nSUB, pk_mul, nDIV, nREM, nCL, fa_and, nx_xor, fa_or, nSHL, nSHR, nUS, n31, n255, Nat.and_one_is_mod, b_I, b_V, b_L, not_or, Nat.not_lt_zero, Nat.not_le, Nat.not_lt, not_false_eq_true, true_and, and_true, false_or, or_false, Classical.not_not, if_true, if_false, if_pos, if_neg] <;> omega), X_isDirty q2 (Ok_di hOk w4) (by omega), b_I, edt, em, b_I, show nI k + 1 = nI (k + 1) from nI_add k 1]
    have no : cq D s k = false → (nI (ct (cq D s) k) = nI (ct (cq D s) (k + 1))) ∧ XS C ((cK F D C s (k + 1)).w_di (dd s.di (cq D s) (k + 1))) (q.2.1 (11 + 5 * i)) := by
      intro c
      refine ⟨by rw [ct, c]; rfl, ?_⟩
      rw [dd_no c, cK, c]
      exact q2
    by_cases c1 : dtB s k = true
    · rw [if_pos c1, if_neg (by decide)]
      by_cases c2 : alB D s k = true
      · have c : cq D s k = true := by rw [cq, c1, c2]; rfl
        have hT : ∀ r, r < D + 2 → th D ((cK F D C s k).w_di (dd s.di (cq D s) k)) k r = true := by
          rw [th_don edn]; exact al_r.mp c2
        obtain ⟨σ', e, X', f'⟩ := X_cleanStripe hn hEa hOk q2 (by omega) hT
        have e0 : bm (fun r => !th D s k r) (D + 2) = 0 := by unfold alB at c2; exact beq_iff_eq.mp c2
        rw [e0, if_pos (show nI 0 = 0 from rfl), e, b_V]
        refine ⟨(q.1 + 1, σ'), rfl, ?_, ?_, fr_trans q3 f'⟩
        · rw [q1, ct, c]; exact nI_add _ 1
        · rw [clC_wdi, sd_di, wdi_di, ← dd_yes c] at X'
          rw [cK, if_pos c]
          exact X'
      · have c : cq D s k = false := by rw [cq, Bool.eq_false_iff.mpr c2]; simp
        have e0 : ¬ bm (fun r => !th D s k r) (D + 2) = 0 := by
          intro z
          apply c2
          unfold alB
          rw [z]; rfl
        rw [if_neg (by rw [show (0 : Int32) = nI 0 from rfl, nEQ _ _ (by omega) (by omega)]; exact e0)]
        exact ⟨q, rfl, q1.trans (no c).1, (no c).2, q3⟩
    · have c : cq D s k = false := by rw [cq, Bool.eq_false_iff.mpr c1]; rfl
      rw [if_neg c1, if_pos (show nI 0 = 0 from rfl)]
      exact ⟨q, rfl, q1.trans (no c).1, (no c).2, q3⟩
  · intro m q hq
    obtain ⟨q1, q2, q3⟩ := hq
    have hEa := XE_fr hE q3 (by simp <;> omega) (by simp <;> omega) (by simp <;> omega) (by simp <;> omega)
    obtain ⟨h0, h1, h2, h3, h5, h6, h7, h8, h9⟩ := hEa.2.1
    refine ⟨q.2, ?_, q2, q3⟩
    show fX8_doClean_b4 n i (fX8_doClean_L4 n i m) q.1 (nI S) q.2 = _
    unfold fX8_doClean_b4
    rw [h1, if_pos (by simp (disch := first | omega | assumption) only [fa_lit, nLE, nLT, nEQ, nI_add, nSA, nSUB, pk_mul, nDIV, nREM, nCL, fa_and, nx_xor, fa_or, nSHL, nSHR, nUS, n31, n255, Nat.and_one_is_mod, b_I, b_V, b_L, not_or, Nat.not_lt_zero, Nat.not_le, Nat.not_lt, not_false_eq_true, true_and, and_true, false_or, or_false, Classical.not_not, if_true, if_false, if_pos, if_neg] <;> omega), q1]
theorem X_refClean {D S C F n i : Nat} {s : Sh} {σ : gM} (hn : 20 ≤ n) (hE : XE D S C F σ) (hO : Ok D S C s) (hX : XS C s (σ.1 (11 + 5 * i))) : fX8_refusalOfCleaning n i σ = some (if bm (cq D s) S = 0 then 2 else -1, σ) := by
  obtain ⟨w1, w2, w3, w4, w5, w6, w7⟩ := hE.1
  obtain ⟨h0, h1, h2, h3, h5, h6, h7, h8, h9⟩ := hE.2.1
  unfold fX8_refusalOfCleaning fX6_present
  rw [h5, if_neg (by simp (disch := first | omega | assumption) only [fa_lit, nLE, nLT, nEQ, nI_add, nSA, nSUB, pk_mul, nDIV, nREM, nCL, fa_and, nx_xor, fa_or, nSHL, nSHR, nUS, n31, n255, Nat.and_one_is_mod, b_I, b_V, b_L, not_or, Nat.not_lt_zero, Nat.not_le, Nat.not_lt, not_false_eq_true, true_and, and_true, false_or, or_false, Classical.not_not, if_true, if_false, if_pos, if_neg] <;> omega), b_I, if_neg (by decide)]
  refine lp (L := fun m k (_ : Unit) => fX8_refusalOfCleaning_L14 n i m (nI k) σ) (I := fun k _ => ∀ t, t < k → cq D s t = false) (Q := fun o => o = some (if bm (cq D s) S = 0 then 2 else -1, σ)) (N := S) ?_ ?_ S n 0 () (by omega) (by omega) (fun t ht => absurd ht (Nat.not_lt_zero _))
  · intro m k _ hk ha
    have em := X_missing (n := n) (i := i) (t := k) hn hE (Ok_don hO w4) hX (by omega)
    have hbl := bm_lt8 (p := fun r => !th D s k r) (show D + 2 ≤ 8 by omega)
    have nx : cq D s k = false → ∀ t, t < k + 1 → cq D s t = false := by
      intro c t ht
      by_cases e : t = k
      · rw [e]; exact c
      · exact ha t (by omega)
    show (∃ a', fX8_refusalOfCleaning_b14 n i (fX8_refusalOfCleaning_L14 n i m) (nI k) σ = _ ∧ _) ∨ (fX8_refusalOfCleaning_b14 n i (fX8_refusalOfCleaning_L14 n i m) (nI k) σ = _)
    unfold fX8_refusalOfCleaning_b14 fX8_refusalOfCleaning_b43
    rw [h1, if_neg (by simp (disch := first | omega | assumption) only [fa_lit, nLE, nLT, nEQ, nI_add, nSA, nSUB, pk_mul, nDIV, nREM, nCL, fa_and, nx_xor, fa_or, nSHL, nSHR, nUS, n31, n255, Nat.and_one_is_mod, b_I, b_V, b_L, not_or, Nat.not_lt_zero, Nat.not_le, Nat.not_lt, not_false_eq_true, true_and, and_true, false_or, or_false, Classical.not_not, if_true, if_false, if_pos, if_neg] <;> omega), X_isDirty hX (Ok_di hO w4) (by omega), b_I, em, b_I, show nI k + 1 = nI (k + 1) from nI_add k 1]
    by_cases c1 : dtB s k = true
    · rw [if_pos c1, if_neg (by decide)]
      by_cases c2 : alB D s k = true
      · have c : cq D s k = true := by rw [cq, c1, c2]; rfl
        have e0 : bm (fun r => !th D s k r) (D + 2) = 0 := by unfold alB at c2; exact beq_iff_eq.mp c2
        right
        rw [e0, if_pos (show nI 0 = 0 from rfl), if_neg (fun z => by have := bm_z.mp z k hk; rw [c] at this; cases this)]
      · have c : cq D s k = false := by rw [cq, Bool.eq_false_iff.mpr c2]; simp
        have e0 : ¬ bm (fun r => !th D s k r) (D + 2) = 0 := by
          intro z
          apply c2
          unfold alB
          rw [z]; rfl
        rw [if_neg (by rw [show (0 : Int32) = nI 0 from rfl, nEQ _ _ (by omega) (by omega)]; exact e0)]
        exact Or.inl ⟨(), rfl, nx c⟩
    · have c : cq D s k = false := by rw [cq, Bool.eq_false_iff.mpr c1]; rfl
      rw [if_neg c1, if_pos (show nI 0 = 0 from rfl)]
      exact Or.inl ⟨(), rfl, nx c⟩
  · intro m _ ha
    show fX8_refusalOfCleaning_b14 n i (fX8_refusalOfCleaning_L14 n i m) (nI S) σ = _
    unfold fX8_refusalOfCleaning_b14
    rw [h1, if_pos (by simp (disch := first | omega | assumption) only [fa_lit, nLE, nLT, nEQ, nI_add, nSA, nSUB, pk_mul, nDIV, nREM, nCL, fa_and, nx_xor, fa_or, nSHL, nSHR, nUS, n31, n255, Nat.and_one_is_mod, b_I, b_V, b_L, not_or, Nat.not_lt_zero, Nat.not_le, Nat.not_lt, not_false_eq_true, true_and, and_true, false_or, or_false, Classical.not_not, if_true, if_false, if_pos, if_neg] <;> omega), if_pos (bm_z.mpr ha)]
