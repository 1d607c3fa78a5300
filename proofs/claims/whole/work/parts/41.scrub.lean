/-! a stripe scrubbed -/
def va (D : Nat) (s : Sh) (t b : Nat) : Nat → Nat := vl D s t b (fun _ => true)
def sM (F D : Nat) (s : Sh) (t b k : Nat) : Sh := (((((((s.w_rd (cn D t (fun _ => true) s.rd)).w_byt (bs D t b (fun r => decide (r = k)) (ud (va D s t b) k (mnd F D (va D s t b) k)) s.byt)).w_wr (cn D t (fun r => decide (r = k)) s.wr)).w_md (bump s.md (dk D t k))).w_l0 (nI (dk D t k))).w_l1 (nI t)).w_l2 (nI b))
def sB (F D : Nat) (s : Sh) (t b : Nat) : Sh := if wrg F D (va D s t b) = D + 3 then (s.w_rd (cn D t (fun _ => true) s.rd)).w_op (s.op + 1) else if wrg F D (va D s t b) = D + 2 then s.w_rd (cn D t (fun _ => true) s.rd) else sM F D s t b (wrg F D (va D s t b))
def mB (F D : Nat) (s : Sh) (t b : Nat) : Nat := if wrg F D (va D s t b) < D + 2 then 1 else 0
def sC (F D : Nat) (s : Sh) (t : Nat) : Nat → Sh
  | 0 => s
  | k + 1 => sB F D (sC F D s t k) t k
def mC (F D : Nat) (s : Sh) (t : Nat) : Nat → Nat
  | 0 => 0
  | k + 1 => mC F D s t k + mB F D (sC F D s t k) t k
theorem sB_don (F D : Nat) (s : Sh) (t b : Nat) : (sB F D s t b).don = s.don := by
  unfold sB
  split
  · rfl
  · split <;> rfl
theorem sC_don (F D : Nat) (s : Sh) (t : Nat) : ∀ k, (sC F D s t k).don = s.don
  | 0 => rfl
  | k + 1 => by rw [sC, sB_don, sC_don F D s t k]
theorem va_lt {D t b : Nat} {s : Sh} (h : ∀ d t b, s.byt d t b < 256) (r : Nat) : va D s t b r < 256 := th_lt h r
theorem bs_lt {D t b : Nat} {p : Nat → Bool} {v : Nat → Nat} {B : Nat → Nat → Nat → Nat} (h1 : D < 7) (h2 : 2 ≤ D) (ht : t < 12) (hv : ∀ r, r < D + 2 → p r = true → v r < 256) (hB : ∀ d t b, B d t b < 256) : ∀ e t1 b1, bs D t b p v B e t1 b1 < 256 := by
  intro e t1 b1
  unfold bs
  by_cases c : e < D + 2 ∧ t1 = t ∧ b1 = b ∧ p (rl D t e) = true
  · rw [if_pos c]; exact hv _ (rl_ok D h1 h2 t ht e c.1).1 c.2.2.2
  · rw [if_neg c]; exact hB _ _ _
theorem sB_ok {F D S C t b : Nat} {s : Sh} (h1 : D < 7) (h2 : 2 ≤ D) (hF : F < 4) (ht : t < 12) (hO : Ok D S C s) : Ok D S C (sB F D s t b) := by
  unfold sB
  split
  · exact ⟨hO.how, hO.h0, hO.h1, hO.h2, hO.byt, hO.two, hO.sp, hO.nx, hO.di⟩
  · split
    · exact ⟨hO.how, hO.h0, hO.h1, hO.h2, hO.byt, hO.two, hO.sp, hO.nx, hO.di⟩
    · rename_i c1 c2
      have hk := wrg_lt F D (va D s t b)
      refine ⟨hO.how, hO.h0, hO.h1, hO.h2, ?_, hO.two, hO.sp, hO.nx, hO.di⟩
      have hv : ∀ r, r < D + 2 → va D s t b r < 256 := fun r _ => va_lt hO.byt r
      have hm : mnd F D (va D s t b) (wrg F D (va D s t b)) < 256 := mnd_lt hF hv (by omega)
      show ∀ e t1 b1, bs D t b (fun r => decide (r = wrg F D (va D s t b))) (ud (va D s t b) (wrg F D (va D s t b)) (mnd F D (va D s t b) (wrg F D (va D s t b)))) s.byt e t1 b1 < 256
      exact bs_lt h1 h2 ht (fun r hr _ => ud_lt hv hm r hr) hO.byt
theorem sC_ok {F D S C t : Nat} {s : Sh} (h1 : D < 7) (h2 : 2 ≤ D) (hF : F < 4) (ht : t < 12) (hO : Ok D S C s) : ∀ k, Ok D S C (sC F D s t k)
  | 0 => hO
  | k + 1 => sB_ok h1 h2 hF ht (sC_ok h1 h2 hF ht hO k)
theorem X_scrubByte {D S C F n i t b : Nat} {s : Sh} {σ : gM} (hn : 20 ≤ n) (hE : XE D S C F σ) (hO : Ok D S C s) (hX : XS C s (σ.1 (11 + 5 * i))) (ht : t < 12) (hb : b < C) (hT : ∀ r, r < D + 2 → th D s t r = true) (K : Int32 → Int32 → Int32 → gM → Option (Int32 × gM)) (x : Int32) :
    ∃ σ', fX8_scrubStripe_b4 n i K (nI t) x (nI b) σ = K (nI t) (x + nI (mB F D s t b)) (nI (b + 1)) σ' ∧ XS C (sB F D s t b) (σ'.1 (11 + 5 * i)) ∧ fr [11 + 5 * i, 13 + 5 * i] σ σ' := by
  have hw := hE.1
  have hw' := hw
  obtain ⟨w1, w2, w3, w4, w5, w6, w7⟩ := hw'
  have em : bm (fun r => !(fun _ => true : Nat → Bool) r) (D + 2) = 0 := bm_z.mpr fun _ _ => rfl
  obtain ⟨σ1, e1, B1, f1⟩ := X_load (is := fun _ => true) hn hE hX ht hb (fun r hr _ => hT r hr)
  rw [em] at e1
  have hE1 := XE_fr hE f1 (by simp <;> omega) (by simp <;> omega) (by simp <;> omega) (by simp <;> omega)
  have X1 : XS C s (σ1.1 (11 + 5 * i)) := by rw [f1.1 _ (by simp <;> omega)]; exact hX
  obtain ⟨σ2, e2, X2, f2, _⟩ := X_countReads (p := fun _ => true) hn hE1 X1 ht
  rw [← bm_all] at e2
  have hE2 := XE_fr hE1 f2 (by simp <;> omega) (by simp <;> omega) (by simp <;> omega) (by simp <;> omega)
  have B2 := XB_fr B1 f2 (by simp <;> omega)
  have hv : ∀ r, r < D + 2 → va D s t b r < 256 := fun r _ => va_lt hO.byt r
  have F2 : fr [11 + 5 * i, 13 + 5 * i] σ σ2 := fr_trans (fr_mono f1 (by simp)) (fr_mono f2 (by simp))
  have hk := wrg_lt F D (va D s t b)
  obtain ⟨h0, h1, h2, h3, h5, h6, h7, h8, h9⟩ := hE.2.1
  obtain ⟨i0, i1, i2, i3, i5, i6, i7, i8, i9⟩ := hE1.2.1
  unfold fX8_scrubStripe_b4 fX8_scrubStripe_b115
  rw [h2, if_neg (by simp (disch := first | omega | assumption) only [fa_lit, nLE, nLT, nEQ, nI_add, nSA, nSUB, pk_mul, nDIV, nREM, nCL, fa_and, nx_xor, fa_or, nSHL, nSHR, nUS, n31, n255, Nat.and_one_is_mod, b_I, b_V, b_L, not_or, Nat.not_lt_zero, Nat.not_le, Nat.not_lt, not_false_eq_true, true_and, and_true, false_or, or_false, Classical.not_not, if_true, if_false, if_pos, if_neg] <;> omega), show (0 : Int32) = nI 0 from rfl, e1, b_V, i9, e2, b_V, X_wrongPart hn hE2 B2 hv, b_I, show nI b + 1 = nI (b + 1) from nI_add b 1]
  have eva : vl D s t b (fun _ => true) = va D s t b := rfl
  rw [eva]
  by_cases c1 : wrg F D (va D s t b) = D + 3
  · have em0 : mB F D s t b = 0 := by rw [mB, if_neg (by omega)]
    have eS : sB F D s t b = (s.w_rd (cn D t (fun _ => true) s.rd)).w_op (s.op + 1) := by rw [sB, if_pos c1]
    have ew : wI D (wrg F D (va D s t b)) = -2 := by rw [wI, if_neg (by omega), if_pos c1]
    rw [ew, if_pos rfl, show (137 : Int32) = nI 137 from rfl, X_add (by omega), b_V, em0, eS, show x + nI 0 = x from by rw [show nI 0 = (0 : Int32) from rfl, Int32.add_zero], X2.op]
    refine ⟨_, rfl, ?_, fr_trans F2 (fr_put _ _ _ (by simp))⟩
    have := XS_op (x := s.op + 1) X2
    rw [show nI (s.w_rd (cn D t (fun _ => true) s.rd)).op + 1 = nI (s.op + 1) from nI_add _ 1]
    exact this
  · by_cases c2 : wrg F D (va D s t b) = D + 2
    · have em0 : mB F D s t b = 0 := by rw [mB, if_neg (by omega)]
      have eS : sB F D s t b = s.w_rd (cn D t (fun _ => true) s.rd) := by rw [sB, if_neg c1, if_pos c2]
      have ew : wI D (wrg F D (va D s t b)) = -1 := by rw [wI, if_pos c2]
      rw [ew, if_neg (by decide), if_pos rfl, em0, eS, show x + nI 0 = x from by rw [show nI 0 = (0 : Int32) from rfl, Int32.add_zero]]
      exact ⟨_, rfl, X2, F2⟩
    · have em0 : mB F D s t b = 1 := by rw [mB, if_pos (by omega)]
      have eS : sB F D s t b = sM F D s t b (wrg F D (va D s t b)) := by rw [sB, if_neg c1, if_neg c2]
      have ew : wI D (wrg F D (va D s t b)) = nI (wrg F D (va D s t b)) := by rw [wI, if_neg c2, if_neg c1]
      rw [ew, em0, eS]
      generalize wrg F D (va D s t b) = k at *
      have hk2 : k < D + 2 := by omega
      have n2 : ¬ nI k = -2 := by
        intro z
        have := congrArg Int32.toInt z
        rw [nI_toInt (by omega)] at this
        have e2 : (-2 : Int32).toInt = -2 := by decide
        omega
      have hd := dk_ok D (by omega) w1 t ht k hk2
      obtain ⟨σ3, e3, B3, f3⟩ := X_mend hn hE2 B2 hv hk2
      have hE3 := XE_fr hE2 f3 (by simp <;> omega) (by simp <;> omega) (by simp <;> omega) (by simp <;> omega)
      have X3 : XS C (s.w_rd (cn D t (fun _ => true) s.rd)) (σ3.1 (11 + 5 * i)) := by rw [f3.1 _ (by simp <;> omega)]; exact X2
      obtain ⟨σ4, e4, X4, f4, _⟩ := X_store (p := fun r => decide (r = k)) (t := t) (b := b) hn hE3 X3 B3 (ud_lt hv (mnd_lt w7 hv hk2)) ht hb
      rw [← bm_one hk2] at e4
      have hE4 := XE_fr hE3 f4 (by simp <;> omega) (by simp <;> omega) (by simp <;> omega) (by simp <;> omega)
      have X5 := XS_md (d := dk D t k) (x := s.md (dk D t k) + 1) X4 (by omega)
      have X6 := XS_l0 (x := nI (dk D t k)) X5
      have X7 := XS_l1 (x := nI t) X6
      have X8 := XS_l2 (x := nI b) X7
      have emd : σ4.1 (11 + 5 * i) (128 + dk D t k) + 1 = nI (s.md (dk D t k) + 1) := by rw [X4.md _ (by omega)]; exact nI_add _ 1
      rw [if_neg n2, if_neg (nM1 (by omega)), e3, b_V, sh1 (by omega), e4, b_V, X_diskOf hw hE4.2.1 hk2 ht, b_I]
      unfold fX8_noteMended
      rw [show (128 : Int32) + nI (dk D t k) = nI (128 + dk D t k) from nI_add 128 _, X_add (by omega), b_V, show (141 : Int32) = nI 141 from rfl, show (142 : Int32) = nI 142 from rfl, show (143 : Int32) = nI 143 from rfl, X_set (by omega), b_V, X_set (by omega), b_V, X_set (by omega), b_V, b_V, emd]
      refine ⟨_, rfl, ?_, ?_⟩
      · rw [sM, bump_ud]
        exact X8
      · refine fr_trans F2 (fr_trans (fr_mono f3 (by simp)) (fr_trans (fr_mono f4 (by simp)) ?_))
        exact fr_trans (fr_put _ _ _ (by simp)) (fr_trans (fr_put _ _ _ (by simp)) (fr_trans (fr_put _ _ _ (by simp)) (fr_put _ _ _ (by simp))))
theorem X_scrubStripe {D S C F n i t : Nat} {s : Sh} {σ : gM} (hn : 20 ≤ n) (hE : XE D S C F σ) (hO : Ok D S C s) (hX : XS C s (σ.1 (11 + 5 * i))) (ht : t < 12) (hT : ∀ r, r < D + 2 → th D s t r = true) :
    ∃ σ', fX8_scrubStripe n i (nI t) σ = some (nI (mC F D s t C), σ') ∧ XS C (sC F D s t C) (σ'.1 (11 + 5 * i)) ∧ fr [11 + 5 * i, 13 + 5 * i] σ σ' := by
  obtain ⟨w1, w2, w3, w4, w5, w6, w7⟩ := hE.1
  unfold fX8_scrubStripe
  refine lp (L := fun m k (a : Int32 × gM) => fX8_scrubStripe_L4 n i m (nI t) a.1 (nI k) a.2) (I := fun k a => a.1 = nI (mC F D s t k) ∧ XS C (sC F D s t k) (a.2.1 (11 + 5 * i)) ∧ fr [11 + 5 * i, 13 + 5 * i] σ a.2) (Q := fun o => ∃ σ', o = some (nI (mC F D s t C), σ') ∧ XS C (sC F D s t C) (σ'.1 (11 + 5 * i)) ∧ fr [11 + 5 * i, 13 + 5 * i] σ σ') (N := C) ?_ ?_ C n 0 (0, σ) (by omega) (by omega) ⟨rfl, hX, fr_refl _ _⟩
  · intro m k a hk ha
    obtain ⟨a1, a2, a3⟩ := ha
    have hEa := XE_fr hE a3 (by simp <;> omega) (by simp <;> omega) (by simp <;> omega) (by simp <;> omega)
    obtain ⟨σ', e, X', f'⟩ := X_scrubByte hn hEa (sC_ok (by omega) w1 w7 ht hO k) a2 ht hk (fun r hr => by
      have := hT r hr
      unfold th at this ⊢
      rw [sC_don]; exact this) (fX8_scrubStripe_L4 n i m) a.1
    refine Or.inl ⟨(a.1 + nI (mB F D (sC F D s t k) t k), σ'), e, ?_, X', fr_trans a3 f'⟩
    rw [a1, nI_add]; rfl
  · intro m a ha
    obtain ⟨a1, a2, a3⟩ := ha
    have hEa := XE_fr hE a3 (by simp <;> omega) (by simp <;> omega) (by simp <;> omega) (by simp <;> omega)
    obtain ⟨h0, h1, h2, h3, h5, h6, h7, h8, h9⟩ := hEa.2.1
    refine ⟨a.2, ?_, a2, a3⟩
    show fX8_scrubStripe_b4 n i (fX8_scrubStripe_L4 n i m) _ _ _ _ = _
    unfold fX8_scrubStripe_b4
    rw [h2, if_pos (by simp (disch := first | omega | assumption) only [fa_lit, nLE, nLT, nEQ, nI_add, nSA, nSUB, pk_mul, nDIV, nREM, nCL, fa_and, nx_xor, fa_or, nSHL, nSHR, nUS, n31, n255, Nat.and_one_is_mod, b_I, b_V, b_L, not_or, Nat.not_lt_zero, Nat.not_le, Nat.not_lt, not_false_eq_true, true_and, and_true, false_or, or_false, Classical.not_not, if_true, if_false, if_pos, if_neg] <;> omega), a1]
