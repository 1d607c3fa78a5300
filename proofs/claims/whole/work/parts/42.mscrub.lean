/-! the reference scrubs a stripe -/
def alB (D : Nat) (s : Sh) (t : Nat) : Bool := bm (fun r => !th D s t r) (D + 2) == 0
theorem al_r {D t : Nat} {s : Sh} : alB D s t = true ↔ ∀ r, r < D + 2 → th D s t r = true := by
  unfold alB
  rw [beq_iff_eq, bm_z]
  constructor
  · intro h r hr; simpa using h r hr
  · intro h r hr; simp [h r hr]
theorem al_d {D t : Nat} {s : Sh} (h1 : D < 7) (h2 : 2 ≤ D) (ht : t < 12) : alB D s t = true ↔ ∀ d, d < D + 2 → t < s.don d := by
  rw [al_r]
  constructor
  · intro h d hd
    have hr := rl_ok D h1 h2 t ht d hd
    have := h _ hr.1
    simp only [th, decide_eq_true_eq, hr.2] at this
    exact this
  · intro h r hr
    have hd := dk_ok D h1 h2 t ht r hr
    simp only [th, decide_eq_true_eq]
    exact h _ hd.1
theorem M_isAll {D S C F n w t : Nat} {s : Sh} {σ : gM} (hn : 20 ≤ n) (hE : ME D S C F σ) (hO : Ok D S C s) (hX : MS C s (σ.1 w) 0) (ht : t < S) : fX12_isAll n w (nI t) σ = some (nI (if alB D s t then 1 else 0), σ) := by
  have hE' := hE
  obtain ⟨⟨w1, w2, w3, w4, w5, w6, w7⟩, ⟨h0, h1, h2, h3, h5, h6⟩, hf⟩ := hE
  unfold fX12_isAll
  refine lp (L := fun m k (_ : Unit) => fX12_isAll_L2 n w m (nI t) (nI k) σ) (I := fun k _ => ∀ d, d < k → t < s.don d) (Q := fun o => o = some (nI (if alB D s t then 1 else 0), σ)) (N := D + 2) ?_ ?_ (D + 2) n 0 () (by omega) (by omega) (fun d hd => absurd hd (Nat.not_lt_zero _))
  · intro m k _ hk ha
    have e : fX12_isAll_L2 n w (m + 1) (nI t) (nI k) σ = if t < s.don k then fX12_isAll_L2 n w m (nI t) (nI (k + 1)) σ else some (nI 0, σ) := by
      show fX12_isAll_b2 n w (fX12_isAll_L2 n w m) _ _ _ = _
      unfold fX12_isAll_b2
      rw [h5, if_neg (by simp (disch := first | omega | assumption) only [fa_lit, nLE, nLT, nEQ, nI_add, nSA, nSUB, pk_mul, nDIV, nREM, nCL, fa_and, nx_xor, fa_or, nSHL, nSHR, nUS, n31, n255, Nat.and_one_is_mod, b_I, b_V, b_L, not_or, Nat.not_lt_zero, Nat.not_le, Nat.not_lt, not_false_eq_true, true_and, and_true, false_or, or_false, Classical.not_not, if_true, if_false, if_pos, if_neg] <;> omega), M_isThere hO w4 hX (by omega) ht, b_I, show nI k + 1 = nI (k + 1) from nI_add k 1]
      by_cases c : t < s.don k
      · rw [if_pos c, if_pos c, if_neg (by decide)]
      · rw [if_neg c, if_neg c, if_pos (show nI 0 = 0 from rfl)]; rfl
    by_cases c : t < s.don k
    · refine Or.inl ⟨(), by rw [e, if_pos c], ?_⟩
      intro d hd
      by_cases q : d = k
      · rw [q]; exact c
      · exact ha d (by omega)
    · right
      rw [e, if_neg c]
      have : ¬ alB D s t = true := fun z => c ((al_d (by omega) w1 (by omega)).mp z k hk)
      rw [if_neg this]
  · intro m _ ha
    show fX12_isAll_b2 n w (fX12_isAll_L2 n w m) _ _ _ = _
    unfold fX12_isAll_b2
    rw [h5, if_pos (by simp (disch := first | omega | assumption) only [fa_lit, nLE, nLT, nEQ, nI_add, nSA, nSUB, pk_mul, nDIV, nREM, nCL, fa_and, nx_xor, fa_or, nSHL, nSHR, nUS, n31, n255, Nat.and_one_is_mod, b_I, b_V, b_L, not_or, Nat.not_lt_zero, Nat.not_le, Nat.not_lt, not_false_eq_true, true_and, and_true, false_or, or_false, Classical.not_not, if_true, if_false, if_pos, if_neg] <;> omega), if_pos ((al_d (by omega) w1 (by omega)).mpr ha)]
    rfl
def sN (F D : Nat) (s : Sh) (t b k : Nat) : Sh := ((((((s.w_byt (bs D t b (fun r => decide (r = k)) (ud (va D s t b) k (mnd F D (va D s t b) k)) s.byt)).w_wr (cn D t (fun r => decide (r = k)) s.wr)).w_md (bump s.md (dk D t k))).w_l0 (nI (dk D t k))).w_l1 (nI t)).w_l2 (nI b))
def sB1 (F D : Nat) (s : Sh) (t b : Nat) : Sh := if wrg F D (va D s t b) = D + 3 then s.w_op (s.op + 1) else if wrg F D (va D s t b) = D + 2 then s else sN F D s t b (wrg F D (va D s t b))
theorem sB_sB1 (F D : Nat) (s : Sh) (t b : Nat) : sB F D s t b = sB1 F D (s.w_rd (cn D t (fun _ => true) s.rd)) t b := rfl
theorem M_mends {D S C F n w t b : Nat} {s : Sh} {σ : gM} (hn : 20 ≤ n) (hE : ME D S C F σ) (hO : Ok D S C s) (hX : MS C s (σ.1 w) 0) (hw1 : 10 ≤ w) (hw2 : w ≤ 13) (ht : t < S) (hb : b < C) (hT : ∀ r, r < D + 2 → th D s t r = true) :
    ∃ σ', fX12_mends n w (nI t) (nI b) σ = some (nI (mB F D s t b), σ') ∧ MS C (sB1 F D s t b) (σ'.1 w) 0 ∧ fr [w, 14, 15] σ σ' := by
  have hw := hE.1
  have hw' := hw
  obtain ⟨w1, w2, w3, w4, w5, w6, w7⟩ := hw'
  obtain ⟨σ1, e1, V1, I1, f1⟩ := M_laysOne hn hE hO hX (by omega) (by omega) ht hb
  have V1 : MV D (va D s t b) σ1 := by
    intro r hr
    rw [V1 r hr, vl, if_pos (hT r hr)]; rfl
  have hE1 := ME_fr hE f1 (by simp) (by simp) (by simp) (by simp)
  have X1 : MS C s (σ1.1 w) 0 := by rw [f1.1 w (by simp; omega)]; exact hX
  have hv : ∀ r, r < D + 2 → va D s t b r < 256 := fun r _ => va_lt hO.byt r
  have F1 : fr [w, 14, 15] σ σ1 := fr_mono f1 (by simp)
  have hk := wrg_lt F D (va D s t b)
  obtain ⟨h0, h1, h2, h3, h5, h6⟩ := hE1.2.1
  unfold fX12_mends
  rw [e1, b_V, M_wrong hn hE1 V1 hv, b_I, h0]
  by_cases c1 : wrg F D (va D s t b) = D + 3
  · have em0 : mB F D s t b = 0 := by rw [mB, if_neg (by omega)]
    have eS : sB1 F D s t b = s.w_op (s.op + 1) := by rw [sB1, if_pos c1]
    have ew : wI D (wrg F D (va D s t b)) = -2 := by rw [wI, if_neg (by omega), if_pos c1]
    have eo := X1.op
    rw [Nat.zero_add] at eo
    rw [ew, if_pos rfl, b_L, em0, eS]
    unfold fX12_mends_b39
    rw [if_neg (by decide), eo, show nI s.op + 1 = nI (s.op + 1) from nI_add _ 1]
    exact ⟨_, rfl, MS_op w6 X1, fr_trans F1 (fr_put _ _ _ (by simp))⟩
  · by_cases c2 : wrg F D (va D s t b) = D + 2
    · have em0 : mB F D s t b = 0 := by rw [mB, if_neg (by omega)]
      have eS : sB1 F D s t b = s := by rw [sB1, if_neg c1, if_pos c2]
      have ew : wI D (wrg F D (va D s t b)) = -1 := by rw [wI, if_pos c2]
      rw [ew, if_neg (by decide), em0, eS]
      unfold fX12_mends_b39
      rw [if_neg (by decide)]
      exact ⟨_, rfl, X1, F1⟩
    · have em0 : mB F D s t b = 1 := by rw [mB, if_pos (by omega)]
      have eS : sB1 F D s t b = sN F D s t b (wrg F D (va D s t b)) := by rw [sB1, if_neg c1, if_neg c2]
      have ew : wI D (wrg F D (va D s t b)) = nI (wrg F D (va D s t b)) := by rw [wI, if_neg c2, if_neg c1]
      rw [ew, em0, eS]
      generalize wrg F D (va D s t b) = k at *
      have hk2 : k < D + 2 := by omega
      have n2 : ¬ nI k = -2 := by
        intro z
        have := congrArg Int32.toInt z
        rw [nI_toInt (by omega)] at this
        have e2 : (-2 : Int32).toInt = -2 := by decide
        omega
      have hd := dk_ok D (by omega) w1 t (by omega) k hk2
      have fin : ∃ σ', fX12_mends_b90 n w (nI t) (nI b) (nI k) (nI (if k = D + 1 then wv F D (va D s t b) else wu D (va D s t b))) σ1 = some (nI 1, σ') ∧ MS C (sN F D s t b k) (σ'.1 w) 0 ∧ fr [w, 14, 15] σ σ' := by
        have X0 : MS C ((s.w_byt (bs D t b (fun _ => false) (ud (va D s t b) k (mnd F D (va D s t b) k)) s.byt)).w_wr (cn D t (fun _ => false) s.wr)) (σ1.1 w) 0 := by
          rw [cn_none (by omega) w1 (by omega) (fun _ _ => rfl), bs_none (by omega) w1 (by omega) (fun _ _ => rfl)]
          exact X1
        obtain ⟨σ3, e3, X3, f3, _⟩ := M_putsS (q := fun r => decide (r = k)) (k := k) hE1 X0 (show t < 12 by omega) hb hk2 rfl (by simp) (by
          intro r hr hne
          simp [hne])
        have hE3 := ME_fr hE1 f3 (by simp; omega) (by simp; omega) (by simp; omega) (by simp; omega)
        rw [ud_eq] at e3
        have X4 := MS_md (d := dk D t k) w6 X3 (by omega)
        have X5 := MS_l0 (x := nI (dk D t k)) w6 X4
        have X6 := MS_l1 (x := nI t) w6 X5
        have X7 := MS_l2 (x := nI b) w6 X6
        have em := X3.md (dk D t k) (by omega)
        rw [Nat.zero_add] at em
        have em' : σ3.1 w (416 + dk D t k) + 1 = nI (s.md (dk D t k) + 1) := by rw [em]; exact nI_add _ 1
        have es := X3.mds
        rw [Nat.zero_add] at es
        have es' : σ3.1 w 429 + 1 = nI (s8 s.md + 1) := by rw [es]; exact nI_add _ 1
        have f4 : fr [w] σ3 (g_put (g_put σ3 w (416 + dk D t k) (nI (s.md (dk D t k) + 1))) w 429 (nI (s8 s.md + 1))) := fr_trans (fr_put _ _ _ (by simp)) (fr_put _ _ _ (by simp))
        have hE4 := ME_fr hE3 f4 (by simp; omega) (by simp; omega) (by simp; omega) (by simp; omega)
        unfold fX12_mends_b90
        rw [nCL (by omega), if_pos (by simp (disch := first | omega | assumption) only [fa_lit, nLE, nLT, nEQ, nI_add, nSA, nSUB, pk_mul, nDIV, nREM, nCL, fa_and, nx_xor, fa_or, nSHL, nSHR, nUS, n31, n255, Nat.and_one_is_mod, b_I, b_V, b_L, not_or, Nat.not_lt_zero, Nat.not_le, Nat.not_lt, not_false_eq_true, true_and, and_true, false_or, or_false, Classical.not_not, if_true, if_false, if_pos, if_neg] <;> omega), V1 k hk2, nx_xor]
        have ex : va D s t b k ^^^ (if k = D + 1 then wv F D (va D s t b) else wu D (va D s t b)) = mnd F D (va D s t b) k := rfl
        rw [ex, e3, b_V, M_diskOf hw hE3.2.1 hk2 (by omega), b_I, show (416 : Int32) + nI (dk D t k) = nI (416 + dk D t k) from nI_add 416 _, nCL (by omega), if_pos (by simp (disch := first | omega | assumption) only [fa_lit, nLE, nLT, nEQ, nI_add, nSA, nSUB, pk_mul, nDIV, nREM, nCL, fa_and, nx_xor, fa_or, nSHL, nSHR, nUS, n31, n255, Nat.and_one_is_mod, b_I, b_V, b_L, not_or, Nat.not_lt_zero, Nat.not_le, Nat.not_lt, not_false_eq_true, true_and, and_true, false_or, or_false, Classical.not_not, if_true, if_false, if_pos, if_neg] <;> omega), if_pos (by simp (disch := first | omega | assumption) only [fa_lit, nLE, nLT, nEQ, nI_add, nSA, nSUB, pk_mul, nDIV, nREM, nCL, fa_and, nx_xor, fa_or, nSHL, nSHR, nUS, n31, n255, Nat.and_one_is_mod, b_I, b_V, b_L, not_or, Nat.not_lt_zero, Nat.not_le, Nat.not_lt, not_false_eq_true, true_and, and_true, false_or, or_false, Classical.not_not, if_true, if_false, if_pos, if_neg] <;> omega), b_L, em', b_L, gp_k, if_neg (by omega), es', M_diskOf hw hE4.2.1 hk2 (by omega), b_I, b_L, b_L, b_L]
        refine ⟨_, rfl, X7, fr_trans F1 (fr_trans (fr_mono f3 (by simp)) (fr_trans (fr_mono f4 (by simp)) ?_))⟩
        exact fr_trans (fr_put _ _ _ (by simp)) (fr_trans (fr_put _ _ _ (by simp)) (fr_put _ _ _ (by simp)))
      rw [if_neg n2]
      unfold fX12_mends_b39
      have eQ : nI D + 1 = nI (D + 1) := nI_add D 1
      rw [if_pos (by simp (disch := first | omega | assumption) only [fa_lit, nLE, nLT, nEQ, nI_add, nSA, nSUB, pk_mul, nDIV, nREM, nCL, fa_and, nx_xor, fa_or, nSHL, nSHR, nUS, n31, n255, Nat.and_one_is_mod, b_I, b_V, b_L, not_or, Nat.not_lt_zero, Nat.not_le, Nat.not_lt, not_false_eq_true, true_and, and_true, false_or, or_false, Classical.not_not, if_true, if_false, if_pos, if_neg] <;> omega), eQ, nCL (by omega), nCL (by omega)]
      by_cases c3 : k = D + 1
      · rw [if_pos (by rw [c3]), if_pos (by simp (disch := first | omega | assumption) only [fa_lit, nLE, nLT, nEQ, nI_add, nSA, nSUB, pk_mul, nDIV, nREM, nCL, fa_and, nx_xor, fa_or, nSHL, nSHR, nUS, n31, n255, Nat.and_one_is_mod, b_I, b_V, b_L, not_or, Nat.not_lt_zero, Nat.not_le, Nat.not_lt, not_false_eq_true, true_and, and_true, false_or, or_false, Classical.not_not, if_true, if_false, if_pos, if_neg] <;> omega), M_sum1 hn hE1 V1 hv (fun r hr e => absurd e (nM1' (by omega))), b_I, V1 (D + 1) (by omega), nx_xor]
        rw [if_pos c3] at fin
        exact fin
      · rw [if_neg (by rw [nEQ _ _ (by omega) (by omega)]; exact c3), if_pos (by simp (disch := first | omega | assumption) only [fa_lit, nLE, nLT, nEQ, nI_add, nSA, nSUB, pk_mul, nDIV, nREM, nCL, fa_and, nx_xor, fa_or, nSHL, nSHR, nUS, n31, n255, Nat.and_one_is_mod, b_I, b_V, b_L, not_or, Nat.not_lt_zero, Nat.not_le, Nat.not_lt, not_false_eq_true, true_and, and_true, false_or, or_false, Classical.not_not, if_true, if_false, if_pos, if_neg] <;> omega), M_sum0 hn hE1 V1 (fun r hr e => absurd e (nM1' (by omega))), b_I, V1 D (by omega), nx_xor]
        rw [if_neg c3] at fin
        exact fin
