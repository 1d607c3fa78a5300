/-! the act: rebuild -/
theorem th_don {D t : Nat} {s s' : Sh} (h : s.don = s'.don) : th D s t = th D s' t := by
  funext r
  unfold th
  rw [h]
theorem th_w {D t : Nat} {s : Sh} {f : Nat → Nat} (h : ∀ r, t < f (dk D t r) ↔ t < s.don (dk D t r)) : th D (s.w_don f) t = th D s t := by
  funext r
  unfold th
  rw [wdon_don]
  exact decide_eq_decide.mpr (h r)
theorem gv_w {F D t b : Nat} {s : Sh} {f : Nat → Nat} (h : th D (s.w_don f) t = th D s t) : gv F D (s.w_don f) t b = gv F D s t b := by
  unfold gv
  rw [h]
  rfl
theorem rbB_w {F D t b k : Nat} {s : Sh} {f : Nat → Nat} (h : th D (s.w_don f) t = th D s t) : rbB F D (s.w_don f) t b k = (rbB F D s t b k).w_don f := by
  unfold rbB
  rw [gv_w h, h]
  rfl
theorem rbB_byt2 {F D t b k : Nat} {s : Sh} {e t1 b1 : Nat} (h : t1 ≠ t) : (rbB F D s t b k).byt e t1 b1 = s.byt e t1 b1 := by
  show bs D t b (fun r => decide (r = k)) (gv F D s t b) s.byt e t1 b1 = _
  unfold bs
  rw [if_neg (fun z => h z.2.1)]
theorem rbC_byt2 {F D t r : Nat} {s : Sh} {e t1 b1 : Nat} (h : t1 ≠ t) : ∀ k, (rbC F D s t r k).byt e t1 b1 = s.byt e t1 b1
  | 0 => rfl
  | k + 1 => by rw [rbC, rbB_byt2 h, rbC_byt2 h k]
theorem rbC_lo (F D : Nat) (s : Sh) (t k : Nat) : ∀ b, (rbC F D s t k b).lo = s.lo
  | 0 => rfl
  | b + 1 => (rbC_lo F D s t k b : _)
def rbN (F D C : Nat) (s : Sh) (d t0 : Nat) : Nat → Sh
  | 0 => s
  | k + 1 => (rbC F D (rbN F D C s d t0 k) (t0 + k) (rl D (t0 + k) d) C).w_don (ud (rbN F D C s d t0 k).don d (t0 + k + 1))
def rbK (F D S C : Nat) (s : Sh) (d t0 k : Nat) : Sh := if t0 + k = S then (rbN F D C s d t0 k).w_how (ud (rbN F D C s d t0 k).how d 0) else rbN F D C s d t0 k
theorem rbN_how (F D C : Nat) (s : Sh) (d t0 : Nat) : ∀ k, (rbN F D C s d t0 k).how = s.how
  | 0 => rfl
  | k + 1 => ((rbC_how F D (rbN F D C s d t0 k) (t0 + k) (rl D (t0 + k) d) C).trans (rbN_how F D C s d t0 k) : _)
theorem rbN_lo (F D C : Nat) (s : Sh) (d t0 : Nat) : ∀ k, (rbN F D C s d t0 k).lo = s.lo
  | 0 => rfl
  | k + 1 => ((rbC_lo F D (rbN F D C s d t0 k) (t0 + k) (rl D (t0 + k) d) C).trans (rbN_lo F D C s d t0 k) : _)
theorem rbN_don {F D C : Nat} {s : Sh} {d t0 : Nat} (h : s.don d = t0) : ∀ k e, (rbN F D C s d t0 k).don e = if e = d then t0 + k else s.don e
  | 0, e => by
    show s.don e = _
    by_cases c : e = d
    · rw [if_pos c, c, h]; rfl
    · rw [if_neg c]
  | k + 1, e => by
    show ud (rbN F D C s d t0 k).don d (t0 + k + 1) e = _
    unfold ud
    by_cases c : e = d
    · rw [if_pos c, if_pos c]; rfl
    · rw [if_neg c, if_neg c, rbN_don h k e, if_neg c]
theorem don_ok {D S C d x : Nat} {s : Sh} (hO : Ok D S C s) (hh : s.how d = 2) (hx : x < S) : Ok D S C (s.w_don (ud s.don d x)) := by
  refine ⟨hO.how, ?_, ?_, ?_, hO.byt, hO.two, hO.sp, hO.nx, hO.di⟩
  · intro e he q
    show ud s.don d x e = S
    have q' : s.how e = 0 := q
    rw [ud_ne (fun z => by rw [z, hh] at q'; exact absurd q' (by decide))]
    exact hO.h0 e he q'
  · intro e he q
    show ud s.don d x e = 0
    have q' : s.how e = 1 := q
    rw [ud_ne (fun z => by rw [z, hh] at q'; exact absurd q' (by decide))]
    exact hO.h1 e he q'
  · intro e he q
    show ud s.don d x e < S
    unfold ud
    by_cases c : e = d
    · rw [if_pos c]; exact hx
    · rw [if_neg c]; exact hO.h2 e he q
theorem rbN_ok {F D S C : Nat} {s : Sh} {d t0 : Nat} (h1 : D < 7) (h2 : 2 ≤ D) (hF : F < 4) (hS : S ≤ 12) (hO : Ok D S C s) (hh : s.how d = 2) : ∀ k, t0 + k < S → Ok D S C (rbN F D C s d t0 k)
  | 0, _ => hO
  | k + 1, hk => by
    have h := rbC_ok (F := F) (t := t0 + k) (k := rl D (t0 + k) d) h1 h2 hF (by omega) (rbN_ok (F := F) (t0 := t0) h1 h2 hF hS hO hh k (by omega)) C
    have e := don_ok (d := d) (x := t0 + k + 1) h (by rw [rbC_how, rbN_how]; exact hh) (by omega)
    rw [rbC_don] at e
    exact e
theorem rbK_ok {F D S C : Nat} {s : Sh} {d t0 k : Nat} (h1 : D < 7) (h2 : 2 ≤ D) (hF : F < 4) (hS : S ≤ 12) (hO : Ok D S C s) (hd : d < 8) (hh : s.how d = 2) (h0 : s.don d = t0) (hk : t0 + k ≤ S) (h1k : 0 < k) : Ok D S C (rbK F D S C s d t0 k) := by
  unfold rbK
  by_cases c : t0 + k = S
  · rw [if_pos c]
    obtain ⟨k, rfl⟩ : ∃ q, k = q + 1 := ⟨k - 1, by omega⟩
    have h := rbC_ok (F := F) (t := t0 + k) (k := rl D (t0 + k) d) h1 h2 hF (by omega) (rbN_ok (F := F) (t0 := t0) h1 h2 hF hS hO hh k (by omega)) C
    have dn := rbN_don (F := F) (D := D) (C := C) h0 (k + 1)
    have hw : ∀ e, ((rbN F D C s d t0 (k + 1)).w_how (ud (rbN F D C s d t0 (k + 1)).how d 0)).how e = if e = d then 0 else s.how e := by
      intro e
      show ud (rbN F D C s d t0 (k + 1)).how d 0 e = _
      unfold ud
      rw [rbN_how]
    refine ⟨?_, ?_, ?_, ?_, h.byt, ?_, h.sp, h.nx, h.di⟩
    · intro e he
      rw [hw]
      by_cases q : e = d
      · rw [if_pos q]; omega
      · rw [if_neg q]; exact hO.how e he
    · intro e he q
      rw [hw] at q
      show (rbN F D C s d t0 (k + 1)).don e = S
      rw [dn]
      by_cases z : e = d
      · rw [if_pos z]; exact c
      · rw [if_neg z]; rw [if_neg z] at q; exact hO.h0 e he q
    · intro e he q
      rw [hw] at q
      show (rbN F D C s d t0 (k + 1)).don e = 0
      rw [dn]
      by_cases z : e = d
      · rw [if_pos z] at q; omega
      · rw [if_neg z]; rw [if_neg z] at q; exact hO.h1 e he q
    · intro e he q
      rw [hw] at q
      show (rbN F D C s d t0 (k + 1)).don e < S
      rw [dn]
      by_cases z : e = d
      · rw [if_pos z] at q; omega
      · rw [if_neg z]; rw [if_neg z] at q; exact hO.h2 e he q
    · refine Nat.le_trans (ct_mono ?_) hO.two
      intro e _ q
      simp only [decide_eq_true_eq] at q ⊢
      rw [hw] at q
      by_cases z : e = d
      · rw [if_pos z] at q; exact absurd rfl q
      · rw [if_neg z] at q; exact q
  · rw [if_neg c]
    exact rbN_ok h1 h2 hF hS hO hh k (by omega)
theorem X_rebStripe {D S C F n i t d : Nat} {s : Sh} {f0 : Nat → Nat} {σ : gM} (hn : 20 ≤ n) (hE : XE D S C F σ) (hO : Ok D S C (s.w_don f0)) (hf : ∀ r, t < f0 (dk D t r) ↔ t < s.don (dk D t r)) (hX : XS C (s.w_don f0) (σ.1 (11 + 5 * i))) (ht : t < S) (hd : d < D + 2) (K30 : Int32 → Int32 → Int32 → gM → Option (Int32 × gM)) (x : Int32) :
    ∃ σ', fX8_doRebuild_L48 n i K30 n (nI d) x (nI t) (nI (bm (fun r => !th D s t r) (D + 2))) 0 σ = K30 (nI d) x (nI (t + 1)) σ' ∧ XS C ((rbC F D s t (rl D t d) C).w_don f0) (σ'.1 (11 + 5 * i)) ∧ fr [11 + 5 * i, 13 + 5 * i] σ σ' ∧ (∀ b, b < C → rb (σ'.1 (11 + 5 * i)) d t b = nI ((rbC F D s t (rl D t d) C).byt d t b)) ∧ ∀ t1 b1, t1 ≠ t → t1 < 12 → b1 < 4 → rb (σ'.1 (11 + 5 * i)) d t1 b1 = rb (σ.1 (11 + 5 * i)) d t1 b1 := by
  have hw := hE.1
  have hw' := hw
  obtain ⟨w1, w2, w3, w4, w5, w6, w7⟩ := hw'
  have ht12 : t < 12 := by omega
  have et : ∀ k, th D ((rbC F D s t (rl D t d) k).w_don f0) t = th D (rbC F D s t (rl D t d) k) t := fun k => th_w (fun r => by rw [rbC_don]; exact hf r)
  have es : ∀ k, th D (rbC F D s t (rl D t d) k) t = th D s t := fun k => th_don (rbC_don F D s t (rl D t d) k)
  have hOk : ∀ k, Ok D S C ((rbC F D s t (rl D t d) k).w_don f0) := by
    intro k
    induction k with
    | zero => exact hO
    | succ k ih =>
      have := rbB_ok (F := F) (t := t) (b := k) (k := rl D t d) (by omega) w1 w7 ht12 ih
      rw [rbB_w (et k)] at this
      exact this
  refine lp (L := fun m k a => fX8_doRebuild_L48 n i K30 m (nI d) x (nI t) (nI (bm (fun r => !th D s t r) (D + 2))) (nI k) a) (I := fun k a => XS C ((rbC F D s t (rl D t d) k).w_don f0) (a.1 (11 + 5 * i)) ∧ fr [11 + 5 * i, 13 + 5 * i] σ a ∧ (∀ b, b < k → rb (a.1 (11 + 5 * i)) d t b = nI ((rbC F D s t (rl D t d) k).byt d t b)) ∧ ∀ t1 b1, t1 ≠ t → t1 < 12 → b1 < 4 → rb (a.1 (11 + 5 * i)) d t1 b1 = rb (σ.1 (11 + 5 * i)) d t1 b1) (Q := fun o => ∃ σ', o = K30 (nI d) x (nI (t + 1)) σ' ∧ XS C ((rbC F D s t (rl D t d) C).w_don f0) (σ'.1 (11 + 5 * i)) ∧ fr [11 + 5 * i, 13 + 5 * i] σ σ' ∧ (∀ b, b < C → rb (σ'.1 (11 + 5 * i)) d t b = nI ((rbC F D s t (rl D t d) C).byt d t b)) ∧ ∀ t1 b1, t1 ≠ t → t1 < 12 → b1 < 4 → rb (σ'.1 (11 + 5 * i)) d t1 b1 = rb (σ.1 (11 + 5 * i)) d t1 b1) (N := C) ?_ ?_ C n 0 σ (by omega) (by omega) ⟨hX, fr_refl _ _, fun b hb => absurd hb (Nat.not_lt_zero _), fun _ _ _ _ _ => rfl⟩
  · intro m k a hk ha
    obtain ⟨a1, a2, a3, a4⟩ := ha
    have hEa := XE_fr hE a2 (by simp <;> omega) (by simp <;> omega) (by simp <;> omega) (by simp <;> omega)
    obtain ⟨σ', e, X', f', r'⟩ := X_rebByte hn hEa (hOk k) a1 ht hk hd K30 (fX8_doRebuild_L48 n i K30 m) x
    rw [gv_w (et k)] at r'
    rw [rbB_w (et k)] at X'
    rw [et k, es k] at e
    refine Or.inl ⟨σ', e, X', fr_trans a2 f', ?_, ?_⟩
    · intro b hb
      show _ = nI ((rbB F D (rbC F D s t (rl D t d) k) t k (rl D t d)).byt d t b)
      rw [r' d t b (by omega) ht12 (by omega), rbB_byt (by omega) w1 ht12 hd]
      by_cases c : b = k
      · rw [if_pos ⟨rfl, rfl, c⟩, if_pos c]
      · rw [if_neg (fun z => c z.2.2), if_neg c]; exact a3 b (by omega)
    · intro t1 b1 h1 h2 h3
      rw [r' d t1 b1 (by omega) h2 h3, if_neg (fun z => h1 z.2.1)]
      exact a4 t1 b1 h1 h2 h3
  · intro m a ha
    obtain ⟨a1, a2, a3, a4⟩ := ha
    have hEa := XE_fr hE a2 (by simp <;> omega) (by simp <;> omega) (by simp <;> omega) (by simp <;> omega)
    obtain ⟨h0, h1, h2, h3, h5, h6, h7, h8, h9⟩ := hEa.2.1
    refine ⟨a, ?_, a1, a2, a3, a4⟩
    show fX8_doRebuild_b48 n i K30 (fX8_doRebuild_L48 n i K30 m) (nI d) x (nI t) _ (nI C) a = _
    unfold fX8_doRebuild_b48
    rw [h2, if_pos (by simp (disch := first | omega | assumption) only [fa_lit, nLE, nLT, nEQ, nI_add, nSA, nSUB, pk_mul, nDIV, nREM, nCL, fa_and, nx_xor, fa_or, nSHL, nSHR, nUS, n31, n255, Nat.and_one_is_mod, b_I, b_V, b_L, not_or, Nat.not_lt_zero, Nat.not_le, Nat.not_lt, not_false_eq_true, true_and, and_true, false_or, or_false, Classical.not_not, if_true, if_false, if_pos, if_neg] <;> omega), show nI t + 1 = nI (t + 1) from nI_add t 1]
theorem Sh_ww (s : Sh) (f g : Nat → Nat) : (s.w_don f).w_don g = s.w_don g := rfl
theorem Sh_we (s : Sh) : s.w_don s.don = s := rfl
theorem X_doRebuild {D S C F n i d m0 : Nat} {s : Sh} {σ : gM} (hn : 20 ≤ n) (hE : XE D S C F σ) (hO : Ok D S C s) (hX : XS C s (σ.1 (11 + 5 * i))) (hd : d < D + 2) (hh : s.how d = 2) (hm : m0 < 13) :
    ∃ σ', fX8_doRebuild n i (nI d) (nI m0) σ = some (nI (s.don d + min m0 (S - s.don d)), σ') ∧ XS C (rbK F D S C s d (s.don d) (min m0 (S - s.don d))) (σ'.1 (11 + 5 * i)) ∧ fr [11 + 5 * i, 13 + 5 * i] σ σ' := by
  have hw := hE.1
  have hw' := hw
  obtain ⟨w1, w2, w3, w4, w5, w6, w7⟩ := hw'
  obtain ⟨h0, h1, h2, h3, h5, h6, h7, h8, h9⟩ := hE.2.1
  have ht := hO.h2 d (by omega) hh
  generalize hT : s.don d = t0 at *
  generalize hK : min m0 (S - t0) = K
  have hK1 : t0 + K ≤ S ∧ K ≤ m0 ∧ (t0 + K = S ∨ K = m0) := by omega
  have e0 : (if nI S < nI (t0 + m0) then nI S else nI (t0 + m0)) = nI (t0 + K) := by
    by_cases c : S < t0 + m0
    · rw [if_pos (by simp (disch := first | omega | assumption) only [fa_lit, nLE, nLT, nEQ, nI_add, nSA, nSUB, pk_mul, nDIV, nREM, nCL, fa_and, nx_xor, fa_or, nSHL, nSHR, nUS, n31, n255, Nat.and_one_is_mod, b_I, b_V, b_L, not_or, Nat.not_lt_zero, Nat.not_le, Nat.not_lt, not_false_eq_true, true_and, and_true, false_or, or_false, Classical.not_not, if_true, if_false, if_pos, if_neg] <;> omega), show t0 + K = S by omega]
    · rw [if_neg (by simp (disch := first | omega | assumption) only [fa_lit, nLE, nLT, nEQ, nI_add, nSA, nSUB, pk_mul, nDIV, nREM, nCL, fa_and, nx_xor, fa_or, nSHL, nSHR, nUS, n31, n255, Nat.and_one_is_mod, b_I, b_V, b_L, not_or, Nat.not_lt_zero, Nat.not_le, Nat.not_lt, not_false_eq_true, true_and, and_true, false_or, or_false, Classical.not_not, if_true, if_false, if_pos, if_neg] <;> omega), show t0 + K = t0 + m0 by omega]
  unfold fX8_doRebuild
  rw [show (104 : Int32) + nI d = nI (104 + d) from nI_add 104 d, X_get (by omega), b_I, hX.don d (by omega), hT, h1, nI_add, e0]
  have dn := rbN_don (F := F) (D := D) (C := C) hT
  have hN : ∀ k, t0 + k < S → Ok D S C ((rbN F D C s d t0 k).w_don s.don) := by
    intro k hk
    have a := don_ok (d := d) (x := t0) (rbN_ok (F := F) (t0 := t0) (by omega) w1 w7 w4 hO hh k hk) (by rw [rbN_how]; exact hh) ht
    have e : ud (rbN F D C s d t0 k).don d t0 = s.don := by
      funext e
      unfold ud
      by_cases c : e = d
      · rw [if_pos c, c, hT]
      · rw [if_neg c, dn, if_neg c]
    rw [e] at a
    exact a
  refine lp (L := fun m k a => fX8_doRebuild_L30 n i m (nI d) (nI (t0 + K)) (nI (t0 + k)) a) (I := fun k a => XS C ((rbN F D C s d t0 k).w_don s.don) (a.1 (11 + 5 * i)) ∧ fr [11 + 5 * i, 13 + 5 * i] σ a ∧ ∀ t1 b1, t0 ≤ t1 → t1 < t0 + k → b1 < C → rb (a.1 (11 + 5 * i)) d t1 b1 = nI ((rbN F D C s d t0 k).byt d t1 b1)) (Q := fun o => ∃ σ', o = some (nI (t0 + K), σ') ∧ XS C (rbK F D S C s d t0 K) (σ'.1 (11 + 5 * i)) ∧ fr [11 + 5 * i, 13 + 5 * i] σ σ') (N := K) ?_ ?_ K n 0 σ (by omega) (by omega) ⟨hX, fr_refl _ _, fun t1 b1 a b => absurd b (by omega)⟩
  · intro m k a hk ha
    obtain ⟨a1, a2, a3⟩ := ha
    have hEa := XE_fr hE a2 (by simp <;> omega) (by simp <;> omega) (by simp <;> omega) (by simp <;> omega)
    have hf : ∀ r, t0 + k < s.don (dk D (t0 + k) r) ↔ t0 + k < (rbN F D C s d t0 k).don (dk D (t0 + k) r) := by
      intro r
      rw [dn]
      by_cases c : dk D (t0 + k) r = d
      · rw [if_pos c, c, hT]; omega
      · rw [if_neg c]
    have hOk := hN k (by omega)
    have em := X_missing (n := n) (i := i) (t := t0 + k) hn hEa (Ok_don hOk w4) a1 (by omega)
    rw [th_w hf] at em
    obtain ⟨σ', e, X', f', r1, r2⟩ := X_rebStripe hn hEa hOk hf a1 (by omega) hd (fX8_doRebuild_L30 n i m) (nI (t0 + K))
    refine Or.inl ⟨σ', ?_, X', fr_trans a2 f', ?_⟩
    · show fX8_doRebuild_b30 n i (fX8_doRebuild_L30 n i m) (nI d) (nI (t0 + K)) (nI (t0 + k)) a = _
      unfold fX8_doRebuild_b30
      rw [if_neg (by simp (disch := first | omega | assumption) only [fa_lit, nLE, nLT, nEQ, nI_add, nSA, nSUB, pk_mul, nDIV, nREM, nCL, fa_and, nx_xor, fa_or, nSHL, nSHR, nUS, n31, n255, Nat.and_one_is_mod, b_I, b_V, b_L, not_or, Nat.not_lt_zero, Nat.not_le, Nat.not_lt, not_false_eq_true, true_and, and_true, false_or, or_false, Classical.not_not, if_true, if_false, if_pos, if_neg] <;> omega), em, b_I, e]
      rfl
    · intro t1 b1 q1 q2 q3
      show _ = nI ((rbC F D (rbN F D C s d t0 k) (t0 + k) (rl D (t0 + k) d) C).byt d t1 b1)
      by_cases c : t1 = t0 + k
      · rw [c]; exact r1 b1 q3
      · rw [r2 t1 b1 c (by omega) (by omega), rbC_byt2 c]
        exact a3 t1 b1 q1 (by omega) q3
  · intro m a ha
    obtain ⟨a1, a2, a3⟩ := ha
    have hEa := XE_fr hE a2 (by simp <;> omega) (by simp <;> omega) (by simp <;> omega) (by simp <;> omega)
    have X2 := XS_don (d := d) (x := t0 + K) a1 (by omega) (by
      intro t1 b1 q1 q2 q3
      by_cases c : t0 ≤ t1
      · exact a3 t1 b1 c q3 q2
      · exact a1.byt d t1 b1 (by omega) q1 q2 (by show t1 < s.don d; omega))
    have e2 : ((rbN F D C s d t0 K).w_don s.don).w_don (ud ((rbN F D C s d t0 K).w_don s.don).don d (t0 + K)) = rbN F D C s d t0 K := by
      rw [Sh_ww, wdon_don]
      have e : ud s.don d (t0 + K) = (rbN F D C s d t0 K).don := by
        funext e
        rw [dn]
        rfl
      rw [e, Sh_we]
    rw [e2] at X2
    have f2 : fr [11 + 5 * i, 13 + 5 * i] a (g_put a (11 + 5 * i) (104 + d) (nI (t0 + K))) := fr_put _ _ _ (by simp)
    have hE2 := XE_fr hEa f2 (by simp <;> omega) (by simp <;> omega) (by simp <;> omega) (by simp <;> omega)
    obtain ⟨j0, j1, j2, j3, j5, j6, j7, j8, j9⟩ := hE2.2.1
    show ∃ σ', fX8_doRebuild_b30 n i (fX8_doRebuild_L30 n i m) (nI d) (nI (t0 + K)) (nI (t0 + K)) a = some (nI (t0 + K), σ') ∧ _
    unfold fX8_doRebuild_b30 fX8_doRebuild_b164 rbK
    rw [if_pos (by simp (disch := first | omega | assumption) only [fa_lit, nLE, nLT, nEQ, nI_add, nSA, nSUB, pk_mul, nDIV, nREM, nCL, fa_and, nx_xor, fa_or, nSHL, nSHR, nUS, n31, n255, Nat.and_one_is_mod, b_I, b_V, b_L, not_or, Nat.not_lt_zero, Nat.not_le, Nat.not_lt, not_false_eq_true, true_and, and_true, false_or, or_false, Classical.not_not, if_true, if_false, if_pos, if_neg] <;> omega), show (104 : Int32) + nI d = nI (104 + d) from nI_add 104 d, X_set (by omega), b_V, j1]
    by_cases c : t0 + K = S
    · rw [if_pos (by rw [c]), show (96 : Int32) + nI d = nI (96 + d) from nI_add 96 d, X_set (by omega), b_V, if_pos c]
      exact ⟨_, rfl, XS_how (x := 0) X2 (by omega), fr_trans a2 (fr_trans f2 (fr_put _ _ _ (by simp)))⟩
    · rw [if_neg (by rw [nEQ _ _ (by omega) (by omega)]; exact c), if_neg c]
      exact ⟨_, rfl, X2, fr_trans a2 f2⟩
theorem rbT_N {F D S C : Nat} {s : Sh} {d t0 k : Nat} (h : s.don d = t0) : rbT F D S C (rbN F D C s d t0 k) d = rbK F D S C s d t0 (k + 1) := by
  have e : (rbN F D C s d t0 k).don d = t0 + k := by rw [rbN_don h, if_pos rfl]
  unfold rbT rbK
  rw [e, rbN_how]
  by_cases c : t0 + k + 1 = S
  · rw [if_pos c, if_pos (by omega), rbN, wdon_how, rbC_how, rbN_how]
  · rw [if_neg c, if_neg (by omega), rbN]
theorem M_doRebuild {D S C F n w d m0 : Nat} {s : Sh} {σ : gM} (hn : 20 ≤ n) (hE : ME D S C F σ) (hO : Ok D S C s) (hX : MS C s (σ.1 w) 0) (hw1 : 10 ≤ w) (hw2 : w ≤ 13) (hd : d < D + 2) (hh : s.how d = 2) (h1m : 0 < m0) (hm : m0 < 13) :
    ∃ σ', fX12_does_L151 n w n (nI d) (nI m0) 0 σ = some (-1, σ') ∧ σ'.1 0 29 = nI (s.don d + min m0 (S - s.don d)) ∧ MS C (rbK F D S C s d (s.don d) (min m0 (S - s.don d))) (σ'.1 w) 0 ∧ gj [w, 14, 15] [29] σ σ' := by
  have hw := hE.1
  have hw' := hw
  obtain ⟨w1, w2, w3, w4, w5, w6, w7⟩ := hw'
  have ht := hO.h2 d (by omega) hh
  have ed := hX.don d (by omega) (by omega)
  rw [Nat.zero_add] at ed
  generalize hT : s.don d = t0 at *
  generalize hK : min m0 (S - t0) = K
  have hK1 : t0 + K ≤ S ∧ K ≤ m0 ∧ (t0 + K = S ∨ K = m0) ∧ 0 < K := by omega
  refine lp (L := fun m k a => fX12_does_L151 n w m (nI d) (nI m0) (nI k) a) (I := fun k a => MS C (rbK F D S C s d t0 k) (a.1 w) 0 ∧ fr [w, 14, 15] σ a ∧ a.1 w (392 + d) = nI (t0 + k)) (Q := fun o => ∃ σ', o = some (-1, σ') ∧ σ'.1 0 29 = nI (t0 + K) ∧ MS C (rbK F D S C s d t0 K) (σ'.1 w) 0 ∧ gj [w, 14, 15] [29] σ σ') (N := K) ?_ ?_ K n 0 σ (by omega) (by omega) ⟨by unfold rbK; rw [if_neg (by omega)]; exact hX, fr_refl _ _, ed⟩
  · intro m k a hk ha
    obtain ⟨a1, a2, a3⟩ := ha
    have hEa := ME_fr hE a2 (by simp; omega) (by simp; omega) (by simp; omega) (by simp; omega)
    have ek : rbK F D S C s d t0 k = rbN F D C s d t0 k := by unfold rbK; rw [if_neg (by omega)]
    rw [ek] at a1
    have hho : (rbN F D C s d t0 k).how d = 2 := by rw [rbN_how]; exact hh
    have eh := a1.how d (by omega)
    rw [Nat.zero_add, hho] at eh
    obtain ⟨σ', e, X', f', r'⟩ := M_rebuilds hn hEa (rbN_ok (F := F) (by omega) w1 w7 w4 hO hh k (by omega)) a1 hw1 hw2 hd hho
    rw [rbT_N hT] at X'
    rw [rbN_don hT, if_pos rfl] at r'
    refine Or.inl ⟨σ', ?_, X', fr_trans a2 f', r'⟩
    show fX12_does_b151 n w (fX12_does_L151 n w m) (nI d) (nI m0) (nI k) a = _
    unfold fX12_does_b151
    rw [if_neg (by simp (disch := first | omega | assumption) only [fa_lit, nLE, nLT, nEQ, nI_add, nSA, nSUB, pk_mul, nDIV, nREM, nCL, fa_and, nx_xor, fa_or, nSHL, nSHR, nUS, n31, n255, Nat.and_one_is_mod, b_I, b_V, b_L, not_or, Nat.not_lt_zero, Nat.not_le, Nat.not_lt, not_false_eq_true, true_and, and_true, false_or, or_false, Classical.not_not, if_true, if_false, if_pos, if_neg] <;> omega), show (384 : Int32) + nI d = nI (384 + d) from nI_add 384 d, nCL (by omega), if_pos (by simp (disch := first | omega | assumption) only [fa_lit, nLE, nLT, nEQ, nI_add, nSA, nSUB, pk_mul, nDIV, nREM, nCL, fa_and, nx_xor, fa_or, nSHL, nSHR, nUS, n31, n255, Nat.and_one_is_mod, b_I, b_V, b_L, not_or, Nat.not_lt_zero, Nat.not_le, Nat.not_lt, not_false_eq_true, true_and, and_true, false_or, or_false, Classical.not_not, if_true, if_false, if_pos, if_neg] <;> omega), eh, if_pos (show nI 2 = 2 from rfl), e, b_V, show nI k + 1 = nI (k + 1) from nI_add k 1]
  · intro m a ha
    obtain ⟨a1, a2, a3⟩ := ha
    have eh := a1.how d (by omega)
    rw [Nat.zero_add] at eh
    have fin : ∃ σ', fX12_does_b181 n w (nI d) a = some (-1, σ') ∧ σ'.1 0 29 = nI (t0 + K) ∧ MS C (rbK F D S C s d t0 K) (σ'.1 w) 0 ∧ gj [w, 14, 15] [29] σ σ' := by
      unfold fX12_does_b181
      rw [show (392 : Int32) + nI d = nI (392 + d) from nI_add 392 d, nCL (by omega), if_pos (by simp (disch := first | omega | assumption) only [fa_lit, nLE, nLT, nEQ, nI_add, nSA, nSUB, pk_mul, nDIV, nREM, nCL, fa_and, nx_xor, fa_or, nSHL, nSHR, nUS, n31, n255, Nat.and_one_is_mod, b_I, b_V, b_L, not_or, Nat.not_lt_zero, Nat.not_le, Nat.not_lt, not_false_eq_true, true_and, and_true, false_or, or_false, Classical.not_not, if_true, if_false, if_pos, if_neg] <;> omega), b_L, a3]
      refine ⟨_, rfl, gp_s _ _ _ _, ?_, gj_trans (gj_fr a2 (by simp; omega)) (gj_put0 _ _ (by simp))⟩
      rw [show (g_put a 0 29 (nI (t0 + K))).1 w = a.1 w from g_put_o a 0 29 _ w (by omega)]
      exact a1
    show ∃ σ', fX12_does_b151 n w (fX12_does_L151 n w m) (nI d) (nI m0) (nI K) a = some (-1, σ') ∧ _
    unfold fX12_does_b151
    by_cases c : m0 ≤ K
    · rw [if_pos (by simp (disch := first | omega | assumption) only [fa_lit, nLE, nLT, nEQ, nI_add, nSA, nSUB, pk_mul, nDIV, nREM, nCL, fa_and, nx_xor, fa_or, nSHL, nSHR, nUS, n31, n255, Nat.and_one_is_mod, b_I, b_V, b_L, not_or, Nat.not_lt_zero, Nat.not_le, Nat.not_lt, not_false_eq_true, true_and, and_true, false_or, or_false, Classical.not_not, if_true, if_false, if_pos, if_neg] <;> omega)]
      exact fin
    · have ek : (rbK F D S C s d t0 K).how d = 0 := by
        unfold rbK
        rw [if_pos (by omega)]
        show ud _ d 0 d = 0
        rw [ud_eq]
      rw [ek] at eh
      rw [if_neg (by simp (disch := first | omega | assumption) only [fa_lit, nLE, nLT, nEQ, nI_add, nSA, nSUB, pk_mul, nDIV, nREM, nCL, fa_and, nx_xor, fa_or, nSHL, nSHR, nUS, n31, n255, Nat.and_one_is_mod, b_I, b_V, b_L, not_or, Nat.not_lt_zero, Nat.not_le, Nat.not_lt, not_false_eq_true, true_and, and_true, false_or, or_false, Classical.not_not, if_true, if_false, if_pos, if_neg] <;> omega), show (384 : Int32) + nI d = nI (384 + d) from nI_add 384 d, nCL (by omega), if_pos (by simp (disch := first | omega | assumption) only [fa_lit, nLE, nLT, nEQ, nI_add, nSA, nSUB, pk_mul, nDIV, nREM, nCL, fa_and, nx_xor, fa_or, nSHL, nSHR, nUS, n31, n255, Nat.and_one_is_mod, b_I, b_V, b_L, not_or, Nat.not_lt_zero, Nat.not_le, Nat.not_lt, not_false_eq_true, true_and, and_true, false_or, or_false, Classical.not_not, if_true, if_false, if_pos, if_neg] <;> omega), eh, if_neg (by decide)]
      exact fin
