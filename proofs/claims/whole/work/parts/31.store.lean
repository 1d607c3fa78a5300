/-! counting and storing by roles -/
def cn (D t : Nat) (p : Nat → Bool) (f : Nat → Nat) : Nat → Nat := fun e => if e < D + 2 ∧ p (rl D t e) = true then f e + 1 else f e
def bs (D t b : Nat) (p : Nat → Bool) (v : Nat → Nat) (B : Nat → Nat → Nat → Nat) : Nat → Nat → Nat → Nat := fun e t1 b1 => if e < D + 2 ∧ t1 = t ∧ b1 = b ∧ p (rl D t e) = true then v (rl D t e) else B e t1 b1
theorem bump_ud (f : Nat → Nat) (d : Nat) : bump f d = ud f d (f d + 1) := by
  funext e
  unfold bump ud
  by_cases h : e = d
  · rw [if_pos h, if_pos h, h]
  · rw [if_neg h, if_neg h]
theorem cn_ext {D t : Nat} {p q : Nat → Bool} {f : Nat → Nat} (h1 : D < 7) (h2 : 2 ≤ D) (ht : t < 12) (h : ∀ r, r < D + 2 → p r = q r) : cn D t p f = cn D t q f := by
  funext e
  unfold cn
  by_cases he : e < D + 2
  · rw [h _ (rl_ok D h1 h2 t ht e he).1]
  · rw [if_neg (fun a => he a.1), if_neg (fun a => he a.1)]
theorem cn_none {D t : Nat} {p : Nat → Bool} {f : Nat → Nat} (h1 : D < 7) (h2 : 2 ≤ D) (ht : t < 12) (h : ∀ r, r < D + 2 → p r = false) : cn D t p f = f := by
  funext e
  unfold cn
  rw [if_neg]
  intro a
  rw [h _ (rl_ok D h1 h2 t ht e a.1).1] at a
  exact absurd a.2 (by decide)
theorem cn_bump {D t k : Nat} {p q : Nat → Bool} {f : Nat → Nat} (h1 : D < 7) (h2 : 2 ≤ D) (ht : t < 12) (hk : k < D + 2) (hp : p k = false) (hq : q k = true) (h : ∀ r, r < D + 2 → r ≠ k → q r = p r) : bump (cn D t p f) (dk D t k) = cn D t q f := by
  have hd := dk_ok D h1 h2 t ht k hk
  funext e
  unfold bump cn
  by_cases he : e = dk D t k
  · subst he
    rw [if_pos rfl, hd.2, if_neg (by rw [hp]; simp), if_pos ⟨hd.1, hq⟩]
  · rw [if_neg he]
    by_cases he2 : e < D + 2
    · have hr := rl_ok D h1 h2 t ht e he2
      have : rl D t e ≠ k := fun a => he (by rw [← a, hr.2])
      rw [h _ hr.1 this]
    · rw [if_neg (fun a => he2 a.1), if_neg (fun a => he2 a.1)]
theorem bs_ext {D t b : Nat} {p q : Nat → Bool} {v w : Nat → Nat} {B : Nat → Nat → Nat → Nat} (h1 : D < 7) (h2 : 2 ≤ D) (ht : t < 12) (h : ∀ r, r < D + 2 → p r = q r) (hv : ∀ r, r < D + 2 → p r = true → v r = w r) : bs D t b p v B = bs D t b q w B := by
  funext e t1 b1
  unfold bs
  by_cases he : e < D + 2
  · have hr := rl_ok D h1 h2 t ht e he
    rw [← h _ hr.1]
    by_cases c : e < D + 2 ∧ t1 = t ∧ b1 = b ∧ p (rl D t e) = true
    · rw [if_pos c, if_pos c, hv _ hr.1 c.2.2.2]
    · rw [if_neg c, if_neg c]
  · rw [if_neg (fun a => he a.1), if_neg (fun a => he a.1)]
theorem bs_none {D t b : Nat} {p : Nat → Bool} {v : Nat → Nat} {B : Nat → Nat → Nat → Nat} (h1 : D < 7) (h2 : 2 ≤ D) (ht : t < 12) (h : ∀ r, r < D + 2 → p r = false) : bs D t b p v B = B := by
  funext e t1 b1
  unfold bs
  rw [if_neg]
  intro a
  rw [h _ (rl_ok D h1 h2 t ht e a.1).1] at a
  exact absurd a.2.2.2 (by decide)
theorem bs_put {D t b k : Nat} {p q : Nat → Bool} {v : Nat → Nat} {B : Nat → Nat → Nat → Nat} (h1 : D < 7) (h2 : 2 ≤ D) (ht : t < 12) (hk : k < D + 2) (hq : q k = true) (h : ∀ r, r < D + 2 → r ≠ k → q r = p r) : (fun e t1 b1 => if e = dk D t k ∧ t1 = t ∧ b1 = b then v k else bs D t b p v B e t1 b1) = bs D t b q v B := by
  have hd := dk_ok D h1 h2 t ht k hk
  funext e t1 b1
  unfold bs
  by_cases he : e = dk D t k
  · subst he
    rw [hd.2]
    by_cases c : t1 = t ∧ b1 = b
    · rw [if_pos ⟨rfl, c⟩, if_pos ⟨hd.1, c.1, c.2, hq⟩]
    · rw [if_neg (fun a => c a.2), if_neg (fun a => c ⟨a.2.1, a.2.2.1⟩), if_neg (fun a => c ⟨a.2.1, a.2.2.1⟩)]
  · rw [if_neg (fun a => he a.1)]
    by_cases he2 : e < D + 2
    · have hr := rl_ok D h1 h2 t ht e he2
      have : rl D t e ≠ k := fun a => he (by rw [← a, hr.2])
      rw [h _ hr.1 this]
    · rw [if_neg (fun a => he2 a.1), if_neg (fun a => he2 a.1)]
theorem XS_byt {C : Nat} {s : Sh} {A A' : Nat → Int32} {B : Nat → Nat → Nat → Nat} (h : XS C s A) (h96 : ∀ k, 96 ≤ k → A' k = A k) (hb : ∀ e t b, e < 8 → t < 12 → b < C → t < s.don e → rb A' e t b = nI (B e t b)) : XS C (s.w_byt B) A' :=
  ⟨hb, fun e he => by rw [h96 _ (by omega)]; exact h.how e he, fun e he => by rw [h96 _ (by omega)]; exact h.don e he, fun e he => by rw [h96 _ (by omega)]; exact h.rd e he, fun e he => by rw [h96 _ (by omega)]; exact h.wr e he, fun e he => by rw [h96 _ (by omega)]; exact h.md e he, by rw [h96 _ (by omega)]; exact h.sp, by rw [h96 _ (by omega)]; exact h.op, by rw [h96 _ (by omega)]; exact h.ps, by rw [h96 _ (by omega)]; exact h.nx, by rw [h96 _ (by omega)]; exact h.di, by rw [h96 _ (by omega)]; exact h.l0, by rw [h96 _ (by omega)]; exact h.l1, by rw [h96 _ (by omega)]; exact h.l2⟩
theorem rb_put {σ : gM} {p d t b e t1 b1 : Nat} {v : Int32} (ht : t < 12) (hb : b < 4) (ht1 : t1 < 12) (hb1 : b1 < 4) : rb ((g_put σ p (d * 12 + t) ((σ.1 p (d * 12 + t) &&& ((nI 255 <<< nI (8 * b)) ^^^ -1)) ||| ((v &&& nI 255) <<< nI (8 * b)))).1 p) e t1 b1 = if e = d ∧ t1 = t ∧ b1 = b then v &&& nI 255 else rb (σ.1 p) e t1 b1 := by
  unfold rb
  rw [gp_k]
  by_cases c : e = d ∧ t1 = t
  · obtain ⟨rfl, rfl⟩ := c
    rw [if_pos rfl]
    by_cases c2 : b1 = b
    · subst c2
      rw [if_pos ⟨rfl, rfl, rfl⟩, pb_same _ _ hb]
    · rw [if_neg (fun a => c2 a.2.2), pb_other _ _ hb hb1 (fun a => c2 a.symm)]
  · rw [if_neg (by omega), if_neg (fun a => c ⟨a.1, a.2.1⟩)]
theorem X_countReads {D S C F n i t : Nat} {s : Sh} {σ : gM} {p : Nat → Bool} (hn : 20 ≤ n) (hE : XE D S C F σ) (hX : XS C s (σ.1 (11 + 5 * i))) (ht : t < 12) :
    ∃ σ', fX8_countReads n i (nI t) (nI (bm p (D + 2))) σ = some σ' ∧ XS C (s.w_rd (cn D t p s.rd)) (σ'.1 (11 + 5 * i)) ∧ fr [11 + 5 * i] σ σ' ∧ ∀ k, k < 96 → σ'.1 (11 + 5 * i) k = σ.1 (11 + 5 * i) k := by
  have hw := hE.1
  have hw' := hw
  obtain ⟨w1, w2, w3, w4, w5, w6, w7⟩ := hw'
  have hl := bm_lt8 (p := p) (show D + 2 ≤ 8 by omega)
  unfold fX8_countReads
  refine lp (L := fun m k a => fX8_countReads_L2 n i m (nI t) (nI (bm p (D + 2))) (nI k) a) (I := fun k a => XS C (s.w_rd (cn D t (fun r => p r && decide (r < k)) s.rd)) (a.1 (11 + 5 * i)) ∧ fr [11 + 5 * i] σ a ∧ ∀ j, j < 96 → a.1 (11 + 5 * i) j = σ.1 (11 + 5 * i) j) (Q := fun o => ∃ σ', o = some σ' ∧ XS C (s.w_rd (cn D t p s.rd)) (σ'.1 (11 + 5 * i)) ∧ fr [11 + 5 * i] σ σ' ∧ ∀ k, k < 96 → σ'.1 (11 + 5 * i) k = σ.1 (11 + 5 * i) k) (N := D + 2) ?_ ?_ (D + 2) n 0 σ (by omega) (by omega) ⟨?_, fr_refl _ _, fun _ _ => rfl⟩
  · intro m k a hk ha
    obtain ⟨a1, a2, a3⟩ := ha
    have hE' := XE_fr hE a2 (by simp <;> omega) (by simp <;> omega) (by simp <;> omega) (by simp <;> omega)
    have hR := hE'.2.1
    have hR' := hR
    obtain ⟨h0, h1, h2, h3, h5, h6, h7, h8, h9⟩ := hR'
    have hd := (dk_ok D (by omega) w1 t ht k hk).1
    have hbit := bm_bit (p := p) hk
    by_cases c : p k = true
    · simp only [c, if_true] at hbit
      refine Or.inl ⟨g_put a (11 + 5 * i) (112 + dk D t k) (nI (cn D t (fun r => p r && decide (r < k)) s.rd (dk D t k) + 1)), ?_, ?_, fr_trans a2 (fr_put _ _ _ (by simp)), ?_⟩
      · show fX8_countReads_b2 n i (fX8_countReads_L2 n i m) _ _ _ _ = _
        unfold fX8_countReads_b2 fX8_countReads_b41
        rw [h5, if_neg (by simp (disch := first | omega | assumption) only [fa_lit, nLE, nLT, nEQ, nI_add, nSA, nSUB, pk_mul, nDIV, nREM, nCL, fa_and, nx_xor, fa_or, nSHL, nSHR, nUS, n31, n255, Nat.and_one_is_mod, b_I, b_V, b_L, not_or, Nat.not_lt_zero, Nat.not_le, Nat.not_lt, not_false_eq_true, true_and, and_true, false_or, or_false, Classical.not_not, if_true, if_false, if_pos, if_neg] <;> omega), if_neg (by simp (disch := first | omega | assumption) only [fa_lit, nLE, nLT, nEQ, nI_add, nSA, nSUB, pk_mul, nDIV, nREM, nCL, fa_and, nx_xor, fa_or, nSHL, nSHR, nUS, n31, n255, Nat.and_one_is_mod, b_I, b_V, b_L, not_or, Nat.not_lt_zero, Nat.not_le, Nat.not_lt, not_false_eq_true, true_and, and_true, false_or, or_false, Classical.not_not, if_true, if_false, if_pos, if_neg, hbit] <;> omega), X_diskOf hw hR hk ht, b_I, show (112 : Int32) + nI (dk D t k) = nI (112 + dk D t k) from nI_add 112 _, X_add (by omega), b_V, a1.rd _ (by omega), show nI k + 1 = nI (k + 1) from nI_add k 1]
        rw [wrd_rd, show (1 : Int32) = nI 1 from rfl, nI_add]
      · have h := XS_rd (d := dk D t k) (x := cn D t (fun r => p r && decide (r < k)) s.rd (dk D t k) + 1) a1 (by omega)
        rw [wrd_rd, ← bump_ud, cn_bump (q := fun r => p r && decide (r < k + 1)) (by omega) w1 ht hk (by simp) (by simp [c]) (by
          intro r hr hne
          have : decide (r < k + 1) = decide (r < k) := by apply decide_eq_decide.mpr; omega
          simp only [this])] at h
        exact h
      · intro j hj
        rw [gp_k, if_neg (by omega)]; exact a3 j hj
    · simp only [c] at hbit
      refine Or.inl ⟨a, ?_, ?_, a2, a3⟩
      · show fX8_countReads_b2 n i (fX8_countReads_L2 n i m) _ _ _ _ = _
        unfold fX8_countReads_b2 fX8_countReads_b41
        rw [h5, if_neg (by simp (disch := first | omega | assumption) only [fa_lit, nLE, nLT, nEQ, nI_add, nSA, nSUB, pk_mul, nDIV, nREM, nCL, fa_and, nx_xor, fa_or, nSHL, nSHR, nUS, n31, n255, Nat.and_one_is_mod, b_I, b_V, b_L, not_or, Nat.not_lt_zero, Nat.not_le, Nat.not_lt, not_false_eq_true, true_and, and_true, false_or, or_false, Classical.not_not, if_true, if_false, if_pos, if_neg] <;> omega), if_pos (by simp (disch := first | omega | assumption) only [fa_lit, nLE, nLT, nEQ, nI_add, nSA, nSUB, pk_mul, nDIV, nREM, nCL, fa_and, nx_xor, fa_or, nSHL, nSHR, nUS, n31, n255, Nat.and_one_is_mod, b_I, b_V, b_L, not_or, Nat.not_lt_zero, Nat.not_le, Nat.not_lt, not_false_eq_true, true_and, and_true, false_or, or_false, Classical.not_not, if_true, if_false, if_pos, if_neg, hbit] <;> rfl), show nI k + 1 = nI (k + 1) from nI_add k 1]
      · rw [cn_ext (q := fun r => p r && decide (r < k)) (by omega) w1 ht (by
          intro r hr
          by_cases e : r = k
          · rw [e]; simp [c]
          · have : decide (r < k + 1) = decide (r < k) := by apply decide_eq_decide.mpr; omega
            simp only [this])]
        exact a1
  · intro m a ha
    obtain ⟨a1, a2, a3⟩ := ha
    have hE' := XE_fr hE a2 (by simp <;> omega) (by simp <;> omega) (by simp <;> omega) (by simp <;> omega)
    obtain ⟨h0, h1, h2, h3, h5, h6, h7, h8, h9⟩ := hE'.2.1
    refine ⟨a, ?_, ?_, a2, a3⟩
    · show fX8_countReads_b2 n i (fX8_countReads_L2 n i m) _ _ _ _ = _
      unfold fX8_countReads_b2
      rw [h5, if_pos (by simp (disch := first | omega | assumption) only [fa_lit, nLE, nLT, nEQ, nI_add, nSA, nSUB, pk_mul, nDIV, nREM, nCL, fa_and, nx_xor, fa_or, nSHL, nSHR, nUS, n31, n255, Nat.and_one_is_mod, b_I, b_V, b_L, not_or, Nat.not_lt_zero, Nat.not_le, Nat.not_lt, not_false_eq_true, true_and, and_true, false_or, or_false, Classical.not_not, if_true, if_false, if_pos, if_neg] <;> omega)]
    · rw [cn_ext (q := fun r => p r && decide (r < D + 2)) (by omega) w1 ht (by intro r hr; simp [hr])]
      exact a1
  · rw [cn_none (by omega) w1 ht (by intro r hr; simp)]
    exact hX
