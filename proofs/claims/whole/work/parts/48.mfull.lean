/-! the reference's full -/
def fk (x y : Nat) (v : Nat → Nat) (k : Nat) : Nat → Nat := fun r => if r < k then fv x y r else v r
theorem fk_a {x y k r : Nat} {v : Nat → Nat} (h : r < k) : fk x y v k r = fv x y r := if_pos h
theorem fk_b {x y k r : Nat} {v : Nat → Nat} (h : ¬ r < k) : fk x y v k r = v r := if_neg h
theorem M_fills {D S C F n w t b x y : Nat} {s : Sh} {σ : gM} (hn : 20 ≤ n) (hE : ME D S C F σ) (hO : Ok D S C s) (hX : MS C s (σ.1 w) 0) (hw1 : 10 ≤ w) (hw2 : w ≤ 13) (ht : t < S) (hb : b < C) (hx : x < 256) (hy : y < 256) :
    ∃ σ', fX12_fills n w (nI t) (nI b) (nI x) (nI y) σ = some (nI (ct (th D s t) (D + 2)), σ') ∧ MS C (fuS F D s t b x y) (σ'.1 w) 0 ∧ fr [w, 14, 15] σ σ' := by
  obtain ⟨w1, w2, w3, w4, w5, w6, w7⟩ := hE.1
  have ht12 : t < 12 := by omega
  obtain ⟨σ1, e1, V1, I1, f1⟩ := M_laysOne hn hE hO hX (by omega) (by omega) ht hb
  have hE1 := ME_fr hE f1 (by simp) (by simp) (by simp) (by simp)
  have wf : ∀ {σa σb : gM}, ME D S C F σa → fr [14] σa σb → ME D S C F σb := fun h f => ME_fr h f (by simp) (by simp) (by simp) (by simp)
  have wf2 : ∀ {σa σb : gM}, ME D S C F σa → fr [w] σa σb → ME D S C F σb := fun h f => ME_fr h f (by simp; omega) (by simp; omega) (by simp; omega) (by simp; omega)
  -- the storing
  have sto : ∀ a, ME D S C F a → MV D (fV F D x y) a → MI D (th D s t) a → MS C s (a.1 w) 0 → ∃ σ', fX12_fills_L92 n w n (nI t) (nI b) 0 0 a = some (nI (ct (th D s t) (D + 2)), σ') ∧ MS C (fuS F D s t b x y) (σ'.1 w) 0 ∧ fr [w] a σ' := by
    intro a hEa Va Ia Xa
    refine lp (L := fun m k (q : Int32 × gM) => fX12_fills_L92 n w m (nI t) (nI b) q.1 (nI k) q.2) (I := fun k q => q.1 = nI (ct (th D s t) k) ∧ MS C ((s.w_byt (bs D t b (fun r => th D s t r && decide (r < k)) (fV F D x y) s.byt)).w_wr (cn D t (fun r => th D s t r && decide (r < k)) s.wr)) (q.2.1 w) 0 ∧ fr [w] a q.2) (Q := fun o => ∃ σ', o = some (nI (ct (th D s t) (D + 2)), σ') ∧ MS C (fuS F D s t b x y) (σ'.1 w) 0 ∧ fr [w] a σ') (N := D + 2) ?_ ?_ (D + 2) n 0 (0, a) (by omega) (by omega) ⟨rfl, ?_, fr_refl _ _⟩
    · intro m k q hk hq
      obtain ⟨q1, q2, q3⟩ := hq
      have hEq := wf2 hEa q3
      have Vq := MV_fr Va q3 (by simp; omega)
      have Iq := MI_fr Ia q3 (by simp; omega)
      obtain ⟨g0, g1, g2, g3, g5, g6⟩ := hEq.2.1
      have hp : ∀ r, r < D + 2 → r ≠ k → (th D s t r && decide (r < k + 1)) = (th D s t r && decide (r < k)) := by
        intro r hr hne
        have : decide (r < k + 1) = decide (r < k) := by apply decide_eq_decide.mpr; omega
        rw [this]
      left
      show ∃ a', fX12_fills_b92 n w (fX12_fills_L92 n w m) (nI t) (nI b) q.1 (nI k) q.2 = _ ∧ _
      unfold fX12_fills_b92 fX12_fills_b133
      rw [g5, if_neg (by simp (disch := first | omega | assumption) only [fa_lit, nLE, nLT, nEQ, nI_add, nSA, nSUB, pk_mul, nDIV, nREM, nCL, fa_and, nx_xor, fa_or, nSHL, nSHR, nUS, n31, n255, Nat.and_one_is_mod, b_I, b_V, b_L, not_or, Nat.not_lt_zero, Nat.not_le, Nat.not_lt, not_false_eq_true, true_and, and_true, false_or, or_false, Classical.not_not, if_true, if_false, if_pos, if_neg] <;> omega), nCL (by omega), if_pos (by simp (disch := first | omega | assumption) only [fa_lit, nLE, nLT, nEQ, nI_add, nSA, nSUB, pk_mul, nDIV, nREM, nCL, fa_and, nx_xor, fa_or, nSHL, nSHR, nUS, n31, n255, Nat.and_one_is_mod, b_I, b_V, b_L, not_or, Nat.not_lt_zero, Nat.not_le, Nat.not_lt, not_false_eq_true, true_and, and_true, false_or, or_false, Classical.not_not, if_true, if_false, if_pos, if_neg] <;> omega), Iq k hk, show nI k + 1 = nI (k + 1) from nI_add k 1]
      by_cases c : th D s t k = true
      · obtain ⟨σ', e, X', f', _⟩ := M_putsS (q := fun r => th D s t r && decide (r < k + 1)) (k := k) hEq q2 ht12 hb hk (by simp) (by simp [c]) hp
        rw [if_pos c, if_neg (by decide), if_pos (by simp (disch := first | omega | assumption) only [fa_lit, nLE, nLT, nEQ, nI_add, nSA, nSUB, pk_mul, nDIV, nREM, nCL, fa_and, nx_xor, fa_or, nSHL, nSHR, nUS, n31, n255, Nat.and_one_is_mod, b_I, b_V, b_L, not_or, Nat.not_lt_zero, Nat.not_le, Nat.not_lt, not_false_eq_true, true_and, and_true, false_or, or_false, Classical.not_not, if_true, if_false, if_pos, if_neg] <;> omega), Vq k hk, e, b_V]
        refine ⟨(q.1 + 1, σ'), rfl, ?_, X', fr_trans q3 f'⟩
        rw [q1, ct, if_pos c]; exact nI_add _ 1
      · rw [if_neg c, if_pos (show nI 0 = 0 from rfl)]
        have hp2 : ∀ r, r < D + 2 → (th D s t r && decide (r < k + 1)) = (th D s t r && decide (r < k)) := by
          intro r hr
          by_cases e : r = k
          · rw [e]; simp [c]
          · exact hp r hr e
        refine ⟨q, rfl, ?_, ?_, q3⟩
        · rw [q1, ct, if_neg c]; rfl
        · rw [cn_ext (by omega) w1 ht12 hp2, bs_ext (w := fV F D x y) (by omega) w1 ht12 hp2 (fun _ _ _ => rfl)]
          exact q2
    · intro m q hq
      obtain ⟨q1, q2, q3⟩ := hq
      have hEq := wf2 hEa q3
      obtain ⟨g0, g1, g2, g3, g5, g6⟩ := hEq.2.1
      have hp2 : ∀ r, r < D + 2 → th D s t r = (th D s t r && decide (r < D + 2)) := by intro r hr; simp [hr]
      refine ⟨q.2, ?_, ?_, q3⟩
      · show fX12_fills_b92 n w (fX12_fills_L92 n w m) _ _ _ _ _ = _
        unfold fX12_fills_b92
        rw [g5, if_pos (by simp (disch := first | omega | assumption) only [fa_lit, nLE, nLT, nEQ, nI_add, nSA, nSUB, pk_mul, nDIV, nREM, nCL, fa_and, nx_xor, fa_or, nSHL, nSHR, nUS, n31, n255, Nat.and_one_is_mod, b_I, b_V, b_L, not_or, Nat.not_lt_zero, Nat.not_le, Nat.not_lt, not_false_eq_true, true_and, and_true, false_or, or_false, Classical.not_not, if_true, if_false, if_pos, if_neg] <;> omega), q1]
      · unfold fuS
        rw [cn_ext (by omega) w1 ht12 hp2, bs_ext (w := fV F D x y) (by omega) w1 ht12 hp2 (fun _ _ _ => rfl)]
        exact q2
    · rw [cn_none (by omega) w1 ht12 (by intro r hr; simp), bs_none (by omega) w1 ht12 (by intro r hr; simp)]
      exact Xa
  unfold fX12_fills
  rw [e1, b_V]
  refine lp (L := fun m k a => fX12_fills_L12 n w m (nI t) (nI b) (nI x) (nI y) (nI k) a) (I := fun k a => MV D (fk x y (vl D s t b (th D s t)) k) a ∧ fr [14] σ1 a) (Q := fun o => ∃ σ', o = some (nI (ct (th D s t) (D + 2)), σ') ∧ MS C (fuS F D s t b x y) (σ'.1 w) 0 ∧ fr [w, 14, 15] σ σ') (N := D) ?_ ?_ D n 0 σ1 (by omega) (by omega) ⟨fun r hr => by rw [V1 r hr, fk_b (by omega)], fr_refl _ _⟩
  · intro m k a hk ha
    have hEa := wf hE1 ha.2
    obtain ⟨g0, g1, g2, g3, g5, g6⟩ := hEa.2.1
    have hky : k * y ≤ 6 * 256 := Nat.mul_le_mul (by omega) (by omega)
    have e : (nI x + nI k * nI y) - (nI x + nI k * nI y) / 256 * 256 = nI (fv x y k) := by
      rw [pk_mul, nI_add, show (256 : Int32) = nI 256 from rfl, nDIV (by omega) (by omega) (by omega), pk_mul, nREM]; rfl
    refine Or.inl ⟨g_put a 14 k (nI (fv x y k)), ?_, ?_, fr_trans ha.2 (fr_put _ _ _ (by simp))⟩
    · show fX12_fills_b12 n w (fX12_fills_L12 n w m) _ _ _ _ _ _ = _
      unfold fX12_fills_b12
      rw [g0, if_neg (by simp (disch := first | omega | assumption) only [fa_lit, nLE, nLT, nEQ, nI_add, nSA, nSUB, pk_mul, nDIV, nREM, nCL, fa_and, nx_xor, fa_or, nSHL, nSHR, nUS, n31, n255, Nat.and_one_is_mod, b_I, b_V, b_L, not_or, Nat.not_lt_zero, Nat.not_le, Nat.not_lt, not_false_eq_true, true_and, and_true, false_or, or_false, Classical.not_not, if_true, if_false, if_pos, if_neg] <;> omega), nCL (by omega), if_pos (by simp (disch := first | omega | assumption) only [fa_lit, nLE, nLT, nEQ, nI_add, nSA, nSUB, pk_mul, nDIV, nREM, nCL, fa_and, nx_xor, fa_or, nSHL, nSHR, nUS, n31, n255, Nat.and_one_is_mod, b_I, b_V, b_L, not_or, Nat.not_lt_zero, Nat.not_le, Nat.not_lt, not_false_eq_true, true_and, and_true, false_or, or_false, Classical.not_not, if_true, if_false, if_pos, if_neg] <;> omega), e, b_L, show nI k + 1 = nI (k + 1) from nI_add k 1]
    · intro r hr
      rw [gp_k]
      by_cases c : r = k
      · rw [if_pos c, fk_a (by omega), c]
      · rw [if_neg c, ha.1 r hr]
        by_cases c2 : r < k
        · rw [fk_a c2, fk_a (by omega)]
        · rw [fk_b c2, fk_b (by omega)]
  · intro m a ha
    have hEa := wf hE1 ha.2
    have hEa' := hEa
    obtain ⟨g0, g1, g2, g3, g5, g6⟩ := hEa.2.1
    have hlt : ∀ r, r < D + 2 → (fk x y (vl D s t b (th D s t)) D) r < 256 := by
      intro r _
      by_cases c : r < D
      · rw [fk_a c]; exact fv_lt x y r
      · rw [fk_b c]; exact th_lt hO.byt r
    have es : sp (fk x y (vl D s t b (th D s t)) D) D = sp (fv x y) D := sp_ext fun r hr => fk_a hr
    have V2 := MV_put (k := D) (x := sp (fv x y) D) ha.1
    have f2 : fr [14] a (g_put a 14 D (nI (sp (fv x y) D))) := fr_put _ _ _ (by simp)
    have hE2 := wf hEa' f2
    have hsp : sp (fv x y) D < 256 := sp_lt fun r _ => fv_lt x y r
    have eq : sq F (ud (fk x y (vl D s t b (th D s t)) D) D (sp (fv x y) D)) D = sq F (fv x y) D := sq_ext fun r hr => by rw [ud_ne (by omega)]; exact fk_a hr
    have V3 := MV_put (k := D + 1) (x := sq F (fv x y) D) V2
    have f3 : fr [14] (g_put a 14 D (nI (sp (fv x y) D))) (g_put (g_put a 14 D (nI (sp (fv x y) D))) 14 (D + 1) (nI (sq F (fv x y) D))) := fr_put _ _ _ (by simp)
    have hE3 := wf hE2 f3
    have F3 := fr_trans ha.2 (fr_trans f2 f3)
    have VV : MV D (fV F D x y) (g_put (g_put a 14 D (nI (sp (fv x y) D))) 14 (D + 1) (nI (sq F (fv x y) D))) := by
      intro r hr
      rw [V3 r hr, fV]
      by_cases c : r = D + 1
      · rw [c, ud_eq, ud_eq]
      · rw [ud_ne c, ud_ne c]
        by_cases c2 : r = D
        · rw [c2, ud_eq, ud_eq]
        · rw [ud_ne c2, ud_ne c2, fk_a (by omega)]
    obtain ⟨σ', e', X', f'⟩ := sto _ hE3 VV (MI_fr I1 F3 (by simp)) (by rw [F3.1 w (by simp; omega), f1.1 w (by simp; omega)]; exact hX)
    refine ⟨σ', ?_, X', fr_trans (fr_mono f1 (by simp)) (fr_trans (fr_mono F3 (by simp)) (fr_mono f' (by simp)))⟩
    obtain ⟨j0, j1, j2, j3, j5, j6⟩ := hE2.2.1
    show fX12_fills_b12 n w (fX12_fills_L12 n w m) _ _ _ _ _ _ = _
    unfold fX12_fills_b12
    rw [g0, if_pos (by simp (disch := first | omega | assumption) only [fa_lit, nLE, nLT, nEQ, nI_add, nSA, nSUB, pk_mul, nDIV, nREM, nCL, fa_and, nx_xor, fa_or, nSHL, nSHR, nUS, n31, n255, Nat.and_one_is_mod, b_I, b_V, b_L, not_or, Nat.not_lt_zero, Nat.not_le, Nat.not_lt, not_false_eq_true, true_and, and_true, false_or, or_false, Classical.not_not, if_true, if_false, if_pos, if_neg] <;> omega), M_sum0 hn hEa' ha.1 (fun r hr e => absurd e (nM1' (by omega))), b_I, nCL (by omega), if_pos (by simp (disch := first | omega | assumption) only [fa_lit, nLE, nLT, nEQ, nI_add, nSA, nSUB, pk_mul, nDIV, nREM, nCL, fa_and, nx_xor, fa_or, nSHL, nSHR, nUS, n31, n255, Nat.and_one_is_mod, b_I, b_V, b_L, not_or, Nat.not_lt_zero, Nat.not_le, Nat.not_lt, not_false_eq_true, true_and, and_true, false_or, or_false, Classical.not_not, if_true, if_false, if_pos, if_neg] <;> omega), es, b_L, M_sum1 hn hE2 V2 (ud_lt hlt hsp) (fun r hr e => absurd e (nM1' (by omega))), b_I, j0, show nI D + 1 = nI (D + 1) from nI_add D 1, nCL (by omega), if_pos (by simp (disch := first | omega | assumption) only [fa_lit, nLE, nLT, nEQ, nI_add, nSA, nSUB, pk_mul, nDIV, nREM, nCL, fa_and, nx_xor, fa_or, nSHL, nSHR, nUS, n31, n255, Nat.and_one_is_mod, b_I, b_V, b_L, not_or, Nat.not_lt_zero, Nat.not_le, Nat.not_lt, not_false_eq_true, true_and, and_true, false_or, or_false, Classical.not_not, if_true, if_false, if_pos, if_neg] <;> omega), eq, b_L, e']
