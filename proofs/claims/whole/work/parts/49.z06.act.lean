/-! an act, on both sides at once -/
def AR (D S C F n i w : Nat) (k a b c d a' b' c' d' : Int32) (s : Sh) (σX σM : gM) : Prop :=
  (∃ y : Nat, y < 4 ∧ fX8_refusal n i k a b c d σX = some (nI y, σX) ∧ fX12_does n w k a' b' c' d' σM = some (nI y, σM)) ∨
  (fX8_refusal n i k a b c d σX = some (-1, σX) ∧ ∃ (s' : Sh) (r : Int32) (τX τM : gM), fX8_carryOut n i k a b c d σX = some (r, τX) ∧ fX12_does n w k a' b' c' d' σM = some (-1, τM) ∧ XS C s' (τX.1 (11 + 5 * i)) ∧ MS C s' (τM.1 w) 0 ∧ Ok D S C s' ∧ s'.lo = s.lo ∧ fr [11 + 5 * i, 13 + 5 * i] σX τX ∧ gj [w, 14, 15] [26, 27, 28, 29, 30] σM τM ∧ τM.1 0 29 = r ∧ τM.1 0 30 = if k = 7 then r else a)
/-- refused by both -/
theorem AR_no {D S C F n i w : Nat} {k a b c d a' b' c' d' : Int32} {s : Sh} {σX σM : gM} (y : Nat) (hy : y < 4) (hX : fX8_refusal n i k a b c d σX = some (nI y, σX)) (hM : fX12_stops n w k a' b' c' d' σM = some (nI y, σM)) : AR D S C F n i w k a b c d a' b' c' d' s σX σM := Or.inl ⟨y, hy, hX, do_no hM hy⟩
theorem hA14 {D S C F : Nat} {σ : gM} (hM : ME D S C F σ) : ¬ σ.1 0 14 = 0 := by
  have h := DSC_lt hM.1
  rw [hM.2.1.2.2.2.2.2]
  exact nI_ne0 (by omega) (by omega)
theorem hP55 {D S C F : Nat} {σ : gM} (hE : XE D S C F σ) : fX6_present σ = some (1, σ) := by
  obtain ⟨w1, w2, w3, w4, w5, w6, w7⟩ := hE.1
  obtain ⟨h0, h1, h2, h3, h5, h6, h7, h8, h9⟩ := hE.2.1
  unfold fX6_present
  rw [h5, if_neg (by simp (disch := first | omega | assumption) only [fa_lit, nLE, nLT, nEQ, nI_add, nSA, nSUB, pk_mul, nDIV, nREM, nCL, fa_and, nx_xor, fa_or, nSHL, nSHR, nUS, n31, n255, Nat.and_one_is_mod, b_I, b_V, b_L, not_or, Nat.not_lt_zero, Nat.not_le, Nat.not_lt, not_false_eq_true, true_and, and_true, false_or, or_false, Classical.not_not, if_true, if_false, if_pos, if_neg] <;> omega)]
section ARR
variable {D S C F n i w : Nat} {s : Sh} {σX σM : gM}
theorem n30 (hM : ME D S C F σM) (hX : MS C s (σM.1 w) 0) (hw1 : 10 ≤ w) (a : Int32) : ME D S C F (g_put σM 0 30 a) ∧ MS C s ((g_put σM 0 30 a).1 w) 0 ∧ gj [w, 14, 15] [26, 27, 28, 29, 30] σM (g_put σM 0 30 a) := by
  have g : gj [w, 14, 15] [26, 27, 28, 29, 30] σM (g_put σM 0 30 a) := gj_put0 _ _ (by simp)
  refine ⟨ME_gj hM g (by simp; omega) (by simp; omega) (by simp; omega) (by simp) (by simp), ?_, g⟩
  rw [show (g_put σM 0 30 a).1 w = σM.1 w from g_put_o σM 0 30 a w (by omega)]
  exact hX
/-- what was noted stays -/
theorem k30 {L J : List Nat} {a : Int32} {τ : gM} (h : gj L J (g_put σM 0 30 a) τ) (h30 : 30 ∉ J) : τ.1 0 30 = a := by
  rw [h.2.1 30 h30, gp_s]
theorem AR_0 (hn : 100 ≤ n) (hE : XE D S C F σX) (hM : ME D S C F σM) (hO : Ok D S C s) (hX : XS C s (σX.1 (11 + 5 * i))) (hY : MS C s (σM.1 w) 0) (hw1 : 10 ≤ w) (hw2 : w ≤ 13) (a b c d c' d' : Int32) : AR D S C F n i w 0 a b c d a b c' d' s σX σM := by
  obtain ⟨w1, w2, w3, w4, w5, w6, w7⟩ := hE.1
  rcases J_addr hE hM a with ⟨a, ha, rfl⟩ | ⟨e1, e2⟩
  · rcases J_byte b with ⟨x, hx, rfl⟩ | e
    · right
      have hs : fX12_stops n w 0 (nI a) (nI x) c' d' σM = some (-1, σM) := by
        rw [st_0 _ _ _ _ _ _ _ (hA14 hM), M_isAddress_yes hM ha, b_I, if_neg (by decide), ← isByte_same, isByte_yes hx, b_I, if_neg (by decide)]
      obtain ⟨m1, m2, m3⟩ := n30 hM hY hw1 (nI a)
      obtain ⟨τX, x1, x2, x3⟩ := X_doWrite (n := n) (by omega) hE hO hX ha hx
      obtain ⟨σ1, y1, y2⟩ := M_reads (n := n) (by omega) m1 hO m2 (by omega) (by omega) ha
      have g1 : gj [w, 14, 15] [29] σ1 (g_put σ1 0 29 (nI (gv F D s (a / C / D) (a % C) (a / C % D)))) := gj_put0 _ _ (by simp)
      have gy : gj [14, 15] [29] (g_put σM 0 30 (nI a)) σ1 := gj_fr y2 (by simp)
      have E1 := ME_gj m1 gy (by simp) (by simp) (by simp) (by simp) (by simp)
      have E2 := ME_gj E1 g1 (by simp; omega) (by simp; omega) (by simp; omega) (by simp) (by simp)
      have Y2 : MS C s ((g_put σ1 0 29 (nI (gv F D s (a / C / D) (a % C) (a / C % D)))).1 w) 0 := by
        rw [show (g_put σ1 0 29 (nI (gv F D s (a / C / D) (a % C) (a / C % D)))).1 w = σ1.1 w from g_put_o σ1 0 29 _ w (by omega), y2.1 w (by simp; omega)]
        exact m2
      obtain ⟨τM, z1, z2, z3⟩ := M_writes (n := n) (by omega) E2 hO Y2 hw1 hw2 ha hx
      have hwb := ad_lt w5 w1 ha
      refine ⟨by rw [rf_0]; unfold fX8_refusalOfWrite; rw [X_isAddress_yes hE ha, b_I, if_neg (by decide), isByte_yes hx, b_I, if_neg (by decide), b_I], _, _, τX, τM, by rw [cr_0, x1, b_I], by rw [do_0 hs, b_L, y1, b_I, b_L, z1, b_V], x2, z2, wS_ok (by omega) w1 w7 (by omega) hwb.2.1 hx hO, rfl, x3, ?_, ?_, ?_⟩
      · exact gj_trans m3 (gj_trans (gj_mono gy (by simp) (by simp)) (gj_trans (gj_mono g1 (by simp) (by simp)) (gj_mono z3 (by simp) (by simp))))
      · rw [z3.2.1 29 (by simp), gp_s]
      · rw [if_neg (by decide), z3.2.1 30 (by simp), g1.2.1 30 (by simp), y2.1 0 (by simp), gp_s]
    · exact AR_no 1 (by omega) (by rw [rf_0]; unfold fX8_refusalOfWrite; rw [X_isAddress_yes hE ha, b_I, if_neg (by decide), e, b_I, if_pos rfl, b_I]; rfl) (by rw [st_0 _ _ _ _ _ _ _ (hA14 hM), M_isAddress_yes hM ha, b_I, if_neg (by decide), ← isByte_same, e, b_I, if_pos rfl]; rfl)
  · exact AR_no 0 (by omega) (by rw [rf_0]; unfold fX8_refusalOfWrite; rw [e1, b_I, if_pos rfl, b_I]; rfl) (by rw [st_0 _ _ _ _ _ _ _ (hA14 hM), e2, b_I, if_pos rfl]; rfl)
theorem AR_1 (hn : 100 ≤ n) (hE : XE D S C F σX) (hM : ME D S C F σM) (hO : Ok D S C s) (hX : XS C s (σX.1 (11 + 5 * i))) (hY : MS C s (σM.1 w) 0) (hw1 : 10 ≤ w) (hw2 : w ≤ 13) (a b c d b' c' d' : Int32) : AR D S C F n i w 1 a b c d a b' c' d' s σX σM := by
  obtain ⟨w1, w2, w3, w4, w5, w6, w7⟩ := hE.1
  rcases J_disk hE hM a with ⟨a, ha, rfl⟩ | ⟨e1, e2⟩
  · have hh := hO.how a (by omega)
    have eh := hY.how a (by omega)
    rw [Nat.zero_add] at eh
    have hc := ct_le (nw D s) (D + 2)
    have hs : fX12_stops n w 1 (nI a) b' c' d' σM = some (rfL D s a, σM) := by
      rw [st_1 _ _ _ _ _ _ _ (hA14 hM), M_isDisk_yes hM ha, b_I, if_neg (by decide), show (384 : Int32) + nI a = nI (384 + a) from nI_add 384 a, nCL (by omega), if_pos (by simp (disch := first | omega | assumption) only [fa_lit, nLE, nLT, nEQ, nI_add, nSA, nSUB, pk_mul, nDIV, nREM, nCL, fa_and, nx_xor, fa_or, nSHL, nSHR, nUS, n31, n255, Nat.and_one_is_mod, b_I, b_V, b_L, not_or, Nat.not_lt_zero, Nat.not_le, Nat.not_lt, not_false_eq_true, true_and, and_true, false_or, or_false, Classical.not_not, if_true, if_false, if_pos, if_neg] <;> omega), eh, M_lost (by omega) hM hO.how hY, b_I]
      unfold rfL
      by_cases c1 : s.how a = 1
      · rw [if_pos (by rw [c1]; rfl), if_pos c1]
      · rw [if_neg (by rw [show (1 : Int32) = nI 1 from rfl, nEQ _ _ (by omega) (by omega)]; exact c1), if_neg c1, if_pos (by simp (disch := first | omega | assumption) only [fa_lit, nLE, nLT, nEQ, nI_add, nSA, nSUB, pk_mul, nDIV, nREM, nCL, fa_and, nx_xor, fa_or, nSHL, nSHR, nUS, n31, n255, Nat.and_one_is_mod, b_I, b_V, b_L, not_or, Nat.not_lt_zero, Nat.not_le, Nat.not_lt, not_false_eq_true, true_and, and_true, false_or, or_false, Classical.not_not, if_true, if_false, if_pos, if_neg] <;> omega)]
        by_cases c0 : s.how a = 0
        · rw [if_pos (by rw [c0]; rfl)]
          by_cases c2 : 2 ≤ ct (nw D s) (D + 2)
          · rw [if_neg (by simp (disch := first | omega | assumption) only [fa_lit, nLE, nLT, nEQ, nI_add, nSA, nSUB, pk_mul, nDIV, nREM, nCL, fa_and, nx_xor, fa_or, nSHL, nSHR, nUS, n31, n255, Nat.and_one_is_mod, b_I, b_V, b_L, not_or, Nat.not_lt_zero, Nat.not_le, Nat.not_lt, not_false_eq_true, true_and, and_true, false_or, or_false, Classical.not_not, if_true, if_false, if_pos, if_neg] <;> omega), if_pos ⟨c0, c2⟩]
          · rw [if_pos (by simp (disch := first | omega | assumption) only [fa_lit, nLE, nLT, nEQ, nI_add, nSA, nSUB, pk_mul, nDIV, nREM, nCL, fa_and, nx_xor, fa_or, nSHL, nSHR, nUS, n31, n255, Nat.and_one_is_mod, b_I, b_V, b_L, not_or, Nat.not_lt_zero, Nat.not_le, Nat.not_lt, not_false_eq_true, true_and, and_true, false_or, or_false, Classical.not_not, if_true, if_false, if_pos, if_neg] <;> omega), if_neg (fun z => c2 z.2)]
        · rw [if_neg (by rw [show (0 : Int32) = nI 0 from rfl, nEQ _ _ (by omega) (by omega)]; exact c0), if_neg (fun z => c0 z.1)]
    have hr : fX8_refusal n i 1 (nI a) b c d σX = some (rfL D s a, σX) := by
      rw [rf_1, X_refLoss (by omega) hE hO hX ha, b_I]
    by_cases c1 : s.how a = 1
    · have e : rfL D s a = nI 2 := by rw [rfL, if_pos c1]; rfl
      rw [e] at hr hs
      exact AR_no 2 (by omega) hr hs
    · by_cases c2 : s.how a = 0 ∧ 2 ≤ ct (nw D s) (D + 2)
      · have e : rfL D s a = nI 3 := by rw [rfL, if_neg c1, if_pos c2]; rfl
        rw [e] at hr hs
        exact AR_no 3 (by omega) hr hs
      · have e : rfL D s a = -1 := by rw [rfL, if_neg c1, if_neg c2]
        rw [e] at hr hs
        right
        obtain ⟨m1, m2, m3⟩ := n30 hM hY hw1 (nI a)
        obtain ⟨τX, x1, x2, x3⟩ := X_doLose (n := n) (by omega) hE hO hX (show a < 8 by omega)
        obtain ⟨σ1, y1, y2, y3⟩ := M_loses (n := n) (by omega) m1 m2 (show a < 8 by omega)
        have E1 := ME_fr m1 y3 (by simp; omega) (by simp; omega) (by simp; omega) (by simp; omega)
        have g1 : gj [w, 14, 15] [29] (g_put σM 0 30 (nI a)) σ1 := gj_mono (gj_fr (J := []) y3 (by simp; omega)) (by simp) (by simp)
        have g2 : gj [w, 14, 15] [29] σ1 (g_put σ1 0 29 (nI (ct (nw D (loS s a)) (D + 2)))) := gj_put0 _ _ (by simp)
        have g := gj_trans g1 g2
        refine ⟨hr, _, _, τX, _, by rw [cr_1, x1, b_I], by rw [do_1 hs, b_L, y1, b_V, M_lost (by omega) E1 (loS_how hO.how) y2, b_I, b_L], x2, ?_, loS_ok ha (fun z => by have := fun q => c2 ⟨z, q⟩; omega) c1 hO, rfl, fr_mono x3 (by simp), gj_trans m3 (gj_mono g (by simp) (by simp)), gp_s _ _ _ _, ?_⟩
        · rw [show (g_put σ1 0 29 (nI (ct (nw D (loS s a)) (D + 2)))).1 w = σ1.1 w from g_put_o σ1 0 29 _ w (by omega)]
          exact y2
        · rw [if_neg (by decide)]
          exact k30 g (by simp)
  · exact AR_no 0 (by omega) (by rw [rf_1]; unfold fX8_refusalOfLoss; rw [e1, b_I, if_pos rfl, b_I]; rfl) (by rw [st_1 _ _ _ _ _ _ _ (hA14 hM), e2, b_I, if_pos rfl]; rfl)
theorem rpS_ok {d : Nat} (hO : Ok D S C s) (hd : d < 8) (h1 : s.how d = 1) (hS : 0 < S) : Ok D S C (rpS s d) := by
  have hw : ∀ e, (rpS s d).how e = if e = d then 2 else s.how e := fun e => rfl
  have d0 := hO.h1 d hd h1
  refine ⟨?_, ?_, ?_, ?_, hO.byt, ?_, ?_, hO.nx, hO.di⟩
  · intro e he
    rw [hw]
    by_cases c : e = d
    · rw [if_pos c]; omega
    · rw [if_neg c]; exact hO.how e he
  · intro e he q
    rw [hw] at q
    by_cases c : e = d
    · rw [if_pos c] at q; omega
    · rw [if_neg c] at q; exact hO.h0 e he q
  · intro e he q
    rw [hw] at q
    by_cases c : e = d
    · rw [if_pos c] at q; omega
    · rw [if_neg c] at q; exact hO.h1 e he q
  · intro e he q
    rw [hw] at q
    show s.don e < S
    by_cases c : e = d
    · rw [c, d0]; exact hS
    · rw [if_neg c] at q; exact hO.h2 e he q
  · refine Nat.le_trans (ct_mono ?_) hO.two
    intro e _ q
    simp only [decide_eq_true_eq] at q ⊢
    rw [hw] at q
    by_cases c : e = d
    · rw [c, h1]; omega
    · rw [if_neg c] at q; exact q
  · have := hO.sp
    show s.sp - 1 < 10
    omega
theorem AR_2 (hn : 100 ≤ n) (hE : XE D S C F σX) (hM : ME D S C F σM) (hO : Ok D S C s) (hX : XS C s (σX.1 (11 + 5 * i))) (hY : MS C s (σM.1 w) 0) (hw1 : 10 ≤ w) (hw2 : w ≤ 13) (a b c d b' c' d' : Int32) : AR D S C F n i w 2 a b c d a b' c' d' s σX σM := by
  obtain ⟨w1, w2, w3, w4, w5, w6, w7⟩ := hE.1
  rcases J_disk hE hM a with ⟨a, ha, rfl⟩ | ⟨e1, e2⟩
  · have hh := hO.how a (by omega)
    have hsp := hO.sp
    have eh := hY.how a (by omega)
    have es := hY.sp
    rw [Nat.zero_add] at eh es
    have hs : fX12_stops n w 2 (nI a) b' c' d' σM = some (rfR s a, σM) := by
      rw [st_2 _ _ _ _ _ _ _ (hA14 hM), M_isDisk_yes hM ha, b_I, if_neg (by decide), show (384 : Int32) + nI a = nI (384 + a) from nI_add 384 a, nCL (by omega), if_pos (by simp (disch := first | omega | assumption) only [fa_lit, nLE, nLT, nEQ, nI_add, nSA, nSUB, pk_mul, nDIV, nREM, nCL, fa_and, nx_xor, fa_or, nSHL, nSHR, nUS, n31, n255, Nat.and_one_is_mod, b_I, b_V, b_L, not_or, Nat.not_lt_zero, Nat.not_le, Nat.not_lt, not_false_eq_true, true_and, and_true, false_or, or_false, Classical.not_not, if_true, if_false, if_pos, if_neg] <;> omega), eh, es]
      unfold rfR
      by_cases c1 : s.how a = 1
      · rw [if_pos (by rw [c1]; rfl), if_pos c1]
        by_cases c2 : s.sp = 0
        · rw [if_pos (by rw [c2]; rfl), if_pos c2]
        · rw [if_neg (by rw [show (0 : Int32) = nI 0 from rfl, nEQ _ _ (by omega) (by omega)]; exact c2), if_neg c2]
      · rw [if_neg (by rw [show (1 : Int32) = nI 1 from rfl, nEQ _ _ (by omega) (by omega)]; exact c1), if_neg c1]
    have hr : fX8_refusal n i 2 (nI a) b c d σX = some (rfR s a, σX) := by
      rw [rf_2, X_refReplace hE hO hX ha, b_I]
    by_cases c1 : s.how a = 1
    · by_cases c2 : s.sp = 0
      · have e : rfR s a = nI 3 := by rw [rfR, if_pos c1, if_pos c2]; rfl
        rw [e] at hr hs
        exact AR_no 3 (by omega) hr hs
      · have e : rfR s a = -1 := by rw [rfR, if_pos c1, if_neg c2]
        rw [e] at hr hs
        right
        obtain ⟨m1, m2, m3⟩ := n30 hM hY hw1 (nI a)
        obtain ⟨τX, x1, x2, x3⟩ := X_doReplace hX (show a < 8 by omega) (show 0 < s.sp by omega)
        have Y1 := MS_sp (x := s.sp - 1) w6 m2
        have Y2 := MS_rep (d := a) w6 Y1 (by omega) (hO.h1 a (by omega) c1)
        have es' : (g_put σM 0 30 (nI a)).1 w 424 - 1 = nI (s.sp - 1) := by
          have := m2.sp
          rw [Nat.zero_add] at this
          rw [this]; exact pk_sub (b := 1) (by omega)
        have e424 : (g_put (g_put (g_put (g_put σM 0 30 (nI a)) w 424 (nI (s.sp - 1))) w (384 + a) (nI 2)) w (392 + a) (nI 0)).1 w 424 = nI (s.sp - 1) := by
          rw [gp_k, if_neg (by omega), gp_k, if_neg (by omega), gp_s]
        have g : gj [w, 14, 15] [29] (g_put σM 0 30 (nI a)) (g_put (g_put (g_put (g_put (g_put σM 0 30 (nI a)) w 424 (nI (s.sp - 1))) w (384 + a) (nI 2)) w (392 + a) (nI 0)) 0 29 (nI (s.sp - 1))) :=
          gj_trans (gj_trans (gj_trans (gj_put _ _ _ (by simp) (by omega)) (gj_put _ _ _ (by simp) (by omega))) (gj_put _ _ _ (by simp) (by omega))) (gj_put0 _ _ (by simp))
        refine ⟨hr, _, _, τX, _, by rw [cr_2, x1, b_I], by rw [do_2 hs, b_L, es', b_L, show (384 : Int32) + nI a = nI (384 + a) from nI_add 384 a, show (392 : Int32) + nI a = nI (392 + a) from nI_add 392 a, nCL (by omega), nCL (by omega), if_pos (by simp (disch := first | omega | assumption) only [fa_lit, nLE, nLT, nEQ, nI_add, nSA, nSUB, pk_mul, nDIV, nREM, nCL, fa_and, nx_xor, fa_or, nSHL, nSHR, nUS, n31, n255, Nat.and_one_is_mod, b_I, b_V, b_L, not_or, Nat.not_lt_zero, Nat.not_le, Nat.not_lt, not_false_eq_true, true_and, and_true, false_or, or_false, Classical.not_not, if_true, if_false, if_pos, if_neg] <;> omega), b_L, if_pos (by simp (disch := first | omega | assumption) only [fa_lit, nLE, nLT, nEQ, nI_add, nSA, nSUB, pk_mul, nDIV, nREM, nCL, fa_and, nx_xor, fa_or, nSHL, nSHR, nUS, n31, n255, Nat.and_one_is_mod, b_I, b_V, b_L, not_or, Nat.not_lt_zero, Nat.not_le, Nat.not_lt, not_false_eq_true, true_and, and_true, false_or, or_false, Classical.not_not, if_true, if_false, if_pos, if_neg] <;> omega), b_L, show (2 : Int32) = nI 2 from rfl, show (0 : Int32) = nI 0 from rfl, e424, b_L], x2, ?_, rpS_ok hO (by omega) c1 (by omega), rfl, fr_mono x3 (by simp), gj_trans m3 (gj_mono g (by simp) (by simp)), gp_s _ _ _ _, ?_⟩
        · rw [show ∀ (τ : gM) (x : Int32), (g_put τ 0 29 x).1 w = τ.1 w from fun τ x => g_put_o τ 0 29 x w (by omega)]
          exact Y2
        · rw [if_neg (by decide)]
          exact k30 g (by simp)
    · have e : rfR s a = nI 2 := by rw [rfR, if_neg c1]; rfl
      rw [e] at hr hs
      exact AR_no 2 (by omega) hr hs
  · exact AR_no 0 (by omega) (by rw [rf_2]; unfold fX8_refusalOfReplacing; rw [e1, b_I, if_pos rfl, b_I]; rfl) (by rw [st_2 _ _ _ _ _ _ _ (hA14 hM), e2, b_I, if_pos rfl]; rfl)
theorem AR_3 (hn : 100 ≤ n) (hE : XE D S C F σX) (hM : ME D S C F σM) (hO : Ok D S C s) (hX : XS C s (σX.1 (11 + 5 * i))) (hY : MS C s (σM.1 w) 0) (hw1 : 10 ≤ w) (hw2 : w ≤ 13) (a b c d c' d' : Int32) : AR D S C F n i w 3 a b c d a b c' d' s σX σM := by
  obtain ⟨w1, w2, w3, w4, w5, w6, w7⟩ := hE.1
  rcases J_disk hE hM a with ⟨a, ha, rfl⟩ | ⟨e1, e2⟩
  · have hh := hO.how a (by omega)
    have eh := hY.how a (by omega)
    rw [Nat.zero_add] at eh
    have hr : fX8_refusal n i 3 (nI a) b c d σX = some (rfB s a b, σX) := by
      rw [rf_3, X_refRebuild hE hO hX ha, b_I]
    rcases J_12 b with ⟨m, h1m, hm, rfl⟩ | ⟨hb, e⟩
    · have z := x12_yes h1m hm
      have hs : fX12_stops n w 3 (nI a) (nI m) c' d' σM = some (rfB s a (nI m), σM) := by
        rw [st_3 _ _ _ _ _ _ _ (hA14 hM), M_isDisk_yes hM ha, b_I, if_neg (by decide), in12_yes h1m hm, b_I, if_neg (by decide), show (384 : Int32) + nI a = nI (384 + a) from nI_add 384 a, nCL (by omega), if_pos (by simp (disch := first | omega | assumption) only [fa_lit, nLE, nLT, nEQ, nI_add, nSA, nSUB, pk_mul, nDIV, nREM, nCL, fa_and, nx_xor, fa_or, nSHL, nSHR, nUS, n31, n255, Nat.and_one_is_mod, b_I, b_V, b_L, not_or, Nat.not_lt_zero, Nat.not_le, Nat.not_lt, not_false_eq_true, true_and, and_true, false_or, or_false, Classical.not_not, if_true, if_false, if_pos, if_neg] <;> omega), eh, rfB, if_neg z.1, if_pos z.2]
        by_cases c1 : s.how a = 2
        · rw [if_pos (by rw [c1]; rfl), if_pos c1]
        · rw [if_neg (by rw [show (2 : Int32) = nI 2 from rfl, nEQ _ _ (by omega) (by omega)]; exact c1), if_neg c1]
      by_cases c1 : s.how a = 2
      · have e : rfB s a (nI m) = -1 := by rw [rfB, if_neg z.1, if_pos z.2, if_pos c1]
        rw [e] at hr hs
        right
        obtain ⟨m1, m2, m3⟩ := n30 hM hY hw1 (nI a)
        obtain ⟨τX, x1, x2, x3⟩ := X_doRebuild (n := n) (by omega) hE hO hX ha c1 hm
        obtain ⟨τM, y1, y2, y3, y4⟩ := M_doRebuild (n := n) (by omega) m1 hO m2 hw1 hw2 ha c1 h1m hm
        have ht := hO.h2 a (by omega) c1
        refine ⟨hr, _, _, τX, τM, by rw [cr_3, x1, b_I], by rw [do_3 hs, b_L, y1], x2, y3, rbK_ok (by omega) w1 w7 w4 hO (by omega) c1 rfl (by omega) (by omega), ?_, x3, gj_trans m3 (gj_mono y4 (by simp) (by simp)), y2, ?_⟩
        · unfold rbK
          split
          · exact rbN_lo F D C s a (s.don a) _
          · exact rbN_lo F D C s a (s.don a) _
        · rw [if_neg (by decide)]
          exact k30 y4 (by simp)
      · have e : rfB s a (nI m) = nI 2 := by rw [rfB, if_neg z.1, if_pos z.2, if_neg c1]; rfl
        rw [e] at hr hs
        exact AR_no 2 (by omega) hr hs
    · have e' : rfB s a b = nI 1 := by
        unfold rfB
        rcases hb with q | q
        · rw [if_pos q]; rfl
        · rw [if_neg q.1, if_neg q.2]; rfl
      rw [e'] at hr
      exact AR_no 1 (by omega) hr (by rw [st_3 _ _ _ _ _ _ _ (hA14 hM), M_isDisk_yes hM ha, b_I, if_neg (by decide), e, b_I, if_pos rfl]; rfl)
  · exact AR_no 0 (by omega) (by rw [rf_3]; unfold fX8_refusalOfRebuilding; rw [e1, b_I, if_pos rfl, b_I]; rfl) (by rw [st_3 _ _ _ _ _ _ _ (hA14 hM), e2, b_I, if_pos rfl]; rfl)
end ARR
