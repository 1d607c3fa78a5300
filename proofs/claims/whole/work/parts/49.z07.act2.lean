/-! an act, on both sides at once: scrub, spoil, tear, clean, full -/
theorem sB_lo (F D : Nat) (s : Sh) (t b : Nat) : (sB F D s t b).lo = s.lo := by
  unfold sB
  split
  · rfl
  · split <;> rfl
theorem sC_lo (F D : Nat) (s : Sh) (t : Nat) : ∀ k, (sC F D s t k).lo = s.lo
  | 0 => rfl
  | k + 1 => (sB_lo F D (sC F D s t k) t k).trans (sC_lo F D s t k)
theorem sS_lo (F D C : Nat) (s : Sh) (t : Nat) : (sS F D C s t).lo = s.lo := by
  unfold sS
  split
  · exact sC_lo F D s t C
  · rfl
theorem sK_lo (F D S C : Nat) (s : Sh) : ∀ k, (sK F D S C s k).lo = s.lo
  | 0 => rfl
  | k + 1 => ((sS_lo F D C (sK F D S C s k) (sK F D S C s k).nx).trans (sK_lo F D S C s k) : _)
section ARR
variable {D S C F n i w : Nat} {s : Sh} {σX σM : gM}
theorem AR_4 (hn : 100 ≤ n) (hE : XE D S C F σX) (hM : ME D S C F σM) (hO : Ok D S C s) (hX : XS C s (σX.1 (11 + 5 * i))) (hY : MS C s (σM.1 w) 0) (hw1 : 10 ≤ w) (hw2 : w ≤ 13) (a b c d b' c' d' : Int32) : AR D S C F n i w 4 a b c d a b' c' d' s σX σM := by
  obtain ⟨w1, w2, w3, w4, w5, w6, w7⟩ := hE.1
  rcases J_12 a with ⟨m, h1m, hm, rfl⟩ | ⟨hb, e⟩
  · have z := x12_yes h1m hm
    have hs : fX12_stops n w 4 (nI m) b' c' d' σM = some (-1, σM) := by
      rw [st_4 _ _ _ _ _ _ _ (hA14 hM), in12_yes h1m hm, b_I, if_neg (by decide)]
    have hr : fX8_refusal n i 4 (nI m) b c d σX = some (-1, σX) := by
      rw [rf_4]
      unfold fX8_refusalOfScrubbing
      rw [hP55 hE, b_I, if_neg (by decide), if_neg z.1, if_pos z.2, b_I]
    right
    obtain ⟨m1, m2, m3⟩ := n30 hM hY hw1 (nI m)
    obtain ⟨τX, x1, x2, x3⟩ := X_doScrub (n := n) (by omega) hE hO hX hm
    obtain ⟨τM, y1, y2, y3, y4⟩ := M_scrubsOn (n := n) (by omega) m1 hO m2 hw1 hw2 hm
    refine ⟨hr, _, _, τX, τM, by rw [cr_4, x1, b_I], by rw [do_4 hs, b_L, y1, b_V], x2, y3, sK_ok (by omega) w1 w7 w4 (by omega) hO m, sK_lo F D S C s m, x3, gj_trans m3 (gj_mono y4 (by simp) (by simp)), y2, ?_⟩
    rw [if_neg (by decide)]
    exact k30 y4 (by simp)
  · refine AR_no 1 (by omega) ?_ (by rw [st_4 _ _ _ _ _ _ _ (hA14 hM), e, b_I, if_pos rfl]; rfl)
    rw [rf_4]
    unfold fX8_refusalOfScrubbing fX8_refusalOfScrubbing_b23
    rw [hP55 hE, b_I, if_neg (by decide)]
    rcases hb with q | q
    · rw [if_pos q, b_I]; rfl
    · rw [if_neg q.1, if_neg q.2, b_I]; rfl
theorem AR_5 (hn : 100 ≤ n) (hE : XE D S C F σX) (hM : ME D S C F σM) (hO : Ok D S C s) (hX : XS C s (σX.1 (11 + 5 * i))) (hY : MS C s (σM.1 w) 0) (hw1 : 10 ≤ w) (hw2 : w ≤ 13) (a b c d : Int32) : AR D S C F n i w 5 a b c d a b c d s σX σM := by
  obtain ⟨w1, w2, w3, w4, w5, w6, w7⟩ := hE.1
  rcases J_cell hE hM a b c with ⟨a, t, b, ha, ht, hb, rfl, rfl, rfl⟩ | ⟨e1, e2⟩
  · have hdn := Ok_don hO w4 a (by omega)
    rcases J_1_255 d with ⟨x, h1x, hx, rfl⟩ | ⟨hq, e⟩
    · have x0 : ¬ nI x = 0 := nI_ne0 (by omega) (by omega)
      have hr : fX8_refusal n i 5 (nI a) (nI t) (nI b) (nI x) σX = some (if t < s.don a then -1 else 2, σX) := by
        rw [rf_5]
        unfold fX8_refusalOfSpoiling
        rw [X_isCell_yes hE ha ht hb, b_I, if_neg (by decide), isByte_yes hx, b_I, if_neg (by decide), if_neg x0, X_isThere hX (by omega) (by omega) hdn, b_I]
        by_cases c1 : t < s.don a
        · rw [if_pos c1, if_neg (by decide), b_I, if_pos c1]
        · rw [if_neg c1, if_pos (show nI 0 = 0 from rfl), b_I, if_neg c1]
      have hs : fX12_stops n w 5 (nI a) (nI t) (nI b) (nI x) σM = some (if t < s.don a then -1 else 2, σM) := by
        rw [st_5 _ _ _ _ _ _ _ (hA14 hM), M_isPlace_yes hM ha ht hb, b_I, if_neg (by decide), l_1, l_255, M_isIn_yes (by omega) (by omega) (by omega), b_I, if_neg (by decide), M_isThere hO w4 hY (by omega) ht, b_I]
        by_cases c1 : t < s.don a
        · rw [if_pos c1, if_neg (by decide), if_pos c1]
        · rw [if_neg c1, if_pos (show nI 0 = 0 from rfl), if_neg c1]
      by_cases c1 : t < s.don a
      · rw [if_pos c1] at hr hs
        right
        obtain ⟨m1, m2, m3⟩ := n30 hM hY hw1 (nI a)
        obtain ⟨τX, x1, x2, x3⟩ := X_doSpoil hX w6 hO.byt (show a < 8 by omega) (show t < 12 by omega) hb c1 hx
        have eb := m2.byt a t b (by omega) (by omega) hb c1
        rw [Nat.zero_add] at eb
        have Y1 := MS_byt (d := a) (t := t) (b := b) (x := s.byt a t b ^^^ x) w6 m2 (by omega) (by omega) (by omega)
        have g : gj [w, 14, 15] [29] (g_put σM 0 30 (nI a)) (g_put (g_put (g_put σM 0 30 (nI a)) w (48 * a + 4 * t + b) (nI (s.byt a t b ^^^ x))) 0 29 (nI (s.byt a t b ^^^ x))) := gj_trans (gj_put _ _ _ (by simp) (by omega)) (gj_put0 _ _ (by simp))
        refine ⟨hr, _, _, τX, _, by rw [cr_5, x1, b_I], by rw [do_5 hs, b_L, M_spot (by omega) (by omega) (by omega), b_I, nCL (by omega), if_pos (by simp (disch := first | omega | assumption) only [fa_lit, nLE, nLT, nEQ, nI_add, nSA, nSUB, pk_mul, nDIV, nREM, nCL, fa_and, nx_xor, fa_or, nSHL, nSHR, nUS, n31, n255, Nat.and_one_is_mod, b_I, b_V, b_L, not_or, Nat.not_lt_zero, Nat.not_le, Nat.not_lt, not_false_eq_true, true_and, and_true, false_or, or_false, Classical.not_not, if_true, if_false, if_pos, if_neg] <;> omega), if_pos (by simp (disch := first | omega | assumption) only [fa_lit, nLE, nLT, nEQ, nI_add, nSA, nSUB, pk_mul, nDIV, nREM, nCL, fa_and, nx_xor, fa_or, nSHL, nSHR, nUS, n31, n255, Nat.and_one_is_mod, b_I, b_V, b_L, not_or, Nat.not_lt_zero, Nat.not_le, Nat.not_lt, not_false_eq_true, true_and, and_true, false_or, or_false, Classical.not_not, if_true, if_false, if_pos, if_neg] <;> omega), eb, nx_xor, b_L, M_spot (by omega) (by omega) (by omega), b_I, nCL (by omega), if_pos (by simp (disch := first | omega | assumption) only [fa_lit, nLE, nLT, nEQ, nI_add, nSA, nSUB, pk_mul, nDIV, nREM, nCL, fa_and, nx_xor, fa_or, nSHL, nSHR, nUS, n31, n255, Nat.and_one_is_mod, b_I, b_V, b_L, not_or, Nat.not_lt_zero, Nat.not_le, Nat.not_lt, not_false_eq_true, true_and, and_true, false_or, or_false, Classical.not_not, if_true, if_false, if_pos, if_neg] <;> omega), gp_s, b_L], x2, ?_, sbS_ok hx hO, rfl, fr_mono x3 (by simp), gj_trans m3 (gj_mono g (by simp) (by simp)), gp_s _ _ _ _, ?_⟩
        · rw [show ∀ (τ : gM) (x : Int32), (g_put τ 0 29 x).1 w = τ.1 w from fun τ x => g_put_o τ 0 29 x w (by omega)]
          exact Y1
        · rw [if_neg (by decide)]
          exact k30 g (by simp)
      · rw [if_neg c1] at hr hs
        exact AR_no 2 (by omega) hr hs
    · refine AR_no 1 (by omega) ?_ (by rw [st_5 _ _ _ _ _ _ _ (hA14 hM), M_isPlace_yes hM ha ht hb, b_I, if_neg (by decide), e, b_I, if_pos rfl]; rfl)
      rw [rf_5]
      unfold fX8_refusalOfSpoiling
      rw [X_isCell_yes hE ha ht hb, b_I, if_neg (by decide)]
      rcases hq with q | q
      · rw [q, show (0 : Int32) = nI 0 from rfl, isByte_yes (by omega), b_I, if_neg (by decide), if_pos rfl, b_I]; rfl
      · rw [q.2, b_I, if_pos rfl, b_I]; rfl
  · exact AR_no 0 (by omega) (by rw [rf_5]; unfold fX8_refusalOfSpoiling; rw [e1, b_I, if_pos rfl, b_I]; rfl) (by rw [st_5 _ _ _ _ _ _ _ (hA14 hM), e2, b_I, if_pos rfl]; rfl)
def tq (D : Nat) (s : Sh) (t part : Nat) : Bool := th D s t part && th D s t D && th D s t (D + 1)
theorem tq_bm {t part : Nat} (hp : part < D) : bm (fun r => !th D s t r && wp D (fun _ => true) part r) (D + 2) = 0 ↔ tq D s t part = true := by
  rw [bm_z]
  unfold tq
  simp only [Bool.and_eq_true]
  constructor
  · intro h
    have h1 := h part (by omega)
    have h2 := h D (by omega)
    have h3 := h (D + 1) (by omega)
    simp [wp] at h1 h2 h3
    exact ⟨⟨h1, h2⟩, h3⟩
  · intro h k hk
    by_cases c1 : k = part
    · rw [c1, h.1.1]; rfl
    · by_cases c2 : k = D
      · rw [c2, h.1.2]; rfl
      · by_cases c3 : k = D + 1
        · rw [c3, h.2]; rfl
        · simp [wp, c1, c2, c3]
theorem M_isSmall (hM : ME D S C F σM) (hO : Ok D S C s) (hY : MS C s (σM.1 w) 0) {a : Nat} (ha : a < D * S * C) : fX12_isSmall w (nI a) σM = some (nI (if tq D s (a / C / D) (a / C % D) then 1 else 0), σM) := by
  have hw := hM.1
  obtain ⟨w1, w2, w3, w4, w5, w6, w7⟩ := hM.1
  obtain ⟨h0, h1, h2, h3, h5, h6⟩ := hM.2.1
  have ha' := ad_1000 w2 w4 w6 ha
  obtain ⟨at1, at2, at3⟩ := ad_lt w5 w1 ha
  unfold fX12_isSmall
  rw [M_stripeOf hw hM.2.1 ha', b_I, M_partOf hw hM.2.1 ha', b_I]
  generalize a / C / D = t at *
  generalize a / C % D = part at *
  have i1 := dk_lt D t part
  have i2 := dk_lt D t D
  have i3 := dk_lt D t (D + 1)
  rw [M_diskOf hw hM.2.1 (by omega) (by omega), b_I, M_isThere hO w4 hY (by omega) at1, b_I, h0, M_diskOf hw hM.2.1 (by omega) (by omega), b_I, M_isThere hO w4 hY (by omega) at1, b_I, h0, show nI D + 1 = nI (D + 1) from nI_add D 1, M_diskOf hw hM.2.1 (by omega) (by omega), b_I, M_isThere hO w4 hY (by omega) at1, b_I]
  unfold tq th
  by_cases c1 : t < s.don (dk D t part)
  · rw [if_pos c1, if_neg (by decide)]
    by_cases c2 : t < s.don (dk D t D)
    · rw [if_pos c2, if_neg (by decide)]
      by_cases c3 : t < s.don (dk D t (D + 1))
      · rw [if_pos c3, if_neg (by decide)]; simp [c1, c2, c3]; rfl
      · rw [if_neg c3, if_pos (show nI 0 = 0 from rfl)]; simp [c3]; rfl
    · rw [if_neg c2, if_pos (show nI 0 = 0 from rfl)]; simp [c2]; rfl
  · rw [if_neg c1, if_pos (show nI 0 = 0 from rfl)]; simp [c1]; rfl
theorem AR_6 (hn : 100 ≤ n) (hE : XE D S C F σX) (hM : ME D S C F σM) (hO : Ok D S C s) (hX : XS C s (σX.1 (11 + 5 * i))) (hY : MS C s (σM.1 w) 0) (hw1 : 10 ≤ w) (hw2 : w ≤ 13) (a b c d d' : Int32) : AR D S C F n i w 6 a b c d a b c d' s σX σM := by
  have hw := hE.1
  obtain ⟨w1, w2, w3, w4, w5, w6, w7⟩ := hE.1
  rcases J_addr hE hM a with ⟨a, ha, rfl⟩ | ⟨e1, e2⟩
  · rcases J_byte b with ⟨x, hx, rfl⟩ | e
    · rcases J_02 c with ⟨m, hm, rfl⟩ | ⟨hq, e⟩
      · have ha' := ad_1000 w2 w4 w6 ha
        obtain ⟨at1, at2, at3⟩ := ad_lt w5 w1 ha
        have em : bm (fun r => !(fun _ => true : Nat → Bool) r) (D + 2) = 0 := bm_z.mpr fun _ _ => rfl
        have ew := X_writeBits (i := i) (is := fun _ => true) hE at2
        rw [em] at ew
        have hbl := bm_lt8 (p := fun r => !th D s (a / C / D) r && wp D (fun _ => true) (a / C % D) r) (show D + 2 ≤ 8 by omega)
        have m0 : ¬ nI m < 0 := by rw [show (0 : Int32) = nI 0 from rfl, nLT _ _ (by omega) (by omega)]; omega
        have m2' : nI m ≤ 2 := by rw [show (2 : Int32) = nI 2 from rfl, nLE _ _ (by omega) (by omega)]; omega
        have hr : fX8_refusal n i 6 (nI a) (nI x) (nI m) d σX = some (if tq D s (a / C / D) (a / C % D) then -1 else 2, σX) := by
          rw [rf_6]
          unfold fX8_refusalOfTearing
          rw [X_isAddress_yes hE ha, b_I, if_neg (by decide), isByte_yes hx, b_I, if_neg (by decide), if_neg m0, if_pos m2', X_partOf hw hE.2.1 ha', b_I, show (0 : Int32) = nI 0 from rfl, ew, b_I, X_stripeOf hw hE.2.1 ha', b_I, X_missing (by omega) hE (Ok_don hO w4) hX (by omega), b_I, fa_and, bm_and]
          by_cases c1 : tq D s (a / C / D) (a / C % D) = true
          · rw [(tq_bm at2).mpr c1, if_pos rfl, if_pos c1, b_I]
          · rw [if_neg (by rw [nEQ _ _ (by omega) (by omega)]; exact fun z => c1 ((tq_bm at2).mp z)), if_neg c1, b_I]
        have hs : fX12_stops n w 6 (nI a) (nI x) (nI m) d' σM = some (if tq D s (a / C / D) (a / C % D) then -1 else 2, σM) := by
          rw [st_6 _ _ _ _ _ _ _ (hA14 hM), M_isAddress_yes hM ha, b_I, if_neg (by decide), ← isByte_same, isByte_yes hx, b_I, if_neg (by decide), l_0, l_2, M_isIn_yes (by omega) (by omega) (by omega), b_I, if_neg (by decide), M_isSmall hM hO hY ha, b_I]
          by_cases c1 : tq D s (a / C / D) (a / C % D) = true
          · rw [if_pos c1, if_neg (by decide), if_pos c1]
          · rw [if_neg c1, if_pos (show nI 0 = 0 from rfl), if_neg c1]
        by_cases c1 : tq D s (a / C / D) (a / C % D) = true
        · rw [if_pos c1] at hr hs
          right
          have c1' := c1
          unfold tq at c1'
          simp only [Bool.and_eq_true] at c1'
          obtain ⟨m1, m2, m3⟩ := n30 hM hY hw1 (nI a)
          obtain ⟨τX, x1, x2, x3⟩ := X_doTear (n := n) (by omega) hE hO hX ha hx hm
          obtain ⟨σ1, y1, y2, y3⟩ := M_tears (n := n) (by omega) m1 hO m2 hw1 hw2 ha hx hm c1'.1.1 c1'.1.2 c1'.2
          have ed := y2.di
          rw [Nat.zero_add] at ed
          have ed' : σ1.1 w 425 = nI (s.di ||| 2 ^ (a / C / D)) := ed
          have hdl : s.di ||| 2 ^ (a / C / D) < 4096 := Nat.lt_of_lt_of_le (or_lt hO.di at1) (Nat.pow_le_pow_right (by decide) w4 : 2 ^ S ≤ 2 ^ 12)
          have g1 : gj [w, 14, 15] [29] (g_put σM 0 30 (nI a)) σ1 := gj_mono (gj_fr (J := []) y3 (by simp; omega)) (by simp) (by simp)
          have g2 : gj [w, 14, 15] [29] σ1 (g_put σ1 0 29 (nI (bits (s.di ||| 2 ^ (a / C / D))))) := gj_put0 _ _ (by simp)
          have g := gj_trans g1 g2
          refine ⟨hr, _, _, τX, _, by rw [cr_6, x1, b_I], by rw [do_6 hs, b_L, y1, b_V, ed', M_bitsOf (by omega) hdl, b_I, b_L]; rfl, x2, ?_, teS_ok (by omega) w1 w7 w4 at1 at2 hx hO, rfl, x3, gj_trans m3 (gj_mono g (by simp) (by simp)), gp_s _ _ _ _, ?_⟩
          · rw [show ∀ (τ : gM) (x : Int32), (g_put τ 0 29 x).1 w = τ.1 w from fun τ x => g_put_o τ 0 29 x w (by omega)]
            exact y2
          · rw [if_neg (by decide)]
            exact k30 g (by simp)
        · rw [if_neg c1] at hr hs
          exact AR_no 2 (by omega) hr hs
      · refine AR_no 1 (by omega) ?_ (by rw [st_6 _ _ _ _ _ _ _ (hA14 hM), M_isAddress_yes hM ha, b_I, if_neg (by decide), ← isByte_same, isByte_yes hx, b_I, if_neg (by decide), e, b_I, if_pos rfl]; rfl)
        rw [rf_6]
        unfold fX8_refusalOfTearing
        rw [X_isAddress_yes hE ha, b_I, if_neg (by decide), isByte_yes hx, b_I, if_neg (by decide)]
        rcases hq with q | q
        · rw [if_pos q, b_I]; rfl
        · rw [if_neg q.1, if_neg q.2, b_I]; rfl
    · exact AR_no 1 (by omega) (by rw [rf_6]; unfold fX8_refusalOfTearing; rw [X_isAddress_yes hE ha, b_I, if_neg (by decide), e, b_I, if_pos rfl, b_I]; rfl) (by rw [st_6 _ _ _ _ _ _ _ (hA14 hM), M_isAddress_yes hM ha, b_I, if_neg (by decide), ← isByte_same, e, b_I, if_pos rfl]; rfl)
  · exact AR_no 0 (by omega) (by rw [rf_6]; unfold fX8_refusalOfTearing; rw [e1, b_I, if_pos rfl, b_I]; rfl) (by rw [st_6 _ _ _ _ _ _ _ (hA14 hM), e2, b_I, if_pos rfl]; rfl)
theorem AR_7 (hn : 100 ≤ n) (hE : XE D S C F σX) (hM : ME D S C F σM) (hO : Ok D S C s) (hX : XS C s (σX.1 (11 + 5 * i))) (hY : MS C s (σM.1 w) 0) (hw1 : 10 ≤ w) (hw2 : w ≤ 13) (a b c d a' b' c' d' : Int32) : AR D S C F n i w 7 a b c d a' b' c' d' s σX σM := by
  obtain ⟨w1, w2, w3, w4, w5, w6, w7⟩ := hE.1
  have hbl := bm_lt12 (p := cq D s) w4
  have hr : fX8_refusal n i 7 a b c d σX = some (if bm (cq D s) S = 0 then 2 else -1, σX) := by
    rw [rf_7, X_refClean (by omega) hE hO hX, b_I]
  have hs : fX12_stops n w 7 a' b' c' d' σM = some (if bm (cq D s) S = 0 then 2 else -1, σM) := by
    rw [st_7 _ _ _ _ _ _ _ (hA14 hM), M_toClean (by omega) hM hO hY, b_I]
    by_cases c1 : bm (cq D s) S = 0
    · rw [if_pos (by rw [c1]; rfl), if_pos c1]
    · rw [if_neg (by rw [show (0 : Int32) = nI 0 from rfl, nEQ _ _ (by omega) (by omega)]; exact c1), if_neg c1]
  by_cases c1 : bm (cq D s) S = 0
  · rw [if_pos c1] at hr hs
    exact AR_no 2 (by omega) hr hs
  · rw [if_neg c1] at hr hs
    right
    obtain ⟨m1, m2, m3⟩ := n30 hM hY hw1 a'
    obtain ⟨τX, x1, x2, x3⟩ := X_doClean (n := n) (by omega) hE hO hX
    obtain ⟨σ1, y1, y2, y3⟩ := M_cleans (n := n) (by omega) m1 hO m2 hw1 hw2
    have g1 : gj [w, 14, 15] [29, 30] (g_put σM 0 30 a') σ1 := gj_mono (gj_fr (J := []) y3 (by simp; omega)) (by simp) (by simp)
    have g2 : gj [w, 14, 15] [29, 30] σ1 (g_put σ1 0 29 (nI (ct (cq D s) S))) := gj_put0 _ _ (by simp)
    have g3 : gj [w, 14, 15] [29, 30] (g_put σ1 0 29 (nI (ct (cq D s) S))) (g_put (g_put σ1 0 29 (nI (ct (cq D s) S))) 0 30 (nI (ct (cq D s) S))) := gj_put0 _ _ (by simp)
    have g := gj_trans g1 (gj_trans g2 g3)
    refine ⟨hr, _, _, τX, _, by rw [cr_7, x1, b_I], by rw [do_7 hs, b_L, y1, b_I, b_L, gp_s, b_L], x2, ?_, di_ok (cK_ok (by omega) w1 w7 hO S (by omega)) (dd_lt S hO.di), cK_lo F D C s S, x3, gj_trans m3 (gj_mono g (by simp) (by simp)), ?_, ?_⟩
    · rw [show ∀ (τ : gM) (x : Int32), (g_put τ 0 30 x).1 w = τ.1 w from fun τ x => g_put_o τ 0 30 x w (by omega), show ∀ (τ : gM) (x : Int32), (g_put τ 0 29 x).1 w = τ.1 w from fun τ x => g_put_o τ 0 29 x w (by omega)]
      exact y2
    · rw [gp_k, if_neg (by decide), gp_s]
    · rw [if_pos rfl, gp_s]
theorem AR_8 (hn : 100 ≤ n) (hE : XE D S C F σX) (hM : ME D S C F σM) (hO : Ok D S C s) (hX : XS C s (σX.1 (11 + 5 * i))) (hY : MS C s (σM.1 w) 0) (hw1 : 10 ≤ w) (hw2 : w ≤ 13) (a b c d : Int32) : AR D S C F n i w 8 a b c d a b c d s σX σM := by
  obtain ⟨w1, w2, w3, w4, w5, w6, w7⟩ := hE.1
  obtain ⟨h0, h1, h2, h3, h5, h6⟩ := hM.2.1
  have d0 : fX12_isDisk 0 σM = some (1, σM) := M_isDisk_yes (d := 0) hM (by omega)
  rcases J_stripe hE a with ⟨t, ht, rfl⟩ | ⟨e1, e2⟩
  · rcases J_chunk hE b with ⟨b, hb, rfl⟩ | ⟨e1, e2⟩
    · have hpl : fX12_isPlace 0 (nI t) (nI b) σM = some (1, σM) := M_isPlace_yes (d := 0) hM (by omega) ht hb
      rcases J_byte c with ⟨x, hx, rfl⟩ | e
      · rcases J_byte d with ⟨y, hy, rfl⟩ | e
        · have hr : fX8_refusal n i 8 (nI t) (nI b) (nI x) (nI y) σX = some (-1, σX) := by
            rw [rf_8]
            unfold fX8_refusalOfFull
            rw [X_isStripe_yes hE ht, b_I, if_neg (by decide), X_isByteOf_yes hE hb, b_I, if_neg (by decide), isByte_yes hx, b_I, if_neg (by decide), isByte_yes hy, b_I, if_neg (by decide), b_I]
          have hs : fX12_stops n w 8 (nI t) (nI b) (nI x) (nI y) σM = some (-1, σM) := by
            rw [st_8 _ _ _ _ _ _ _ (hA14 hM), hpl, b_I, if_neg (by decide), ← isByte_same, isByte_yes hx, b_I, if_neg (by decide), ← isByte_same, isByte_yes hy, b_I, if_neg (by decide)]
          right
          obtain ⟨m1, m2, m3⟩ := n30 hM hY hw1 (nI t)
          obtain ⟨τX, x1, x2, x3⟩ := X_doFull (n := n) (x := x) (y := y) (by omega) hE hO hX ht hb
          obtain ⟨σ1, y1, y2, y3⟩ := M_fills (n := n) (by omega) m1 hO m2 hw1 hw2 ht hb hx hy
          have g1 : gj [w, 14, 15] [29] (g_put σM 0 30 (nI t)) σ1 := gj_mono (gj_fr (J := []) y3 (by simp; omega)) (by simp) (by simp)
          have g2 : gj [w, 14, 15] [29] σ1 (g_put σ1 0 29 (nI (ct (th D s t) (D + 2)))) := gj_put0 _ _ (by simp)
          have g := gj_trans g1 g2
          refine ⟨hr, _, _, τX, _, by rw [cr_8, x1, b_I], by rw [do_8 hs, b_L, y1, b_I, b_L], x2, ?_, fuS_ok (by omega) w1 w7 (by omega) hO, rfl, x3, gj_trans m3 (gj_mono g (by simp) (by simp)), gp_s _ _ _ _, ?_⟩
          · rw [show ∀ (τ : gM) (x : Int32), (g_put τ 0 29 x).1 w = τ.1 w from fun τ x => g_put_o τ 0 29 x w (by omega)]
            exact y2
          · rw [if_neg (by decide)]
            exact k30 g (by simp)
        · exact AR_no 1 (by omega) (by rw [rf_8]; unfold fX8_refusalOfFull; rw [X_isStripe_yes hE ht, b_I, if_neg (by decide), X_isByteOf_yes hE hb, b_I, if_neg (by decide), isByte_yes hx, b_I, if_neg (by decide), e, b_I, if_pos rfl, b_I]; rfl) (by rw [st_8 _ _ _ _ _ _ _ (hA14 hM), hpl, b_I, if_neg (by decide), ← isByte_same, isByte_yes hx, b_I, if_neg (by decide), ← isByte_same, e, b_I, if_pos rfl]; rfl)
      · exact AR_no 1 (by omega) (by rw [rf_8]; unfold fX8_refusalOfFull; rw [X_isStripe_yes hE ht, b_I, if_neg (by decide), X_isByteOf_yes hE hb, b_I, if_neg (by decide), e, b_I, if_pos rfl, b_I]; rfl) (by rw [st_8 _ _ _ _ _ _ _ (hA14 hM), hpl, b_I, if_neg (by decide), ← isByte_same, e, b_I, if_pos rfl]; rfl)
    · exact AR_no 0 (by omega) (by rw [rf_8]; unfold fX8_refusalOfFull; rw [X_isStripe_yes hE ht, b_I, if_neg (by decide), e1, b_I, if_pos rfl, b_I]; rfl) (by rw [st_8 _ _ _ _ _ _ _ (hA14 hM)]; unfold fX12_isPlace; rw [d0, b_I, if_neg (by decide), h1, M_inS hM ht, b_I, if_neg (by decide), h2, e2, b_I, if_pos rfl, b_I, if_pos rfl]; rfl)
  · exact AR_no 0 (by omega) (by rw [rf_8]; unfold fX8_refusalOfFull; rw [e1, b_I, if_pos rfl, b_I]; rfl) (by rw [st_8 _ _ _ _ _ _ _ (hA14 hM)]; unfold fX12_isPlace; rw [d0, b_I, if_neg (by decide), h1, e2, b_I, if_pos rfl, b_I, if_pos rfl]; rfl)
def nmb (k : Nat) : Nat := ([2, 1, 1, 2, 1, 4, 3, 0, 4] : List Nat).getD k 0
/-- any act, by numbers of which those that it uses are the same -/
theorem AR_any (hn : 100 ≤ n) (hE : XE D S C F σX) (hM : ME D S C F σM) (hO : Ok D S C s) (hX : XS C s (σX.1 (11 + 5 * i))) (hY : MS C s (σM.1 w) 0) (hw1 : 10 ≤ w) (hw2 : w ≤ 13) {k : Nat} (hk : k < 9) {a b c d a' b' c' d' : Int32} (ha : 0 < nmb k → a = a') (hb : 1 < nmb k → b = b') (hc : 2 < nmb k → c = c') (hd : 3 < nmb k → d = d') : AR D S C F n i w (nI k) a b c d a' b' c' d' s σX σM := by
  rcases (show k = 0 ∨ k = 1 ∨ k = 2 ∨ k = 3 ∨ k = 4 ∨ k = 5 ∨ k = 6 ∨ k = 7 ∨ k = 8 by omega) with rfl | rfl | rfl | rfl | rfl | rfl | rfl | rfl | rfl
  · rw [← ha (by decide), ← hb (by decide)]; exact AR_0 hn hE hM hO hX hY hw1 hw2 a b c d c' d'
  · rw [← ha (by decide)]; exact AR_1 hn hE hM hO hX hY hw1 hw2 a b c d b' c' d'
  · rw [← ha (by decide)]; exact AR_2 hn hE hM hO hX hY hw1 hw2 a b c d b' c' d'
  · rw [← ha (by decide), ← hb (by decide)]; exact AR_3 hn hE hM hO hX hY hw1 hw2 a b c d c' d'
  · rw [← ha (by decide)]; exact AR_4 hn hE hM hO hX hY hw1 hw2 a b c d b' c' d'
  · rw [← ha (by decide), ← hb (by decide), ← hc (by decide), ← hd (by decide)]; exact AR_5 hn hE hM hO hX hY hw1 hw2 a b c d
  · rw [← ha (by decide), ← hb (by decide), ← hc (by decide)]; exact AR_6 hn hE hM hO hX hY hw1 hw2 a b c d d'
  · exact AR_7 hn hE hM hO hX hY hw1 hw2 a b c d a' b' c' d'
  · rw [← ha (by decide), ← hb (by decide), ← hc (by decide), ← hd (by decide)]; exact AR_8 hn hE hM hO hX hY hw1 hw2 a b c d
end ARR
