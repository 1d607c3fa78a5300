/-! the face: cost, who, more, fit, equal, span -/
theorem M_stops1 {D S C F n w a : Nat} {s : Sh} {σM : gM} (hn : 20 ≤ n) (hM : ME D S C F σM) (hO : Ok D S C s) (hY : MS C s (σM.1 w) 0) (ha : a < D + 2) (b' c' d' : Int32) : fX12_stops n w 1 (nI a) b' c' d' σM = some (rfL D s a, σM) := by
  obtain ⟨w1, w2, w3, w4, w5, w6, w7⟩ := hM.1
  have hh := hO.how a (by omega)
  have eh := hY.how a (by omega)
  rw [Nat.zero_add] at eh
  have hc := ct_le (nw D s) (D + 2)
  rw [st_1 _ _ _ _ _ _ _ (hA14 hM), M_isDisk_yes hM ha, b_I, if_neg (by decide), show (384 : Int32) + nI a = nI (384 + a) from nI_add 384 a, nCL (by omega), if_pos (by simp (disch := first | omega | assumption) only [fa_lit, nLE, nLT, nEQ, nI_add, nSA, nSUB, pk_mul, nDIV, nREM, nCL, fa_and, nx_xor, fa_or, nSHL, nSHR, nUS, n31, n255, Nat.and_one_is_mod, b_I, b_V, b_L, not_or, Nat.not_lt_zero, Nat.not_le, Nat.not_lt, not_false_eq_true, true_and, and_true, false_or, or_false, Classical.not_not, if_true, if_false, if_pos, if_neg] <;> omega), eh, M_lost (by omega) hM hO.how hY, b_I]
  unfold rfL
  by_cases c1 : s.how a = 1
  · rw [if_pos (by rw [c1]; rfl), if_pos c1]
  · rw [if_neg (by rw [show (1 : Int32) = nI 1 from rfl, nEQ _ _ (by omega) (by omega)]; exact c1), if_neg c1, if_pos (by simp (disch := first | omega | assumption) only [fa_lit, nLE, nLT, nEQ, nI_add, nSA, nSUB, pk_mul, nDIV, nREM, nCL, fa_and, nx_xor, fa_or, nSHL, nSHR, nUS, n31, n255, Nat.and_one_is_mod, b_I, b_V, b_L, not_or, Nat.not_lt_zero, Nat.not_le, Nat.not_lt, not_false_eq_true, true_and, and_true, false_or, or_false, Classical.not_not, if_true, if_false, if_pos, if_neg] <;> omega)]
    by_cases c0 : s.how a = 0
    · rw [if_pos (by rw [c0]; rfl)]
      by_cases c2 : 2 ≤ ct (nw D s) (D + 2)
      · rw [if_neg (by simp (disch := first | omega | assumption) only [fa_lit, nLE, nLT, nEQ, nI_add, nSA, nSUB, pk_mul, nDIV, nREM, nCL, fa_and, nx_xor, fa_or, nSHL, nSHR, nUS, n31, n255, Nat.and_one_is_mod, b_I, b_V, b_L, not_or, Nat.not_lt_zero, Nat.not_le, Nat.not_lt, not_false_eq_true, true_and, and_true, false_or, or_false, Classical.not_not, if_true, if_false, if_pos, if_neg] <;> omega), if_pos ⟨c0, c2⟩]
      · rw [if_pos (by simp (disch := first | omega | assumption) only [fa_lit, nLE, nLT, nEQ, nI_add, nSA, nSUB, pk_mul, nDIV, nREM, nCL, fa_and, nx_xor, fa_or, nSHL, nSHR, nUS, n31, n255, Nat.and_one_is_mod, b_I, b_V, b_L, not_or, Nat.not_lt_zero, Nat.not_le, Nat.not_lt, not_false_eq_true, true_and, and_true, false_or, or_false, Classical.not_not, if_true, if_false, if_pos, if_neg] <;> omega), if_neg (fun z => c2 z.2)]
    · rw [if_neg (by rw [show (0 : Int32) = nI 0 from rfl, nEQ _ _ (by omega) (by omega)]; exact c0), if_neg (fun z => c0 z.1)]
theorem va_gv {F D S C t b : Nat} {s : Sh} (hT : ∀ r, r < D + 2 → th D s t r = true) : ∀ r, r < D + 2 → vl D s t b (th D s t) r = va D s t b r := by
  intro r hr
  unfold va vl
  rw [if_pos (hT r hr), if_pos rfl]
theorem wI_neg {D k : Nat} (hk : k < D + 4) (h : ¬ k < D + 2) : ¬ (0 : Int32) ≤ wI D k := by
  unfold wI
  rcases (show k = D + 2 ∨ k = D + 3 by omega) with c | c
  · rw [if_pos c]; decide
  · rw [if_neg (by omega), if_pos c]; decide
theorem wI_pos {D k : Nat} (h : k < D + 2) : wI D k = nI k := by
  unfold wI
  rw [if_neg (by omega), if_neg (by omega)]
theorem no3 {v : Int32} (q : v < 0 ∨ (¬ v < 0 ∧ ¬ v ≤ 2)) {k : Nat} (hk : k < 3) : ¬ v = nI k := by
  intro z
  subst z
  rcases q with q | q
  · rw [show (0 : Int32) = nI 0 from rfl, nLT _ _ (by omega) (by omega)] at q
    omega
  · have q2 := q.2
    rw [show (2 : Int32) = nI 2 from rfl, nLE _ _ (by omega) (by omega)] at q2
    omega
section OPS
variable {c : Nat} {σX σM : gM}
theorem o27 (a1 a2 : Int32) (h : Inv c σX σM) : ∃ (r : Int32) (τX τM : gM), fX11_cost 1000 a1 a2 σX = some (r, τX) ∧ fX12_cost 1000 a1 a2 σM = some (r, τM) ∧ Inv (c + 1) τX τM := by
  have h0 := Inv_0 h 0
  unfold fX11_cost fX12_cost
  rw [b_L]
  generalize g_put σM 0 0 0 = σ0 at *
  rcases Inv_cases h0 with hN | ⟨D, S, C, F, s, xe, me, ok, xs, ms⟩
  · rw [no_addr hN, b_I, if_pos rfl, noM_addr hN, b_I, if_pos rfl]
    exact ⟨_, _, _, rfl, rfl, h0⟩
  · have hw := xe.1
    obtain ⟨w1, w2, w3, w4, w5, w6, w7⟩ := xe.1
    rcases J_addr xe me a1 with ⟨a, ha, rfl⟩ | ⟨e1, e2⟩
    · have ha' := ad_1000 w2 w4 w6 ha
      obtain ⟨at1, at2, at3⟩ := ad_lt w5 w1 ha
      have xs0 : XS C s (σX.1 (11 + 5 * 0)) := xs
      have h2 := th_two (by omega) w1 w4 at1 ok
      obtain ⟨σ1, e1, V1, I1, f1⟩ := M_laysOne (n := 1000) (by omega) me ok ms (by omega) (by omega) at1 at3
      have hE1 := ME_fr me f1 (by simp) (by simp) (by simp) (by simp)
      obtain ⟨σ2, k1, k2, k3, k4, k5⟩ := M_chooses (n := 1000) (by omega) hE1 I1 at2 h2
      have FM : gj [14, 15] [26, 27, 28] σ0 σ2 := gj_trans (gj_fr (J := [26, 27, 28]) f1 (by simp)) (gj_mono k5 (by simp) (by simp))
      have hI : Inv (c + 1) σX σ2 := Inv_gk h0 (gj_refl [] [] _) FM (by decide) (by decide) (by decide) (by decide)
      have hwy := wy_lt D (th D s (a / C / D)) (a / C % D)
      unfold fX4_costOf
      rw [X_isAddress_yes xe ha, b_I, if_neg n10, X_partOf hw xe.2.1 ha', b_I, X_stripeOf hw xe.2.1 ha', b_I, X_missing (by omega) xe (Ok_don ok w4) xs0 (by omega), b_I, X_wayOf xe at2, b_I, X_readBits xe at2 hwy, b_I, bc_bm (by omega), b_I, X_writeBits xe at2, b_I, bc_bm (by omega), b_I, M_isAddress_yes me ha, b_I, if_neg n10]
      rcases J_02 a2 with ⟨x, hx, rfl⟩ | ⟨q, e⟩
      · rw [l_0, l_2, M_isIn_yes (by omega) (by omega) (by omega), b_I, if_neg n10, M_stripeOf hw me.2.1 ha', b_I, M_byteOf hw me.2.1 ha', b_I, e1, b_V, M_partOf hw hE1.2.1 ha', b_I, k1, b_V, k2, k3, k4]
        rcases (show x = 0 ∨ x = 1 ∨ x = 2 by omega) with rfl | rfl | rfl
        · rw [if_pos (show nI 0 = 0 from rfl), if_pos (show nI 0 = 0 from rfl), b_I]
          exact ⟨_, _, _, rfl, rfl, hI⟩
        · rw [if_neg (show ¬ nI 1 = 0 by decide), if_neg (show ¬ nI 1 = 0 by decide), if_pos (show nI 1 = 1 from rfl), if_pos (show nI 1 = 1 from rfl), b_I]
          exact ⟨_, _, _, rfl, rfl, hI⟩
        · rw [if_neg (show ¬ nI 2 = 0 by decide), if_neg (show ¬ nI 2 = 0 by decide), if_neg (show ¬ nI 2 = 1 by decide), if_neg (show ¬ nI 2 = 1 by decide), if_pos (show nI 2 = 2 from rfl), b_I]
          exact ⟨_, _, _, rfl, rfl, hI⟩
      · have y0 : ¬ a2 = 0 := no3 q (k := 0) (by omega)
        have y1 : ¬ a2 = 1 := no3 q (k := 1) (by omega)
        have y2 : ¬ a2 = 2 := no3 q (k := 2) (by omega)
        rw [if_neg y0, if_neg y1, if_neg y2, b_I, e, b_I, if_pos rfl]
        exact ⟨_, _, _, rfl, rfl, h0⟩
    · rw [e1, b_I, if_pos rfl, e2, b_I, if_pos rfl]
      exact ⟨_, _, _, rfl, rfl, h0⟩
theorem o29 (a1 a2 : Int32) (h : Inv c σX σM) : ∃ (r : Int32) (τX τM : gM), fX11_who 1000 a1 a2 σX = some (r, τX) ∧ fX12_who 1000 a1 a2 σM = some (r, τM) ∧ Inv (c + 1) τX τM := by
  have h0 := Inv_0 h 0
  unfold fX11_who fX12_who fX11_who_b34 fX12_who_b38
  rw [b_L]
  generalize g_put σM 0 0 0 = σ0 at *
  rcases Inv_cases h0 with hN | ⟨D, S, C, F, s, xe, me, ok, xs, ms⟩
  · rw [no_stripe hN, b_I, if_pos rfl, noM_place hN, b_I, if_pos rfl]
    exact ⟨_, _, _, rfl, rfl, h0⟩
  · have hw := xe.1
    obtain ⟨w1, w2, w3, w4, w5, w6, w7⟩ := xe.1
    obtain ⟨m0, m1, m2, m3, m5, m6⟩ := me.2.1
    have d0 : fX12_isDisk 0 σ0 = some (1, σ0) := M_isDisk_yes (d := 0) me (by omega)
    rcases J_stripe xe a1 with ⟨t, ht, rfl⟩ | ⟨e1, e2⟩
    · rcases J_chunk xe a2 with ⟨b, hb, rfl⟩ | ⟨e1, e2⟩
      · have xs0 : XS C s (σX.1 (11 + 5 * 0)) := xs
        have hbl := bm_lt8 (p := fun r => !th D s t r) (show D + 2 ≤ 8 by omega)
        rw [X_isStripe_yes xe ht, b_I, if_neg n10, X_isByteOf_yes xe hb, b_I, if_neg n10, show fX12_isPlace 0 (nI t) (nI b) σ0 = some (1, σ0) from M_isPlace_yes (d := 0) me (by omega) ht hb, b_I, if_neg n10, M_isAll (by omega) me ok ms ht, b_I]
        unfold fX4_wrongDisk fX4_wrongDisk_b22
        rw [X_missing (by omega) xe (Ok_don ok w4) xs0 (by omega), b_I, X_isDirty xs0 (Ok_di ok w4) (by omega), b_I]
        by_cases c1 : alB D s t = true
        · have e0 : bm (fun r => !th D s t r) (D + 2) = 0 := by unfold alB at c1; exact beq_iff_eq.mp c1
          have hT := al_r.mp c1
          rw [e0, if_pos (show nI 0 = 0 from rfl), if_pos c1, if_neg (show ¬ nI 1 = 0 by decide), M_isDirty ms (Ok_di ok w4) (by omega), b_I]
          by_cases c2 : dtB s t = true
          · rw [if_pos c2, if_neg (show ¬ nI 1 = 0 by decide), if_neg (show ¬ nI 1 = 0 by decide), b_I]
            exact ⟨_, _, _, rfl, rfl, h0⟩
          · have em : bm (fun r => !(fun _ => true : Nat → Bool) r) (D + 2) = 0 := bm_z.mpr fun _ _ => rfl
            obtain ⟨X1, l1, B1, g1⟩ := X_load (n := 1000) (i := 0) (is := fun _ => true) (by omega) xe xs0 (show t < 12 by omega) hb (fun r hr _ => hT r hr)
            rw [em] at l1
            have xe1 := XE_fr xe g1 (by simp <;> omega) (by simp <;> omega) (by simp <;> omega) (by simp <;> omega)
            have hv : ∀ r, r < D + 2 → va D s t b r < 256 := fun r _ => va_lt ok.byt r
            obtain ⟨σ1, e1, V0, I1, f1⟩ := M_laysOne (n := 1000) (by omega) me ok ms (by omega) (by omega) ht hb
            have V1 : MV D (va D s t b) σ1 := fun r hr => by rw [V0 r hr, va_gv (F := F) (S := S) (C := C) hT r hr]
            have me1 := ME_fr me f1 (by simp) (by simp) (by simp) (by simp)
            have hI : Inv (c + 1) X1 σ1 := Inv_gk h0 (gj_fr (J := []) g1 (by simp)) (gj_fr (J := []) f1 (by simp)) (by decide) (by decide) (by decide) (by decide)
            have hk := wrg_lt F D (va D s t b)
            rw [if_neg c2, if_pos (show nI 0 = 0 from rfl), if_pos (show nI 0 = 0 from rfl), show (0 : Int32) = nI 0 from rfl, l1, b_V, X_wrongPart (by omega) xe1 B1 hv, b_I, e1, b_V, M_wrong (by omega) me1 V1 hv, b_I]
            have eva : vl D s t b (fun _ => true) = va D s t b := rfl
            rw [eva]
            by_cases c3 : wrg F D (va D s t b) < D + 2
            · have y : nI 0 ≤ nI (wrg F D (va D s t b)) := by rw [nLE _ _ (by omega) (by omega)]; omega
              rw [wI_pos c3, if_pos y, if_pos y, X_diskOf hw xe1.2.1 c3 (by omega), b_I, b_I, M_diskOf hw me1.2.1 c3 (by omega), b_I]
              exact ⟨_, _, _, rfl, rfl, hI⟩
            · have y : ¬ nI 0 ≤ wI D (wrg F D (va D s t b)) := wI_neg hk c3
              rw [if_neg y, if_neg y, b_I]
              exact ⟨_, _, _, rfl, rfl, hI⟩
        · have e0 : ¬ bm (fun r => !th D s t r) (D + 2) = 0 := by
            intro z
            apply c1
            unfold alB
            rw [z]; rfl
          have y : ¬ nI (bm (fun r => !th D s t r) (D + 2)) = 0 := by rw [show (0 : Int32) = nI 0 from rfl, nEQ _ _ (by omega) (by omega)]; exact e0
          rw [if_neg y, b_I, if_neg c1, if_pos (show nI 0 = 0 from rfl)]
          exact ⟨_, _, _, rfl, rfl, h0⟩
      · unfold fX12_isPlace
        rw [X_isStripe_yes xe ht, b_I, if_neg n10, e1, b_I, if_pos rfl, d0, b_I, if_neg n10, m1, M_inS me ht, b_I, if_neg n10, m2, e2, b_I, if_pos rfl, b_I, if_pos rfl]
        exact ⟨_, _, _, rfl, rfl, h0⟩
    · unfold fX12_isPlace
      rw [e1, b_I, if_pos rfl, d0, b_I, if_neg n10, m1, e2, b_I, if_pos rfl, b_I, if_pos rfl]
      exact ⟨_, _, _, rfl, rfl, h0⟩
theorem o30 (h : Inv c σX σM) : ∃ (r : Int32) (τX τM : gM), fX11_more 1000 σX = some (r, τX) ∧ fX12_more 1000 σM = some (r, τM) ∧ Inv (c + 1) τX τM := by
  have h0 := Inv_0 h 0
  unfold fX11_more fX12_more
  rw [b_L]
  generalize g_put σM 0 0 0 = σ0 at *
  rcases Inv_cases h0 with hN | ⟨D, S, C, F, s, xe, me, ok, xs, ms⟩
  · rw [no_pres hN, b_I, if_pos rfl, if_pos hN.m14]
    exact ⟨_, _, _, rfl, rfl, h0⟩
  · obtain ⟨w1, w2, w3, w4, w5, w6, w7⟩ := xe.1
    obtain ⟨x0, x1, x2, x3, x5, x6, x7, x8, x9⟩ := xe.2.1
    obtain ⟨m0, m1, m2, m3, m5, m6⟩ := me.2.1
    have xs0 : XS C s (σX.1 (11 + 5 * 0)) := xs
    have eX : fX4_losable 1000 σX = some (nI (bm (fun d => decide (cl D s d = 1)) (D + 2)), σX) := by
      unfold fX4_losable
      refine lp (L := fun m k (q : Int32) => fX4_losable_L4 1000 m q (nI k) σX) (I := fun k q => q = nI (bm (fun d => decide (cl D s d = 1)) k)) (Q := fun o => o = some (nI (bm (fun d => decide (cl D s d = 1)) (D + 2)), σX)) (N := D + 2) ?_ ?_ (D + 2) 1000 0 0 (by omega) (by omega) rfl
      · intro m k q hk hq
        subst hq
        left
        show ∃ a', fX4_losable_b4 1000 (fX4_losable_L4 1000 m) (nI (bm (fun d => decide (cl D s d = 1)) k)) (nI k) σX = _ ∧ _
        unfold fX4_losable_b4 fX4_losable_b32
        rw [x5, if_neg (by simp (disch := first | omega | assumption) only [fa_lit, nLE, nLT, nEQ, nI_add, nSA, nSUB, pk_mul, nDIV, nREM, nCL, fa_and, nx_xor, fa_or, nSHL, nSHR, nUS, n31, n255, Nat.and_one_is_mod, b_I, b_V, b_L, not_or, Nat.not_lt_zero, Nat.not_le, Nat.not_lt, not_false_eq_true, true_and, and_true, false_or, or_false, Classical.not_not, if_true, if_false, if_pos, if_neg] <;> omega), X_canLose (by omega) xe ok xs0 (by omega), b_I, bm_up, show nI k + 1 = nI (k + 1) from nI_add k 1]
        have hcl : cl D s k = 0 ∨ cl D s k = 1 := by
          unfold cl
          by_cases y : s.how k = 1
          · rw [if_pos y]; exact Or.inl rfl
          · rw [if_neg y]
            by_cases y2 : s.how k = 0 ∧ 2 ≤ ct (nw D s) (D + 2)
            · rw [if_pos y2]; exact Or.inl rfl
            · rw [if_neg y2]; exact Or.inr rfl
        rcases hcl with y | y
        · rw [y, if_pos (show nI 0 = 0 from rfl), if_neg (by decide), Nat.or_zero]
          exact ⟨_, rfl, rfl⟩
        · rw [y, if_neg (show ¬ nI 1 = 0 by decide), if_pos (by decide), sh1 (by omega), fa_or]
          exact ⟨_, rfl, rfl⟩
      · intro m q hq
        subst hq
        show fX4_losable_b4 1000 (fX4_losable_L4 1000 m) (nI (bm (fun d => decide (cl D s d = 1)) (D + 2))) (nI (D + 2)) σX = _
        unfold fX4_losable_b4
        rw [x5, if_pos (by simp (disch := first | omega | assumption) only [fa_lit, nLE, nLT, nEQ, nI_add, nSA, nSUB, pk_mul, nDIV, nREM, nCL, fa_and, nx_xor, fa_or, nSHL, nSHR, nUS, n31, n255, Nat.and_one_is_mod, b_I, b_V, b_L, not_or, Nat.not_lt_zero, Nat.not_le, Nat.not_lt, not_false_eq_true, true_and, and_true, false_or, or_false, Classical.not_not, if_true, if_false, if_pos, if_neg] <;> omega)]
    have eM : fX12_more_L18 1000 1000 0 0 σ0 = some (nI (bm (fun d => decide (cl D s d = 1)) (D + 2)), σ0) := by
      refine lp (L := fun m k (q : Int32) => fX12_more_L18 1000 m q (nI k) σ0) (I := fun k q => q = nI (bm (fun d => decide (cl D s d = 1)) k)) (Q := fun o => o = some (nI (bm (fun d => decide (cl D s d = 1)) (D + 2)), σ0)) (N := D + 2) ?_ ?_ (D + 2) 1000 0 0 (by omega) (by omega) rfl
      · intro m k q hk hq
        subst hq
        left
        show ∃ a', fX12_more_b18 1000 (fX12_more_L18 1000 m) (nI (bm (fun d => decide (cl D s d = 1)) k)) (nI k) σ0 = _ ∧ _
        unfold fX12_more_b18 fX12_more_b51
        rw [m5, if_neg (by simp (disch := first | omega | assumption) only [fa_lit, nLE, nLT, nEQ, nI_add, nSA, nSUB, pk_mul, nDIV, nREM, nCL, fa_and, nx_xor, fa_or, nSHL, nSHR, nUS, n31, n255, Nat.and_one_is_mod, b_I, b_V, b_L, not_or, Nat.not_lt_zero, Nat.not_le, Nat.not_lt, not_false_eq_true, true_and, and_true, false_or, or_false, Classical.not_not, if_true, if_false, if_pos, if_neg] <;> omega), M_stops1 (by omega) me ok ms hk, b_I, bm_up, show nI k + 1 = nI (k + 1) from nI_add k 1]
        unfold rfL cl
        by_cases y : s.how k = 1
        · rw [if_pos y, if_pos y, if_neg (show ¬ (2 : Int32) = -1 by decide), if_neg (by decide), show (0 : Int32) = nI 0 from rfl, fa_or]
          exact ⟨_, rfl, rfl⟩
        · rw [if_neg y, if_neg y]
          by_cases y2 : s.how k = 0 ∧ 2 ≤ ct (nw D s) (D + 2)
          · rw [if_pos y2, if_pos y2, if_neg (show ¬ (3 : Int32) = -1 by decide), if_neg (by decide), show (0 : Int32) = nI 0 from rfl, fa_or]
            exact ⟨_, rfl, rfl⟩
          · rw [if_neg y2, if_neg y2, if_pos (show (-1 : Int32) = -1 from rfl), if_pos (by decide), sh1 (by omega), fa_or]
            exact ⟨_, rfl, rfl⟩
      · intro m q hq
        subst hq
        show fX12_more_b18 1000 (fX12_more_L18 1000 m) (nI (bm (fun d => decide (cl D s d = 1)) (D + 2))) (nI (D + 2)) σ0 = _
        unfold fX12_more_b18
        rw [m5, if_pos (by simp (disch := first | omega | assumption) only [fa_lit, nLE, nLT, nEQ, nI_add, nSA, nSUB, pk_mul, nDIV, nREM, nCL, fa_and, nx_xor, fa_or, nSHL, nSHR, nUS, n31, n255, Nat.and_one_is_mod, b_I, b_V, b_L, not_or, Nat.not_lt_zero, Nat.not_le, Nat.not_lt, not_false_eq_true, true_and, and_true, false_or, or_false, Classical.not_not, if_true, if_false, if_pos, if_neg] <;> omega)]
    rw [hP55 xe, b_I, if_neg n10, eX, b_I, if_neg (hA14 me), eM]
    exact ⟨_, _, _, rfl, rfl, h0⟩
/-- all sums of a stripe are right, up to a byte -/
def rgt (F D : Nat) (s : Sh) (t : Nat) : Nat → Bool
  | 0 => true
  | b + 1 => rgt F D s t b && decide (wrg F D (va D s t b) = D + 2)
theorem rgt_no {F D t b : Nat} {s : Sh} (h : wrg F D (va D s t b) ≠ D + 2) : ∀ k, b < k → rgt F D s t k = false
  | 0, hk => absurd hk (Nat.not_lt_zero _)
  | k + 1, hk => by
    rw [rgt]
    by_cases e : b = k
    · subst e; simp [h]
    · rw [rgt_no h k (by omega)]; rfl
theorem wI_m1 {D k : Nat} (hD : D < 7) (hk : k < D + 4) : wI D k = -1 ↔ k = D + 2 := by
  unfold wI
  by_cases c : k = D + 2
  · rw [if_pos c]; exact ⟨fun _ => c, fun _ => rfl⟩
  · rw [if_neg c]
    by_cases c2 : k = D + 3
    · rw [if_pos c2]; exact ⟨fun z => absurd z (by decide), fun z => absurd z c⟩
    · rw [if_neg c2]; exact ⟨fun z => absurd z (nM1 (by omega)), fun z => absurd z c⟩
theorem o32 (h : Inv c σX σM) : ∃ (r : Int32) (τX τM : gM), fX11_fit 1000 σX = some (r, τX) ∧ fX12_fit 1000 σM = some (r, τM) ∧ Inv (c + 1) τX τM := by
  have h0 := Inv_0 h 0
  unfold fX11_fit fX12_fit
  rw [b_L]
  generalize g_put σM 0 0 0 = σ0 at *
  rcases Inv_cases h0 with hN | ⟨D, S, C, F, s, xe, me, ok, xs, ms⟩
  · rw [no_pres hN, b_I, if_pos rfl, if_pos hN.m14]
    exact ⟨_, _, _, rfl, rfl, h0⟩
  · obtain ⟨w1, w2, w3, w4, w5, w6, w7⟩ := xe.1
    have xs0 : XS C s (σX.1 (11 + 5 * 0)) := xs
    have em : bm (fun r => !(fun _ => true : Nat → Bool) r) (D + 2) = 0 := bm_z.mpr fun _ _ => rfl
    -- a stripe of which all is there
    have rX : ∀ (t : Nat) (a : gM), t < S → alB D s t = true → fr [13] σX a → ∃ a', fX4_isRight 1000 (nI t) a = some (nI (if rgt F D s t C then 1 else 0), a') ∧ fr [13] σX a' := by
      intro t a ht hal hf
      have hT := al_r.mp hal
      unfold fX4_isRight
      refine lp (L := fun m k a => fX4_isRight_L2 1000 m (nI t) (nI k) a) (I := fun k a => rgt F D s t k = true ∧ fr [13] σX a) (Q := fun o => ∃ a', o = some (nI (if rgt F D s t C then 1 else 0), a') ∧ fr [13] σX a') (N := C) ?_ ?_ C 1000 0 a (by omega) (by omega) ⟨rfl, hf⟩
      · intro m k a hk ha
        obtain ⟨a1, a2⟩ := ha
        have xea := XE_fr xe a2 (by simp) (by simp) (by simp) (by simp)
        obtain ⟨x0, x1, x2, x3, x5, x6, x7, x8, x9⟩ := xea.2.1
        have xsa : XS C s (a.1 (11 + 5 * 0)) := by rw [a2.1 (11 + 5 * 0) (by simp)]; exact xs
        obtain ⟨X1, l1, B1, g1⟩ := X_load (n := 1000) (i := 0) (is := fun _ => true) (by omega) xea xsa (show t < 12 by omega) hk (fun r hr _ => hT r hr)
        rw [em] at l1
        have xe1 := XE_fr xea g1 (by simp <;> omega) (by simp <;> omega) (by simp <;> omega) (by simp <;> omega)
        have hv : ∀ r, r < D + 2 → va D s t k r < 256 := fun r _ => va_lt ok.byt r
        have hkw := wrg_lt F D (va D s t k)
        have F1 : fr [13] σX X1 := fr_trans a2 g1
        show (∃ a', fX4_isRight_b2 1000 (fX4_isRight_L2 1000 m) (nI t) (nI k) a = _ ∧ _) ∨ (∃ a', fX4_isRight_b2 1000 (fX4_isRight_L2 1000 m) (nI t) (nI k) a = _ ∧ _)
        unfold fX4_isRight_b2
        rw [x2, if_neg (by simp (disch := first | omega | assumption) only [fa_lit, nLE, nLT, nEQ, nI_add, nSA, nSUB, pk_mul, nDIV, nREM, nCL, fa_and, nx_xor, fa_or, nSHL, nSHR, nUS, n31, n255, Nat.and_one_is_mod, b_I, b_V, b_L, not_or, Nat.not_lt_zero, Nat.not_le, Nat.not_lt, not_false_eq_true, true_and, and_true, false_or, or_false, Classical.not_not, if_true, if_false, if_pos, if_neg] <;> omega), show (0 : Int32) = nI 0 from rfl, l1, b_V, X_wrongPart (by omega) xe1 B1 hv, b_I, show nI k + 1 = nI (k + 1) from nI_add k 1]
        have eva : vl D s t k (fun _ => true) = va D s t k := rfl
        rw [eva]
        by_cases y : wrg F D (va D s t k) = D + 2
        · left
          rw [if_pos ((wI_m1 (by omega) hkw).mpr y)]
          refine ⟨X1, rfl, ?_, F1⟩
          rw [rgt, a1]; simp [y]
        · right
          rw [if_neg (fun z => y ((wI_m1 (by omega) hkw).mp z)), rgt_no y C hk]
          exact ⟨X1, rfl, F1⟩
      · intro m a ha
        obtain ⟨a1, a2⟩ := ha
        have xea := XE_fr xe a2 (by simp) (by simp) (by simp) (by simp)
        obtain ⟨x0, x1, x2, x3, x5, x6, x7, x8, x9⟩ := xea.2.1
        refine ⟨a, ?_, a2⟩
        show fX4_isRight_b2 1000 (fX4_isRight_L2 1000 m) (nI t) (nI C) a = _
        unfold fX4_isRight_b2
        rw [x2, if_pos (by simp (disch := first | omega | assumption) only [fa_lit, nLE, nLT, nEQ, nI_add, nSA, nSUB, pk_mul, nDIV, nREM, nCL, fa_and, nx_xor, fa_or, nSHL, nSHR, nUS, n31, n255, Nat.and_one_is_mod, b_I, b_V, b_L, not_or, Nat.not_lt_zero, Nat.not_le, Nat.not_lt, not_false_eq_true, true_and, and_true, false_or, or_false, Classical.not_not, if_true, if_false, if_pos, if_neg] <;> omega), if_pos a1]
        rfl
    have rM : ∀ (t : Nat) (a : gM), t < S → alB D s t = true → fr [14, 15] σ0 a → ∃ a', fX12_isFit_L16 1000 1000 (nI t) 0 a = some (nI (if rgt F D s t C then 1 else 0), a') ∧ fr [14, 15] σ0 a' := by
      intro t a ht hal hf
      have hT := al_r.mp hal
      refine lp (L := fun m k a => fX12_isFit_L16 1000 m (nI t) (nI k) a) (I := fun k a => rgt F D s t k = true ∧ fr [14, 15] σ0 a) (Q := fun o => ∃ a', o = some (nI (if rgt F D s t C then 1 else 0), a') ∧ fr [14, 15] σ0 a') (N := C) ?_ ?_ C 1000 0 a (by omega) (by omega) ⟨rfl, hf⟩
      · intro m k a hk ha
        obtain ⟨a1, a2⟩ := ha
        have mea := ME_fr me a2 (by simp) (by simp) (by simp) (by simp)
        obtain ⟨m0, m1, m2, m3, m5, m6⟩ := mea.2.1
        have msa : MS C s (a.1 10) 0 := by rw [a2.1 10 (by simp)]; exact ms
        obtain ⟨σ1, e1, V0, I1, f1⟩ := M_laysOne (n := 1000) (by omega) mea ok msa (by omega) (by omega) ht hk
        have V1 : MV D (va D s t k) σ1 := fun r hr => by rw [V0 r hr, va_gv (F := F) (S := S) (C := C) hT r hr]
        have me1 := ME_fr mea f1 (by simp) (by simp) (by simp) (by simp)
        have hv : ∀ r, r < D + 2 → va D s t k r < 256 := fun r _ => va_lt ok.byt r
        have hkw := wrg_lt F D (va D s t k)
        have F1 : fr [14, 15] σ0 σ1 := fr_trans a2 f1
        show (∃ a', fX12_isFit_b16 1000 (fX12_isFit_L16 1000 m) (nI t) (nI k) a = _ ∧ _) ∨ (∃ a', fX12_isFit_b16 1000 (fX12_isFit_L16 1000 m) (nI t) (nI k) a = _ ∧ _)
        unfold fX12_isFit_b16
        rw [m2, if_neg (by simp (disch := first | omega | assumption) only [fa_lit, nLE, nLT, nEQ, nI_add, nSA, nSUB, pk_mul, nDIV, nREM, nCL, fa_and, nx_xor, fa_or, nSHL, nSHR, nUS, n31, n255, Nat.and_one_is_mod, b_I, b_V, b_L, not_or, Nat.not_lt_zero, Nat.not_le, Nat.not_lt, not_false_eq_true, true_and, and_true, false_or, or_false, Classical.not_not, if_true, if_false, if_pos, if_neg] <;> omega), e1, b_V, M_wrong (by omega) me1 V1 hv, b_I, show nI k + 1 = nI (k + 1) from nI_add k 1]
        by_cases y : wrg F D (va D s t k) = D + 2
        · left
          rw [if_pos ((wI_m1 (by omega) hkw).mpr y)]
          refine ⟨σ1, rfl, ?_, F1⟩
          rw [rgt, a1]; simp [y]
        · right
          rw [if_neg (fun z => y ((wI_m1 (by omega) hkw).mp z)), rgt_no y C hk]
          exact ⟨σ1, rfl, F1⟩
      · intro m a ha
        obtain ⟨a1, a2⟩ := ha
        have mea := ME_fr me a2 (by simp) (by simp) (by simp) (by simp)
        obtain ⟨m0, m1, m2, m3, m5, m6⟩ := mea.2.1
        refine ⟨a, ?_, a2⟩
        show fX12_isFit_b16 1000 (fX12_isFit_L16 1000 m) (nI t) (nI C) a = _
        unfold fX12_isFit_b16
        rw [m2, if_pos (by simp (disch := first | omega | assumption) only [fa_lit, nLE, nLT, nEQ, nI_add, nSA, nSUB, pk_mul, nDIV, nREM, nCL, fa_and, nx_xor, fa_or, nSHL, nSHR, nUS, n31, n255, Nat.and_one_is_mod, b_I, b_V, b_L, not_or, Nat.not_lt_zero, Nat.not_le, Nat.not_lt, not_false_eq_true, true_and, and_true, false_or, or_false, Classical.not_not, if_true, if_false, if_pos, if_neg] <;> omega), if_pos a1]
        rfl
    have eX : ∃ τ, fX4_fitStripes 1000 σX = some (nI (bm (fun t => alB D s t && rgt F D s t C) S), τ) ∧ fr [13] σX τ := by
      unfold fX4_fitStripes
      refine lp (L := fun m k (q : Int32 × gM) => fX4_fitStripes_L4 1000 m q.1 (nI k) q.2) (I := fun k q => q.1 = nI (bm (fun t => alB D s t && rgt F D s t C) k) ∧ fr [13] σX q.2) (Q := fun o => ∃ τ, o = some (nI (bm (fun t => alB D s t && rgt F D s t C) S), τ) ∧ fr [13] σX τ) (N := S) ?_ ?_ S 1000 0 (0, σX) (by omega) (by omega) ⟨rfl, fr_refl _ _⟩
      · intro m k q hk hq
        obtain ⟨q1, q2⟩ := hq
        have xea := XE_fr xe q2 (by simp) (by simp) (by simp) (by simp)
        obtain ⟨x0, x1, x2, x3, x5, x6, x7, x8, x9⟩ := xea.2.1
        have xsa : XS C s (q.2.1 (11 + 5 * 0)) := by rw [q2.1 (11 + 5 * 0) (by simp)]; exact xs
        have hbl := bm_lt8 (p := fun r => !th D s k r) (show D + 2 ≤ 8 by omega)
        left
        show ∃ a', fX4_fitStripes_b4 1000 (fX4_fitStripes_L4 1000 m) q.1 (nI k) q.2 = _ ∧ _
        unfold fX4_fitStripes_b4 fX4_fitStripes_b40
        rw [x1, if_neg (by simp (disch := first | omega | assumption) only [fa_lit, nLE, nLT, nEQ, nI_add, nSA, nSUB, pk_mul, nDIV, nREM, nCL, fa_and, nx_xor, fa_or, nSHL, nSHR, nUS, n31, n255, Nat.and_one_is_mod, b_I, b_V, b_L, not_or, Nat.not_lt_zero, Nat.not_le, Nat.not_lt, not_false_eq_true, true_and, and_true, false_or, or_false, Classical.not_not, if_true, if_false, if_pos, if_neg] <;> omega), X_missing (by omega) xea (Ok_don ok w4) xsa (by omega), b_I, q1, bm_up (fun t => alB D s t && rgt F D s t C) k, show nI k + 1 = nI (k + 1) from nI_add k 1]
        by_cases y : alB D s k = true
        · have e0 : bm (fun r => !th D s k r) (D + 2) = 0 := by unfold alB at y; exact beq_iff_eq.mp y
          obtain ⟨a', f1, f2⟩ := rX k q.2 hk y q2
          rw [e0, if_pos (show nI 0 = 0 from rfl), f1, b_I]
          by_cases z : rgt F D s k C = true
          · rw [if_pos z, if_neg (show ¬ nI 1 = 0 by decide), if_pos (by rw [y, z]; rfl), sh1 (by omega), fa_or]
            exact ⟨(_, a'), rfl, rfl, f2⟩
          · rw [if_neg z, if_pos (show nI 0 = 0 from rfl), if_neg (by rw [Bool.eq_false_iff.mpr z]; simp), Nat.or_zero]
            exact ⟨(_, a'), rfl, rfl, f2⟩
        · have e0 : ¬ bm (fun r => !th D s k r) (D + 2) = 0 := by
            intro z
            apply y
            unfold alB
            rw [z]; rfl
          have y' : ¬ nI (bm (fun r => !th D s k r) (D + 2)) = 0 := by rw [show (0 : Int32) = nI 0 from rfl, nEQ _ _ (by omega) (by omega)]; exact e0
          rw [if_neg y', if_neg (by rw [Bool.eq_false_iff.mpr y]; simp), Nat.or_zero]
          exact ⟨(_, q.2), rfl, rfl, q2⟩
      · intro m q hq
        obtain ⟨q1, q2⟩ := hq
        have xea := XE_fr xe q2 (by simp) (by simp) (by simp) (by simp)
        obtain ⟨x0, x1, x2, x3, x5, x6, x7, x8, x9⟩ := xea.2.1
        refine ⟨q.2, ?_, q2⟩
        show fX4_fitStripes_b4 1000 (fX4_fitStripes_L4 1000 m) q.1 (nI S) q.2 = _
        unfold fX4_fitStripes_b4
        rw [x1, if_pos (by simp (disch := first | omega | assumption) only [fa_lit, nLE, nLT, nEQ, nI_add, nSA, nSUB, pk_mul, nDIV, nREM, nCL, fa_and, nx_xor, fa_or, nSHL, nSHR, nUS, n31, n255, Nat.and_one_is_mod, b_I, b_V, b_L, not_or, Nat.not_lt_zero, Nat.not_le, Nat.not_lt, not_false_eq_true, true_and, and_true, false_or, or_false, Classical.not_not, if_true, if_false, if_pos, if_neg] <;> omega), q1]
    have eM : ∃ τ, fX12_fit_L18 1000 1000 0 0 σ0 = some (nI (bm (fun t => alB D s t && rgt F D s t C) S), τ) ∧ fr [14, 15] σ0 τ := by
      refine lp (L := fun m k (q : Int32 × gM) => fX12_fit_L18 1000 m q.1 (nI k) q.2) (I := fun k q => q.1 = nI (bm (fun t => alB D s t && rgt F D s t C) k) ∧ fr [14, 15] σ0 q.2) (Q := fun o => ∃ τ, o = some (nI (bm (fun t => alB D s t && rgt F D s t C) S), τ) ∧ fr [14, 15] σ0 τ) (N := S) ?_ ?_ S 1000 0 (0, σ0) (by omega) (by omega) ⟨rfl, fr_refl _ _⟩
      · intro m k q hk hq
        obtain ⟨q1, q2⟩ := hq
        have mea := ME_fr me q2 (by simp) (by simp) (by simp) (by simp)
        obtain ⟨m0, m1, m2, m3, m5, m6⟩ := mea.2.1
        have msa : MS C s (q.2.1 10) 0 := by rw [q2.1 10 (by simp)]; exact ms
        left
        show ∃ a', fX12_fit_b18 1000 (fX12_fit_L18 1000 m) q.1 (nI k) q.2 = _ ∧ _
        unfold fX12_fit_b18 fX12_fit_b44 fX12_isFit
        rw [m1, if_neg (by simp (disch := first | omega | assumption) only [fa_lit, nLE, nLT, nEQ, nI_add, nSA, nSUB, pk_mul, nDIV, nREM, nCL, fa_and, nx_xor, fa_or, nSHL, nSHR, nUS, n31, n255, Nat.and_one_is_mod, b_I, b_V, b_L, not_or, Nat.not_lt_zero, Nat.not_le, Nat.not_lt, not_false_eq_true, true_and, and_true, false_or, or_false, Classical.not_not, if_true, if_false, if_pos, if_neg] <;> omega), M_isAll (by omega) mea ok msa hk, b_I, q1, bm_up (fun t => alB D s t && rgt F D s t C) k, show nI k + 1 = nI (k + 1) from nI_add k 1]
        by_cases y : alB D s k = true
        · obtain ⟨a', f1, f2⟩ := rM k q.2 hk y q2
          rw [if_pos y, if_neg (show ¬ nI 1 = 0 by decide), f1, b_I]
          by_cases z : rgt F D s k C = true
          · rw [if_pos z, if_neg (show ¬ nI 1 = 0 by decide), if_pos (by rw [y, z]; rfl), sh1 (by omega), fa_or]
            exact ⟨(_, a'), rfl, rfl, f2⟩
          · rw [if_neg z, if_pos (show nI 0 = 0 from rfl), if_neg (by rw [Bool.eq_false_iff.mpr z]; simp), show (0 : Int32) = nI 0 from rfl, fa_or]
            exact ⟨(_, a'), rfl, rfl, f2⟩
        · rw [if_neg y, if_pos (show nI 0 = 0 from rfl), b_I, if_pos (show (0 : Int32) = 0 from rfl), if_neg (by rw [Bool.eq_false_iff.mpr y]; simp), show (0 : Int32) = nI 0 from rfl, fa_or]
          exact ⟨(_, q.2), rfl, rfl, q2⟩
      · intro m q hq
        obtain ⟨q1, q2⟩ := hq
        have mea := ME_fr me q2 (by simp) (by simp) (by simp) (by simp)
        obtain ⟨m0, m1, m2, m3, m5, m6⟩ := mea.2.1
        refine ⟨q.2, ?_, q2⟩
        show fX12_fit_b18 1000 (fX12_fit_L18 1000 m) q.1 (nI S) q.2 = _
        unfold fX12_fit_b18
        rw [m1, if_pos (by simp (disch := first | omega | assumption) only [fa_lit, nLE, nLT, nEQ, nI_add, nSA, nSUB, pk_mul, nDIV, nREM, nCL, fa_and, nx_xor, fa_or, nSHL, nSHR, nUS, n31, n255, Nat.and_one_is_mod, b_I, b_V, b_L, not_or, Nat.not_lt_zero, Nat.not_le, Nat.not_lt, not_false_eq_true, true_and, and_true, false_or, or_false, Classical.not_not, if_true, if_false, if_pos, if_neg] <;> omega), q1]
    obtain ⟨τX, x1, x2⟩ := eX
    obtain ⟨τM, y1, y2⟩ := eM
    rw [hP55 xe, b_I, if_neg n10, x1, b_I, if_neg (hA14 me), y1]
    exact ⟨_, _, _, rfl, rfl, Inv_gk h0 (gj_fr (J := []) x2 (by simp)) (gj_fr (J := []) y2 (by simp)) (by decide) (by decide) (by decide) (by decide)⟩
end OPS
