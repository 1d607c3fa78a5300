/-! the reference chooses a way -/
def gj (L J : List Nat) (σ σ' : gM) : Prop := (∀ p, p ∉ L → p ≠ 0 → σ'.1 p = σ.1 p) ∧ (∀ k, k ∉ J → σ'.1 0 k = σ.1 0 k) ∧ σ'.2 = σ.2
theorem gj_refl (L J : List Nat) (σ : gM) : gj L J σ σ := ⟨fun _ _ _ => rfl, fun _ _ => rfl, rfl⟩
theorem gj_fr {L J : List Nat} {σ σ' : gM} (h : fr L σ σ') (h0 : 0 ∉ L) : gj L J σ σ' := ⟨fun p hp _ => h.1 p hp, fun k _ => by rw [h.1 0 h0], h.2⟩
theorem gj_trans {L J : List Nat} {a b c : gM} (h1 : gj L J a b) (h2 : gj L J b c) : gj L J a c := ⟨fun p hp h0 => (h2.1 p hp h0).trans (h1.1 p hp h0), fun k hk => (h2.2.1 k hk).trans (h1.2.1 k hk), h2.2.2.trans h1.2.2⟩
theorem gj_mono {L L' J J' : List Nat} {a b : gM} (h : gj L J a b) (hL : ∀ p, p ∈ L → p ∈ L') (hJ : ∀ p, p ∈ J → p ∈ J') : gj L' J' a b := ⟨fun p hp h0 => h.1 p (fun q => hp (hL p q)) h0, fun k hk => h.2.1 k (fun q => hk (hJ k q)), h.2.2⟩
theorem gj_put {L J : List Nat} (σ : gM) {k : Nat} (i : Nat) (x : Int32) (h : k ∈ L) (h0 : k ≠ 0) : gj L J σ (g_put σ k i x) := ⟨fun p hp _ => g_put_o σ k i x p (fun e => hp (e ▸ h)), fun j _ => gp_o (fun e => h0 e.symm) j, rfl⟩
theorem gj_put0 {L J : List Nat} (σ : gM) {i : Nat} (x : Int32) (h : i ∈ J) : gj L J σ (g_put σ 0 i x) := ⟨fun p _ h0 => g_put_o σ 0 i x p h0, fun j hj => by rw [gp_k, if_neg (fun e : j = i => hj (by rw [e]; exact h))], rfl⟩
theorem ME_gj {D S C F : Nat} {σ σ' : gM} {L J : List Nat} (h : ME D S C F σ) (hf : gj L J σ σ') (h3 : 3 ∉ L) (h8 : 8 ∉ L) (h9 : 9 ∉ L) (j1 : 13 ∉ J) (j2 : 14 ∉ J) : ME D S C F σ' := by
  obtain ⟨a, b, c⟩ := h
  refine ⟨a, ?_, ?_⟩
  · unfold MR at *; rw [hf.1 3 h3 (by decide), hf.2.1 13 j1, hf.2.1 14 j2]; exact b
  · unfold MF at *; rw [hf.1 8 h8 (by decide), hf.1 9 h9 (by decide)]; exact c
theorem MI_gj {D : Nat} {is : Nat → Bool} {σ σ' : gM} {L J : List Nat} (h : MI D is σ) (hf : gj L J σ σ') (hL : 15 ∉ L) : MI D is σ' := by
  intro r hr
  rw [hf.1 _ hL (by decide), h r hr]
theorem MV_gj {D : Nat} {v : Nat → Nat} {σ σ' : gM} {L J : List Nat} (h : MV D v σ) (hf : gj L J σ σ') (hL : 14 ∉ L) : MV D v σ' := by
  intro r hr
  rw [hf.1 _ hL (by decide), h r hr]
def tr (σ : gM) (x y z : Int32) : gM := g_put (g_put (g_put σ 0 26 x) 0 27 y) 0 28 z
theorem tr_gj (σ : gM) (x y z : Int32) : gj [] [26, 27, 28] σ (tr σ x y z) := gj_trans (gj_trans (gj_put0 σ x (by simp)) (gj_put0 _ y (by simp))) (gj_put0 _ z (by simp))
theorem tr_26 (σ : gM) (x y z : Int32) : (tr σ x y z).1 0 26 = x := rfl
theorem tr_27 (σ : gM) (x y z : Int32) : (tr σ x y z).1 0 27 = y := rfl
theorem tr_28 (σ : gM) (x y z : Int32) : (tr σ x y z).1 0 28 = z := rfl
theorem M_try_new {σ : gM} {x y z : Int32} (h : σ.1 0 26 = -1) : fX12_tries x y z σ = some (tr σ x y z) := by
  unfold fX12_tries fX12_tries_b24
  rw [if_pos h]; rfl
theorem M_try_yes {σ : gM} {x y z : Int32} (h : ¬ σ.1 0 26 = -1) (hl : y + z < σ.1 0 27 + σ.1 0 28) : fX12_tries x y z σ = some (tr σ x y z) := by
  unfold fX12_tries fX12_tries_b24
  rw [if_neg h, if_pos hl]; rfl
theorem M_try_no {σ : gM} {x y z : Int32} (h : ¬ σ.1 0 26 = -1) (hl : ¬ y + z < σ.1 0 27 + σ.1 0 28) : fX12_tries x y z σ = some σ := by
  unfold fX12_tries
  rw [if_neg h, if_neg hl]
theorem ct_is {D : Nat} {is : Nat → Bool} (h : ct (fun r => !is r) (D + 2) = 2) : ct is (D + 2) = D := by
  have := ct_compl is (D + 2)
  omega
theorem M_chooses {D S C F n part : Nat} {is : Nat → Bool} {σ : gM} (hn : 20 ≤ n) (hE : ME D S C F σ) (hI : MI D is σ) (hp : part < D) (h2 : ct (fun r => !is r) (D + 2) ≤ 2) :
    ∃ σ', fX12_chooses n (nI part) σ = some σ' ∧ σ'.1 0 26 = nI (wy D is part) ∧ σ'.1 0 27 = nI (ct (rp D is part (wy D is part)) (D + 2)) ∧ σ'.1 0 28 = nI (ct (wp D is part) (D + 2)) ∧ gj [] [26, 27, 28] σ σ' := by
  obtain ⟨w1, w2, w3, w4, w5, w6, w7⟩ := hE.1
  obtain ⟨h0, h1, h2', h3, h5, h6⟩ := hE.2.1
  have hs : sm D is ≤ 2 := by unfold sm; split <;> split <;> omega
  have hoc : oc D is part ≤ D := ct_le _ _
  have fin : ∃ σ', fX12_chooses_L45 n n (nI part) (nI D) (nI (sm D is)) 0 0 σ = some σ' ∧ σ'.1 0 26 = nI (wy D is part) ∧ σ'.1 0 27 = nI (ct (rp D is part (wy D is part)) (D + 2)) ∧ σ'.1 0 28 = nI (ct (wp D is part) (D + 2)) ∧ gj [] [26, 27, 28] σ σ' := by
    refine lp (L := fun m k a => fX12_chooses_L45 n m (nI part) (nI D) (nI (sm D is)) a (nI k) σ) (I := fun k a => a = nI (ct (fun r => !decide (r = part) && is r) k)) (Q := fun o => ∃ σ', o = some σ' ∧ σ'.1 0 26 = nI (wy D is part) ∧ σ'.1 0 27 = nI (ct (rp D is part (wy D is part)) (D + 2)) ∧ σ'.1 0 28 = nI (ct (wp D is part) (D + 2)) ∧ gj [] [26, 27, 28] σ σ') (N := D) ?_ ?_ D n 0 0 (by omega) (by omega) rfl
    · intro m k a hk ha
      subst ha
      refine Or.inl ⟨_, ?_, rfl⟩
      show fX12_chooses_b45 n (fX12_chooses_L45 n m) _ _ _ _ _ _ = _
      unfold fX12_chooses_b45 fX12_chooses_b73 fX12_chooses_b74
      rw [if_neg (by simp (disch := first | omega | assumption) only [fa_lit, nLE, nLT, nEQ, nI_add, nSA, nSUB, pk_mul, nDIV, nREM, nCL, fa_and, nx_xor, fa_or, nSHL, nSHR, nUS, n31, n255, Nat.and_one_is_mod, b_I, b_V, b_L, not_or, Nat.not_lt_zero, Nat.not_le, Nat.not_lt, not_false_eq_true, true_and, and_true, false_or, or_false, Classical.not_not, if_true, if_false, if_pos, if_neg] <;> omega), show nI k + 1 = nI (k + 1) from nI_add k 1, show (0 : Int32) = nI 0 from rfl, show (1 : Int32) = nI 1 from rfl, nI_add, nI_add, ct]
      by_cases c : k = part
      · rw [if_pos (by rw [c])]
        simp [c]
      · rw [if_neg (by rw [nEQ _ _ (by omega) (by omega)]; exact c), nCL (by omega), if_pos (by simp (disch := first | omega | assumption) only [fa_lit, nLE, nLT, nEQ, nI_add, nSA, nSUB, pk_mul, nDIV, nREM, nCL, fa_and, nx_xor, fa_or, nSHL, nSHR, nUS, n31, n255, Nat.and_one_is_mod, b_I, b_V, b_L, not_or, Nat.not_lt_zero, Nat.not_le, Nat.not_lt, not_false_eq_true, true_and, and_true, false_or, or_false, Classical.not_not, if_true, if_false, if_pos, if_neg] <;> omega), hI k (by omega)]
        by_cases c2 : is k = true
        · rw [if_pos c2, if_neg (by decide)]
          simp [c, c2]
        · rw [if_neg c2, if_pos rfl]
          simp [c, c2]
    · intro m a ha
      have ha : a = nI (oc D is part) := ha
      subst ha
      show ∃ σ', fX12_chooses_b45 n (fX12_chooses_L45 n m) (nI part) (nI D) (nI (sm D is)) (nI (oc D is part)) (nI D) σ = some σ' ∧ _
      have q0 : (g_put σ 0 26 (-1)).1 0 26 = -1 := rfl
      have g0 : gj [] [26, 27, 28] σ (g_put σ 0 26 (-1)) := gj_put0 σ _ (by simp)
      have e15 : ∀ σ1, gj [] [26, 27, 28] σ σ1 → σ1.1 15 part = nI (if is part then 1 else 0) := by
        intro σ1 g
        rw [g.1 15 (by simp) (by decide), hI part (by omega)]
      have eD1 : nI D - 1 = nI (D - 1) := by simp (disch := first | omega | assumption) only [fa_lit, nLE, nLT, nEQ, nI_add, nSA, nSUB, pk_mul, nDIV, nREM, nCL, fa_and, nx_xor, fa_or, nSHL, nSHR, nUS, n31, n255, Nat.and_one_is_mod, b_I, b_V, b_L, not_or, Nat.not_lt_zero, Nat.not_le, Nat.not_lt, not_false_eq_true, true_and, and_true, false_or, or_false, Classical.not_not, if_true, if_false, if_pos, if_neg]
      have eD2 : nI D - 2 = nI (D - 2) := by simp (disch := first | omega | assumption) only [fa_lit, nLE, nLT, nEQ, nI_add, nSA, nSUB, pk_mul, nDIV, nREM, nCL, fa_and, nx_xor, fa_or, nSHL, nSHR, nUS, n31, n255, Nat.and_one_is_mod, b_I, b_V, b_L, not_or, Nat.not_lt_zero, Nat.not_le, Nat.not_lt, not_false_eq_true, true_and, and_true, false_or, or_false, Classical.not_not, if_true, if_false, if_pos, if_neg]
      unfold fX12_chooses_b45
      rw [if_pos (by simp (disch := first | omega | assumption) only [fa_lit, nLE, nLT, nEQ, nI_add, nSA, nSUB, pk_mul, nDIV, nREM, nCL, fa_and, nx_xor, fa_or, nSHL, nSHR, nUS, n31, n255, Nat.and_one_is_mod, b_I, b_V, b_L, not_or, Nat.not_lt_zero, Nat.not_le, Nat.not_lt, not_false_eq_true, true_and, and_true, false_or, or_false, Classical.not_not, if_true, if_false, if_pos, if_neg] <;> omega), b_L, nCL (by omega), if_pos (by simp (disch := first | omega | assumption) only [fa_lit, nLE, nLT, nEQ, nI_add, nSA, nSUB, pk_mul, nDIV, nREM, nCL, fa_and, nx_xor, fa_or, nSHL, nSHR, nUS, n31, n255, Nat.and_one_is_mod, b_I, b_V, b_L, not_or, Nat.not_lt_zero, Nat.not_le, Nat.not_lt, not_false_eq_true, true_and, and_true, false_or, or_false, Classical.not_not, if_true, if_false, if_pos, if_neg] <;> omega), e15 _ g0]
      by_cases c : is part = true
      · rw [if_pos c, if_neg (by decide), M_try_new q0, b_V]
        have g1 := gj_trans g0 (tr_gj (g_put σ 0 26 (-1)) 0 (1 + nI (sm D is)) (1 + nI (sm D is)))
        have last : ∀ σ1, gj [] [26, 27, 28] σ σ1 → fX12_chooses_b140 n (nI part) (nI D) (nI (oc D is part)) σ1 = some σ1 := by
          intro σ1 g
          unfold fX12_chooses_b140
          rw [nCL (by omega), if_pos (by simp (disch := first | omega | assumption) only [fa_lit, nLE, nLT, nEQ, nI_add, nSA, nSUB, pk_mul, nDIV, nREM, nCL, fa_and, nx_xor, fa_or, nSHL, nSHR, nUS, n31, n255, Nat.and_one_is_mod, b_I, b_V, b_L, not_or, Nat.not_lt_zero, Nat.not_le, Nat.not_lt, not_false_eq_true, true_and, and_true, false_or, or_false, Classical.not_not, if_true, if_false, if_pos, if_neg] <;> omega), e15 _ g, if_pos c, if_neg (by decide)]
        unfold fX12_chooses_b108 fX12_chooses_b135
        have e1 : ct (rp D is part 0) (D + 2) = 1 + sm D is := by
          show ct (wp D is part) (D + 2) = _
          rw [ct_wp hp, if_pos c]
        have e2 : ct (rp D is part 1) (D + 2) = oc D is part := ct_rp1 hp
        have e3 : ct (wp D is part) (D + 2) = 1 + sm D is := e1
        have eS : (1 : Int32) + nI (sm D is) = nI (1 + sm D is) := nI_add 1 _
        rw [eD1, nCL (by omega), eS]
        rw [eS] at g1
        by_cases c2 : oc D is part = D - 1
        · rw [c2, if_pos rfl, if_pos (by simp (disch := first | omega | assumption) only [fa_lit, nLE, nLT, nEQ, nI_add, nSA, nSUB, pk_mul, nDIV, nREM, nCL, fa_and, nx_xor, fa_or, nSHL, nSHR, nUS, n31, n255, Nat.and_one_is_mod, b_I, b_V, b_L, not_or, Nat.not_lt_zero, Nat.not_le, Nat.not_lt, not_false_eq_true, true_and, and_true, false_or, or_false, Classical.not_not, if_true, if_false, if_pos, if_neg] <;> omega), e15 _ g1, if_pos c, if_neg (by decide)]
          rw [c2] at last
          by_cases c3 : D - 1 < 1 + sm D is
          · rw [M_try_yes (by rw [tr_26]; decide) (by rw [tr_27, tr_28, nI_add, nI_add, nLT _ _ (by omega) (by omega)]; omega), b_V, last _ (gj_trans g1 (tr_gj _ _ _ _))]
            refine ⟨_, rfl, ?_, ?_, ?_, gj_trans g1 (tr_gj _ _ _ _)⟩
            · rw [tr_26, wy, if_pos c, if_pos ⟨c2, c3⟩]; rfl
            · rw [tr_27, wy, if_pos c, if_pos ⟨c2, c3⟩, e2, c2]
            · rw [tr_28, e3]
          · rw [M_try_no (by rw [tr_26]; decide) (by rw [tr_27, tr_28, nI_add, nI_add, nLT _ _ (by omega) (by omega)]; omega), b_V, last _ g1]
            refine ⟨_, rfl, ?_, ?_, ?_, g1⟩
            · rw [tr_26, wy, if_pos c, if_neg (fun z => c3 z.2)]; rfl
            · rw [tr_27, wy, if_pos c, if_neg (fun z => c3 z.2), e1]
            · rw [tr_28, e3]
        · rw [if_neg (by rw [nEQ _ _ (by omega) (by omega)]; exact c2), last _ g1]
          refine ⟨_, rfl, ?_, ?_, ?_, g1⟩
          · rw [tr_26, wy, if_pos c, if_neg (fun z => c2 z.1)]; rfl
          · rw [tr_27, wy, if_pos c, if_neg (fun z => c2 z.1), e1]
          · rw [tr_28, e3]
      · have cf : is part = false := by simpa using c
        rw [if_neg c, if_pos (show nI 0 = 0 from rfl)]
        have e3 : ct (wp D is part) (D + 2) = 0 + sm D is := by rw [ct_wp hp, if_neg c]
        unfold fX12_chooses_b108 fX12_chooses_b135
        rw [eD1, nCL (by omega)]
        by_cases c2 : oc D is part = D - 1
        · have e2 : ct (rp D is part 1) (D + 2) = oc D is part := ct_rp1 hp
          rw [c2, if_pos rfl, if_pos (by simp (disch := first | omega | assumption) only [fa_lit, nLE, nLT, nEQ, nI_add, nSA, nSUB, pk_mul, nDIV, nREM, nCL, fa_and, nx_xor, fa_or, nSHL, nSHR, nUS, n31, n255, Nat.and_one_is_mod, b_I, b_V, b_L, not_or, Nat.not_lt_zero, Nat.not_le, Nat.not_lt, not_false_eq_true, true_and, and_true, false_or, or_false, Classical.not_not, if_true, if_false, if_pos, if_neg] <;> omega), e15 _ g0, if_neg c, if_pos (show nI 0 = 0 from rfl), M_try_new q0, b_V]
          have g1 := gj_trans g0 (tr_gj (g_put σ 0 26 (-1)) 1 (nI (D - 1)) (0 + nI (sm D is)))
          unfold fX12_chooses_b140
          rw [nCL (by omega), if_pos (by simp (disch := first | omega | assumption) only [fa_lit, nLE, nLT, nEQ, nI_add, nSA, nSUB, pk_mul, nDIV, nREM, nCL, fa_and, nx_xor, fa_or, nSHL, nSHR, nUS, n31, n255, Nat.and_one_is_mod, b_I, b_V, b_L, not_or, Nat.not_lt_zero, Nat.not_le, Nat.not_lt, not_false_eq_true, true_and, and_true, false_or, or_false, Classical.not_not, if_true, if_false, if_pos, if_neg] <;> omega), e15 _ g1, if_neg c, if_pos (show nI 0 = 0 from rfl), eD2, if_neg (by rw [nEQ _ _ (by omega) (by omega)]; omega)]
          refine ⟨_, rfl, ?_, ?_, ?_, g1⟩
          · rw [tr_26, wy, if_neg c, if_pos c2]; rfl
          · rw [tr_27, wy, if_neg c, if_pos c2, e2, c2]
          · rw [tr_28, e3]; exact nI_add 0 _
        · obtain ⟨z1, z2, z3, z4⟩ := oc_two hp cf h2 c2
          rw [if_neg (by rw [nEQ _ _ (by omega) (by omega)]; exact c2)]
          unfold fX12_chooses_b140
          rw [nCL (by omega), if_pos (by simp (disch := first | omega | assumption) only [fa_lit, nLE, nLT, nEQ, nI_add, nSA, nSUB, pk_mul, nDIV, nREM, nCL, fa_and, nx_xor, fa_or, nSHL, nSHR, nUS, n31, n255, Nat.and_one_is_mod, b_I, b_V, b_L, not_or, Nat.not_lt_zero, Nat.not_le, Nat.not_lt, not_false_eq_true, true_and, and_true, false_or, or_false, Classical.not_not, if_true, if_false, if_pos, if_neg] <;> omega), e15 _ g0, if_neg c, if_pos (show nI 0 = 0 from rfl), eD2, z1, if_pos rfl, M_try_new q0, b_V]
          refine ⟨_, rfl, ?_, ?_, ?_, gj_trans g0 (tr_gj _ _ _ _)⟩
          · rw [tr_26, wy, if_neg c, if_neg c2]; rfl
          · rw [tr_27, wy, if_neg c, if_neg c2]
            show nI D = nI (ct is (D + 2))
            rw [ct_is z4]
          · rw [tr_28, e3, sm, z2, z3]; rfl
  unfold fX12_chooses fX12_chooses_b21 fX12_chooses_b37
  have eQ : nI D + 1 = nI (D + 1) := nI_add D 1
  rw [h0, eQ, nCL (by omega), nCL (by omega), if_pos (by simp (disch := first | omega | assumption) only [fa_lit, nLE, nLT, nEQ, nI_add, nSA, nSUB, pk_mul, nDIV, nREM, nCL, fa_and, nx_xor, fa_or, nSHL, nSHR, nUS, n31, n255, Nat.and_one_is_mod, b_I, b_V, b_L, not_or, Nat.not_lt_zero, Nat.not_le, Nat.not_lt, not_false_eq_true, true_and, and_true, false_or, or_false, Classical.not_not, if_true, if_false, if_pos, if_neg] <;> omega), hI D (by omega)]
  by_cases cD : is D = true
  · rw [if_pos cD, if_neg (by decide), if_pos (by simp (disch := first | omega | assumption) only [fa_lit, nLE, nLT, nEQ, nI_add, nSA, nSUB, pk_mul, nDIV, nREM, nCL, fa_and, nx_xor, fa_or, nSHL, nSHR, nUS, n31, n255, Nat.and_one_is_mod, b_I, b_V, b_L, not_or, Nat.not_lt_zero, Nat.not_le, Nat.not_lt, not_false_eq_true, true_and, and_true, false_or, or_false, Classical.not_not, if_true, if_false, if_pos, if_neg] <;> omega), hI (D + 1) (by omega)]
    by_cases cQ : is (D + 1) = true
    · have e : nI (sm D is) = 1 + 1 := by rw [sm, if_pos cD, if_pos cQ]; rfl
      rw [e] at fin
      rw [if_pos cQ, if_neg (by decide)]; exact fin
    · have e : nI (sm D is) = 1 + 0 := by rw [sm, if_pos cD, if_neg cQ]; rfl
      rw [e] at fin
      rw [if_neg cQ, if_pos (show nI 0 = 0 from rfl)]; exact fin
  · rw [if_neg cD, if_pos (show nI 0 = 0 from rfl), if_pos (by simp (disch := first | omega | assumption) only [fa_lit, nLE, nLT, nEQ, nI_add, nSA, nSUB, pk_mul, nDIV, nREM, nCL, fa_and, nx_xor, fa_or, nSHL, nSHR, nUS, n31, n255, Nat.and_one_is_mod, b_I, b_V, b_L, not_or, Nat.not_lt_zero, Nat.not_le, Nat.not_lt, not_false_eq_true, true_and, and_true, false_or, or_false, Classical.not_not, if_true, if_false, if_pos, if_neg] <;> omega), hI (D + 1) (by omega)]
    by_cases cQ : is (D + 1) = true
    · have e : nI (sm D is) = 0 + 1 := by rw [sm, if_neg cD, if_pos cQ]; rfl
      rw [e] at fin
      rw [if_pos cQ, if_neg (by decide)]; exact fin
    · have e : nI (sm D is) = 0 + 0 := by rw [sm, if_neg cD, if_neg cQ]; rfl
      rw [e] at fin
      rw [if_neg cQ, if_pos (show nI 0 = 0 from rfl)]; exact fin
