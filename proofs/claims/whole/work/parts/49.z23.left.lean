/-! the face: left, first -/
theorem s8_sg (f : Nat → Nat) : s8 f = sg f 8 := by
  show f 0 + f 1 + f 2 + f 3 + f 4 + f 5 + f 6 + f 7 = 0 + f 0 + f 1 + f 2 + f 3 + f 4 + f 5 + f 6 + f 7
  omega
theorem s8_cn {D t : Nat} {p : Nat → Bool} {f : Nat → Nat} (h1 : D < 7) (h2 : 2 ≤ D) (ht : t < 12) : s8 (cn D t p f) = s8 f + ct p (D + 2) := by
  have e1 : ∀ e, cn D t p f e = f e + (if (decide (e < D + 2) && p (rl D t e)) = true then 1 else 0) := by
    intro e
    unfold cn
    by_cases c : e < D + 2 ∧ p (rl D t e) = true
    · rw [if_pos c, if_pos (by simp [c.1, c.2])]
    · rw [if_neg c, if_neg (by simp only [Bool.and_eq_true, decide_eq_true_eq]; exact c)]; rfl
  have e2 : ct p (D + 2) = ct (fun e => p (rl D t e)) (D + 2) := by
    rw [← ct_perm (q := fun e => p (rl D t e)) h1 h2 ht]
    apply ct_ext
    intro r hr
    rw [(dk_ok D h1 h2 t ht r hr).2]
  rw [s8_sg, s8_sg, sg_ext (fun e _ => e1 e), sg_add, ct_sg, ct_cut 8 (by omega), e2]
theorem ct_th {D t : Nat} {s : Sh} (h1 : D < 7) (h2 : 2 ≤ D) (ht : t < 12) : ct (th D s t) (D + 2) = ct (fun e => decide (t < s.don e)) (D + 2) := ct_perm (q := fun e => decide (t < s.don e)) h1 h2 ht
theorem rbC_rd {F D t k : Nat} {s : Sh} (h1 : D < 7) (h2 : 2 ≤ D) (ht : t < 12) : ∀ b, s8 (rbC F D s t k b).rd = s8 s.rd + b * ct (th D s t) (D + 2)
  | 0 => by rw [Nat.zero_mul]; rfl
  | b + 1 => by
    have e : (rbC F D s t k (b + 1)).rd = cn D t (th D (rbC F D s t k b) t) (rbC F D s t k b).rd := rfl
    rw [e, s8_cn h1 h2 ht, rbC_rd h1 h2 ht b, th_don (rbC_don F D s t k b), Nat.succ_mul]
    omega
/-- what is read till a disk is whole, by bytes of one stripe after another -/
def RT (D : Nat) (s : Sh) (wb : Nat → Bool) (t0 : Nat) : Nat → Nat := sg (fun i => ct (fun x => decide (t0 + i < s.don x) || wb x) (D + 2))
theorem rbN_rd {F D S C d t0 : Nat} {s : Sh} (h1 : D < 7) (h2 : 2 ≤ D) (hS : S ≤ 12) (h0 : s.don d = t0) : ∀ k, t0 + k ≤ S → s8 (rbN F D C s d t0 k).rd = s8 s.rd + RT D s (fun _ => false) t0 k * C
  | 0, _ => by
    show s8 s.rd = s8 s.rd + 0 * C
    omega
  | k + 1, hk => by
    have e : (rbN F D C s d t0 (k + 1)).rd = (rbC F D (rbN F D C s d t0 k) (t0 + k) (rl D (t0 + k) d) C).rd := rfl
    have et : th D (rbN F D C s d t0 k) (t0 + k) = th D s (t0 + k) := by
      funext r
      unfold th
      rw [rbN_don h0]
      by_cases c : dk D (t0 + k) r = d
      · rw [if_pos c, c, h0]
        apply decide_eq_decide.mpr; omega
      · rw [if_neg c]
    have eR : RT D s (fun _ => false) t0 (k + 1) = RT D s (fun _ => false) t0 k + ct (fun x => decide (t0 + k < s.don x)) (D + 2) := by
      show sg _ (k + 1) = _
      rw [sg]
      congr 1
      apply ct_ext
      intro x _
      simp
    rw [e, rbC_rd h1 h2 (by omega), rbN_rd h1 h2 hS h0 k (by omega), et, ct_th h1 h2 (by omega), eR, Nat.add_mul, Nat.mul_comm C]
    omega
theorem rbK_rd (F D S C : Nat) (s : Sh) (d t0 k : Nat) : (rbK F D S C s d t0 k).rd = (rbN F D C s d t0 k).rd := by
  unfold rbK
  split <;> rfl
/-- a disk of the trial row is rebuilt till it is whole -/
theorem M_whole1 {D S C F d : Nat} {s : Sh} {σ : gM} (hE : ME D S C F σ) (hO : Ok D S C s) (hX : MS C s (σ.1 11) 0) (hd : d < D + 2) (hh : s.how d = 2) (K : Int32 → Int32 → Int32 → gM → Option (Int32 × gM)) (v1 : Int32) (v : Nat) :
    ∃ σ', fX12_left_L49 1000 K 1000 v1 (nI v) (nI d) σ = K v1 (nI (v + (S - s.don d))) (nI (d + 1)) σ' ∧ MS C (rbK F D S C s d (s.don d) (S - s.don d)) (σ'.1 11) 0 ∧ fr [11, 14, 15] σ σ' := by
  obtain ⟨w1, w2, w3, w4, w5, w6, w7⟩ := hE.1
  have ht := hO.h2 d (by omega) hh
  generalize hT : s.don d = t0 at *
  have c0 : ¬ (nI (384 + d) < 0 ∨ 616 ≤ 384 + d) := by rw [show (0 : Int32) = nI 0 from rfl, nLT _ _ (by omega) (by omega)]; omega
  refine lp (L := fun m k a => fX12_left_L49 1000 K m v1 (nI (v + k)) (nI d) a) (I := fun k a => MS C (rbK F D S C s d t0 k) (a.1 11) 0 ∧ fr [11, 14, 15] σ a) (Q := fun o => ∃ σ', o = K v1 (nI (v + (S - t0))) (nI (d + 1)) σ' ∧ MS C (rbK F D S C s d t0 (S - t0)) (σ'.1 11) 0 ∧ fr [11, 14, 15] σ σ') (N := S - t0) ?_ ?_ (S - t0) 1000 0 σ (by omega) (by omega) ⟨by unfold rbK; rw [if_neg (by omega)]; exact hX, fr_refl _ _⟩
  · intro m k a hk ha
    obtain ⟨a1, a2⟩ := ha
    have hEa := ME_fr hE a2 (by simp) (by simp) (by simp) (by simp)
    have ek : rbK F D S C s d t0 k = rbN F D C s d t0 k := by unfold rbK; rw [if_neg (by omega)]
    rw [ek] at a1
    have hho : (rbN F D C s d t0 k).how d = 2 := by rw [rbN_how]; exact hh
    have eh := a1.how d (by omega)
    rw [Nat.zero_add, hho] at eh
    obtain ⟨σ', e, X', f', r'⟩ := M_rebuilds (n := 1000) (by omega) hEa (rbN_ok (F := F) (by omega) w1 w7 w4 hO hh k (by omega)) a1 (by omega) (by omega) hd hho
    rw [rbT_N hT] at X'
    refine Or.inl ⟨σ', ?_, X', fr_trans a2 f'⟩
    show fX12_left_b49 1000 K (fX12_left_L49 1000 K m) v1 (nI (v + k)) (nI d) a = _
    unfold fX12_left_b49
    rw [show (384 : Int32) + nI d = nI (384 + d) from nI_add 384 d, nCL (by omega), if_pos c0, eh, if_pos (show nI 2 = 2 from rfl), e, b_V, show nI (v + k) + 1 = nI (v + (k + 1)) from nI_add _ 1]
  · intro m a ha
    obtain ⟨a1, a2⟩ := ha
    have eh := a1.how d (by omega)
    have ek : (rbK F D S C s d t0 (S - t0)).how d = 0 := by
      unfold rbK
      rw [if_pos (by omega)]
      show ud _ d 0 d = 0
      rw [ud_eq]
    rw [Nat.zero_add, ek] at eh
    refine ⟨a, ?_, a1, a2⟩
    show fX12_left_b49 1000 K (fX12_left_L49 1000 K m) v1 (nI (v + (S - t0))) (nI d) a = _
    unfold fX12_left_b49
    rw [show (384 : Int32) + nI d = nI (384 + d) from nI_add 384 d, nCL (by omega), if_pos c0, eh, if_neg (by decide), show nI d + 1 = nI (d + 1) from nI_add d 1]
theorem M_whole2 {D S C F d : Nat} {s : Sh} {σ : gM} (hE : ME D S C F σ) (hO : Ok D S C s) (hX : MS C s (σ.1 11) 0) (hd : d < D + 2) (hh : s.how d = 2) :
    ∃ σ', fX12_first_L135 1000 1000 (nI d) σ = some (σ'.1 11 427 - σ'.1 10 427, σ') ∧ MS C (rbK F D S C s d (s.don d) (S - s.don d)) (σ'.1 11) 0 ∧ fr [11, 14, 15] σ σ' := by
  obtain ⟨w1, w2, w3, w4, w5, w6, w7⟩ := hE.1
  have ht := hO.h2 d (by omega) hh
  generalize hT : s.don d = t0 at *
  have c0 : ¬ (nI (384 + d) < 0 ∨ 616 ≤ 384 + d) := by rw [show (0 : Int32) = nI 0 from rfl, nLT _ _ (by omega) (by omega)]; omega
  refine lp (L := fun m k a => fX12_first_L135 1000 m (nI d) a) (I := fun k a => MS C (rbK F D S C s d t0 k) (a.1 11) 0 ∧ fr [11, 14, 15] σ a) (Q := fun o => ∃ σ', o = some (σ'.1 11 427 - σ'.1 10 427, σ') ∧ MS C (rbK F D S C s d t0 (S - t0)) (σ'.1 11) 0 ∧ fr [11, 14, 15] σ σ') (N := S - t0) ?_ ?_ (S - t0) 1000 0 σ (by omega) (by omega) ⟨by unfold rbK; rw [if_neg (by omega)]; exact hX, fr_refl _ _⟩
  · intro m k a hk ha
    obtain ⟨a1, a2⟩ := ha
    have hEa := ME_fr hE a2 (by simp) (by simp) (by simp) (by simp)
    have ek : rbK F D S C s d t0 k = rbN F D C s d t0 k := by unfold rbK; rw [if_neg (by omega)]
    rw [ek] at a1
    have hho : (rbN F D C s d t0 k).how d = 2 := by rw [rbN_how]; exact hh
    have eh := a1.how d (by omega)
    rw [Nat.zero_add, hho] at eh
    obtain ⟨σ', e, X', f', r'⟩ := M_rebuilds (n := 1000) (by omega) hEa (rbN_ok (F := F) (by omega) w1 w7 w4 hO hh k (by omega)) a1 (by omega) (by omega) hd hho
    rw [rbT_N hT] at X'
    refine Or.inl ⟨σ', ?_, X', fr_trans a2 f'⟩
    show fX12_first_b135 1000 (fX12_first_L135 1000 m) (nI d) a = _
    unfold fX12_first_b135
    rw [show (384 : Int32) + nI d = nI (384 + d) from nI_add 384 d, nCL (by omega), if_pos c0, eh, if_pos (show nI 2 = 2 from rfl), e, b_V]
  · intro m a ha
    obtain ⟨a1, a2⟩ := ha
    have eh := a1.how d (by omega)
    have ek : (rbK F D S C s d t0 (S - t0)).how d = 0 := by
      unfold rbK
      rw [if_pos (by omega)]
      show ud _ d 0 d = 0
      rw [ud_eq]
    rw [Nat.zero_add, ek] at eh
    refine ⟨a, ?_, a1, a2⟩
    show fX12_first_b135 1000 (fX12_first_L135 1000 m) (nI d) a = _
    unfold fX12_first_b135
    rw [show (384 : Int32) + nI d = nI (384 + d) from nI_add 384 d, nCL (by omega), if_pos c0, eh, if_neg (by decide)]
/-- the class reckons it -/
theorem X_tillWhole {D S C F d : Nat} {s : Sh} {wb : Nat → Bool} {σ : gM} (hE : XE D S C F σ) (hO : Ok D S C s) (hX : XS C s (σ.1 (11 + 5 * 0))) (hd : d < D + 2) (hS : s.don d ≤ S) : fX4_readsTillWhole 1000 (nI d) (nI (bm wb (D + 2))) σ = some (nI (RT D s wb (s.don d) (S - s.don d) * C), σ) := by
  obtain ⟨w1, w2, w3, w4, w5, w6, w7⟩ := hE.1
  obtain ⟨h0, h1, h2, h3, h5, h6, h7, h8, h9⟩ := hE.2.1
  have hbl := bm_lt8 (p := wb) (show D + 2 ≤ 8 by omega)
  unfold fX4_readsTillWhole
  rw [show (104 : Int32) + nI d = nI (104 + d) from nI_add 104 d, X_get (by omega), b_I, hX.don d (by omega)]
  generalize s.don d = t0 at *
  have inn : ∀ (K : Int32 → Int32 → Int32 → gM → Option (Int32 × gM)) (v t : Nat), t < S → fX4_readsTillWhole_L33 1000 K 1000 (nI (bm wb (D + 2))) (nI v) (nI t) 0 σ = K (nI (bm wb (D + 2))) (nI (v + ct (fun x => decide (t < s.don x) || wb x) (D + 2))) (nI (t + 1)) σ := by
    intro K v t ht
    refine lp (L := fun m k (q : Int32) => fX4_readsTillWhole_L33 1000 K m (nI (bm wb (D + 2))) q (nI t) (nI k) σ) (I := fun k q => q = nI (v + ct (fun x => decide (t < s.don x) || wb x) k)) (Q := fun o => o = K (nI (bm wb (D + 2))) (nI (v + ct (fun x => decide (t < s.don x) || wb x) (D + 2))) (nI (t + 1)) σ) (N := D + 2) ?_ ?_ (D + 2) 1000 0 (nI v) (by omega) (by omega) rfl
    · intro m k q hk hq
      subst hq
      have hbit := bm_bit (p := wb) hk
      left
      show ∃ a', fX4_readsTillWhole_b33 1000 K (fX4_readsTillWhole_L33 1000 K m) (nI (bm wb (D + 2))) (nI (v + ct (fun x => decide (t < s.don x) || wb x) k)) (nI t) (nI k) σ = _ ∧ _
      unfold fX4_readsTillWhole_b33 fX4_readsTillWhole_b68 fX4_readsTillWhole_b71
      rw [h5, if_neg (by simp (disch := first | omega | assumption) only [fa_lit, nLE, nLT, nEQ, nI_add, nSA, nSUB, pk_mul, nDIV, nREM, nCL, fa_and, nx_xor, fa_or, nSHL, nSHR, nUS, n31, n255, Nat.and_one_is_mod, b_I, b_V, b_L, not_or, Nat.not_lt_zero, Nat.not_le, Nat.not_lt, not_false_eq_true, true_and, and_true, false_or, or_false, Classical.not_not, if_true, if_false, if_pos, if_neg] <;> omega), X_isThere hX (by omega) (by omega) (Ok_don hO w4 k (by omega)), b_I, show nI k + 1 = nI (k + 1) from nI_add k 1, ct]
      by_cases y : t < s.don k
      · rw [if_pos y, if_neg (show ¬ nI 1 = 0 by decide), if_pos (by simp [y])]
        exact ⟨_, rfl, nI_add _ 1⟩
      · rw [if_neg y, if_pos (show nI 0 = 0 from rfl)]
        by_cases z : wb k = true
        · rw [if_pos z] at hbit
          rw [if_neg (by simp (disch := first | omega | assumption) only [fa_lit, nLE, nLT, nEQ, nI_add, nSA, nSUB, pk_mul, nDIV, nREM, nCL, fa_and, nx_xor, fa_or, nSHL, nSHR, nUS, n31, n255, Nat.and_one_is_mod, b_I, b_V, b_L, not_or, Nat.not_lt_zero, Nat.not_le, Nat.not_lt, not_false_eq_true, true_and, and_true, false_or, or_false, Classical.not_not, if_true, if_false, if_pos, if_neg, hbit]; all_goals omega), if_pos (by simp [z])]
          exact ⟨_, rfl, nI_add _ 1⟩
        · rw [if_neg z] at hbit
          rw [if_pos (by simp (disch := first | omega | assumption) only [fa_lit, nLE, nLT, nEQ, nI_add, nSA, nSUB, pk_mul, nDIV, nREM, nCL, fa_and, nx_xor, fa_or, nSHL, nSHR, nUS, n31, n255, Nat.and_one_is_mod, b_I, b_V, b_L, not_or, Nat.not_lt_zero, Nat.not_le, Nat.not_lt, not_false_eq_true, true_and, and_true, false_or, or_false, Classical.not_not, if_true, if_false, if_pos, if_neg, hbit]), if_neg (by simp [y, z])]
          exact ⟨_, rfl, rfl⟩
    · intro m q hq
      subst hq
      show fX4_readsTillWhole_b33 1000 K (fX4_readsTillWhole_L33 1000 K m) (nI (bm wb (D + 2))) (nI (v + ct (fun x => decide (t < s.don x) || wb x) (D + 2))) (nI t) (nI (D + 2)) σ = _
      unfold fX4_readsTillWhole_b33
      rw [h5, if_pos (by simp (disch := first | omega | assumption) only [fa_lit, nLE, nLT, nEQ, nI_add, nSA, nSUB, pk_mul, nDIV, nREM, nCL, fa_and, nx_xor, fa_or, nSHL, nSHR, nUS, n31, n255, Nat.and_one_is_mod, b_I, b_V, b_L, not_or, Nat.not_lt_zero, Nat.not_le, Nat.not_lt, not_false_eq_true, true_and, and_true, false_or, or_false, Classical.not_not, if_true, if_false, if_pos, if_neg] <;> omega), show nI t + 1 = nI (t + 1) from nI_add t 1]
  refine lp (L := fun m k (q : Int32) => fX4_readsTillWhole_L18 1000 m (nI (bm wb (D + 2))) q (nI (t0 + k)) σ) (I := fun k q => q = nI (RT D s wb t0 k)) (Q := fun o => o = some (nI (RT D s wb t0 (S - t0) * C), σ)) (N := S - t0) ?_ ?_ (S - t0) 1000 0 0 (by omega) (by omega) rfl
  · intro m k q hk hq
    subst hq
    refine Or.inl ⟨nI (RT D s wb t0 (k + 1)), ?_, rfl⟩
    show fX4_readsTillWhole_b18 1000 (fX4_readsTillWhole_L18 1000 m) (nI (bm wb (D + 2))) (nI (RT D s wb t0 k)) (nI (t0 + k)) σ = _
    unfold fX4_readsTillWhole_b18
    rw [h1, if_neg (by simp (disch := first | omega | assumption) only [fa_lit, nLE, nLT, nEQ, nI_add, nSA, nSUB, pk_mul, nDIV, nREM, nCL, fa_and, nx_xor, fa_or, nSHL, nSHR, nUS, n31, n255, Nat.and_one_is_mod, b_I, b_V, b_L, not_or, Nat.not_lt_zero, Nat.not_le, Nat.not_lt, not_false_eq_true, true_and, and_true, false_or, or_false, Classical.not_not, if_true, if_false, if_pos, if_neg] <;> omega), inn _ _ _ (by omega)]
    rfl
  · intro m q hq
    subst hq
    show fX4_readsTillWhole_b18 1000 (fX4_readsTillWhole_L18 1000 m) (nI (bm wb (D + 2))) (nI (RT D s wb t0 (S - t0))) (nI (t0 + (S - t0))) σ = _
    unfold fX4_readsTillWhole_b18
    rw [show t0 + (S - t0) = S by omega, h1, if_pos (by simp (disch := first | omega | assumption) only [fa_lit, nLE, nLT, nEQ, nI_add, nSA, nSUB, pk_mul, nDIV, nREM, nCL, fa_and, nx_xor, fa_or, nSHL, nSHR, nUS, n31, n255, Nat.and_one_is_mod, b_I, b_V, b_L, not_or, Nat.not_lt_zero, Nat.not_le, Nat.not_lt, not_false_eq_true, true_and, and_true, false_or, or_false, Classical.not_not, if_true, if_false, if_pos, if_neg] <;> omega), h2, pk_mul]
/-- the trial row as disk after disk becomes whole -/
def lS (F D S C : Nat) (s : Sh) : Nat → Sh
  | 0 => s
  | k + 1 => if s.how k = 2 then rbK F D S C (lS F D S C s k) k (s.don k) (S - s.don k) else lS F D S C s k
def wl (s : Sh) (k x : Nat) : Bool := decide (x < k) && decide (s.how x = 2)
theorem lS_how {F D S C : Nat} {s : Sh} (hO : Ok D S C s) : ∀ k, k ≤ 8 → ∀ e, (lS F D S C s k).how e = if wl s k e = true then 0 else s.how e
  | 0, _, e => by rw [if_neg (by simp [wl])]; rfl
  | k + 1, hk, e => by
    have ih := lS_how (F := F) hO k (by omega)
    rw [lS]
    by_cases c : s.how k = 2
    · rw [if_pos c]
      have hd := hO.h2 k (by omega) c
      unfold rbK
      rw [if_pos (by omega)]
      show ud (rbN F D C (lS F D S C s k) k (s.don k) (S - s.don k)).how k 0 e = _
      unfold ud
      rw [rbN_how, ih e]
      by_cases q : e = k
      · subst q
        rw [if_pos rfl, if_pos (by simp [wl, c])]
      · rw [if_neg q]
        have : wl s (k + 1) e = wl s k e := by
          unfold wl
          have : decide (e < k + 1) = decide (e < k) := by apply decide_eq_decide.mpr; omega
          rw [this]
        rw [this]
    · rw [if_neg c, ih e]
      have : wl s (k + 1) e = wl s k e := by
        unfold wl
        by_cases q : e = k
        · subst q; simp [c]
        · have : decide (e < k + 1) = decide (e < k) := by apply decide_eq_decide.mpr; omega
          rw [this]
      rw [this]
theorem lS_don {F D S C : Nat} {s : Sh} (hO : Ok D S C s) : ∀ k, k ≤ 8 → ∀ e, (lS F D S C s k).don e = if wl s k e = true then S else s.don e
  | 0, _, e => by rw [if_neg (by simp [wl])]; rfl
  | k + 1, hk, e => by
    have ih := lS_don (F := F) hO k (by omega)
    rw [lS]
    by_cases c : s.how k = 2
    · rw [if_pos c]
      have hd := hO.h2 k (by omega) c
      have e0 : (lS F D S C s k).don k = s.don k := by rw [ih k, if_neg (by simp [wl])]
      have en : (rbK F D S C (lS F D S C s k) k (s.don k) (S - s.don k)).don = (rbN F D C (lS F D S C s k) k (s.don k) (S - s.don k)).don := by
        unfold rbK
        split <;> rfl
      rw [en, rbN_don e0, ih e]
      by_cases q : e = k
      · subst q
        rw [if_pos rfl, if_pos (by simp [wl, c])]
        omega
      · rw [if_neg q]
        have : wl s (k + 1) e = wl s k e := by
          unfold wl
          have : decide (e < k + 1) = decide (e < k) := by apply decide_eq_decide.mpr; omega
          rw [this]
        rw [this]
    · rw [if_neg c, ih e]
      have : wl s (k + 1) e = wl s k e := by
        unfold wl
        by_cases q : e = k
        · subst q; simp [c]
        · have : decide (e < k + 1) = decide (e < k) := by apply decide_eq_decide.mpr; omega
          rw [this]
      rw [this]
theorem lS_ok {F D S C : Nat} {s : Sh} (h1 : D < 7) (h2 : 2 ≤ D) (hF : F < 4) (hS : S ≤ 12) (hO : Ok D S C s) : ∀ k, k ≤ 8 → Ok D S C (lS F D S C s k)
  | 0, _ => hO
  | k + 1, hk => by
    have ih := lS_ok (F := F) h1 h2 hF hS hO k (by omega)
    rw [lS]
    by_cases c : s.how k = 2
    · rw [if_pos c]
      have hd := hO.h2 k (by omega) c
      exact rbK_ok h1 h2 hF hS ih (by omega) (by rw [lS_how hO k (by omega), if_neg (by simp [wl])]; exact c) (by rw [lS_don hO k (by omega), if_neg (by simp [wl])]) (by omega) (by omega)
    · rw [if_neg c]; exact ih
def lNs (S : Nat) (s : Sh) : Nat → Nat := sg (fun e => if s.how e = 2 then S - s.don e else 0)
def lRs (D S C : Nat) (s : Sh) : Nat → Nat := sg (fun e => if s.how e = 2 then RT D s (wl s e) (s.don e) (S - s.don e) * C else 0)
theorem lS_rd {F D S C : Nat} {s : Sh} (h1 : D < 7) (h2 : 2 ≤ D) (hF : F < 4) (hS : S ≤ 12) (hO : Ok D S C s) : ∀ k, k ≤ 8 → s8 (lS F D S C s k).rd = s8 s.rd + lRs D S C s k
  | 0, _ => rfl
  | k + 1, hk => by
    have ih := lS_rd (F := F) h1 h2 hF hS hO k (by omega)
    show s8 (lS F D S C s (k + 1)).rd = s8 s.rd + (lRs D S C s k + (if s.how k = 2 then RT D s (wl s k) (s.don k) (S - s.don k) * C else 0))
    rw [lS]
    by_cases c : s.how k = 2
    · rw [if_pos c, if_pos c]
      have hd := hO.h2 k (by omega) c
      have e0 : (lS F D S C s k).don k = s.don k := by rw [lS_don hO k (by omega), if_neg (by simp [wl])]
      rw [rbK_rd, rbN_rd h1 h2 hS e0 _ (by omega), ih]
      have eR : RT D (lS F D S C s k) (fun _ => false) (s.don k) (S - s.don k) = RT D s (wl s k) (s.don k) (S - s.don k) := by
        unfold RT
        apply sg_ext
        intro i hi
        apply ct_ext
        intro x _
        rw [lS_don hO k (by omega), Bool.or_false]
        by_cases y : wl s k x = true
        · rw [if_pos y, y]
          have : s.don k + i < S := by omega
          simp [this]
        · rw [if_neg y, Bool.eq_false_iff.mpr y, Bool.or_false]
      rw [eR]
      omega
    · rw [if_neg c, if_neg c, ih]
      rfl
theorem o31 {c : Nat} {σX σM : gM} (a1 : Int32) (h : Inv c σX σM) : ∃ (r : Int32) (τX τM : gM), fX11_left 1000 a1 σX = some (r, τX) ∧ fX12_left 1000 a1 σM = some (r, τM) ∧ Inv (c + 1) τX τM := by
  have h0 := Inv_0 h 0
  unfold fX11_left fX12_left
  rw [b_L]
  generalize g_put σM 0 0 0 = σ0 at *
  rcases Inv_cases h0 with hN | ⟨D, S, C, F, s, xe, me, ok, xs, ms⟩
  · rw [no_pres hN, b_I, if_pos rfl, if_pos hN.m14]
    exact ⟨_, _, _, rfl, rfl, h0⟩
  · obtain ⟨w1, w2, w3, w4, w5, w6, w7⟩ := xe.1
    obtain ⟨x0, x1, x2, x3, x5, x6, x7, x8, x9⟩ := xe.2.1
    have xs0 : XS C s (σX.1 (11 + 5 * 0)) := xs
    have donS : ∀ d, d < 8 → s.don d ≤ S := by
      intro d hd
      have := ok.how d hd
      have := ok.h0 d hd
      have := ok.h1 d hd
      have := ok.h2 d hd
      omega
    rw [hP55 xe, b_I, if_neg n10, if_neg (hA14 me)]
    rcases i_rng a1 (N := 2) (by omega) with q | q | ⟨x, hx, rfl⟩
    · have n0 : ¬ a1 = 0 := fun z => by rw [z] at q; exact absurd q (by decide)
      have n1 : ¬ a1 = 1 := fun z => by rw [z] at q; exact absurd q (by decide)
      rw [if_neg n0, if_neg n1, l_0, l_1, M_isIn_lo q (by omega), b_I, if_pos rfl]
      exact ⟨_, _, _, rfl, rfl, h0⟩
    · have n0 : ¬ a1 = 0 := fun z => by rw [z] at q; exact absurd q.2 (by decide)
      have n1 : ¬ a1 = 1 := fun z => by rw [z] at q; exact absurd q.2 (by decide)
      rw [if_neg n0, if_neg n1, l_0, l_1, M_isIn_hi q.2 (by omega), b_I, if_pos rfl]
      exact ⟨_, _, _, rfl, rfl, h0⟩
    · -- the class
      have eN : fX4_stripesLeft 1000 σX = some (nI (lNs S s (D + 2)), σX) := by
        unfold fX4_stripesLeft
        refine lp (L := fun m k (q : Int32) => fX4_stripesLeft_L4 1000 m q (nI k) σX) (I := fun k q => q = nI (lNs S s k)) (Q := fun o => o = some (nI (lNs S s (D + 2)), σX)) (N := D + 2) ?_ ?_ (D + 2) 1000 0 0 (by omega) (by omega) rfl
        · intro m k q hk hq
          subst hq
          refine Or.inl ⟨nI (lNs S s (k + 1)), ?_, rfl⟩
          show fX4_stripesLeft_b4 1000 (fX4_stripesLeft_L4 1000 m) (nI (lNs S s k)) (nI k) σX = _
          have up : lNs S s (k + 1) = lNs S s k + (if s.how k = 2 then S - s.don k else 0) := rfl
          unfold fX4_stripesLeft_b4 fX4_stripesLeft_b35 fX4_stripesLeftOf
          rw [x5, if_neg (by simp (disch := first | omega | assumption) only [fa_lit, nLE, nLT, nEQ, nI_add, nSA, nSUB, pk_mul, nDIV, nREM, nCL, fa_and, nx_xor, fa_or, nSHL, nSHR, nUS, n31, n255, Nat.and_one_is_mod, b_I, b_V, b_L, not_or, Nat.not_lt_zero, Nat.not_le, Nat.not_lt, not_false_eq_true, true_and, and_true, false_or, or_false, Classical.not_not, if_true, if_false, if_pos, if_neg] <;> omega), show (2 : Int32) = nI 2 from rfl, X_stands xs0 (ok.how k (by omega)) (by omega) (by omega), b_I, show (104 : Int32) + nI k = nI (104 + k) from nI_add 104 k, X_get (by omega), b_I, xs0.don k (by omega), x1, nSUB (donS k (by omega)), b_I, nI_add, show nI k + 1 = nI (k + 1) from nI_add k 1, up]
          by_cases y : s.how k = 2
          · rw [if_pos y, if_neg (show ¬ nI 1 = 0 by decide), if_pos y]
          · rw [if_neg y, if_pos (show nI 0 = 0 from rfl), if_neg y]
            rfl
        · intro m q hq
          subst hq
          show fX4_stripesLeft_b4 1000 (fX4_stripesLeft_L4 1000 m) (nI (lNs S s (D + 2))) (nI (D + 2)) σX = _
          unfold fX4_stripesLeft_b4
          rw [x5, if_pos (by simp (disch := first | omega | assumption) only [fa_lit, nLE, nLT, nEQ, nI_add, nSA, nSUB, pk_mul, nDIV, nREM, nCL, fa_and, nx_xor, fa_or, nSHL, nSHR, nUS, n31, n255, Nat.and_one_is_mod, b_I, b_V, b_L, not_or, Nat.not_lt_zero, Nat.not_le, Nat.not_lt, not_false_eq_true, true_and, and_true, false_or, or_false, Classical.not_not, if_true, if_false, if_pos, if_neg] <;> omega)]
      have eR : fX4_readsLeft 1000 σX = some (nI (lRs D S C s (D + 2)), σX) := by
        unfold fX4_readsLeft
        refine lp (L := fun m k (q : Int32 × Int32) => fX4_readsLeft_L6 1000 m q.1 q.2 (nI k) σX) (I := fun k q => q.1 = nI (lRs D S C s k) ∧ q.2 = nI (bm (wl s k) (D + 2))) (Q := fun o => o = some (nI (lRs D S C s (D + 2)), σX)) (N := D + 2) ?_ ?_ (D + 2) 1000 0 (0, 0) (by omega) (by omega) ⟨rfl, by rw [bm_z.mpr (fun k _ => by simp [wl])]; rfl⟩
        · intro m k q hk hq
          obtain ⟨q1, q2⟩ := hq
          have up : lRs D S C s (k + 1) = lRs D S C s k + (if s.how k = 2 then RT D s (wl s k) (s.don k) (S - s.don k) * C else 0) := rfl
          left
          show ∃ a', fX4_readsLeft_b6 1000 (fX4_readsLeft_L6 1000 m) q.1 q.2 (nI k) σX = _ ∧ _
          unfold fX4_readsLeft_b6 fX4_readsLeft_b44
          rw [x5, if_neg (by simp (disch := first | omega | assumption) only [fa_lit, nLE, nLT, nEQ, nI_add, nSA, nSUB, pk_mul, nDIV, nREM, nCL, fa_and, nx_xor, fa_or, nSHL, nSHR, nUS, n31, n255, Nat.and_one_is_mod, b_I, b_V, b_L, not_or, Nat.not_lt_zero, Nat.not_le, Nat.not_lt, not_false_eq_true, true_and, and_true, false_or, or_false, Classical.not_not, if_true, if_false, if_pos, if_neg] <;> omega), show (2 : Int32) = nI 2 from rfl, X_stands xs0 (ok.how k (by omega)) (by omega) (by omega), b_I, q1, q2, X_tillWhole xe ok xs0 hk (donS k (by omega)), b_I, nI_add, sh1 (by omega), show nI k + 1 = nI (k + 1) from nI_add k 1, up]
          by_cases y : s.how k = 2
          · rw [if_pos y, if_neg (show ¬ nI 1 = 0 by decide), if_pos y, fa_or, bm_one hk, bm_or]
            refine ⟨(_, _), rfl, rfl, congrArg nI (bm_ext (fun e _ => ?_))⟩
            unfold wl
            by_cases z : e = k
            · subst z; simp [y]
            · have : decide (e < k + 1) = decide (e < k) := by apply decide_eq_decide.mpr; omega
              rw [this]; simp [z]
          · rw [if_neg y, if_pos (show nI 0 = 0 from rfl), if_neg y]
            refine ⟨(_, _), rfl, rfl, congrArg nI (bm_ext (fun e _ => ?_))⟩
            unfold wl
            by_cases z : e = k
            · subst z; simp [y]
            · have : decide (e < k + 1) = decide (e < k) := by apply decide_eq_decide.mpr; omega
              rw [this]
        · intro m q hq
          obtain ⟨q1, q2⟩ := hq
          show fX4_readsLeft_b6 1000 (fX4_readsLeft_L6 1000 m) q.1 q.2 (nI (D + 2)) σX = _
          unfold fX4_readsLeft_b6
          rw [x5, if_pos (by simp (disch := first | omega | assumption) only [fa_lit, nLE, nLT, nEQ, nI_add, nSA, nSUB, pk_mul, nDIV, nREM, nCL, fa_and, nx_xor, fa_or, nSHL, nSHR, nUS, n31, n255, Nat.and_one_is_mod, b_I, b_V, b_L, not_or, Nat.not_lt_zero, Nat.not_le, Nat.not_lt, not_false_eq_true, true_and, and_true, false_or, or_false, Classical.not_not, if_true, if_false, if_pos, if_neg] <;> omega), q1]
      -- the reference
      obtain ⟨M1, c1, c2, c3, c4⟩ := M_copyRow (n := 1000) (w := 10) (nw := 616) (u := 11) (nu := 616) (f := 0) (t := 0) (σ := σ0) (by omega) (by decide) (by omega) (by omega) (by omega) (by omega)
      have ms1 : MS C s (M1.1 11) 0 := MS_copy w6 ms (fun k hk => c2 k hk)
      have eM : ∃ τ, fX12_left_L41 1000 1000 (nI x) 0 0 M1 = some (if nI x = 0 then nI (lNs S s (D + 2)) else nI (lRs D S C s (D + 2)), τ) ∧ fr [11, 14, 15] σ0 τ := by
        refine lp (L := fun m k (a : gM) => fX12_left_L41 1000 m (nI x) (nI (lNs S s k)) (nI k) a) (I := fun k a => MS C (lS F D S C s k) (a.1 11) 0 ∧ fr [11, 14, 15] σ0 a) (Q := fun o => ∃ τ, o = some (if nI x = 0 then nI (lNs S s (D + 2)) else nI (lRs D S C s (D + 2)), τ) ∧ fr [11, 14, 15] σ0 τ) (N := D + 2) ?_ ?_ (D + 2) 1000 0 M1 (by omega) (by omega) ⟨ms1, fr_mono c4 (by simp)⟩
        · intro m k a hk ha
          obtain ⟨a1, a2⟩ := ha
          have mea := ME_fr me a2 (by simp) (by simp) (by simp) (by simp)
          have m5 := mea.2.1.2.2.2.2.1
          have eh := a1.how k (by omega)
          rw [Nat.zero_add, lS_how ok k (by omega), if_neg (by simp [wl])] at eh
          have hh2 := ok.how k (by omega)
          have up : lNs S s (k + 1) = lNs S s k + (if s.how k = 2 then S - s.don k else 0) := rfl
          left
          show ∃ a', fX12_left_b41 1000 (fX12_left_L41 1000 m) (nI x) (nI (lNs S s k)) (nI k) a = _ ∧ _
          unfold fX12_left_b41
          rw [m5, if_neg (by simp (disch := first | omega | assumption) only [fa_lit, nLE, nLT, nEQ, nI_add, nSA, nSUB, pk_mul, nDIV, nREM, nCL, fa_and, nx_xor, fa_or, nSHL, nSHR, nUS, n31, n255, Nat.and_one_is_mod, b_I, b_V, b_L, not_or, Nat.not_lt_zero, Nat.not_le, Nat.not_lt, not_false_eq_true, true_and, and_true, false_or, or_false, Classical.not_not, if_true, if_false, if_pos, if_neg] <;> omega), lS, up]
          by_cases y : s.how k = 2
          · have hho : (lS F D S C s k).how k = 2 := by rw [lS_how ok k (by omega), if_neg (by simp [wl])]; exact y
            have hdd : (lS F D S C s k).don k = s.don k := by rw [lS_don ok k (by omega), if_neg (by simp [wl])]
            obtain ⟨σ', e, X', f'⟩ := M_whole1 mea (lS_ok (F := F) (by omega) w1 w7 w4 ok k (by omega)) a1 hk hho (fX12_left_L41 1000 m) (nI x) (lNs S s k)
            rw [hdd] at e X'
            rw [e, if_pos y, if_pos y]
            exact ⟨σ', rfl, X', fr_trans a2 f'⟩
          · rw [if_neg y, if_neg y]
            refine ⟨a, ?_, a1, a2⟩
            have c0 : ¬ (nI (384 + k) < 0 ∨ 616 ≤ 384 + k) := by rw [show (0 : Int32) = nI 0 from rfl, nLT _ _ (by omega) (by omega)]; omega
            refine lp (L := fun m' _ (_ : Unit) => fX12_left_L49 1000 (fX12_left_L41 1000 m) m' (nI x) (nI (lNs S s k)) (nI k) a) (I := fun _ _ => True) (Q := fun o => o = fX12_left_L41 1000 m (nI x) (nI (lNs S s k + 0)) (nI (k + 1)) a) (N := 0) (fun _ _ _ h _ => absurd h (Nat.not_lt_zero _)) ?_ 0 1000 0 () rfl (by omega) trivial
            intro m' _ _
            show fX12_left_b49 1000 (fX12_left_L41 1000 m) (fX12_left_L49 1000 (fX12_left_L41 1000 m) m') (nI x) (nI (lNs S s k)) (nI k) a = _
            unfold fX12_left_b49
            rw [show (384 : Int32) + nI k = nI (384 + k) from nI_add 384 k, nCL (by omega), if_pos c0, eh, if_neg (show ¬ nI (s.how k) = 2 by rw [show (2 : Int32) = nI 2 from rfl, nEQ _ _ (by omega) (by omega)]; exact y), show nI k + 1 = nI (k + 1) from nI_add k 1]
            rfl
        · intro m a ha
          obtain ⟨a1, a2⟩ := ha
          have mea := ME_fr me a2 (by simp) (by simp) (by simp) (by simp)
          have m5 := mea.2.1.2.2.2.2.1
          have r1 := a1.rds
          rw [Nat.zero_add, lS_rd (by omega) w1 w7 w4 ok _ (by omega)] at r1
          have r0 : a.1 10 427 = nI (s8 s.rd) := by
            rw [a2.1 10 (by simp)]
            have := ms.rds
            rw [Nat.zero_add] at this
            exact this
          refine ⟨a, ?_, a2⟩
          show fX12_left_b41 1000 (fX12_left_L41 1000 m) (nI x) (nI (lNs S s (D + 2))) (nI (D + 2)) a = _
          unfold fX12_left_b41
          rw [m5, if_pos (by simp (disch := first | omega | assumption) only [fa_lit, nLE, nLT, nEQ, nI_add, nSA, nSUB, pk_mul, nDIV, nREM, nCL, fa_and, nx_xor, fa_or, nSHL, nSHR, nUS, n31, n255, Nat.and_one_is_mod, b_I, b_V, b_L, not_or, Nat.not_lt_zero, Nat.not_le, Nat.not_lt, not_false_eq_true, true_and, and_true, false_or, or_false, Classical.not_not, if_true, if_false, if_pos, if_neg] <;> omega), r1, r0, nSUB (by omega), show s8 s.rd + lRs D S C s (D + 2) - s8 s.rd = lRs D S C s (D + 2) by omega]
          by_cases y : nI x = 0
          · rw [if_pos y, if_pos y]
          · rw [if_neg y, if_neg y]
      obtain ⟨τ, t1, t2⟩ := eM
      have hI : Inv (c + 1) σX τ := Inv_gk h0 (gj_refl [] [] _) (gj_fr (J := []) t2 (by simp)) (by decide) (by decide) (by decide) (by decide)
      rw [eN, b_I, eR, b_I, l_0, l_1, M_isIn_yes (by omega) (by omega) (by omega), b_I, if_neg n10, show (fX12_copyRow 1000 10 616 11 616 0 0 σ0) = some M1 from c1, b_V, t1]
      rcases (show x = 0 ∨ x = 1 by omega) with rfl | rfl
      · rw [if_pos (show nI 0 = 0 from rfl), if_pos (show nI 0 = 0 from rfl)]
        exact ⟨_, _, _, rfl, rfl, hI⟩
      · rw [if_neg (show ¬ nI 1 = 0 by decide), if_neg (show ¬ nI 1 = 0 by decide), if_pos (show nI 1 = 1 from rfl)]
        exact ⟨_, _, _, rfl, rfl, hI⟩
