/-! the face: feed, end -/
def TPx (L : Nat) (T : Nat → Nat) (σX σM : gM) : Prop := σX.1 1 1 = nI L ∧ σM.1 0 2 = nI L ∧ ∀ k, k < L → 0 < T k ∧ T k < 256 ∧ σX.1 2 k = nI (T k) ∧ σM.1 1 k &&& 255 = nI (T k)
/-- a byte of an int -/
def byw (v : Int32) (k : Nat) : Nat := (v.toBitVec >>> (8 * k)).toNat % 256
theorem byw_lt (v : Int32) (k : Nat) : byw v k < 256 := Nat.mod_lt _ (by decide)
theorem byw_us {v : Int32} {k : Nat} (hk : k < 4) : g_us v (nI (8 * k)) &&& 255 = nI (byw v k) := by
  apply Int32.toBitVec_inj.mp
  rw [Int32.toBitVec_and, g_us_bv _ (show 8 * k < 32 by omega)]
  apply BitVec.eq_of_toNat_eq
  rw [BitVec.toNat_and, show (255 : Int32).toBitVec.toNat = 255 from rfl, n256]
  show _ = (BitVec.ofNat 32 (byw v k)).toNat
  have e : byw v k % 2 ^ 32 = byw v k := Nat.mod_eq_of_lt (by have := byw_lt v k; omega)
  rw [BitVec.toNat_ofNat, e]
  rfl
theorem byw_sr {v : Int32} {k : Nat} (hk : k < 4) : v >>> nI (8 * k) &&& 255 = nI (byw v k) := by
  rw [← byw_us hk]
  apply Int32.toBitVec_inj.mp
  apply BitVec.eq_of_getLsbD_eq
  intro i hi
  have e := s_l0 (8 * k) (by omega)
  have e1 : (v >>> nI (8 * k)).toBitVec = v.toBitVec.sshiftRight (8 * k) := by
    show v.toBitVec.sshiftRight' ((nI (8 * k)).toBitVec.smod 32) = _
    rw [BitVec.sshiftRight_eq', e]
  rw [Int32.toBitVec_and, Int32.toBitVec_and, g_us_bv _ (show 8 * k < 32 by omega), BitVec.getLsbD_and, BitVec.getLsbD_and, e1, show (255 : Int32) = nI 255 from rfl, pb_bit]
  by_cases c : i < 8
  · rw [BitVec.getLsbD_sshiftRight, BitVec.getLsbD_ushiftRight]
    have h1 : 8 * k + i < 32 := by omega
    simp [h1, c]
    omega
  · simp [c]
def cz (v : Int32) : Nat → Nat := ct (fun i => decide (byw v (3 - i) ≠ 0))
def nz (v : Int32) : Nat := cz v 4
theorem nz_le (v : Int32) : nz v ≤ 4 := ct_le _ _
theorem nz_up (v : Int32) : ct (fun i => decide (byw v i ≠ 0)) 4 = nz v := by
  unfold nz cz
  simp only [ct, Nat.sub_zero, Nat.sub_self, show (3 : Nat) - 1 = 2 from rfl, show (3 : Nat) - 2 = 1 from rfl]
  omega
def shf (k : Nat) : Int32 := if k < 4 then nI (24 - 8 * k) else -8
theorem shf_up : ∀ k, k < 4 → shf k + (-8) = shf (k + 1) := by decide
theorem shf_in : ∀ k, k < 4 → shf k = nI (8 * (3 - k)) ∧ ¬ shf k < 0 ∧ shf k &&& 31 = nI (8 * (3 - k)) := by decide
theorem X_bytesIn (v : Int32) (σ : gM) : fX10_bytesIn 1000 v σ = some (nI (nz v), σ) := by
  unfold fX10_bytesIn
  refine lp (L := fun m k (q : Int32) => fX10_bytesIn_L5 1000 m v q (shf k) σ) (I := fun k q => q = nI (cz v k)) (Q := fun o => o = some (nI (nz v), σ)) (N := 4) ?_ ?_ 4 1000 0 0 (by omega) (by omega) rfl
  · intro m k q hk hq
    subst hq
    obtain ⟨s1, s2, s3⟩ := shf_in k hk
    have hb := byw_lt v (3 - k)
    left
    show ∃ a', fX10_bytesIn_b5 1000 (fX10_bytesIn_L5 1000 m) v (nI (cz v k)) (shf k) σ = _ ∧ _
    unfold fX10_bytesIn_b5 fX10_bytesIn_b22
    rw [if_neg s2, s1, byw_us (by omega), ← s1, shf_up k hk]
    show ∃ a', _ ∧ a' = nI (ct (fun i => decide (byw v (3 - i) ≠ 0)) (k + 1))
    rw [ct]
    by_cases y : byw v (3 - k) = 0
    · rw [if_pos (by rw [y]; rfl), if_neg (by simp [y])]
      exact ⟨_, rfl, rfl⟩
    · rw [if_neg (by rw [show (0 : Int32) = nI 0 from rfl, nEQ _ _ (by omega) (by omega)]; exact y), if_pos (by simp [y])]
      exact ⟨_, rfl, nI_add _ 1⟩
  · intro m q hq
    subst hq
    show fX10_bytesIn_b5 1000 (fX10_bytesIn_L5 1000 m) v (nI (cz v 4)) (shf 4) σ = _
    unfold fX10_bytesIn_b5
    rw [if_pos (by decide)]
    rfl
theorem M_bytesOf (v : Int32) (σ : gM) : fX12_bytesOf 1000 v σ = some (nI (nz v), σ) := by
  unfold fX12_bytesOf
  rw [← nz_up]
  refine lp (L := fun m k (q : Int32) => fX12_bytesOf_L4 1000 m v q (nI k) σ) (I := fun k q => q = nI (ct (fun i => decide (byw v i ≠ 0)) k)) (Q := fun o => o = some (nI (ct (fun i => decide (byw v i ≠ 0)) 4), σ)) (N := 4) ?_ ?_ 4 1000 0 0 (by omega) (by omega) rfl
  · intro m k q hk hq
    subst hq
    have hb := byw_lt v k
    have e8 : ((8 : Int32) * nI k) &&& 31 = nI (8 * k) := by
      rw [show (8 : Int32) * nI k = nI (8 * k) from pk_mul 8 k, show (31 : Int32) = nI 31 from rfl, fa_and, n31 (by omega)]
    left
    show ∃ a', fX12_bytesOf_b4 1000 (fX12_bytesOf_L4 1000 m) v (nI (ct (fun i => decide (byw v i ≠ 0)) k)) (nI k) σ = _ ∧ _
    unfold fX12_bytesOf_b4 fX12_bytesOf_b28
    rw [if_neg (by simp (disch := first | omega | assumption) only [fa_lit, nLE, nLT, nEQ, nI_add, nSA, nSUB, pk_mul, nDIV, nREM, nCL, fa_and, nx_xor, fa_or, nSHL, nSHR, nUS, n31, n255, Nat.and_one_is_mod, b_I, b_V, b_L, not_or, Nat.not_lt_zero, Nat.not_le, Nat.not_lt, not_false_eq_true, true_and, and_true, false_or, or_false, Classical.not_not, if_true, if_false, if_pos, if_neg] <;> omega), e8, byw_sr hk, ct, show nI k + 1 = nI (k + 1) from nI_add k 1]
    by_cases y : byw v k = 0
    · rw [if_pos (by rw [y]; rfl), if_neg (by simp [y]), Int32.add_zero]
      exact ⟨_, rfl, rfl⟩
    · rw [if_neg (by rw [show (0 : Int32) = nI 0 from rfl, nEQ _ _ (by omega) (by omega)]; exact y), if_pos (by simp [y])]
      exact ⟨_, rfl, nI_add _ 1⟩
  · intro m q hq
    subst hq
    show fX12_bytesOf_b4 1000 (fX12_bytesOf_L4 1000 m) v (nI (ct (fun i => decide (byw v i ≠ 0)) 4)) (nI 4) σ = _
    unfold fX12_bytesOf_b4
    rw [if_pos (by decide)]
theorem nar_b : ∀ B, B < 256 → vp_nar .byte ((nI B).toInt8.toInt32) &&& 255 = nI B := by decide +kernel
theorem J_app {L : Nat} {T : Nat → Nat} {σX σM : gM} (v : Int32) (h : TPx L T σX σM) (hL : L + nz v ≤ 280) :
    ∃ (T' : Nat → Nat) (τX τM : gM), fX10_append 1000 v σX = some τX ∧ fX12_brings 1000 v σM = some τM ∧ TPx (L + nz v) T' τX τM ∧ gj [1, 2] [] σX τX ∧ gj [1] [2] σM τM := by
  unfold fX10_append fX12_brings
  have key : ∃ (τX τM : gM) (T' : Nat → Nat), fX10_append_L3 1000 1000 v 24 σX = some τX ∧ fX12_brings_L3 1000 1000 v 24 σM = some τM ∧ TPx (L + nz v) T' τX τM ∧ gj [1, 2] [] σX τX ∧ gj [1] [2] σM τM := by
    refine lp (L := fun m k (a : gM × gM) => (fX10_append_L3 1000 m v (shf k) a.1, fX12_brings_L3 1000 m v (shf k) a.2)) (I := fun k a => ∃ T', TPx (L + cz v k) T' a.1 a.2 ∧ gj [1, 2] [] σX a.1 ∧ gj [1] [2] σM a.2) (Q := fun o => ∃ (τX τM : gM) (T' : Nat → Nat), o.1 = some τX ∧ o.2 = some τM ∧ TPx (L + nz v) T' τX τM ∧ gj [1, 2] [] σX τX ∧ gj [1] [2] σM τM) (N := 4) ?_ ?_ 4 1000 0 (σX, σM) (by omega) (by omega) ⟨T, h, gj_refl _ _ _, gj_refl _ _ _⟩
    · intro m k a hk ha
      obtain ⟨T', ⟨t1, t2, t3⟩, t4, t5⟩ := ha
      obtain ⟨s1, s2, s3⟩ := shf_in k hk
      have hb := byw_lt v (3 - k)
      have up : cz v (k + 1) = cz v k + (if decide (byw v (3 - k) ≠ 0) = true then 1 else 0) := rfl
      left
      show ∃ a', (fX10_append_b3 1000 (fX10_append_L3 1000 m) v (shf k) a.1, fX12_brings_b3 1000 (fX12_brings_L3 1000 m) v (shf k) a.2) = _ ∧ _
      unfold fX10_append_b3 fX12_brings_b3 fX10_append_b56 fX12_brings_b43
      rw [if_neg s2, if_neg s2, s3, byw_sr (by omega)]
      rw [show g_us v (shf k) &&& 255 = nI (byw v (3 - k)) from by rw [s1]; exact byw_us (by omega), shf_up k hk, up]
      by_cases y : byw v (3 - k) = 0
      · rw [if_pos (by rw [y]; rfl), if_pos (by rw [y]; rfl), if_neg (by simp [y])]
        exact ⟨a, rfl, T', ⟨t1, t2, t3⟩, t4, t5⟩
      · have y' : ¬ nI (byw v (3 - k)) = 0 := by rw [show (0 : Int32) = nI 0 from rfl, nEQ _ _ (by omega) (by omega)]; exact y
        have hk4 : cz v (k + 1) ≤ nz v := by
          have mono : ∀ p : Nat → Bool, ∀ i j, i ≤ j → ct p i ≤ ct p j := by
            intro p i j hij
            induction j with
            | zero => rw [show i = 0 by omega]; exact Nat.le_refl _
            | succ j ih =>
              by_cases q : i = j + 1
              · rw [q]; exact Nat.le_refl _
              · rw [ct]
                have := ih (by omega)
                omega
          exact mono _ _ _ (by omega)
        rw [up, if_pos (by simp [y])] at hk4
        have c0 : ¬ nI (L + cz v k) < 0 := by rw [show (0 : Int32) = nI 0 from rfl, nLT _ _ (by omega) (by omega)]; omega
        have c1 : ¬ (280 : Int32) ≤ nI (L + cz v k) := by rw [show (280 : Int32) = nI 280 from rfl, nLE _ _ (by omega) (by omega)]; omega
        have c2 : ¬ (nI (L + cz v k) < 0 ∨ 280 ≤ L + cz v k) := by rw [show (0 : Int32) = nI 0 from rfl, nLT _ _ (by omega) (by omega)]; omega
        rw [if_neg y', if_neg y', t1, t2, if_neg c0, if_neg c1, nCL (by omega), if_pos c2, if_pos c2, b_L, b_L, if_pos (by simp [y])]
        rw [show (g_put a.1 2 (L + cz v k) (nI (byw v (3 - k)))).1 1 1 = nI (L + cz v k) from by rw [gp_o (by decide)]; exact t1, show nI (L + cz v k) + 1 = nI (L + (cz v k + 1)) from nI_add _ 1, b_L]
        rw [show ∀ x : Int32, (g_put a.2 1 (L + cz v k) x).1 0 2 = nI (L + cz v k) from fun x => by rw [gp_o (by decide)]; exact t2, show nI (L + cz v k) + 1 = nI (L + (cz v k + 1)) from nI_add _ 1, b_L]
        refine ⟨(_, _), rfl, fun i => if i = L + cz v k then byw v (3 - k) else T' i, ⟨gp_s _ _ _ _, gp_s _ _ _ _, ?_⟩, gj_trans t4 (gj_trans (gj_put _ _ _ (by simp) (by decide)) (gj_put _ _ _ (by simp) (by decide))), gj_trans t5 (gj_trans (gj_put _ _ _ (by simp) (by decide)) (gj_put0 _ _ (by simp)))⟩
        intro i hi
        show 0 < (if i = L + cz v k then byw v (3 - k) else T' i) ∧ (if i = L + cz v k then byw v (3 - k) else T' i) < 256 ∧ (g_put (g_put a.1 2 (L + cz v k) (nI (byw v (3 - k)))) 1 1 (nI (L + (cz v k + 1)))).1 2 i = nI (if i = L + cz v k then byw v (3 - k) else T' i) ∧ (g_put (g_put a.2 1 (L + cz v k) _) 0 2 (nI (L + (cz v k + 1)))).1 1 i &&& 255 = nI (if i = L + cz v k then byw v (3 - k) else T' i)
        rw [gp_o (by decide), gp_k, gp_o (by decide), gp_k]
        by_cases q : i = L + cz v k
        · rw [if_pos q, if_pos q, if_pos q]
          exact ⟨by omega, hb, rfl, nar_b _ hb⟩
        · rw [if_neg q, if_neg q, if_neg q]
          exact t3 i (by omega)
    · intro m a ha
      obtain ⟨T', t1, t4, t5⟩ := ha
      refine ⟨a.1, a.2, T', ?_, ?_, t1, t4, t5⟩
      · show fX10_append_b3 1000 (fX10_append_L3 1000 m) v (shf 4) a.1 = _
        unfold fX10_append_b3
        rw [if_pos (by decide)]
      · show fX12_brings_b3 1000 (fX12_brings_L3 1000 m) v (shf 4) a.2 = _
        unfold fX12_brings_b3
        rw [if_pos (by decide)]
  obtain ⟨τX, τM, T', k1, k2, k3, k4, k5⟩ := key
  exact ⟨T', τX, τM, k1, k2, k3, k4, k5⟩
/-- the tape alone has changed -/
theorem Inv_tape {c L : Nat} {T : Nat → Nat} {σX σM τX τM : gM} (h : Inv c σX σM) (hL : L ≤ 280) (ht : TPx L T τX τM) (fX : gj [1, 2] [] σX τX) (fM : gj [1] [2] σM τM) : Inv c τX τM := by
  obtain ⟨h1, h2, h3, h4⟩ := h
  exact ⟨⟨L, T, hL, ht⟩, SC_gj h2 fX fM (by decide) (by decide) (by decide) (by decide), ST_gj h3 fX fM (by decide) (by decide), BO_gj (Nat.le_refl _) h4 fX fM (by decide) (by decide) (by decide) (by decide)⟩
section OPS
variable {c : Nat} {σX σM : gM}
theorem o1 (a1 : Int32) (h : Inv c σX σM) : ∃ (r : Int32) (τX τM : gM), fX11_end a1 σX = some (r, τX) ∧ fX12_end a1 σM = some (r, τM) ∧ Inv (c + 1) τX τM := by
  have h0 := Inv_0 h 0
  unfold fX11_end fX12_end fX10_cut
  rw [b_L, b_L]
  generalize g_put σM 0 0 0 = σ0 at *
  obtain ⟨L, T, hL, t1, t2, t3⟩ := h0.1
  rw [t1, t2]
  rcases i_rng a1 (N := L + 1) (by omega) with q | q | ⟨k, hk, rfl⟩
  · rw [if_pos q, if_pos q, b_I, if_pos (by decide)]
    exact ⟨_, _, _, rfl, rfl, h0⟩
  · have n1 : ¬ a1 ≤ nI L := by
      intro z
      have z := Int32.le_iff_toInt_le.mp z
      have := Int32.le_iff_toInt_le.mp q.2
      rw [nI_toInt (by omega)] at this
      rw [nI_toInt (by omega)] at z
      omega
    rw [if_neg q.1, if_neg q.1, if_neg n1, if_neg n1, b_I, if_pos (by decide)]
    exact ⟨_, _, _, rfl, rfl, h0⟩
  · have n0 : ¬ nI k < 0 := by rw [show (0 : Int32) = nI 0 from rfl, nLT _ _ (by omega) (by omega)]; omega
    have n1 : nI k ≤ nI L := by rw [nLE _ _ (by omega) (by omega)]; omega
    rw [if_neg n0, if_neg n0, if_pos n1, if_pos n1, b_I, if_pos (by decide), b_L]
    refine ⟨_, _, _, rfl, rfl, Inv_tape (L := k) (T := T) h0 (by omega) ⟨gp_s _ _ _ _, gp_s _ _ _ _, fun i hi => ?_⟩ (gj_put _ _ _ (by simp) (by decide)) (gj_put0 _ _ (by simp))⟩
    rw [gp_o (by decide), gp_o (by decide)]
    exact t3 i (by omega)
theorem o0 (a1 a2 a3 a4 a5 : Int32) (h : Inv c σX σM) : ∃ (r : Int32) (τX τM : gM), fX11_feed 1000 a1 a2 a3 a4 a5 σX = some (r, τX) ∧ fX12_feed 1000 a1 a2 a3 a4 a5 σM = some (r, τM) ∧ Inv (c + 1) τX τM := by
  have h0 := Inv_0 h 0
  unfold fX11_feed fX12_feed fX10_size
  rw [b_L]
  generalize g_put σM 0 0 0 = σ0 at *
  obtain ⟨L, T, hL, ht⟩ := h0.1
  have l1 := nz_le a1
  have l2 := nz_le a2
  have l3 := nz_le a3
  have l4 := nz_le a4
  have l5 := nz_le a5
  rw [X_bytesIn, b_I, X_bytesIn, b_I, X_bytesIn, b_I, X_bytesIn, b_I, X_bytesIn, b_I, b_I, M_bytesOf, b_I, M_bytesOf, b_I, M_bytesOf, b_I, M_bytesOf, b_I, M_bytesOf, b_I, ht.1, ht.2.1, nI_add, nI_add, nI_add, nI_add, nI_add, nI_add, nI_add, nI_add, nI_add, nI_add]
  have en : L + (nz a1 + nz a2 + nz a3 + nz a4 + nz a5) = L + nz a1 + nz a2 + nz a3 + nz a4 + nz a5 := by omega
  rw [en]
  by_cases y : L + nz a1 + nz a2 + nz a3 + nz a4 + nz a5 ≤ 280
  · have y' : nI (L + nz a1 + nz a2 + nz a3 + nz a4 + nz a5) ≤ 280 := by rw [show (280 : Int32) = nI 280 from rfl, nLE _ _ (by omega) (by omega)]; exact y
    obtain ⟨T1, X1, M1, p1, q1, r1, f1, g1⟩ := J_app a1 ht (by omega)
    obtain ⟨T2, X2, M2, p2, q2, r2, f2, g2⟩ := J_app a2 r1 (by omega)
    obtain ⟨T3, X3, M3, p3, q3, r3, f3, g3⟩ := J_app a3 r2 (by omega)
    obtain ⟨T4, X4, M4, p4, q4, r4, f4, g4⟩ := J_app a4 r3 (by omega)
    obtain ⟨T5, X5, M5, p5, q5, r5, f5, g5⟩ := J_app a5 r4 (by omega)
    rw [if_pos y', if_pos y', p1, b_V, p2, b_V, p3, b_V, p4, b_V, p5, b_V, b_I, q1, b_V, q2, b_V, q3, b_V, q4, b_V, q5, b_V, r5.1, r5.2.1]
    exact ⟨_, _, _, rfl, rfl, Inv_tape h0 y r5 (gj_trans f1 (gj_trans f2 (gj_trans f3 (gj_trans f4 f5)))) (gj_trans g1 (gj_trans g2 (gj_trans g3 (gj_trans g4 g5))))⟩
  · have y' : ¬ nI (L + nz a1 + nz a2 + nz a3 + nz a4 + nz a5) ≤ 280 := by rw [show (280 : Int32) = nI 280 from rfl, nLE _ _ (by omega) (by omega)]; exact y
    rw [if_neg y', if_neg y']
    exact ⟨_, _, _, rfl, rfl, h0⟩
end OPS
