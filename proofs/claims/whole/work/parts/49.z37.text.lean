/-! taking a shelf -/
def fg (s : Sh) : Sh := (s.w_rd (fun _ => 0)).w_wr (fun _ => 0)
theorem fg_ok {D S C : Nat} {s : Sh} (h : Ok D S C s) : Ok D S C (fg s) := ⟨h.how, h.h0, h.h1, h.h2, h.byt, h.two, h.sp, h.nx, h.di⟩
theorem X_forgetC {C : Nat} {s : Sh} {σ : gM} (hC : C ≤ 4) (h : XS C s (σ.1 11)) : ∃ σ', fX9_forgetCosts 1000 0 σ = some σ' ∧ fr [11] σ σ' ∧ XS C (fg s) (σ'.1 11) := by
  unfold fX9_forgetCosts
  have key : ∃ σ', fX9_forgetCosts_L2 1000 0 1000 0 σ = some σ' ∧ fr [11] σ σ' ∧ ∀ j, σ'.1 11 j = if 112 ≤ j ∧ j < 120 ∨ 120 ≤ j ∧ j < 128 then 0 else σ.1 11 j := by
    refine lp (L := fun m k (a : gM) => fX9_forgetCosts_L2 1000 0 m (nI k) a) (I := fun k a => fr [11] σ a ∧ ∀ j, a.1 11 j = if 112 ≤ j ∧ j < 112 + k ∨ 120 ≤ j ∧ j < 120 + k then 0 else σ.1 11 j) (Q := fun o => ∃ σ', o = some σ' ∧ fr [11] σ σ' ∧ ∀ j, σ'.1 11 j = if 112 ≤ j ∧ j < 120 ∨ 120 ≤ j ∧ j < 128 then 0 else σ.1 11 j) (N := 8) ?_ ?_ 8 1000 0 σ rfl (by omega) ⟨fr_refl _ _, fun j => by rw [if_neg (by omega)]⟩
    · intro m k a hk hq
      obtain ⟨q1, q2⟩ := hq
      refine Or.inl ⟨g_put (g_put a 11 (112 + k) 0) 11 (120 + k) 0, ?_, fr_trans q1 (fr_trans (fr_put _ _ _ (by simp)) (fr_put _ _ _ (by simp))), fun j => ?_⟩
      · show fX9_forgetCosts_b2 1000 0 (fX9_forgetCosts_L2 1000 0 m) (nI k) a = _
        unfold fX9_forgetCosts_b2
        rw [if_neg (by simp (disch := first | omega | assumption) only [fa_lit, nLE, nLT, nEQ, nI_add, nSA, nSUB, pk_mul, nDIV, nREM, nCL, fa_and, nx_xor, fa_or, nSHL, nSHR, nUS, n31, n255, Nat.and_one_is_mod, b_I, b_V, b_L, not_or, Nat.not_lt_zero, Nat.not_le, Nat.not_lt, not_false_eq_true, true_and, and_true, false_or, or_false, Classical.not_not, if_true, if_false, if_pos, if_neg] <;> omega), show (112 : Int32) + nI k = nI (112 + k) from nI_add 112 k, show (120 : Int32) + nI k = nI (120 + k) from nI_add 120 k, nCL (by omega), nCL (by omega), if_pos (by simp (disch := first | omega | assumption) only [fa_lit, nLE, nLT, nEQ, nI_add, nSA, nSUB, pk_mul, nDIV, nREM, nCL, fa_and, nx_xor, fa_or, nSHL, nSHR, nUS, n31, n255, Nat.and_one_is_mod, b_I, b_V, b_L, not_or, Nat.not_lt_zero, Nat.not_le, Nat.not_lt, not_false_eq_true, true_and, and_true, false_or, or_false, Classical.not_not, if_true, if_false, if_pos, if_neg] <;> omega), b_L, if_pos (by simp (disch := first | omega | assumption) only [fa_lit, nLE, nLT, nEQ, nI_add, nSA, nSUB, pk_mul, nDIV, nREM, nCL, fa_and, nx_xor, fa_or, nSHL, nSHR, nUS, n31, n255, Nat.and_one_is_mod, b_I, b_V, b_L, not_or, Nat.not_lt_zero, Nat.not_le, Nat.not_lt, not_false_eq_true, true_and, and_true, false_or, or_false, Classical.not_not, if_true, if_false, if_pos, if_neg] <;> omega), b_L, show nI k + 1 = nI (k + 1) from nI_add k 1]
      · rw [gp_k, gp_k, q2 j]
        by_cases e1 : j = 120 + k
        · rw [if_pos e1, if_pos (by omega)]
        · rw [if_neg e1]
          by_cases e2 : j = 112 + k
          · rw [if_pos e2, if_pos (by omega)]
          · rw [if_neg e2]
            by_cases e3 : 112 ≤ j ∧ j < 112 + k ∨ 120 ≤ j ∧ j < 120 + k
            · rw [if_pos e3, if_pos (by omega)]
            · rw [if_neg e3, if_neg (by omega)]
    · intro m a hq
      refine ⟨a, ?_, hq⟩
      show fX9_forgetCosts_b2 1000 0 (fX9_forgetCosts_L2 1000 0 m) (nI 8) a = _
      unfold fX9_forgetCosts_b2
      rw [if_pos (by decide)]
  obtain ⟨σ', k1, k2, k3⟩ := key
  refine ⟨σ', k1, k2, fun d t b hd ht hb hx => ?_, fun d hd => ?_, fun d hd => ?_, fun d hd => ?_, fun d hd => ?_, fun d hd => ?_, ?_, ?_, ?_, ?_, ?_, ?_, ?_, ?_⟩
  · have := h.byt d t b hd ht hb hx
    unfold rb at this ⊢
    rw [k3, if_neg (by omega)]; exact this
  · rw [k3, if_neg (by omega)]; exact h.how d hd
  · rw [k3, if_neg (by omega)]; exact h.don d hd
  · rw [k3, if_pos (by omega)]; rfl
  · rw [k3, if_pos (by omega)]; rfl
  · rw [k3, if_neg (by omega)]; exact h.md d hd
  · rw [k3, if_neg (by omega)]; exact h.sp
  · rw [k3, if_neg (by omega)]; exact h.op
  · rw [k3, if_neg (by omega)]; exact h.ps
  · rw [k3, if_neg (by omega)]; exact h.nx
  · rw [k3, if_neg (by omega)]; exact h.di
  · rw [k3, if_neg (by omega)]; exact h.l0
  · rw [k3, if_neg (by omega)]; exact h.l1
  · rw [k3, if_neg (by omega)]; exact h.l2
theorem M_forgetC {C : Nat} {s : Sh} {σ : gM} (hC : C ≤ 4) (h : MS C s (σ.1 10) 0) : ∃ σ', fX12_begins_L184 1000 1000 0 σ = some σ' ∧ gj [10] [22, 23] σ σ' ∧ MS C (fg s) (σ'.1 10) 0 ∧ σ'.1 0 22 = 0 ∧ σ'.1 0 23 = 0 := by
  have key : ∃ a, fX12_begins_L184 1000 1000 0 σ = some (g_put (g_put (g_put (g_put a 10 427 0) 10 428 0) 0 22 0) 0 23 0) ∧ gj [10] [22, 23] σ a ∧ ∀ j, a.1 10 j = if 400 ≤ j ∧ j < 408 ∨ 408 ≤ j ∧ j < 416 then 0 else σ.1 10 j := by
    refine lp (L := fun m k (a : gM) => fX12_begins_L184 1000 m (nI k) a) (I := fun k a => gj [10] [22, 23] σ a ∧ ∀ j, a.1 10 j = if 400 ≤ j ∧ j < 400 + k ∨ 408 ≤ j ∧ j < 408 + k then 0 else σ.1 10 j) (Q := fun o => ∃ a, o = some (g_put (g_put (g_put (g_put a 10 427 0) 10 428 0) 0 22 0) 0 23 0) ∧ gj [10] [22, 23] σ a ∧ ∀ j, a.1 10 j = if 400 ≤ j ∧ j < 408 ∨ 408 ≤ j ∧ j < 416 then 0 else σ.1 10 j) (N := 8) ?_ ?_ 8 1000 0 σ rfl (by omega) ⟨gj_refl _ _ _, fun j => by rw [if_neg (by omega)]⟩
    · intro m k a hk hq
      obtain ⟨q1, q2⟩ := hq
      refine Or.inl ⟨g_put (g_put a 10 (400 + k) 0) 10 (408 + k) 0, ?_, gj_trans q1 (gj_trans (gj_put _ _ _ (by simp) (by decide)) (gj_put _ _ _ (by simp) (by decide))), fun j => ?_⟩
      · show fX12_begins_b184 1000 (fX12_begins_L184 1000 m) (nI k) a = _
        unfold fX12_begins_b184
        rw [if_neg (by simp (disch := first | omega | assumption) only [fa_lit, nLE, nLT, nEQ, nI_add, nSA, nSUB, pk_mul, nDIV, nREM, nCL, fa_and, nx_xor, fa_or, nSHL, nSHR, nUS, n31, n255, Nat.and_one_is_mod, b_I, b_V, b_L, not_or, Nat.not_lt_zero, Nat.not_le, Nat.not_lt, not_false_eq_true, true_and, and_true, false_or, or_false, Classical.not_not, if_true, if_false, if_pos, if_neg] <;> omega), show (400 : Int32) + nI k = nI (400 + k) from nI_add 400 k, show (408 : Int32) + nI k = nI (408 + k) from nI_add 408 k, nCL (by omega), nCL (by omega), if_pos (by simp (disch := first | omega | assumption) only [fa_lit, nLE, nLT, nEQ, nI_add, nSA, nSUB, pk_mul, nDIV, nREM, nCL, fa_and, nx_xor, fa_or, nSHL, nSHR, nUS, n31, n255, Nat.and_one_is_mod, b_I, b_V, b_L, not_or, Nat.not_lt_zero, Nat.not_le, Nat.not_lt, not_false_eq_true, true_and, and_true, false_or, or_false, Classical.not_not, if_true, if_false, if_pos, if_neg] <;> omega), b_L, if_pos (by simp (disch := first | omega | assumption) only [fa_lit, nLE, nLT, nEQ, nI_add, nSA, nSUB, pk_mul, nDIV, nREM, nCL, fa_and, nx_xor, fa_or, nSHL, nSHR, nUS, n31, n255, Nat.and_one_is_mod, b_I, b_V, b_L, not_or, Nat.not_lt_zero, Nat.not_le, Nat.not_lt, not_false_eq_true, true_and, and_true, false_or, or_false, Classical.not_not, if_true, if_false, if_pos, if_neg] <;> omega), b_L, show nI k + 1 = nI (k + 1) from nI_add k 1]
      · rw [gp_k, gp_k, q2 j]
        by_cases e1 : j = 408 + k
        · rw [if_pos e1, if_pos (by omega)]
        · rw [if_neg e1]
          by_cases e2 : j = 400 + k
          · rw [if_pos e2, if_pos (by omega)]
          · rw [if_neg e2]
            by_cases e3 : 400 ≤ j ∧ j < 400 + k ∨ 408 ≤ j ∧ j < 408 + k
            · rw [if_pos e3, if_pos (by omega)]
            · rw [if_neg e3, if_neg (by omega)]
    · intro m a hq
      refine ⟨a, ?_, hq⟩
      show fX12_begins_b184 1000 (fX12_begins_L184 1000 m) (nI 8) a = _
      unfold fX12_begins_b184
      rw [if_pos (by decide), b_L, b_L, b_L, b_L]
  obtain ⟨a, k1, k2, k3⟩ := key
  have G : gj [10] [22, 23] σ (g_put (g_put (g_put (g_put a 10 427 0) 10 428 0) 0 22 0) 0 23 0) := gj_trans k2 (gj_trans (gj_put _ _ _ (by simp) (by decide)) (gj_trans (gj_put _ _ _ (by simp) (by decide)) (gj_trans (gj_put0 _ _ (by simp)) (gj_put0 _ _ (by simp)))))
  have row : ∀ j, (g_put (g_put (g_put (g_put a 10 427 0) 10 428 0) 0 22 0) 0 23 0).1 10 j = if j = 427 ∨ j = 428 ∨ 400 ≤ j ∧ j < 416 then 0 else σ.1 10 j := by
    intro j
    rw [gp_o (by decide), gp_o (by decide), gp_k, gp_k, k3]
    by_cases e1 : j = 428
    · rw [if_pos e1, if_pos (by omega)]
    · rw [if_neg e1]
      by_cases e2 : j = 427
      · rw [if_pos e2, if_pos (by omega)]
      · rw [if_neg e2]
        by_cases e3 : 400 ≤ j ∧ j < 408 ∨ 408 ≤ j ∧ j < 416
        · rw [if_pos e3, if_pos (by omega)]
        · rw [if_neg e3, if_neg (by omega)]
  have hb := h
  refine ⟨_, k1, G, ⟨fun d t b hd ht hb hx => ?_, fun d hd => ?_, fun d hd hh => ?_, fun d hd => ?_, fun d hd => ?_, fun d hd => ?_, ?_, ?_, ?_, ?_, ?_, ?_, ?_, ?_, ?_, ?_, ?_, fun k hk => ?_⟩, by rw [gp_k, if_neg (by decide), gp_s], gp_s _ _ _ _⟩
  · rw [row, if_neg (by omega)]; exact h.byt d t b hd ht hb hx
  · rw [row, if_neg (by omega)]; exact h.how d hd
  · rw [row, if_neg (by omega)]; exact h.don d hd hh
  · rw [row, if_pos (by omega)]; rfl
  · rw [row, if_pos (by omega)]; rfl
  · rw [row, if_neg (by omega)]; exact h.md d hd
  · rw [row, if_neg (by omega)]; exact h.sp
  · rw [row, if_neg (by omega)]; exact h.di
  · rw [row, if_neg (by omega)]; exact h.nx
  · rw [row, if_pos (by omega)]; rfl
  · rw [row, if_pos (by omega)]; rfl
  · rw [row, if_neg (by omega)]; exact h.mds
  · rw [row, if_neg (by omega)]; exact h.op
  · rw [row, if_neg (by omega)]; exact h.ps
  · rw [row, if_neg (by omega)]; exact h.l0
  · rw [row, if_neg (by omega)]; exact h.l1
  · rw [row, if_neg (by omega)]; exact h.l2
  · rw [row, if_neg (by omega)]; exact h.lo k hk
theorem BO_base {B : Nat} {σX σM : gM} (h : BO B σX σM) : ∃ e g, e < 40 ∧ g < 40 ∧ σX.1 29 1 = nI e ∧ σM.1 0 21 = nI g ∧ σX.1 8 0 = 0 ∧ σM.1 9 0 = 0 := by
  rcases h with h | ⟨D, S, C, F, ⟨s, E, a, h', e, g, Hs, _, hI⟩, _⟩
  · exact ⟨0, 0, by omega, by omega, h.n1, h.m21, h.x8, h.m9⟩
  · have w7 := hI.xe.1.2.2.2.2.2.2
    refine ⟨(a + e) % 40, (a - h' + g) % 40, Nat.mod_lt _ (by decide), Nat.mod_lt _ (by decide), hI.hi.nx, hI.hi.fi, ?_, ?_⟩
    · rw [hI.xe.2.2.2.2 0 (by decide), lg_0 F w7]; rfl
    · rw [hI.me.2.2.2 0 (by decide), lg_0 F w7]; rfl
section OPS
variable {c : Nat} {σX σM : gM}
theorem o3t (h : Inv c σX σM) : ∃ (r : Int32) (τX τM : gM), fX11_takeShelf 1000 σX = some (r, τX) ∧ fX12_text 1000 0 σM = some (r, τM) ∧ Inv (c + 1) τX τM := by
  have h0 := Inv_00 h 0
  unfold fX11_takeShelf fX12_text fX12_text_b28
  rw [b_L]
  generalize g_put σM 0 0 0 = σ0 at *
  obtain ⟨σ1, τ1, f, k1, k2, k3, k4⟩ := J_fault0 h0
  rw [k1, b_I, isIn_0, b_I, if_neg n10, if_neg (show ¬ (0 : Int32) = 1 by decide), k2, b_I]
  by_cases cf : f = -1
  · rw [if_pos cf, if_pos cf, b_L, if_neg (show ¬ (0 : Int32) = 1 by decide)]
    rcases k4 with k4 | ⟨T, L, p, n, hd, R, V, hL, hb, hX, hM⟩
    · exact absurd cf k4
    obtain ⟨i1, i2, i3, i4⟩ := k3
    obtain ⟨e, g, he, hg, n1, m21, x8, m9⟩ := BO_base i4
    obtain ⟨b1, b2, b3, b4⟩ := hb
    have q0 := b3 0 (by decide)
    have q1 := b3 1 (by decide)
    have q2 := b3 2 (by decide)
    have q3 := b3 3 (by decide)
    have q4 := b3 4 (by decide)
    have q0 : 2 ≤ R 0 ∧ R 0 ≤ 6 := q0
    have q1 : 1 ≤ R 1 ∧ R 1 ≤ 12 := q1
    have q2 : 1 ≤ R 2 ∧ R 2 ≤ 4 := q2
    have q3 : 0 ≤ R 3 ∧ R 3 ≤ 3 := q3
    have q4 : 0 ≤ R 4 ∧ R 4 ≤ 9 := q4
    have hw : wfP (R 0) (R 1) (R 2) (R 3) := ⟨q0.1, q0.2, q1.1, q1.2, q2.1, q2.2, by omega⟩
    obtain ⟨x1, x2, x3, x4, x5, x6⟩ := hX
    obtain ⟨m1, m2, m3, m4, m5, m6⟩ := hM
    -- the class
    obtain ⟨σ2, t1, t2, t3, t4⟩ := X_take hw (x5 0 (by decide)) (x5 1 (by decide)) (x5 2 (by decide)) (x5 3 (by decide)) (x5 4 (by decide))
    obtain ⟨σ3, u1, u2, u3⟩ := X_fill (F := R 3) (by omega) (σ := σ2) (by rw [t4.1 8 (by simp)]; exact x8)
    have xr3 : XR (R 0) (R 1) (R 2) (R 3) σ3 := by unfold XR at *; rw [u3.1 5 (by simp)]; exact t2
    obtain ⟨σ4, v1, v2, v3⟩ := X_start (S := R 1) (C := R 2) (K := R 4) (σ := σ3) q2.2 xr3.2.1 (by rw [u3.1 5 (by simp)]; exact t3)
    have xe4 : XE (R 0) (R 1) (R 2) (R 3) σ4 := XE_fr ⟨hw, xr3, u2⟩ v2 (by simp) (by simp) (by simp) (by simp)
    have F4 : fr [5, 6, 7, 8, 11] σ1 σ4 := fr_trans (fr_mono t4 (by simp)) (fr_trans (fr_mono u3 (by simp)) (fr_mono v2 (by simp)))
    rw [t1, b_V, t2.2.2.2.1, u1, b_V, v1, b_V]
    -- the reference
    have hg1 : gj [] [2] τ1 (g_put τ1 0 2 0) := gj_put0 _ _ (by simp)
    obtain ⟨τ4, y1, y2, y3, y4⟩ := M_begin (K := R 4) (σ := g_put τ1 0 2 0) hw (by rw [gp_o (by decide)]; exact m5 0 (by decide)) (by rw [gp_o (by decide)]; exact m5 1 (by decide)) (by rw [gp_o (by decide)]; exact m5 2 (by decide)) (by rw [gp_o (by decide)]; exact m5 3 (by decide)) (by rw [gp_o (by decide)]; exact m5 4 (by decide)) (by rw [gp_o (by decide)]; exact m9)
    rw [y1]
    obtain ⟨s, σ5, τ5, KX, KM, l1, l2, l3, l4, l5, l6, l7, l8⟩ := J_writes (D := R 0) (S := R 1) (C := R 2) (F := R 3) b1 b4 n 0 1000 1000 (sh0 (R 1) (R 4)) σ4 τ4 (by omega) (by omega) (by omega) xe4 y2 (sh0_ok hw (by omega)) v3 y3 (by rw [F4.1 1 (by simp)]; exact x3) (by rw [y4.2.1 11 (by simp), gp_k, if_neg (by decide)]; exact m4) (by rw [F4.1 4 (by simp)]; exact x6) (by rw [y4.1 4 (by simp) (by decide), hg1.1 4 (by simp) (by decide)]; exact m6)
    rw [show fX11_takeShelf_L54 1000 1000 0 σ4 = _ from l1, show fX12_begins_L127 1000 1000 0 τ4 = _ from l2]
    unfold fX11_takeShelf_b54 fX12_begins_b127 fX10_byteCount
    have z7 : σ5.1 1 7 = nI n := by rw [l7.1 1 (by simp), F4.1 1 (by simp)]; exact x3
    have z11 : τ5.1 0 11 = nI n := by rw [l8.2.1 11 (by simp), y4.2.1 11 (by simp), gp_k, if_neg (by decide)]; exact m4
    have nn : nI n ≤ nI n := by rw [nLE _ _ (by omega) (by omega)]; omega
    rw [z7, b_I, if_pos nn, z11, if_pos nn]
    obtain ⟨σ6, p1, p2, p3⟩ := X_forgetC q2.2 l4
    obtain ⟨τ6, o1, o2', o3', o4', o5'⟩ := M_forgetC q2.2 l5
    have F6 : fr [5, 6, 7, 8, 11, 13] σ1 σ6 := fr_trans (fr_mono F4 (by simp)) (fr_trans (fr_mono l7 (by simp)) (fr_mono p2 (by simp)))
    rw [p1, b_V, o1, b_V]
    unfold fX2_forget fX3_forget fX10_cut
    rw [b_L, b_V, b_L, b_V, b_L, if_neg (show ¬ (0 : Int32) < 0 by decide)]
    have e11 : (g_put (g_put (g_put σ6 29 2 0) (25 + 2 * 0) 1 0) 0 15 0).1 1 1 = nI L := by rw [gp_o (by decide), gp_o (by decide), gp_o (by decide), F6.1 1 (by simp)]; exact x1.1
    rw [e11, if_pos (show (0 : Int32) ≤ nI L by rw [show (0 : Int32) = nI 0 from rfl, nLE _ _ (by omega) (by omega)]; omega), b_L, b_I]
    have FX0 : gj [1, 25, 29] [15] σ6 (g_put (g_put (g_put (g_put σ6 29 2 0) (25 + 2 * 0) 1 0) 0 15 0) 1 1 0) := gj_trans (gj_put _ _ _ (by simp) (by decide)) (gj_trans (gj_put _ _ _ (by simp) (by decide)) (gj_trans (gj_put0 _ _ (by simp)) (gj_put _ _ _ (by simp) (by decide))))
    have w29 : ∀ j, (g_put (g_put (g_put (g_put σ6 29 2 0) (25 + 2 * 0) 1 0) 0 15 0) 1 1 0).1 29 j = if j = 2 then 0 else σ6.1 29 j := fun j => by rw [gp_o (by decide), gp_o (by decide), gp_o (by decide), gp_k]
    have w25 : (g_put (g_put (g_put (g_put σ6 29 2 0) (25 + 2 * 0) 1 0) 0 15 0) 1 1 0).1 25 1 = 0 := by rw [gp_o (by decide), gp_o (by decide), gp_s]
    have w15 : (g_put (g_put (g_put (g_put σ6 29 2 0) (25 + 2 * 0) 1 0) 0 15 0) 1 1 0).1 0 15 = 0 := by rw [gp_o (by decide), gp_s]
    have w11 : (g_put (g_put (g_put (g_put σ6 29 2 0) (25 + 2 * 0) 1 0) 0 15 0) 1 1 0).1 1 1 = 0 := gp_s _ _ _ _
    generalize g_put (g_put (g_put (g_put σ6 29 2 0) (25 + 2 * 0) 1 0) 0 15 0) 1 1 0 = σ7 at *
    have xe7 : XE (R 0) (R 1) (R 2) (R 3) σ7 := XE_gj (XE_fr (XE_fr xe4 l7 (by simp) (by simp) (by simp) (by simp)) p2 (by simp) (by simp) (by simp) (by simp)) FX0 (by simp) (by simp) (by simp) (by simp)
    have me6 : ME (R 0) (R 1) (R 2) (R 3) τ6 := ME_gj (ME_gj y2 l8 (by simp) (by simp) (by simp) (by simp) (by simp)) o2' (by simp) (by simp) (by simp) (by simp) (by simp)
    rw [X_addresses xe7, b_I]
    refine ⟨_, σ7, τ6, rfl, by rw [me6.2.1.2.2.2.2.2], ?_⟩
    have FX : gj [1, 5, 6, 7, 8, 11, 13, 25, 29] [15] σ1 σ7 := gj_trans (gj_mono (gj_fr (J := []) F6 (by simp)) (by simp) (by simp)) (gj_mono FX0 (by simp) (by simp))
    have FM : gj [3, 8, 9, 10, 14, 15] [2, 13, 14, 22, 23, 26, 27, 28] τ1 τ6 := gj_trans (gj_mono hg1 (by simp) (by simp)) (gj_trans (gj_mono y4 (by simp) (by simp)) (gj_trans (gj_mono l8 (by simp) (by simp)) (gj_mono o2' (by simp) (by simp))))
    refine ⟨⟨0, fun _ => 0, by omega, w11, ?_, fun k hk => by omega⟩, SC_gj i2 FX FM (by decide) (by decide) (by decide) (by decide), ST_gj i3 FX FM (by decide) (by decide), Or.inr ⟨R 0, R 1, R 2, R 3, ⟨fg s, fun _ _ => 0, 0, 0, e, g, fun _ => fg s, by omega, ⟨xe7, me6, fg_ok l3, ?_, o3', ?_, ?_, ⟨by omega, by omega, ?_, ?_, ?_, o4', fun k k1 k2 => absurd k2 (by omega)⟩⟩⟩, Or.inl ⟨w15, o5'⟩⟩⟩
    · rw [o2'.2.1 2 (by simp), l8.2.1 2 (by simp), y4.2.1 2 (by simp), gp_s]; rfl
    · rw [FX0.1 11 (by simp) (by decide)]; exact p3
    · refine ⟨?_, fun i c' hi => by omega⟩
      show s.lo 0 = nI (min 0 60)
      rw [l6]; rfl
    · exact ⟨w25, fun k c' hk => by omega⟩
    · rw [w29, if_neg (by decide), F6.1 29 (by simp), n1, show (0 + e) % 40 = e by omega]
    · rw [w29, if_pos rfl]; rfl
    · rw [FM.2.1 21 (by simp), m21, show (0 - 0 + g) % 40 = g by omega]
  · rw [if_neg cf, if_neg cf]
    exact ⟨_, _, _, rfl, rfl, Inv_up k3⟩
theorem o3 (a1 : Int32) (h : Inv c σX σM) : ∃ (r : Int32) (τX τM : gM), fX11_text 1000 a1 σX = some (r, τX) ∧ fX12_text 1000 a1 σM = some (r, τM) ∧ Inv (c + 1) τX τM := by
  unfold fX11_text
  rcases J_01 a1 with rfl | rfl | ⟨n0, n1, e⟩
  · obtain ⟨r, τX, τM, k1, k2, k3⟩ := o3t h
    rw [if_pos rfl, k1, b_I]
    exact ⟨r, τX, τM, rfl, k2, k3⟩
  · obtain ⟨r, τX, τM, k1, k2, k3⟩ := o3s h
    rw [if_neg n10, if_pos rfl, k1, b_I]
    exact ⟨r, τX, τM, rfl, k2, k3⟩
  · unfold fX12_text
    rw [if_neg n0, if_neg n1, b_L, e, b_I, if_pos rfl]
    exact ⟨_, _, _, rfl, rfl, Inv_0 h 0⟩
end OPS
