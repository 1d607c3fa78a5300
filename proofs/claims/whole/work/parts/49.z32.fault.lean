/-! what the face says of a text -/
theorem gj_gk {L J : List Nat} {σ τ : gM} (f : gk L J σ τ) (h0 : 0 ∉ L) : gj (1 :: L) [] σ τ :=
  ⟨fun p hp _ => f.1 p (fun q => hp (List.mem_cons_of_mem _ q)) (fun e => hp (by rw [e]; exact List.mem_cons_self)), fun k _ => by rw [f.1 0 h0 (by decide)], f.2.2⟩
theorem TP_XM {σX σM : gM} (h : TP σX σM) : ∃ L T, L ≤ 280 ∧ XT L T σX ∧ MT L T σM := by
  obtain ⟨L, T, h1, h2, h3, h4⟩ := h
  exact ⟨L, T, h1, ⟨h2, fun k hk => ⟨(h4 k hk).1, (h4 k hk).2.1, (h4 k hk).2.2.1⟩⟩, ⟨h3, fun k hk => ⟨(h4 k hk).1, (h4 k hk).2.1, (h4 k hk).2.2.2⟩⟩⟩
theorem TP_of {σX σM : gM} {L : Nat} {T : Nat → Nat} (hL : L ≤ 280) (h1 : XT L T σX) (h2 : MT L T σM) : TP σX σM := ⟨L, T, hL, h1.1, h2.1, fun k hk => ⟨(h1.2 k hk).1, (h1.2 k hk).2.1, (h1.2 k hk).2.2, (h2.2 k hk).2.2⟩⟩
section OPS
variable {c : Nat} {σX σM τX τM : gM}
theorem Inv_shelf (h : Inv c σX σM) (fX : gk [3, 4] [2, 3, 4, 7, 8] σX τX) (fM : gj [2, 4] [3, 4, 11] σM τM) : Inv c τX τM := by
  obtain ⟨h1, h2, h3, h4⟩ := h
  obtain ⟨L, T, t1, t2, t3⟩ := TP_XM h1
  have f := gj_gk fX (by simp)
  exact ⟨TP_of t1 (XT_gk t2 fX (by simp) (by simp)) (MT_gj t3 fM (by simp) (by simp)), SC_gj h2 f fM (by decide) (by decide) (by decide) (by decide), ST_gj h3 f fM (by decide) (by decide), BO_gj (Nat.le_refl _) h4 f fM (by decide) (by decide) (by decide) (by decide)⟩
theorem SC_sc (h : SC σX σM) (fX : gk [47, 48, 49] [2, 3, 4] σX τX) (fM : gj [6, 7] [3, 4] σM τM) (h6 : ∀ x, x < 320 → τM.1 6 x = σM.1 6 x) (h7 : ∀ x, x < 4 → τM.1 7 x = σM.1 7 x) : SC τX τM := by
  obtain ⟨m, a1, a2, a3, a4⟩ := h
  refine ⟨m, a1, by rw [fX.1 0 (by simp) (by decide)]; exact a2, by rw [fM.2.1 12 (by simp)]; exact a3, fun j hj => ?_⟩
  obtain ⟨z, b1, b2, b3, b4, b5⟩ := a4 j hj
  have e1 : τX.1 (35 + 3 * j) = σX.1 (35 + 3 * j) := fX.1 _ (by simp; omega) (by omega)
  have e2 : τX.1 (36 + 3 * j) = σX.1 (36 + 3 * j) := fX.1 _ (by simp; omega) (by omega)
  have e3 : τX.1 (37 + 3 * j) = σX.1 (37 + 3 * j) := fX.1 _ (by simp; omega) (by omega)
  refine ⟨z, b1, b2, by rw [e1]; exact b3, by rw [h7 j (by omega)]; exact b4, fun i hi => ?_⟩
  obtain ⟨k, c1, c2, c3, c4⟩ := b5 i hi
  exact ⟨k, c1, by rw [e2]; exact c2, by rw [h6 _ (by omega)]; exact c3, fun q hq => by rw [h6 _ (by omega), e3]; exact c4 q hq⟩
theorem Inv_script (h : Inv c σX σM) (fX : gk [47, 48, 49] [2, 3, 4] σX τX) (fM : gj [6, 7] [3, 4] σM τM) (h6 : ∀ x, x < 320 → τM.1 6 x = σM.1 6 x) (h7 : ∀ x, x < 4 → τM.1 7 x = σM.1 7 x) : Inv c τX τM := by
  obtain ⟨h1, h2, h3, h4⟩ := h
  obtain ⟨L, T, t1, t2, t3⟩ := TP_XM h1
  have f := gj_gk fX (by simp)
  exact ⟨TP_of t1 (XT_gk t2 fX (by simp) (by simp)) (MT_gj t3 fM (by simp) (by simp)), SC_sc h2 fX fM h6 h7, ST_gj h3 f fM (by decide) (by decide), BO_gj (Nat.le_refl _) h4 f fM (by decide) (by decide) (by decide) (by decide)⟩
theorem Inv_00 (h : Inv c σX σM) (x : Int32) : Inv c σX (g_put σM 0 0 x) := Inv_gk h (gj_refl [] [] _) (gj_put0 (L := []) (J := [0]) _ _ (by simp)) (by decide) (by decide) (by decide) (by decide)
theorem Inv_up (h : Inv c σX σM) : Inv (c + 1) σX σM := Inv_gj h (gj_refl [] [] _) (gj_refl [] [] _) (by decide) (by decide) (by decide) (by decide)
theorem J_01 (v : Int32) : v = 0 ∨ v = 1 ∨ (¬ v = 0 ∧ ¬ v = 1 ∧ ∀ σ, fX12_isIn v.toInt64 0 1 σ = some (0, σ)) := by
  rcases i_rng v (N := 2) (by omega) with q | q | ⟨k, hk, e⟩
  · refine Or.inr (Or.inr ⟨?_, ?_, fun σ => by rw [l_0, l_1]; exact M_isIn_lo q (by omega) σ⟩)
    · intro e; rw [e] at q; exact absurd q (by decide)
    · intro e; rw [e] at q; exact absurd q (by decide)
  · refine Or.inr (Or.inr ⟨?_, ?_, fun σ => by rw [l_0, l_1]; exact M_isIn_hi q.2 (by omega) σ⟩)
    · intro e; rw [e] at q; exact absurd q.2 (by decide)
    · intro e; rw [e] at q; exact absurd q.2 (by decide)
  · rcases (show k = 0 ∨ k = 1 by omega) with rfl | rfl
    · exact Or.inl e
    · exact Or.inr (Or.inl e)
theorem isIn_0 (σ : gM) : fX12_isIn (0 : Int32).toInt64 0 1 σ = some (1, σ) := M_isIn_yes (k := 0) (a := 0) (b := 1) (by omega) (by omega) (by omega) σ
theorem isIn_1 (σ : gM) : fX12_isIn (1 : Int32).toInt64 0 1 σ = some (1, σ) := M_isIn_yes (k := 1) (a := 0) (b := 1) (by omega) (by omega) (by omega) σ
theorem J_fault0 (h : Inv c σX σM) : ∃ τX τM f, fX10_shelfFault 1000 σX = some (f, τX) ∧ fX12_fault 1000 0 σM = some (f, τM) ∧ Inv c τX τM ∧ (f ≠ -1 ∨ ∃ T L p n hd R V, L ≤ 280 ∧ RB n hd R V ∧ RX T L p n hd R V τX ∧ RM T L p n R V τM) := by
  have h0 := Inv_00 h 0
  unfold fX12_fault fX12_fault_b43
  rw [b_L]
  generalize g_put σM 0 0 0 = σ0 at *
  obtain ⟨L, T, t1, t2, t3⟩ := TP_XM h0.1
  obtain ⟨τX, τM, f, k1, k2, k3, k4, k5, k6⟩ := J_shelfFault t1 t2 t3
  rw [b_L, b_L] at k4
  rw [isIn_0, b_I, if_neg n10, b_L, b_L, if_pos rfl, k4, b_V, k5]
  refine ⟨τX, τM, f, k3, rfl, Inv_shelf h0 k1 k2, ?_⟩
  rcases k6 with k6 | ⟨p, n, hd, R, V, l1, l2, l3⟩
  · exact Or.inl k6
  · exact Or.inr ⟨T, L, p, n, hd, R, V, t1, l1, l2, l3⟩
theorem J_fault1 (h : Inv c σX σM) : ∃ τX τM f, fX10_scriptFault 1000 σX = some (f, τX) ∧ fX12_fault 1000 1 σM = some (f, τM) ∧ Inv c τX τM ∧ (f ≠ -1 ∨ SP 4 τX τM) ∧ gk [47, 48, 49] [2, 3, 4] σX τX ∧ gj [6, 7] [0, 3, 4] σM τM := by
  have h0 := Inv_00 h 0
  have g0 : gj [6, 7] [0, 3, 4] σM (g_put σM 0 0 0) := gj_put0 _ _ (by simp)
  unfold fX12_fault fX12_fault_b43
  rw [b_L]
  generalize g_put σM 0 0 0 = σ0 at *
  obtain ⟨L, T, t1, t2, t3⟩ := TP_XM h0.1
  obtain ⟨τX, τM, f, k1, k2, k3, k4, k5, k6, k7, k8⟩ := J_scriptFault t1 t2 t3
  rw [b_L, b_L] at k6
  rw [isIn_1, b_I, if_neg n10, b_L, b_L, if_neg n10, k6, b_V, k7]
  exact ⟨τX, τM, f, k5, rfl, Inv_script h0 k1 k2 k3 k4, k8, k1, gj_trans g0 (gj_mono k2 (by simp) (by simp))⟩
theorem o2 (a1 : Int32) (h : Inv c σX σM) : ∃ (r : Int32) (τX τM : gM), fX11_fault 1000 a1 σX = some (r, τX) ∧ fX12_fault 1000 a1 σM = some (r, τM) ∧ Inv (c + 1) τX τM := by
  unfold fX11_fault
  rcases J_01 a1 with rfl | rfl | ⟨n0, n1, e⟩
  · obtain ⟨τX, τM, f, k1, k2, k3, _⟩ := J_fault0 h
    rw [if_pos rfl, k1, b_I]
    exact ⟨f, τX, τM, rfl, k2, Inv_up k3⟩
  · obtain ⟨τX, τM, f, k1, k2, k3, _⟩ := J_fault1 h
    rw [if_neg n10, if_pos rfl, k1, b_I]
    exact ⟨f, τX, τM, rfl, k2, Inv_up k3⟩
  · unfold fX12_fault
    rw [if_neg n0, if_neg n1, b_L, e, b_I, if_pos rfl]
    exact ⟨_, _, _, rfl, rfl, Inv_0 h 0⟩
end OPS
