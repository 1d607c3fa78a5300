/-! the face: checked -/
theorem wrg_ext {F D : Nat} {v w : Nat → Nat} (h : ∀ r, r < D + 2 → v r = w r) : wrg F D v = wrg F D w := by
  have e1 : wu D v = wu D w := by unfold wu; rw [h D (by omega), sp_ext fun r hr => h r (by omega)]
  have e2 : wv F D v = wv F D w := by unfold wv; rw [h (D + 1) (by omega), sq_ext fun r hr => h r (by omega)]
  unfold wrg
  rw [e1, e2]
theorem mnd_ext {F D r : Nat} {v w : Nat → Nat} (h : ∀ r, r < D + 2 → v r = w r) (hr : r < D + 2) : mnd F D v r = mnd F D w r := by
  have e1 : wu D v = wu D w := by unfold wu; rw [h D (by omega), sp_ext fun r hr => h r (by omega)]
  have e2 : wv F D v = wv F D w := by unfold wv; rw [h (D + 1) (by omega), sq_ext fun r hr => h r (by omega)]
  unfold mnd
  rw [e1, e2, h r hr]
theorem va_byt (D : Nat) (s : Sh) (t b r : Nat) : va D s t b r = s.byt (dk D t r) t b := rfl
theorem sB_va {F D t b' b r : Nat} {s : Sh} (h1 : D < 7) (h2 : 2 ≤ D) (ht : t < 12) (hr : r < D + 2) : va D (sB F D s t b') t b r = if b = b' ∧ wrg F D (va D s t b') = r then mnd F D (va D s t b') r else va D s t b r := by
  have hd := dk_ok D h1 h2 t ht r hr
  have hk := wrg_lt F D (va D s t b')
  rw [va_byt, va_byt]
  unfold sB
  by_cases c1 : wrg F D (va D s t b') = D + 3
  · rw [if_pos c1, if_neg (by omega)]; rfl
  · rw [if_neg c1]
    by_cases c2 : wrg F D (va D s t b') = D + 2
    · rw [if_pos c2, if_neg (by omega)]; rfl
    · rw [if_neg c2]
      show bs D t b' (fun r => decide (r = wrg F D (va D s t b'))) (ud (va D s t b') (wrg F D (va D s t b')) (mnd F D (va D s t b') (wrg F D (va D s t b')))) s.byt (dk D t r) t b = _
      unfold bs
      rw [hd.2]
      by_cases c3 : b = b' ∧ wrg F D (va D s t b') = r
      · rw [if_pos ⟨hd.1, rfl, c3.1, by simp [c3.2]⟩, if_pos c3, c3.2, ud_eq]
      · rw [if_neg (fun z => c3 ⟨z.2.2.1, by have := z.2.2.2; simp at this; exact this.symm⟩), if_neg c3]
theorem sC_va {F D t b : Nat} {s : Sh} (h1 : D < 7) (h2 : 2 ≤ D) (ht : t < 12) : ∀ (k : Nat) (r : Nat), r < D + 2 → va D (sC F D s t k) t b r = if b < k ∧ wrg F D (va D s t b) = r then mnd F D (va D s t b) r else va D s t b r
  | 0, r, hr => by rw [if_neg (by omega)]; rfl
  | k + 1, r, hr => by
    rw [sC, sB_va h1 h2 ht hr, sC_va h1 h2 ht k r hr]
    by_cases c : b = k
    · subst c
      have ex : ∀ r, r < D + 2 → va D (sC F D s t b) t b r = va D s t b r := by
        intro r hr
        rw [sC_va h1 h2 ht b r hr, if_neg (by omega)]
      rw [wrg_ext ex, mnd_ext ex hr]
      by_cases c2 : wrg F D (va D s t b) = r
      · rw [if_pos ⟨rfl, c2⟩, if_pos ⟨by omega, c2⟩]
      · rw [if_neg (fun z => c2 z.2), if_neg (fun z => c2 z.2), if_neg (fun z => c2 z.2)]
    · rw [if_neg (fun z => c z.1)]
      by_cases c2 : b < k ∧ wrg F D (va D s t b) = r
      · rw [if_pos c2, if_pos ⟨by omega, c2.2⟩]
      · rw [if_neg c2, if_neg (fun z => c2 ⟨by omega, z.2⟩)]
theorem gv_all {F D t b r : Nat} {s : Sh} (hT : ∀ r, r < D + 2 → th D s t r = true) (hr : r < D + 2) : gv F D s t b r = va D s t b r := by
  have h2 : ct (fun r => !th D s t r) (D + 2) ≤ 2 := by
    rw [ct_ext (q := fun _ => false) (fun k hk => by rw [hT k hk]; rfl)]
    have z : ∀ m, ct (fun _ => false) m = 0 := by
      intro m
      induction m with
      | zero => rfl
      | succ m ih => rw [ct, ih]; rfl
    rw [z]; omega
  unfold gv
  rw [so_is h2 (hT r hr), va_gv (F := F) (S := 0) (C := 0) hT r hr]
theorem o33 {c : Nat} {σX σM : gM} (a1 : Int32) (h : Inv c σX σM) : ∃ (r : Int32) (τX τM : gM), fX11_checked 1000 a1 σX = some (r, τX) ∧ fX12_checked 1000 a1 σM = some (r, τM) ∧ Inv (c + 1) τX τM := by
  have h0 := Inv_0 h 0
  unfold fX11_checked fX12_checked
  rw [b_L]
  generalize g_put σM 0 0 0 = σ0 at *
  rcases Inv_cases h0 with hN | ⟨D, S, C, F, s, xe, me, ok, xs, ms⟩
  · rw [no_addr hN, b_I, if_pos rfl, noM_addr hN, b_I, if_pos rfl]
    exact ⟨_, _, _, rfl, rfl, h0⟩
  · have hw := xe.1
    obtain ⟨w1, w2, w3, w4, w5, w6, w7⟩ := xe.1
    rcases J_addr xe me a1 with ⟨a, ha, rfl⟩ | ⟨e1, e2⟩
    · have ha' := ad_1000 w2 w4 w6 ha
      obtain ⟨at1, at2, at3⟩ := ad_lt w5 w1 ha
      have xs0 : XS C s (σX.1 (11 + 5 * 0)) := xs
      obtain ⟨X1, l1, B1, g1⟩ := X_byteRead (n := 1000) (i := 0) (by omega) xe ok xs0 ha
      have xe1 := XE_fr xe g1 (by simp) (by simp) (by simp) (by simp)
      have xs1 : XS C s (X1.1 (11 + 5 * 0)) := by rw [g1.1 (11 + 5 * 0) (by simp)]; exact xs
      obtain ⟨M1, c1, c2, c3, c4⟩ := M_copyRow (n := 1000) (w := 10) (nw := 616) (u := 11) (nu := 616) (f := 0) (t := 0) (σ := σ0) (by omega) (by decide) (by omega) (by omega) (by omega) (by omega)
      have me1 := ME_fr me c4 (by simp) (by simp) (by simp) (by simp)
      have ms1 : MS C s (M1.1 11) 0 := MS_copy w6 ms (fun k hk => c2 k hk)
      obtain ⟨M2, k1, k2, k3⟩ := M_scrubs (n := 1000) (w := 11) (t := a / C / D) (by omega) me1 ok (Ok_di ok w4) ms1 (by omega) (by omega) at1
      have me2 := ME_fr me1 k3 (by simp) (by simp) (by simp) (by simp)
      have ok2 : Ok D S C (sS F D C s (a / C / D)) := sS_ok (by omega) w1 w7 (by omega) ok
      obtain ⟨M3, j1, j2⟩ := M_reads (n := 1000) (w := 11) (by omega) me2 ok2 k2 (by omega) (by omega) ha
      have FM : fr [11, 14, 15] σ0 M3 := fr_trans (fr_mono c4 (by simp)) (fr_trans k3 (fr_mono j2 (by simp)))
      have hI : ∀ X2, fr [13] σX X2 → Inv (c + 1) X2 M3 := fun X2 f => Inv_gk h0 (gj_fr (J := []) f (by simp)) (gj_fr (J := []) FM (by simp)) (by decide) (by decide) (by decide) (by decide)
      unfold fX4_byteIfScrubbed fX4_byteIfScrubbed_b64
      rw [X_isAddress_yes xe ha, b_I, if_neg n10, X_partOf hw xe.2.1 ha', b_I, X_stripeOf hw xe.2.1 ha', b_I, l1, b_I, X_missing (by omega) xe1 (Ok_don ok w4) xs1 (by omega), b_I, X_isDirty xs1 (Ok_di ok w4) (by omega), b_I, M_isAddress_yes me ha, b_I, if_neg n10, show (0 : Int32) = nI 0 from rfl, c1, b_V, M_stripeOf hw me1.2.1 ha', b_I, k1, b_I, j1, b_I]
      generalize a / C / D = t at *
      generalize a / C % D = part at *
      generalize a % C = b at *
      have hbl := bm_lt8 (p := fun r => !th D s t r) (show D + 2 ≤ 8 by omega)
      have same : ¬ (alB D s t = true ∧ dtB s t = false) → gv F D (sS F D C s t) t b part = gv F D s t b part := by
        intro z
        unfold sS
        rw [if_neg z]
        rfl
      by_cases y1 : alB D s t = true
      · have e0 : bm (fun r => !th D s t r) (D + 2) = 0 := by unfold alB at y1; exact beq_iff_eq.mp y1
        have hT := al_r.mp y1
        rw [e0, if_pos (show nI 0 = nI 0 from rfl)]
        by_cases y2 : dtB s t = true
        · rw [if_pos y2, if_neg (show ¬ nI 1 = nI 0 by decide), b_I, same (fun z => by rw [y2] at z; exact absurd z.2 (by decide))]
          exact ⟨_, _, _, rfl, rfl, hI _ g1⟩
        · rw [if_neg y2, if_pos (show nI 0 = nI 0 from rfl)]
          have B2 : XB D 0 (va D s t b) X1 := XB_ext B1 (fun r hr => gv_all hT hr)
          have hv : ∀ r, r < D + 2 → va D s t b r < 256 := fun r _ => va_lt ok.byt r
          have hk := wrg_lt F D (va D s t b)
          have eS : sS F D C s t = sC F D s t C := by
            unfold sS
            rw [if_pos ⟨y1, Bool.eq_false_iff.mpr y2⟩]
          have hT' : ∀ r, r < D + 2 → th D (sC F D s t C) t r = true := by
            rw [th_don (sC_don F D s t C)]; exact hT
          have eg : gv F D (sS F D C s t) t b part = if wrg F D (va D s t b) = part then mnd F D (va D s t b) part else va D s t b part := by
            rw [eS, gv_all hT' (by omega), sC_va (by omega) w1 (by omega) C part (by omega)]
            by_cases z : wrg F D (va D s t b) = part
            · rw [if_pos ⟨at3, z⟩, if_pos z]
            · rw [if_neg (fun q => z q.2), if_neg z]
          rw [X_wrongPart (by omega) xe1 B2 hv, b_I, eg]
          by_cases y3 : wrg F D (va D s t b) = part
          · obtain ⟨X2, u1, u2, u3⟩ := X_mend (n := 1000) (i := 0) (r := part) (by omega) xe1 B2 hv (by omega)
            rw [y3, wI_pos (show part < D + 2 by omega), if_pos rfl, u1, b_V, X_rget (by omega), b_I, u2 part (by omega), ud_eq, b_I, if_pos rfl]
            exact ⟨_, _, _, rfl, rfl, hI _ (fr_trans g1 u3)⟩
          · have ne : ¬ wI D (wrg F D (va D s t b)) = nI part := by
              by_cases z : wrg F D (va D s t b) < D + 2
              · rw [wI_pos z, nEQ _ _ (by omega) (by omega)]; exact y3
              · intro q
                have := wI_neg hk z
                rw [q] at this
                apply this
                rw [show (0 : Int32) = nI 0 from rfl, nLE _ _ (by omega) (by omega)]
                omega
            rw [if_neg ne, b_I, if_neg y3, gv_all hT (by omega)]
            exact ⟨_, _, _, rfl, rfl, hI _ g1⟩
      · have e0 : ¬ bm (fun r => !th D s t r) (D + 2) = 0 := by
          intro z
          apply y1
          unfold alB
          rw [z]; rfl
        have y' : ¬ nI (bm (fun r => !th D s t r) (D + 2)) = nI 0 := by rw [nEQ _ _ (by omega) (by omega)]; exact e0
        rw [if_neg y', b_I, same (fun z => y1 z.1)]
        exact ⟨_, _, _, rfl, rfl, hI _ g1⟩
    · rw [e1, b_I, if_pos rfl, e2, b_I, if_pos rfl]
      exact ⟨_, _, _, rfl, rfl, h0⟩
