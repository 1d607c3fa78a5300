/-! the face: first -/
def nbS (s : Sh) (k : Nat) (o : Option Nat) : Option Nat := match o with
  | none => some k
  | some b => if s.don k ≤ s.don b then some b else some k
def nb (s : Sh) : Nat → Option Nat
  | 0 => none
  | k + 1 => if s.how k = 2 then nbS s k (nb s k) else nb s k
def bOf : Option Nat → Int32
  | none => -1
  | some b => nI b
theorem nb_ok {s : Sh} : ∀ (k b : Nat), nb s k = some b → b < k ∧ s.how b = 2
  | 0, b, h => by cases h
  | k + 1, b, h => by
    rw [nb] at h
    by_cases c : s.how k = 2
    · rw [if_pos c] at h
      cases hq : nb s k with
      | none =>
        rw [hq] at h
        have : k = b := by
          have h' : some k = some b := h
          injection h'
        subst this
        exact ⟨by omega, c⟩
      | some b0 =>
        rw [hq] at h
        have h' : (if s.don k ≤ s.don b0 then some b0 else some k) = some b := h
        by_cases y : s.don k ≤ s.don b0
        · rw [if_pos y] at h'
          have : b0 = b := by injection h'
          subst this
          have := nb_ok k b0 hq
          exact ⟨by omega, this.2⟩
        · rw [if_neg y] at h'
          have : k = b := by injection h'
          subst this
          exact ⟨by omega, c⟩
    · rw [if_neg c] at h
      have := nb_ok k b h
      exact ⟨by omega, this.2⟩
theorem o37 {c : Nat} {σX σM : gM} (a1 : Int32) (h : Inv c σX σM) : ∃ (r : Int32) (τX τM : gM), fX11_first 1000 a1 σX = some (r, τX) ∧ fX12_first 1000 a1 σM = some (r, τM) ∧ Inv (c + 1) τX τM := by
  have h0 := Inv_0 h 0
  unfold fX11_first fX12_first
  rw [b_L]
  generalize g_put σM 0 0 0 = σ0 at *
  rcases Inv_cases h0 with hN | ⟨D, S, C, F, s, xe, me, ok, xs, ms⟩
  · rw [no_pres hN, b_I, if_pos rfl, if_pos hN.m14]
    exact ⟨_, _, _, rfl, rfl, h0⟩
  · obtain ⟨w1, w2, w3, w4, w5, w6, w7⟩ := xe.1
    obtain ⟨x0, x1, x2, x3, x5, x6, x7, x8, x9⟩ := xe.2.1
    obtain ⟨m0, m1, m2, m3, m5, m6⟩ := me.2.1
    have xs0 : XS C s (σX.1 (11 + 5 * 0)) := xs
    have donS : ∀ d, d < 8 → s.don d ≤ S := by
      intro d hd
      have := ok.how d hd
      have := ok.h0 d hd
      have := ok.h1 d hd
      have := ok.h2 d hd
      omega
    have lo : ∀ d, d < 8 → fX4_stripesLeftOf (nI d) σX = some (nI (S - s.don d), σX) := by
      intro d hd
      unfold fX4_stripesLeftOf
      rw [show (104 : Int32) + nI d = nI (104 + d) from nI_add 104 d, X_get (by omega), b_I, xs0.don d hd, x1, nSUB (donS d hd)]
    -- the class, to the end of its loop
    have eX : fX4_nearestWhole 1000 a1 σX = (if bOf (nb s (D + 2)) = -1 then some (bOf (nb s (D + 2)), σX) else if a1 = 0 then some (bOf (nb s (D + 2)), σX) else if a1 = 1 then g_bI (fX4_stripesLeftOf (bOf (nb s (D + 2))) σX) (fun r40 σ39 => some (r40, σ39)) else if a1 = 2 then g_bI (fX4_readsTillWhole 1000 (bOf (nb s (D + 2))) 0 σX) (fun r37 σ36 => some (r37, σ36)) else some (-1, σX)) := by
      unfold fX4_nearestWhole
      refine lp (L := fun m k (_ : Unit) => fX4_nearestWhole_L4 1000 m a1 (bOf (nb s k)) (nI k) σX) (I := fun _ _ => True) (Q := fun o => o = (if bOf (nb s (D + 2)) = -1 then some (bOf (nb s (D + 2)), σX) else if a1 = 0 then some (bOf (nb s (D + 2)), σX) else if a1 = 1 then g_bI (fX4_stripesLeftOf (bOf (nb s (D + 2))) σX) (fun r40 σ39 => some (r40, σ39)) else if a1 = 2 then g_bI (fX4_readsTillWhole 1000 (bOf (nb s (D + 2))) 0 σX) (fun r37 σ36 => some (r37, σ36)) else some (-1, σX))) (N := D + 2) ?_ ?_ (D + 2) 1000 0 () (by omega) (by omega) trivial
      · intro m k _ hk _
        refine Or.inl ⟨(), ?_, trivial⟩
        show fX4_nearestWhole_b4 1000 (fX4_nearestWhole_L4 1000 m) a1 (bOf (nb s k)) (nI k) σX = fX4_nearestWhole_L4 1000 m a1 (bOf (nb s (k + 1))) (nI (k + 1)) σX
        unfold fX4_nearestWhole_b4 fX4_nearestWhole_b33 fX4_nearestWhole_b38 fX4_nearestWhole_b59
        have n1 : ¬ nI (D + 2) ≤ nI k := by rw [nLE _ _ (by omega) (by omega)]; omega
        have es : fX8_stands 0 (nI k) 2 σX = some (nI (if s.how k = 2 then 1 else 0), σX) := X_stands (x := 2) xs0 (ok.how k (by omega)) (by omega) (by omega)
        rw [x5, if_neg n1, show nI k + 1 = nI (k + 1) from nI_add k 1, nb]
        cases hq : nb s k with
        | none =>
          rw [show bOf none = -1 from rfl, if_pos rfl, es, b_I]
          by_cases y : s.how k = 2
          · rw [if_pos y, if_neg (show ¬ nI 1 = 0 by decide), if_neg n10, if_pos y]
            rfl
          · rw [if_neg y, if_pos (show nI 0 = 0 from rfl), if_neg y]
            rfl
        | some b =>
          have hb := nb_ok k b hq
          have db := donS b (by omega)
          have dk' := donS k (by omega)
          rw [show bOf (some b) = nI b from rfl, if_neg (nM1 (by omega)), lo k (by omega), b_I, lo b (by omega), b_I]
          show (if nI (S - s.don b) ≤ nI (S - s.don k) then _ else _) = fX4_nearestWhole_L4 1000 m a1 (bOf (if s.how k = 2 then (if s.don k ≤ s.don b then some b else some k) else some b)) (nI (k + 1)) σX
          by_cases z : s.don k ≤ s.don b
          · have z' : nI (S - s.don b) ≤ nI (S - s.don k) := by rw [nLE _ _ (by omega) (by omega)]; omega
            rw [if_pos z', if_pos z, es, b_I]
            by_cases y : s.how k = 2
            · rw [if_pos y, if_neg (show ¬ nI 1 = 0 by decide), if_pos (show (0 : Int32) = 0 from rfl), if_pos y]
              rfl
            · rw [if_neg y, if_pos (show nI 0 = 0 from rfl), if_neg y]
              rfl
          · have z' : ¬ nI (S - s.don b) ≤ nI (S - s.don k) := by rw [nLE _ _ (by omega) (by omega)]; omega
            rw [if_neg z', if_neg z, es, b_I]
            by_cases y : s.how k = 2
            · rw [if_pos y, if_neg (show ¬ nI 1 = 0 by decide), if_neg n10, if_pos y]
              rfl
            · rw [if_neg y, if_pos (show nI 0 = 0 from rfl), if_neg y]
              rfl
      · intro m _ _
        show fX4_nearestWhole_b4 1000 (fX4_nearestWhole_L4 1000 m) a1 (bOf (nb s (D + 2))) (nI (D + 2)) σX = _
        unfold fX4_nearestWhole_b4 fX4_nearestWhole_b74
        have n1 : nI (D + 2) ≤ nI (D + 2) := by rw [nLE _ _ (by omega) (by omega)]; omega
        rw [x5, if_pos n1]
    have eM : fX12_first_L30 1000 1000 a1 (-1) 0 σ0 = (if bOf (nb s (D + 2)) = -1 then some (bOf (nb s (D + 2)), σ0) else if a1 = 0 then some (bOf (nb s (D + 2)), σ0) else if a1 = 1 then (if ¬ ((392 + bOf (nb s (D + 2))) < 0 ∨ 616 ≤ (392 + bOf (nb s (D + 2))).toNatClampNeg) then (some ((σ0.1 3 1) - (σ0.1 10 ((392 + bOf (nb s (D + 2))).toNatClampNeg)), σ0)) else none) else g_bV (fX12_copyRow 1000 10 616 11 616 0 0 σ0) (fun σ34 => fX12_first_L135 1000 1000 (bOf (nb s (D + 2))) σ34)) := by
      refine lp (L := fun m k (_ : Unit) => fX12_first_L30 1000 m a1 (bOf (nb s k)) (nI k) σ0) (I := fun _ _ => True) (Q := fun o => o = (if bOf (nb s (D + 2)) = -1 then some (bOf (nb s (D + 2)), σ0) else if a1 = 0 then some (bOf (nb s (D + 2)), σ0) else if a1 = 1 then (if ¬ ((392 + bOf (nb s (D + 2))) < 0 ∨ 616 ≤ (392 + bOf (nb s (D + 2))).toNatClampNeg) then (some ((σ0.1 3 1) - (σ0.1 10 ((392 + bOf (nb s (D + 2))).toNatClampNeg)), σ0)) else none) else g_bV (fX12_copyRow 1000 10 616 11 616 0 0 σ0) (fun σ34 => fX12_first_L135 1000 1000 (bOf (nb s (D + 2))) σ34))) (N := D + 2) ?_ ?_ (D + 2) 1000 0 () (by omega) (by omega) trivial
      · intro m k _ hk _
        refine Or.inl ⟨(), ?_, trivial⟩
        show fX12_first_b30 1000 (fX12_first_L30 1000 m) a1 (bOf (nb s k)) (nI k) σ0 = fX12_first_L30 1000 m a1 (bOf (nb s (k + 1))) (nI (k + 1)) σ0
        unfold fX12_first_b30 fX12_first_b80 fX12_first_b82
        have n1 : ¬ nI (D + 2) ≤ nI k := by rw [nLE _ _ (by omega) (by omega)]; omega
        have eh := ms.how k (by omega)
        rw [Nat.zero_add] at eh
        have hhk := ok.how k (by omega)
        have c0 : ¬ (nI (384 + k) < 0 ∨ 616 ≤ 384 + k) := by rw [show (0 : Int32) = nI 0 from rfl, nLT _ _ (by omega) (by omega)]; omega
        have c1 : ∀ e, e < 8 → ¬ (nI (392 + e) < 0 ∨ 616 ≤ 392 + e) := fun e he => by rw [show (0 : Int32) = nI 0 from rfl, nLT _ _ (by omega) (by omega)]; omega
        rw [m5, if_neg n1, show (384 : Int32) + nI k = nI (384 + k) from nI_add 384 k, nCL (by omega), if_pos c0, eh, show nI k + 1 = nI (k + 1) from nI_add k 1, nb]
        by_cases y : s.how k = 2
        · have ed := ms.don k (by omega) (by omega)
          rw [Nat.zero_add] at ed
          rw [if_pos (show nI (s.how k) = 2 by rw [y]; rfl), if_pos y]
          cases hq : nb s k with
          | none =>
            rw [show bOf none = -1 from rfl, if_pos rfl]
            rfl
          | some b =>
            have hb := nb_ok k b hq
            have eb := ms.don b (by omega) (by omega)
            rw [Nat.zero_add] at eb
            have db := donS b (by omega)
            have dk' := donS k (by omega)
            rw [show bOf (some b) = nI b from rfl, if_neg (nM1 (by omega)), show (392 : Int32) + nI k = nI (392 + k) from nI_add 392 k, show (392 : Int32) + nI b = nI (392 + b) from nI_add 392 b, nCL (by omega), nCL (by omega), if_pos (c1 k (by omega)), if_pos (c1 b (by omega)), ed, eb]
            show _ = fX12_first_L30 1000 m a1 (bOf (if s.don k ≤ s.don b then some b else some k)) (nI (k + 1)) σ0
            by_cases z : s.don k ≤ s.don b
            · rw [if_pos (show nI (s.don k) ≤ nI (s.don b) by rw [nLE _ _ (by omega) (by omega)]; exact z), if_pos z]
              rfl
            · rw [if_neg (show ¬ nI (s.don k) ≤ nI (s.don b) by rw [nLE _ _ (by omega) (by omega)]; exact z), if_neg z]
              rfl
        · rw [if_neg (show ¬ nI (s.how k) = 2 by rw [show (2 : Int32) = nI 2 from rfl, nEQ _ _ (by omega) (by omega)]; exact y), if_neg y]
      · intro m _ _
        show fX12_first_b30 1000 (fX12_first_L30 1000 m) a1 (bOf (nb s (D + 2))) (nI (D + 2)) σ0 = _
        unfold fX12_first_b30 fX12_first_b97
        have n1 : nI (D + 2) ≤ nI (D + 2) := by rw [nLE _ _ (by omega) (by omega)]; omega
        rw [m5, if_pos n1]
    rw [hP55 xe, b_I, if_neg n10, eX, if_neg (hA14 me)]
    cases hq : nb s (D + 2) with
    | none =>
      rw [hq] at eM
      rw [show bOf none = -1 from rfl] at eM ⊢
      rw [if_pos rfl, b_I]
      rw [if_pos rfl] at eM
      rcases J_02 a1 with ⟨x, hx, rfl⟩ | ⟨q, e⟩
      · rw [l_0, l_2, M_isIn_yes (by omega) (by omega) (by omega), b_I, if_neg n10, eM]
        exact ⟨_, _, _, rfl, rfl, h0⟩
      · rw [e, b_I, if_pos rfl]
        exact ⟨_, _, _, rfl, rfl, h0⟩
    | some b =>
      have hb := nb_ok (D + 2) b hq
      have db := donS b (by omega)
      have nb1 : ¬ nI b = -1 := nM1 (by omega)
      rw [hq] at eM
      rw [show bOf (some b) = nI b from rfl] at eM ⊢
      rw [if_neg nb1]
      rw [if_neg nb1] at eM
      rcases J_02 a1 with ⟨x, hx, rfl⟩ | ⟨q, e⟩
      · rw [l_0, l_2, M_isIn_yes (by omega) (by omega) (by omega), b_I, if_neg n10, eM]
        rcases (show x = 0 ∨ x = 1 ∨ x = 2 by omega) with rfl | rfl | rfl
        · rw [if_pos (show nI 0 = 0 from rfl), if_pos (show nI 0 = 0 from rfl), b_I]
          exact ⟨_, _, _, rfl, rfl, h0⟩
        · have eb := ms.don b (by omega) (by omega)
          rw [Nat.zero_add] at eb
          have c1 : ¬ (nI (392 + b) < 0 ∨ 616 ≤ 392 + b) := by rw [show (0 : Int32) = nI 0 from rfl, nLT _ _ (by omega) (by omega)]; omega
          rw [if_neg (show ¬ nI 1 = 0 by decide), if_neg (show ¬ nI 1 = 0 by decide), if_pos (show nI 1 = 1 from rfl), if_pos (show nI 1 = 1 from rfl), lo b (by omega), b_I, b_I, show (392 : Int32) + nI b = nI (392 + b) from nI_add 392 b, nCL (by omega), if_pos c1, eb, m1, nSUB db]
          exact ⟨_, _, _, rfl, rfl, h0⟩
        · obtain ⟨M1, c1, c2, c3, c4⟩ := M_copyRow (n := 1000) (w := 10) (nw := 616) (u := 11) (nu := 616) (f := 0) (t := 0) (σ := σ0) (by omega) (by decide) (by omega) (by omega) (by omega) (by omega)
          have ms1 : MS C s (M1.1 11) 0 := MS_copy w6 ms (fun k hk => c2 k hk)
          have me1 := ME_fr me c4 (by simp) (by simp) (by simp) (by simp)
          obtain ⟨M2, k1, k2, k3⟩ := M_whole2 me1 ok ms1 (show b < D + 2 by omega) hb.2
          have FM : fr [11, 14, 15] σ0 M2 := fr_trans (fr_mono c4 (by simp)) k3
          have hI : Inv (c + 1) σX M2 := Inv_gk h0 (gj_refl [] [] _) (gj_fr (J := []) FM (by simp)) (by decide) (by decide) (by decide) (by decide)
          have r1 := k2.rds
          rw [Nat.zero_add, rbK_rd, rbN_rd (by omega) w1 w4 rfl _ (by omega)] at r1
          have r0 : M2.1 10 427 = nI (s8 s.rd) := by
            rw [FM.1 10 (by simp)]
            have := ms.rds
            rw [Nat.zero_add] at this
            exact this
          have er := X_tillWhole (wb := fun _ => false) xe ok xs0 (show b < D + 2 by omega) db
          rw [bm_z.mpr (fun _ _ => rfl)] at er
          rw [if_neg (show ¬ nI 2 = 0 by decide), if_neg (show ¬ nI 2 = 0 by decide), if_neg (show ¬ nI 2 = 1 by decide), if_neg (show ¬ nI 2 = 1 by decide), if_pos (show nI 2 = 2 from rfl), show fX4_readsTillWhole 1000 (nI b) 0 σX = _ from er, b_I, b_I, show (fX12_copyRow 1000 10 616 11 616 0 0 σ0) = some M1 from c1, b_V, k1, r1, r0, nSUB (by omega), Nat.add_sub_cancel_left]
          exact ⟨_, _, _, rfl, rfl, hI⟩
      · rw [if_neg (show ¬ a1 = 0 from no3 q (k := 0) (by omega)), if_neg (show ¬ a1 = 1 from no3 q (k := 1) (by omega)), if_neg (show ¬ a1 = 2 from no3 q (k := 2) (by omega)), b_I, e, b_I, if_pos rfl]
        exact ⟨_, _, _, rfl, rfl, h0⟩
