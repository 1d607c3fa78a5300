/-! the face: told -/
def tv (F D : Nat) (s : Sh) (t b o u : Nat) : Nat → Nat := so F D (thx D s t (nI o) (nI u)) (vl D s t b (thx D s t (nI o) (nI u)))
/-- all roles but two are there -/
def pth (D : Nat) (s : Sh) (t i j : Nat) : Bool := bm (fun r => !th D s t r && !(decide (r = i) || decide (r = j))) (D + 2) == 0
theorem pth_r {D t i j : Nat} {s : Sh} : pth D s t i j = true ↔ ∀ r, r < D + 2 → r ≠ i → r ≠ j → th D s t r = true := by
  unfold pth
  rw [beq_iff_eq, bm_z]
  constructor
  · intro h r hr h1 h2
    have := h r hr
    simp [h1, h2] at this
    exact this
  · intro h r hr
    by_cases c1 : r = i
    · simp [c1]
    · by_cases c2 : r = j
      · simp [c2]
      · rw [h r hr c1 c2]; rfl
theorem pth_d {D t o u : Nat} {s : Sh} (h1 : D < 7) (h2 : 2 ≤ D) (ht : t < 12) (ho : o < D + 2) (hu : u < D + 2) : pth D s t (rl D t o) (rl D t u) = true ↔ ∀ d, d < D + 2 → d ≠ o → d ≠ u → t < s.don d := by
  rw [pth_r]
  constructor
  · intro h d hd n1 n2
    have hr := rl_ok D h1 h2 t ht d hd
    have hro := rl_ok D h1 h2 t ht o ho
    have hru := rl_ok D h1 h2 t ht u hu
    have := h (rl D t d) hr.1 (fun z => n1 (by rw [← hr.2, z, hro.2])) (fun z => n2 (by rw [← hr.2, z, hru.2]))
    unfold th at this
    rw [hr.2] at this
    simpa using this
  · intro h r hr n1 n2
    have hd := dk_ok D h1 h2 t ht r hr
    unfold th
    have := h (dk D t r) hd.1 (fun z => n1 (by rw [← z, hd.2])) (fun z => n2 (by rw [← z, hd.2]))
    simpa using this
/-- which roles are laid, two left out -/
theorem thx_is {D t i j r : Nat} {s : Sh} (h1 : D < 7) (h2 : 2 ≤ D) (ht : t < 12) (hi : i < D + 2) (hj : j < D + 2) (hp : pth D s t i j = true) (hr : r < D + 2) : (!thx D s t (nI (dk D t i)) (nI (dk D t j)) r) = (decide (r = i) || decide (r = j)) := by
  have hr' := dk_ok D h1 h2 t ht r hr
  have hi' := dk_ok D h1 h2 t ht i hi
  have hj' := dk_ok D h1 h2 t ht j hj
  unfold thx
  by_cases c1 : r = i
  · subst c1; simp
  · by_cases c2 : r = j
    · subst c2; simp
    · have n1 : nI (dk D t r) ≠ nI (dk D t i) := fun z => by
        rw [nEQ _ _ (by omega) (by omega)] at z
        exact c1 (by rw [← hr'.2, z, hi'.2])
      have n2 : nI (dk D t r) ≠ nI (dk D t j) := fun z => by
        rw [nEQ _ _ (by omega) (by omega)] at z
        exact c2 (by rw [← hr'.2, z, hj'.2])
      rw [pth_r.mp hp r hr c1 c2]
      simp [n1, n2, c1, c2]
theorem ct_2 (i j n : Nat) : ct (fun r => decide (r = i) || decide (r = j)) n ≤ 2 := by
  have a := ct_set (p := fun r => decide (r = j)) (d := i) n
  have b := ct_set (p := fun _ => false) (d := j) n
  have z : ∀ m, ct (fun _ => false) m = 0 := by
    intro m
    induction m with
    | zero => rfl
    | succ m ih => rw [ct, ih]; rfl
  have e : ct (fun r => decide (r = j) || (fun _ => false) r) n = ct (fun r => decide (r = j)) n := ct_ext fun k _ => by simp
  rw [e, z] at b
  have l1 : (if i < n then 1 else 0) ≤ 1 := by split <;> omega
  have l2 : (if j < n then 1 else 0) ≤ 1 := by split <;> omega
  omega
theorem thx_two {D t i j : Nat} {s : Sh} (h1 : D < 7) (h2 : 2 ≤ D) (ht : t < 12) (hi : i < D + 2) (hj : j < D + 2) (hp : pth D s t i j = true) : ct (fun r => !thx D s t (nI (dk D t i)) (nI (dk D t j)) r) (D + 2) ≤ 2 := by
  rw [ct_ext (fun r hr => thx_is h1 h2 ht hi hj hp hr)]
  exact ct_2 i j (D + 2)
theorem X_out {D t i j : Nat} {s : Sh} (hD : D < 7) (hi : i < D + 2) (hj : j < D + 2) : nI (bm (fun r => !th D s t r) (D + 2)) &&& ((nI (2 ^ i) ||| nI (2 ^ j)) ^^^ -1) = 0 ↔ pth D s t i j = true := by
  have hbl := bm_lt8 (p := fun r => !th D s t r && !(decide (r = i) || decide (r = j))) (show D + 2 ≤ 8 by omega)
  rw [fa_or, bm_one hi, bm_one hj, bm_or, nANDN, bm_not, show (0 : Int32) = nI 0 from rfl, nEQ _ _ (by omega) (by omega)]
  unfold pth
  rw [beq_iff_eq]
theorem X_gath {D S C F n i j t b : Nat} {s : Sh} {σ : gM} (hn : 20 ≤ n) (hE : XE D S C F σ) (hO : Ok D S C s) (hX : XS C s (σ.1 (11 + 5 * 0))) (ht : t < 12) (hb : b < C) (hi : i < D + 2) (hj : j < D + 2) (hp : pth D s t i j = true) :
    ∃ σ', fX5_gather n 0 0 (nI t) (nI b) (nI (2 ^ i) ||| nI (2 ^ j)) σ = some σ' ∧ XB D 0 (tv F D s t b (dk D t i) (dk D t j)) σ' ∧ fr [13] σ σ' := by
  obtain ⟨w1, w2, w3, w4, w5, w6, w7⟩ := hE.1
  have e : nI (2 ^ i) ||| nI (2 ^ j) = nI (bm (fun r => !thx D s t (nI (dk D t i)) (nI (dk D t j)) r) (D + 2)) := by
    rw [fa_or, bm_one hi, bm_one hj, bm_or, bm_ext (fun r hr => (thx_is (by omega) w1 ht hi hj hp hr).symm)]
  rw [e]
  exact X_gather hn hE hX hO.byt ht hb (fun r _ z => by unfold thx at z; simp only [Bool.and_eq_true] at z; exact z.1.1) (thx_two (by omega) w1 ht hi hj hp)
theorem M_told {D S C F n o u t b : Nat} {s : Sh} {σ : gM} (hn : 20 ≤ n) (hE : ME D S C F σ) (hO : Ok D S C s) (hX : MS C s (σ.1 10) 0) (ht : t < S) (hb : b < C) (ho : o < D + 2) (hu : u < D + 2) (hp : pth D s t (rl D t o) (rl D t u) = true) :
    ∃ σ1 σ', fX12_lays n 10 (nI t) (nI b) (nI o) (nI u) σ = some σ1 ∧ fX12_solves n σ1 = some σ' ∧ MV D (tv F D s t b o u) σ' ∧ fr [14, 15] σ σ' := by
  obtain ⟨w1, w2, w3, w4, w5, w6, w7⟩ := hE.1
  have ht12 : t < 12 := by omega
  have hro := rl_ok D (by omega) w1 t ht12 o ho
  have hru := rl_ok D (by omega) w1 t ht12 u hu
  obtain ⟨σ1, e1, V1, I1, f1⟩ := M_lays (x := nI o) (y := nI u) hn hE hO hX (by omega) (by omega) ht hb
  have hE1 := ME_fr hE f1 (by simp) (by simp) (by simp) (by simp)
  have h2 := thx_two (by omega) w1 ht12 hro.1 hru.1 hp
  rw [hro.2, hru.2] at h2
  obtain ⟨σ2, e2, V2, f2⟩ := M_solves hn hE1 V1 I1 (fun r _ => th_lt hO.byt r) (fun r _ z => vl_0 z) h2
  exact ⟨σ1, σ2, e1, e2, V2, fr_trans f1 (fr_mono f2 (by simp))⟩
theorem o28 {c : Nat} {σX σM : gM} (a1 a2 a3 a4 a5 : Int32) (h : Inv c σX σM) : ∃ (r : Int32) (τX τM : gM), fX11_told 1000 a1 a2 a3 a4 a5 σX = some (r, τX) ∧ fX12_told 1000 a1 a2 a3 a4 a5 σM = some (r, τM) ∧ Inv (c + 1) τX τM := by
  have h0 := Inv_0 h 0
  unfold fX11_told fX12_told
  rw [b_L]
  generalize g_put σM 0 0 0 = σ0 at *
  rcases Inv_cases h0 with hN | ⟨D, S, C, F, s, xe, me, ok, xs, ms⟩
  · rw [no_cell hN, b_I, if_pos rfl, noM_place hN, b_I, if_pos rfl]
    exact ⟨_, _, _, rfl, rfl, h0⟩
  · have hw := xe.1
    obtain ⟨w1, w2, w3, w4, w5, w6, w7⟩ := xe.1
    have xs0 : XS C s (σX.1 (11 + 5 * 0)) := xs
    rcases J_cell xe me a1 a2 a3 with ⟨d, t, b, hd, ht, hb, rfl, rfl, rfl⟩ | ⟨e1, e2⟩
    · rw [X_isCell_yes xe hd ht hb, b_I, if_neg n10, M_isPlace_yes me hd ht hb, b_I, if_neg n10]
      rcases J_disk xe me a4 with ⟨o, ho, rfl⟩ | ⟨e1, e2⟩
      · rw [X_isDisk_yes xe ho, b_I, if_neg n10, M_isDisk_yes me ho, b_I, if_neg n10]
        rcases J_disk xe me a5 with ⟨u, hu, rfl⟩ | ⟨e1, e2⟩
        · rw [X_isDisk_yes xe hu, b_I, if_neg n10, M_isDisk_yes me hu, b_I, if_neg n10]
          have ht12 : t < 12 := by omega
          have hro := rl_ok D (by omega) w1 t ht12 o ho
          have hru := rl_ok D (by omega) w1 t ht12 u hu
          have hrd := rl_ok D (by omega) w1 t ht12 d hd
          have core : ∃ (r : Int32) (τX τM : gM), fX11_told_b51 1000 (nI d) (nI t) (nI b) (nI o) (nI u) σX = some (r, τX) ∧ fX12_told_b47 1000 (nI d) (nI t) (nI b) (nI o) (nI u) σ0 = some (r, τM) ∧ Inv (c + 1) τX τM := by
            unfold fX11_told_b51 fX4_toldOf fX12_told_b47
            rw [X_partOn hw xe.2.1 ho ht12, b_I, X_partOn hw xe.2.1 hu ht12, b_I, X_missing (by omega) xe (Ok_don ok w4) xs0 ht12, b_I, sh1 (by omega), sh1 (by omega)]
            have xo := X_out (s := s) (t := t) (show D < 7 by omega) hro.1 hru.1
            by_cases hp : pth D s t (rl D t o) (rl D t u) = true
            · obtain ⟨X1, l1, B1, g1⟩ := X_gath (n := 1000) (by omega) xe ok xs0 ht12 hb hro.1 hru.1 hp
              have xe1 := XE_fr xe g1 (by simp) (by simp) (by simp) (by simp)
              obtain ⟨M1, M2, k1, k2, V2, f2⟩ := M_told (n := 1000) (by omega) me ok ms ht hb ho hu hp
              have me2 := ME_fr me f2 (by simp) (by simp) (by simp) (by simp)
              rw [hro.2, hru.2] at B1
              have hI : Inv (c + 1) X1 M2 := Inv_gk h0 (gj_fr (J := []) g1 (by simp)) (gj_fr (J := []) f2 (by simp)) (by decide) (by decide) (by decide) (by decide)
              have lpm : fX12_told_L50 1000 1000 (nI d) (nI t) (nI b) (nI o) (nI u) 0 σ0 = some (nI (tv F D s t b o u (rl D t d)), M2) := by
                refine lp (L := fun m k (_ : Unit) => fX12_told_L50 1000 m (nI d) (nI t) (nI b) (nI o) (nI u) (nI k) σ0) (I := fun _ _ => True) (Q := fun z => z = some (nI (tv F D s t b o u (rl D t d)), M2)) (N := D + 2) ?_ ?_ (D + 2) 1000 0 () (by omega) (by omega) trivial
                · intro m k _ hk _
                  have m5 := me.2.1.2.2.2.2.1
                  refine Or.inl ⟨(), ?_, trivial⟩
                  show fX12_told_b50 1000 (fX12_told_L50 1000 m) (nI d) (nI t) (nI b) (nI o) (nI u) (nI k) σ0 = _
                  unfold fX12_told_b50 fX12_told_b90
                  rw [m5, if_neg (by simp (disch := first | omega | assumption) only [fa_lit, nLE, nLT, nEQ, nI_add, nSA, nSUB, pk_mul, nDIV, nREM, nCL, fa_and, nx_xor, fa_or, nSHL, nSHR, nUS, n31, n255, Nat.and_one_is_mod, b_I, b_V, b_L, not_or, Nat.not_lt_zero, Nat.not_le, Nat.not_lt, not_false_eq_true, true_and, and_true, false_or, or_false, Classical.not_not, if_true, if_false, if_pos, if_neg] <;> omega), show nI k + 1 = nI (k + 1) from nI_add k 1]
                  by_cases y1 : k = o
                  · rw [if_pos (by rw [y1])]
                  · rw [if_neg (show ¬ nI k = nI o by rw [nEQ _ _ (by omega) (by omega)]; exact y1)]
                    by_cases y2 : k = u
                    · rw [if_pos (by rw [y2])]
                    · rw [if_neg (show ¬ nI k = nI u by rw [nEQ _ _ (by omega) (by omega)]; exact y2), M_isThere ok w4 ms (by omega) ht, b_I, if_pos ((pth_d (by omega) w1 ht12 ho hu).mp hp k hk y1 y2), if_neg (show ¬ nI 1 = 0 by decide)]
                · intro m _ _
                  have m5 := me.2.1.2.2.2.2.1
                  show fX12_told_b50 1000 (fX12_told_L50 1000 m) (nI d) (nI t) (nI b) (nI o) (nI u) (nI (D + 2)) σ0 = _
                  unfold fX12_told_b50
                  rw [m5, if_pos (by simp (disch := first | omega | assumption) only [fa_lit, nLE, nLT, nEQ, nI_add, nSA, nSUB, pk_mul, nDIV, nREM, nCL, fa_and, nx_xor, fa_or, nSHL, nSHR, nUS, n31, n255, Nat.and_one_is_mod, b_I, b_V, b_L, not_or, Nat.not_lt_zero, Nat.not_le, Nat.not_lt, not_false_eq_true, true_and, and_true, false_or, or_false, Classical.not_not, if_true, if_false, if_pos, if_neg] <;> omega), k1, b_V, k2, b_V, M_roleOf hw me2.2.1 hd ht12, b_I, nCL (by omega), if_pos (by simp (disch := first | omega | assumption) only [fa_lit, nLE, nLT, nEQ, nI_add, nSA, nSUB, pk_mul, nDIV, nREM, nCL, fa_and, nx_xor, fa_or, nSHL, nSHR, nUS, n31, n255, Nat.and_one_is_mod, b_I, b_V, b_L, not_or, Nat.not_lt_zero, Nat.not_le, Nat.not_lt, not_false_eq_true, true_and, and_true, false_or, or_false, Classical.not_not, if_true, if_false, if_pos, if_neg] <;> omega), V2 _ hrd.1]
              rw [if_pos (xo.mpr hp), l1, b_V, X_partOn hw xe1.2.1 hd ht12, b_I, X_rget (by omega), b_I, B1 _ hrd.1, b_I, lpm]
              exact ⟨_, _, _, rfl, rfl, hI⟩
            · have lpm : fX12_told_L50 1000 1000 (nI d) (nI t) (nI b) (nI o) (nI u) 0 σ0 = some (-1000000, σ0) := by
                refine lp (L := fun m k (_ : Unit) => fX12_told_L50 1000 m (nI d) (nI t) (nI b) (nI o) (nI u) (nI k) σ0) (I := fun k _ => ∀ e, e < k → e ≠ o → e ≠ u → t < s.don e) (Q := fun z => z = some (-1000000, σ0)) (N := D + 2) ?_ ?_ (D + 2) 1000 0 () (by omega) (by omega) (fun e he => absurd he (Nat.not_lt_zero _))
                · intro m k _ hk ha
                  have m5 := me.2.1.2.2.2.2.1
                  have nx : (k ≠ o → k ≠ u → t < s.don k) → ∀ e, e < k + 1 → e ≠ o → e ≠ u → t < s.don e := by
                    intro z e he n1 n2
                    by_cases q : e = k
                    · rw [q]; exact z (by rw [← q]; exact n1) (by rw [← q]; exact n2)
                    · exact ha e (by omega) n1 n2
                  show (∃ a', fX12_told_b50 1000 (fX12_told_L50 1000 m) (nI d) (nI t) (nI b) (nI o) (nI u) (nI k) σ0 = _ ∧ _) ∨ (fX12_told_b50 1000 (fX12_told_L50 1000 m) (nI d) (nI t) (nI b) (nI o) (nI u) (nI k) σ0 = _)
                  unfold fX12_told_b50 fX12_told_b90
                  rw [m5, if_neg (by simp (disch := first | omega | assumption) only [fa_lit, nLE, nLT, nEQ, nI_add, nSA, nSUB, pk_mul, nDIV, nREM, nCL, fa_and, nx_xor, fa_or, nSHL, nSHR, nUS, n31, n255, Nat.and_one_is_mod, b_I, b_V, b_L, not_or, Nat.not_lt_zero, Nat.not_le, Nat.not_lt, not_false_eq_true, true_and, and_true, false_or, or_false, Classical.not_not, if_true, if_false, if_pos, if_neg] <;> omega), show nI k + 1 = nI (k + 1) from nI_add k 1]
                  by_cases y1 : k = o
                  · rw [if_pos (by rw [y1])]
                    exact Or.inl ⟨(), rfl, nx (fun n1 _ => absurd y1 n1)⟩
                  · rw [if_neg (show ¬ nI k = nI o by rw [nEQ _ _ (by omega) (by omega)]; exact y1)]
                    by_cases y2 : k = u
                    · rw [if_pos (by rw [y2])]
                      exact Or.inl ⟨(), rfl, nx (fun _ n2 => absurd y2 n2)⟩
                    · rw [if_neg (show ¬ nI k = nI u by rw [nEQ _ _ (by omega) (by omega)]; exact y2), M_isThere ok w4 ms (by omega) ht, b_I]
                      by_cases y3 : t < s.don k
                      · rw [if_pos y3, if_neg (show ¬ nI 1 = 0 by decide)]
                        exact Or.inl ⟨(), rfl, nx (fun _ _ => y3)⟩
                      · rw [if_neg y3, if_pos (show nI 0 = 0 from rfl)]
                        exact Or.inr rfl
                · intro m _ ha
                  exact absurd ((pth_d (by omega) w1 ht12 ho hu).mpr ha) hp
              rw [if_neg (fun z => hp (xo.mp z)), b_I, lpm]
              exact ⟨_, _, _, rfl, rfl, h0⟩
          by_cases y1 : o = d
          · subst y1
            rw [if_pos rfl, if_pos rfl]
            exact core
          · have n1 : ¬ nI o = nI d := by rw [nEQ _ _ (by omega) (by omega)]; exact y1
            have n1' : ¬ nI d = nI o := fun z => n1 z.symm
            rw [if_neg n1, if_neg n1']
            by_cases y2 : u = d
            · subst y2
              rw [if_pos rfl, if_pos rfl]
              exact core
            · have n2 : ¬ nI u = nI d := by rw [nEQ _ _ (by omega) (by omega)]; exact y2
              have n2' : ¬ nI d = nI u := fun z => n2 z.symm
              rw [if_neg n2, if_neg n2']
              exact ⟨_, _, _, rfl, rfl, h0⟩
        · rw [e1, b_I, if_pos rfl, e2, b_I, if_pos rfl]
          exact ⟨_, _, _, rfl, rfl, h0⟩
      · rw [e1, b_I, if_pos rfl, e2, b_I, if_pos rfl]
        exact ⟨_, _, _, rfl, rfl, h0⟩
    · rw [e1, b_I, if_pos rfl, e2, b_I, if_pos rfl]
      exact ⟨_, _, _, rfl, rfl, h0⟩
