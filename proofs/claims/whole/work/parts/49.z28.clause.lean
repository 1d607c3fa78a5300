/-! reading of a shelf: one clause -/
def dfl (i : Nat) : Nat := ([3, 4, 2, 0, 1, 0, 1] : List Nat).getD i 0
theorem dfl_I : ∀ i, i < 7 → ([3, 4, 2, 0, 1, 0, 1] : List Int32).getD i 0 = nI (dfl i) := by decide
theorem X_useDef {a b : Nat} (hb : b < 7) (hab : a ≤ b) (σ : gM) : ∃ σ', fX10_useDefaults 1000 (nI a) (nI b) σ = some σ' ∧ gk [3] [] σ σ' ∧ (∀ i, (i < a ∨ b < i) → σ'.1 3 i = σ.1 3 i) ∧ ∀ i, a ≤ i → i ≤ b → σ'.1 3 i = nI (dfl i) := by
  unfold fX10_useDefaults
  rw [if_neg (show ¬ nI a < 0 by rw [show (0 : Int32) = nI 0 from rfl, nLT _ _ (by omega) (by omega)]; omega)]
  refine lp (L := fun m k (τ : gM) => fX10_useDefaults_L6 1000 m (nI b) (nI k) τ) (I := fun k τ => a ≤ k ∧ gk [3] [] σ τ ∧ (∀ i, (i < a ∨ k ≤ i) → τ.1 3 i = σ.1 3 i) ∧ ∀ i, a ≤ i → i < k → τ.1 3 i = nI (dfl i)) (Q := fun o => ∃ σ', o = some σ' ∧ gk [3] [] σ σ' ∧ (∀ i, (i < a ∨ b < i) → σ'.1 3 i = σ.1 3 i) ∧ ∀ i, a ≤ i → i ≤ b → σ'.1 3 i = nI (dfl i)) (N := b + 1) ?_ ?_ (b + 1 - a) 1000 a σ (by omega) (by omega) ⟨Nat.le_refl _, gk_refl _ _ _, fun _ _ => rfl, fun i h1 h2 => by omega⟩
  · intro m k τ hk hq
    obtain ⟨q0, q1, q2, q3⟩ := hq
    left
    refine ⟨g_put τ 3 k (nI (dfl k)), ?_, by omega, gk_trans q1 (gk_put _ _ _ (by simp) (by decide)), fun i hi => ?_, fun i h1 h2 => ?_⟩
    · show fX10_useDefaults_b6 1000 (fX10_useDefaults_L6 1000 m) (nI b) (nI k) τ = _
      unfold fX10_useDefaults_b6
      have y : ¬ (nI k < 0 ∨ 7 ≤ k) := by rw [show (0 : Int32) = nI 0 from rfl, nLT _ _ (by omega) (by omega)]; omega
      rw [if_neg (show ¬ nI b < nI k by rw [nLT _ _ (by omega) (by omega)]; omega), if_neg (show ¬ (7 : Int32) ≤ nI k by rw [show (7 : Int32) = nI 7 from rfl, nLE _ _ (by omega) (by omega)]; omega), nCL (by omega), if_pos y, if_pos y, b_L, dfl_I k (by omega), show nI k + 1 = nI (k + 1) from nI_add k 1]
    · rw [gp_k]
      by_cases e : i = k
      · omega
      · rw [if_neg e]; exact q2 i (by omega)
    · rw [gp_k]
      by_cases e : i = k
      · rw [if_pos e, e]
      · rw [if_neg e]; exact q3 i h1 (by omega)
  · intro m τ hq
    obtain ⟨q0, q1, q2, q3⟩ := hq
    refine ⟨τ, ?_, q1, fun i hi => q2 i (by omega), fun i h1 h2 => q3 i h1 (by omega)⟩
    show fX10_useDefaults_b6 1000 (fX10_useDefaults_L6 1000 m) (nI b) (nI (b + 1)) τ = _
    unfold fX10_useDefaults_b6
    rw [if_pos (show nI b < nI (b + 1) by rw [nLT _ _ (by omega) (by omega)]; omega)]
def nmt : Nat → Bool := fun _ => false
def its (T : Nat → Nat) (L z p : Nat) (v : Nat → Nat) : Nat × Nat × (Nat → Nat) := itF T L z 282 p nmt v
def fine (T : Nat → Nat) (L : Nat) (r : Nat × Nat × (Nat → Nat)) : Prop := r.1 = 1 ∧ sx T L r.2.1 = 59 ∨ r.1 = 1 ∧ r.2.1 = L
theorem sn_0 : ∀ z, z < 2 → nI (bm (sn z nmt) 7) = 0 ∧ nI (bm nmt (lnz z)) = 0 := by decide
theorem X_readItems {T : Nat → Nat} {L z p : Nat} {v : Nat → Nat} {σ : gM} (hz : z < 2) (hL : L ≤ 280) (hp : p ≤ L) (hT : XT L T σ) (ha : σ.1 1 2 = nI p) (hv : ∀ w, w < lnz z → σ.1 3 (offz z + w) = nI (v w)) :
    ∃ σ', gk [3] [2, 3, 4] σ σ' ∧ (∀ i, (i < offz z ∨ offz z + lnz z ≤ i) → σ'.1 3 i = σ.1 3 i) ∧
      (fine T L (its T L z p v) ∧ fX10_readItems 1000 (nI (offz z)) (nI (offz z + lnz z - 1)) σ = some (1, σ') ∧ σ'.1 1 2 = nI (its T L z p v).2.1 ∧ (∀ w, w < lnz z → σ'.1 3 (offz z + w) = nI ((its T L z p v).2.2 w)) ∨
       ¬ fine T L (its T L z p v) ∧ fX10_readItems 1000 (nI (offz z)) (nI (offz z + lnz z - 1)) σ = some (0, σ') ∧ σ'.1 1 3 = nI (its T L z p v).2.1) := by
  have h := X_items hz hL 282 p nmt v 0 1000 σ hp (by omega) (by omega) (by omega) hT ha hv
  rw [(sn_0 z hz).1] at h
  exact h
theorem M_readItems {T : Nat → Nat} {L z W nW from' p : Nat} {v : Nat → Nat} {σ : gM} (hz : z < 2) (hL : L ≤ 280) (hW0 : W ≠ 0) (hW1 : W ≠ 1) (hnW : from' + lnz z ≤ nW) (hnW2 : nW < 1000) (hp : p ≤ L) (hT : MT L T σ) (ha : σ.1 0 3 = nI p) (hf : σ.1 0 4 = -1) (hv : ∀ w, w < lnz z → σ.1 W (from' + w) = nI (v w)) :
    ∃ σ', gj [W] [3, 4] σ σ' ∧ (∀ i, (i < from' ∨ from' + lnz z ≤ i) → σ'.1 W i = σ.1 W i) ∧ fX12_items 1000 W nW z (nI from') σ = some σ' ∧
      ((its T L z p v).1 = 1 ∧ σ'.1 0 4 = -1 ∧ σ'.1 0 3 = nI (its T L z p v).2.1 ∧ (∀ w, w < lnz z → σ'.1 W (from' + w) = nI ((its T L z p v).2.2 w)) ∨ (its T L z p v).1 ≠ 1 ∧ σ'.1 0 4 = nI (its T L z p v).2.1) := by
  obtain ⟨σ', h1, h2, h3, h4⟩ := M_items (nW := nW) hz hL hW0 hW1 hnW hnW2 282 p nmt v 1000 σ hp (by omega) (by omega) hT ha hf hv
  rw [(sn_0 z hz).2] at h3
  refine ⟨σ', h1, h2, ?_, h4⟩
  unfold fX12_items fX12_items_b13
  rcases (show z = 0 ∨ z = 1 by omega) with rfl | rfl
  · rw [if_pos (show nI (mTx 0).length = 5 by decide)]
    exact h3
  · rw [if_neg (show ¬ nI (mTx 1).length = 5 by decide)]
    exact h3
theorem its_pos {T : Nat → Nat} {L z p : Nat} {v : Nat → Nat} (hz : z < 2) (hL : L ≤ 280) (hp : p ≤ L) : p ≤ (its T L z p v).2.1 ∧ (its T L z p v).2.1 ≤ L ∧ ((its T L z p v).1 = 1 → bl T L (its T L z p v).2.1 = false) := itF_pos hz 282 p nmt v hp (by omega)
/-- the class within the text of a shelf -/
def RX (T : Nat → Nat) (L p n hd : Nat) (R V : Nat → Nat) (σ : gM) : Prop := XT L T σ ∧ σ.1 1 2 = nI p ∧ σ.1 1 7 = nI n ∧ σ.1 1 8 = nI hd ∧ (∀ w, w < 5 → σ.1 3 w = nI (R w)) ∧ ∀ i, i < 2 * n → σ.1 4 i = nI (V i)
def RM (T : Nat → Nat) (L p n : Nat) (R V : Nat → Nat) (σ : gM) : Prop := MT L T σ ∧ σ.1 0 3 = nI p ∧ σ.1 0 4 = -1 ∧ σ.1 0 11 = nI n ∧ (∀ w, w < 5 → σ.1 2 w = nI (R w)) ∧ ∀ i, i < 2 * n → σ.1 4 i = nI (V i)
def RB (n hd : Nat) (R V : Nat → Nat) : Prop := n ≤ 16 ∧ hd ≤ 1 ∧ (∀ w, w < 5 → loz 0 w ≤ R w ∧ R w ≤ hiz 0 w) ∧ ∀ i, i < n → V (2 * i) ≤ 287 ∧ V (2 * i + 1) ≤ 255
/-- what a clause comes to -/
def CL (T : Nat → Nat) (L p hd : Nat) (σX σM τX τM : gM) : Prop :=
  (∃ f r, f ≤ L ∧ fX10_clause 1000 σX = some (0, τX) ∧ τX.1 1 3 = nI f ∧ fX12_clause 1000 (nI hd) σM = some (r, τM) ∧ τM.1 0 4 = nI f) ∨
  (∃ f r, f < L ∧ bl T L f = false ∧ T f ≠ 59 ∧ MT L T τM ∧ fX10_clause 1000 σX = some (0, τX) ∧ τX.1 1 3 = nI f ∧ fX12_clause 1000 (nI hd) σM = some (r, τM) ∧ τM.1 0 4 = -1 ∧ τM.1 0 3 = nI f) ∨
  (∃ p' n' hd' R' V', p < p' ∧ p' ≤ L ∧ bl T L p' = false ∧ (p' < L → T p' = 59) ∧ RB n' hd' R' V' ∧ RX T L p' n' hd' R' V' τX ∧ RM T L p' n' R' V' τM ∧ fX10_clause 1000 σX = some (1, τX) ∧ fX12_clause 1000 (nI hd) σM = some (nI hd', τM))
theorem sx_n {T : Nat → Nat} {L p t : Nat} {σ : gM} (h : XT L T σ) (h0 : 0 < t) (ht : t < 256) : (sx T L p = nI t) = (p < L ∧ T p = t) := by
  unfold sx
  by_cases c : p < L
  · have := h.2 p c
    rw [if_pos c, nEQ _ _ (by omega) (by omega)]
    simp [c]
  · rw [if_neg c, show (0 : Int32) = nI 0 from rfl, nEQ _ _ (by omega) (by omega)]
    simp [c]; omega
theorem hr_n {T : Nat → Nat} {L p t : Nat} {σ : gM} (h : MT L T σ) (ht : t < 256) : (hr T L p = nI t) = (p < L ∧ T p = t) := by
  unfold hr
  by_cases c : p < L
  · have := h.2 p c
    rw [if_pos c, nEQ _ _ (by omega) (by omega)]
    simp [c]
  · rw [if_neg c]
    simp [c]
    exact fun e => nM1 (a := t) (by omega) e.symm
theorem sx_0 {T : Nat → Nat} {L p : Nat} {σ : gM} (h : XT L T σ) (hp : p ≤ L) : (sx T L p = 0) = (p = L) := by
  unfold sx
  by_cases c : p < L
  · have := h.2 p c
    rw [if_pos c, show (0 : Int32) = nI 0 from rfl, nEQ _ _ (by omega) (by omega)]
    apply propext; omega
  · rw [if_neg c]
    apply propext
    constructor
    · intro _; omega
    · intro _; rfl
theorem hr_e {T : Nat → Nat} {L p : Nat} {σ : gM} (h : MT L T σ) (hp : p ≤ L) : (hr T L p = -1) = (p = L) := by
  unfold hr
  by_cases c : p < L
  · have := h.2 p c
    rw [if_pos c]
    apply propext
    constructor
    · intro e; exact absurd e (nM1 (by omega))
    · intro e; omega
  · rw [if_neg c]
    apply propext
    constructor
    · intro _; omega
    · intro _; rfl
theorem fine_i {T : Nat → Nat} {L : Nat} {σ : gM} {r : Nat × Nat × (Nat → Nat)} (h : XT L T σ) (hp : r.2.1 ≤ L) : fine T L r ↔ r.1 = 1 ∧ (r.2.1 < L → T r.2.1 = 59) := by
  unfold fine
  rw [show (59 : Int32) = nI 59 from rfl, sx_n h (by omega) (by omega)]
  constructor
  · rintro (x | x)
    · exact ⟨x.1, fun _ => x.2.2⟩
    · exact ⟨x.1, fun y => by omega⟩
  · rintro ⟨x, y⟩
    by_cases c : r.2.1 < L
    · exact Or.inl ⟨x, c, y c⟩
    · exact Or.inr ⟨x, by omega⟩
theorem J_clause {T : Nat → Nat} {L p n hd : Nat} {R V : Nat → Nat} {σX σM : gM} (hL : L ≤ 280) (hp : p ≤ L) (hb : RB n hd R V) (hX : RX T L p n hd R V σX) (hM : RM T L p n R V σM) :
    ∃ τX τM, gk [3, 4] [2, 3, 4, 7, 8] σX τX ∧ gj [2, 4] [3, 4, 11] σM τM ∧ CL T L p hd σX σM τX τM := by
  obtain ⟨x1, x2, x3, x4, x5, x6⟩ := hX
  obtain ⟨m1, m2, m3, m4, m5, m6⟩ := hM
  obtain ⟨b1, b2, b3, b4⟩ := hb
  unfold CL
  obtain ⟨σ1, e1, a1, f1⟩ := X_skip x1 hL x2 hp
  obtain ⟨τ1, d1, c1, g1⟩ := M_look m1 hL m2 hp
  have s1 := sk_ge T L p
  have s2 := sk_le (T := T) hp
  have s3 := sk_nb T L p
  unfold fX10_clause fX12_clause
  rw [e1, b_V, d1, b_I]
  generalize sk T L p = p1 at *
  have hT1 := XT_gk x1 f1 (by simp) (by simp)
  have hU1 := MT_gj m1 g1 (by simp) (by simp)
  have F1 : gk [3, 4] [2, 3, 4, 7, 8] σX σ1 := gk_mono f1 (by simp) (by simp)
  have G1 : gj [2, 4] [3, 4, 11] σM τ1 := gj_mono g1 (by simp) (by simp)
  rw [X_sign hT1 hL a1 s2, b_I]
  have h7 : σ1.1 1 7 = nI n := by rw [f1.2.1 7 (by simp)]; exact x3
  have h8 : σ1.1 1 8 = nI hd := by rw [f1.2.1 8 (by simp)]; exact x4
  have h11 : τ1.1 0 11 = nI n := by rw [g1.2.1 11 (by simp)]; exact m4
  have h4 : τ1.1 0 4 = -1 := by rw [g1.2.1 4 (by simp)]; exact m3
  have y5 : ∀ w, w < 5 → σ1.1 3 w = nI (R w) := fun w hw => by rw [f1.1 3 (by simp) (by decide)]; exact x5 w hw
  have y6 : ∀ i, i < 2 * n → σ1.1 4 i = nI (V i) := fun w hw => by rw [f1.1 4 (by simp) (by decide)]; exact x6 w hw
  have z5 : ∀ w, w < 5 → τ1.1 2 w = nI (R w) := fun w hw => by rw [g1.1 2 (by simp) (by decide)]; exact m5 w hw
  have z6 : ∀ i, i < 2 * n → τ1.1 4 i = nI (V i) := fun w hw => by rw [g1.1 4 (by simp) (by decide)]; exact m6 w hw
  have hdb : nI hd &&& 1 = nI hd := by rcases (show hd = 0 ∨ hd = 1 by omega) with rfl | rfl <;> decide
  -- both say that it is wrong here
  have wX : ∀ σ, gk [3, 4] [2, 3, 4, 7, 8] σX σ → σ.1 1 2 = nI p1 → ∃ τX, gk [3, 4] [2, 3, 4, 7, 8] σX τX ∧ fX10_clause_b67 1000 σ = some (0, τX) ∧ τX.1 1 3 = nI p1 := by
    intro σ f e
    unfold fX10_clause_b67 fX10_wrong
    rw [b_L, b_I, if_pos (show (0 : Int32) &&& 1 = 0 by decide), e]
    exact ⟨_, gk_trans f (gk_put1 _ _ (by simp)), rfl, gp_s _ _ _ _⟩
  have wM : ∀ σ, gj [2, 4] [3, 4, 11] σM σ → σ.1 0 3 = nI p1 → σ.1 0 4 = -1 → ∃ τM, gj [2, 4] [3, 4, 11] σM τM ∧ fX12_clause_b44 1000 (nI hd) σ = some (nI hd, τM) ∧ τM.1 0 4 = nI p1 := by
    intro σ f e e4
    unfold fX12_clause_b44
    rw [M_fails e4 e, b_V, if_pos hdb]
    exact ⟨_, gj_trans f (gj_put0 _ _ (by simp)), rfl, gp_s _ _ _ _⟩
  have e115 : (sx T L p1 = 115) = (p1 < L ∧ T p1 = 115) := sx_n (t := 115) hT1 (by omega) (by omega)
  have r115 : (hr T L p1 = 115) = (p1 < L ∧ T p1 = 115) := hr_n (t := 115) hU1 (by omega)
  have e118 : (sx T L p1 = 118) = (p1 < L ∧ T p1 = 118) := sx_n (t := 118) hT1 (by omega) (by omega)
  have r118 : (hr T L p1 = 118) = (p1 < L ∧ T p1 = 118) := hr_n (t := 118) hU1 (by omega)
  unfold fX12_clause_b14
  by_cases c115 : p1 < L ∧ T p1 = 115
  · rw [if_pos (show sx T L p1 = 115 by rw [e115]; exact c115), if_pos (show hr T L p1 = 115 by rw [r115]; exact c115), if_neg n10, h8]
    by_cases chd : hd = 0
    · subst chd
      rw [if_pos (show nI 0 = 0 from rfl), if_pos (show nI 0 = 0 from rfl), b_L, b_L, gp_k, if_neg (by decide), a1, show nI p1 + 1 = nI (p1 + 1) from nI_add p1 1]
      unfold fX12_clause_b50
      rw [b_L, if_neg n10, c1, show nI p1 + 1 = nI (p1 + 1) from nI_add p1 1]
      have fa : gk [3, 4] [2, 3, 4, 7, 8] σ1 (g_put (g_put σ1 1 8 1) 1 2 (nI (p1 + 1))) := gk_trans (gk_put1 _ _ (by simp)) (gk_put1 _ _ (by simp))
      have ga : gj [2, 4] [3, 4, 11] τ1 (g_put τ1 0 3 (nI (p1 + 1))) := gj_put0 _ _ (by simp)
      obtain ⟨σ2, f2, o2, r2⟩ := X_readItems (T := T) (L := L) (z := 0) (p := p1 + 1) (v := R) (σ := g_put (g_put σ1 1 8 1) 1 2 (nI (p1 + 1))) (by decide) hL (by omega) (XT_gk hT1 fa (by simp) (by simp)) (gp_s _ _ _ _) (fun w hw => by
        rw [gp_o (by decide), gp_o (by decide), show offz 0 + w = w from Nat.zero_add w]; exact y5 w hw)
      obtain ⟨τ2, g2, q2, t2, u2⟩ := M_readItems (T := T) (L := L) (z := 0) (W := 2) (nW := 5) (from' := 0) (p := p1 + 1) (v := R) (σ := g_put τ1 0 3 (nI (p1 + 1))) (by decide) hL (by decide) (by decide) (by decide) (by decide) (by omega) (MT_gj hU1 ga (by simp) (by simp)) (gp_s _ _ _ _) (by rw [gp_k, if_neg (by decide)]; exact h4) (fun w hw => by
        rw [gp_o (by decide), Nat.zero_add]; exact z5 w hw)
      obtain ⟨i1, i2, i3⟩ := its_pos (T := T) (z := 0) (p := p1 + 1) (v := R) (by decide) hL (show p1 + 1 ≤ L by omega)
      have F2 : gk [3, 4] [2, 3, 4, 7, 8] σX σ2 := gk_trans F1 (gk_trans fa (gk_mono f2 (by simp) (by simp)))
      have G2 : gj [2, 4] [3, 4, 11] σM τ2 := gj_trans G1 (gj_trans ga (gj_mono g2 (by simp) (by simp)))
      have ib := itF_bd (T := T) (L := L) (z := 0) 282 (p1 + 1) nmt R b3
      change ∀ w, w < lnz 0 → loz 0 w ≤ (its T L 0 (p1 + 1) R).2.2 w ∧ (its T L 0 (p1 + 1) R).2.2 w ≤ hiz 0 w at ib
      rw [show fX12_items 1000 2 5 0 0 (g_put τ1 0 3 (nI (p1 + 1))) = some τ2 from t2, b_V]
      refine ⟨σ2, τ2, F2, G2, ?_⟩
      have fi := fine_i (r := its T L 0 (p1 + 1) R) hT1 i2
      rw [fi] at r2
      generalize its T L 0 (p1 + 1) R = it at *
      rcases r2 with ⟨v1, v2, v3, v4⟩ | ⟨v1, v2, v3⟩
      · rw [show fX10_readItems 1000 0 4 (g_put (g_put σ1 1 8 1) 1 2 (nI (p1 + 1))) = some (1, σ2) from v2, b_I, if_pos (show (1 : Int32) &&& 1 = 1 by decide)]
        rcases u2 with ⟨w1, w2, w3, w4⟩ | ⟨w1, w2⟩
        · refine Or.inr (Or.inr ⟨it.2.1, n, 1, it.2.2, V, by omega, i2, i3 w1, v1.2, ⟨b1, by omega, ib, b4⟩, ⟨XT_gk x1 F2 (by simp) (by simp), v3, ?_, ?_, ?_, ?_⟩, ⟨MT_gj m1 G2 (by simp) (by simp), w3, w2, ?_, ?_, ?_⟩, rfl, rfl⟩)
          · rw [f2.2.1 7 (by simp), gp_k, if_neg (by decide), gp_k, if_neg (by decide)]; exact h7
          · rw [f2.2.1 8 (by simp), gp_k, if_neg (by decide), gp_k, if_pos rfl]; rfl
          · intro w hw
            have := v4 w hw
            rw [show offz 0 + w = w from Nat.zero_add w] at this
            exact this
          · intro i hi
            rw [f2.1 4 (by simp) (by decide), gp_o (by decide), gp_o (by decide)]; exact y6 i hi
          · rw [g2.2.1 11 (by simp), gp_k, if_neg (by decide)]; exact h11
          · intro w hw
            have := w4 w hw
            rw [Nat.zero_add] at this
            exact this
          · intro i hi
            rw [g2.1 4 (by simp) (by decide), gp_o (by decide)]; exact z6 i hi
        · exact absurd v1.1 w1
      · rw [show fX10_readItems 1000 0 4 (g_put (g_put σ1 1 8 1) 1 2 (nI (p1 + 1))) = some (0, σ2) from v2, b_I, if_pos (show (0 : Int32) &&& 1 = 0 by decide)]
        rcases u2 with ⟨w1, w2, w3, w4⟩ | ⟨w1, w2⟩
        · have v1' : it.2.1 < L ∧ T it.2.1 ≠ 59 := by
            by_cases c : it.2.1 < L
            · exact ⟨c, fun e => v1 ⟨w1, fun _ => e⟩⟩
            · exact absurd ⟨w1, fun y => absurd y c⟩ v1
          exact Or.inr (Or.inl ⟨it.2.1, 1, v1'.1, i3 w1, v1'.2, MT_gj m1 G2 (by simp) (by simp), rfl, v3, rfl, w2, w3⟩)
        · exact Or.inl ⟨it.2.1, 1, i2, rfl, v3, rfl, w2⟩
    · have hd1 : hd = 1 := by omega
      subst hd1
      rw [if_neg (show ¬ nI 1 = 0 by decide), if_neg (show ¬ nI 1 = 0 by decide)]
      unfold fX10_clause_b42
      rw [X_sign hT1 hL a1 s2, b_I, if_neg (show ¬ sx T L p1 = 118 by rw [e118]; omega)]
      obtain ⟨τX, k1, k2, k3⟩ := wX σ1 F1 a1
      obtain ⟨τM, l1, l2, l3⟩ := wM τ1 G1 c1 h4
      exact ⟨τX, τM, k1, l1, Or.inl ⟨p1, nI 1, s2, k2, k3, l2, l3⟩⟩
  · rw [if_neg (show ¬ sx T L p1 = 115 by rw [e115]; exact c115), if_neg (show ¬ hr T L p1 = 115 by rw [r115]; exact c115), if_pos rfl]
    obtain ⟨τ2, d2, c2, g2⟩ := M_look hU1 hL c1 s2
    rw [sk_id s3] at d2 c2
    have G2 : gj [2, 4] [3, 4, 11] σM τ2 := gj_trans G1 (gj_mono g2 (by simp) (by simp))
    have hU2 := MT_gj m1 G2 (by simp) (by simp)
    have h4' : τ2.1 0 4 = -1 := by rw [g2.2.1 4 (by simp)]; exact h4
    have h11' : τ2.1 0 11 = nI n := by rw [g2.2.1 11 (by simp)]; exact h11
    unfold fX10_clause_b42
    rw [X_sign hT1 hL a1 s2, b_I, d2, b_I]
    have wB : ∃ τX τM, gk [3, 4] [2, 3, 4, 7, 8] σX τX ∧ gj [2, 4] [3, 4, 11] σM τM ∧ fX10_clause_b67 1000 σ1 = some (0, τX) ∧ τX.1 1 3 = nI p1 ∧ fX12_clause_b44 1000 (nI hd) τ2 = some (nI hd, τM) ∧ τM.1 0 4 = nI p1 := by
      obtain ⟨τX, k1, k2, k3⟩ := wX σ1 F1 a1
      obtain ⟨τM, l1, l2, l3⟩ := wM τ2 G2 c2 h4'
      exact ⟨τX, τM, k1, l1, k2, k3, l2, l3⟩
    by_cases c118 : p1 < L ∧ T p1 = 118
    · rw [if_pos (show sx T L p1 = 118 by rw [e118]; exact c118), if_pos (show hr T L p1 = 118 by rw [r118]; exact c118), h7, h11', if_neg (show ¬ nI n < 0 by rw [show (0 : Int32) = nI 0 from rfl, nLT _ _ (by omega) (by omega)]; omega)]
      by_cases cn : n = 16
      · rw [if_neg (show ¬ nI n < 16 by rw [cn]; decide), if_pos (show nI n = 16 by rw [cn]; rfl)]
        obtain ⟨τX, τM, k1, k2, k3, k4, k5, k6⟩ := wB
        exact ⟨τX, τM, k1, k2, Or.inl ⟨p1, nI hd, s2, k3, k4, k5, k6⟩⟩
      · rw [if_pos (show nI n < 16 by rw [show (16 : Int32) = nI 16 from rfl, nLT _ _ (by omega) (by omega)]; omega), if_neg (show ¬ nI n = 16 by rw [show (16 : Int32) = nI 16 from rfl, nEQ _ _ (by omega) (by omega)]; omega), b_L, a1, show nI p1 + 1 = nI (p1 + 1) from nI_add p1 1]
        have fa : gk [3, 4] [2, 3, 4, 7, 8] σ1 (g_put σ1 1 2 (nI (p1 + 1))) := gk_put1 _ _ (by simp)
        obtain ⟨σ2, e2, f2, o2, w2⟩ := X_useDef (a := 5) (b := 6) (by decide) (by decide) (g_put σ1 1 2 (nI (p1 + 1)))
        have F2 : gk [3, 4] [2, 3, 4, 7, 8] σX σ2 := gk_trans F1 (gk_trans fa (gk_mono f2 (by simp) (by simp)))
        have hT2 := XT_gk x1 F2 (by simp) (by simp)
        rw [show fX10_useDefaults 1000 5 6 (g_put σ1 1 2 (nI (p1 + 1))) = some σ2 from e2, b_V]
        obtain ⟨σ3, f3, o3, r3⟩ := X_readItems (T := T) (L := L) (z := 1) (p := p1 + 1) (v := fun w => dfl (5 + w)) (σ := σ2) (by decide) hL (by omega) hT2 (by rw [f2.2.1 2 (by simp)]; exact gp_s _ _ _ _) (fun w hw => by
          have hw : w < 2 := hw
          exact w2 (5 + w) (by omega) (by omega))
        have F3 : gk [3, 4] [2, 3, 4, 7, 8] σX σ3 := gk_trans F2 (gk_mono f3 (by simp) (by simp))
        have hT3 := XT_gk x1 F3 (by simp) (by simp)
        unfold fX12_clause_b50
        have en : (2 : Int32) * nI n = nI (2 * n) := pk_mul 2 n
        have en1 : nI (2 * n) + 1 = nI (2 * n + 1) := nI_add _ 1
        have u1 : ¬ (nI (2 * n) < 0 ∨ 32 ≤ 2 * n) := by rw [show (0 : Int32) = nI 0 from rfl, nLT _ _ (by omega) (by omega)]; omega
        have u2 : ¬ (nI (2 * n + 1) < 0 ∨ 32 ≤ 2 * n + 1) := by rw [show (0 : Int32) = nI 0 from rfl, nLT _ _ (by omega) (by omega)]; omega
        have ga : gj [2, 4] [3, 4, 11] τ2 (g_put (g_put (g_put (g_put τ2 0 3 (nI (p1 + 1))) 4 (2 * n) 0) 4 (2 * n + 1) 1) 0 11 (nI (n + 1))) := gj_trans (gj_put0 _ _ (by simp)) (gj_trans (gj_put _ _ _ (by simp) (by decide)) (gj_trans (gj_put _ _ _ (by simp) (by decide)) (gj_put0 _ _ (by simp))))
        have en2 : (2 : Int32) * nI (n + 1) - 2 = nI (2 * n) := by
          rw [show (2 : Int32) * nI (n + 1) = nI (2 * (n + 1)) from pk_mul 2 _, show (2 : Int32) = nI 2 from rfl, nSUB (by omega)]
          congr 1
        have ev : ∀ x, (g_put τ2 0 3 x).1 0 11 = nI n := fun x => by rw [gp_k, if_neg (by decide)]; exact h11'
        rw [b_L, if_pos rfl, ev, en, nCL (by omega), if_pos u1, c2, show nI p1 + 1 = nI (p1 + 1) from nI_add p1 1, b_L, gp_o (by decide), ev, en, en1, nCL (by omega), if_pos u2, b_L, gp_o (by decide), gp_o (by decide), ev, b_L, show nI n + 1 = nI (n + 1) from nI_add n 1, gp_s, en2]
        obtain ⟨τ3, g3, q3, t3, v3⟩ := M_readItems (T := T) (L := L) (z := 1) (W := 4) (nW := 32) (from' := 2 * n) (p := p1 + 1) (v := fun w => dfl (5 + w)) (σ := g_put (g_put (g_put (g_put τ2 0 3 (nI (p1 + 1))) 4 (2 * n) 0) 4 (2 * n + 1) 1) 0 11 (nI (n + 1))) (by decide) hL (by decide) (by decide) (by show 2 * n + 2 ≤ 32; omega) (by decide) (by omega) (MT_gj hU2 ga (by simp) (by simp)) (by rw [gp_k, if_neg (by decide), gp_o (by decide), gp_o (by decide), gp_s]) (by rw [gp_k, if_neg (by decide), gp_o (by decide), gp_o (by decide), gp_k, if_neg (by decide)]; exact h4') (fun w hw => by
          have hw : w < 2 := hw
          rw [gp_o (by decide), gp_k, gp_k]
          rcases (show w = 0 ∨ w = 1 by omega) with rfl | rfl
          · rw [if_neg (by omega), if_pos (by omega)]; rfl
          · rw [if_pos (by omega)]; rfl)
        have G3 : gj [2, 4] [3, 4, 11] σM τ3 := gj_trans G2 (gj_trans ga (gj_mono g3 (by simp) (by simp)))
        obtain ⟨i1, i2, i3⟩ := its_pos (T := T) (z := 1) (p := p1 + 1) (v := fun w => dfl (5 + w)) (by decide) hL (show p1 + 1 ≤ L by omega)
        have ib := itF_bd (T := T) (L := L) (z := 1) 282 (p1 + 1) nmt (fun w => dfl (5 + w)) (by decide)
        change ∀ w, w < lnz 1 → loz 1 w ≤ (its T L 1 (p1 + 1) (fun w => dfl (5 + w))).2.2 w ∧ (its T L 1 (p1 + 1) (fun w => dfl (5 + w))).2.2 w ≤ hiz 1 w at ib
        rw [t3, b_V, if_pos hdb]
        have fi := fine_i (r := its T L 1 (p1 + 1) (fun w => dfl (5 + w))) hT1 i2
        rw [fi] at r3
        generalize its T L 1 (p1 + 1) (fun w => dfl (5 + w)) = it at *
        rcases r3 with ⟨w1, w3, w4, w5⟩ | ⟨w1, w3, w4⟩
        · have hn3 : σ3.1 1 7 = nI n := by rw [f3.2.1 7 (by simp), f2.2.1 7 (by simp), gp_k, if_neg (by decide)]; exact h7
          have k5 : σ3.1 3 5 = nI (it.2.2 0) := w5 0 (by decide)
          have k6 : σ3.1 3 6 = nI (it.2.2 1) := w5 1 (by decide)
          rw [show fX10_readItems 1000 5 6 σ2 = some (1, σ3) from w3, b_I, if_neg n10, hn3, en, nCL (by omega), if_pos u1, b_L, gp_o (by decide), hn3, en, en1, nCL (by omega), if_pos u2, b_L, gp_o (by decide), gp_o (by decide), gp_o (by decide), hn3, b_L, k5, k6, show nI n + 1 = nI (n + 1) from nI_add n 1]
          have F4 : gk [3, 4] [2, 3, 4, 7, 8] σX (g_put (g_put (g_put σ3 4 (2 * n) (nI (it.2.2 0))) 4 (2 * n + 1) (nI (it.2.2 1))) 1 7 (nI (n + 1))) := gk_trans F3 (gk_trans (gk_put _ _ _ (by simp) (by decide)) (gk_trans (gk_put _ _ _ (by simp) (by decide)) (gk_put1 _ _ (by simp))))
          rcases v3 with ⟨l1, l2, l3, l4⟩ | ⟨l1, l2⟩
          · refine ⟨_, τ3, F4, G3, Or.inr (Or.inr ⟨it.2.1, n + 1, hd, R, ud (ud V (2 * n) (it.2.2 0)) (2 * n + 1) (it.2.2 1), by omega, i2, i3 l1, w1.2, ⟨by omega, b2, b3, ?_⟩, ⟨XT_gk x1 F4 (by simp) (by simp), ?_, gp_s _ _ _ _, ?_, ?_, ?_⟩, ⟨MT_gj m1 G3 (by simp) (by simp), l3, l2, ?_, ?_, ?_⟩, rfl, rfl⟩)⟩
            · intro i hi
              unfold ud
              by_cases e : i = n
              · subst e
                rw [if_neg (by omega), if_pos rfl, if_pos rfl]
                exact ⟨(ib 0 (by decide)).2, (ib 1 (by decide)).2⟩
              · rw [if_neg (by omega), if_neg (by omega), if_neg (by omega), if_neg (by omega)]
                exact b4 i (by omega)
            · rw [gp_k, if_neg (by decide), gp_o (by decide), gp_o (by decide)]; exact w4
            · rw [gp_k, if_neg (by decide), gp_o (by decide), gp_o (by decide), f3.2.1 8 (by simp), f2.2.1 8 (by simp), gp_k, if_neg (by decide)]; exact h8
            · intro w hw
              rw [gp_o (by decide), gp_o (by decide), gp_o (by decide), o3 w (Or.inl (by show w < 5; exact hw)), o2 w (Or.inl hw), gp_o (by decide)]
              exact y5 w hw
            · intro i hi
              rw [gp_o (by decide), gp_k, gp_k]
              unfold ud
              by_cases e1 : i = 2 * n + 1
              · rw [if_pos e1, if_pos e1]
              · rw [if_neg e1, if_neg e1]
                by_cases e2 : i = 2 * n
                · rw [if_pos e2, if_pos e2]
                · rw [if_neg e2, if_neg e2, f3.1 4 (by simp) (by decide), f2.1 4 (by simp) (by decide), gp_o (by decide)]
                  exact y6 i (by omega)
            · rw [g3.2.1 11 (by simp), gp_s]
            · intro w hw
              rw [g3.1 2 (by simp) (by decide), gp_o (by decide), gp_o (by decide), gp_o (by decide), gp_o (by decide), g2.1 2 (by simp) (by decide)]
              exact z5 w hw
            · intro i hi
              unfold ud
              by_cases e1 : i = 2 * n + 1
              · rw [if_pos e1, e1]; exact l4 1 (by decide)
              · rw [if_neg e1]
                by_cases e2 : i = 2 * n
                · rw [if_pos e2, e2]; exact l4 0 (by decide)
                · rw [if_neg e2, q3 i (Or.inl (by omega)), gp_o (by decide), gp_k, if_neg e1, gp_k, if_neg e2, gp_o (by decide), g2.1 4 (by simp) (by decide)]
                  exact z6 i (by omega)
          · exact absurd w1.1 l1
        · rw [show fX10_readItems 1000 5 6 σ2 = some (0, σ3) from w3, b_I, if_pos rfl]
          refine ⟨σ3, τ3, F3, G3, ?_⟩
          rcases v3 with ⟨l1, l2, l3, l4⟩ | ⟨l1, l2⟩
          · have v1' : it.2.1 < L ∧ T it.2.1 ≠ 59 := by
              by_cases c : it.2.1 < L
              · exact ⟨c, fun e => w1 ⟨l1, fun _ => e⟩⟩
              · exact absurd ⟨l1, fun y => absurd y c⟩ w1
            exact Or.inr (Or.inl ⟨it.2.1, nI hd, v1'.1, i3 l1, v1'.2, MT_gj m1 G3 (by simp) (by simp), rfl, w4, rfl, l2, l3⟩)
          · exact Or.inl ⟨it.2.1, nI hd, i2, rfl, w4, rfl, l2⟩
    · rw [if_neg (show ¬ sx T L p1 = 118 by rw [e118]; exact c118), if_neg (show ¬ hr T L p1 = 118 by rw [r118]; exact c118)]
      obtain ⟨τX, τM, k1, k2, k3, k4, k5, k6⟩ := wB
      exact ⟨τX, τM, k1, k2, Or.inl ⟨p1, nI hd, s2, k3, k4, k5, k6⟩⟩
