/-! the face: years -/
theorem ul_33 (x : Int64) : ∃ Y : Nat, Y < 2147483648 ∧ (g_ul x 33).toInt = (Y : Int) := by
  have e : ((33 : Int32).toInt64.toUInt64 &&& Int64.toUInt64 63) = 33 := by decide
  have hn : (x.toUInt64 >>> (33 : UInt64)).toNat = x.toUInt64.toNat / 2 ^ 33 := by
    rw [UInt64.toNat_shiftRight, Nat.shiftRight_eq_div_pow]
    rfl
  have hl : x.toUInt64.toNat < 2 ^ 64 := x.toUInt64.toNat_lt
  have hlt : x.toUInt64.toNat / 2 ^ 33 < 2147483648 := by omega
  refine ⟨x.toUInt64.toNat / 2 ^ 33, hlt, ?_⟩
  unfold g_ul
  rw [e]
  show (x.toUInt64 >>> (33 : UInt64)).toBitVec.toInt = _
  have h3 : (x.toUInt64 >>> (33 : UInt64)).toBitVec.toNat = x.toUInt64.toNat / 2 ^ 33 := hn
  rw [BitVec.toInt_eq_toNat_of_lt (by rw [h3]; omega), h3]
theorem lm_n {m : Nat} (hm : m < 2147483648) : (nI m).toInt64.toInt = (m : Int) := by
  rw [Int32.toInt_toInt64, nI_toInt hm]
theorem bm64 {x : Int} (h1 : -4611686018427387904 ≤ x) (h2 : x < 4611686018427387904) : x.bmod (2 ^ 64) = x := Int.bmod_eq_of_le (by omega) (by omega)
theorem dr_q {y : Int64} {Y m : Nat} (hY : Y < 2147483648) (h : y.toInt = (Y : Int)) (h0 : 0 < m) (hm : m < 1000) : (y - y / (nI m).toInt64 * (nI m).toInt64).toInt32 = nI (Y % m) := by
  have hM := lm_n (m := m) (by omega)
  have hq : Y / m ≤ Y := Nat.div_le_self Y m
  have hr : Y % m < m := Nat.mod_lt Y h0
  have hd := Nat.div_add_mod Y m
  have hp : Y / m * m ≤ Y := Nat.div_mul_le_self Y m
  have e1 : (y / (nI m).toInt64).toInt = ((Y / m : Nat) : Int) := by
    rw [Int64.toInt_div, h, hM]
    rw [show (Y : Int).tdiv (m : Int) = ((Y / m : Nat) : Int) from by
      rw [Int.tdiv_eq_ediv_of_nonneg (by omega)]
      rfl]
    have q1 := Int.natCast_nonneg (Y / m)
    have q2 : ((Y / m : Nat) : Int) ≤ (Y : Int) := Int.ofNat_le.mpr hq
    exact bm64 (by omega) (by omega)
  have e2 : (y / (nI m).toInt64 * (nI m).toInt64).toInt = ((Y / m * m : Nat) : Int) := by
    rw [Int64.toInt_mul, e1, hM, ← Int.natCast_mul]
    exact bm64 (by omega) (by omega)
  have e3 : (y - y / (nI m).toInt64 * (nI m).toInt64).toInt = ((Y % m : Nat) : Int) := by
    rw [Int64.toInt_sub, e2, h]
    have : (Y : Int) - ((Y / m * m : Nat) : Int) = ((Y % m : Nat) : Int) := by
      rw [Nat.mul_comm] at hp ⊢
      omega
    rw [this]
    exact bm64 (by omega) (by omega)
  apply Int32.toInt_inj.mp
  rw [Int64.toInt_toInt32, e3, nI_toInt (by omega)]
  exact Int.bmod_eq_of_le (by omega) (by omega)
theorem J_draw {m : Nat} {σX σM : gM} {vX vM : Int32} (h0 : 0 < m) (hm : m < 1000) (eX : vX = nI m) (eM : vM = nI m) (hx : σX.2 31 = σM.2 0) : ∃ (r : Int32) (τX τM : gM), fX0_draw vX σX = some (r, τX) ∧ fX12_draw vM σM = some (r, τM) ∧ τX.1 = σX.1 ∧ τM.1 = σM.1 ∧ τX.2 31 = τM.2 0 ∧ ∃ q, q < m ∧ r = nI q := by
  subst eX eM
  have z : ¬ (nI m).toInt64 = 0 := by
    intro e
    have := congrArg Int64.toInt e
    rw [lm_n (by omega)] at this
    have e0 : (0 : Int64).toInt = 0 := by decide
    omega
  have z1 : (1 : Int32) ≤ nI m := by rw [show (1 : Int32) = nI 1 from rfl, nLE _ _ (by omega) (by omega)]; omega
  unfold fX0_draw fX12_draw
  rw [b_L, b_L, if_pos z1, if_neg z, if_neg z, hx]
  have a1 : (g_lng σX 31 (σM.2 0 * 6364136223846793005 + 1442695040888963407)).2 31 = σM.2 0 * 6364136223846793005 + 1442695040888963407 := rfl
  have a2 : (g_lng σM 0 (σM.2 0 * 6364136223846793005 + 1442695040888963407)).2 0 = σM.2 0 * 6364136223846793005 + 1442695040888963407 := rfl
  rw [a1, a2]
  obtain ⟨Y, hY, hu⟩ := ul_33 (σM.2 0 * 6364136223846793005 + 1442695040888963407)
  rw [dr_q hY hu h0 hm]
  exact ⟨_, _, _, rfl, rfl, rfl, rfl, rfl, Y % m, Nat.mod_lt _ h0, rfl⟩
/-- as gj, but for the long -/
def gw (L J : List Nat) (σ σ' : gM) : Prop := (∀ p, p ∉ L → p ≠ 0 → σ'.1 p = σ.1 p) ∧ ∀ k, k ∉ J → σ'.1 0 k = σ.1 0 k
theorem gw_gj {L J : List Nat} {σ σ' : gM} (h : gw L J σ σ') : gj L J σ (σ'.1, σ.2) := ⟨h.1, h.2, rfl⟩
theorem gw_of {L J : List Nat} {σ σ' : gM} (h : gj L J σ σ') : gw L J σ σ' := ⟨h.1, h.2.1⟩
theorem gw_refl (L J : List Nat) (σ : gM) : gw L J σ σ := ⟨fun _ _ _ => rfl, fun _ _ => rfl⟩
theorem gw_eq {L J : List Nat} {σ σ' : gM} (h : σ'.1 = σ.1) : gw L J σ σ' := ⟨fun p _ _ => by rw [h], fun k _ => by rw [h]⟩
theorem gw_trans {L J : List Nat} {a b c : gM} (h1 : gw L J a b) (h2 : gw L J b c) : gw L J a c := ⟨fun p hp h0 => (h2.1 p hp h0).trans (h1.1 p hp h0), fun k hk => (h2.2 k hk).trans (h1.2 k hk)⟩
theorem gw_mono {L L' J J' : List Nat} {a b : gM} (h : gw L J a b) (hL : ∀ p, p ∈ L → p ∈ L') (hJ : ∀ p, p ∈ J → p ∈ J') : gw L' J' a b := ⟨fun p hp h0 => h.1 p (fun q => hp (hL p q)) h0, fun k hk => h.2 k (fun q => hk (hJ k q))⟩
theorem gw_put {L J : List Nat} (σ : gM) {k : Nat} (i : Nat) (x : Int32) (h : k ∈ L) (h0 : k ≠ 0) : gw L J σ (g_put σ k i x) := gw_of (gj_put σ i x h h0)
theorem BIx_gw {D S C F B B' : Nat} {σX σM τX τM : gM} {L J L' J' : List Nat} (hB : B ≤ B') (h : BIx D S C F B σX σM) (fX : gw L J σX τX) (fM : gw L' J' σM τM) (x : ∀ p, p ∈ [5, 6, 7, 8, 11, 25, 26, 29, 30] → p ∉ L) (m : ∀ p, p ∈ [3, 8, 9, 10, 13] → p ∉ L') (j : ∀ p, p ∈ [13, 14, 21, 22] → p ∉ J') : BIx D S C F B' τX τM := by
  have h2 := BIx_gj (τX := (τX.1, σX.2)) (τM := (τM.1, σM.2)) hB h (gw_gj fX) (gw_gj fM) x m j
  exact h2
def yL : List Nat := [11, 13, 25, 26, 29, 30, 32]
def yM : List Nat := [10, 11, 13, 14, 15]
def yJ : List Nat := [21, 22, 26, 27, 28, 29, 30]
/-- what is done with a year's numbers -/
def yB (n : Nat) (r : Int32) (K : gM → Option (Int32 × gM)) (σ : gM) : Option (Int32 × gM) := g_bI (fX0_number 0 σ) (fun r44 σ43 => g_bI (fX0_number 1 σ43) (fun r47 σ46 => g_bI (fX0_number 2 σ46) (fun r50 σ49 => g_bI (fX0_number 3 σ49) (fun r53 σ52 => g_bI (fX11_attempt n r r44 r47 r50 r53 σ52) (fun r56 σ55 => if r = 6 then (g_bI (fX11_attempt n 7 0 0 0 0 σ55) (fun r60 σ59 => K σ59)) else (K σ55))))))
theorem yB_eq (n : Nat) (r : Int32) (K : gM → Option (Int32 × gM)) (σ : gM) : yB n r K σ = g_bI (fX11_attempt n r (σ.1 32 0) (σ.1 32 1) (σ.1 32 2) (σ.1 32 3) σ) (fun r56 σ55 => if r = 6 then (g_bI (fX11_attempt n 7 0 0 0 0 σ55) (fun r60 σ59 => K σ59)) else (K σ55)) := rfl
section YRS
variable {D S C F B : Nat} {σX σM : gM}
/-- an act of a year, but for a torn one -/
theorem y_one (hB : BIx D S C F B σX σM) (hb : B < 999999) {k : Nat} {rr : Int32} (hrr : rr = nI k) (hk : k < 9) (h6 : k ≠ 6) (hx : σX.2 31 = σM.2 0) {a' b' c' d' : Int32} (ha : 0 < nmb k → σX.1 32 0 = a') (hb1 : 1 < nmb k → σX.1 32 1 = b') (hc : 2 < nmb k → σX.1 32 2 = c') (hd : 3 < nmb k → σX.1 32 3 = d') :
    ∃ (y : Int32) (τX τM : gM), (∀ K, yB 1000 rr K σX = K τX) ∧ fX12_tries_ 1000 rr a' b' c' d' σM = some (y, τM) ∧ BIx D S C F (B + 1) τX τM ∧ τX.2 31 = τM.2 0 ∧ gw yL [14] σX τX ∧ gw yM yJ σM τM := by
  subst hrr
  obtain ⟨r, y, τX, τM, e1, e2, e3, e4, e5, e6, e7, e8, e9⟩ := J_try (n := 1000) (by omega) hB hb hk ha hb1 hc hd
  refine ⟨y, τX, τM, fun K => ?_, e2, e7, ?_, gw_mono (gw_of e8) (by unfold yL; simp) (by simp), gw_of e9⟩
  · rw [yB_eq, e1, b_I, if_neg (by rw [show (6 : Int32) = nI 6 from rfl, nEQ _ _ (by omega) (by omega)]; exact h6)]
  · rw [e8.2.2, e9.2.2]; exact hx
theorem y_torn (hB : BIx D S C F B σX σM) (hb : B + 1 < 999999) (hx : σX.2 31 = σM.2 0) {d' : Int32} :
    ∃ (y y2 : Int32) (τ1 τX τM : gM), (∀ K, yB 1000 6 K σX = K τX) ∧ fX12_tries_ 1000 6 (σX.1 32 0) (σX.1 32 1) (σX.1 32 2) d' σM = some (y, τ1) ∧ fX12_tries_ 1000 7 0 0 0 0 τ1 = some (y2, τM) ∧ BIx D S C F (B + 2) τX τM ∧ τX.2 31 = τM.2 0 ∧ gw yL [14] σX τX ∧ gw yM yJ σM τM := by
  obtain ⟨r, y, τX, τ1, e1, e2, e3, e4, e5, e6, e7, e8, e9⟩ := J_try (n := 1000) (k := 6) (a := σX.1 32 0) (b := σX.1 32 1) (c := σX.1 32 2) (d := σX.1 32 3) (a' := σX.1 32 0) (b' := σX.1 32 1) (c' := σX.1 32 2) (d' := d') (by omega) hB (by omega) (by omega) (fun _ => rfl) (fun _ => rfl) (fun _ => rfl) (fun z => absurd z (by decide))
  obtain ⟨r', y', υX, υM, f1, f2, f3, f4, f5, f6, f7, f8, f9⟩ := J_try (n := 1000) (k := 7) (a := 0) (b := 0) (c := 0) (d := 0) (a' := 0) (b' := 0) (c' := 0) (d' := 0) (by omega) e7 (by omega) (by omega) (fun _ => rfl) (fun _ => rfl) (fun _ => rfl) (fun _ => rfl)
  refine ⟨y, y', τ1, υX, υM, fun K => ?_, e2, f2, f7, ?_, gw_mono (gw_of (gj_trans e8 f8)) (by unfold yL; simp) (by simp), gw_of (gj_trans e9 f9)⟩
  · rw [yB_eq, show fX11_attempt 1000 6 (σX.1 32 0) (σX.1 32 1) (σX.1 32 2) (σX.1 32 3) σX = some (r, τX) from e1, b_I, if_pos rfl, show fX11_attempt 1000 7 0 0 0 0 τX = some (r', υX) from f1, b_I]
  · rw [f8.2.2, f9.2.2, e8.2.2, e9.2.2]; exact hx
theorem g32 (σ : gM) (i : Nat) (x : Int32) : (g_put σ 32 i x).2 = σ.2 := rfl
theorem yc_w (hB : BIx D S C F B σX σM) (hb : B + 1 < 999999) {q : Nat} {X1 M1 : gM} (d1 : fX0_draw 12 σX = some (nI q, X1)) (d2 : fX12_draw 12 σM = some (nI q, M1)) (d3 : X1.1 = σX.1) (d4 : M1.1 = σM.1) (d5 : X1.2 31 = M1.2 0) (hq : q < 5) : ∃ (y : Int32) (τX τM : gM), (∀ K, g_bI (fX0_year σX) (fun r σ => yB 1000 r K σ) = K τX) ∧ fX12_happens 1000 σM = some (y, τM) ∧ BIx D S C F (B + 2) τX τM ∧ τX.2 31 = τM.2 0 ∧ gw yL [14] σX τX ∧ gw yM yJ σM τM := by
  have hwf : wfP D S C F ∧ (∀ τ : gM, τ.1 5 = σX.1 5 → XR D S C F τ) ∧ ∀ τ : gM, (τ.1 3 = σM.1 3) → τ.1 0 = σM.1 0 → MR D S C F τ := by
    obtain ⟨s, E, a, hh, e, g, Hs, haB, hI⟩ := id hB
    refine ⟨hI.xe.1, fun τ h5 => ?_, fun τ h3 h0 => ?_⟩
    · unfold XR
      rw [h5]
      exact hI.xe.2.1
    · unfold MR
      rw [h3, h0]
      exact hI.me.2.1
  obtain ⟨hw, hXR, hMR⟩ := hwf
  obtain ⟨w1, w2, w3, w4, w5, w6, w7⟩ := id hw
  have hDSC := DSC_lt hw
  obtain ⟨x0, x1, x2, x3, x5, x6, x7, x8, x9⟩ := hXR X1 (by rw [d3])
  obtain ⟨m0, m1, m2, m3, m5, m6⟩ := hMR M1 (by rw [d4]) (by rw [d4])
  -- states reached from here on: X by the long and place 32, M by the long alone
  have fin : ∀ {X' M' : gM}, gw [32] [] σX X' → M'.1 = σM.1 → BIx D S C F B X' M' := fun fX fM => BIx_gw (Nat.le_refl _) hB fX (gw_eq (L := []) (J := []) fM) (by decide) (by decide) (by decide)
  have up : ∀ {y : Int32} {τX τM X' M' : gM}, gw [32] [] σX X' → M'.1 = σM.1 → gw yL [14] X' τX → gw yM yJ M' τM → gw yL [14] σX τX ∧ gw yM yJ σM τM := fun fX fM gX gM => ⟨gw_trans (gw_mono fX (by unfold yL; simp) (by simp)) gX, gw_trans (gw_eq fM) gM⟩
  unfold fX0_year fX12_happens
  rw [d1, b_I, d2, b_I]
  have c5 := hq
  have n5 : ¬ (5 : Int32) ≤ nI q := by rw [show (5 : Int32) = nI 5 from rfl, nLE _ _ (by omega) (by omega)]; omega
  have ne : ∀ k : Nat, 5 ≤ k → k < 100 → ¬ nI q = nI k := fun k hk hk2 => by rw [nEQ _ _ (by omega) (by omega)]; omega
  rw [if_neg n5, if_neg (show ¬ nI q = 5 from ne 5 (by omega) (by omega)), if_neg (show ¬ nI q = 6 from ne 6 (by omega) (by omega)), if_neg (show ¬ nI q = 7 from ne 7 (by omega) (by omega)), if_neg (show ¬ nI q = 8 from ne 8 (by omega) (by omega)), if_neg (show ¬ nI q = 9 from ne 9 (by omega) (by omega)), if_neg (show ¬ nI q = 10 from ne 10 (by omega) (by omega)), if_neg (show ¬ nI q = 11 from ne 11 (by omega) (by omega))]
  have ea : fX6_addresses X1 = some (nI (D * S * C), X1) := by unfold fX6_addresses; rw [x0, x1, x2, pk_mul, pk_mul]
  obtain ⟨r1, X2, M2, p1, p2, p3, p4, p5, q1, hq1, rfl⟩ := J_draw (m := D * S * C) (by omega) (by omega) rfl m6 d5
  have p5' : (g_put X2 32 0 (nI q1)).2 31 = M2.2 0 := p5
  obtain ⟨r2, X3, M3, s1, s2, s3, s4, s5, q2, hq2, rfl⟩ := J_draw (σX := g_put X2 32 0 (nI q1)) (m := 256) (vX := 256) (vM := 256) (by omega) (by omega) rfl rfl p5'
  have fX : gw [32] [] σX (g_put X3 32 1 (nI q2)) := gw_trans (gw_eq d3) (gw_trans (gw_eq p3) (gw_trans (gw_put _ _ _ (by simp) (by decide)) (gw_trans (gw_eq s3) (gw_put _ _ _ (by simp) (by decide)))))
  have fM : M3.1 = σM.1 := by rw [s4, p4, d4]
  obtain ⟨y, τX, τM, t1, t2, t3, t4, t5, t6⟩ := y_one (k := 0) (rr := 0) (a' := nI q1) (b' := nI q2) (c' := 0) (d' := 0) (fin fX fM) (by omega) rfl (by omega) (by omega) (show (g_put X3 32 1 (nI q2)).2 31 = M3.2 0 from s5) (fun _ => by rw [gp_k, if_neg (by decide), s3, gp_s]) (fun _ => gp_s _ _ _ _) (fun z => absurd z (by decide)) (fun z => absurd z (by decide))
  obtain ⟨u1, u2⟩ := up (y := 0) fX fM t5 t6
  rw [ea, b_I, p1, b_I, b_L, s1, b_I, b_L, p2, b_I, s2, b_I, t2, b_I]
  exact ⟨y, τX, τM, fun K => (b_I _ _ _).trans (t1 K), rfl, BIx_gw (by omega) t3 (gw_refl [] [] _) (gw_refl [] [] _) (by decide) (by decide) (by decide), t4, u1, u2⟩
theorem yc_9 (hB : BIx D S C F B σX σM) (hb : B + 1 < 999999) {q : Nat} {X1 M1 : gM} (d1 : fX0_draw 12 σX = some (nI q, X1)) (d2 : fX12_draw 12 σM = some (nI q, M1)) (d3 : X1.1 = σX.1) (d4 : M1.1 = σM.1) (d5 : X1.2 31 = M1.2 0) (hq : q = 9) : ∃ (y : Int32) (τX τM : gM), (∀ K, g_bI (fX0_year σX) (fun r σ => yB 1000 r K σ) = K τX) ∧ fX12_happens 1000 σM = some (y, τM) ∧ BIx D S C F (B + 2) τX τM ∧ τX.2 31 = τM.2 0 ∧ gw yL [14] σX τX ∧ gw yM yJ σM τM := by
  have hwf : wfP D S C F ∧ (∀ τ : gM, τ.1 5 = σX.1 5 → XR D S C F τ) ∧ ∀ τ : gM, (τ.1 3 = σM.1 3) → τ.1 0 = σM.1 0 → MR D S C F τ := by
    obtain ⟨s, E, a, hh, e, g, Hs, haB, hI⟩ := id hB
    refine ⟨hI.xe.1, fun τ h5 => ?_, fun τ h3 h0 => ?_⟩
    · unfold XR
      rw [h5]
      exact hI.xe.2.1
    · unfold MR
      rw [h3, h0]
      exact hI.me.2.1
  obtain ⟨hw, hXR, hMR⟩ := hwf
  obtain ⟨w1, w2, w3, w4, w5, w6, w7⟩ := id hw
  have hDSC := DSC_lt hw
  obtain ⟨x0, x1, x2, x3, x5, x6, x7, x8, x9⟩ := hXR X1 (by rw [d3])
  obtain ⟨m0, m1, m2, m3, m5, m6⟩ := hMR M1 (by rw [d4]) (by rw [d4])
  -- states reached from here on: X by the long and place 32, M by the long alone
  have fin : ∀ {X' M' : gM}, gw [32] [] σX X' → M'.1 = σM.1 → BIx D S C F B X' M' := fun fX fM => BIx_gw (Nat.le_refl _) hB fX (gw_eq (L := []) (J := []) fM) (by decide) (by decide) (by decide)
  have up : ∀ {y : Int32} {τX τM X' M' : gM}, gw [32] [] σX X' → M'.1 = σM.1 → gw yL [14] X' τX → gw yM yJ M' τM → gw yL [14] σX τX ∧ gw yM yJ σM τM := fun fX fM gX gM => ⟨gw_trans (gw_mono fX (by unfold yL; simp) (by simp)) gX, gw_trans (gw_eq fM) gM⟩
  unfold fX0_year fX12_happens
  rw [d1, b_I, d2, b_I]
  have n5 : (5 : Int32) ≤ nI q := by rw [show (5 : Int32) = nI 5 from rfl, nLE _ _ (by omega) (by omega)]; omega
  rw [if_pos n5]
  subst hq
  rw [if_neg (by decide), if_neg (by decide), if_neg (by decide), if_neg (by decide), if_pos (by decide), if_pos (by decide)]
  obtain ⟨r1, X2, M2, p1, p2, p3, p4, p5, q1, hq1, rfl⟩ := J_draw (m := S) (by omega) (by omega) x1 m1 d5
  have fX : gw [32] [] σX (g_put X2 32 0 (nI q1 + 1)) := gw_trans (gw_eq d3) (gw_trans (gw_eq p3) (gw_put _ _ _ (by simp) (by decide)))
  have fM : M2.1 = σM.1 := by rw [p4, d4]
  obtain ⟨y, τX, τM, t1, t2, t3, t4, t5, t6⟩ := y_one (k := 4) (rr := 4) (a' := nI q1 + 1) (b' := 0) (c' := 0) (d' := 0) (fin fX fM) (by omega) rfl (by omega) (by omega) (show (g_put X2 32 0 (nI q1 + 1)).2 31 = M2.2 0 from p5) (fun _ => gp_s _ _ _ _) (fun z => absurd z (by decide)) (fun z => absurd z (by decide)) (fun z => absurd z (by decide))
  obtain ⟨u1, u2⟩ := up (y := 0) fX fM t5 t6
  rw [p1, b_I, b_L, p2, b_I, t2, b_I]
  exact ⟨y, τX, τM, fun K => (b_I _ _ _).trans (t1 K), rfl, BIx_gw (by omega) t3 (gw_refl [] [] _) (gw_refl [] [] _) (by decide) (by decide) (by decide), t4, u1, u2⟩
theorem yc_11 (hB : BIx D S C F B σX σM) (hb : B + 1 < 999999) {q : Nat} {X1 M1 : gM} (d1 : fX0_draw 12 σX = some (nI q, X1)) (d2 : fX12_draw 12 σM = some (nI q, M1)) (d3 : X1.1 = σX.1) (d4 : M1.1 = σM.1) (d5 : X1.2 31 = M1.2 0) (hq : q = 11) : ∃ (y : Int32) (τX τM : gM), (∀ K, g_bI (fX0_year σX) (fun r σ => yB 1000 r K σ) = K τX) ∧ fX12_happens 1000 σM = some (y, τM) ∧ BIx D S C F (B + 2) τX τM ∧ τX.2 31 = τM.2 0 ∧ gw yL [14] σX τX ∧ gw yM yJ σM τM := by
  have hwf : wfP D S C F ∧ (∀ τ : gM, τ.1 5 = σX.1 5 → XR D S C F τ) ∧ ∀ τ : gM, (τ.1 3 = σM.1 3) → τ.1 0 = σM.1 0 → MR D S C F τ := by
    obtain ⟨s, E, a, hh, e, g, Hs, haB, hI⟩ := id hB
    refine ⟨hI.xe.1, fun τ h5 => ?_, fun τ h3 h0 => ?_⟩
    · unfold XR
      rw [h5]
      exact hI.xe.2.1
    · unfold MR
      rw [h3, h0]
      exact hI.me.2.1
  obtain ⟨hw, hXR, hMR⟩ := hwf
  obtain ⟨w1, w2, w3, w4, w5, w6, w7⟩ := id hw
  have hDSC := DSC_lt hw
  obtain ⟨x0, x1, x2, x3, x5, x6, x7, x8, x9⟩ := hXR X1 (by rw [d3])
  obtain ⟨m0, m1, m2, m3, m5, m6⟩ := hMR M1 (by rw [d4]) (by rw [d4])
  -- states reached from here on: X by the long and place 32, M by the long alone
  have fin : ∀ {X' M' : gM}, gw [32] [] σX X' → M'.1 = σM.1 → BIx D S C F B X' M' := fun fX fM => BIx_gw (Nat.le_refl _) hB fX (gw_eq (L := []) (J := []) fM) (by decide) (by decide) (by decide)
  have up : ∀ {y : Int32} {τX τM X' M' : gM}, gw [32] [] σX X' → M'.1 = σM.1 → gw yL [14] X' τX → gw yM yJ M' τM → gw yL [14] σX τX ∧ gw yM yJ σM τM := fun fX fM gX gM => ⟨gw_trans (gw_mono fX (by unfold yL; simp) (by simp)) gX, gw_trans (gw_eq fM) gM⟩
  unfold fX0_year fX12_happens
  rw [d1, b_I, d2, b_I]
  have n5 : (5 : Int32) ≤ nI q := by rw [show (5 : Int32) = nI 5 from rfl, nLE _ _ (by omega) (by omega)]; omega
  rw [if_pos n5]
  subst hq
  rw [if_neg (by decide), if_neg (by decide), if_neg (by decide), if_neg (by decide), if_neg (by decide), if_neg (by decide), if_pos (by decide), if_neg (by decide), if_pos (by decide)]
  unfold fX12_happensTorn
  have ea : fX6_addresses X1 = some (nI (D * S * C), X1) := by unfold fX6_addresses; rw [x0, x1, x2, pk_mul, pk_mul]
  obtain ⟨r1, X2, M2, p1, p2, p3, p4, p5, q1, hq1, rfl⟩ := J_draw (m := D * S * C) (by omega) (by omega) rfl m6 d5
  have p5' : (g_put X2 32 0 (nI q1)).2 31 = M2.2 0 := p5
  obtain ⟨r2, X3, M3, s1, s2, s3, s4, s5, q2, hq2, rfl⟩ := J_draw (σX := g_put X2 32 0 (nI q1)) (m := 256) (vX := 256) (vM := 256) (by omega) (by omega) rfl rfl p5'
  have s5' : (g_put X3 32 1 (nI q2)).2 31 = M3.2 0 := s5
  obtain ⟨r3, X4, M4, v1, v2, v3, v4, v5, q3, hq3, rfl⟩ := J_draw (σX := g_put X3 32 1 (nI q2)) (m := 3) (vX := 3) (vM := 3) (by omega) (by omega) rfl rfl s5'
  have fX : gw [32] [] σX (g_put X4 32 2 (nI q3)) := gw_trans (gw_eq d3) (gw_trans (gw_eq p3) (gw_trans (gw_put _ _ _ (by simp) (by decide)) (gw_trans (gw_eq s3) (gw_trans (gw_put _ _ _ (by simp) (by decide)) (gw_trans (gw_eq v3) (gw_put _ _ _ (by simp) (by decide)))))))
  have fM : M4.1 = σM.1 := by rw [v4, s4, p4, d4]
  obtain ⟨y, y2, τ1, τX, τM, t1, t2, t2', t3, t4, t5, t6⟩ := y_torn (d' := 0) (fin fX fM) (by omega) (show (g_put X4 32 2 (nI q3)).2 31 = M4.2 0 from v5)
  obtain ⟨u1, u2⟩ := up (y := 0) fX fM t5 t6
  rw [show (g_put X4 32 2 (nI q3)).1 32 0 = nI q1 from by rw [gp_k, if_neg (by decide), v3, gp_k, if_neg (by decide), s3, gp_s], show (g_put X4 32 2 (nI q3)).1 32 1 = nI q2 from by rw [gp_k, if_neg (by decide), v3, gp_s], gp_s] at t2
  rw [ea, b_I, p1, b_I, b_L, s1, b_I, b_L, v1, b_I, b_L, p2, b_I, s2, b_I, v2, b_I, t2, b_I, t2', b_I, b_I]
  exact ⟨y2, τX, τM, fun K => (b_I _ _ _).trans (t1 K), rfl, t3, t4, u1, u2⟩
theorem yc_56 (hB : BIx D S C F B σX σM) (hb : B + 1 < 999999) {q : Nat} {X1 M1 : gM} (d1 : fX0_draw 12 σX = some (nI q, X1)) (d2 : fX12_draw 12 σM = some (nI q, M1)) (d3 : X1.1 = σX.1) (d4 : M1.1 = σM.1) (d5 : X1.2 31 = M1.2 0) (hq : q = 5 ∨ q = 6) : ∃ (y : Int32) (τX τM : gM), (∀ K, g_bI (fX0_year σX) (fun r σ => yB 1000 r K σ) = K τX) ∧ fX12_happens 1000 σM = some (y, τM) ∧ BIx D S C F (B + 2) τX τM ∧ τX.2 31 = τM.2 0 ∧ gw yL [14] σX τX ∧ gw yM yJ σM τM := by
  have hwf : wfP D S C F ∧ (∀ τ : gM, τ.1 5 = σX.1 5 → XR D S C F τ) ∧ ∀ τ : gM, (τ.1 3 = σM.1 3) → τ.1 0 = σM.1 0 → MR D S C F τ := by
    obtain ⟨s, E, a, hh, e, g, Hs, haB, hI⟩ := id hB
    refine ⟨hI.xe.1, fun τ h5 => ?_, fun τ h3 h0 => ?_⟩
    · unfold XR
      rw [h5]
      exact hI.xe.2.1
    · unfold MR
      rw [h3, h0]
      exact hI.me.2.1
  obtain ⟨hw, hXR, hMR⟩ := hwf
  obtain ⟨w1, w2, w3, w4, w5, w6, w7⟩ := id hw
  have hDSC := DSC_lt hw
  obtain ⟨x0, x1, x2, x3, x5, x6, x7, x8, x9⟩ := hXR X1 (by rw [d3])
  obtain ⟨m0, m1, m2, m3, m5, m6⟩ := hMR M1 (by rw [d4]) (by rw [d4])
  -- states reached from here on: X by the long and place 32, M by the long alone
  have fin : ∀ {X' M' : gM}, gw [32] [] σX X' → M'.1 = σM.1 → BIx D S C F B X' M' := fun fX fM => BIx_gw (Nat.le_refl _) hB fX (gw_eq (L := []) (J := []) fM) (by decide) (by decide) (by decide)
  have up : ∀ {y : Int32} {τX τM X' M' : gM}, gw [32] [] σX X' → M'.1 = σM.1 → gw yL [14] X' τX → gw yM yJ M' τM → gw yL [14] σX τX ∧ gw yM yJ σM τM := fun fX fM gX gM => ⟨gw_trans (gw_mono fX (by unfold yL; simp) (by simp)) gX, gw_trans (gw_eq fM) gM⟩
  unfold fX0_year fX12_happens
  rw [d1, b_I, d2, b_I]
  have n5 : (5 : Int32) ≤ nI q := by rw [show (5 : Int32) = nI 5 from rfl, nLE _ _ (by omega) (by omega)]; omega
  rw [if_pos n5]
  have c := hq
  have hm4 : ∃ k, (k = 1 ∨ k = 2) ∧ nI q - 4 = nI k ∧ (∀ K : gM → Option (Int32 × gM), ∀ (A B' C' : Option (Int32 × gM)), True) := by
    rcases c with rfl | rfl
    · exact ⟨1, Or.inl rfl, by decide, fun _ _ _ _ => trivial⟩
    · exact ⟨2, Or.inr rfl, by decide, fun _ _ _ _ => trivial⟩
  obtain ⟨r1, X2, M2, p1, p2, p3, p4, p5, q1, hq1, rfl⟩ := J_draw (m := D + 2) (by omega) (by omega) x5 m5 d5
  have fX : gw [32] [] σX (g_put X2 32 0 (nI q1)) := gw_trans (gw_eq d3) (gw_trans (gw_eq p3) (gw_put _ _ _ (by simp) (by decide)))
  have fM : M2.1 = σM.1 := by rw [p4, d4]
  have sx : (g_put X2 32 0 (nI q1)).2 31 = M2.2 0 := p5
  rcases c with rfl | rfl
  · obtain ⟨y, τX, τM, t1, t2, t3, t4, t5, t6⟩ := y_one (k := 1) (rr := 1) (a' := nI q1) (b' := 0) (c' := 0) (d' := 0) (fin fX fM) (by omega) rfl (by omega) (by omega) sx (fun _ => gp_s _ _ _ _) (fun z => absurd z (by decide)) (fun z => absurd z (by decide)) (fun z => absurd z (by decide))
    obtain ⟨u1, u2⟩ := up (y := 0) fX fM t5 t6
    rw [if_pos (by decide), if_neg (by decide), if_neg (by decide), p1, b_I, b_L, p2, b_I, if_neg (by decide), show nI 5 - 4 = 1 from by decide, t2, b_I]
    exact ⟨y, τX, τM, fun K => (b_I _ _ _).trans (t1 K), rfl, BIx_gw (by omega) t3 (gw_refl [] [] _) (gw_refl [] [] _) (by decide) (by decide) (by decide), t4, u1, u2⟩
  · obtain ⟨y, τX, τM, t1, t2, t3, t4, t5, t6⟩ := y_one (k := 2) (rr := 2) (a' := nI q1) (b' := 0) (c' := 0) (d' := 0) (fin fX fM) (by omega) rfl (by omega) (by omega) sx (fun _ => gp_s _ _ _ _) (fun z => absurd z (by decide)) (fun z => absurd z (by decide)) (fun z => absurd z (by decide))
    obtain ⟨u1, u2⟩ := up (y := 0) fX fM t5 t6
    rw [if_neg (by decide), if_pos (by decide), if_neg (by decide), if_neg (by decide), p1, b_I, b_L, p2, b_I, if_neg (by decide), show nI 6 - 4 = 2 from by decide, t2, b_I]
    exact ⟨y, τX, τM, fun K => (b_I _ _ _).trans (t1 K), rfl, BIx_gw (by omega) t3 (gw_refl [] [] _) (gw_refl [] [] _) (by decide) (by decide) (by decide), t4, u1, u2⟩
theorem yc_78 (hB : BIx D S C F B σX σM) (hb : B + 1 < 999999) {q : Nat} {X1 M1 : gM} (d1 : fX0_draw 12 σX = some (nI q, X1)) (d2 : fX12_draw 12 σM = some (nI q, M1)) (d3 : X1.1 = σX.1) (d4 : M1.1 = σM.1) (d5 : X1.2 31 = M1.2 0) (hq : q = 7 ∨ q = 8) : ∃ (y : Int32) (τX τM : gM), (∀ K, g_bI (fX0_year σX) (fun r σ => yB 1000 r K σ) = K τX) ∧ fX12_happens 1000 σM = some (y, τM) ∧ BIx D S C F (B + 2) τX τM ∧ τX.2 31 = τM.2 0 ∧ gw yL [14] σX τX ∧ gw yM yJ σM τM := by
  have hwf : wfP D S C F ∧ (∀ τ : gM, τ.1 5 = σX.1 5 → XR D S C F τ) ∧ ∀ τ : gM, (τ.1 3 = σM.1 3) → τ.1 0 = σM.1 0 → MR D S C F τ := by
    obtain ⟨s, E, a, hh, e, g, Hs, haB, hI⟩ := id hB
    refine ⟨hI.xe.1, fun τ h5 => ?_, fun τ h3 h0 => ?_⟩
    · unfold XR
      rw [h5]
      exact hI.xe.2.1
    · unfold MR
      rw [h3, h0]
      exact hI.me.2.1
  obtain ⟨hw, hXR, hMR⟩ := hwf
  obtain ⟨w1, w2, w3, w4, w5, w6, w7⟩ := id hw
  have hDSC := DSC_lt hw
  obtain ⟨x0, x1, x2, x3, x5, x6, x7, x8, x9⟩ := hXR X1 (by rw [d3])
  obtain ⟨m0, m1, m2, m3, m5, m6⟩ := hMR M1 (by rw [d4]) (by rw [d4])
  -- states reached from here on: X by the long and place 32, M by the long alone
  have fin : ∀ {X' M' : gM}, gw [32] [] σX X' → M'.1 = σM.1 → BIx D S C F B X' M' := fun fX fM => BIx_gw (Nat.le_refl _) hB fX (gw_eq (L := []) (J := []) fM) (by decide) (by decide) (by decide)
  have up : ∀ {y : Int32} {τX τM X' M' : gM}, gw [32] [] σX X' → M'.1 = σM.1 → gw yL [14] X' τX → gw yM yJ M' τM → gw yL [14] σX τX ∧ gw yM yJ σM τM := fun fX fM gX gM => ⟨gw_trans (gw_mono fX (by unfold yL; simp) (by simp)) gX, gw_trans (gw_eq fM) gM⟩
  unfold fX0_year fX12_happens
  rw [d1, b_I, d2, b_I]
  have n5 : (5 : Int32) ≤ nI q := by rw [show (5 : Int32) = nI 5 from rfl, nLE _ _ (by omega) (by omega)]; omega
  rw [if_pos n5]
  have c := hq
  obtain ⟨r1, X2, M2, p1, p2, p3, p4, p5, q1, hq1, rfl⟩ := J_draw (m := D + 2) (by omega) (by omega) x5 m5 d5
  have p5' : (g_put X2 32 0 (nI q1)).2 31 = M2.2 0 := p5
  have xs1 : (g_put X2 32 0 (nI q1)).1 5 1 = nI S := by rw [gp_o (by decide), p3]; exact x1
  have ms1 : M2.1 3 1 = nI S := by rw [p4]; exact m1
  obtain ⟨r2, X3, M3, s1, s2, s3, s4, s5, q2, hq2, rfl⟩ := J_draw (σX := g_put X2 32 0 (nI q1)) (m := S) (by omega) (by omega) xs1 ms1 p5'
  have fX : gw [32] [] σX (g_put X3 32 1 (nI q2 + 1)) := gw_trans (gw_eq d3) (gw_trans (gw_eq p3) (gw_trans (gw_put _ _ _ (by simp) (by decide)) (gw_trans (gw_eq s3) (gw_put _ _ _ (by simp) (by decide)))))
  have fM : M3.1 = σM.1 := by rw [s4, p4, d4]
  obtain ⟨y, τX, τM, t1, t2, t3, t4, t5, t6⟩ := y_one (k := 3) (rr := 3) (a' := nI q1) (b' := nI q2 + 1) (c' := 0) (d' := 0) (fin fX fM) (by omega) rfl (by omega) (by omega) (show (g_put X3 32 1 (nI q2 + 1)).2 31 = M3.2 0 from s5) (fun _ => by rw [gp_k, if_neg (by decide), s3, gp_s]) (fun _ => gp_s _ _ _ _) (fun z => absurd z (by decide)) (fun z => absurd z (by decide))
  obtain ⟨u1, u2⟩ := up (y := 0) fX fM t5 t6
  rcases c with rfl | rfl
  · rw [if_neg (by decide), if_neg (by decide), if_pos (by decide), if_neg (by decide), if_neg (by decide), p1, b_I, b_L, s1, b_I, b_L, p2, b_I, if_pos (by decide), s2, b_I, if_neg (by decide), t2, b_I]
    exact ⟨y, τX, τM, fun K => (b_I _ _ _).trans (t1 K), rfl, BIx_gw (by omega) t3 (gw_refl [] [] _) (gw_refl [] [] _) (by decide) (by decide) (by decide), t4, u1, u2⟩
  · rw [if_neg (by decide), if_neg (by decide), if_neg (by decide), if_pos (by decide), if_neg (by decide), if_neg (by decide), p1, b_I, b_L, s1, b_I, b_L, p2, b_I, if_pos (by decide), s2, b_I, if_neg (by decide), t2, b_I]
    exact ⟨y, τX, τM, fun K => (b_I _ _ _).trans (t1 K), rfl, BIx_gw (by omega) t3 (gw_refl [] [] _) (gw_refl [] [] _) (by decide) (by decide) (by decide), t4, u1, u2⟩
theorem yc_10 (hB : BIx D S C F B σX σM) (hb : B + 1 < 999999) {q : Nat} {X1 M1 : gM} (d1 : fX0_draw 12 σX = some (nI q, X1)) (d2 : fX12_draw 12 σM = some (nI q, M1)) (d3 : X1.1 = σX.1) (d4 : M1.1 = σM.1) (d5 : X1.2 31 = M1.2 0) (hq : q = 10) : ∃ (y : Int32) (τX τM : gM), (∀ K, g_bI (fX0_year σX) (fun r σ => yB 1000 r K σ) = K τX) ∧ fX12_happens 1000 σM = some (y, τM) ∧ BIx D S C F (B + 2) τX τM ∧ τX.2 31 = τM.2 0 ∧ gw yL [14] σX τX ∧ gw yM yJ σM τM := by
  have hwf : wfP D S C F ∧ (∀ τ : gM, τ.1 5 = σX.1 5 → XR D S C F τ) ∧ ∀ τ : gM, (τ.1 3 = σM.1 3) → τ.1 0 = σM.1 0 → MR D S C F τ := by
    obtain ⟨s, E, a, hh, e, g, Hs, haB, hI⟩ := id hB
    refine ⟨hI.xe.1, fun τ h5 => ?_, fun τ h3 h0 => ?_⟩
    · unfold XR
      rw [h5]
      exact hI.xe.2.1
    · unfold MR
      rw [h3, h0]
      exact hI.me.2.1
  obtain ⟨hw, hXR, hMR⟩ := hwf
  obtain ⟨w1, w2, w3, w4, w5, w6, w7⟩ := id hw
  have hDSC := DSC_lt hw
  obtain ⟨x0, x1, x2, x3, x5, x6, x7, x8, x9⟩ := hXR X1 (by rw [d3])
  obtain ⟨m0, m1, m2, m3, m5, m6⟩ := hMR M1 (by rw [d4]) (by rw [d4])
  -- states reached from here on: X by the long and place 32, M by the long alone
  have fin : ∀ {X' M' : gM}, gw [32] [] σX X' → M'.1 = σM.1 → BIx D S C F B X' M' := fun fX fM => BIx_gw (Nat.le_refl _) hB fX (gw_eq (L := []) (J := []) fM) (by decide) (by decide) (by decide)
  have up : ∀ {y : Int32} {τX τM X' M' : gM}, gw [32] [] σX X' → M'.1 = σM.1 → gw yL [14] X' τX → gw yM yJ M' τM → gw yL [14] σX τX ∧ gw yM yJ σM τM := fun fX fM gX gM => ⟨gw_trans (gw_mono fX (by unfold yL; simp) (by simp)) gX, gw_trans (gw_eq fM) gM⟩
  unfold fX0_year fX12_happens
  rw [d1, b_I, d2, b_I]
  have n5 : (5 : Int32) ≤ nI q := by rw [show (5 : Int32) = nI 5 from rfl, nLE _ _ (by omega) (by omega)]; omega
  rw [if_pos n5]
  subst hq
  obtain ⟨r1, X2, M2, p1, p2, p3, p4, p5, q1, hq1, rfl⟩ := J_draw (m := D + 2) (by omega) (by omega) x5 m5 d5
  have p5' : (g_put X2 32 0 (nI q1)).2 31 = M2.2 0 := p5
  have xs1 : (g_put X2 32 0 (nI q1)).1 5 1 = nI S := by rw [gp_o (by decide), p3]; exact x1
  have ms1 : M2.1 3 1 = nI S := by rw [p4]; exact m1
  obtain ⟨r2, X3, M3, s1, s2, s3, s4, s5, q2, hq2, rfl⟩ := J_draw (σX := g_put X2 32 0 (nI q1)) (m := S) (by omega) (by omega) xs1 ms1 p5'
  have s5' : (g_put X3 32 1 (nI q2)).2 31 = M3.2 0 := s5
  have xs2 : (g_put X3 32 1 (nI q2)).1 5 2 = nI C := by rw [gp_o (by decide), s3, gp_o (by decide), p3]; exact x2
  have ms2 : M3.1 3 2 = nI C := by rw [s4, p4]; exact m2
  obtain ⟨r3, X4, M4, v1, v2, v3, v4, v5, q3, hq3, rfl⟩ := J_draw (σX := g_put X3 32 1 (nI q2)) (m := C) (by omega) (by omega) xs2 ms2 s5'
  have v5' : (g_put X4 32 2 (nI q3)).2 31 = M4.2 0 := v5
  obtain ⟨r4, X5, M5, k1, k2, k3, k4, k5, q4, hq4, rfl⟩ := J_draw (σX := g_put X4 32 2 (nI q3)) (m := 255) (vX := 255) (vM := 255) (by omega) (by omega) rfl rfl v5'
  have fX : gw [32] [] σX (g_put X5 32 3 (nI q4 + 1)) := gw_trans (gw_eq d3) (gw_trans (gw_eq p3) (gw_trans (gw_put _ _ _ (by simp) (by decide)) (gw_trans (gw_eq s3) (gw_trans (gw_put _ _ _ (by simp) (by decide)) (gw_trans (gw_eq v3) (gw_trans (gw_put _ _ _ (by simp) (by decide)) (gw_trans (gw_eq k3) (gw_put _ _ _ (by simp) (by decide)))))))))
  have fM : M5.1 = σM.1 := by rw [k4, v4, s4, p4, d4]
  obtain ⟨y, τX, τM, t1, t2, t3, t4, t5, t6⟩ := y_one (k := 5) (rr := 5) (a' := nI q1) (b' := nI q2) (c' := nI q3) (d' := nI q4 + 1) (fin fX fM) (by omega) rfl (by omega) (by omega) (show (g_put X5 32 3 (nI q4 + 1)).2 31 = M5.2 0 from k5) (fun _ => by rw [gp_k, if_neg (by decide), k3, gp_k, if_neg (by decide), v3, gp_k, if_neg (by decide), s3, gp_s]) (fun _ => by rw [gp_k, if_neg (by decide), k3, gp_k, if_neg (by decide), v3, gp_s]) (fun _ => by rw [gp_k, if_neg (by decide), k3, gp_s]) (fun _ => gp_s _ _ _ _)
  obtain ⟨u1, u2⟩ := up (y := 0) fX fM t5 t6
  rw [if_neg (by decide), if_neg (by decide), if_neg (by decide), if_neg (by decide), if_neg (by decide), if_pos (by decide), if_neg (by decide), if_neg (by decide), p1, b_I, b_L, s1, b_I, b_L, v1, b_I, b_L, k1, b_I, b_L, p2, b_I, if_pos (by decide), s2, b_I, if_pos (by decide), v2, b_I, k2, b_I, t2, b_I]
  exact ⟨y, τX, τM, fun K => (b_I _ _ _).trans (t1 K), rfl, BIx_gw (by omega) t3 (gw_refl [] [] _) (gw_refl [] [] _) (by decide) (by decide) (by decide), t4, u1, u2⟩
theorem J_happen (hB : BIx D S C F B σX σM) (hb : B + 1 < 999999) (hx : σX.2 31 = σM.2 0) :
    ∃ (y : Int32) (τX τM : gM), (∀ K, g_bI (fX0_year σX) (fun r σ => yB 1000 r K σ) = K τX) ∧ fX12_happens 1000 σM = some (y, τM) ∧ BIx D S C F (B + 2) τX τM ∧ τX.2 31 = τM.2 0 ∧ gw yL [14] σX τX ∧ gw yM yJ σM τM := by
  obtain ⟨r, X1, M1, d1, d2, d3, d4, d5, q, hq, rfl⟩ := J_draw (m := 12) (vX := 12) (vM := 12) (by omega) (by omega) rfl rfl hx
  rcases (show q < 5 ∨ q = 9 ∨ q = 11 ∨ (q = 5 ∨ q = 6) ∨ (q = 7 ∨ q = 8) ∨ q = 10 by omega) with c | c | c | c | c | c
  · exact yc_w hB hb d1 d2 d3 d4 d5 c
  · exact yc_9 hB hb d1 d2 d3 d4 d5 c
  · exact yc_11 hB hb d1 d2 d3 d4 d5 c
  · exact yc_56 hB hb d1 d2 d3 d4 d5 c
  · exact yc_78 hB hb d1 d2 d3 d4 d5 c
  · exact yc_10 hB hb d1 d2 d3 d4 d5 c
end YRS
