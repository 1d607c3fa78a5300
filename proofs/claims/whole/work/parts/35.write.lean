/-! a write -/
theorem ct_perm {D t : Nat} {q : Nat → Bool} (h1 : D < 7) (h2 : 2 ≤ D) (ht : t < 12) : ct (fun r => q (dk D t r)) (D + 2) = ct q (D + 2) := by
  have h := ct_perm0 D h1 h2 t ht (bm q (D + 2)) (bm_lt8 (by omega))
  have e : ct (fun r => (bm q (D + 2)).testBit r) (D + 2) = ct q (D + 2) := ct_ext fun k hk => by rw [bm_tb]; simp [hk]
  rw [e] at h
  rw [← h]
  apply ct_ext
  intro r hr
  rw [bm_tb]
  have := (dk_ok D h1 h2 t ht r hr).1
  simp [this]
theorem ct_mono {p q : Nat → Bool} : ∀ {n : Nat}, (∀ k, k < n → p k = true → q k = true) → ct p n ≤ ct q n
  | 0, _ => Nat.le_refl _
  | n + 1, h => by
    have a := ct_mono (n := n) fun k hk => h k (by omega)
    rw [ct, ct]
    by_cases c : p n = true
    · rw [if_pos c, if_pos (h n (by omega) c)]; omega
    · rw [if_neg c]; omega
theorem th_two {D S C t : Nat} {s : Sh} (h1 : D < 7) (h2 : 2 ≤ D) (hS : S ≤ 12) (ht : t < S) (hO : Ok D S C s) : ct (fun r => !th D s t r) (D + 2) ≤ 2 := by
  refine Nat.le_trans (ct_mono (q := fun r => decide (s.how (dk D t r) ≠ 0)) ?_) (by rw [ct_perm (q := fun d => decide (s.how d ≠ 0)) h1 h2 (by omega)]; exact hO.two)
  intro k hk hp
  have hd := (dk_ok D h1 h2 t (by omega) k hk).1
  simp only [th, Bool.not_eq_true', decide_eq_false_iff_not] at hp
  simp only [decide_eq_true_eq]
  intro z
  have := hO.h0 _ (by omega) z
  omega
theorem ud_ne {v : Nat → Nat} {i x r : Nat} (h : r ≠ i) : ud v i x r = v r := by unfold ud; rw [if_neg h]
theorem ud_eq {v : Nat → Nat} {i x : Nat} : ud v i x i = x := by unfold ud; rw [if_pos rfl]
theorem so_is {F D r : Nat} {is : Nat → Bool} {v : Nat → Nat} (h2 : ct (fun r => !is r) (D + 2) ≤ 2) (h : is r = true) : so F D is v r = v r := by
  have k1 : so1 F D is v r = v r := by
    unfold so1
    rcases mi_cls h2 with ⟨a1, a2⟩ | ⟨a1, a2, a3, a4⟩ | ⟨a1, a2, a3, a4, a5, a6, a7⟩
    · rw [if_pos a1]
    · rw [if_neg (by omega), if_pos a2, ud_ne (fun e => by rw [e, a3] at h; exact absurd h (by decide))]
    · rw [if_neg (by omega), if_neg (by omega), ud_ne (fun e => by rw [e, a4] at h; exact absurd h (by decide)), ud_ne (fun e => by rw [e, a3] at h; exact absurd h (by decide))]
  have k2 : so2 F D is v r = v r := by
    unfold so2
    by_cases c : is D = true
    · rw [if_pos c, k1]
    · rw [if_neg c, ud_ne (fun e => by rw [e] at h; exact c h), k1]
  unfold so
  by_cases c : is (D + 1) = true
  · rw [if_pos c, k2]
  · rw [if_neg c, ud_ne (fun e => by rw [e] at h; exact c h), k2]
def nr (F D : Nat) (v : Nat → Nat) (part x w : Nat) : Nat → Nat := if w = 0 then ud (ud (ud v part x) D (v D ^^^ (v part ^^^ x))) (D + 1) (v (D + 1) ^^^ gm F (v part ^^^ x) (pw F part)) else ud (ud (ud v part x) D (sp (ud v part x) D)) (D + 1) (sq F (ud v part x) D)
def gv (F D : Nat) (s : Sh) (t b : Nat) : Nat → Nat := so F D (th D s t) (vl D s t b (th D s t))
def wS (F D : Nat) (s : Sh) (t b part x : Nat) : Sh := ((s.w_rd (cn D t (rp D (th D s t) part (wy D (th D s t) part)) s.rd)).w_byt (bs D t b (wp D (th D s t) part) (nr F D (gv F D s t b) part x (wy D (th D s t) part)) s.byt)).w_wr (cn D t (wp D (th D s t) part) s.wr)
theorem wy_lt (D : Nat) (is : Nat → Bool) (part : Nat) : wy D is part < 3 := by
  unfold wy
  split
  · split <;> omega
  · split <;> omega
theorem X_reckon {D S C F n i : Nat} {v : Nat → Nat} {σ : gM} (hn : 20 ≤ n) (hE : XE D S C F σ) (hB : XB D i v σ) (hv : ∀ r, r < D + 2 → v r < 256) :
    ∃ σ', fX5_reckonSums n i σ = some σ' ∧ XB D i (ud (ud v D (sp v D)) (D + 1) (sq F v D)) σ' ∧ fr [13 + 5 * i] σ σ' := by
  obtain ⟨w1, w2, w3, w4, w5, w6, w7⟩ := hE.1
  obtain ⟨h0, h1, h2, h3, h5, h6, h7, h8, h9⟩ := hE.2.1
  have hsp : sp v D < 256 := sp_lt fun r hr => hv r (by omega)
  have f1 : fr [13 + 5 * i] σ (g_put σ (13 + 5 * i) D (nI (sp v D) &&& nI 255)) := fr_put _ _ _ (by simp)
  have hE1 := XE_fr hE f1 (by simp <;> omega) (by simp <;> omega) (by simp <;> omega) (by simp <;> omega)
  have B1 := XB_put (k := D) hB hsp
  obtain ⟨g0, g1, g2, g3, g5, g6, g7, g8, g9⟩ := hE1.2.1
  unfold fX5_reckonSums
  rw [X_sumForP hn hE hB, b_I, h6, X_rset (by omega), b_V, g0, X_sumByPowers hn hE1 B1 (ud_lt hv hsp), b_I, g7, X_rset (by omega), b_V]
  refine ⟨_, rfl, ?_, fr_trans f1 (fr_put _ _ _ (by simp))⟩
  have e : sq F (ud v D (sp v D)) D = sq F v D := sq_ext fun r hr => ud_ne (by omega)
  rw [e]
  exact XB_put B1 (sq_lt w7 D)
theorem X_change {D S C F i part x : Nat} {v : Nat → Nat} {σ : gM} (hE : XE D S C F σ) (hB : XB D i v σ) (hv : ∀ r, r < D + 2 → v r < 256) (hp : part < D) (hx : x < 256) :
    ∃ σ', fX5_change i (nI part) (nI x) σ = some σ' ∧ XB D i (ud (ud (ud v part x) D (v D ^^^ (v part ^^^ x))) (D + 1) (v (D + 1) ^^^ gm F (v part ^^^ x) (pw F part))) σ' ∧ fr [13 + 5 * i] σ σ' := by
  obtain ⟨w1, w2, w3, w4, w5, w6, w7⟩ := hE.1
  obtain ⟨h0, h1, h2, h3, h5, h6, h7, h8, h9⟩ := hE.2.1
  have vp := hv part (by omega)
  have vD := hv D (by omega)
  have vQ := hv (D + 1) (by omega)
  have f1 : fr [13 + 5 * i] σ (g_put σ (13 + 5 * i) part (nI x &&& nI 255)) := fr_put _ _ _ (by simp)
  have hE1 := XE_fr hE f1 (by simp <;> omega) (by simp <;> omega) (by simp <;> omega) (by simp <;> omega)
  have B1 := XB_put (k := part) hB hx
  have f2 := fr_trans f1 (fr_put (k := 13 + 5 * i) (g_put σ (13 + 5 * i) part (nI x &&& nI 255)) D (nI (v D ^^^ (v part ^^^ x)) &&& nI 255) (by simp))
  have hE2 := XE_fr hE f2 (by simp <;> omega) (by simp <;> omega) (by simp <;> omega) (by simp <;> omega)
  have B2 := XB_put (k := D) B1 (x8 vD (x8 vp hx))
  obtain ⟨g0, g1, g2, g3, g5, g6, g7, g8, g9⟩ := hE1.2.1
  obtain ⟨i0, i1, i2, i3, i5, i6, i7, i8, i9⟩ := hE2.2.1
  unfold fX5_change
  rw [X_rget (by omega), b_I, X_rset (by omega), b_V, g6, X_rget (by omega), b_I, hB part (by omega), B1 D (by omega), ud_ne (by omega), nx_xor, nx_xor, X_rset (by omega), b_V, i7, X_rget (by omega), b_I, B2 (D + 1) (by omega), ud_ne (by omega), ud_ne (by omega), X_power w7 hE2.2.2 (by omega), b_I, show part % 255 = part by omega, X_product w7 hE2.2.2 (x8 vp hx) (pw_lt F w7 part (by omega)).2, b_I, nx_xor, X_rset (by omega), b_V]
  exact ⟨_, rfl, XB_put B2 (x8 vQ (gm_lt w7)), fr_trans f2 (fr_put _ _ _ (by simp))⟩
theorem ad_lt {D S C a : Nat} (hC : 1 ≤ C) (hD : 2 ≤ D) (h : a < D * S * C) : a / C / D < S ∧ a / C % D < D ∧ a % C < C := by
  refine ⟨?_, Nat.mod_lt _ (by omega), Nat.mod_lt _ (by omega)⟩
  apply Nat.div_lt_of_lt_mul
  apply Nat.div_lt_of_lt_mul
  rw [Nat.mul_comm C]
  exact h
theorem ad_1000 {D S C a : Nat} (hD : D ≤ 6) (hS : S ≤ 12) (hC : C ≤ 4) (h : a < D * S * C) : a < 1000 := by
  have h1 : D * S ≤ 6 * 12 := Nat.mul_le_mul hD hS
  have h2 : D * S * C ≤ 6 * 12 * 4 := Nat.mul_le_mul h1 hC
  omega
theorem X_doWrite {D S C F n i a x : Nat} {s : Sh} {σ : gM} (hn : 20 ≤ n) (hE : XE D S C F σ) (hO : Ok D S C s) (hX : XS C s (σ.1 (11 + 5 * i))) (ha : a < D * S * C) (hx : x < 256) :
    ∃ σ', fX8_doWrite n i (nI a) (nI x) σ = some (nI (gv F D s (a / C / D) (a % C) (a / C % D)), σ') ∧ XS C (wS F D s (a / C / D) (a % C) (a / C % D) x) (σ'.1 (11 + 5 * i)) ∧ fr [11 + 5 * i, 13 + 5 * i] σ σ' := by
  have hw := hE.1
  have hw' := hw
  obtain ⟨w1, w2, w3, w4, w5, w6, w7⟩ := hw'
  have hR := hE.2.1
  have ha' := ad_1000 w2 w4 w6 ha
  obtain ⟨at1, at2, at3⟩ := ad_lt w5 w1 ha
  have hdon : ∀ d, d < 8 → s.don d < 13 := by
    intro d hd
    have := hO.how d hd
    have := hO.h0 d hd
    have := hO.h1 d hd
    have := hO.h2 d hd
    omega
  generalize ht : a / C / D = t at *
  generalize hb : a % C = b at *
  generalize hp : a / C % D = part at *
  have h2 := th_two (by omega) w1 w4 at1 hO
  obtain ⟨σ1, e1, B1, f1⟩ := X_gather (is := th D s t) hn hE hX hO.byt (by omega) at3 (fun r _ h => h) h2
  have hE1 := XE_fr hE f1 (by simp <;> omega) (by simp <;> omega) (by simp <;> omega) (by simp <;> omega)
  have hv : ∀ r, r < D + 2 → gv F D s t b r < 256 := so_lt w7 (fun r _ => th_lt hO.byt r)
  have hX1 : XS C s (σ1.1 (11 + 5 * i)) := by rw [f1.1 _ (by simp <;> omega)]; exact hX
  -- the end
  have fin : ∀ σ2 V, XE D S C F σ2 → XS C s (σ2.1 (11 + 5 * i)) → XB D i V σ2 → (∀ r, r < D + 2 → V r < 256) → V = nr F D (gv F D s t b) part x (wy D (th D s t) part) → fr [13 + 5 * i] σ σ2 → ∃ σ', fX8_doWrite_b108 n i (nI t) (nI part) (nI b) (nI (bm (fun r => !th D s t r) (D + 2))) (nI (wy D (th D s t) part)) (nI (gv F D s t b part)) σ2 = some (nI (gv F D s t b part), σ') ∧ XS C (wS F D s t b part x) (σ'.1 (11 + 5 * i)) ∧ fr [11 + 5 * i, 13 + 5 * i] σ σ' := by
    intro σ2 V hE2 hX2 B2 hV eV f2
    unfold fX8_doWrite_b108
    obtain ⟨σ3, e3, X3, f3, r3⟩ := X_countReads (p := rp D (th D s t) part (wy D (th D s t) part)) hn hE2 hX2 (show t < 12 by omega)
    have hE3 := XE_fr hE2 f3 (by simp <;> omega) (by simp <;> omega) (by simp <;> omega) (by simp <;> omega)
    have B3 := XB_fr B2 f3 (by simp <;> omega)
    obtain ⟨σ4, e4, X4, f4, r4⟩ := X_store (p := wp D (th D s t) part) hn hE3 X3 B3 hV (show t < 12 by omega) at3
    rw [X_readBits hE2 at2 (wy_lt _ _ _), b_I, e3, b_V, X_writeBits hE3 at2, b_I, e4, b_V]
    refine ⟨_, rfl, ?_, ?_⟩
    · rw [eV] at X4
      exact X4
    · exact fr_trans (fr_mono f2 (by simp)) (fr_trans (fr_mono f3 (by simp)) (fr_mono f4 (by simp)))
  unfold fX8_doWrite
  rw [X_stripeOf hw hR ha', b_I, X_partOf hw hR ha', b_I, X_byteOf hw hR ha', b_I, ht, hb, hp, X_missing hn hE hdon hX (by omega), b_I, X_wayOf hE at2, b_I, e1, b_V, X_rget (by omega), b_I, B1 part (by omega)]
  by_cases c : wy D (th D s t) part = 0
  · rw [if_pos (by rw [c]; rfl)]
    obtain ⟨σ2, e2, B2, f2⟩ := X_change hE1 B1 hv at2 hx
    rw [e2, b_V]
    refine fin σ2 _ (XE_fr hE1 f2 (by simp <;> omega) (by simp <;> omega) (by simp <;> omega) (by simp <;> omega)) (by rw [f2.1 _ (by simp <;> omega)]; exact hX1) B2 ?_ ?_ (fr_trans f1 f2)
    · exact ud_lt (ud_lt (ud_lt hv hx) (x8 (hv D (by omega)) (x8 (hv part (by omega)) hx))) (x8 (hv (D + 1) (by omega)) (gm_lt w7))
    · rw [nr, if_pos c]; rfl
  · have hwl := wy_lt D (th D s t) part
    rw [if_neg (nI_ne0 (by omega) (by omega)), X_rset (by omega), b_V]
    have f1' : fr [13 + 5 * i] σ1 (g_put σ1 (13 + 5 * i) part (nI x &&& nI 255)) := fr_put _ _ _ (by simp)
    have hE1' := XE_fr hE1 f1' (by simp <;> omega) (by simp <;> omega) (by simp <;> omega) (by simp <;> omega)
    obtain ⟨σ2, e2, B2, f2⟩ := X_reckon hn hE1' (XB_put (k := part) B1 hx) (ud_lt hv hx)
    rw [e2, b_V]
    have f2' := fr_trans f1' f2
    refine fin σ2 _ (XE_fr hE1' f2 (by simp <;> omega) (by simp <;> omega) (by simp <;> omega) (by simp <;> omega)) (by rw [f2'.1 _ (by simp <;> omega)]; exact hX1) B2 ?_ ?_ (fr_trans f1 f2')
    · exact ud_lt (ud_lt (ud_lt hv hx) (sp_lt fun r hr => ud_lt hv hx r (by omega))) (sq_lt w7 D)
    · rw [nr, if_neg c]; rfl
