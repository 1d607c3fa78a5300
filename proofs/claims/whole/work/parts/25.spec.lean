/-! sums, and what is missing solved, in numbers -/
theorem p2 {k : Nat} (h : k < 8) : 2 ^ k < 256 := (Nat.pow_lt_pow_right (by decide) h : 2 ^ k < 2 ^ 8)
theorem p12 {k : Nat} (h : k < 12) : 2 ^ k < 4096 := (Nat.pow_lt_pow_right (by decide) h : 2 ^ k < 2 ^ 12)
theorem x8 {a b : Nat} (ha : a < 256) (hb : b < 256) : a ^^^ b < 256 := Nat.xor_lt_two_pow (n := 8) ha hb
def sp (v : Nat → Nat) : Nat → Nat
  | 0 => 0
  | n + 1 => sp v n ^^^ v n
def sq (F : Nat) (v : Nat → Nat) : Nat → Nat
  | 0 => 0
  | n + 1 => sq F v n ^^^ gm F (v n) (pw F n)
def hz (F : Nat) (v : Nat → Nat) (D : Nat) : Nat → Nat
  | 0 => 0
  | k + 1 => xt F (hz F v D k) ^^^ v (D - (k + 1))
def ud (v : Nat → Nat) (i x : Nat) : Nat → Nat := fun r => if r = i then x else v r
def mi (is : Nat → Bool) : Nat → Nat → Nat
  | a, 0 => a
  | a, q + 1 => if is a then mi is (a + 1) q else a
theorem sp_lt {v : Nat → Nat} : ∀ {n : Nat}, (∀ r, r < n → v r < 256) → sp v n < 256
  | 0, _ => (by decide : 0 < 256)
  | n + 1, h => x8 (sp_lt fun r hr => h r (by omega)) (h n (by omega))
theorem sq_lt {F : Nat} {v : Nat → Nat} (hF : F < 4) : ∀ n, sq F v n < 256
  | 0 => (by decide : 0 < 256)
  | n + 1 => x8 (sq_lt hF n) (gm_lt hF)
theorem sp_ext {v w : Nat → Nat} : ∀ {n : Nat}, (∀ r, r < n → v r = w r) → sp v n = sp w n
  | 0, _ => rfl
  | n + 1, h => by rw [sp, sp, h n (by omega), sp_ext fun r hr => h r (by omega)]
theorem sq_ext {F : Nat} {v w : Nat → Nat} : ∀ {n : Nat}, (∀ r, r < n → v r = w r) → sq F v n = sq F w n
  | 0, _ => rfl
  | n + 1, h => by rw [sq, sq, h n (by omega), sq_ext fun r hr => h r (by omega)]
theorem xt_0 (F : Nat) : xt F 0 = 0 := by simp [xt]
theorem sq_up {F : Nat} {w : Nat → Nat} (hF : F < 4) : ∀ n, n < 100 → (∀ r, r < n + 1 → w r < 256) → sq F w (n + 1) = xt F (sq F (fun r => w (r + 1)) n) ^^^ w 0
  | 0, _, h => by
    rw [sq, sq, sq, gm_one hF (h 0 (by omega)), xt_0]
  | n + 1, hn, h => by
    rw [sq, sq_up hF n (by omega) (fun r hr => h r (by omega)), gm_up hF (h (n + 1) (by omega)) (by omega)]
    have e : sq F (fun r => w (r + 1)) (n + 1) = sq F (fun r => w (r + 1)) n ^^^ gm F (w (n + 1)) (pw F n) := rfl
    rw [e, xt_xor (sq_lt hF n) (gm_lt hF), Nat.xor_assoc, Nat.xor_assoc, Nat.xor_comm (w 0)]
theorem hz_sq {F D : Nat} {v : Nat → Nat} (hF : F < 4) (hD : D < 100) (h : ∀ r, r < D → v r < 256) : ∀ k, k ≤ D → hz F v D k = sq F (fun r => v (D - k + r)) k
  | 0, _ => rfl
  | k + 1, hk => by
    rw [hz, hz_sq hF hD h k (by omega), sq_up hF k (by omega) (fun r hr => h _ (by omega))]
    congr 2
    apply sq_ext
    intro r hr
    show v (D - k + r) = v (D - (k + 1) + (r + 1))
    rw [show D - k + r = D - (k + 1) + (r + 1) by omega]
theorem hz_all {F D : Nat} {v : Nat → Nat} (hF : F < 4) (hD : D < 100) (h : ∀ r, r < D → v r < 256) : hz F v D D = sq F v D := by
  rw [hz_sq hF hD h D (Nat.le_refl D)]
  apply sq_ext
  intro r _
  show v (D - D + r) = v r
  rw [show D - D + r = r by omega]
theorem hz_lt {F D : Nat} {v : Nat → Nat} (hF : F < 4) (h : ∀ r, r < D → v r < 256) : ∀ k, k ≤ D → hz F v D k < 256
  | 0, _ => (by decide : 0 < 256)
  | k + 1, hk => x8 (xt_lt F hF _ (hz_lt hF h k (by omega))) (h _ (by omega))
theorem mi_ge (is : Nat → Bool) : ∀ q a, a ≤ mi is a q ∧ mi is a q ≤ a + q
  | 0, a => ⟨Nat.le_refl _, Nat.le_refl _⟩
  | q + 1, a => by
    rw [mi]
    have := mi_ge is q (a + 1)
    split <;> omega
theorem mi_is (is : Nat → Bool) : ∀ q a r, a ≤ r → r < mi is a q → is r = true
  | 0, a, r, h1, h2 => by rw [mi] at h2; omega
  | q + 1, a, r, h1, h2 => by
    rw [mi] at h2
    by_cases c : is a = true
    · rw [if_pos c] at h2
      by_cases e : r = a
      · rw [e]; exact c
      · exact mi_is is q (a + 1) r (by omega) h2
    · rw [if_neg c] at h2; omega
theorem mi_no (is : Nat → Bool) : ∀ q a, mi is a q < a + q → is (mi is a q) = false
  | 0, a, h => by rw [mi] at h; omega
  | q + 1, a, h => by
    rw [mi] at h ⊢
    by_cases c : is a = true
    · rw [if_pos c] at h ⊢
      exact mi_no is q (a + 1) (by omega)
    · rw [if_neg c]; simpa using c
def soB (F D : Nat) (is : Nat → Bool) (v : Nat → Nat) (i : Nat) : Nat := if is D then v D ^^^ sp v D else gq F (v (D + 1) ^^^ sq F v D) (pw F i)
def soC (F D : Nat) (v : Nat → Nat) (i j : Nat) : Nat := gq F ((v (D + 1) ^^^ sq F v D) ^^^ gm F (v D ^^^ sp v D) (pw F j)) (pw F i ^^^ pw F j)
def mi1 (is : Nat → Bool) (D : Nat) : Nat := mi is 0 D
def mi2 (is : Nat → Bool) (D : Nat) : Nat := mi is (mi1 is D + 1) (D - (mi1 is D + 1))
def so1 (F D : Nat) (is : Nat → Bool) (v : Nat → Nat) : Nat → Nat :=
  if mi1 is D = D then v else if mi2 is D = D then ud v (mi1 is D) (soB F D is v (mi1 is D))
  else ud (ud v (mi1 is D) (soC F D v (mi1 is D) (mi2 is D))) (mi2 is D) ((v D ^^^ sp v D) ^^^ soC F D v (mi1 is D) (mi2 is D))
def so2 (F D : Nat) (is : Nat → Bool) (v : Nat → Nat) : Nat → Nat := if is D then so1 F D is v else ud (so1 F D is v) D (sp (so1 F D is v) D)
def so (F D : Nat) (is : Nat → Bool) (v : Nat → Nat) : Nat → Nat := if is (D + 1) then so2 F D is v else ud (so2 F D is v) (D + 1) (sq F (so2 F D is v) D)
theorem ud_lt {v : Nat → Nat} {i x n : Nat} (h : ∀ r, r < n → v r < 256) (hx : x < 256) : ∀ r, r < n → ud v i x r < 256 := by
  intro r hr
  unfold ud
  split
  · exact hx
  · exact h r hr
theorem soB_lt {F D i : Nat} {is : Nat → Bool} {v : Nat → Nat} (hF : F < 4) (h : ∀ r, r < D + 2 → v r < 256) : soB F D is v i < 256 := by
  unfold soB
  split
  · exact x8 (h D (by omega)) (sp_lt fun r hr => h r (by omega))
  · exact gq_lt hF
theorem so1_lt {F D : Nat} {is : Nat → Bool} {v : Nat → Nat} (hF : F < 4) (h : ∀ r, r < D + 2 → v r < 256) : ∀ r, r < D + 2 → so1 F D is v r < 256 := by
  unfold so1
  split
  · exact h
  · split
    · exact ud_lt h (soB_lt hF h)
    · exact ud_lt (ud_lt h (gq_lt hF)) (x8 (x8 (h D (by omega)) (sp_lt fun r hr => h r (by omega))) (gq_lt hF))
theorem so2_lt {F D : Nat} {is : Nat → Bool} {v : Nat → Nat} (hF : F < 4) (h : ∀ r, r < D + 2 → v r < 256) : ∀ r, r < D + 2 → so2 F D is v r < 256 := by
  unfold so2
  split
  · exact so1_lt hF h
  · exact ud_lt (so1_lt hF h) (sp_lt fun r hr => so1_lt hF h r (by omega))
theorem so_lt {F D : Nat} {is : Nat → Bool} {v : Nat → Nat} (hF : F < 4) (h : ∀ r, r < D + 2 → v r < 256) : ∀ r, r < D + 2 → so F D is v r < 256 := by
  unfold so
  split
  · exact so2_lt hF h
  · exact ud_lt (so2_lt hF h) (sq_lt hF D)
/-- at most two: none, one, or two parts -/
theorem ct_ge {p : Nat → Bool} {c : Nat} (hc : p c = true) : ∀ n, c < n → ct p c + 1 ≤ ct p n
  | 0, h => by omega
  | n + 1, h => by
    rw [ct]
    by_cases e : c = n
    · subst e; rw [if_pos hc]; omega
    · have := ct_ge hc n (by omega); omega
theorem ct_3 {p : Nat → Bool} {a b c n : Nat} (ha : p a = true) (hb : p b = true) (hc : p c = true) (h1 : a < b) (h2 : b < c) (h3 : c < n) : 3 ≤ ct p n := by
  have := ct_ge hc n h3
  have := ct_ge hb c h2
  have := ct_ge ha b h1
  omega
theorem bm_two {i j n : Nat} (h : i < j) (hj : j < n) : 2 ^ i + 2 ^ j = bm (fun r => decide (r = i) || decide (r = j)) n := by
  rw [← bm_or (fun r => decide (r = i)) (fun r => decide (r = j)), ← bm_one (by omega), ← bm_one hj]
  have := Nat.two_pow_add_eq_or_of_lt (Nat.pow_lt_pow_right (by decide : 1 < 2) h) 1
  rw [Nat.mul_one] at this
  rw [Nat.add_comm, this, Nat.or_comm]
theorem mi_cls {is : Nat → Bool} {D : Nat} (h : ct (fun r => !is r) (D + 2) ≤ 2) :
    (mi1 is D = D ∧ bm (fun r => !is r) D = 0)
    ∨ (mi1 is D < D ∧ mi2 is D = D ∧ is (mi1 is D) = false ∧ bm (fun r => !is r) D = 2 ^ mi1 is D)
    ∨ (mi1 is D < mi2 is D ∧ mi2 is D < D ∧ is (mi1 is D) = false ∧ is (mi2 is D) = false ∧ is D = true ∧ is (D + 1) = true ∧ bm (fun r => !is r) D = 2 ^ mi1 is D + 2 ^ mi2 is D) := by
  have g1 := mi_ge is D 0
  have a1 := mi_is is D 0
  have n1 := mi_no is D 0
  have e1 : mi is 0 D = mi1 is D := rfl
  rw [e1] at g1 a1 n1
  by_cases c1 : mi1 is D = D
  · left
    refine ⟨c1, bm_z.mpr fun k hk => ?_⟩
    rw [a1 k (by omega) (by omega)]; rfl
  · right
    have n1 := n1 (by omega)
    have g2 := mi_ge is (D - (mi1 is D + 1)) (mi1 is D + 1)
    have a2 := mi_is is (D - (mi1 is D + 1)) (mi1 is D + 1)
    have n2 := mi_no is (D - (mi1 is D + 1)) (mi1 is D + 1)
    have e2 : mi is (mi1 is D + 1) (D - (mi1 is D + 1)) = mi2 is D := rfl
    rw [e2] at g2 a2 n2
    by_cases c2 : mi2 is D = D
    · left
      refine ⟨by omega, c2, n1, ?_⟩
      rw [bm_one (show mi1 is D < D by omega)]
      apply bm_ext
      intro k hk
      by_cases e : k = mi1 is D
      · rw [e, n1]; simp
      · have : is k = true := by
          by_cases l : k < mi1 is D
          · exact a1 k (by omega) l
          · exact a2 k (by omega) (by omega)
        rw [this]; simp [e]
    · right
      have n2 := n2 (by omega)
      have up : ∀ k, mi2 is D < k → k < D + 2 → is k = true := by
        intro k h1 h2
        cases hk : is k with
        | true => rfl
        | false =>
          have := ct_3 (p := fun r => !is r) (a := mi1 is D) (b := mi2 is D) (c := k) (n := D + 2) (by simp [n1]) (by simp [n2]) (by simp [hk]) (by omega) h1 h2
          omega
      refine ⟨by omega, by omega, n1, n2, up D (by omega) (by omega), up (D + 1) (by omega) (by omega), ?_⟩
      rw [bm_two (show mi1 is D < mi2 is D by omega) (show mi2 is D < D by omega)]
      apply bm_ext
      intro k hk
      by_cases e : k = mi1 is D
      · rw [e, n1]; simp
      · by_cases e2 : k = mi2 is D
        · rw [e2, n2]; simp
        · have : is k = true := by
            by_cases l : k < mi1 is D
            · exact a1 k (by omega) l
            · by_cases l2 : k < mi2 is D
              · exact a2 k (by omega) l2
              · exact up k (by omega) (by omega)
          rw [this]; simp [e, e2]
