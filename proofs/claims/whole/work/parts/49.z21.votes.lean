/-! the face: votes -/
theorem sg_ext {f g : Nat → Nat} : ∀ {n : Nat}, (∀ i, i < n → f i = g i) → sg f n = sg g n
  | 0, _ => rfl
  | n + 1, h => by rw [sg, sg, h n (by omega), sg_ext fun i hi => h i (by omega)]
theorem sg_add (f g : Nat → Nat) : ∀ n, sg (fun i => f i + g i) n = sg f n + sg g n
  | 0 => rfl
  | n + 1 => by rw [sg, sg, sg, sg_add f g n]; omega
theorem sg_z : ∀ n, sg (fun _ => 0) n = 0
  | 0 => rfl
  | n + 1 => by rw [sg, sg_z n]
theorem ct_sg (p : Nat → Bool) : ∀ n, sg (fun i => if p i then 1 else 0) n = ct p n
  | 0 => rfl
  | n + 1 => by rw [sg, ct, ct_sg p n]
theorem fub (p : Nat → Nat → Bool) (n : Nat) : ∀ m, sg (fun i => ct (p i) m) n = sg (fun j => ct (fun i => p i j) n) m
  | 0 => sg_z n
  | m + 1 => by
    rw [sg, ← fub p n m, ← ct_sg, ← sg_add]
    rfl
theorem ct_split {p q r : Nat → Bool} (h : ∀ k, r k = (p k || q k)) (h2 : ∀ k, p k = true → q k = false) : ∀ n, ct r n = ct p n + ct q n
  | 0 => rfl
  | n + 1 => by
    rw [ct, ct, ct, ct_split h h2 n, h n]
    cases hp : p n
    · cases hq : q n <;> simp <;> omega
    · rw [h2 n hp]; simp; omega
def pr (g : Nat → Nat → Bool) (n : Nat) : Nat := sg (fun i => ct (fun j => decide (i < j) && g i j) n) n
theorem pr_two {g : Nat → Nat → Bool} (hs : ∀ i j, g i j = g j i) (n : Nat) : sg (fun i => ct (fun j => !decide (i = j) && g i j) n) n = 2 * pr g n := by
  have e1 : sg (fun i => ct (fun j => !decide (i = j) && g i j) n) n = sg (fun i => ct (fun j => decide (i < j) && g i j) n + ct (fun j => decide (j < i) && g i j) n) n := by
    apply sg_ext
    intro i _
    apply ct_split
    · intro j
      by_cases c1 : i = j
      · subst c1; simp
      · by_cases c2 : i < j
        · simp [c1, c2]
        · have c3 : j < i := by omega
          simp [c1, c2, c3]
    · intro j hj
      simp only [Bool.and_eq_true, decide_eq_true_eq] at hj
      have : ¬ j < i := by omega
      simp [this]
  rw [e1, sg_add, fub (fun i j => decide (j < i) && g i j) n n]
  have e2 : sg (fun j => ct (fun i => decide (j < i) && g i j) n) n = pr g n := by
    apply sg_ext
    intro j _
    apply ct_ext
    intro i _
    rw [hs i j]
  rw [e2]
  show pr g n + pr g n = _
  omega
theorem pr_perm {D t : Nat} {g : Nat → Nat → Bool} (h1 : D < 7) (h2 : 2 ≤ D) (ht : t < 12) (hs : ∀ i j, g i j = g j i) : pr (fun i j => g (dk D t i) (dk D t j)) (D + 2) = pr g (D + 2) := by
  have a := pr_two (g := fun i j => g (dk D t i) (dk D t j)) (fun i j => hs _ _) (D + 2)
  have b := pr_two hs (D + 2)
  have e : sg (fun i => ct (fun j => !decide (i = j) && g (dk D t i) (dk D t j)) (D + 2)) (D + 2) = sg (fun i => ct (fun j => !decide (i = j) && g i j) (D + 2)) (D + 2) := by
    have s1 : sg (fun i => ct (fun j => !decide (i = j) && g (dk D t i) (dk D t j)) (D + 2)) (D + 2) = sg (fun i => ct (fun y => !decide (dk D t i = y) && g (dk D t i) y) (D + 2)) (D + 2) := by
      apply sg_ext
      intro i hi
      rw [← ct_perm (q := fun y => !decide (dk D t i = y) && g (dk D t i) y) h1 h2 ht]
      apply ct_ext
      intro j hj
      have : decide (i = j) = decide (dk D t i = dk D t j) := by
        apply decide_eq_decide.mpr
        constructor
        · intro z; rw [z]
        · intro z
          rw [← (dk_ok D h1 h2 t ht i hi).2, z, (dk_ok D h1 h2 t ht j hj).2]
      rw [this]
    rw [s1, fub (fun i y => !decide (dk D t i = y) && g (dk D t i) y), fub (fun i y => !decide (i = y) && g i y)]
    apply sg_ext
    intro y _
    exact ct_perm (q := fun x => !decide (x = y) && g x y) h1 h2 ht
  omega
/-- from one behind i on -/
def cU (p : Nat → Bool) (i : Nat) : Nat → Nat := ct (fun j => decide (i < j) && p j)
theorem cU_0 (p : Nat → Bool) (i : Nat) : ∀ k, k ≤ i + 1 → cU p i k = 0
  | 0, _ => rfl
  | k + 1, h => by
    have ih : cU p i k = 0 := cU_0 p i k (by omega)
    show ct _ (k + 1) = 0
    rw [ct, show ct (fun j => decide (i < j) && p j) k = 0 from ih]
    have : ¬ i < k := by omega
    simp [this]
theorem cU_up (p : Nat → Bool) (i k : Nat) : cU p i (i + 1 + (k + 1)) = cU p i (i + 1 + k) + (if p (i + 1 + k) then 1 else 0) := by
  show ct _ (i + 1 + k + 1) = _
  rw [ct]
  have : i < i + 1 + k := by omega
  simp [this, cU]
def vt (F D : Nat) (s : Sh) (t b part x o u : Nat) : Bool := pth D s t (rl D t o) (rl D t u) && decide (tv F D s t b o u part = x)
theorem vt_sym (F D : Nat) (s : Sh) (t b part x o u : Nat) : vt F D s t b part x o u = vt F D s t b part x u o := by
  have e1 : thx D s t (nI o) (nI u) = thx D s t (nI u) (nI o) := by
    funext r
    unfold thx
    rw [Bool.and_assoc, Bool.and_assoc, Bool.and_comm (decide (nI (dk D t r) ≠ nI o))]
  have e2 : pth D s t (rl D t o) (rl D t u) = pth D s t (rl D t u) (rl D t o) := by
    unfold pth
    congr 2
    funext r
    rw [Bool.or_comm]
  unfold vt tv
  rw [e1, e2]
theorem tv_lt {F D t b o u : Nat} {s : Sh} (hF : F < 4) (h : ∀ d t b, s.byt d t b < 256) : ∀ r, r < D + 2 → tv F D s t b o u r < 256 := so_lt hF (fun r _ => th_lt h r)
theorem o38 {c : Nat} {σX σM : gM} (a1 a2 : Int32) (h : Inv c σX σM) : ∃ (r : Int32) (τX τM : gM), fX11_votes 1000 a1 a2 σX = some (r, τX) ∧ fX12_votes 1000 a1 a2 σM = some (r, τM) ∧ Inv (c + 1) τX τM := by
  have h0 := Inv_0 h 0
  unfold fX11_votes fX12_votes
  rw [b_L]
  generalize g_put σM 0 0 0 = σ0 at *
  rcases Inv_cases h0 with hN | ⟨D, S, C, F, s, xe, me, ok, xs, ms⟩
  · rw [no_addr hN, b_I, if_pos rfl, noM_addr hN, b_I, if_pos rfl]
    exact ⟨_, _, _, rfl, rfl, h0⟩
  · have hw := xe.1
    obtain ⟨w1, w2, w3, w4, w5, w6, w7⟩ := xe.1
    rcases J_addr xe me a1 with ⟨a, ha, rfl⟩ | ⟨e1, e2⟩
    · rw [X_isAddress_yes xe ha, b_I, if_neg n10, M_isAddress_yes me ha, b_I, if_neg n10, ← isByte_same]
      rcases J_byte a2 with ⟨x, hx, rfl⟩ | e
      · rw [isByte_yes hx, b_I, if_neg n10, isByte_yes hx, b_I, if_neg n10]
        have ha' := ad_1000 w2 w4 w6 ha
        obtain ⟨at1, at2, at3⟩ := ad_lt w5 w1 ha
        have xs0 : XS C s (σX.1 (11 + 5 * 0)) := xs
        have bX : ∀ τ, XE D S C F τ → fX6_byteOf (nI a) τ = some (nI (a % C), τ) := fun τ hτ => X_byteOf hw hτ.2.1 ha'
        have bM : ∀ τ, ME D S C F τ → fX12_byteOf (nI a) τ = some (nI (a % C), τ) := fun τ hτ => M_byteOf hw hτ.2.1 ha'
        have pM : ∀ τ, ME D S C F τ → fX12_partOf (nI a) τ = some (nI (a / C % D), τ) := fun τ hτ => M_partOf hw hτ.2.1 ha'
        unfold fX4_votesFor
        rw [X_partOf hw xe.2.1 ha', b_I, X_stripeOf hw xe.2.1 ha', b_I, X_missing (by omega) xe (Ok_don ok w4) xs0 (by omega), b_I, M_stripeOf hw me.2.1 ha', b_I]
        generalize a / C / D = t at *
        generalize a / C % D = part at *
        generalize a % C = b at *
        have ht12 : t < 12 := by omega
        -- class: inner loop over roles
        have iX : ∀ (K : Int32 → Int32 → Int32 → Int32 → Int32 → Int32 → Int32 → gM → Option (Int32 × gM)) (i v : Nat) (τ : gM), i < D + 2 → fr [13] σX τ → ∃ τ', fX4_votesFor_L54 1000 K 1000 (nI a) (nI x) (nI part) (nI t) (nI (bm (fun r => !th D s t r) (D + 2))) (nI v) (nI i) (nI (i + 1)) τ = K (nI a) (nI x) (nI part) (nI t) (nI (bm (fun r => !th D s t r) (D + 2))) (nI (v + cU (fun j => vt F D s t b part x (dk D t i) (dk D t j)) i (D + 2))) (nI (i + 1)) τ' ∧ fr [13] σX τ' := by
          intro K i v τ hi hf
          refine lp (L := fun m k (q : Int32 × gM) => fX4_votesFor_L54 1000 K m (nI a) (nI x) (nI part) (nI t) (nI (bm (fun r => !th D s t r) (D + 2))) q.1 (nI i) (nI (i + 1 + k)) q.2) (I := fun k q => q.1 = nI (v + cU (fun j => vt F D s t b part x (dk D t i) (dk D t j)) i (i + 1 + k)) ∧ fr [13] σX q.2) (Q := fun o => ∃ τ', o = K (nI a) (nI x) (nI part) (nI t) (nI (bm (fun r => !th D s t r) (D + 2))) (nI (v + cU (fun j => vt F D s t b part x (dk D t i) (dk D t j)) i (D + 2))) (nI (i + 1)) τ' ∧ fr [13] σX τ') (N := D + 2 - (i + 1)) ?_ ?_ (D + 2 - (i + 1)) 1000 0 (nI v, τ) (by omega) (by omega) ⟨by rw [cU_0 _ _ _ (by omega)]; rfl, hf⟩
          · intro m k q hk hq
            obtain ⟨q1, q2⟩ := hq
            have hj : i + 1 + k < D + 2 := by omega
            have xeq := XE_fr xe q2 (by simp) (by simp) (by simp) (by simp)
            have xsq : XS C s (q.2.1 (11 + 5 * 0)) := by rw [q2.1 (11 + 5 * 0) (by simp)]; exact xs
            have x5 := xeq.2.1.2.2.2.2.1
            have xo := X_out (s := s) (t := t) (show D < 7 by omega) hi hj
            have hdi := dk_ok D (by omega) w1 t ht12 i hi
            have hdj := dk_ok D (by omega) w1 t ht12 (i + 1 + k) hj
            left
            show ∃ a', fX4_votesFor_b54 1000 K (fX4_votesFor_L54 1000 K m) (nI a) (nI x) (nI part) (nI t) (nI (bm (fun r => !th D s t r) (D + 2))) q.1 (nI i) (nI (i + 1 + k)) q.2 = _ ∧ _
            unfold fX4_votesFor_b54 fX4_votesFor_b138 fX4_votesFor_b141
            rw [x5, if_neg (by simp (disch := first | omega | assumption) only [fa_lit, nLE, nLT, nEQ, nI_add, nSA, nSUB, pk_mul, nDIV, nREM, nCL, fa_and, nx_xor, fa_or, nSHL, nSHR, nUS, n31, n255, Nat.and_one_is_mod, b_I, b_V, b_L, not_or, Nat.not_lt_zero, Nat.not_le, Nat.not_lt, not_false_eq_true, true_and, and_true, false_or, or_false, Classical.not_not, if_true, if_false, if_pos, if_neg] <;> omega), sh1 (by omega), sh1 (by omega), cU_up, show nI (i + 1 + k) + 1 = nI (i + 1 + (k + 1)) from nI_add _ 1]
            have ev : vt F D s t b part x (dk D t i) (dk D t (i + 1 + k)) = (pth D s t i (i + 1 + k) && decide (tv F D s t b (dk D t i) (dk D t (i + 1 + k)) part = x)) := by
              unfold vt
              rw [hdi.2, hdj.2]
            rw [ev]
            by_cases hp : pth D s t i (i + 1 + k) = true
            · obtain ⟨X1, l1, B1, g1⟩ := X_gath (n := 1000) (by omega) xeq ok xsq ht12 at3 hi hj hp
              have hlt := tv_lt (F := F) (D := D) (s := s) (t := t) (b := b) (o := dk D t i) (u := dk D t (i + 1 + k)) w7 ok.byt part (by omega)
              rw [if_pos (xo.mpr hp), bX _ xeq, b_I, l1, b_V, X_rget (by omega), b_I, B1 part (by omega)]
              by_cases y : tv F D s t b (dk D t i) (dk D t (i + 1 + k)) part = x
              · rw [if_pos (by rw [y]), if_pos (by rw [hp]; simp [y]), q1]
                exact ⟨(_, X1), rfl, (nI_add _ 1), fr_trans q2 g1⟩
              · rw [if_neg (by rw [nEQ _ _ (by omega) (by omega)]; exact y), if_neg (by simp [y]), q1, Int32.add_zero]
                exact ⟨(_, X1), rfl, rfl, fr_trans q2 g1⟩
            · rw [if_neg (fun z => hp (xo.mp z)), if_neg (by rw [Bool.eq_false_iff.mpr hp]; simp)]
              exact ⟨q, rfl, q1, q2⟩
          · intro m q hq
            obtain ⟨q1, q2⟩ := hq
            have xeq := XE_fr xe q2 (by simp) (by simp) (by simp) (by simp)
            have x5 := xeq.2.1.2.2.2.2.1
            refine ⟨q.2, ?_, q2⟩
            show fX4_votesFor_b54 1000 K (fX4_votesFor_L54 1000 K m) (nI a) (nI x) (nI part) (nI t) (nI (bm (fun r => !th D s t r) (D + 2))) q.1 (nI i) (nI (i + 1 + (D + 2 - (i + 1)))) q.2 = _
            rw [show i + 1 + (D + 2 - (i + 1)) = D + 2 by omega] at q1 ⊢
            unfold fX4_votesFor_b54
            rw [x5, if_pos (by simp (disch := first | omega | assumption) only [fa_lit, nLE, nLT, nEQ, nI_add, nSA, nSUB, pk_mul, nDIV, nREM, nCL, fa_and, nx_xor, fa_or, nSHL, nSHR, nUS, n31, n255, Nat.and_one_is_mod, b_I, b_V, b_L, not_or, Nat.not_lt_zero, Nat.not_le, Nat.not_lt, not_false_eq_true, true_and, and_true, false_or, or_false, Classical.not_not, if_true, if_false, if_pos, if_neg] <;> omega), q1, show nI i + 1 = nI (i + 1) from nI_add i 1]
        have eX : ∃ τ', fX4_votesFor_L36 1000 1000 (nI a) (nI x) (nI part) (nI t) (nI (bm (fun r => !th D s t r) (D + 2))) 0 0 σX = some (nI (pr (fun i j => vt F D s t b part x (dk D t i) (dk D t j)) (D + 2)), τ') ∧ fr [13] σX τ' := by
          refine lp (L := fun m k (q : Int32 × gM) => fX4_votesFor_L36 1000 m (nI a) (nI x) (nI part) (nI t) (nI (bm (fun r => !th D s t r) (D + 2))) q.1 (nI k) q.2) (I := fun k q => q.1 = nI (sg (fun i => cU (fun j => vt F D s t b part x (dk D t i) (dk D t j)) i (D + 2)) k) ∧ fr [13] σX q.2) (Q := fun o => ∃ τ', o = some (nI (pr (fun i j => vt F D s t b part x (dk D t i) (dk D t j)) (D + 2)), τ') ∧ fr [13] σX τ') (N := D + 2) ?_ ?_ (D + 2) 1000 0 (0, σX) (by omega) (by omega) ⟨rfl, fr_refl _ _⟩
          · intro m k q hk hq
            obtain ⟨q1, q2⟩ := hq
            have xeq := XE_fr xe q2 (by simp) (by simp) (by simp) (by simp)
            have x5 := xeq.2.1.2.2.2.2.1
            obtain ⟨τ', e, f⟩ := iX (fX4_votesFor_L36 1000 m) k (sg (fun i => cU (fun j => vt F D s t b part x (dk D t i) (dk D t j)) i (D + 2)) k) q.2 hk q2
            refine Or.inl ⟨(_, τ'), ?_, rfl, f⟩
            show fX4_votesFor_b36 1000 (fX4_votesFor_L36 1000 m) (nI a) (nI x) (nI part) (nI t) (nI (bm (fun r => !th D s t r) (D + 2))) q.1 (nI k) q.2 = _
            unfold fX4_votesFor_b36
            rw [x5, if_neg (by simp (disch := first | omega | assumption) only [fa_lit, nLE, nLT, nEQ, nI_add, nSA, nSUB, pk_mul, nDIV, nREM, nCL, fa_and, nx_xor, fa_or, nSHL, nSHR, nUS, n31, n255, Nat.and_one_is_mod, b_I, b_V, b_L, not_or, Nat.not_lt_zero, Nat.not_le, Nat.not_lt, not_false_eq_true, true_and, and_true, false_or, or_false, Classical.not_not, if_true, if_false, if_pos, if_neg] <;> omega), q1, show nI k + 1 = nI (k + 1) from nI_add k 1, e]
            rfl
          · intro m q hq
            obtain ⟨q1, q2⟩ := hq
            have xeq := XE_fr xe q2 (by simp) (by simp) (by simp) (by simp)
            have x5 := xeq.2.1.2.2.2.2.1
            refine ⟨q.2, ?_, q2⟩
            show fX4_votesFor_b36 1000 (fX4_votesFor_L36 1000 m) (nI a) (nI x) (nI part) (nI t) (nI (bm (fun r => !th D s t r) (D + 2))) q.1 (nI (D + 2)) q.2 = _
            unfold fX4_votesFor_b36
            rw [x5, if_pos (by simp (disch := first | omega | assumption) only [fa_lit, nLE, nLT, nEQ, nI_add, nSA, nSUB, pk_mul, nDIV, nREM, nCL, fa_and, nx_xor, fa_or, nSHL, nSHR, nUS, n31, n255, Nat.and_one_is_mod, b_I, b_V, b_L, not_or, Nat.not_lt_zero, Nat.not_le, Nat.not_lt, not_false_eq_true, true_and, and_true, false_or, or_false, Classical.not_not, if_true, if_false, if_pos, if_neg] <;> omega), q1]
            rfl
        -- reference
        have aM : ∀ (o u : Nat) (τ : gM), o < D + 2 → u < D + 2 → ME D S C F τ → MS C s (τ.1 10) 0 → fX12_areThere 1000 (nI t) (nI o) (nI u) τ = some (nI (if pth D s t (rl D t o) (rl D t u) then 1 else 0), τ) := by
          intro o u τ ho hu met mst
          have m5 := met.2.1.2.2.2.2.1
          have pd := pth_d (s := s) (show D < 7 by omega) w1 ht12 ho hu
          unfold fX12_areThere
          refine lp (L := fun m k (_ : Unit) => fX12_areThere_L3 1000 m (nI t) (nI o) (nI u) (nI k) τ) (I := fun k _ => ∀ e, e < k → e ≠ o → e ≠ u → t < s.don e) (Q := fun z => z = some (nI (if pth D s t (rl D t o) (rl D t u) then 1 else 0), τ)) (N := D + 2) ?_ ?_ (D + 2) 1000 0 () (by omega) (by omega) (fun e he => absurd he (Nat.not_lt_zero _))
          · intro m k _ hk hq
            have nx : (k ≠ o → k ≠ u → t < s.don k) → ∀ e, e < k + 1 → e ≠ o → e ≠ u → t < s.don e := by
              intro z e he n1 n2
              by_cases q : e = k
              · rw [q]; exact z (by rw [← q]; exact n1) (by rw [← q]; exact n2)
              · exact hq e (by omega) n1 n2
            show (∃ a', fX12_areThere_b3 1000 (fX12_areThere_L3 1000 m) (nI t) (nI o) (nI u) (nI k) τ = _ ∧ _) ∨ (fX12_areThere_b3 1000 (fX12_areThere_L3 1000 m) (nI t) (nI o) (nI u) (nI k) τ = _)
            unfold fX12_areThere_b3 fX12_areThere_b39
            rw [m5, if_neg (by simp (disch := first | omega | assumption) only [fa_lit, nLE, nLT, nEQ, nI_add, nSA, nSUB, pk_mul, nDIV, nREM, nCL, fa_and, nx_xor, fa_or, nSHL, nSHR, nUS, n31, n255, Nat.and_one_is_mod, b_I, b_V, b_L, not_or, Nat.not_lt_zero, Nat.not_le, Nat.not_lt, not_false_eq_true, true_and, and_true, false_or, or_false, Classical.not_not, if_true, if_false, if_pos, if_neg] <;> omega), show nI k + 1 = nI (k + 1) from nI_add k 1]
            by_cases y1 : k = o
            · rw [if_pos (by rw [y1])]
              exact Or.inl ⟨(), rfl, nx (fun n1 _ => absurd y1 n1)⟩
            · rw [if_neg (show ¬ nI k = nI o by rw [nEQ _ _ (by omega) (by omega)]; exact y1)]
              by_cases y2 : k = u
              · rw [if_pos (by rw [y2])]
                exact Or.inl ⟨(), rfl, nx (fun _ n2 => absurd y2 n2)⟩
              · rw [if_neg (show ¬ nI k = nI u by rw [nEQ _ _ (by omega) (by omega)]; exact y2), M_isThere ok w4 mst (by omega) at1, b_I]
                by_cases y3 : t < s.don k
                · rw [if_pos y3, if_neg (show ¬ nI 1 = 0 by decide)]
                  exact Or.inl ⟨(), rfl, nx (fun _ _ => y3)⟩
                · rw [if_neg y3, if_pos (show nI 0 = 0 from rfl), if_neg (fun z => y3 (pd.mp z k hk y1 y2))]
                  exact Or.inr rfl
          · intro m _ hq
            show fX12_areThere_b3 1000 (fX12_areThere_L3 1000 m) (nI t) (nI o) (nI u) (nI (D + 2)) τ = _
            unfold fX12_areThere_b3
            rw [m5, if_pos (by simp (disch := first | omega | assumption) only [fa_lit, nLE, nLT, nEQ, nI_add, nSA, nSUB, pk_mul, nDIV, nREM, nCL, fa_and, nx_xor, fa_or, nSHL, nSHR, nUS, n31, n255, Nat.and_one_is_mod, b_I, b_V, b_L, not_or, Nat.not_lt_zero, Nat.not_le, Nat.not_lt, not_false_eq_true, true_and, and_true, false_or, or_false, Classical.not_not, if_true, if_false, if_pos, if_neg] <;> omega), if_pos (pd.mpr hq)]
            rfl
        have iM : ∀ (K : Int32 → Int32 → Int32 → Int32 → Int32 → gM → Option (Int32 × gM)) (i v : Nat) (τ : gM), i < D + 2 → fr [14, 15] σ0 τ → ∃ τ', fX12_votes_L49 1000 K 1000 (nI a) (nI x) (nI t) (nI v) (nI i) (nI (i + 1)) τ = K (nI a) (nI x) (nI t) (nI (v + cU (fun j => vt F D s t b part x i j) i (D + 2))) (nI (i + 1)) τ' ∧ fr [14, 15] σ0 τ' := by
          intro K i v τ hi hf
          refine lp (L := fun m k (q : Int32 × gM) => fX12_votes_L49 1000 K m (nI a) (nI x) (nI t) q.1 (nI i) (nI (i + 1 + k)) q.2) (I := fun k q => q.1 = nI (v + cU (fun j => vt F D s t b part x i j) i (i + 1 + k)) ∧ fr [14, 15] σ0 q.2) (Q := fun o => ∃ τ', o = K (nI a) (nI x) (nI t) (nI (v + cU (fun j => vt F D s t b part x i j) i (D + 2))) (nI (i + 1)) τ' ∧ fr [14, 15] σ0 τ') (N := D + 2 - (i + 1)) ?_ ?_ (D + 2 - (i + 1)) 1000 0 (nI v, τ) (by omega) (by omega) ⟨by rw [cU_0 _ _ _ (by omega)]; rfl, hf⟩
          · intro m k q hk hq
            obtain ⟨q1, q2⟩ := hq
            have hj : i + 1 + k < D + 2 := by omega
            have meq := ME_fr me q2 (by simp) (by simp) (by simp) (by simp)
            have msq : MS C s (q.2.1 10) 0 := by rw [q2.1 10 (by simp)]; exact ms
            have m5 := meq.2.1.2.2.2.2.1
            left
            show ∃ a', fX12_votes_b49 1000 K (fX12_votes_L49 1000 K m) (nI a) (nI x) (nI t) q.1 (nI i) (nI (i + 1 + k)) q.2 = _ ∧ _
            unfold fX12_votes_b49 fX12_votes_b116 fX12_votes_b119
            rw [m5, if_neg (by simp (disch := first | omega | assumption) only [fa_lit, nLE, nLT, nEQ, nI_add, nSA, nSUB, pk_mul, nDIV, nREM, nCL, fa_and, nx_xor, fa_or, nSHL, nSHR, nUS, n31, n255, Nat.and_one_is_mod, b_I, b_V, b_L, not_or, Nat.not_lt_zero, Nat.not_le, Nat.not_lt, not_false_eq_true, true_and, and_true, false_or, or_false, Classical.not_not, if_true, if_false, if_pos, if_neg] <;> omega), aM i (i + 1 + k) q.2 hi hj meq msq, b_I, cU_up, show nI (i + 1 + k) + 1 = nI (i + 1 + (k + 1)) from nI_add _ 1]
            unfold vt
            by_cases hp : pth D s t (rl D t i) (rl D t (i + 1 + k)) = true
            · obtain ⟨M1, M2, k1, k2, V2, f2⟩ := M_told (n := 1000) (by omega) meq ok msq at1 at3 hi hj hp
              have me2 := ME_fr meq f2 (by simp) (by simp) (by simp) (by simp)
              have hlt := tv_lt (F := F) (D := D) (s := s) (t := t) (b := b) (o := i) (u := i + 1 + k) w7 ok.byt part (by omega)
              have np : ¬ (nI part < 0 ∨ 8 ≤ part) := by rw [show (0 : Int32) = nI 0 from rfl, nLT _ _ (by omega) (by omega)]; omega
              rw [if_pos hp, if_neg (show ¬ nI 1 = 0 by decide), bM _ meq, b_I, k1, b_V, k2, b_V, pM _ me2, b_I, nCL (by omega), if_pos np, V2 part (by omega)]
              by_cases y : tv F D s t b i (i + 1 + k) part = x
              · rw [if_pos (by rw [y]), if_pos (by rw [hp]; simp [y]), q1]
                exact ⟨(_, M2), rfl, (nI_add _ 1), fr_trans q2 f2⟩
              · rw [if_neg (by rw [nEQ _ _ (by omega) (by omega)]; exact y), if_neg (by simp [y]), q1, Int32.add_zero]
                exact ⟨(_, M2), rfl, rfl, fr_trans q2 f2⟩
            · rw [if_neg hp, if_pos (show nI 0 = 0 from rfl), if_neg (by rw [Bool.eq_false_iff.mpr hp]; simp)]
              exact ⟨q, rfl, q1, q2⟩
          · intro m q hq
            obtain ⟨q1, q2⟩ := hq
            have meq := ME_fr me q2 (by simp) (by simp) (by simp) (by simp)
            have m5 := meq.2.1.2.2.2.2.1
            refine ⟨q.2, ?_, q2⟩
            show fX12_votes_b49 1000 K (fX12_votes_L49 1000 K m) (nI a) (nI x) (nI t) q.1 (nI i) (nI (i + 1 + (D + 2 - (i + 1)))) q.2 = _
            rw [show i + 1 + (D + 2 - (i + 1)) = D + 2 by omega] at q1 ⊢
            unfold fX12_votes_b49
            rw [m5, if_pos (by simp (disch := first | omega | assumption) only [fa_lit, nLE, nLT, nEQ, nI_add, nSA, nSUB, pk_mul, nDIV, nREM, nCL, fa_and, nx_xor, fa_or, nSHL, nSHR, nUS, n31, n255, Nat.and_one_is_mod, b_I, b_V, b_L, not_or, Nat.not_lt_zero, Nat.not_le, Nat.not_lt, not_false_eq_true, true_and, and_true, false_or, or_false, Classical.not_not, if_true, if_false, if_pos, if_neg] <;> omega), q1, show nI i + 1 = nI (i + 1) from nI_add i 1]
        have eM : ∃ τ', fX12_votes_L34 1000 1000 (nI a) (nI x) (nI t) 0 0 σ0 = some (nI (pr (fun i j => vt F D s t b part x i j) (D + 2)), τ') ∧ fr [14, 15] σ0 τ' := by
          refine lp (L := fun m k (q : Int32 × gM) => fX12_votes_L34 1000 m (nI a) (nI x) (nI t) q.1 (nI k) q.2) (I := fun k q => q.1 = nI (sg (fun i => cU (fun j => vt F D s t b part x i j) i (D + 2)) k) ∧ fr [14, 15] σ0 q.2) (Q := fun o => ∃ τ', o = some (nI (pr (fun i j => vt F D s t b part x i j) (D + 2)), τ') ∧ fr [14, 15] σ0 τ') (N := D + 2) ?_ ?_ (D + 2) 1000 0 (0, σ0) (by omega) (by omega) ⟨rfl, fr_refl _ _⟩
          · intro m k q hk hq
            obtain ⟨q1, q2⟩ := hq
            have meq := ME_fr me q2 (by simp) (by simp) (by simp) (by simp)
            have m5 := meq.2.1.2.2.2.2.1
            obtain ⟨τ', e, f⟩ := iM (fX12_votes_L34 1000 m) k (sg (fun i => cU (fun j => vt F D s t b part x i j) i (D + 2)) k) q.2 hk q2
            refine Or.inl ⟨(_, τ'), ?_, rfl, f⟩
            show fX12_votes_b34 1000 (fX12_votes_L34 1000 m) (nI a) (nI x) (nI t) q.1 (nI k) q.2 = _
            unfold fX12_votes_b34
            rw [m5, if_neg (by simp (disch := first | omega | assumption) only [fa_lit, nLE, nLT, nEQ, nI_add, nSA, nSUB, pk_mul, nDIV, nREM, nCL, fa_and, nx_xor, fa_or, nSHL, nSHR, nUS, n31, n255, Nat.and_one_is_mod, b_I, b_V, b_L, not_or, Nat.not_lt_zero, Nat.not_le, Nat.not_lt, not_false_eq_true, true_and, and_true, false_or, or_false, Classical.not_not, if_true, if_false, if_pos, if_neg] <;> omega), q1, show nI k + 1 = nI (k + 1) from nI_add k 1, e]
            rfl
          · intro m q hq
            obtain ⟨q1, q2⟩ := hq
            have meq := ME_fr me q2 (by simp) (by simp) (by simp) (by simp)
            have m5 := meq.2.1.2.2.2.2.1
            refine ⟨q.2, ?_, q2⟩
            show fX12_votes_b34 1000 (fX12_votes_L34 1000 m) (nI a) (nI x) (nI t) q.1 (nI (D + 2)) q.2 = _
            unfold fX12_votes_b34
            rw [m5, if_pos (by simp (disch := first | omega | assumption) only [fa_lit, nLE, nLT, nEQ, nI_add, nSA, nSUB, pk_mul, nDIV, nREM, nCL, fa_and, nx_xor, fa_or, nSHL, nSHR, nUS, n31, n255, Nat.and_one_is_mod, b_I, b_V, b_L, not_or, Nat.not_lt_zero, Nat.not_le, Nat.not_lt, not_false_eq_true, true_and, and_true, false_or, or_false, Classical.not_not, if_true, if_false, if_pos, if_neg] <;> omega), q1]
            rfl
        obtain ⟨τX, k1, k2⟩ := eX
        obtain ⟨τM, k3, k4⟩ := eM
        rw [pr_perm (g := fun i j => vt F D s t b part x i j) (by omega) w1 ht12 (fun i j => vt_sym F D s t b part x i j)] at k1
        rw [k1, b_I, k3]
        exact ⟨_, _, _, rfl, rfl, Inv_gk h0 (gj_fr (J := []) k2 (by simp)) (gj_fr (J := []) k4 (by simp)) (by decide) (by decide) (by decide) (by decide)⟩
      · rw [e, b_I, if_pos rfl, e, b_I, if_pos rfl]
        exact ⟨_, _, _, rfl, rfl, h0⟩
    · rw [e1, b_I, if_pos rfl, e2, b_I, if_pos rfl]
      exact ⟨_, _, _, rfl, rfl, h0⟩
