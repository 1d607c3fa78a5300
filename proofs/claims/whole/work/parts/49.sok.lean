/-! what the acts keep -/
theorem ct_set {p : Nat → Bool} {d : Nat} : ∀ n, ct (fun r => decide (r = d) || p r) n ≤ ct p n + (if d < n then 1 else 0)
  | 0 => by simp [ct]
  | n + 1 => by
    have h := ct_set (p := p) (d := d) n
    rw [ct, ct]
    by_cases e : n = d
    · subst e
      rw [if_neg (by omega)] at h
      rw [if_pos (show n < n + 1 by omega)]
      simp only [decide_true, Bool.true_or, if_true]
      omega
    · by_cases l : d < n
      · rw [if_pos l] at h
        rw [if_pos (show d < n + 1 by omega)]
        simp only [e, decide_false, Bool.false_or]
        omega
      · rw [if_neg l] at h
        rw [if_neg (show ¬ d < n + 1 by omega)]
        simp only [e, decide_false, Bool.false_or]
        omega
theorem nr_lt {F D part x w : Nat} {v : Nat → Nat} (hF : F < 4) (hp : part < D) (hv : ∀ r, r < D + 2 → v r < 256) (hx : x < 256) : ∀ r, r < D + 2 → nr F D v part x w r < 256 := by
  unfold nr
  split
  · exact ud_lt (ud_lt (ud_lt hv hx) (x8 (hv D (by omega)) (x8 (hv part (by omega)) hx))) (x8 (hv (D + 1) (by omega)) (gm_lt hF))
  · exact ud_lt (ud_lt (ud_lt hv hx) (sp_lt fun r hr => ud_lt hv hx r (by omega))) (sq_lt hF D)
theorem gv_lt {F D t b : Nat} {s : Sh} (hF : F < 4) (h : ∀ d t b, s.byt d t b < 256) : ∀ r, r < D + 2 → gv F D s t b r < 256 := so_lt hF (fun r _ => th_lt h r)
theorem wS_ok {F D S C t b part x : Nat} {s : Sh} (h1 : D < 7) (h2 : 2 ≤ D) (hF : F < 4) (ht : t < 12) (hp : part < D) (hx : x < 256) (hO : Ok D S C s) : Ok D S C (wS F D s t b part x) := by
  refine ⟨hO.how, hO.h0, hO.h1, hO.h2, ?_, hO.two, hO.sp, hO.nx, hO.di⟩
  show ∀ e t1 b1, bs D t b (wp D (th D s t) part) (nr F D (gv F D s t b) part x (wy D (th D s t) part)) s.byt e t1 b1 < 256
  exact bs_lt h1 h2 ht (fun r hr _ => nr_lt hF hp (gv_lt hF hO.byt) hx r hr) hO.byt
theorem rbB_ok {F D S C t b k : Nat} {s : Sh} (h1 : D < 7) (h2 : 2 ≤ D) (hF : F < 4) (ht : t < 12) (hO : Ok D S C s) : Ok D S C (rbB F D s t b k) := by
  refine ⟨hO.how, hO.h0, hO.h1, hO.h2, ?_, hO.two, hO.sp, hO.nx, hO.di⟩
  show ∀ e t1 b1, bs D t b (fun r => decide (r = k)) (gv F D s t b) s.byt e t1 b1 < 256
  exact bs_lt h1 h2 ht (fun r hr _ => gv_lt hF hO.byt r hr) hO.byt
theorem fuS_ok {F D S C t b x y : Nat} {s : Sh} (h1 : D < 7) (h2 : 2 ≤ D) (hF : F < 4) (ht : t < 12) (hO : Ok D S C s) : Ok D S C (fuS F D s t b x y) := by
  refine ⟨hO.how, hO.h0, hO.h1, hO.h2, ?_, hO.two, hO.sp, hO.nx, hO.di⟩
  show ∀ e t1 b1, bs D t b (th D s t) (fV F D x y) s.byt e t1 b1 < 256
  exact bs_lt h1 h2 ht (fun r hr _ => fV_lt hF r hr) hO.byt
theorem teS_ok {F D S C t b part x how : Nat} {s : Sh} (h1 : D < 7) (h2 : 2 ≤ D) (hF : F < 4) (hS : S ≤ 12) (ht : t < S) (hp : part < D) (hx : x < 256) (hO : Ok D S C s) : Ok D S C (teS F D s t b part x how) := by
  refine ⟨hO.how, hO.h0, hO.h1, hO.h2, ?_, hO.two, hO.sp, hO.nx, ?_⟩
  · show ∀ e t1 b1, bs D t b (pT D part how) (nr F D (gv F D s t b) part x 0) s.byt e t1 b1 < 256
    exact bs_lt h1 h2 (by omega) (fun r hr _ => nr_lt hF hp (gv_lt hF hO.byt) hx r hr) hO.byt
  · show s.di ||| 2 ^ t < 2 ^ S
    exact or_lt hO.di ht
theorem sbS_ok {D S C d t b x : Nat} {s : Sh} (hx : x < 256) (hO : Ok D S C s) : Ok D S C (sbS s d t b x) := by
  refine ⟨hO.how, hO.h0, hO.h1, hO.h2, ?_, hO.two, hO.sp, hO.nx, hO.di⟩
  intro e t1 b1
  show (if e = d ∧ t1 = t ∧ b1 = b then s.byt d t b ^^^ x else s.byt e t1 b1) < 256
  split
  · exact x8 (hO.byt _ _ _) hx
  · exact hO.byt _ _ _
theorem loS_ok {D S C d : Nat} {s : Sh} (hd : d < D + 2) (hc : s.how d = 0 → ct (nw D s) (D + 2) < 2) (h1' : s.how d ≠ 1) (hO : Ok D S C s) : Ok D S C (loS s d) := by
  have eh : ∀ e, (loS s d).how e = ud s.how d 1 e := fun _ => rfl
  have ed : ∀ e, (loS s d).don e = ud s.don d 0 e := fun _ => rfl
  refine ⟨loS_how hO.how, ?_, ?_, ?_, hO.byt, ?_, hO.sp, hO.nx, hO.di⟩
  · intro e he h
    rw [eh] at h; rw [ed]
    unfold ud at h ⊢
    by_cases q : e = d
    · rw [if_pos q] at h; exact absurd h (by decide)
    · rw [if_neg q] at h ⊢; exact hO.h0 e he h
  · intro e he h
    rw [eh] at h; rw [ed]
    unfold ud at h ⊢
    by_cases q : e = d
    · rw [if_pos q]
    · rw [if_neg q] at h ⊢; exact hO.h1 e he h
  · intro e he h
    rw [eh] at h; rw [ed]
    unfold ud at h ⊢
    by_cases q : e = d
    · rw [if_pos q] at h; exact absurd h (by decide)
    · rw [if_neg q] at h ⊢; exact hO.h2 e he h
  · have e1 : ct (fun e => decide ((loS s d).how e ≠ 0)) (D + 2) = ct (fun r => decide (r = d) || nw D s r) (D + 2) := ct_ext (by
      intro r hr
      rw [eh]
      unfold ud nw
      by_cases q : r = d
      · simp [q]
      · simp [q])
    rw [e1]
    by_cases z : s.how d = 0
    · have a := ct_set (p := nw D s) (d := d) (D + 2)
      have := hc z
      rw [if_pos hd] at a
      omega
    · have e2 : ct (fun r => decide (r = d) || nw D s r) (D + 2) = ct (fun e => decide (s.how e ≠ 0)) (D + 2) := ct_ext (by
        intro r hr
        by_cases q : r = d
        · rw [q]; simp [z]
        · simp [q, nw])
      rw [e2]; exact hO.two
