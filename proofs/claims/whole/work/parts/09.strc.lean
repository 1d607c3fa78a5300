/-! what String's members answer of the texts -/
theorem b_I {β : Type} (a : Int32) (s : gM) (F : Int32 → gM → Option β) : g_bI (some (a, s)) F = F a s := rfl
theorem b_V {β : Type} (s : gM) (F : gM → Option β) : g_bV (some s) F = F s := rfl
theorem b_L {β : Type} (s : gM) (F : gM → Option β) : g_let s F = F s := rfl
theorem sI_b {b c : Int32} (hb : 0 ≤ b.toInt ∧ b.toInt < 128) (hc : 0 ≤ c.toInt ∧ c.toInt ≤ 255) : b = c.toInt8.toInt32 ↔ b = c := by
  have e : c.toInt8.toInt32.toInt = c.toInt.bmod (2 ^ 8) := by simp [Int8.toInt_toInt32, Int32.toInt_toInt8]
  constructor
  · intro h
    apply Int32.toInt_inj.mp
    have h1 := congrArg Int32.toInt h
    rw [e] at h1
    simp only [Int.bmod] at h1
    split at h1 <;> omega
  · intro h
    subst h
    apply Int32.toInt_inj.mp
    rw [e]
    simp only [Int.bmod]
    split <;> omega
theorem sI_out {c : Int32} (hc : c < 0 ∨ 255 < c) : ∀ (l : List Int32) (k : Nat), (∀ b ∈ l, 0 ≤ b.toInt ∧ b.toInt < 128) → sIx c l k = -1
  | [], _, _ => rfl
  | b :: l, k, h => by
    have hb := h b List.mem_cons_self
    have hne : ¬ b = c := by
      intro e
      subst e
      rcases hc with q | q
      · have := Int32.lt_iff_toInt_lt.mp q
        simp at this
        omega
      · have := Int32.lt_iff_toInt_lt.mp q
        have e2 : (255 : Int32).toInt = 255 := by decide
        omega
    show (if b = c then nI k else sIx c l (k + 1)) = -1
    rw [if_neg hne]
    exact sI_out hc l (k + 1) (fun b hb => h b (List.mem_cons_of_mem _ hb))
theorem sI_loop {n s : Nat} {tx : List Int32} {c : Int32} (hc : 0 ≤ c.toInt ∧ c.toInt ≤ 255) (hl : tx.length < 2 ^ 31) (hb : ∀ b ∈ tx, 0 ≤ b.toInt ∧ b.toInt < 128) (σ : gM) :
    ∀ (m i : Nat) (l : List Int32), i + l.length = tx.length → tx.drop i = l → l.length < m → fJ1_indexOfChar_4cfef_L7 n s tx m (nI tx.length) c.toInt8.toInt32 (nI i) σ = some (sIx c l i, σ) := by
  intro m
  induction m with
  | zero => intro i l _ _ h; omega
  | succ m ih =>
    intro i l hi hd hm
    show fJ1_indexOfChar_4cfef_b7 n s tx (fJ1_indexOfChar_4cfef_L7 n s tx m) (nI tx.length) c.toInt8.toInt32 (nI i) σ = _
    unfold fJ1_indexOfChar_4cfef_b7
    cases l with
    | nil =>
      have : i = tx.length := by simpa using hi
      subst this
      rw [if_pos (nI_le (Nat.le_refl _) hl)]
      rfl
    | cons b l =>
      have hlt : i < tx.length := by simp at hi; omega
      have hget : tx.getD i 0 = b := by
        have h1 : tx.drop i = b :: l := hd
        have h2 : tx[i]? = some b := by
          rw [← List.head?_drop, h1]
          rfl
        simp [List.getD, h2]
      have hbm : b ∈ tx := by
        have : b ∈ tx.drop i := by rw [hd]; exact List.mem_cons_self
        exact List.mem_of_mem_drop this
      rw [if_neg (nI_ge hlt hl), nI_clamp (by omega), if_pos (by rintro (q | q); exact nI_pos (by omega) q; omega), hget]
      show _ = some (if b = c then nI i else sIx c l (i + 1), σ)
      by_cases hbc : b = c
      · rw [if_pos ((sI_b (hb b hbm) hc).mpr hbc), if_pos hbc]
      · rw [if_neg (fun q => hbc ((sI_b (hb b hbm) hc).mp q)), if_neg hbc, nI_1]
        refine ih (i + 1) l (by simp at hi; omega) ?_ (by simp at hm; omega)
        rw [← List.drop_drop, hd]
        rfl
theorem sI_len {s : Nat} {tx : List Int32} (σ : gM) : fJ0_length_8abf5 s tx σ = some (nI tx.length, σ) := by
  show some ((Int32.ofNat tx.length) >>> ((0 : Int32) &&& 31), σ) = some (nI tx.length, σ)
  have e : (Int32.ofNat tx.length) >>> ((0 : Int32) &&& 31) = nI tx.length := by
    apply Int32.toInt_inj.mp
    rw [pk_shr _ _ 0 (by decide)]
    simp [nI]
  rw [e]
theorem sI_indexOf {n s : Nat} {tx : List Int32} {c : Int32} (hn : tx.length < n) (h0 : 0 < tx.length) (hl : tx.length < 2 ^ 31) (hb : ∀ b ∈ tx, 0 ≤ b.toInt ∧ b.toInt < 128) (σ : gM) : fJ0_indexOf_0f7a4 n s tx c σ = some (sIx c tx 0, σ) := by
  have h1 : fJ1_indexOf_4cfef n s tx c 0 (nI tx.length) σ = some (sIx c tx 0, σ) := by
    unfold fJ1_indexOf_4cfef fJ1_canEncode_9a6ad
    by_cases c1 : c < 0
    · rw [if_pos c1]
      show some (_, _) = _
      rw [sI_out (Or.inl c1) tx 0 hb]
    · rw [if_neg c1]
      by_cases c2 : 255 < c
      · rw [if_pos c2]
        show some (_, _) = _
        rw [sI_out (Or.inr c2) tx 0 hb]
      · rw [if_neg c2]
        have hc : 0 ≤ c.toInt ∧ c.toInt ≤ 255 := by
          have q1 := Int32.le_iff_toInt_le.mp (Int32.not_lt.mp c1)
          have q2 := Int32.le_iff_toInt_le.mp (Int32.not_lt.mp c2)
          have e2 : (255 : Int32).toInt = 255 := by decide
          have e0 : (0 : Int32).toInt = 0 := by decide
          omega
        rw [b_I, if_neg (by decide), if_neg (by decide : ¬ (0 : Int32) < 0)]
        have e1 : (if (Int32.ofNat tx.length) < nI tx.length then (Int32.ofNat tx.length) else nI tx.length) = nI tx.length := by
          split <;> rfl
        rw [e1, if_pos (by have := nI_lt h0 hl; rwa [nI_0] at this)]
        have h2 := sI_loop (n := n) (s := s) hc hl hb σ n 0 tx (by simp) rfl hn
        unfold fJ1_indexOfChar_4cfef
        rw [show (0 : Int32) = nI 0 from rfl, h2]
        rfl
  unfold fJ0_indexOf_0f7a4 fJ0_indexOf_7cf53
  have h0 : fJ0_isLatin1_aae02 s tx σ = some (1, σ) := rfl
  rw [h0, b_I, if_neg (by decide), sI_len, b_I, h1]
  rfl
theorem sI_all : ∀ k, k < 2 → ∀ b ∈ (gxT.getD k (0, "", [])).2.2, 0 ≤ b.toInt ∧ b.toInt < 128 := by decide
theorem sM_all : ∀ k, k < 3 → ∀ j, j < (mTx k).length → fJ0_charAt_5068e k (mTx k) (nI j) ((fun _ _ => 0, fun _ => 0) : gM) = some ((mTx k).getD j 0, (fun _ _ => 0, fun _ => 0)) := by
  intro k hk j hj
  rcases (show k = 0 ∨ k = 1 ∨ k = 2 by omega) with rfl | rfl | rfl
  · have hj : j < 5 := hj
    rcases (show j = 0 ∨ j = 1 ∨ j = 2 ∨ j = 3 ∨ j = 4 by omega) with rfl | rfl | rfl | rfl | rfl <;> rfl
  · have hj : j < 2 := hj
    rcases (show j = 0 ∨ j = 1 by omega) with rfl | rfl <;> rfl
  · have hj : j < 9 := hj
    rcases (show j = 0 ∨ j = 1 ∨ j = 2 ∨ j = 3 ∨ j = 4 ∨ j = 5 ∨ j = 6 ∨ j = 7 ∨ j = 8 by omega) with rfl | rfl | rfl | rfl | rfl | rfl | rfl | rfl | rfl <;> rfl
theorem sM_char (σ : gM) : ∀ k, k < 3 → ∀ j, j < (mTx k).length → fJ0_charAt_5068e k (mTx k) (nI j) σ = some ((mTx k).getD j 0, σ) := by
  intro k hk j hj
  rcases (show k = 0 ∨ k = 1 ∨ k = 2 by omega) with rfl | rfl | rfl
  · have hj : j < 5 := hj
    rcases (show j = 0 ∨ j = 1 ∨ j = 2 ∨ j = 3 ∨ j = 4 by omega) with rfl | rfl | rfl | rfl | rfl <;> rfl
  · have hj : j < 2 := hj
    rcases (show j = 0 ∨ j = 1 by omega) with rfl | rfl <;> rfl
  · have hj : j < 9 := hj
    rcases (show j = 0 ∨ j = 1 ∨ j = 2 ∨ j = 3 ∨ j = 4 ∨ j = 5 ∨ j = 6 ∨ j = 7 ∨ j = 8 by omega) with rfl | rfl | rfl | rfl | rfl | rfl | rfl | rfl | rfl <;> rfl
section STC
variable {l : Launch} {dC : Nat → ClassId} {dI : Nat → Nat → Nat} {ad : Nat → Nat} {ca : Nat → ClassId} {X : (Nat → Prop) → State → Heap → Prop} {fmt : Value}
theorem sX_indexOf (hE : gES ad X 1010 1020 gxT fmt) (k : Nat) (c : Int32) (σ : gM) (hk : k < 2) : g_C l dC dI ad ca shX X yJ0_indexOf_0f7a4 cJ0_indexOf_0f7a4 2 (some .int) (gR 3) [.ref (1010 + k), .int c] σ (some (.int (xIx k c))) σ := by
  refine kJ0_indexOf_0f7a4 hE 100 k (gxT.getD k (0, "", [])).2.2 ?_ c σ ?_
  · rcases (show k = 0 ∨ k = 1 by omega) with rfl | rfl <;> exact ⟨_, _, rfl⟩
  · rcases (show k = 0 ∨ k = 1 by omega) with rfl | rfl <;> exact sI_indexOf (by decide) (by decide) (by decide) (sI_all _ (by decide)) σ
theorem sM_length (hE : gES ad X 1000 1010 gmT fmt) (k : Nat) (σ : gM) (hk : k < 3) : g_C l dC dI ad ca shM X yJ0_length_8abf5 cJ0_length_8abf5 1 (some .int) (gR 1) [.ref (1000 + k)] σ (some (.int (nI (mTx k).length))) σ := by
  refine kJ0_length_8abf5 hE k (mTx k) ?_ σ (sI_len σ)
  rcases (show k = 0 ∨ k = 1 ∨ k = 2 by omega) with rfl | rfl | rfl <;> exact ⟨_, _, rfl⟩
theorem sM_charAt (hE : gES ad X 1000 1010 gmT fmt) (k j : Nat) (x : Int32) (σ : gM) (hk : k < 3) (hj : j < (mTx k).length) (hx : x = nI j) : g_C l dC dI ad ca shM X yJ0_charAt_5068e cJ0_charAt_5068e 2 (some .char) (gR 3) [.ref (1000 + k), .int x] σ (some (.int ((mTx k).getD j 0))) σ := by
  subst hx
  refine kJ0_charAt_5068e hE k (mTx k) ?_ (nI j) σ (sM_char σ k hk j hj)
  rcases (show k = 0 ∨ k = 1 ∨ k = 2 by omega) with rfl | rfl | rfl <;> exact ⟨_, _, rfl⟩
end STC
