/-! what is known at the law's start -/
def adC (L : List Nat) (f : Nat → Nat) (k : Nat) : Nat := if k < 50 then L.getD k 0 else f k
theorem adC_hi (L : List Nat) (f : Nat → Nat) {k : Nat} (h : 50 ≤ k) : adC L f k = f k := if_neg (Nat.not_lt.mpr h)
theorem st_text {args : Array Value} {s : State} {t : Term} {tx : List Int32} {A : Nat → Prop} (hN : tx.length < 2 ^ 31) (hex : (Cond.exactly t "java/lang/String").before args s = true) (hco : (Cond.eq (.field t "java/lang/String" "coder" "B") (.int 0)).before args s = true) (har : (Cond.arrayOf (.field t "java/lang/String" "value" "[B") .byte).before args s = true) (hle : (Cond.eq (.length (.field t "java/lang/String" "value" "[B")) (.int (Int32.ofNat tx.length))).before args s = true) (hel : ∀ j, j < tx.length → (Cond.eq (.elem (.field t "java/lang/String" "value" "[B") (.int (Int32.ofNat j))) (.int (tx.getD j 0))).before args s = true) (hA : ∀ a : Nat, a < s.heap.size → ¬ A a) :
    ∃ a u : Nat, t.eval args s none [] s = some (.ref a) ∧ va_OF "java/lang/String" "coder" "B" (.int 0) a A s s.heap ∧ va_OF "java/lang/String" "value" "[B" (.ref u) a A s s.heap ∧ va_T .byte u tx.length (fun j => .int (tx.getD j 0)) A s s.heap ∧ va_O "java/lang/String" a A s s.heap := by
  obtain ⟨a, c, cA, kA, q1, q2, q3, q4, q5, q6, -⟩ := Cond.exactly_spec (args := args) (first := s) (o := none) (s := s) (idx := []) (t := t) (cls := "java/lang/String") hex
  obtain ⟨u, hu, hT⟩ := va_Tof (f := fun j => .int (tx.getD j 0)) (A := A) hN har (va_eqt hle) (fun j hj => va_eqt (hel j hj)) hA
  exact ⟨a, u, q1, vk_OFof q1 (va_eqt hco) hA, vk_OFof q1 hu hA, hT, ⟨cA, q3, q5, by rw [q6]; exact q2, hA a (Array.getElem?_eq_some_iff.mp q3).1⟩⟩
theorem st_arr {args : Array Value} {s : State} {C n : String} {tx : List Int32} {A : Nat → Prop} (hN : tx.length < 2 ^ 31) (hl : (Cond.laysStatic C n "[I").before args s = true) (hini : (Cond.initialized C).before args s = true) (har : (Cond.arrayOf (.static C n "[I") .int).before args s = true) (hle : (Cond.eq (.length (.static C n "[I")) (.int (Int32.ofNat tx.length))).before args s = true) (hel : ∀ j, j < tx.length → (Cond.eq (.elem (.static C n "[I") (.int (Int32.ofNat j))) (.int (tx.getD j 0))).before args s = true) (hA : ∀ a : Nat, a < s.heap.size → ¬ A a) :
    ∃ t : Nat, va_Z C n "[I" (.ref t) A s s.heap ∧ va_T .int t tx.length (fun j => .int (tx.getD j 0)) A s s.heap := by
  obtain ⟨u, hu, hT⟩ := va_Tof (f := fun j => .int (tx.getD j 0)) (A := A) hN har (va_eqt hle) (fun j hj => va_eqt (hel j hj)) hA
  exact ⟨u, va_Zof hl hini hu hA, hT⟩
def tfmt : String := "Ljava/util/function/BiFunction;"
def TXf (own : String) (f : Nat → Nat) (b1 b2 : Nat) (q : Nat × String × List Int32) (k : Nat) (A : Nat → Prop) (U : State) (H : Heap) : Prop :=
  vk_R own q.1 q.2.1 (f (b1 + k)) U ∧ va_OF "java/lang/String" "coder" "B" (.int 0) (f (b1 + k)) A U H ∧ va_OF "java/lang/String" "value" "[B" (.ref (f (b2 + k))) (f (b1 + k)) A U H ∧ va_T .byte (f (b2 + k)) q.2.2.length (fun j => .int (q.2.2.getD j 0)) A U H ∧ va_O "java/lang/String" (f (b1 + k)) A U H
def ZSf (f : Nat → Nat) (fmt : Value) (A : Nat → Prop) (U : State) (H : Heap) : Prop :=
  va_Z "java/lang/String" "COMPACT_STRINGS" "Z" (.int 1) A U H ∧ va_Z "jdk/internal/util/Preconditions" "SIOOBE_FORMATTER" tfmt (g_v f fmt) A U H
def XXp (f : Nat → Nat) (fmt : Value) (A : Nat → Prop) (U : State) (H : Heap) : Prop :=
  (∀ (k : Nat) (q : String × String × List Int32), gxS[k]? = some q → va_Z q.1 q.2.1 "[I" (.ref (f (1000 + k))) A U H ∧ va_T .int (f (1000 + k)) q.2.2.length (fun j => .int (q.2.2.getD j 0)) A U H) ∧
  va_Nw (.methodLinkNest RX8 137 yX11_isByte RX11) U ∧ (∀ (k : Nat) (q : Nat × String × List Int32), gxT[k]? = some q → TXf RX10 f 1010 1020 q k A U H) ∧ ZSf f fmt A U H ∧
  vx_Zq Bundle.tN "UNASSIGNED_STACK" Bundle.steD A U H ∧ vx_Zq Bundle.tN "SUPPRESSED_SENTINEL" Bundle.listD A U H ∧ (∀ w ∈ nsDcl, va_Nw w U) ∧ vk_R RX11 239 "no such address" (f 1030) U
def XMp (f : Nat → Nat) (fmt : Value) (A : Nat → Prop) (U : State) (H : Heap) : Prop :=
  (∀ (k : Nat) (q : Nat × String × List Int32), gmT[k]? = some q → TXf RX12 f 1000 1010 q k A U H) ∧ ZSf f fmt A U H
theorem dcl_warm {s U : State} (hW : s.WarmedH U.vm) (h : ∀ w ∈ nsDcl, va_Nw w s) : ∀ w ∈ nsDcl, va_Nw w U := by
  intro w hw
  have h1 := h w hw
  simp only [nsDcl, List.mem_cons, List.not_mem_nil, or_false] at hw
  rcases hw with rfl | rfl | rfl | rfl
  · exact va_Nw.warmD hW h1
  · exact va_Nw.warmD hW h1
  · exact va_Nw.warmD hW h1
  · exact va_Nw.warmC hW h1
theorem TXf_X {own : String} {f : Nat → Nat} {b1 b2 : Nat} {q : Nat × String × List Int32} {k : Nat} : g_X (TXf own f b1 b2 q k) :=
  ⟨fun A s U H hW h => ⟨vk_R.warm hW h.1, va_OF.moved hW.alike h.2.1, va_OF.moved hW.alike h.2.2.1, va_T.moved hW.alike h.2.2.2.1, va_O.moved hW.alike h.2.2.2.2⟩,
   fun A U H H1 hq h => ⟨h.1, h.2.1.kept hq, h.2.2.1.kept hq, h.2.2.2.1.kept hq, h.2.2.2.2.kept hq⟩,
   fun A B U H hAB h => ⟨h.1, h.2.1.narrow hAB, h.2.2.1.narrow hAB, h.2.2.2.1.narrow hAB, h.2.2.2.2.narrow hAB⟩⟩
theorem ZSf_X {f : Nat → Nat} {fmt : Value} : g_X (ZSf f fmt) :=
  ⟨fun A s U H hW h => ⟨va_Z.moved hW.alike h.1, va_Z.moved hW.alike h.2⟩, fun A U H H1 hq h => ⟨h.1.kept hq, h.2.kept hq⟩, fun A B U H hAB h => ⟨h.1.narrow hAB, h.2.narrow hAB⟩⟩
theorem XXp_X {f : Nat → Nat} {fmt : Value} : g_X (XXp f fmt) :=
  ⟨fun A s U H hW h => ⟨fun k q hk => ⟨va_Z.moved hW.alike (h.1 k q hk).1, va_T.moved hW.alike (h.1 k q hk).2⟩, va_Nw.warmM hW h.2.1, fun k q hk => TXf_X.1 A s U H hW (h.2.2.1 k q hk), ZSf_X.1 A s U H hW h.2.2.2.1, vx_Zq.moved hW.alike h.2.2.2.2.1, vx_Zq.moved hW.alike h.2.2.2.2.2.1, dcl_warm hW h.2.2.2.2.2.2.1, vk_R.warm hW h.2.2.2.2.2.2.2⟩,
   fun A U H H1 hq h => ⟨fun k q hk => ⟨(h.1 k q hk).1.kept hq, (h.1 k q hk).2.kept hq⟩, h.2.1, fun k q hk => TXf_X.2.1 A U H H1 hq (h.2.2.1 k q hk), ZSf_X.2.1 A U H H1 hq h.2.2.2.1, h.2.2.2.2.1.kept hq, h.2.2.2.2.2.1.kept hq, h.2.2.2.2.2.2.1, h.2.2.2.2.2.2.2⟩,
   fun A B U H hAB h => ⟨fun k q hk => ⟨(h.1 k q hk).1.narrow hAB, (h.1 k q hk).2.narrow hAB⟩, h.2.1, fun k q hk => TXf_X.2.2 A B U H hAB (h.2.2.1 k q hk), ZSf_X.2.2 A B U H hAB h.2.2.2.1, h.2.2.2.2.1.narrow hAB, h.2.2.2.2.2.1.narrow hAB, h.2.2.2.2.2.2.1, h.2.2.2.2.2.2.2⟩⟩
theorem XMp_X {f : Nat → Nat} {fmt : Value} : g_X (XMp f fmt) :=
  ⟨fun A s U H hW h => ⟨fun k q hk => TXf_X.1 A s U H hW (h.1 k q hk), ZSf_X.1 A s U H hW h.2⟩, fun A U H H1 hq h => ⟨fun k q hk => TXf_X.2.1 A U H H1 hq (h.1 k q hk), ZSf_X.2.1 A U H H1 hq h.2⟩, fun A B U H hAB h => ⟨fun k q hk => TXf_X.2.2 A B U H hAB (h.1 k q hk), ZSf_X.2.2 A B U H hAB h.2⟩⟩
theorem fmt_adC {L : List Nat} {f : Nat → Nat} {fmt : Value} (hf : fmt = .null ∨ fmt = .ref 1040) : g_v (adC L f) fmt = g_v f fmt := by
  rcases hf with rfl | rfl
  · rfl
  · exact congrArg Value.ref (adC_hi L f (by decide))
section KNE
variable {l : Launch} {dC : Nat → ClassId} {dI : Nat → Nat → Nat} {ca : Nat → ClassId} {L : List Nat} {f : Nat → Nat} {fmt : Value}
theorem XXp_S (hf : fmt = .null ∨ fmt = .ref 1040) : gES (adC L f) (XXp f fmt) 1010 1020 gxT fmt := by
  refine ⟨XXp_X, fun A U H h k q hk => ?_, fun A U H h => h.2.2.2.1.1, fun A U H h => by rw [fmt_adC hf]; exact h.2.2.2.1.2, ?_⟩
  · obtain ⟨-, h2, h3, h4, h5⟩ := h.2.2.1 k q hk
    rw [adC_hi L f (by omega), adC_hi L f (by omega)]
    obtain ⟨cell, c1, c2, c3, -⟩ := h5
    exact ⟨h2, h3, h4, cell, c1, c2, c3⟩
  · rcases hf with rfl | rfl
    · exact Or.inl rfl
    · exact Or.inr ⟨_, rfl⟩
theorem XXp_E (hf : fmt = .null ∨ fmt = .ref 1040) : gEX l dC dI (adC L f) ca (XXp f fmt) := by
  refine ⟨XXp_X, fun A U H h k q hk => ?_, fun A U H h => h.2.1, fun A U H h k q hk => ?_, fun k c σ hk => sX_indexOf (XXp_S hf) k c σ hk⟩
  · rw [adC_hi L f (by omega)]
    exact h.1 k q hk
  · obtain ⟨h1, -, -, -, h5⟩ := h.2.2.1 k q hk
    rw [adC_hi L f (by omega)]
    obtain ⟨cell, c1, c2, c3, -⟩ := h5
    exact ⟨h1, cell, c1, c2, c3⟩
theorem XXp_T : gET (adC L f) (XXp f fmt) := fun A U H h => ⟨h.2.2.2.2.1, h.2.2.2.2.2.1, h.2.2.2.2.2.2.1, by rw [adC_hi L f (by decide)]; exact h.2.2.2.2.2.2.2⟩
theorem XMp_S (hf : fmt = .null ∨ fmt = .ref 1040) : gES (adC L f) (XMp f fmt) 1000 1010 gmT fmt := by
  refine ⟨XMp_X, fun A U H h k q hk => ?_, fun A U H h => h.2.1, fun A U H h => by rw [fmt_adC hf]; exact h.2.2, ?_⟩
  · obtain ⟨-, h2, h3, h4, h5⟩ := h.1 k q hk
    rw [adC_hi L f (by omega), adC_hi L f (by omega)]
    obtain ⟨cell, c1, c2, c3, -⟩ := h5
    exact ⟨h2, h3, h4, cell, c1, c2, c3⟩
  · rcases hf with rfl | rfl
    · exact Or.inl rfl
    · exact Or.inr ⟨_, rfl⟩
theorem XMp_E (hf : fmt = .null ∨ fmt = .ref 1040) : gEM l dC dI (adC L f) ca (XMp f fmt) := by
  refine ⟨XMp_X, fun A U H h k q hk => ?_, fun k σ hk => sM_length (XMp_S hf) k σ hk, fun k j x σ hk hj hx => sM_charAt (XMp_S hf) k j x σ hk hj hx⟩
  obtain ⟨h1, -, -, -, h5⟩ := h.1 k q hk
  rw [adC_hi L f (by omega)]
  obtain ⟨cell, c1, c2, c3, -⟩ := h5
  exact ⟨h1, cell, c1, c2, c3⟩
end KNE
