/-! calls out of the law: the callee's side changes, the other cells stay -/
def fl : Nat := 1000
theorem lw_call {p : Program} {l : Launch} {e : Env} {R : Room} {s : State} {m : MethodId} {args : Array Value} {below : List Frame} {meth : Method} {c : Code} {H : Heap} {locs : List Loc} {cells slots : Nat} {Q : State → Prop} {dC : Nat → ClassId} {dI : Nat → Nat → Nat} {ad : Nat → Nat} {ca : Nat → ClassId} {sh : List gE} {X : (Nat → Prop) → State → Heap → Prop} {cc : ByteArray} {nL : Nat} {own : String} {pc : Nat} {ls : Array Slot} {A0 : Nat → Prop}
    {idx n q ci nL1 : Nat} {y : MethodName} {cc1 : ByteArray} {ret1 : Option FieldType} {rm : Room} {as : List Value} {r1 : Option Value} {σ σ1 : gM} {sl : List (Option (Option Nat))} {T : u_T} {N : Nat} {stk st : List Value} (hS0 : CallFix p m c cc nL s args gW own) (hXX : g_X X) (hv : g_V own idx y cc1 nL1 ret1 n) (hs : sh[q]? = some (.inr (.inl (ci, sl)))) (hcl : vwCl[ci]? = some (y.cls, T, N)) (hC : g_C l dC dI ad ca sh X y cc1 nL1 ret1 rm (.ref q :: as) σ r1 σ1)
    (hn : as.length = n) (hR : rm.cells = 0 ∧ rm.slots = 0 ∧ rm.frames + 1 ≤ R.frames ∧ 8 + (nL1 + 11) + rm.locals ≤ R.locals) (hst : (st.map fun v => v.category).sum ≤ 8) (hk : stk = (as.map (g_v ad)).reverse ++ .ref (ad q) :: st) (hd : decode cc pc = .ok (.invokevirtual idx, 3))
    (hK : va_K (dC, dI) vwCl (g_tys ca sh) s) (hX : X A0 s s.heap) (hA : ∀ h, s.heap.size ≤ h → ∀ q, g_A ad sh h q → A0 q) (hP : va_P (dC, dI) vwCl (g_w ad ca sh σ) H) (hD : va_D (g_A ad sh H.size) (g_w ad ca sh σ)) (hS : va_S A0 s.heap H locs) (hl : ls.size = nL) (hcs : cells ≤ R.cells ∧ slots ≤ R.slots)
    (kk : ∀ (H1 : Heap) (locs1 : List Loc), va_P (dC, dI) vwCl (g_w ad ca sh σ1) H1 → (∀ q, q < H.size → ¬ g_A ad sh H.size q → H1[q]? = H[q]?) → va_S A0 s.heap H1 locs1 → W p l e R s m args below meth c H1 locs1 cells slots Q (F0 m (pc + 3) ls ((r1.map (g_v ad)).toList ++ st))) : W p l e R s m args below meth c H locs cells slots Q (F0 m pc ls stk) := by
  obtain ⟨w1, w2, w3, w4, w5, w6, w7, w8⟩ := hv
  obtain ⟨hx, hb, hml, hown, hts⟩ := hS0
  have hG : GoodIn gW (wsV own idx y.cls y (Cond.code y cc1 nL1 ret1 :: gW)) := by
    intro w hw
    rcases List.mem_append.mp hw with h | h
    · simp only [List.mem_cons, List.not_mem_nil, or_false] at h
      rcases h with rfl | rfl | rfl | rfl
      · exact ⟨w1, good_of_word (List.mem_filter.mp w1).2⟩
      · exact ⟨w2, good_of_word (List.mem_filter.mp w2).2⟩
      · exact ⟨w3, good_of_word (List.mem_filter.mp w3).2⟩
      · exact ⟨w4, good_of_word (List.mem_filter.mp w4).2⟩
    · exact gW_good w5 w h
  have hbl : FrameBlind (va_Pc ((Value.ref q :: as).map (g_v ad)) (fun U => U.heap.size = H.size ∧ va_P (dC, dI) vwCl (g_w ad ca sh σ) U.heap ∧ va_K (dC, dI) vwCl (g_tys ca sh) U ∧ va_D (g_A ad sh H.size) (g_w ad ca sh σ) ∧ X (g_A ad sh H.size) U U.heap)) := by
    intro a U g mk q
    obtain ⟨q0, q1, qP, qK, qD, qX⟩ := q
    exact ⟨q0, q1, qP, va_K.moved (u := U) (U := U.calling g mk a) (Vm.Alike.refl U.vm) qK, qD, hXX.1 _ U (U.calling g mk a) _ (State.WarmedH.refl U) qX⟩
  have hrun := va_runV (As := as.map (g_v ad)) (rest := st) (b := ad q) (g := F0 m pc ls stk) (locs := locs) (cells := cells) (slots := slots) (n := n) (mc := 0) (ms := 0) (R := R) (below := below) (e := e) (meth := meth) ⟨hx, hb, hml, hown, hts⟩ (hC H.size)
    (cwV n hts hG rfl hR.1 hR.2.1 ⟨rfl, w6, w7, w8⟩ hR.2.2) ⟨hbl, va_recv hK hP hcl (g_w_at (ad := ad) (ca := ca) (σ := σ) hs), fun U hU hW => by
      subst hU
      exact ⟨rfl, rfl, hP, va_K.moved hW.alike hK, hD, hXX.2.2 _ _ U _ (hA _ hS.1) (hXX.1 _ s U _ hW (hXX.2.1 _ s _ _ hS.2.1 hX))⟩⟩ rfl (by rw [List.length_map]; exact hn) hl hk (by have := lv_room (m := m) (pc := pc) (ls := ls) (rest := stk) (st := st) hst; exact this) hd hcs
  intro T9 hT X9
  obtain ⟨v, st₀, t, T', L, h0, X', hL, e1, e2, ⟨⟨hv, hp⟩, hz, hk⟩, stp⟩ := hrun T9 hT X9
  cases hv
  rw [h0] at hz hk
  obtain ⟨t2, a1, b1⟩ := kk T'.heap (locs ++ L) (by rw [e1]; exact hp) (fun q h1 h2 => by rw [e1]; exact hk q h1 h2)
    ⟨Nat.le_trans hS.1 (by rw [e1]; exact hz), fun q h1 h2 => by rw [e1, hk q (Nat.lt_of_lt_of_le h1 hS.1) (fun z => h2 (hA _ hS.1 q z))]; exact hS.2.1 q h1 h2, fun q hq => by
      rcases List.mem_append.mp hq with h | h
      · exact hS.2.2 q h
      · exact hA _ hS.1 _ (hL q h)⟩ T' rfl X'
  exact ⟨t2, stp t2 a1, b1⟩
/-- both sides and the law's own long, apart, all behind sz -/
def lwD (adX adM : Nat → Nat) (qo sz : Nat) : Prop := (∀ i j, i < 50 → j < 50 → adX i = adX j → i = j) ∧ (∀ i j, i < 16 → j < 16 → adM i = adM j → i = j) ∧ (∀ i j, i < 50 → j < 16 → adX i ≠ adM j) ∧ (∀ i, i < 50 → adX i ≠ qo) ∧ (∀ j, j < 16 → adM j ≠ qo) ∧ (∀ i, i < 50 → sz ≤ adX i) ∧ (∀ j, j < 16 → sz ≤ adM j) ∧ sz ≤ qo
def lwW (dC : Nat → ClassId) (dI : Nat → Nat → Nat) (adX adM : Nat → Nat) (caX caM : Nat → ClassId) (qo : Nat) (co : ClassId) (σX σM : gM) (fo : Nat → Int64) (H : Heap) : Prop :=
  va_P (dC, dI) vwCl (g_w adX caX shX σX) H ∧ va_P (dC, dI) vwCl (g_w adM caM shM σM) H ∧ va_P (dC, dI) vwCl [(qo, .inl (co, 1, .inr (.inl fo)))] H
theorem lw_keepP {D : va_G} {ws : va_W} {H H1 : Heap} {A : Nat → Prop} (hP : va_P D vwCl ws H) (hk : ∀ q, q < H.size → ¬ A q → H1[q]? = H[q]?) (ha : ∀ (k : Nat) (q : Nat × va_E), ws[k]? = some q → q.1 < H.size → ¬ A q.1) : va_P D vwCl ws H1 := by
  intro k q hq
  have h := hP k q hq
  exact h.kept (hk q.1 h.lt (ha k q hq h.lt))
theorem lw_DX {ad : Nat → Nat} {ca : Nat → ClassId} {sh : List gE} {σ : gM} {h n : Nat} (hn : sh.length = n) (hd : ∀ i j, i < n → j < n → ad i = ad j → i = j) : va_D (g_A ad sh h) (g_w ad ca sh σ) := by
  refine ⟨fun i j p q hp hq he => ?_, fun k q hq => ?_⟩
  · obtain ⟨h1, h2⟩ := g_w_of hp
    obtain ⟨h3, h4⟩ := g_w_of hq
    exact hd i j (by omega) (by omega) (by rw [← h2, ← h4, he])
  · obtain ⟨h1, h2⟩ := g_w_of hq
    exact Or.inl ⟨k, h1, h2.symm⟩
/-- what is fixed while the law runs -/
def lwH (l : Launch) (p : Program) (s : State) (m : MethodId) (meth : Method) (c : Code) (b L : Nat) (xs : Nat → Int32) (dC : Nat → ClassId) (dI : Nat → Nat → Nat) (adX adM : Nat → Nat) (caX caM : Nat → ClassId) (qo : Nat) (co : ClassId) (XX XM : (Nat → Prop) → State → Heap → Prop) : Prop :=
  lw_At p s m meth c b L xs ∧ va_K (dC, dI) vwCl (g_tys caX shX) s ∧ va_K (dC, dI) vwCl (g_tys caM shM) s ∧ va_K (dC, dI) vwCl [(co, .long)] s ∧ gEX l dC dI adX caX XX ∧ gEM l dC dI adM caM XM ∧ XX (fun q => s.heap.size ≤ q) s s.heap ∧ XM (fun q => s.heap.size ≤ q) s s.heap ∧ lwD adX adM qo s.heap.size
section LWC
variable {l : Launch} {p : Program} {e : Env} {s : State} {m : MethodId} {below : List Frame} {meth : Method} {c : Code} {b L : Nat} {xs : Nat → Int32} {dC : Nat → ClassId} {dI : Nat → Nat → Nat} {adX adM : Nat → Nat} {caX caM : Nat → ClassId} {qo : Nat} {co : ClassId} {XX XM : (Nat → Prop) → State → Heap → Prop} {σX σM τX τM : gM} {fo : Nat → Int64} {H : Heap} {locs : List Loc} {cells slots : Nat} {Q : State → Prop} {pc : Nat} {ls : Array Slot}
theorem lw_gW (h : lw_At p s m meth c b L xs) : ∀ w ∈ gW, w.before #[Value.ref b] s = true := fun w hw => h.2.2.2.2.2.1 w (List.mem_filter.mp hw).1
theorem lw_callX {idx n nL1 d : Nat} {y : MethodName} {cc1 : ByteArray} {ret1 : Option FieldType} {as : List Value} {r1 : Int32} {stk st : List Value} (hh : lwH l p s m meth c b L xs dC dI adX adM caX caM qo co XX XM) (hv : g_V RL idx y cc1 nL1 ret1 n) (hy : y.cls = RX11) (hC : g_C l dC dI adX caX shX XX y cc1 nL1 ret1 (gR d) (.ref 0 :: as) σX (some (.int r1)) τX) (hn : as.length = n) (hd1 : d < 13 ∧ nL1 ≤ 20) (hst : (st.map fun v => v.category).sum ≤ 8) (has : as.map (g_v adX) = as) (hk : stk = as.reverse ++ .ref (adX 0) :: st) (hd : decode code pc = .ok (.invokevirtual idx, 3))
    (hP : lwW dC dI adX adM caX caM qo co σX σM fo H) (hS : va_S (fun q => s.heap.size ≤ q) s.heap H locs) (hl : ls.size = 7) (hcs : cells ≤ 601024 ∧ slots ≤ 7293034)
    (kk : ∀ (H : Heap) (locs : List Loc), lwW dC dI adX adM caX caM qo co τX σM fo H → va_S (fun q => s.heap.size ≤ q) s.heap H locs → W p l e room_1 s m #[Value.ref b] below meth c H locs cells slots Q (F0 m (pc + 3) ls (.int r1 :: st))) : W p l e room_1 s m #[Value.ref b] below meth c H locs cells slots Q (F0 m pc ls stk) := by
  obtain ⟨hat, hKX, hKM, hKo, hEX, hEM, hXX, hXM, hD⟩ := hh
  obtain ⟨hx, hb, hr, hml, hown, hts, hXs, hbl, hlocks, hgv⟩ := id hat
  refine lw_call (own := RL) (T := TX11) (N := 16) (q := 0) (ci := 11) ⟨hx, hb, hml, hown, lw_gW hat⟩ hEX.1 hv rfl (by rw [hy]; rfl) hC hn ⟨rfl, rfl, by show d + 1 ≤ 14; omega, by show 8 + (nL1 + 11) + 39 * d ≤ 546; omega⟩ hst (by rw [has]; exact hk) hd hKX hXX (fun h hh q hq => ?_) hP.1 (lw_DX (n := 50) rfl hD.1) hS hl hcs (fun H1 locs1 hP1 hk1 hS1 => ?_)
  · rcases hq with ⟨k, h1, h2⟩ | h1
    · have := hD.2.2.2.2.2.1 k h1
      show s.heap.size ≤ q
      omega
    · exact Nat.le_trans hh h1
  · refine kk H1 locs1 ⟨hP1, lw_keepP hP.2.1 hk1 (fun k q hq hlt => ?_), lw_keepP hP.2.2 hk1 (fun k q hq hlt => ?_)⟩ hS1
    · obtain ⟨h1, h2⟩ := g_w_of hq
      rintro (⟨j, h3, h4⟩ | h3)
      · exact hD.2.2.1 j k h3 h1 (by rw [h4, h2])
      · omega
    · match k, hq with
      | 0, hq =>
        cases hq
        rintro (⟨j, h3, h4⟩ | h3)
        · exact hD.2.2.2.1 j h3 h4
        · exact absurd hlt (Nat.not_lt.mpr h3)
      | k + 1, hq => cases hq
theorem lw_callM {idx n nL1 d : Nat} {y : MethodName} {cc1 : ByteArray} {ret1 : Option FieldType} {as : List Value} {r1 : Int32} {stk st : List Value} (hh : lwH l p s m meth c b L xs dC dI adX adM caX caM qo co XX XM) (hv : g_V RL idx y cc1 nL1 ret1 n) (hy : y.cls = RX12) (hC : g_C l dC dI adM caM shM XM y cc1 nL1 ret1 (gR d) (.ref 0 :: as) σM (some (.int r1)) τM) (hn : as.length = n) (hd1 : d < 13 ∧ nL1 ≤ 20) (hst : (st.map fun v => v.category).sum ≤ 8) (has : as.map (g_v adM) = as) (hk : stk = as.reverse ++ .ref (adM 0) :: st) (hd : decode code pc = .ok (.invokevirtual idx, 3))
    (hP : lwW dC dI adX adM caX caM qo co σX σM fo H) (hS : va_S (fun q => s.heap.size ≤ q) s.heap H locs) (hl : ls.size = 7) (hcs : cells ≤ 601024 ∧ slots ≤ 7293034)
    (kk : ∀ (H : Heap) (locs : List Loc), lwW dC dI adX adM caX caM qo co σX τM fo H → va_S (fun q => s.heap.size ≤ q) s.heap H locs → W p l e room_1 s m #[Value.ref b] below meth c H locs cells slots Q (F0 m (pc + 3) ls (.int r1 :: st))) : W p l e room_1 s m #[Value.ref b] below meth c H locs cells slots Q (F0 m pc ls stk) := by
  obtain ⟨hat, hKX, hKM, hKo, hEX, hEM, hXX, hXM, hD⟩ := hh
  obtain ⟨hx, hb, hr, hml, hown, hts, hXs, hbl, hlocks, hgv⟩ := id hat
  refine lw_call (own := RL) (T := TX12) (N := 32) (q := 0) (ci := 12) ⟨hx, hb, hml, hown, lw_gW hat⟩ hEM.1 hv rfl (by rw [hy]; rfl) hC hn ⟨rfl, rfl, by show d + 1 ≤ 14; omega, by show 8 + (nL1 + 11) + 39 * d ≤ 546; omega⟩ hst (by rw [has]; exact hk) hd hKM hXM (fun h hh q hq => ?_) hP.2.1 (lw_DX (n := 16) rfl hD.2.1) hS hl hcs (fun H1 locs1 hP1 hk1 hS1 => ?_)
  · rcases hq with ⟨k, h1, h2⟩ | h1
    · have := hD.2.2.2.2.2.2.1 k h1
      show s.heap.size ≤ q
      omega
    · exact Nat.le_trans hh h1
  · refine kk H1 locs1 ⟨lw_keepP hP.1 hk1 (fun k q hq hlt => ?_), hP1, lw_keepP hP.2.2 hk1 (fun k q hq hlt => ?_)⟩ hS1
    · obtain ⟨h1, h2⟩ := g_w_of hq
      rintro (⟨j, h3, h4⟩ | h3)
      · exact hD.2.2.1 k j h1 h3 (by rw [h4, h2])
      · omega
    · match k, hq with
      | 0, hq =>
        cases hq
        rintro (⟨j, h3, h4⟩ | h3)
        · exact hD.2.2.2.2.1 j h3 h4
        · exact absurd hlt (Nat.not_lt.mpr h3)
      | k + 1, hq => cases hq
end LWC

theorem wvL_19 : g_V RL 19 yX11_feed cX11_feed 7 (some .int) 5 := ⟨gW_of (wb2 _ (List.mem_of_getElem? (i := 80) rfl)) rfl, gW_of (wb2 _ (List.mem_of_getElem? (i := 81) rfl)) rfl, gW_of (wb2 _ (List.mem_of_getElem? (i := 82) rfl)) rfl, gW_of (wb1 _ (List.mem_of_getElem? (i := 1) rfl)) rfl, gW_of (wb2 _ (List.mem_of_getElem? (i := 83) rfl)) rfl, by decide, by decide, rfl⟩
theorem wvL_23 : g_V RL 23 yX12_feed cX12_feed 6 (some .int) 5 := ⟨gW_of (wb7 _ (List.mem_of_getElem? (i := 8) rfl)) rfl, gW_of (wb7 _ (List.mem_of_getElem? (i := 9) rfl)) rfl, gW_of (wb7 _ (List.mem_of_getElem? (i := 10) rfl)) rfl, gW_of (wb1 _ (List.mem_of_getElem? (i := 13) rfl)) rfl, gW_of (wb7 _ (List.mem_of_getElem? (i := 11) rfl)) rfl, by decide, by decide, rfl⟩
theorem wvL_24 : g_V RL 24 yX11_end cX11_end 2 (some .boolean) 1 := ⟨gW_of (wb2 _ (List.mem_of_getElem? (i := 95) rfl)) rfl, gW_of (wb2 _ (List.mem_of_getElem? (i := 96) rfl)) rfl, gW_of (wb2 _ (List.mem_of_getElem? (i := 97) rfl)) rfl, gW_of (wb1 _ (List.mem_of_getElem? (i := 1) rfl)) rfl, gW_of (wb2 _ (List.mem_of_getElem? (i := 98) rfl)) rfl, by decide, by decide, rfl⟩
theorem wvL_28 : g_V RL 28 yX12_end cX12_end 2 (some .boolean) 1 := ⟨gW_of (wb7 _ (List.mem_of_getElem? (i := 19) rfl)) rfl, gW_of (wb7 _ (List.mem_of_getElem? (i := 20) rfl)) rfl, gW_of (wb7 _ (List.mem_of_getElem? (i := 21) rfl)) rfl, gW_of (wb1 _ (List.mem_of_getElem? (i := 13) rfl)) rfl, gW_of (wb7 _ (List.mem_of_getElem? (i := 22) rfl)) rfl, by decide, by decide, rfl⟩
theorem wvL_29 : g_V RL 29 yX11_fault cX11_fault 2 (some .int) 1 := ⟨gW_of (wb2 _ (List.mem_of_getElem? (i := 103) rfl)) rfl, gW_of (wb2 _ (List.mem_of_getElem? (i := 104) rfl)) rfl, gW_of (wb2 _ (List.mem_of_getElem? (i := 105) rfl)) rfl, gW_of (wb1 _ (List.mem_of_getElem? (i := 1) rfl)) rfl, gW_of (wb2 _ (List.mem_of_getElem? (i := 106) rfl)) rfl, by decide, by decide, rfl⟩
theorem wvL_32 : g_V RL 32 yX12_fault cX12_fault 2 (some .int) 1 := ⟨gW_of (wb7 _ (List.mem_of_getElem? (i := 23) rfl)) rfl, gW_of (wb7 _ (List.mem_of_getElem? (i := 24) rfl)) rfl, gW_of (wb7 _ (List.mem_of_getElem? (i := 25) rfl)) rfl, gW_of (wb1 _ (List.mem_of_getElem? (i := 13) rfl)) rfl, gW_of (wb7 _ (List.mem_of_getElem? (i := 26) rfl)) rfl, by decide, by decide, rfl⟩
theorem wvL_33 : g_V RL 33 yX11_text cX11_text 2 (some .int) 1 := ⟨gW_of (wb3 _ (List.mem_of_getElem? (i := 31) rfl)) rfl, gW_of (wb3 _ (List.mem_of_getElem? (i := 32) rfl)) rfl, gW_of (wb3 _ (List.mem_of_getElem? (i := 33) rfl)) rfl, gW_of (wb1 _ (List.mem_of_getElem? (i := 1) rfl)) rfl, gW_of (wb3 _ (List.mem_of_getElem? (i := 34) rfl)) rfl, by decide, by decide, rfl⟩
theorem wvL_36 : g_V RL 36 yX12_text cX12_text 4 (some .int) 1 := ⟨gW_of (wb7 _ (List.mem_of_getElem? (i := 139) rfl)) rfl, gW_of (wb7 _ (List.mem_of_getElem? (i := 140) rfl)) rfl, gW_of (wb7 _ (List.mem_of_getElem? (i := 141) rfl)) rfl, gW_of (wb1 _ (List.mem_of_getElem? (i := 13) rfl)) rfl, gW_of (wb7 _ (List.mem_of_getElem? (i := 142) rfl)) rfl, by decide, by decide, rfl⟩
theorem wvL_37 : g_V RL 37 yX11_rule cX11_rule 2 (some .int) 1 := ⟨gW_of (wb4 _ (List.mem_of_getElem? (i := 77) rfl)) rfl, gW_of (wb4 _ (List.mem_of_getElem? (i := 78) rfl)) rfl, gW_of (wb4 _ (List.mem_of_getElem? (i := 79) rfl)) rfl, gW_of (wb1 _ (List.mem_of_getElem? (i := 1) rfl)) rfl, gW_of (wb4 _ (List.mem_of_getElem? (i := 80) rfl)) rfl, by decide, by decide, rfl⟩
theorem wvL_40 : g_V RL 40 yX12_rule cX12_rule 2 (some .int) 1 := ⟨gW_of (wb8 _ (List.mem_of_getElem? (i := 171) rfl)) rfl, gW_of (wb8 _ (List.mem_of_getElem? (i := 172) rfl)) rfl, gW_of (wb8 _ (List.mem_of_getElem? (i := 173) rfl)) rfl, gW_of (wb1 _ (List.mem_of_getElem? (i := 13) rfl)) rfl, gW_of (wb8 _ (List.mem_of_getElem? (i := 174) rfl)) rfl, by decide, by decide, rfl⟩
theorem wvL_41 : g_V RL 41 yX11_times cX11_times 3 (some .int) 2 := ⟨gW_of (wb4 _ (List.mem_of_getElem? (i := 86) rfl)) rfl, gW_of (wb4 _ (List.mem_of_getElem? (i := 87) rfl)) rfl, gW_of (wb4 _ (List.mem_of_getElem? (i := 88) rfl)) rfl, gW_of (wb1 _ (List.mem_of_getElem? (i := 1) rfl)) rfl, gW_of (wb4 _ (List.mem_of_getElem? (i := 89) rfl)) rfl, by decide, by decide, rfl⟩
theorem wvL_45 : g_V RL 45 yX12_times cX12_times 3 (some .int) 2 := ⟨gW_of (wb7 _ (List.mem_of_getElem? (i := 110) rfl)) rfl, gW_of (wb7 _ (List.mem_of_getElem? (i := 111) rfl)) rfl, gW_of (wb7 _ (List.mem_of_getElem? (i := 112) rfl)) rfl, gW_of (wb1 _ (List.mem_of_getElem? (i := 13) rfl)) rfl, gW_of (wb7 _ (List.mem_of_getElem? (i := 113) rfl)) rfl, by decide, by decide, rfl⟩
theorem wvL_46 : g_V RL 46 yX11_over cX11_over 3 (some .int) 2 := ⟨gW_of (wb4 _ (List.mem_of_getElem? (i := 94) rfl)) rfl, gW_of (wb4 _ (List.mem_of_getElem? (i := 95) rfl)) rfl, gW_of (wb4 _ (List.mem_of_getElem? (i := 96) rfl)) rfl, gW_of (wb1 _ (List.mem_of_getElem? (i := 1) rfl)) rfl, gW_of (wb4 _ (List.mem_of_getElem? (i := 97) rfl)) rfl, by decide, by decide, rfl⟩
theorem wvL_49 : g_V RL 49 yX12_over cX12_over 3 (some .int) 2 := ⟨gW_of (wb7 _ (List.mem_of_getElem? (i := 121) rfl)) rfl, gW_of (wb7 _ (List.mem_of_getElem? (i := 122) rfl)) rfl, gW_of (wb7 _ (List.mem_of_getElem? (i := 123) rfl)) rfl, gW_of (wb1 _ (List.mem_of_getElem? (i := 13) rfl)) rfl, gW_of (wb7 _ (List.mem_of_getElem? (i := 124) rfl)) rfl, by decide, by decide, rfl⟩
theorem wvL_50 : g_V RL 50 yX11_power cX11_power 2 (some .int) 1 := ⟨gW_of (wb4 _ (List.mem_of_getElem? (i := 99) rfl)) rfl, gW_of (wb4 _ (List.mem_of_getElem? (i := 100) rfl)) rfl, gW_of (wb4 _ (List.mem_of_getElem? (i := 101) rfl)) rfl, gW_of (wb1 _ (List.mem_of_getElem? (i := 1) rfl)) rfl, gW_of (wb4 _ (List.mem_of_getElem? (i := 102) rfl)) rfl, by decide, by decide, rfl⟩
theorem wvL_53 : g_V RL 53 yX12_power cX12_power 2 (some .int) 1 := ⟨gW_of (wb7 _ (List.mem_of_getElem? (i := 129) rfl)) rfl, gW_of (wb7 _ (List.mem_of_getElem? (i := 130) rfl)) rfl, gW_of (wb7 _ (List.mem_of_getElem? (i := 131) rfl)) rfl, gW_of (wb1 _ (List.mem_of_getElem? (i := 13) rfl)) rfl, gW_of (wb7 _ (List.mem_of_getElem? (i := 132) rfl)) rfl, by decide, by decide, rfl⟩
theorem wvL_54 : g_V RL 54 yX11_logOf cX11_logOf 2 (some .int) 1 := ⟨gW_of (wb4 _ (List.mem_of_getElem? (i := 104) rfl)) rfl, gW_of (wb4 _ (List.mem_of_getElem? (i := 105) rfl)) rfl, gW_of (wb4 _ (List.mem_of_getElem? (i := 106) rfl)) rfl, gW_of (wb1 _ (List.mem_of_getElem? (i := 1) rfl)) rfl, gW_of (wb4 _ (List.mem_of_getElem? (i := 107) rfl)) rfl, by decide, by decide, rfl⟩
theorem wvL_57 : g_V RL 57 yX12_logOf cX12_logOf 2 (some .int) 1 := ⟨gW_of (wb7 _ (List.mem_of_getElem? (i := 134) rfl)) rfl, gW_of (wb7 _ (List.mem_of_getElem? (i := 135) rfl)) rfl, gW_of (wb7 _ (List.mem_of_getElem? (i := 136) rfl)) rfl, gW_of (wb1 _ (List.mem_of_getElem? (i := 13) rfl)) rfl, gW_of (wb7 _ (List.mem_of_getElem? (i := 137) rfl)) rfl, by decide, by decide, rfl⟩
theorem wvL_58 : g_V RL 58 yX11_place cX11_place 3 (some .int) 2 := ⟨gW_of (wb4 _ (List.mem_of_getElem? (i := 109) rfl)) rfl, gW_of (wb4 _ (List.mem_of_getElem? (i := 110) rfl)) rfl, gW_of (wb4 _ (List.mem_of_getElem? (i := 111) rfl)) rfl, gW_of (wb1 _ (List.mem_of_getElem? (i := 1) rfl)) rfl, gW_of (wb4 _ (List.mem_of_getElem? (i := 112) rfl)) rfl, by decide, by decide, rfl⟩
theorem wvL_61 : g_V RL 61 yX12_place cX12_place 3 (some .int) 2 := ⟨gW_of (wb8 _ (List.mem_of_getElem? (i := 175) rfl)) rfl, gW_of (wb8 _ (List.mem_of_getElem? (i := 176) rfl)) rfl, gW_of (wb8 _ (List.mem_of_getElem? (i := 177) rfl)) rfl, gW_of (wb1 _ (List.mem_of_getElem? (i := 13) rfl)) rfl, gW_of (wb8 _ (List.mem_of_getElem? (i := 178) rfl)) rfl, by decide, by decide, rfl⟩
theorem wvL_62 : g_V RL 62 yX11_part cX11_part 3 (some .int) 2 := ⟨gW_of (wb4 _ (List.mem_of_getElem? (i := 117) rfl)) rfl, gW_of (wb4 _ (List.mem_of_getElem? (i := 118) rfl)) rfl, gW_of (wb4 _ (List.mem_of_getElem? (i := 119) rfl)) rfl, gW_of (wb1 _ (List.mem_of_getElem? (i := 1) rfl)) rfl, gW_of (wb4 _ (List.mem_of_getElem? (i := 120) rfl)) rfl, by decide, by decide, rfl⟩
theorem wvL_65 : g_V RL 65 yX12_part cX12_part 3 (some .int) 2 := ⟨gW_of (wb8 _ (List.mem_of_getElem? (i := 179) rfl)) rfl, gW_of (wb8 _ (List.mem_of_getElem? (i := 180) rfl)) rfl, gW_of (wb8 _ (List.mem_of_getElem? (i := 181) rfl)) rfl, gW_of (wb1 _ (List.mem_of_getElem? (i := 13) rfl)) rfl, gW_of (wb8 _ (List.mem_of_getElem? (i := 182) rfl)) rfl, by decide, by decide, rfl⟩
theorem wvL_71 : g_V RL 71 yX12_read cX12_read 2 (some .int) 1 := ⟨gW_of (wb8 _ (List.mem_of_getElem? (i := 183) rfl)) rfl, gW_of (wb8 _ (List.mem_of_getElem? (i := 184) rfl)) rfl, gW_of (wb8 _ (List.mem_of_getElem? (i := 185) rfl)) rfl, gW_of (wb1 _ (List.mem_of_getElem? (i := 13) rfl)) rfl, gW_of (wb8 _ (List.mem_of_getElem? (i := 186) rfl)) rfl, by decide, by decide, rfl⟩
theorem wvL_72 : g_V RL 72 yX12_thrown cX12_thrown 1 (some .int) 0 := ⟨gW_of (wb7 _ (List.mem_of_getElem? (i := 4) rfl)) rfl, gW_of (wb7 _ (List.mem_of_getElem? (i := 5) rfl)) rfl, gW_of (wb7 _ (List.mem_of_getElem? (i := 6) rfl)) rfl, gW_of (wb1 _ (List.mem_of_getElem? (i := 13) rfl)) rfl, gW_of (wb7 _ (List.mem_of_getElem? (i := 7) rfl)) rfl, by decide, by decide, rfl⟩
theorem wvL_76 : g_V RL 76 yX11_cell cX11_cell 4 (some .int) 3 := ⟨gW_of (wb4 _ (List.mem_of_getElem? (i := 130) rfl)) rfl, gW_of (wb4 _ (List.mem_of_getElem? (i := 131) rfl)) rfl, gW_of (wb4 _ (List.mem_of_getElem? (i := 132) rfl)) rfl, gW_of (wb1 _ (List.mem_of_getElem? (i := 1) rfl)) rfl, gW_of (wb4 _ (List.mem_of_getElem? (i := 133) rfl)) rfl, by decide, by decide, rfl⟩
theorem wvL_80 : g_V RL 80 yX12_cell cX12_cell 4 (some .int) 3 := ⟨gW_of (wb8 _ (List.mem_of_getElem? (i := 187) rfl)) rfl, gW_of (wb8 _ (List.mem_of_getElem? (i := 188) rfl)) rfl, gW_of (wb8 _ (List.mem_of_getElem? (i := 189) rfl)) rfl, gW_of (wb1 _ (List.mem_of_getElem? (i := 13) rfl)) rfl, gW_of (wb8 _ (List.mem_of_getElem? (i := 190) rfl)) rfl, by decide, by decide, rfl⟩
theorem wvL_81 : g_V RL 81 yX11_disk cX11_disk 3 (some .int) 2 := ⟨gW_of (wb4 _ (List.mem_of_getElem? (i := 147) rfl)) rfl, gW_of (wb4 _ (List.mem_of_getElem? (i := 148) rfl)) rfl, gW_of (wb4 _ (List.mem_of_getElem? (i := 149) rfl)) rfl, gW_of (wb1 _ (List.mem_of_getElem? (i := 1) rfl)) rfl, gW_of (wb4 _ (List.mem_of_getElem? (i := 150) rfl)) rfl, by decide, by decide, rfl⟩
theorem wvL_84 : g_V RL 84 yX12_disk cX12_disk 3 (some .int) 2 := ⟨gW_of (wb8 _ (List.mem_of_getElem? (i := 191) rfl)) rfl, gW_of (wb8 _ (List.mem_of_getElem? (i := 192) rfl)) rfl, gW_of (wb8 _ (List.mem_of_getElem? (i := 193) rfl)) rfl, gW_of (wb1 _ (List.mem_of_getElem? (i := 13) rfl)) rfl, gW_of (wb8 _ (List.mem_of_getElem? (i := 194) rfl)) rfl, by decide, by decide, rfl⟩
theorem wvL_85 : g_V RL 85 yX11_write cX11_write 3 (some .int) 2 := ⟨gW_of (wb4 _ (List.mem_of_getElem? (i := 151) rfl)) rfl, gW_of (wb4 _ (List.mem_of_getElem? (i := 152) rfl)) rfl, gW_of (wb4 _ (List.mem_of_getElem? (i := 153) rfl)) rfl, gW_of (wb1 _ (List.mem_of_getElem? (i := 1) rfl)) rfl, gW_of (wb4 _ (List.mem_of_getElem? (i := 154) rfl)) rfl, by decide, by decide, rfl⟩
theorem wvL_88 : g_V RL 88 yX12_write cX12_write 3 (some .int) 2 := ⟨gW_of (wb7 _ (List.mem_of_getElem? (i := 225) rfl)) rfl, gW_of (wb7 _ (List.mem_of_getElem? (i := 226) rfl)) rfl, gW_of (wb7 _ (List.mem_of_getElem? (i := 227) rfl)) rfl, gW_of (wb1 _ (List.mem_of_getElem? (i := 13) rfl)) rfl, gW_of (wb7 _ (List.mem_of_getElem? (i := 228) rfl)) rfl, by decide, by decide, rfl⟩
theorem wvL_89 : g_V RL 89 yX11_lose cX11_lose 2 (some .int) 1 := ⟨gW_of (wb5 _ (List.mem_of_getElem? (i := 2) rfl)) rfl, gW_of (wb5 _ (List.mem_of_getElem? (i := 3) rfl)) rfl, gW_of (wb5 _ (List.mem_of_getElem? (i := 4) rfl)) rfl, gW_of (wb1 _ (List.mem_of_getElem? (i := 1) rfl)) rfl, gW_of (wb5 _ (List.mem_of_getElem? (i := 5) rfl)) rfl, by decide, by decide, rfl⟩
theorem wvL_92 : g_V RL 92 yX12_lose cX12_lose 2 (some .int) 1 := ⟨gW_of (wb8 _ (List.mem_of_getElem? (i := 98) rfl)) rfl, gW_of (wb8 _ (List.mem_of_getElem? (i := 99) rfl)) rfl, gW_of (wb8 _ (List.mem_of_getElem? (i := 100) rfl)) rfl, gW_of (wb1 _ (List.mem_of_getElem? (i := 13) rfl)) rfl, gW_of (wb8 _ (List.mem_of_getElem? (i := 101) rfl)) rfl, by decide, by decide, rfl⟩
theorem wvL_93 : g_V RL 93 yX11_replace cX11_replace 2 (some .int) 1 := ⟨gW_of (wb5 _ (List.mem_of_getElem? (i := 6) rfl)) rfl, gW_of (wb5 _ (List.mem_of_getElem? (i := 7) rfl)) rfl, gW_of (wb5 _ (List.mem_of_getElem? (i := 8) rfl)) rfl, gW_of (wb1 _ (List.mem_of_getElem? (i := 1) rfl)) rfl, gW_of (wb5 _ (List.mem_of_getElem? (i := 9) rfl)) rfl, by decide, by decide, rfl⟩
theorem wvL_96 : g_V RL 96 yX12_replace cX12_replace 2 (some .int) 1 := ⟨gW_of (wb8 _ (List.mem_of_getElem? (i := 102) rfl)) rfl, gW_of (wb8 _ (List.mem_of_getElem? (i := 103) rfl)) rfl, gW_of (wb8 _ (List.mem_of_getElem? (i := 104) rfl)) rfl, gW_of (wb1 _ (List.mem_of_getElem? (i := 13) rfl)) rfl, gW_of (wb8 _ (List.mem_of_getElem? (i := 105) rfl)) rfl, by decide, by decide, rfl⟩
theorem wvL_97 : g_V RL 97 yX11_rebuild cX11_rebuild 3 (some .int) 2 := ⟨gW_of (wb5 _ (List.mem_of_getElem? (i := 10) rfl)) rfl, gW_of (wb5 _ (List.mem_of_getElem? (i := 11) rfl)) rfl, gW_of (wb5 _ (List.mem_of_getElem? (i := 12) rfl)) rfl, gW_of (wb1 _ (List.mem_of_getElem? (i := 1) rfl)) rfl, gW_of (wb5 _ (List.mem_of_getElem? (i := 13) rfl)) rfl, by decide, by decide, rfl⟩
theorem wvL_100 : g_V RL 100 yX12_rebuild cX12_rebuild 3 (some .int) 2 := ⟨gW_of (wb8 _ (List.mem_of_getElem? (i := 106) rfl)) rfl, gW_of (wb8 _ (List.mem_of_getElem? (i := 107) rfl)) rfl, gW_of (wb8 _ (List.mem_of_getElem? (i := 108) rfl)) rfl, gW_of (wb1 _ (List.mem_of_getElem? (i := 13) rfl)) rfl, gW_of (wb8 _ (List.mem_of_getElem? (i := 109) rfl)) rfl, by decide, by decide, rfl⟩
theorem wvL_101 : g_V RL 101 yX11_scrub cX11_scrub 2 (some .int) 1 := ⟨gW_of (wb5 _ (List.mem_of_getElem? (i := 14) rfl)) rfl, gW_of (wb5 _ (List.mem_of_getElem? (i := 15) rfl)) rfl, gW_of (wb5 _ (List.mem_of_getElem? (i := 16) rfl)) rfl, gW_of (wb1 _ (List.mem_of_getElem? (i := 1) rfl)) rfl, gW_of (wb5 _ (List.mem_of_getElem? (i := 17) rfl)) rfl, by decide, by decide, rfl⟩
theorem wvL_104 : g_V RL 104 yX12_scrub cX12_scrub 2 (some .int) 1 := ⟨gW_of (wb8 _ (List.mem_of_getElem? (i := 110) rfl)) rfl, gW_of (wb8 _ (List.mem_of_getElem? (i := 111) rfl)) rfl, gW_of (wb8 _ (List.mem_of_getElem? (i := 112) rfl)) rfl, gW_of (wb1 _ (List.mem_of_getElem? (i := 13) rfl)) rfl, gW_of (wb8 _ (List.mem_of_getElem? (i := 113) rfl)) rfl, by decide, by decide, rfl⟩
theorem wvL_105 : g_V RL 105 yX11_spoil cX11_spoil 5 (some .int) 4 := ⟨gW_of (wb5 _ (List.mem_of_getElem? (i := 18) rfl)) rfl, gW_of (wb5 _ (List.mem_of_getElem? (i := 19) rfl)) rfl, gW_of (wb5 _ (List.mem_of_getElem? (i := 20) rfl)) rfl, gW_of (wb1 _ (List.mem_of_getElem? (i := 1) rfl)) rfl, gW_of (wb5 _ (List.mem_of_getElem? (i := 21) rfl)) rfl, by decide, by decide, rfl⟩
theorem wvL_109 : g_V RL 109 yX12_spoil cX12_spoil 5 (some .int) 4 := ⟨gW_of (wb8 _ (List.mem_of_getElem? (i := 114) rfl)) rfl, gW_of (wb8 _ (List.mem_of_getElem? (i := 115) rfl)) rfl, gW_of (wb8 _ (List.mem_of_getElem? (i := 116) rfl)) rfl, gW_of (wb1 _ (List.mem_of_getElem? (i := 13) rfl)) rfl, gW_of (wb8 _ (List.mem_of_getElem? (i := 117) rfl)) rfl, by decide, by decide, rfl⟩
theorem wvL_110 : g_V RL 110 yX11_tear cX11_tear 4 (some .int) 3 := ⟨gW_of (wb5 _ (List.mem_of_getElem? (i := 22) rfl)) rfl, gW_of (wb5 _ (List.mem_of_getElem? (i := 23) rfl)) rfl, gW_of (wb5 _ (List.mem_of_getElem? (i := 24) rfl)) rfl, gW_of (wb1 _ (List.mem_of_getElem? (i := 1) rfl)) rfl, gW_of (wb5 _ (List.mem_of_getElem? (i := 25) rfl)) rfl, by decide, by decide, rfl⟩
theorem wvL_113 : g_V RL 113 yX12_tear cX12_tear 4 (some .int) 3 := ⟨gW_of (wb8 _ (List.mem_of_getElem? (i := 118) rfl)) rfl, gW_of (wb8 _ (List.mem_of_getElem? (i := 119) rfl)) rfl, gW_of (wb8 _ (List.mem_of_getElem? (i := 120) rfl)) rfl, gW_of (wb1 _ (List.mem_of_getElem? (i := 13) rfl)) rfl, gW_of (wb8 _ (List.mem_of_getElem? (i := 121) rfl)) rfl, by decide, by decide, rfl⟩
theorem wvL_114 : g_V RL 114 yX11_clean cX11_clean 1 (some .int) 0 := ⟨gW_of (wb5 _ (List.mem_of_getElem? (i := 26) rfl)) rfl, gW_of (wb5 _ (List.mem_of_getElem? (i := 27) rfl)) rfl, gW_of (wb5 _ (List.mem_of_getElem? (i := 28) rfl)) rfl, gW_of (wb1 _ (List.mem_of_getElem? (i := 1) rfl)) rfl, gW_of (wb5 _ (List.mem_of_getElem? (i := 29) rfl)) rfl, by decide, by decide, rfl⟩
theorem wvL_117 : g_V RL 117 yX12_clean cX12_clean 1 (some .int) 0 := ⟨gW_of (wb8 _ (List.mem_of_getElem? (i := 122) rfl)) rfl, gW_of (wb8 _ (List.mem_of_getElem? (i := 123) rfl)) rfl, gW_of (wb8 _ (List.mem_of_getElem? (i := 124) rfl)) rfl, gW_of (wb1 _ (List.mem_of_getElem? (i := 13) rfl)) rfl, gW_of (wb8 _ (List.mem_of_getElem? (i := 125) rfl)) rfl, by decide, by decide, rfl⟩
theorem wvL_118 : g_V RL 118 yX11_full cX11_full 5 (some .int) 4 := ⟨gW_of (wb5 _ (List.mem_of_getElem? (i := 30) rfl)) rfl, gW_of (wb5 _ (List.mem_of_getElem? (i := 31) rfl)) rfl, gW_of (wb5 _ (List.mem_of_getElem? (i := 32) rfl)) rfl, gW_of (wb1 _ (List.mem_of_getElem? (i := 1) rfl)) rfl, gW_of (wb5 _ (List.mem_of_getElem? (i := 33) rfl)) rfl, by decide, by decide, rfl⟩
theorem wvL_121 : g_V RL 121 yX12_full cX12_full 5 (some .int) 4 := ⟨gW_of (wb8 _ (List.mem_of_getElem? (i := 126) rfl)) rfl, gW_of (wb8 _ (List.mem_of_getElem? (i := 127) rfl)) rfl, gW_of (wb8 _ (List.mem_of_getElem? (i := 128) rfl)) rfl, gW_of (wb1 _ (List.mem_of_getElem? (i := 13) rfl)) rfl, gW_of (wb8 _ (List.mem_of_getElem? (i := 129) rfl)) rfl, by decide, by decide, rfl⟩
theorem wvL_124 : g_V RL 124 yX11_years cX11_years 6 (some .int) 2 := ⟨gW_of (wb5 _ (List.mem_of_getElem? (i := 34) rfl)) rfl, gW_of (wb5 _ (List.mem_of_getElem? (i := 35) rfl)) rfl, gW_of (wb5 _ (List.mem_of_getElem? (i := 36) rfl)) rfl, gW_of (wb1 _ (List.mem_of_getElem? (i := 1) rfl)) rfl, gW_of (wb5 _ (List.mem_of_getElem? (i := 37) rfl)) rfl, by decide, by decide, rfl⟩
theorem wvL_128 : g_V RL 128 yX12_years cX12_years 6 (some .int) 2 := ⟨gW_of (wb8 _ (List.mem_of_getElem? (i := 130) rfl)) rfl, gW_of (wb8 _ (List.mem_of_getElem? (i := 131) rfl)) rfl, gW_of (wb8 _ (List.mem_of_getElem? (i := 132) rfl)) rfl, gW_of (wb1 _ (List.mem_of_getElem? (i := 13) rfl)) rfl, gW_of (wb8 _ (List.mem_of_getElem? (i := 133) rfl)) rfl, by decide, by decide, rfl⟩
theorem wvL_129 : g_V RL 129 yX11_status cX11_status 2 (some .int) 1 := ⟨gW_of (wb5 _ (List.mem_of_getElem? (i := 57) rfl)) rfl, gW_of (wb5 _ (List.mem_of_getElem? (i := 58) rfl)) rfl, gW_of (wb5 _ (List.mem_of_getElem? (i := 59) rfl)) rfl, gW_of (wb1 _ (List.mem_of_getElem? (i := 1) rfl)) rfl, gW_of (wb5 _ (List.mem_of_getElem? (i := 60) rfl)) rfl, by decide, by decide, rfl⟩
theorem wvL_132 : g_V RL 132 yX12_status cX12_status 2 (some .int) 1 := ⟨gW_of (wb8 _ (List.mem_of_getElem? (i := 149) rfl)) rfl, gW_of (wb8 _ (List.mem_of_getElem? (i := 150) rfl)) rfl, gW_of (wb8 _ (List.mem_of_getElem? (i := 151) rfl)) rfl, gW_of (wb1 _ (List.mem_of_getElem? (i := 13) rfl)) rfl, gW_of (wb8 _ (List.mem_of_getElem? (i := 152) rfl)) rfl, by decide, by decide, rfl⟩
theorem wvL_133 : g_V RL 133 yX11_undo cX11_undo 1 (some .int) 0 := ⟨gW_of (wb5 _ (List.mem_of_getElem? (i := 61) rfl)) rfl, gW_of (wb5 _ (List.mem_of_getElem? (i := 62) rfl)) rfl, gW_of (wb5 _ (List.mem_of_getElem? (i := 63) rfl)) rfl, gW_of (wb1 _ (List.mem_of_getElem? (i := 1) rfl)) rfl, gW_of (wb5 _ (List.mem_of_getElem? (i := 64) rfl)) rfl, by decide, by decide, rfl⟩
theorem wvL_136 : g_V RL 136 yX12_undo cX12_undo 1 (some .int) 0 := ⟨gW_of (wb8 _ (List.mem_of_getElem? (i := 154) rfl)) rfl, gW_of (wb8 _ (List.mem_of_getElem? (i := 155) rfl)) rfl, gW_of (wb8 _ (List.mem_of_getElem? (i := 156) rfl)) rfl, gW_of (wb1 _ (List.mem_of_getElem? (i := 13) rfl)) rfl, gW_of (wb8 _ (List.mem_of_getElem? (i := 157) rfl)) rfl, by decide, by decide, rfl⟩
theorem wvL_137 : g_V RL 137 yX11_log cX11_log 3 (some .int) 2 := ⟨gW_of (wb5 _ (List.mem_of_getElem? (i := 81) rfl)) rfl, gW_of (wb5 _ (List.mem_of_getElem? (i := 82) rfl)) rfl, gW_of (wb5 _ (List.mem_of_getElem? (i := 83) rfl)) rfl, gW_of (wb1 _ (List.mem_of_getElem? (i := 1) rfl)) rfl, gW_of (wb5 _ (List.mem_of_getElem? (i := 84) rfl)) rfl, by decide, by decide, rfl⟩
theorem wvL_140 : g_V RL 140 yX12_log cX12_log 3 (some .int) 2 := ⟨gW_of (wb8 _ (List.mem_of_getElem? (i := 158) rfl)) rfl, gW_of (wb8 _ (List.mem_of_getElem? (i := 159) rfl)) rfl, gW_of (wb8 _ (List.mem_of_getElem? (i := 160) rfl)) rfl, gW_of (wb1 _ (List.mem_of_getElem? (i := 13) rfl)) rfl, gW_of (wb8 _ (List.mem_of_getElem? (i := 161) rfl)) rfl, by decide, by decide, rfl⟩
theorem wvL_141 : g_V RL 141 yX11_cost cX11_cost 3 (some .int) 2 := ⟨gW_of (wb5 _ (List.mem_of_getElem? (i := 95) rfl)) rfl, gW_of (wb5 _ (List.mem_of_getElem? (i := 96) rfl)) rfl, gW_of (wb5 _ (List.mem_of_getElem? (i := 97) rfl)) rfl, gW_of (wb1 _ (List.mem_of_getElem? (i := 1) rfl)) rfl, gW_of (wb5 _ (List.mem_of_getElem? (i := 98) rfl)) rfl, by decide, by decide, rfl⟩
theorem wvL_144 : g_V RL 144 yX12_cost cX12_cost 3 (some .int) 2 := ⟨gW_of (wb8 _ (List.mem_of_getElem? (i := 195) rfl)) rfl, gW_of (wb8 _ (List.mem_of_getElem? (i := 196) rfl)) rfl, gW_of (wb8 _ (List.mem_of_getElem? (i := 197) rfl)) rfl, gW_of (wb1 _ (List.mem_of_getElem? (i := 13) rfl)) rfl, gW_of (wb8 _ (List.mem_of_getElem? (i := 198) rfl)) rfl, by decide, by decide, rfl⟩
theorem wvL_145 : g_V RL 145 yX11_told cX11_told 6 (some .int) 5 := ⟨gW_of (wb5 _ (List.mem_of_getElem? (i := 110) rfl)) rfl, gW_of (wb5 _ (List.mem_of_getElem? (i := 111) rfl)) rfl, gW_of (wb5 _ (List.mem_of_getElem? (i := 112) rfl)) rfl, gW_of (wb1 _ (List.mem_of_getElem? (i := 1) rfl)) rfl, gW_of (wb5 _ (List.mem_of_getElem? (i := 113) rfl)) rfl, by decide, by decide, rfl⟩
theorem wvL_148 : g_V RL 148 yX12_told cX12_told 7 (some .int) 5 := ⟨gW_of (wb8 _ (List.mem_of_getElem? (i := 199) rfl)) rfl, gW_of (wb8 _ (List.mem_of_getElem? (i := 200) rfl)) rfl, gW_of (wb8 _ (List.mem_of_getElem? (i := 201) rfl)) rfl, gW_of (wb1 _ (List.mem_of_getElem? (i := 13) rfl)) rfl, gW_of (wb8 _ (List.mem_of_getElem? (i := 202) rfl)) rfl, by decide, by decide, rfl⟩
theorem wvL_149 : g_V RL 149 yX11_who cX11_who 3 (some .int) 2 := ⟨gW_of (wb5 _ (List.mem_of_getElem? (i := 122) rfl)) rfl, gW_of (wb5 _ (List.mem_of_getElem? (i := 123) rfl)) rfl, gW_of (wb5 _ (List.mem_of_getElem? (i := 124) rfl)) rfl, gW_of (wb1 _ (List.mem_of_getElem? (i := 1) rfl)) rfl, gW_of (wb5 _ (List.mem_of_getElem? (i := 125) rfl)) rfl, by decide, by decide, rfl⟩
theorem wvL_152 : g_V RL 152 yX12_who cX12_who 4 (some .int) 2 := ⟨gW_of (wb8 _ (List.mem_of_getElem? (i := 203) rfl)) rfl, gW_of (wb8 _ (List.mem_of_getElem? (i := 204) rfl)) rfl, gW_of (wb8 _ (List.mem_of_getElem? (i := 205) rfl)) rfl, gW_of (wb1 _ (List.mem_of_getElem? (i := 13) rfl)) rfl, gW_of (wb8 _ (List.mem_of_getElem? (i := 206) rfl)) rfl, by decide, by decide, rfl⟩
theorem wvL_153 : g_V RL 153 yX11_more cX11_more 1 (some .int) 0 := ⟨gW_of (wb5 _ (List.mem_of_getElem? (i := 135) rfl)) rfl, gW_of (wb5 _ (List.mem_of_getElem? (i := 136) rfl)) rfl, gW_of (wb5 _ (List.mem_of_getElem? (i := 137) rfl)) rfl, gW_of (wb1 _ (List.mem_of_getElem? (i := 1) rfl)) rfl, gW_of (wb5 _ (List.mem_of_getElem? (i := 138) rfl)) rfl, by decide, by decide, rfl⟩
theorem wvL_156 : g_V RL 156 yX12_more cX12_more 3 (some .int) 0 := ⟨gW_of (wb8 _ (List.mem_of_getElem? (i := 207) rfl)) rfl, gW_of (wb8 _ (List.mem_of_getElem? (i := 208) rfl)) rfl, gW_of (wb8 _ (List.mem_of_getElem? (i := 209) rfl)) rfl, gW_of (wb1 _ (List.mem_of_getElem? (i := 13) rfl)) rfl, gW_of (wb8 _ (List.mem_of_getElem? (i := 210) rfl)) rfl, by decide, by decide, rfl⟩
theorem wvL_157 : g_V RL 157 yX11_left cX11_left 2 (some .int) 1 := ⟨gW_of (wb5 _ (List.mem_of_getElem? (i := 144) rfl)) rfl, gW_of (wb5 _ (List.mem_of_getElem? (i := 145) rfl)) rfl, gW_of (wb5 _ (List.mem_of_getElem? (i := 146) rfl)) rfl, gW_of (wb1 _ (List.mem_of_getElem? (i := 1) rfl)) rfl, gW_of (wb5 _ (List.mem_of_getElem? (i := 147) rfl)) rfl, by decide, by decide, rfl⟩
theorem wvL_160 : g_V RL 160 yX12_left cX12_left 4 (some .int) 1 := ⟨gW_of (wb8 _ (List.mem_of_getElem? (i := 211) rfl)) rfl, gW_of (wb8 _ (List.mem_of_getElem? (i := 212) rfl)) rfl, gW_of (wb8 _ (List.mem_of_getElem? (i := 213) rfl)) rfl, gW_of (wb1 _ (List.mem_of_getElem? (i := 13) rfl)) rfl, gW_of (wb8 _ (List.mem_of_getElem? (i := 214) rfl)) rfl, by decide, by decide, rfl⟩
theorem wvL_161 : g_V RL 161 yX11_fit cX11_fit 1 (some .int) 0 := ⟨gW_of (wb5 _ (List.mem_of_getElem? (i := 167) rfl)) rfl, gW_of (wb5 _ (List.mem_of_getElem? (i := 168) rfl)) rfl, gW_of (wb5 _ (List.mem_of_getElem? (i := 169) rfl)) rfl, gW_of (wb1 _ (List.mem_of_getElem? (i := 1) rfl)) rfl, gW_of (wb5 _ (List.mem_of_getElem? (i := 170) rfl)) rfl, by decide, by decide, rfl⟩
theorem wvL_164 : g_V RL 164 yX12_fit cX12_fit 3 (some .int) 0 := ⟨gW_of (wb8 _ (List.mem_of_getElem? (i := 235) rfl)) rfl, gW_of (wb8 _ (List.mem_of_getElem? (i := 236) rfl)) rfl, gW_of (wb8 _ (List.mem_of_getElem? (i := 237) rfl)) rfl, gW_of (wb1 _ (List.mem_of_getElem? (i := 13) rfl)) rfl, gW_of (wb8 _ (List.mem_of_getElem? (i := 238) rfl)) rfl, by decide, by decide, rfl⟩
theorem wvL_165 : g_V RL 165 yX11_checked cX11_checked 2 (some .int) 1 := ⟨gW_of (wb5 _ (List.mem_of_getElem? (i := 179) rfl)) rfl, gW_of (wb5 _ (List.mem_of_getElem? (i := 180) rfl)) rfl, gW_of (wb5 _ (List.mem_of_getElem? (i := 181) rfl)) rfl, gW_of (wb1 _ (List.mem_of_getElem? (i := 1) rfl)) rfl, gW_of (wb5 _ (List.mem_of_getElem? (i := 182) rfl)) rfl, by decide, by decide, rfl⟩
theorem wvL_168 : g_V RL 168 yX12_checked cX12_checked 3 (some .int) 1 := ⟨gW_of (wb9 _ (List.mem_of_getElem? (i := 3) rfl)) rfl, gW_of (wb9 _ (List.mem_of_getElem? (i := 4) rfl)) rfl, gW_of (wb9 _ (List.mem_of_getElem? (i := 5) rfl)) rfl, gW_of (wb1 _ (List.mem_of_getElem? (i := 13) rfl)) rfl, gW_of (wb9 _ (List.mem_of_getElem? (i := 6) rfl)) rfl, by decide, by decide, rfl⟩
theorem wvL_169 : g_V RL 169 yX11_equal cX11_equal 1 (some .int) 0 := ⟨gW_of (wb5 _ (List.mem_of_getElem? (i := 192) rfl)) rfl, gW_of (wb5 _ (List.mem_of_getElem? (i := 193) rfl)) rfl, gW_of (wb5 _ (List.mem_of_getElem? (i := 194) rfl)) rfl, gW_of (wb1 _ (List.mem_of_getElem? (i := 1) rfl)) rfl, gW_of (wb5 _ (List.mem_of_getElem? (i := 195) rfl)) rfl, by decide, by decide, rfl⟩
theorem wvL_172 : g_V RL 172 yX12_equal cX12_equal 4 (some .int) 0 := ⟨gW_of (wb9 _ (List.mem_of_getElem? (i := 7) rfl)) rfl, gW_of (wb9 _ (List.mem_of_getElem? (i := 8) rfl)) rfl, gW_of (wb9 _ (List.mem_of_getElem? (i := 9) rfl)) rfl, gW_of (wb1 _ (List.mem_of_getElem? (i := 13) rfl)) rfl, gW_of (wb9 _ (List.mem_of_getElem? (i := 10) rfl)) rfl, by decide, by decide, rfl⟩
theorem wvL_173 : g_V RL 173 yX11_span cX11_span 2 (some .int) 1 := ⟨gW_of (wb5 _ (List.mem_of_getElem? (i := 201) rfl)) rfl, gW_of (wb5 _ (List.mem_of_getElem? (i := 202) rfl)) rfl, gW_of (wb5 _ (List.mem_of_getElem? (i := 203) rfl)) rfl, gW_of (wb1 _ (List.mem_of_getElem? (i := 1) rfl)) rfl, gW_of (wb5 _ (List.mem_of_getElem? (i := 204) rfl)) rfl, by decide, by decide, rfl⟩
theorem wvL_176 : g_V RL 176 yX12_span cX12_span 6 (some .int) 1 := ⟨gW_of (wb9 _ (List.mem_of_getElem? (i := 11) rfl)) rfl, gW_of (wb9 _ (List.mem_of_getElem? (i := 12) rfl)) rfl, gW_of (wb9 _ (List.mem_of_getElem? (i := 13) rfl)) rfl, gW_of (wb1 _ (List.mem_of_getElem? (i := 13) rfl)) rfl, gW_of (wb9 _ (List.mem_of_getElem? (i := 14) rfl)) rfl, by decide, by decide, rfl⟩
theorem wvL_177 : g_V RL 177 yX11_risk cX11_risk 1 (some .int) 0 := ⟨gW_of (wb5 _ (List.mem_of_getElem? (i := 209) rfl)) rfl, gW_of (wb5 _ (List.mem_of_getElem? (i := 210) rfl)) rfl, gW_of (wb5 _ (List.mem_of_getElem? (i := 211) rfl)) rfl, gW_of (wb1 _ (List.mem_of_getElem? (i := 1) rfl)) rfl, gW_of (wb5 _ (List.mem_of_getElem? (i := 212) rfl)) rfl, by decide, by decide, rfl⟩
theorem wvL_180 : g_V RL 180 yX12_risk cX12_risk 4 (some .int) 0 := ⟨gW_of (wb8 _ (List.mem_of_getElem? (i := 215) rfl)) rfl, gW_of (wb8 _ (List.mem_of_getElem? (i := 216) rfl)) rfl, gW_of (wb8 _ (List.mem_of_getElem? (i := 217) rfl)) rfl, gW_of (wb1 _ (List.mem_of_getElem? (i := 13) rfl)) rfl, gW_of (wb8 _ (List.mem_of_getElem? (i := 218) rfl)) rfl, by decide, by decide, rfl⟩
theorem wvL_181 : g_V RL 181 yX11_first cX11_first 2 (some .int) 1 := ⟨gW_of (wb5 _ (List.mem_of_getElem? (i := 218) rfl)) rfl, gW_of (wb5 _ (List.mem_of_getElem? (i := 219) rfl)) rfl, gW_of (wb5 _ (List.mem_of_getElem? (i := 220) rfl)) rfl, gW_of (wb1 _ (List.mem_of_getElem? (i := 1) rfl)) rfl, gW_of (wb5 _ (List.mem_of_getElem? (i := 221) rfl)) rfl, by decide, by decide, rfl⟩
theorem wvL_184 : g_V RL 184 yX12_first cX12_first 4 (some .int) 1 := ⟨gW_of (wb8 _ (List.mem_of_getElem? (i := 223) rfl)) rfl, gW_of (wb8 _ (List.mem_of_getElem? (i := 224) rfl)) rfl, gW_of (wb8 _ (List.mem_of_getElem? (i := 225) rfl)) rfl, gW_of (wb1 _ (List.mem_of_getElem? (i := 13) rfl)) rfl, gW_of (wb8 _ (List.mem_of_getElem? (i := 226) rfl)) rfl, by decide, by decide, rfl⟩
theorem wvL_185 : g_V RL 185 yX11_votes cX11_votes 3 (some .int) 2 := ⟨gW_of (wb5 _ (List.mem_of_getElem? (i := 226) rfl)) rfl, gW_of (wb5 _ (List.mem_of_getElem? (i := 227) rfl)) rfl, gW_of (wb5 _ (List.mem_of_getElem? (i := 228) rfl)) rfl, gW_of (wb1 _ (List.mem_of_getElem? (i := 1) rfl)) rfl, gW_of (wb5 _ (List.mem_of_getElem? (i := 229) rfl)) rfl, by decide, by decide, rfl⟩
theorem wvL_188 : g_V RL 188 yX12_votes cX12_votes 7 (some .int) 2 := ⟨gW_of (wb8 _ (List.mem_of_getElem? (i := 227) rfl)) rfl, gW_of (wb8 _ (List.mem_of_getElem? (i := 228) rfl)) rfl, gW_of (wb8 _ (List.mem_of_getElem? (i := 229) rfl)) rfl, gW_of (wb1 _ (List.mem_of_getElem? (i := 13) rfl)) rfl, gW_of (wb8 _ (List.mem_of_getElem? (i := 230) rfl)) rfl, by decide, by decide, rfl⟩
theorem wvL_189 : g_V RL 189 yX11_step cX11_step 4 (some .int) 3 := ⟨gW_of (wb5 _ (List.mem_of_getElem? (i := 235) rfl)) rfl, gW_of (wb5 _ (List.mem_of_getElem? (i := 236) rfl)) rfl, gW_of (wb5 _ (List.mem_of_getElem? (i := 237) rfl)) rfl, gW_of (wb1 _ (List.mem_of_getElem? (i := 1) rfl)) rfl, gW_of (wb5 _ (List.mem_of_getElem? (i := 238) rfl)) rfl, by decide, by decide, rfl⟩
theorem wvL_192 : g_V RL 192 yX12_step cX12_step 4 (some .int) 3 := ⟨gW_of (wb9 _ (List.mem_of_getElem? (i := 15) rfl)) rfl, gW_of (wb9 _ (List.mem_of_getElem? (i := 16) rfl)) rfl, gW_of (wb9 _ (List.mem_of_getElem? (i := 17) rfl)) rfl, gW_of (wb1 _ (List.mem_of_getElem? (i := 13) rfl)) rfl, gW_of (wb9 _ (List.mem_of_getElem? (i := 18) rfl)) rfl, by decide, by decide, rfl⟩
theorem wvL_193 : g_V RL 193 yX11_run cX11_run 4 (some .int) 2 := ⟨gW_of (wb6 _ (List.mem_of_getElem? (i := 9) rfl)) rfl, gW_of (wb6 _ (List.mem_of_getElem? (i := 10) rfl)) rfl, gW_of (wb6 _ (List.mem_of_getElem? (i := 11) rfl)) rfl, gW_of (wb1 _ (List.mem_of_getElem? (i := 1) rfl)) rfl, gW_of (wb6 _ (List.mem_of_getElem? (i := 12) rfl)) rfl, by decide, by decide, rfl⟩
theorem wvL_196 : g_V RL 196 yX12_run cX12_run 6 (some .int) 2 := ⟨gW_of (wb9 _ (List.mem_of_getElem? (i := 24) rfl)) rfl, gW_of (wb9 _ (List.mem_of_getElem? (i := 25) rfl)) rfl, gW_of (wb9 _ (List.mem_of_getElem? (i := 26) rfl)) rfl, gW_of (wb1 _ (List.mem_of_getElem? (i := 13) rfl)) rfl, gW_of (wb9 _ (List.mem_of_getElem? (i := 27) rfl)) rfl, by decide, by decide, rfl⟩
theorem wvL_197 : g_V RL 197 yX11_perform cX11_perform 4 (some .int) 1 := ⟨gW_of (wb6 _ (List.mem_of_getElem? (i := 36) rfl)) rfl, gW_of (wb6 _ (List.mem_of_getElem? (i := 37) rfl)) rfl, gW_of (wb6 _ (List.mem_of_getElem? (i := 38) rfl)) rfl, gW_of (wb1 _ (List.mem_of_getElem? (i := 1) rfl)) rfl, gW_of (wb6 _ (List.mem_of_getElem? (i := 39) rfl)) rfl, by decide, by decide, rfl⟩
theorem wvL_200 : g_V RL 200 yX12_perform cX12_perform 5 (some .int) 1 := ⟨gW_of (wb9 _ (List.mem_of_getElem? (i := 28) rfl)) rfl, gW_of (wb9 _ (List.mem_of_getElem? (i := 29) rfl)) rfl, gW_of (wb9 _ (List.mem_of_getElem? (i := 30) rfl)) rfl, gW_of (wb1 _ (List.mem_of_getElem? (i := 13) rfl)) rfl, gW_of (wb9 _ (List.mem_of_getElem? (i := 31) rfl)) rfl, by decide, by decide, rfl⟩
theorem wvL_201 : g_V RL 201 yX11_most cX11_most 3 (some .int) 1 := ⟨gW_of (wb6 _ (List.mem_of_getElem? (i := 42) rfl)) rfl, gW_of (wb6 _ (List.mem_of_getElem? (i := 43) rfl)) rfl, gW_of (wb6 _ (List.mem_of_getElem? (i := 44) rfl)) rfl, gW_of (wb1 _ (List.mem_of_getElem? (i := 1) rfl)) rfl, gW_of (wb6 _ (List.mem_of_getElem? (i := 45) rfl)) rfl, by decide, by decide, rfl⟩
theorem wvL_204 : g_V RL 204 yX12_most cX12_most 2 (some .int) 1 := ⟨gW_of (wb9 _ (List.mem_of_getElem? (i := 32) rfl)) rfl, gW_of (wb9 _ (List.mem_of_getElem? (i := 33) rfl)) rfl, gW_of (wb9 _ (List.mem_of_getElem? (i := 34) rfl)) rfl, gW_of (wb1 _ (List.mem_of_getElem? (i := 13) rfl)) rfl, gW_of (wb9 _ (List.mem_of_getElem? (i := 35) rfl)) rfl, by decide, by decide, rfl⟩
theorem wvL_205 : g_V RL 205 yX11_image cX11_image 1 (some .int) 0 := ⟨gW_of (wb6 _ (List.mem_of_getElem? (i := 48) rfl)) rfl, gW_of (wb6 _ (List.mem_of_getElem? (i := 49) rfl)) rfl, gW_of (wb6 _ (List.mem_of_getElem? (i := 50) rfl)) rfl, gW_of (wb1 _ (List.mem_of_getElem? (i := 1) rfl)) rfl, gW_of (wb6 _ (List.mem_of_getElem? (i := 51) rfl)) rfl, by decide, by decide, rfl⟩
theorem wvL_208 : g_V RL 208 yX12_image cX12_image 1 (some .int) 0 := ⟨gW_of (wb8 _ (List.mem_of_getElem? (i := 163) rfl)) rfl, gW_of (wb8 _ (List.mem_of_getElem? (i := 164) rfl)) rfl, gW_of (wb8 _ (List.mem_of_getElem? (i := 165) rfl)) rfl, gW_of (wb1 _ (List.mem_of_getElem? (i := 13) rfl)) rfl, gW_of (wb8 _ (List.mem_of_getElem? (i := 166) rfl)) rfl, by decide, by decide, rfl⟩
theorem wvL_209 : g_V RL 209 yX11_back cX11_back 1 (some .int) 0 := ⟨gW_of (wb6 _ (List.mem_of_getElem? (i := 57) rfl)) rfl, gW_of (wb6 _ (List.mem_of_getElem? (i := 58) rfl)) rfl, gW_of (wb6 _ (List.mem_of_getElem? (i := 59) rfl)) rfl, gW_of (wb1 _ (List.mem_of_getElem? (i := 1) rfl)) rfl, gW_of (wb6 _ (List.mem_of_getElem? (i := 60) rfl)) rfl, by decide, by decide, rfl⟩
theorem wvL_212 : g_V RL 212 yX12_back cX12_back 1 (some .int) 0 := ⟨gW_of (wb8 _ (List.mem_of_getElem? (i := 167) rfl)) rfl, gW_of (wb8 _ (List.mem_of_getElem? (i := 168) rfl)) rfl, gW_of (wb8 _ (List.mem_of_getElem? (i := 169) rfl)) rfl, gW_of (wb1 _ (List.mem_of_getElem? (i := 13) rfl)) rfl, gW_of (wb8 _ (List.mem_of_getElem? (i := 170) rfl)) rfl, by decide, by decide, rfl⟩
theorem wvL_213 : g_V RL 213 yX11_count cX11_count 2 (some .int) 1 := ⟨gW_of (wb6 _ (List.mem_of_getElem? (i := 61) rfl)) rfl, gW_of (wb6 _ (List.mem_of_getElem? (i := 62) rfl)) rfl, gW_of (wb6 _ (List.mem_of_getElem? (i := 63) rfl)) rfl, gW_of (wb1 _ (List.mem_of_getElem? (i := 1) rfl)) rfl, gW_of (wb6 _ (List.mem_of_getElem? (i := 64) rfl)) rfl, by decide, by decide, rfl⟩
theorem wvL_216 : g_V RL 216 yX12_count cX12_count 2 (some .int) 1 := ⟨gW_of (wb9 _ (List.mem_of_getElem? (i := 36) rfl)) rfl, gW_of (wb9 _ (List.mem_of_getElem? (i := 37) rfl)) rfl, gW_of (wb9 _ (List.mem_of_getElem? (i := 38) rfl)) rfl, gW_of (wb1 _ (List.mem_of_getElem? (i := 13) rfl)) rfl, gW_of (wb9 _ (List.mem_of_getElem? (i := 39) rfl)) rfl, by decide, by decide, rfl⟩
theorem wkL_122 : Cond.constantLong RL 122 (4294967295) ∈ gW := gW_of (wb9 _ (List.mem_of_getElem? (i := 40) rfl)) rfl
theorem dL_law_0 : decode cL_law 0 = .ok (.new 8, 3) := by decide +kernel
theorem dL_law_3 : decode cL_law 3 = .ok (.dup, 1) := by decide +kernel
theorem dL_law_4 : decode cL_law 4 = .ok (.invokespecial 15, 3) := by decide +kernel
theorem dL_law_7 : decode cL_law 7 = .ok (.astore_n 1, 1) := by decide +kernel
theorem dL_law_8 : decode cL_law 8 = .ok (.new 16, 3) := by decide +kernel
theorem dL_law_11 : decode cL_law 11 = .ok (.dup, 1) := by decide +kernel
theorem dL_law_12 : decode cL_law 12 = .ok (.invokespecial 18, 3) := by decide +kernel
theorem dL_law_15 : decode cL_law 15 = .ok (.astore_n 2, 1) := by decide +kernel
theorem dL_law_16 : decode cL_law 16 = .ok (.iconst 1, 1) := by decide +kernel
theorem dL_law_17 : decode cL_law 17 = .ok (.newarray .long, 2) := by decide +kernel
theorem dL_law_19 : decode cL_law 19 = .ok (.astore_n 3, 1) := by decide +kernel
theorem dL_law_20 : decode cL_law 20 = .ok (.iconst 0, 1) := by decide +kernel
theorem dL_law_21 : decode cL_law 21 = .ok (.istore 4, 2) := by decide +kernel
theorem dL_law_23 : decode cL_law 23 = .ok (.iload 4, 2) := by decide +kernel
theorem dL_law_25 : decode cL_law 25 = .ok (.aload_n 0, 1) := by decide +kernel
theorem dL_law_26 : decode cL_law 26 = .ok (.arraylength, 1) := by decide +kernel
theorem dL_law_27 : decode cL_law 27 = .ok (.bipush 6, 2) := by decide +kernel
theorem dL_law_29 : decode cL_law 29 = .ok (.isub, 1) := by decide +kernel
theorem dL_law_30 : decode cL_law 30 = .ok (.if_icmp .gt 1729, 3) := by decide +kernel
theorem dL_law_33 : decode cL_law 33 = .ok (.aload_n 0, 1) := by decide +kernel
theorem dL_law_34 : decode cL_law 34 = .ok (.iload 4, 2) := by decide +kernel
theorem dL_law_36 : decode cL_law 36 = .ok (.iaload, 1) := by decide +kernel
theorem dL_law_37 : decode cL_law 37 = .ok (.bipush 63, 2) := by decide +kernel
theorem dL_law_39 : decode cL_law 39 = .ok (.iand, 1) := by decide +kernel
theorem dL_law_40 : decode cL_law 40 = .ok (.tableswitch 1713 0 45 #[200, 273, 298, 323, 348, 373, 410, 447, 472, 497, 534, 571, 627, 676, 713, 750, 775, 800, 837, 862, 923, 972, 985, 1046, 1115, 1140, 1153, 1190, 1227, 1300, 1337, 1350, 1375, 1388, 1413, 1426, 1451, 1464, 1489, 1526, 1575, 1612, 1637, 1662, 1675, 1688], 200) := by decide +kernel
theorem dL_law_240 : decode cL_law 240 = .ok (.aload_n 1, 1) := by decide +kernel
theorem dL_law_241 : decode cL_law 241 = .ok (.aload_n 0, 1) := by decide +kernel
theorem dL_law_242 : decode cL_law 242 = .ok (.iload 4, 2) := by decide +kernel
theorem dL_law_244 : decode cL_law 244 = .ok (.iconst 1, 1) := by decide +kernel
theorem dL_law_245 : decode cL_law 245 = .ok (.iadd, 1) := by decide +kernel
theorem dL_law_246 : decode cL_law 246 = .ok (.iaload, 1) := by decide +kernel
theorem dL_law_247 : decode cL_law 247 = .ok (.aload_n 0, 1) := by decide +kernel
theorem dL_law_248 : decode cL_law 248 = .ok (.iload 4, 2) := by decide +kernel
theorem dL_law_250 : decode cL_law 250 = .ok (.iconst 2, 1) := by decide +kernel
theorem dL_law_251 : decode cL_law 251 = .ok (.iadd, 1) := by decide +kernel
theorem dL_law_252 : decode cL_law 252 = .ok (.iaload, 1) := by decide +kernel
theorem dL_law_253 : decode cL_law 253 = .ok (.aload_n 0, 1) := by decide +kernel
theorem dL_law_254 : decode cL_law 254 = .ok (.iload 4, 2) := by decide +kernel
theorem dL_law_256 : decode cL_law 256 = .ok (.iconst 3, 1) := by decide +kernel
theorem dL_law_257 : decode cL_law 257 = .ok (.iadd, 1) := by decide +kernel
theorem dL_law_258 : decode cL_law 258 = .ok (.iaload, 1) := by decide +kernel
theorem dL_law_259 : decode cL_law 259 = .ok (.aload_n 0, 1) := by decide +kernel
theorem dL_law_260 : decode cL_law 260 = .ok (.iload 4, 2) := by decide +kernel
theorem dL_law_262 : decode cL_law 262 = .ok (.iconst 4, 1) := by decide +kernel
theorem dL_law_263 : decode cL_law 263 = .ok (.iadd, 1) := by decide +kernel
theorem dL_law_264 : decode cL_law 264 = .ok (.iaload, 1) := by decide +kernel
theorem dL_law_265 : decode cL_law 265 = .ok (.aload_n 0, 1) := by decide +kernel
theorem dL_law_266 : decode cL_law 266 = .ok (.iload 4, 2) := by decide +kernel
theorem dL_law_268 : decode cL_law 268 = .ok (.iconst 5, 1) := by decide +kernel
theorem dL_law_269 : decode cL_law 269 = .ok (.iadd, 1) := by decide +kernel
theorem dL_law_270 : decode cL_law 270 = .ok (.iaload, 1) := by decide +kernel
theorem dL_law_271 : decode cL_law 271 = .ok (.invokevirtual 19, 3) := by decide +kernel
theorem dL_law_274 : decode cL_law 274 = .ok (.aload_n 2, 1) := by decide +kernel
theorem dL_law_275 : decode cL_law 275 = .ok (.aload_n 0, 1) := by decide +kernel
theorem dL_law_276 : decode cL_law 276 = .ok (.iload 4, 2) := by decide +kernel
theorem dL_law_278 : decode cL_law 278 = .ok (.iconst 1, 1) := by decide +kernel
theorem dL_law_279 : decode cL_law 279 = .ok (.iadd, 1) := by decide +kernel
theorem dL_law_280 : decode cL_law 280 = .ok (.iaload, 1) := by decide +kernel
theorem dL_law_281 : decode cL_law 281 = .ok (.aload_n 0, 1) := by decide +kernel
theorem dL_law_282 : decode cL_law 282 = .ok (.iload 4, 2) := by decide +kernel
theorem dL_law_284 : decode cL_law 284 = .ok (.iconst 2, 1) := by decide +kernel
theorem dL_law_285 : decode cL_law 285 = .ok (.iadd, 1) := by decide +kernel
theorem dL_law_286 : decode cL_law 286 = .ok (.iaload, 1) := by decide +kernel
theorem dL_law_287 : decode cL_law 287 = .ok (.aload_n 0, 1) := by decide +kernel
theorem dL_law_288 : decode cL_law 288 = .ok (.iload 4, 2) := by decide +kernel
theorem dL_law_290 : decode cL_law 290 = .ok (.iconst 3, 1) := by decide +kernel
theorem dL_law_291 : decode cL_law 291 = .ok (.iadd, 1) := by decide +kernel
theorem dL_law_292 : decode cL_law 292 = .ok (.iaload, 1) := by decide +kernel
theorem dL_law_293 : decode cL_law 293 = .ok (.aload_n 0, 1) := by decide +kernel
theorem dL_law_294 : decode cL_law 294 = .ok (.iload 4, 2) := by decide +kernel
theorem dL_law_296 : decode cL_law 296 = .ok (.iconst 4, 1) := by decide +kernel
theorem dL_law_297 : decode cL_law 297 = .ok (.iadd, 1) := by decide +kernel
theorem dL_law_298 : decode cL_law 298 = .ok (.iaload, 1) := by decide +kernel
theorem dL_law_299 : decode cL_law 299 = .ok (.aload_n 0, 1) := by decide +kernel
theorem dL_law_300 : decode cL_law 300 = .ok (.iload 4, 2) := by decide +kernel
theorem dL_law_302 : decode cL_law 302 = .ok (.iconst 5, 1) := by decide +kernel
theorem dL_law_303 : decode cL_law 303 = .ok (.iadd, 1) := by decide +kernel
theorem dL_law_304 : decode cL_law 304 = .ok (.iaload, 1) := by decide +kernel
theorem dL_law_305 : decode cL_law 305 = .ok (.invokevirtual 23, 3) := by decide +kernel
theorem dL_law_308 : decode cL_law 308 = .ok (.if_icmp .eq 1445, 3) := by decide +kernel
theorem dL_law_311 : decode cL_law 311 = .ok (.iconst 0, 1) := by decide +kernel
theorem dL_law_312 : decode cL_law 312 = .ok (.ireturn, 1) := by decide +kernel
theorem dL_law_313 : decode cL_law 313 = .ok (.aload_n 1, 1) := by decide +kernel
theorem dL_law_314 : decode cL_law 314 = .ok (.aload_n 0, 1) := by decide +kernel
theorem dL_law_315 : decode cL_law 315 = .ok (.iload 4, 2) := by decide +kernel
theorem dL_law_317 : decode cL_law 317 = .ok (.iconst 1, 1) := by decide +kernel
theorem dL_law_318 : decode cL_law 318 = .ok (.iadd, 1) := by decide +kernel
theorem dL_law_319 : decode cL_law 319 = .ok (.iaload, 1) := by decide +kernel
theorem dL_law_320 : decode cL_law 320 = .ok (.invokevirtual 24, 3) := by decide +kernel
theorem dL_law_323 : decode cL_law 323 = .ok (.aload_n 2, 1) := by decide +kernel
theorem dL_law_324 : decode cL_law 324 = .ok (.aload_n 0, 1) := by decide +kernel
theorem dL_law_325 : decode cL_law 325 = .ok (.iload 4, 2) := by decide +kernel
theorem dL_law_327 : decode cL_law 327 = .ok (.iconst 1, 1) := by decide +kernel
theorem dL_law_328 : decode cL_law 328 = .ok (.iadd, 1) := by decide +kernel
theorem dL_law_329 : decode cL_law 329 = .ok (.iaload, 1) := by decide +kernel
theorem dL_law_330 : decode cL_law 330 = .ok (.invokevirtual 28, 3) := by decide +kernel
theorem dL_law_333 : decode cL_law 333 = .ok (.if_icmp .eq 1420, 3) := by decide +kernel
theorem dL_law_336 : decode cL_law 336 = .ok (.iconst 0, 1) := by decide +kernel
theorem dL_law_337 : decode cL_law 337 = .ok (.ireturn, 1) := by decide +kernel
theorem dL_law_338 : decode cL_law 338 = .ok (.aload_n 1, 1) := by decide +kernel
theorem dL_law_339 : decode cL_law 339 = .ok (.aload_n 0, 1) := by decide +kernel
theorem dL_law_340 : decode cL_law 340 = .ok (.iload 4, 2) := by decide +kernel
theorem dL_law_342 : decode cL_law 342 = .ok (.iconst 1, 1) := by decide +kernel
theorem dL_law_343 : decode cL_law 343 = .ok (.iadd, 1) := by decide +kernel
theorem dL_law_344 : decode cL_law 344 = .ok (.iaload, 1) := by decide +kernel
theorem dL_law_345 : decode cL_law 345 = .ok (.invokevirtual 29, 3) := by decide +kernel
theorem dL_law_348 : decode cL_law 348 = .ok (.aload_n 2, 1) := by decide +kernel
theorem dL_law_349 : decode cL_law 349 = .ok (.aload_n 0, 1) := by decide +kernel
theorem dL_law_350 : decode cL_law 350 = .ok (.iload 4, 2) := by decide +kernel
theorem dL_law_352 : decode cL_law 352 = .ok (.iconst 1, 1) := by decide +kernel
theorem dL_law_353 : decode cL_law 353 = .ok (.iadd, 1) := by decide +kernel
theorem dL_law_354 : decode cL_law 354 = .ok (.iaload, 1) := by decide +kernel
theorem dL_law_355 : decode cL_law 355 = .ok (.invokevirtual 32, 3) := by decide +kernel
theorem dL_law_358 : decode cL_law 358 = .ok (.if_icmp .eq 1395, 3) := by decide +kernel
theorem dL_law_361 : decode cL_law 361 = .ok (.iconst 0, 1) := by decide +kernel
theorem dL_law_362 : decode cL_law 362 = .ok (.ireturn, 1) := by decide +kernel
theorem dL_law_363 : decode cL_law 363 = .ok (.aload_n 1, 1) := by decide +kernel
theorem dL_law_364 : decode cL_law 364 = .ok (.aload_n 0, 1) := by decide +kernel
theorem dL_law_365 : decode cL_law 365 = .ok (.iload 4, 2) := by decide +kernel
theorem dL_law_367 : decode cL_law 367 = .ok (.iconst 1, 1) := by decide +kernel
theorem dL_law_368 : decode cL_law 368 = .ok (.iadd, 1) := by decide +kernel
theorem dL_law_369 : decode cL_law 369 = .ok (.iaload, 1) := by decide +kernel
theorem dL_law_370 : decode cL_law 370 = .ok (.invokevirtual 33, 3) := by decide +kernel
theorem dL_law_373 : decode cL_law 373 = .ok (.aload_n 2, 1) := by decide +kernel
theorem dL_law_374 : decode cL_law 374 = .ok (.aload_n 0, 1) := by decide +kernel
theorem dL_law_375 : decode cL_law 375 = .ok (.iload 4, 2) := by decide +kernel
theorem dL_law_377 : decode cL_law 377 = .ok (.iconst 1, 1) := by decide +kernel
theorem dL_law_378 : decode cL_law 378 = .ok (.iadd, 1) := by decide +kernel
theorem dL_law_379 : decode cL_law 379 = .ok (.iaload, 1) := by decide +kernel
theorem dL_law_380 : decode cL_law 380 = .ok (.invokevirtual 36, 3) := by decide +kernel
theorem dL_law_383 : decode cL_law 383 = .ok (.if_icmp .eq 1370, 3) := by decide +kernel
theorem dL_law_386 : decode cL_law 386 = .ok (.iconst 0, 1) := by decide +kernel
theorem dL_law_387 : decode cL_law 387 = .ok (.ireturn, 1) := by decide +kernel
theorem dL_law_388 : decode cL_law 388 = .ok (.aload_n 1, 1) := by decide +kernel
theorem dL_law_389 : decode cL_law 389 = .ok (.aload_n 0, 1) := by decide +kernel
theorem dL_law_390 : decode cL_law 390 = .ok (.iload 4, 2) := by decide +kernel
theorem dL_law_392 : decode cL_law 392 = .ok (.iconst 1, 1) := by decide +kernel
theorem dL_law_393 : decode cL_law 393 = .ok (.iadd, 1) := by decide +kernel
theorem dL_law_394 : decode cL_law 394 = .ok (.iaload, 1) := by decide +kernel
theorem dL_law_395 : decode cL_law 395 = .ok (.invokevirtual 37, 3) := by decide +kernel
theorem dL_law_398 : decode cL_law 398 = .ok (.aload_n 2, 1) := by decide +kernel
theorem dL_law_399 : decode cL_law 399 = .ok (.aload_n 0, 1) := by decide +kernel
theorem dL_law_400 : decode cL_law 400 = .ok (.iload 4, 2) := by decide +kernel
theorem dL_law_402 : decode cL_law 402 = .ok (.iconst 1, 1) := by decide +kernel
theorem dL_law_403 : decode cL_law 403 = .ok (.iadd, 1) := by decide +kernel
theorem dL_law_404 : decode cL_law 404 = .ok (.iaload, 1) := by decide +kernel
theorem dL_law_405 : decode cL_law 405 = .ok (.invokevirtual 40, 3) := by decide +kernel
theorem dL_law_408 : decode cL_law 408 = .ok (.if_icmp .eq 1345, 3) := by decide +kernel
theorem dL_law_411 : decode cL_law 411 = .ok (.iconst 0, 1) := by decide +kernel
theorem dL_law_412 : decode cL_law 412 = .ok (.ireturn, 1) := by decide +kernel
theorem dL_law_413 : decode cL_law 413 = .ok (.aload_n 1, 1) := by decide +kernel
theorem dL_law_414 : decode cL_law 414 = .ok (.aload_n 0, 1) := by decide +kernel
theorem dL_law_415 : decode cL_law 415 = .ok (.iload 4, 2) := by decide +kernel
theorem dL_law_417 : decode cL_law 417 = .ok (.iconst 1, 1) := by decide +kernel
theorem dL_law_418 : decode cL_law 418 = .ok (.iadd, 1) := by decide +kernel
theorem dL_law_419 : decode cL_law 419 = .ok (.iaload, 1) := by decide +kernel
theorem dL_law_420 : decode cL_law 420 = .ok (.aload_n 0, 1) := by decide +kernel
theorem dL_law_421 : decode cL_law 421 = .ok (.iload 4, 2) := by decide +kernel
theorem dL_law_423 : decode cL_law 423 = .ok (.iconst 2, 1) := by decide +kernel
theorem dL_law_424 : decode cL_law 424 = .ok (.iadd, 1) := by decide +kernel
theorem dL_law_425 : decode cL_law 425 = .ok (.iaload, 1) := by decide +kernel
theorem dL_law_426 : decode cL_law 426 = .ok (.invokevirtual 41, 3) := by decide +kernel
theorem dL_law_429 : decode cL_law 429 = .ok (.aload_n 2, 1) := by decide +kernel
theorem dL_law_430 : decode cL_law 430 = .ok (.aload_n 0, 1) := by decide +kernel
theorem dL_law_431 : decode cL_law 431 = .ok (.iload 4, 2) := by decide +kernel
theorem dL_law_433 : decode cL_law 433 = .ok (.iconst 1, 1) := by decide +kernel
theorem dL_law_434 : decode cL_law 434 = .ok (.iadd, 1) := by decide +kernel
theorem dL_law_435 : decode cL_law 435 = .ok (.iaload, 1) := by decide +kernel
theorem dL_law_436 : decode cL_law 436 = .ok (.aload_n 0, 1) := by decide +kernel
theorem dL_law_437 : decode cL_law 437 = .ok (.iload 4, 2) := by decide +kernel
theorem dL_law_439 : decode cL_law 439 = .ok (.iconst 2, 1) := by decide +kernel
theorem dL_law_440 : decode cL_law 440 = .ok (.iadd, 1) := by decide +kernel
theorem dL_law_441 : decode cL_law 441 = .ok (.iaload, 1) := by decide +kernel
theorem dL_law_442 : decode cL_law 442 = .ok (.invokevirtual 45, 3) := by decide +kernel
theorem dL_law_445 : decode cL_law 445 = .ok (.if_icmp .eq 1308, 3) := by decide +kernel
theorem dL_law_448 : decode cL_law 448 = .ok (.iconst 0, 1) := by decide +kernel
theorem dL_law_449 : decode cL_law 449 = .ok (.ireturn, 1) := by decide +kernel
theorem dL_law_450 : decode cL_law 450 = .ok (.aload_n 1, 1) := by decide +kernel
theorem dL_law_451 : decode cL_law 451 = .ok (.aload_n 0, 1) := by decide +kernel
theorem dL_law_452 : decode cL_law 452 = .ok (.iload 4, 2) := by decide +kernel
theorem dL_law_454 : decode cL_law 454 = .ok (.iconst 1, 1) := by decide +kernel
theorem dL_law_455 : decode cL_law 455 = .ok (.iadd, 1) := by decide +kernel
theorem dL_law_456 : decode cL_law 456 = .ok (.iaload, 1) := by decide +kernel
theorem dL_law_457 : decode cL_law 457 = .ok (.aload_n 0, 1) := by decide +kernel
theorem dL_law_458 : decode cL_law 458 = .ok (.iload 4, 2) := by decide +kernel
theorem dL_law_460 : decode cL_law 460 = .ok (.iconst 2, 1) := by decide +kernel
theorem dL_law_461 : decode cL_law 461 = .ok (.iadd, 1) := by decide +kernel
theorem dL_law_462 : decode cL_law 462 = .ok (.iaload, 1) := by decide +kernel
theorem dL_law_463 : decode cL_law 463 = .ok (.invokevirtual 46, 3) := by decide +kernel
theorem dL_law_466 : decode cL_law 466 = .ok (.aload_n 2, 1) := by decide +kernel
theorem dL_law_467 : decode cL_law 467 = .ok (.aload_n 0, 1) := by decide +kernel
theorem dL_law_468 : decode cL_law 468 = .ok (.iload 4, 2) := by decide +kernel
theorem dL_law_470 : decode cL_law 470 = .ok (.iconst 1, 1) := by decide +kernel
theorem dL_law_471 : decode cL_law 471 = .ok (.iadd, 1) := by decide +kernel
theorem dL_law_472 : decode cL_law 472 = .ok (.iaload, 1) := by decide +kernel
theorem dL_law_473 : decode cL_law 473 = .ok (.aload_n 0, 1) := by decide +kernel
theorem dL_law_474 : decode cL_law 474 = .ok (.iload 4, 2) := by decide +kernel
theorem dL_law_476 : decode cL_law 476 = .ok (.iconst 2, 1) := by decide +kernel
theorem dL_law_477 : decode cL_law 477 = .ok (.iadd, 1) := by decide +kernel
theorem dL_law_478 : decode cL_law 478 = .ok (.iaload, 1) := by decide +kernel
theorem dL_law_479 : decode cL_law 479 = .ok (.invokevirtual 49, 3) := by decide +kernel
theorem dL_law_482 : decode cL_law 482 = .ok (.if_icmp .eq 1271, 3) := by decide +kernel
theorem dL_law_485 : decode cL_law 485 = .ok (.iconst 0, 1) := by decide +kernel
theorem dL_law_486 : decode cL_law 486 = .ok (.ireturn, 1) := by decide +kernel
theorem dL_law_487 : decode cL_law 487 = .ok (.aload_n 1, 1) := by decide +kernel
theorem dL_law_488 : decode cL_law 488 = .ok (.aload_n 0, 1) := by decide +kernel
theorem dL_law_489 : decode cL_law 489 = .ok (.iload 4, 2) := by decide +kernel
theorem dL_law_491 : decode cL_law 491 = .ok (.iconst 1, 1) := by decide +kernel
theorem dL_law_492 : decode cL_law 492 = .ok (.iadd, 1) := by decide +kernel
theorem dL_law_493 : decode cL_law 493 = .ok (.iaload, 1) := by decide +kernel
theorem dL_law_494 : decode cL_law 494 = .ok (.invokevirtual 50, 3) := by decide +kernel
theorem dL_law_497 : decode cL_law 497 = .ok (.aload_n 2, 1) := by decide +kernel
theorem dL_law_498 : decode cL_law 498 = .ok (.aload_n 0, 1) := by decide +kernel
theorem dL_law_499 : decode cL_law 499 = .ok (.iload 4, 2) := by decide +kernel
theorem dL_law_501 : decode cL_law 501 = .ok (.iconst 1, 1) := by decide +kernel
theorem dL_law_502 : decode cL_law 502 = .ok (.iadd, 1) := by decide +kernel
theorem dL_law_503 : decode cL_law 503 = .ok (.iaload, 1) := by decide +kernel
theorem dL_law_504 : decode cL_law 504 = .ok (.invokevirtual 53, 3) := by decide +kernel
theorem dL_law_507 : decode cL_law 507 = .ok (.if_icmp .eq 1246, 3) := by decide +kernel
theorem dL_law_510 : decode cL_law 510 = .ok (.iconst 0, 1) := by decide +kernel
theorem dL_law_511 : decode cL_law 511 = .ok (.ireturn, 1) := by decide +kernel
theorem dL_law_512 : decode cL_law 512 = .ok (.aload_n 1, 1) := by decide +kernel
theorem dL_law_513 : decode cL_law 513 = .ok (.aload_n 0, 1) := by decide +kernel
theorem dL_law_514 : decode cL_law 514 = .ok (.iload 4, 2) := by decide +kernel
theorem dL_law_516 : decode cL_law 516 = .ok (.iconst 1, 1) := by decide +kernel
theorem dL_law_517 : decode cL_law 517 = .ok (.iadd, 1) := by decide +kernel
theorem dL_law_518 : decode cL_law 518 = .ok (.iaload, 1) := by decide +kernel
theorem dL_law_519 : decode cL_law 519 = .ok (.invokevirtual 54, 3) := by decide +kernel
theorem dL_law_522 : decode cL_law 522 = .ok (.aload_n 2, 1) := by decide +kernel
theorem dL_law_523 : decode cL_law 523 = .ok (.aload_n 0, 1) := by decide +kernel
theorem dL_law_524 : decode cL_law 524 = .ok (.iload 4, 2) := by decide +kernel
theorem dL_law_526 : decode cL_law 526 = .ok (.iconst 1, 1) := by decide +kernel
theorem dL_law_527 : decode cL_law 527 = .ok (.iadd, 1) := by decide +kernel
theorem dL_law_528 : decode cL_law 528 = .ok (.iaload, 1) := by decide +kernel
theorem dL_law_529 : decode cL_law 529 = .ok (.invokevirtual 57, 3) := by decide +kernel
theorem dL_law_532 : decode cL_law 532 = .ok (.if_icmp .eq 1221, 3) := by decide +kernel
theorem dL_law_535 : decode cL_law 535 = .ok (.iconst 0, 1) := by decide +kernel
theorem dL_law_536 : decode cL_law 536 = .ok (.ireturn, 1) := by decide +kernel
theorem dL_law_537 : decode cL_law 537 = .ok (.aload_n 1, 1) := by decide +kernel
theorem dL_law_538 : decode cL_law 538 = .ok (.aload_n 0, 1) := by decide +kernel
theorem dL_law_539 : decode cL_law 539 = .ok (.iload 4, 2) := by decide +kernel
theorem dL_law_541 : decode cL_law 541 = .ok (.iconst 1, 1) := by decide +kernel
theorem dL_law_542 : decode cL_law 542 = .ok (.iadd, 1) := by decide +kernel
theorem dL_law_543 : decode cL_law 543 = .ok (.iaload, 1) := by decide +kernel
theorem dL_law_544 : decode cL_law 544 = .ok (.aload_n 0, 1) := by decide +kernel
theorem dL_law_545 : decode cL_law 545 = .ok (.iload 4, 2) := by decide +kernel
theorem dL_law_547 : decode cL_law 547 = .ok (.iconst 2, 1) := by decide +kernel
theorem dL_law_548 : decode cL_law 548 = .ok (.iadd, 1) := by decide +kernel
theorem dL_law_549 : decode cL_law 549 = .ok (.iaload, 1) := by decide +kernel
theorem dL_law_550 : decode cL_law 550 = .ok (.invokevirtual 58, 3) := by decide +kernel
theorem dL_law_553 : decode cL_law 553 = .ok (.aload_n 2, 1) := by decide +kernel
theorem dL_law_554 : decode cL_law 554 = .ok (.aload_n 0, 1) := by decide +kernel
theorem dL_law_555 : decode cL_law 555 = .ok (.iload 4, 2) := by decide +kernel
theorem dL_law_557 : decode cL_law 557 = .ok (.iconst 1, 1) := by decide +kernel
theorem dL_law_558 : decode cL_law 558 = .ok (.iadd, 1) := by decide +kernel
theorem dL_law_559 : decode cL_law 559 = .ok (.iaload, 1) := by decide +kernel
theorem dL_law_560 : decode cL_law 560 = .ok (.aload_n 0, 1) := by decide +kernel
theorem dL_law_561 : decode cL_law 561 = .ok (.iload 4, 2) := by decide +kernel
theorem dL_law_563 : decode cL_law 563 = .ok (.iconst 2, 1) := by decide +kernel
theorem dL_law_564 : decode cL_law 564 = .ok (.iadd, 1) := by decide +kernel
theorem dL_law_565 : decode cL_law 565 = .ok (.iaload, 1) := by decide +kernel
theorem dL_law_566 : decode cL_law 566 = .ok (.invokevirtual 61, 3) := by decide +kernel
theorem dL_law_569 : decode cL_law 569 = .ok (.if_icmp .eq 1184, 3) := by decide +kernel
theorem dL_law_572 : decode cL_law 572 = .ok (.iconst 0, 1) := by decide +kernel
theorem dL_law_573 : decode cL_law 573 = .ok (.ireturn, 1) := by decide +kernel
theorem dL_law_574 : decode cL_law 574 = .ok (.aload_n 1, 1) := by decide +kernel
theorem dL_law_575 : decode cL_law 575 = .ok (.aload_n 0, 1) := by decide +kernel
theorem dL_law_576 : decode cL_law 576 = .ok (.iload 4, 2) := by decide +kernel
theorem dL_law_578 : decode cL_law 578 = .ok (.iconst 1, 1) := by decide +kernel
theorem dL_law_579 : decode cL_law 579 = .ok (.iadd, 1) := by decide +kernel
theorem dL_law_580 : decode cL_law 580 = .ok (.iaload, 1) := by decide +kernel
theorem dL_law_581 : decode cL_law 581 = .ok (.aload_n 0, 1) := by decide +kernel
theorem dL_law_582 : decode cL_law 582 = .ok (.iload 4, 2) := by decide +kernel
theorem dL_law_584 : decode cL_law 584 = .ok (.iconst 2, 1) := by decide +kernel
theorem dL_law_585 : decode cL_law 585 = .ok (.iadd, 1) := by decide +kernel
theorem dL_law_586 : decode cL_law 586 = .ok (.iaload, 1) := by decide +kernel
theorem dL_law_587 : decode cL_law 587 = .ok (.invokevirtual 62, 3) := by decide +kernel
theorem dL_law_590 : decode cL_law 590 = .ok (.aload_n 2, 1) := by decide +kernel
theorem dL_law_591 : decode cL_law 591 = .ok (.aload_n 0, 1) := by decide +kernel
theorem dL_law_592 : decode cL_law 592 = .ok (.iload 4, 2) := by decide +kernel
theorem dL_law_594 : decode cL_law 594 = .ok (.iconst 1, 1) := by decide +kernel
theorem dL_law_595 : decode cL_law 595 = .ok (.iadd, 1) := by decide +kernel
theorem dL_law_596 : decode cL_law 596 = .ok (.iaload, 1) := by decide +kernel
theorem dL_law_597 : decode cL_law 597 = .ok (.aload_n 0, 1) := by decide +kernel
theorem dL_law_598 : decode cL_law 598 = .ok (.iload 4, 2) := by decide +kernel
theorem dL_law_600 : decode cL_law 600 = .ok (.iconst 2, 1) := by decide +kernel
theorem dL_law_601 : decode cL_law 601 = .ok (.iadd, 1) := by decide +kernel
theorem dL_law_602 : decode cL_law 602 = .ok (.iaload, 1) := by decide +kernel
theorem dL_law_603 : decode cL_law 603 = .ok (.invokevirtual 65, 3) := by decide +kernel
theorem dL_law_606 : decode cL_law 606 = .ok (.if_icmp .eq 1147, 3) := by decide +kernel
theorem dL_law_609 : decode cL_law 609 = .ok (.iconst 0, 1) := by decide +kernel
theorem dL_law_610 : decode cL_law 610 = .ok (.ireturn, 1) := by decide +kernel
theorem dL_law_611 : decode cL_law 611 = .ok (.aload_n 1, 1) := by decide +kernel
theorem dL_law_612 : decode cL_law 612 = .ok (.aload_n 0, 1) := by decide +kernel
theorem dL_law_613 : decode cL_law 613 = .ok (.iload 4, 2) := by decide +kernel
theorem dL_law_615 : decode cL_law 615 = .ok (.iconst 1, 1) := by decide +kernel
theorem dL_law_616 : decode cL_law 616 = .ok (.iadd, 1) := by decide +kernel
theorem dL_law_617 : decode cL_law 617 = .ok (.iaload, 1) := by decide +kernel
theorem dL_law_618 : decode cL_law 618 = .ok (.aload_n 3, 1) := by decide +kernel
theorem dL_law_619 : decode cL_law 619 = .ok (.invokestatic 66, 3) := by decide +kernel
theorem dL_law_622 : decode cL_law 622 = .ok (.istore 5, 2) := by decide +kernel
theorem dL_law_624 : decode cL_law 624 = .ok (.aload_n 2, 1) := by decide +kernel
theorem dL_law_625 : decode cL_law 625 = .ok (.aload_n 0, 1) := by decide +kernel
theorem dL_law_626 : decode cL_law 626 = .ok (.iload 4, 2) := by decide +kernel
theorem dL_law_628 : decode cL_law 628 = .ok (.iconst 1, 1) := by decide +kernel
theorem dL_law_629 : decode cL_law 629 = .ok (.iadd, 1) := by decide +kernel
theorem dL_law_630 : decode cL_law 630 = .ok (.iaload, 1) := by decide +kernel
theorem dL_law_631 : decode cL_law 631 = .ok (.invokevirtual 71, 3) := by decide +kernel
theorem dL_law_634 : decode cL_law 634 = .ok (.istore 6, 2) := by decide +kernel
theorem dL_law_636 : decode cL_law 636 = .ok (.aload_n 2, 1) := by decide +kernel
theorem dL_law_637 : decode cL_law 637 = .ok (.invokevirtual 72, 3) := by decide +kernel
theorem dL_law_640 : decode cL_law 640 = .ok (.iload 5, 2) := by decide +kernel
theorem dL_law_642 : decode cL_law 642 = .ok (.if_icmp .eq 5, 3) := by decide +kernel
theorem dL_law_645 : decode cL_law 645 = .ok (.iconst 0, 1) := by decide +kernel
theorem dL_law_646 : decode cL_law 646 = .ok (.ireturn, 1) := by decide +kernel
theorem dL_law_647 : decode cL_law 647 = .ok (.iload 5, 2) := by decide +kernel
theorem dL_law_649 : decode cL_law 649 = .ok (.ifCond .ne 15, 3) := by decide +kernel
theorem dL_law_652 : decode cL_law 652 = .ok (.aload_n 3, 1) := by decide +kernel
theorem dL_law_653 : decode cL_law 653 = .ok (.iconst 0, 1) := by decide +kernel
theorem dL_law_654 : decode cL_law 654 = .ok (.laload, 1) := by decide +kernel
theorem dL_law_655 : decode cL_law 655 = .ok (.iload 6, 2) := by decide +kernel
theorem dL_law_657 : decode cL_law 657 = .ok (.i2l, 1) := by decide +kernel
theorem dL_law_658 : decode cL_law 658 = .ok (.lcmp, 1) := by decide +kernel
theorem dL_law_659 : decode cL_law 659 = .ok (.ifCond .eq 5, 3) := by decide +kernel
theorem dL_law_662 : decode cL_law 662 = .ok (.iconst 0, 1) := by decide +kernel
theorem dL_law_663 : decode cL_law 663 = .ok (.ireturn, 1) := by decide +kernel
theorem dL_law_664 : decode cL_law 664 = .ok (.goto 1089, 3) := by decide +kernel
theorem dL_law_667 : decode cL_law 667 = .ok (.aload_n 1, 1) := by decide +kernel
theorem dL_law_668 : decode cL_law 668 = .ok (.aload_n 0, 1) := by decide +kernel
theorem dL_law_669 : decode cL_law 669 = .ok (.iload 4, 2) := by decide +kernel
theorem dL_law_671 : decode cL_law 671 = .ok (.iconst 1, 1) := by decide +kernel
theorem dL_law_672 : decode cL_law 672 = .ok (.iadd, 1) := by decide +kernel
theorem dL_law_673 : decode cL_law 673 = .ok (.iaload, 1) := by decide +kernel
theorem dL_law_674 : decode cL_law 674 = .ok (.aload_n 0, 1) := by decide +kernel
theorem dL_law_675 : decode cL_law 675 = .ok (.iload 4, 2) := by decide +kernel
theorem dL_law_677 : decode cL_law 677 = .ok (.iconst 2, 1) := by decide +kernel
theorem dL_law_678 : decode cL_law 678 = .ok (.iadd, 1) := by decide +kernel
theorem dL_law_679 : decode cL_law 679 = .ok (.iaload, 1) := by decide +kernel
theorem dL_law_680 : decode cL_law 680 = .ok (.aload_n 0, 1) := by decide +kernel
theorem dL_law_681 : decode cL_law 681 = .ok (.iload 4, 2) := by decide +kernel
theorem dL_law_683 : decode cL_law 683 = .ok (.iconst 3, 1) := by decide +kernel
theorem dL_law_684 : decode cL_law 684 = .ok (.iadd, 1) := by decide +kernel
theorem dL_law_685 : decode cL_law 685 = .ok (.iaload, 1) := by decide +kernel
theorem dL_law_686 : decode cL_law 686 = .ok (.invokevirtual 76, 3) := by decide +kernel
theorem dL_law_689 : decode cL_law 689 = .ok (.aload_n 2, 1) := by decide +kernel
theorem dL_law_690 : decode cL_law 690 = .ok (.aload_n 0, 1) := by decide +kernel
theorem dL_law_691 : decode cL_law 691 = .ok (.iload 4, 2) := by decide +kernel
theorem dL_law_693 : decode cL_law 693 = .ok (.iconst 1, 1) := by decide +kernel
theorem dL_law_694 : decode cL_law 694 = .ok (.iadd, 1) := by decide +kernel
theorem dL_law_695 : decode cL_law 695 = .ok (.iaload, 1) := by decide +kernel
theorem dL_law_696 : decode cL_law 696 = .ok (.aload_n 0, 1) := by decide +kernel
theorem dL_law_697 : decode cL_law 697 = .ok (.iload 4, 2) := by decide +kernel
theorem dL_law_699 : decode cL_law 699 = .ok (.iconst 2, 1) := by decide +kernel
theorem dL_law_700 : decode cL_law 700 = .ok (.iadd, 1) := by decide +kernel
theorem dL_law_701 : decode cL_law 701 = .ok (.iaload, 1) := by decide +kernel
theorem dL_law_702 : decode cL_law 702 = .ok (.aload_n 0, 1) := by decide +kernel
theorem dL_law_703 : decode cL_law 703 = .ok (.iload 4, 2) := by decide +kernel
theorem dL_law_705 : decode cL_law 705 = .ok (.iconst 3, 1) := by decide +kernel
theorem dL_law_706 : decode cL_law 706 = .ok (.iadd, 1) := by decide +kernel
theorem dL_law_707 : decode cL_law 707 = .ok (.iaload, 1) := by decide +kernel
theorem dL_law_708 : decode cL_law 708 = .ok (.invokevirtual 80, 3) := by decide +kernel
theorem dL_law_711 : decode cL_law 711 = .ok (.if_icmp .eq 1042, 3) := by decide +kernel
theorem dL_law_714 : decode cL_law 714 = .ok (.iconst 0, 1) := by decide +kernel
theorem dL_law_715 : decode cL_law 715 = .ok (.ireturn, 1) := by decide +kernel
theorem dL_law_716 : decode cL_law 716 = .ok (.aload_n 1, 1) := by decide +kernel
theorem dL_law_717 : decode cL_law 717 = .ok (.aload_n 0, 1) := by decide +kernel
theorem dL_law_718 : decode cL_law 718 = .ok (.iload 4, 2) := by decide +kernel
theorem dL_law_720 : decode cL_law 720 = .ok (.iconst 1, 1) := by decide +kernel
theorem dL_law_721 : decode cL_law 721 = .ok (.iadd, 1) := by decide +kernel
theorem dL_law_722 : decode cL_law 722 = .ok (.iaload, 1) := by decide +kernel
theorem dL_law_723 : decode cL_law 723 = .ok (.aload_n 0, 1) := by decide +kernel
theorem dL_law_724 : decode cL_law 724 = .ok (.iload 4, 2) := by decide +kernel
theorem dL_law_726 : decode cL_law 726 = .ok (.iconst 2, 1) := by decide +kernel
theorem dL_law_727 : decode cL_law 727 = .ok (.iadd, 1) := by decide +kernel
theorem dL_law_728 : decode cL_law 728 = .ok (.iaload, 1) := by decide +kernel
theorem dL_law_729 : decode cL_law 729 = .ok (.invokevirtual 81, 3) := by decide +kernel
theorem dL_law_732 : decode cL_law 732 = .ok (.aload_n 2, 1) := by decide +kernel
theorem dL_law_733 : decode cL_law 733 = .ok (.aload_n 0, 1) := by decide +kernel
theorem dL_law_734 : decode cL_law 734 = .ok (.iload 4, 2) := by decide +kernel
theorem dL_law_736 : decode cL_law 736 = .ok (.iconst 1, 1) := by decide +kernel
theorem dL_law_737 : decode cL_law 737 = .ok (.iadd, 1) := by decide +kernel
theorem dL_law_738 : decode cL_law 738 = .ok (.iaload, 1) := by decide +kernel
theorem dL_law_739 : decode cL_law 739 = .ok (.aload_n 0, 1) := by decide +kernel
theorem dL_law_740 : decode cL_law 740 = .ok (.iload 4, 2) := by decide +kernel
theorem dL_law_742 : decode cL_law 742 = .ok (.iconst 2, 1) := by decide +kernel
theorem dL_law_743 : decode cL_law 743 = .ok (.iadd, 1) := by decide +kernel
theorem dL_law_744 : decode cL_law 744 = .ok (.iaload, 1) := by decide +kernel
theorem dL_law_745 : decode cL_law 745 = .ok (.invokevirtual 84, 3) := by decide +kernel
theorem dL_law_748 : decode cL_law 748 = .ok (.if_icmp .eq 1005, 3) := by decide +kernel
theorem dL_law_751 : decode cL_law 751 = .ok (.iconst 0, 1) := by decide +kernel
theorem dL_law_752 : decode cL_law 752 = .ok (.ireturn, 1) := by decide +kernel
theorem dL_law_753 : decode cL_law 753 = .ok (.aload_n 1, 1) := by decide +kernel
theorem dL_law_754 : decode cL_law 754 = .ok (.aload_n 0, 1) := by decide +kernel
theorem dL_law_755 : decode cL_law 755 = .ok (.iload 4, 2) := by decide +kernel
theorem dL_law_757 : decode cL_law 757 = .ok (.iconst 1, 1) := by decide +kernel
theorem dL_law_758 : decode cL_law 758 = .ok (.iadd, 1) := by decide +kernel
theorem dL_law_759 : decode cL_law 759 = .ok (.iaload, 1) := by decide +kernel
theorem dL_law_760 : decode cL_law 760 = .ok (.aload_n 0, 1) := by decide +kernel
theorem dL_law_761 : decode cL_law 761 = .ok (.iload 4, 2) := by decide +kernel
theorem dL_law_763 : decode cL_law 763 = .ok (.iconst 2, 1) := by decide +kernel
theorem dL_law_764 : decode cL_law 764 = .ok (.iadd, 1) := by decide +kernel
theorem dL_law_765 : decode cL_law 765 = .ok (.iaload, 1) := by decide +kernel
theorem dL_law_766 : decode cL_law 766 = .ok (.invokevirtual 85, 3) := by decide +kernel
theorem dL_law_769 : decode cL_law 769 = .ok (.aload_n 2, 1) := by decide +kernel
theorem dL_law_770 : decode cL_law 770 = .ok (.aload_n 0, 1) := by decide +kernel
theorem dL_law_771 : decode cL_law 771 = .ok (.iload 4, 2) := by decide +kernel
theorem dL_law_773 : decode cL_law 773 = .ok (.iconst 1, 1) := by decide +kernel
theorem dL_law_774 : decode cL_law 774 = .ok (.iadd, 1) := by decide +kernel
theorem dL_law_775 : decode cL_law 775 = .ok (.iaload, 1) := by decide +kernel
theorem dL_law_776 : decode cL_law 776 = .ok (.aload_n 0, 1) := by decide +kernel
theorem dL_law_777 : decode cL_law 777 = .ok (.iload 4, 2) := by decide +kernel
theorem dL_law_779 : decode cL_law 779 = .ok (.iconst 2, 1) := by decide +kernel
theorem dL_law_780 : decode cL_law 780 = .ok (.iadd, 1) := by decide +kernel
theorem dL_law_781 : decode cL_law 781 = .ok (.iaload, 1) := by decide +kernel
theorem dL_law_782 : decode cL_law 782 = .ok (.invokevirtual 88, 3) := by decide +kernel
theorem dL_law_785 : decode cL_law 785 = .ok (.if_icmp .eq 968, 3) := by decide +kernel
theorem dL_law_788 : decode cL_law 788 = .ok (.iconst 0, 1) := by decide +kernel
theorem dL_law_789 : decode cL_law 789 = .ok (.ireturn, 1) := by decide +kernel
theorem dL_law_790 : decode cL_law 790 = .ok (.aload_n 1, 1) := by decide +kernel
theorem dL_law_791 : decode cL_law 791 = .ok (.aload_n 0, 1) := by decide +kernel
theorem dL_law_792 : decode cL_law 792 = .ok (.iload 4, 2) := by decide +kernel
theorem dL_law_794 : decode cL_law 794 = .ok (.iconst 1, 1) := by decide +kernel
theorem dL_law_795 : decode cL_law 795 = .ok (.iadd, 1) := by decide +kernel
theorem dL_law_796 : decode cL_law 796 = .ok (.iaload, 1) := by decide +kernel
theorem dL_law_797 : decode cL_law 797 = .ok (.invokevirtual 89, 3) := by decide +kernel
theorem dL_law_800 : decode cL_law 800 = .ok (.aload_n 2, 1) := by decide +kernel
theorem dL_law_801 : decode cL_law 801 = .ok (.aload_n 0, 1) := by decide +kernel
theorem dL_law_802 : decode cL_law 802 = .ok (.iload 4, 2) := by decide +kernel
theorem dL_law_804 : decode cL_law 804 = .ok (.iconst 1, 1) := by decide +kernel
theorem dL_law_805 : decode cL_law 805 = .ok (.iadd, 1) := by decide +kernel
theorem dL_law_806 : decode cL_law 806 = .ok (.iaload, 1) := by decide +kernel
theorem dL_law_807 : decode cL_law 807 = .ok (.invokevirtual 92, 3) := by decide +kernel
theorem dL_law_810 : decode cL_law 810 = .ok (.if_icmp .eq 943, 3) := by decide +kernel
theorem dL_law_813 : decode cL_law 813 = .ok (.iconst 0, 1) := by decide +kernel
theorem dL_law_814 : decode cL_law 814 = .ok (.ireturn, 1) := by decide +kernel
theorem dL_law_815 : decode cL_law 815 = .ok (.aload_n 1, 1) := by decide +kernel
theorem dL_law_816 : decode cL_law 816 = .ok (.aload_n 0, 1) := by decide +kernel
theorem dL_law_817 : decode cL_law 817 = .ok (.iload 4, 2) := by decide +kernel
theorem dL_law_819 : decode cL_law 819 = .ok (.iconst 1, 1) := by decide +kernel
theorem dL_law_820 : decode cL_law 820 = .ok (.iadd, 1) := by decide +kernel
theorem dL_law_821 : decode cL_law 821 = .ok (.iaload, 1) := by decide +kernel
theorem dL_law_822 : decode cL_law 822 = .ok (.invokevirtual 93, 3) := by decide +kernel
theorem dL_law_825 : decode cL_law 825 = .ok (.aload_n 2, 1) := by decide +kernel
theorem dL_law_826 : decode cL_law 826 = .ok (.aload_n 0, 1) := by decide +kernel
theorem dL_law_827 : decode cL_law 827 = .ok (.iload 4, 2) := by decide +kernel
theorem dL_law_829 : decode cL_law 829 = .ok (.iconst 1, 1) := by decide +kernel
theorem dL_law_830 : decode cL_law 830 = .ok (.iadd, 1) := by decide +kernel
theorem dL_law_831 : decode cL_law 831 = .ok (.iaload, 1) := by decide +kernel
theorem dL_law_832 : decode cL_law 832 = .ok (.invokevirtual 96, 3) := by decide +kernel
theorem dL_law_835 : decode cL_law 835 = .ok (.if_icmp .eq 918, 3) := by decide +kernel
theorem dL_law_838 : decode cL_law 838 = .ok (.iconst 0, 1) := by decide +kernel
theorem dL_law_839 : decode cL_law 839 = .ok (.ireturn, 1) := by decide +kernel
theorem dL_law_840 : decode cL_law 840 = .ok (.aload_n 1, 1) := by decide +kernel
theorem dL_law_841 : decode cL_law 841 = .ok (.aload_n 0, 1) := by decide +kernel
theorem dL_law_842 : decode cL_law 842 = .ok (.iload 4, 2) := by decide +kernel
theorem dL_law_844 : decode cL_law 844 = .ok (.iconst 1, 1) := by decide +kernel
theorem dL_law_845 : decode cL_law 845 = .ok (.iadd, 1) := by decide +kernel
theorem dL_law_846 : decode cL_law 846 = .ok (.iaload, 1) := by decide +kernel
theorem dL_law_847 : decode cL_law 847 = .ok (.aload_n 0, 1) := by decide +kernel
theorem dL_law_848 : decode cL_law 848 = .ok (.iload 4, 2) := by decide +kernel
theorem dL_law_850 : decode cL_law 850 = .ok (.iconst 2, 1) := by decide +kernel
theorem dL_law_851 : decode cL_law 851 = .ok (.iadd, 1) := by decide +kernel
theorem dL_law_852 : decode cL_law 852 = .ok (.iaload, 1) := by decide +kernel
theorem dL_law_853 : decode cL_law 853 = .ok (.invokevirtual 97, 3) := by decide +kernel
theorem dL_law_856 : decode cL_law 856 = .ok (.aload_n 2, 1) := by decide +kernel
theorem dL_law_857 : decode cL_law 857 = .ok (.aload_n 0, 1) := by decide +kernel
theorem dL_law_858 : decode cL_law 858 = .ok (.iload 4, 2) := by decide +kernel
theorem dL_law_860 : decode cL_law 860 = .ok (.iconst 1, 1) := by decide +kernel
theorem dL_law_861 : decode cL_law 861 = .ok (.iadd, 1) := by decide +kernel
theorem dL_law_862 : decode cL_law 862 = .ok (.iaload, 1) := by decide +kernel
theorem dL_law_863 : decode cL_law 863 = .ok (.aload_n 0, 1) := by decide +kernel
theorem dL_law_864 : decode cL_law 864 = .ok (.iload 4, 2) := by decide +kernel
theorem dL_law_866 : decode cL_law 866 = .ok (.iconst 2, 1) := by decide +kernel
theorem dL_law_867 : decode cL_law 867 = .ok (.iadd, 1) := by decide +kernel
theorem dL_law_868 : decode cL_law 868 = .ok (.iaload, 1) := by decide +kernel
theorem dL_law_869 : decode cL_law 869 = .ok (.invokevirtual 100, 3) := by decide +kernel
theorem dL_law_872 : decode cL_law 872 = .ok (.if_icmp .eq 881, 3) := by decide +kernel
theorem dL_law_875 : decode cL_law 875 = .ok (.iconst 0, 1) := by decide +kernel
theorem dL_law_876 : decode cL_law 876 = .ok (.ireturn, 1) := by decide +kernel
theorem dL_law_877 : decode cL_law 877 = .ok (.aload_n 1, 1) := by decide +kernel
theorem dL_law_878 : decode cL_law 878 = .ok (.aload_n 0, 1) := by decide +kernel
theorem dL_law_879 : decode cL_law 879 = .ok (.iload 4, 2) := by decide +kernel
theorem dL_law_881 : decode cL_law 881 = .ok (.iconst 1, 1) := by decide +kernel
theorem dL_law_882 : decode cL_law 882 = .ok (.iadd, 1) := by decide +kernel
theorem dL_law_883 : decode cL_law 883 = .ok (.iaload, 1) := by decide +kernel
theorem dL_law_884 : decode cL_law 884 = .ok (.invokevirtual 101, 3) := by decide +kernel
theorem dL_law_887 : decode cL_law 887 = .ok (.aload_n 2, 1) := by decide +kernel
theorem dL_law_888 : decode cL_law 888 = .ok (.aload_n 0, 1) := by decide +kernel
theorem dL_law_889 : decode cL_law 889 = .ok (.iload 4, 2) := by decide +kernel
theorem dL_law_891 : decode cL_law 891 = .ok (.iconst 1, 1) := by decide +kernel
theorem dL_law_892 : decode cL_law 892 = .ok (.iadd, 1) := by decide +kernel
theorem dL_law_893 : decode cL_law 893 = .ok (.iaload, 1) := by decide +kernel
theorem dL_law_894 : decode cL_law 894 = .ok (.invokevirtual 104, 3) := by decide +kernel
theorem dL_law_897 : decode cL_law 897 = .ok (.if_icmp .eq 856, 3) := by decide +kernel
theorem dL_law_900 : decode cL_law 900 = .ok (.iconst 0, 1) := by decide +kernel
theorem dL_law_901 : decode cL_law 901 = .ok (.ireturn, 1) := by decide +kernel
theorem dL_law_902 : decode cL_law 902 = .ok (.aload_n 1, 1) := by decide +kernel
theorem dL_law_903 : decode cL_law 903 = .ok (.aload_n 0, 1) := by decide +kernel
theorem dL_law_904 : decode cL_law 904 = .ok (.iload 4, 2) := by decide +kernel
theorem dL_law_906 : decode cL_law 906 = .ok (.iconst 1, 1) := by decide +kernel
theorem dL_law_907 : decode cL_law 907 = .ok (.iadd, 1) := by decide +kernel
theorem dL_law_908 : decode cL_law 908 = .ok (.iaload, 1) := by decide +kernel
theorem dL_law_909 : decode cL_law 909 = .ok (.aload_n 0, 1) := by decide +kernel
theorem dL_law_910 : decode cL_law 910 = .ok (.iload 4, 2) := by decide +kernel
theorem dL_law_912 : decode cL_law 912 = .ok (.iconst 2, 1) := by decide +kernel
theorem dL_law_913 : decode cL_law 913 = .ok (.iadd, 1) := by decide +kernel
theorem dL_law_914 : decode cL_law 914 = .ok (.iaload, 1) := by decide +kernel
theorem dL_law_915 : decode cL_law 915 = .ok (.aload_n 0, 1) := by decide +kernel
theorem dL_law_916 : decode cL_law 916 = .ok (.iload 4, 2) := by decide +kernel
theorem dL_law_918 : decode cL_law 918 = .ok (.iconst 3, 1) := by decide +kernel
theorem dL_law_919 : decode cL_law 919 = .ok (.iadd, 1) := by decide +kernel
theorem dL_law_920 : decode cL_law 920 = .ok (.iaload, 1) := by decide +kernel
theorem dL_law_921 : decode cL_law 921 = .ok (.aload_n 0, 1) := by decide +kernel
theorem dL_law_922 : decode cL_law 922 = .ok (.iload 4, 2) := by decide +kernel
theorem dL_law_924 : decode cL_law 924 = .ok (.iconst 4, 1) := by decide +kernel
theorem dL_law_925 : decode cL_law 925 = .ok (.iadd, 1) := by decide +kernel
theorem dL_law_926 : decode cL_law 926 = .ok (.iaload, 1) := by decide +kernel
theorem dL_law_927 : decode cL_law 927 = .ok (.invokevirtual 105, 3) := by decide +kernel
theorem dL_law_930 : decode cL_law 930 = .ok (.aload_n 2, 1) := by decide +kernel
theorem dL_law_931 : decode cL_law 931 = .ok (.aload_n 0, 1) := by decide +kernel
theorem dL_law_932 : decode cL_law 932 = .ok (.iload 4, 2) := by decide +kernel
theorem dL_law_934 : decode cL_law 934 = .ok (.iconst 1, 1) := by decide +kernel
theorem dL_law_935 : decode cL_law 935 = .ok (.iadd, 1) := by decide +kernel
theorem dL_law_936 : decode cL_law 936 = .ok (.iaload, 1) := by decide +kernel
theorem dL_law_937 : decode cL_law 937 = .ok (.aload_n 0, 1) := by decide +kernel
theorem dL_law_938 : decode cL_law 938 = .ok (.iload 4, 2) := by decide +kernel
theorem dL_law_940 : decode cL_law 940 = .ok (.iconst 2, 1) := by decide +kernel
theorem dL_law_941 : decode cL_law 941 = .ok (.iadd, 1) := by decide +kernel
theorem dL_law_942 : decode cL_law 942 = .ok (.iaload, 1) := by decide +kernel
theorem dL_law_943 : decode cL_law 943 = .ok (.aload_n 0, 1) := by decide +kernel
theorem dL_law_944 : decode cL_law 944 = .ok (.iload 4, 2) := by decide +kernel
theorem dL_law_946 : decode cL_law 946 = .ok (.iconst 3, 1) := by decide +kernel
theorem dL_law_947 : decode cL_law 947 = .ok (.iadd, 1) := by decide +kernel
theorem dL_law_948 : decode cL_law 948 = .ok (.iaload, 1) := by decide +kernel
theorem dL_law_949 : decode cL_law 949 = .ok (.aload_n 0, 1) := by decide +kernel
theorem dL_law_950 : decode cL_law 950 = .ok (.iload 4, 2) := by decide +kernel
theorem dL_law_952 : decode cL_law 952 = .ok (.iconst 4, 1) := by decide +kernel
theorem dL_law_953 : decode cL_law 953 = .ok (.iadd, 1) := by decide +kernel
theorem dL_law_954 : decode cL_law 954 = .ok (.iaload, 1) := by decide +kernel
theorem dL_law_955 : decode cL_law 955 = .ok (.invokevirtual 109, 3) := by decide +kernel
theorem dL_law_958 : decode cL_law 958 = .ok (.if_icmp .eq 795, 3) := by decide +kernel
theorem dL_law_961 : decode cL_law 961 = .ok (.iconst 0, 1) := by decide +kernel
theorem dL_law_962 : decode cL_law 962 = .ok (.ireturn, 1) := by decide +kernel
theorem dL_law_963 : decode cL_law 963 = .ok (.aload_n 1, 1) := by decide +kernel
theorem dL_law_964 : decode cL_law 964 = .ok (.aload_n 0, 1) := by decide +kernel
theorem dL_law_965 : decode cL_law 965 = .ok (.iload 4, 2) := by decide +kernel
theorem dL_law_967 : decode cL_law 967 = .ok (.iconst 1, 1) := by decide +kernel
theorem dL_law_968 : decode cL_law 968 = .ok (.iadd, 1) := by decide +kernel
theorem dL_law_969 : decode cL_law 969 = .ok (.iaload, 1) := by decide +kernel
theorem dL_law_970 : decode cL_law 970 = .ok (.aload_n 0, 1) := by decide +kernel
theorem dL_law_971 : decode cL_law 971 = .ok (.iload 4, 2) := by decide +kernel
theorem dL_law_973 : decode cL_law 973 = .ok (.iconst 2, 1) := by decide +kernel
theorem dL_law_974 : decode cL_law 974 = .ok (.iadd, 1) := by decide +kernel
theorem dL_law_975 : decode cL_law 975 = .ok (.iaload, 1) := by decide +kernel
theorem dL_law_976 : decode cL_law 976 = .ok (.aload_n 0, 1) := by decide +kernel
theorem dL_law_977 : decode cL_law 977 = .ok (.iload 4, 2) := by decide +kernel
theorem dL_law_979 : decode cL_law 979 = .ok (.iconst 3, 1) := by decide +kernel
theorem dL_law_980 : decode cL_law 980 = .ok (.iadd, 1) := by decide +kernel
theorem dL_law_981 : decode cL_law 981 = .ok (.iaload, 1) := by decide +kernel
theorem dL_law_982 : decode cL_law 982 = .ok (.invokevirtual 110, 3) := by decide +kernel
theorem dL_law_985 : decode cL_law 985 = .ok (.aload_n 2, 1) := by decide +kernel
theorem dL_law_986 : decode cL_law 986 = .ok (.aload_n 0, 1) := by decide +kernel
theorem dL_law_987 : decode cL_law 987 = .ok (.iload 4, 2) := by decide +kernel
theorem dL_law_989 : decode cL_law 989 = .ok (.iconst 1, 1) := by decide +kernel
theorem dL_law_990 : decode cL_law 990 = .ok (.iadd, 1) := by decide +kernel
theorem dL_law_991 : decode cL_law 991 = .ok (.iaload, 1) := by decide +kernel
theorem dL_law_992 : decode cL_law 992 = .ok (.aload_n 0, 1) := by decide +kernel
theorem dL_law_993 : decode cL_law 993 = .ok (.iload 4, 2) := by decide +kernel
theorem dL_law_995 : decode cL_law 995 = .ok (.iconst 2, 1) := by decide +kernel
theorem dL_law_996 : decode cL_law 996 = .ok (.iadd, 1) := by decide +kernel
theorem dL_law_997 : decode cL_law 997 = .ok (.iaload, 1) := by decide +kernel
theorem dL_law_998 : decode cL_law 998 = .ok (.aload_n 0, 1) := by decide +kernel
theorem dL_law_999 : decode cL_law 999 = .ok (.iload 4, 2) := by decide +kernel
theorem dL_law_1001 : decode cL_law 1001 = .ok (.iconst 3, 1) := by decide +kernel
theorem dL_law_1002 : decode cL_law 1002 = .ok (.iadd, 1) := by decide +kernel
theorem dL_law_1003 : decode cL_law 1003 = .ok (.iaload, 1) := by decide +kernel
theorem dL_law_1004 : decode cL_law 1004 = .ok (.invokevirtual 113, 3) := by decide +kernel
theorem dL_law_1007 : decode cL_law 1007 = .ok (.if_icmp .eq 746, 3) := by decide +kernel
theorem dL_law_1010 : decode cL_law 1010 = .ok (.iconst 0, 1) := by decide +kernel
theorem dL_law_1011 : decode cL_law 1011 = .ok (.ireturn, 1) := by decide +kernel
theorem dL_law_1012 : decode cL_law 1012 = .ok (.aload_n 1, 1) := by decide +kernel
theorem dL_law_1013 : decode cL_law 1013 = .ok (.invokevirtual 114, 3) := by decide +kernel
theorem dL_law_1016 : decode cL_law 1016 = .ok (.aload_n 2, 1) := by decide +kernel
theorem dL_law_1017 : decode cL_law 1017 = .ok (.invokevirtual 117, 3) := by decide +kernel
theorem dL_law_1020 : decode cL_law 1020 = .ok (.if_icmp .eq 733, 3) := by decide +kernel
theorem dL_law_1023 : decode cL_law 1023 = .ok (.iconst 0, 1) := by decide +kernel
theorem dL_law_1024 : decode cL_law 1024 = .ok (.ireturn, 1) := by decide +kernel
theorem dL_law_1025 : decode cL_law 1025 = .ok (.aload_n 1, 1) := by decide +kernel
theorem dL_law_1026 : decode cL_law 1026 = .ok (.aload_n 0, 1) := by decide +kernel
theorem dL_law_1027 : decode cL_law 1027 = .ok (.iload 4, 2) := by decide +kernel
theorem dL_law_1029 : decode cL_law 1029 = .ok (.iconst 1, 1) := by decide +kernel
theorem dL_law_1030 : decode cL_law 1030 = .ok (.iadd, 1) := by decide +kernel
theorem dL_law_1031 : decode cL_law 1031 = .ok (.iaload, 1) := by decide +kernel
theorem dL_law_1032 : decode cL_law 1032 = .ok (.aload_n 0, 1) := by decide +kernel
theorem dL_law_1033 : decode cL_law 1033 = .ok (.iload 4, 2) := by decide +kernel
theorem dL_law_1035 : decode cL_law 1035 = .ok (.iconst 2, 1) := by decide +kernel
theorem dL_law_1036 : decode cL_law 1036 = .ok (.iadd, 1) := by decide +kernel
theorem dL_law_1037 : decode cL_law 1037 = .ok (.iaload, 1) := by decide +kernel
theorem dL_law_1038 : decode cL_law 1038 = .ok (.aload_n 0, 1) := by decide +kernel
theorem dL_law_1039 : decode cL_law 1039 = .ok (.iload 4, 2) := by decide +kernel
theorem dL_law_1041 : decode cL_law 1041 = .ok (.iconst 3, 1) := by decide +kernel
theorem dL_law_1042 : decode cL_law 1042 = .ok (.iadd, 1) := by decide +kernel
theorem dL_law_1043 : decode cL_law 1043 = .ok (.iaload, 1) := by decide +kernel
theorem dL_law_1044 : decode cL_law 1044 = .ok (.aload_n 0, 1) := by decide +kernel
theorem dL_law_1045 : decode cL_law 1045 = .ok (.iload 4, 2) := by decide +kernel
theorem dL_law_1047 : decode cL_law 1047 = .ok (.iconst 4, 1) := by decide +kernel
theorem dL_law_1048 : decode cL_law 1048 = .ok (.iadd, 1) := by decide +kernel
theorem dL_law_1049 : decode cL_law 1049 = .ok (.iaload, 1) := by decide +kernel
theorem dL_law_1050 : decode cL_law 1050 = .ok (.invokevirtual 118, 3) := by decide +kernel
theorem dL_law_1053 : decode cL_law 1053 = .ok (.aload_n 2, 1) := by decide +kernel
theorem dL_law_1054 : decode cL_law 1054 = .ok (.aload_n 0, 1) := by decide +kernel
theorem dL_law_1055 : decode cL_law 1055 = .ok (.iload 4, 2) := by decide +kernel
theorem dL_law_1057 : decode cL_law 1057 = .ok (.iconst 1, 1) := by decide +kernel
theorem dL_law_1058 : decode cL_law 1058 = .ok (.iadd, 1) := by decide +kernel
theorem dL_law_1059 : decode cL_law 1059 = .ok (.iaload, 1) := by decide +kernel
theorem dL_law_1060 : decode cL_law 1060 = .ok (.aload_n 0, 1) := by decide +kernel
theorem dL_law_1061 : decode cL_law 1061 = .ok (.iload 4, 2) := by decide +kernel
theorem dL_law_1063 : decode cL_law 1063 = .ok (.iconst 2, 1) := by decide +kernel
theorem dL_law_1064 : decode cL_law 1064 = .ok (.iadd, 1) := by decide +kernel
theorem dL_law_1065 : decode cL_law 1065 = .ok (.iaload, 1) := by decide +kernel
theorem dL_law_1066 : decode cL_law 1066 = .ok (.aload_n 0, 1) := by decide +kernel
theorem dL_law_1067 : decode cL_law 1067 = .ok (.iload 4, 2) := by decide +kernel
theorem dL_law_1069 : decode cL_law 1069 = .ok (.iconst 3, 1) := by decide +kernel
theorem dL_law_1070 : decode cL_law 1070 = .ok (.iadd, 1) := by decide +kernel
theorem dL_law_1071 : decode cL_law 1071 = .ok (.iaload, 1) := by decide +kernel
theorem dL_law_1072 : decode cL_law 1072 = .ok (.aload_n 0, 1) := by decide +kernel
theorem dL_law_1073 : decode cL_law 1073 = .ok (.iload 4, 2) := by decide +kernel
theorem dL_law_1075 : decode cL_law 1075 = .ok (.iconst 4, 1) := by decide +kernel
theorem dL_law_1076 : decode cL_law 1076 = .ok (.iadd, 1) := by decide +kernel
theorem dL_law_1077 : decode cL_law 1077 = .ok (.iaload, 1) := by decide +kernel
theorem dL_law_1078 : decode cL_law 1078 = .ok (.invokevirtual 121, 3) := by decide +kernel
theorem dL_law_1081 : decode cL_law 1081 = .ok (.if_icmp .eq 672, 3) := by decide +kernel
theorem dL_law_1084 : decode cL_law 1084 = .ok (.iconst 0, 1) := by decide +kernel
theorem dL_law_1085 : decode cL_law 1085 = .ok (.ireturn, 1) := by decide +kernel
theorem dL_law_1086 : decode cL_law 1086 = .ok (.aload_n 1, 1) := by decide +kernel
theorem dL_law_1087 : decode cL_law 1087 = .ok (.aload_n 0, 1) := by decide +kernel
theorem dL_law_1088 : decode cL_law 1088 = .ok (.iload 4, 2) := by decide +kernel
theorem dL_law_1090 : decode cL_law 1090 = .ok (.iconst 1, 1) := by decide +kernel
theorem dL_law_1091 : decode cL_law 1091 = .ok (.iadd, 1) := by decide +kernel
theorem dL_law_1092 : decode cL_law 1092 = .ok (.iaload, 1) := by decide +kernel
theorem dL_law_1093 : decode cL_law 1093 = .ok (.aload_n 0, 1) := by decide +kernel
theorem dL_law_1094 : decode cL_law 1094 = .ok (.iload 4, 2) := by decide +kernel
theorem dL_law_1096 : decode cL_law 1096 = .ok (.iconst 2, 1) := by decide +kernel
theorem dL_law_1097 : decode cL_law 1097 = .ok (.iadd, 1) := by decide +kernel
theorem dL_law_1098 : decode cL_law 1098 = .ok (.iaload, 1) := by decide +kernel
theorem dL_law_1099 : decode cL_law 1099 = .ok (.i2l, 1) := by decide +kernel
theorem dL_law_1100 : decode cL_law 1100 = .ok (.bipush 32, 2) := by decide +kernel
theorem dL_law_1102 : decode cL_law 1102 = .ok (.lshl, 1) := by decide +kernel
theorem dL_law_1103 : decode cL_law 1103 = .ok (.aload_n 0, 1) := by decide +kernel
theorem dL_law_1104 : decode cL_law 1104 = .ok (.iload 4, 2) := by decide +kernel
theorem dL_law_1106 : decode cL_law 1106 = .ok (.iconst 3, 1) := by decide +kernel
theorem dL_law_1107 : decode cL_law 1107 = .ok (.iadd, 1) := by decide +kernel
theorem dL_law_1108 : decode cL_law 1108 = .ok (.iaload, 1) := by decide +kernel
theorem dL_law_1109 : decode cL_law 1109 = .ok (.i2l, 1) := by decide +kernel
theorem dL_law_1110 : decode cL_law 1110 = .ok (.ldc2_w 122, 3) := by decide +kernel
theorem dL_law_1113 : decode cL_law 1113 = .ok (.land, 1) := by decide +kernel
theorem dL_law_1114 : decode cL_law 1114 = .ok (.lor, 1) := by decide +kernel
theorem dL_law_1115 : decode cL_law 1115 = .ok (.invokevirtual 124, 3) := by decide +kernel
theorem dL_law_1118 : decode cL_law 1118 = .ok (.aload_n 2, 1) := by decide +kernel
theorem dL_law_1119 : decode cL_law 1119 = .ok (.aload_n 0, 1) := by decide +kernel
theorem dL_law_1120 : decode cL_law 1120 = .ok (.iload 4, 2) := by decide +kernel
theorem dL_law_1122 : decode cL_law 1122 = .ok (.iconst 1, 1) := by decide +kernel
theorem dL_law_1123 : decode cL_law 1123 = .ok (.iadd, 1) := by decide +kernel
theorem dL_law_1124 : decode cL_law 1124 = .ok (.iaload, 1) := by decide +kernel
theorem dL_law_1125 : decode cL_law 1125 = .ok (.aload_n 0, 1) := by decide +kernel
theorem dL_law_1126 : decode cL_law 1126 = .ok (.iload 4, 2) := by decide +kernel
theorem dL_law_1128 : decode cL_law 1128 = .ok (.iconst 2, 1) := by decide +kernel
theorem dL_law_1129 : decode cL_law 1129 = .ok (.iadd, 1) := by decide +kernel
theorem dL_law_1130 : decode cL_law 1130 = .ok (.iaload, 1) := by decide +kernel
theorem dL_law_1131 : decode cL_law 1131 = .ok (.i2l, 1) := by decide +kernel
theorem dL_law_1132 : decode cL_law 1132 = .ok (.bipush 32, 2) := by decide +kernel
theorem dL_law_1134 : decode cL_law 1134 = .ok (.lshl, 1) := by decide +kernel
theorem dL_law_1135 : decode cL_law 1135 = .ok (.aload_n 0, 1) := by decide +kernel
theorem dL_law_1136 : decode cL_law 1136 = .ok (.iload 4, 2) := by decide +kernel
theorem dL_law_1138 : decode cL_law 1138 = .ok (.iconst 3, 1) := by decide +kernel
theorem dL_law_1139 : decode cL_law 1139 = .ok (.iadd, 1) := by decide +kernel
theorem dL_law_1140 : decode cL_law 1140 = .ok (.iaload, 1) := by decide +kernel
theorem dL_law_1141 : decode cL_law 1141 = .ok (.i2l, 1) := by decide +kernel
theorem dL_law_1142 : decode cL_law 1142 = .ok (.ldc2_w 122, 3) := by decide +kernel
theorem dL_law_1145 : decode cL_law 1145 = .ok (.land, 1) := by decide +kernel
theorem dL_law_1146 : decode cL_law 1146 = .ok (.lor, 1) := by decide +kernel
theorem dL_law_1147 : decode cL_law 1147 = .ok (.invokevirtual 128, 3) := by decide +kernel
theorem dL_law_1150 : decode cL_law 1150 = .ok (.if_icmp .eq 603, 3) := by decide +kernel
theorem dL_law_1153 : decode cL_law 1153 = .ok (.iconst 0, 1) := by decide +kernel
theorem dL_law_1154 : decode cL_law 1154 = .ok (.ireturn, 1) := by decide +kernel
theorem dL_law_1155 : decode cL_law 1155 = .ok (.aload_n 1, 1) := by decide +kernel
theorem dL_law_1156 : decode cL_law 1156 = .ok (.aload_n 0, 1) := by decide +kernel
theorem dL_law_1157 : decode cL_law 1157 = .ok (.iload 4, 2) := by decide +kernel
theorem dL_law_1159 : decode cL_law 1159 = .ok (.iconst 1, 1) := by decide +kernel
theorem dL_law_1160 : decode cL_law 1160 = .ok (.iadd, 1) := by decide +kernel
theorem dL_law_1161 : decode cL_law 1161 = .ok (.iaload, 1) := by decide +kernel
theorem dL_law_1162 : decode cL_law 1162 = .ok (.invokevirtual 129, 3) := by decide +kernel
theorem dL_law_1165 : decode cL_law 1165 = .ok (.aload_n 2, 1) := by decide +kernel
theorem dL_law_1166 : decode cL_law 1166 = .ok (.aload_n 0, 1) := by decide +kernel
theorem dL_law_1167 : decode cL_law 1167 = .ok (.iload 4, 2) := by decide +kernel
theorem dL_law_1169 : decode cL_law 1169 = .ok (.iconst 1, 1) := by decide +kernel
theorem dL_law_1170 : decode cL_law 1170 = .ok (.iadd, 1) := by decide +kernel
theorem dL_law_1171 : decode cL_law 1171 = .ok (.iaload, 1) := by decide +kernel
theorem dL_law_1172 : decode cL_law 1172 = .ok (.invokevirtual 132, 3) := by decide +kernel
theorem dL_law_1175 : decode cL_law 1175 = .ok (.if_icmp .eq 578, 3) := by decide +kernel
theorem dL_law_1178 : decode cL_law 1178 = .ok (.iconst 0, 1) := by decide +kernel
theorem dL_law_1179 : decode cL_law 1179 = .ok (.ireturn, 1) := by decide +kernel
theorem dL_law_1180 : decode cL_law 1180 = .ok (.aload_n 1, 1) := by decide +kernel
theorem dL_law_1181 : decode cL_law 1181 = .ok (.invokevirtual 133, 3) := by decide +kernel
theorem dL_law_1184 : decode cL_law 1184 = .ok (.aload_n 2, 1) := by decide +kernel
theorem dL_law_1185 : decode cL_law 1185 = .ok (.invokevirtual 136, 3) := by decide +kernel
theorem dL_law_1188 : decode cL_law 1188 = .ok (.if_icmp .eq 565, 3) := by decide +kernel
theorem dL_law_1191 : decode cL_law 1191 = .ok (.iconst 0, 1) := by decide +kernel
theorem dL_law_1192 : decode cL_law 1192 = .ok (.ireturn, 1) := by decide +kernel
theorem dL_law_1193 : decode cL_law 1193 = .ok (.aload_n 1, 1) := by decide +kernel
theorem dL_law_1194 : decode cL_law 1194 = .ok (.aload_n 0, 1) := by decide +kernel
theorem dL_law_1195 : decode cL_law 1195 = .ok (.iload 4, 2) := by decide +kernel
theorem dL_law_1197 : decode cL_law 1197 = .ok (.iconst 1, 1) := by decide +kernel
theorem dL_law_1198 : decode cL_law 1198 = .ok (.iadd, 1) := by decide +kernel
theorem dL_law_1199 : decode cL_law 1199 = .ok (.iaload, 1) := by decide +kernel
theorem dL_law_1200 : decode cL_law 1200 = .ok (.aload_n 0, 1) := by decide +kernel
theorem dL_law_1201 : decode cL_law 1201 = .ok (.iload 4, 2) := by decide +kernel
theorem dL_law_1203 : decode cL_law 1203 = .ok (.iconst 2, 1) := by decide +kernel
theorem dL_law_1204 : decode cL_law 1204 = .ok (.iadd, 1) := by decide +kernel
theorem dL_law_1205 : decode cL_law 1205 = .ok (.iaload, 1) := by decide +kernel
theorem dL_law_1206 : decode cL_law 1206 = .ok (.invokevirtual 137, 3) := by decide +kernel
theorem dL_law_1209 : decode cL_law 1209 = .ok (.aload_n 2, 1) := by decide +kernel
theorem dL_law_1210 : decode cL_law 1210 = .ok (.aload_n 0, 1) := by decide +kernel
theorem dL_law_1211 : decode cL_law 1211 = .ok (.iload 4, 2) := by decide +kernel
theorem dL_law_1213 : decode cL_law 1213 = .ok (.iconst 1, 1) := by decide +kernel
theorem dL_law_1214 : decode cL_law 1214 = .ok (.iadd, 1) := by decide +kernel
theorem dL_law_1215 : decode cL_law 1215 = .ok (.iaload, 1) := by decide +kernel
theorem dL_law_1216 : decode cL_law 1216 = .ok (.aload_n 0, 1) := by decide +kernel
theorem dL_law_1217 : decode cL_law 1217 = .ok (.iload 4, 2) := by decide +kernel
theorem dL_law_1219 : decode cL_law 1219 = .ok (.iconst 2, 1) := by decide +kernel
theorem dL_law_1220 : decode cL_law 1220 = .ok (.iadd, 1) := by decide +kernel
theorem dL_law_1221 : decode cL_law 1221 = .ok (.iaload, 1) := by decide +kernel
theorem dL_law_1222 : decode cL_law 1222 = .ok (.invokevirtual 140, 3) := by decide +kernel
theorem dL_law_1225 : decode cL_law 1225 = .ok (.if_icmp .eq 528, 3) := by decide +kernel
theorem dL_law_1228 : decode cL_law 1228 = .ok (.iconst 0, 1) := by decide +kernel
theorem dL_law_1229 : decode cL_law 1229 = .ok (.ireturn, 1) := by decide +kernel
theorem dL_law_1230 : decode cL_law 1230 = .ok (.aload_n 1, 1) := by decide +kernel
theorem dL_law_1231 : decode cL_law 1231 = .ok (.aload_n 0, 1) := by decide +kernel
theorem dL_law_1232 : decode cL_law 1232 = .ok (.iload 4, 2) := by decide +kernel
theorem dL_law_1234 : decode cL_law 1234 = .ok (.iconst 1, 1) := by decide +kernel
theorem dL_law_1235 : decode cL_law 1235 = .ok (.iadd, 1) := by decide +kernel
theorem dL_law_1236 : decode cL_law 1236 = .ok (.iaload, 1) := by decide +kernel
theorem dL_law_1237 : decode cL_law 1237 = .ok (.aload_n 0, 1) := by decide +kernel
theorem dL_law_1238 : decode cL_law 1238 = .ok (.iload 4, 2) := by decide +kernel
theorem dL_law_1240 : decode cL_law 1240 = .ok (.iconst 2, 1) := by decide +kernel
theorem dL_law_1241 : decode cL_law 1241 = .ok (.iadd, 1) := by decide +kernel
theorem dL_law_1242 : decode cL_law 1242 = .ok (.iaload, 1) := by decide +kernel
theorem dL_law_1243 : decode cL_law 1243 = .ok (.invokevirtual 141, 3) := by decide +kernel
theorem dL_law_1246 : decode cL_law 1246 = .ok (.aload_n 2, 1) := by decide +kernel
theorem dL_law_1247 : decode cL_law 1247 = .ok (.aload_n 0, 1) := by decide +kernel
theorem dL_law_1248 : decode cL_law 1248 = .ok (.iload 4, 2) := by decide +kernel
theorem dL_law_1250 : decode cL_law 1250 = .ok (.iconst 1, 1) := by decide +kernel
theorem dL_law_1251 : decode cL_law 1251 = .ok (.iadd, 1) := by decide +kernel
theorem dL_law_1252 : decode cL_law 1252 = .ok (.iaload, 1) := by decide +kernel
theorem dL_law_1253 : decode cL_law 1253 = .ok (.aload_n 0, 1) := by decide +kernel
theorem dL_law_1254 : decode cL_law 1254 = .ok (.iload 4, 2) := by decide +kernel
theorem dL_law_1256 : decode cL_law 1256 = .ok (.iconst 2, 1) := by decide +kernel
theorem dL_law_1257 : decode cL_law 1257 = .ok (.iadd, 1) := by decide +kernel
theorem dL_law_1258 : decode cL_law 1258 = .ok (.iaload, 1) := by decide +kernel
theorem dL_law_1259 : decode cL_law 1259 = .ok (.invokevirtual 144, 3) := by decide +kernel
theorem dL_law_1262 : decode cL_law 1262 = .ok (.if_icmp .eq 491, 3) := by decide +kernel
theorem dL_law_1265 : decode cL_law 1265 = .ok (.iconst 0, 1) := by decide +kernel
theorem dL_law_1266 : decode cL_law 1266 = .ok (.ireturn, 1) := by decide +kernel
theorem dL_law_1267 : decode cL_law 1267 = .ok (.aload_n 1, 1) := by decide +kernel
theorem dL_law_1268 : decode cL_law 1268 = .ok (.aload_n 0, 1) := by decide +kernel
theorem dL_law_1269 : decode cL_law 1269 = .ok (.iload 4, 2) := by decide +kernel
theorem dL_law_1271 : decode cL_law 1271 = .ok (.iconst 1, 1) := by decide +kernel
theorem dL_law_1272 : decode cL_law 1272 = .ok (.iadd, 1) := by decide +kernel
theorem dL_law_1273 : decode cL_law 1273 = .ok (.iaload, 1) := by decide +kernel
theorem dL_law_1274 : decode cL_law 1274 = .ok (.aload_n 0, 1) := by decide +kernel
theorem dL_law_1275 : decode cL_law 1275 = .ok (.iload 4, 2) := by decide +kernel
theorem dL_law_1277 : decode cL_law 1277 = .ok (.iconst 2, 1) := by decide +kernel
theorem dL_law_1278 : decode cL_law 1278 = .ok (.iadd, 1) := by decide +kernel
theorem dL_law_1279 : decode cL_law 1279 = .ok (.iaload, 1) := by decide +kernel
theorem dL_law_1280 : decode cL_law 1280 = .ok (.aload_n 0, 1) := by decide +kernel
theorem dL_law_1281 : decode cL_law 1281 = .ok (.iload 4, 2) := by decide +kernel
theorem dL_law_1283 : decode cL_law 1283 = .ok (.iconst 3, 1) := by decide +kernel
theorem dL_law_1284 : decode cL_law 1284 = .ok (.iadd, 1) := by decide +kernel
theorem dL_law_1285 : decode cL_law 1285 = .ok (.iaload, 1) := by decide +kernel
theorem dL_law_1286 : decode cL_law 1286 = .ok (.aload_n 0, 1) := by decide +kernel
theorem dL_law_1287 : decode cL_law 1287 = .ok (.iload 4, 2) := by decide +kernel
theorem dL_law_1289 : decode cL_law 1289 = .ok (.iconst 4, 1) := by decide +kernel
theorem dL_law_1290 : decode cL_law 1290 = .ok (.iadd, 1) := by decide +kernel
theorem dL_law_1291 : decode cL_law 1291 = .ok (.iaload, 1) := by decide +kernel
theorem dL_law_1292 : decode cL_law 1292 = .ok (.aload_n 0, 1) := by decide +kernel
theorem dL_law_1293 : decode cL_law 1293 = .ok (.iload 4, 2) := by decide +kernel
theorem dL_law_1295 : decode cL_law 1295 = .ok (.iconst 5, 1) := by decide +kernel
theorem dL_law_1296 : decode cL_law 1296 = .ok (.iadd, 1) := by decide +kernel
theorem dL_law_1297 : decode cL_law 1297 = .ok (.iaload, 1) := by decide +kernel
theorem dL_law_1298 : decode cL_law 1298 = .ok (.invokevirtual 145, 3) := by decide +kernel
theorem dL_law_1301 : decode cL_law 1301 = .ok (.aload_n 2, 1) := by decide +kernel
theorem dL_law_1302 : decode cL_law 1302 = .ok (.aload_n 0, 1) := by decide +kernel
theorem dL_law_1303 : decode cL_law 1303 = .ok (.iload 4, 2) := by decide +kernel
theorem dL_law_1305 : decode cL_law 1305 = .ok (.iconst 1, 1) := by decide +kernel
theorem dL_law_1306 : decode cL_law 1306 = .ok (.iadd, 1) := by decide +kernel
theorem dL_law_1307 : decode cL_law 1307 = .ok (.iaload, 1) := by decide +kernel
theorem dL_law_1308 : decode cL_law 1308 = .ok (.aload_n 0, 1) := by decide +kernel
theorem dL_law_1309 : decode cL_law 1309 = .ok (.iload 4, 2) := by decide +kernel
theorem dL_law_1311 : decode cL_law 1311 = .ok (.iconst 2, 1) := by decide +kernel
theorem dL_law_1312 : decode cL_law 1312 = .ok (.iadd, 1) := by decide +kernel
theorem dL_law_1313 : decode cL_law 1313 = .ok (.iaload, 1) := by decide +kernel
theorem dL_law_1314 : decode cL_law 1314 = .ok (.aload_n 0, 1) := by decide +kernel
theorem dL_law_1315 : decode cL_law 1315 = .ok (.iload 4, 2) := by decide +kernel
theorem dL_law_1317 : decode cL_law 1317 = .ok (.iconst 3, 1) := by decide +kernel
theorem dL_law_1318 : decode cL_law 1318 = .ok (.iadd, 1) := by decide +kernel
theorem dL_law_1319 : decode cL_law 1319 = .ok (.iaload, 1) := by decide +kernel
theorem dL_law_1320 : decode cL_law 1320 = .ok (.aload_n 0, 1) := by decide +kernel
theorem dL_law_1321 : decode cL_law 1321 = .ok (.iload 4, 2) := by decide +kernel
theorem dL_law_1323 : decode cL_law 1323 = .ok (.iconst 4, 1) := by decide +kernel
theorem dL_law_1324 : decode cL_law 1324 = .ok (.iadd, 1) := by decide +kernel
theorem dL_law_1325 : decode cL_law 1325 = .ok (.iaload, 1) := by decide +kernel
theorem dL_law_1326 : decode cL_law 1326 = .ok (.aload_n 0, 1) := by decide +kernel
theorem dL_law_1327 : decode cL_law 1327 = .ok (.iload 4, 2) := by decide +kernel
theorem dL_law_1329 : decode cL_law 1329 = .ok (.iconst 5, 1) := by decide +kernel
theorem dL_law_1330 : decode cL_law 1330 = .ok (.iadd, 1) := by decide +kernel
theorem dL_law_1331 : decode cL_law 1331 = .ok (.iaload, 1) := by decide +kernel
theorem dL_law_1332 : decode cL_law 1332 = .ok (.invokevirtual 148, 3) := by decide +kernel
theorem dL_law_1335 : decode cL_law 1335 = .ok (.if_icmp .eq 418, 3) := by decide +kernel
theorem dL_law_1338 : decode cL_law 1338 = .ok (.iconst 0, 1) := by decide +kernel
theorem dL_law_1339 : decode cL_law 1339 = .ok (.ireturn, 1) := by decide +kernel
theorem dL_law_1340 : decode cL_law 1340 = .ok (.aload_n 1, 1) := by decide +kernel
theorem dL_law_1341 : decode cL_law 1341 = .ok (.aload_n 0, 1) := by decide +kernel
theorem dL_law_1342 : decode cL_law 1342 = .ok (.iload 4, 2) := by decide +kernel
theorem dL_law_1344 : decode cL_law 1344 = .ok (.iconst 1, 1) := by decide +kernel
theorem dL_law_1345 : decode cL_law 1345 = .ok (.iadd, 1) := by decide +kernel
theorem dL_law_1346 : decode cL_law 1346 = .ok (.iaload, 1) := by decide +kernel
theorem dL_law_1347 : decode cL_law 1347 = .ok (.aload_n 0, 1) := by decide +kernel
theorem dL_law_1348 : decode cL_law 1348 = .ok (.iload 4, 2) := by decide +kernel
theorem dL_law_1350 : decode cL_law 1350 = .ok (.iconst 2, 1) := by decide +kernel
theorem dL_law_1351 : decode cL_law 1351 = .ok (.iadd, 1) := by decide +kernel
theorem dL_law_1352 : decode cL_law 1352 = .ok (.iaload, 1) := by decide +kernel
theorem dL_law_1353 : decode cL_law 1353 = .ok (.invokevirtual 149, 3) := by decide +kernel
theorem dL_law_1356 : decode cL_law 1356 = .ok (.aload_n 2, 1) := by decide +kernel
theorem dL_law_1357 : decode cL_law 1357 = .ok (.aload_n 0, 1) := by decide +kernel
theorem dL_law_1358 : decode cL_law 1358 = .ok (.iload 4, 2) := by decide +kernel
theorem dL_law_1360 : decode cL_law 1360 = .ok (.iconst 1, 1) := by decide +kernel
theorem dL_law_1361 : decode cL_law 1361 = .ok (.iadd, 1) := by decide +kernel
theorem dL_law_1362 : decode cL_law 1362 = .ok (.iaload, 1) := by decide +kernel
theorem dL_law_1363 : decode cL_law 1363 = .ok (.aload_n 0, 1) := by decide +kernel
theorem dL_law_1364 : decode cL_law 1364 = .ok (.iload 4, 2) := by decide +kernel
theorem dL_law_1366 : decode cL_law 1366 = .ok (.iconst 2, 1) := by decide +kernel
theorem dL_law_1367 : decode cL_law 1367 = .ok (.iadd, 1) := by decide +kernel
theorem dL_law_1368 : decode cL_law 1368 = .ok (.iaload, 1) := by decide +kernel
theorem dL_law_1369 : decode cL_law 1369 = .ok (.invokevirtual 152, 3) := by decide +kernel
theorem dL_law_1372 : decode cL_law 1372 = .ok (.if_icmp .eq 381, 3) := by decide +kernel
theorem dL_law_1375 : decode cL_law 1375 = .ok (.iconst 0, 1) := by decide +kernel
theorem dL_law_1376 : decode cL_law 1376 = .ok (.ireturn, 1) := by decide +kernel
theorem dL_law_1377 : decode cL_law 1377 = .ok (.aload_n 1, 1) := by decide +kernel
theorem dL_law_1378 : decode cL_law 1378 = .ok (.invokevirtual 153, 3) := by decide +kernel
theorem dL_law_1381 : decode cL_law 1381 = .ok (.aload_n 2, 1) := by decide +kernel
theorem dL_law_1382 : decode cL_law 1382 = .ok (.invokevirtual 156, 3) := by decide +kernel
theorem dL_law_1385 : decode cL_law 1385 = .ok (.if_icmp .eq 368, 3) := by decide +kernel
theorem dL_law_1388 : decode cL_law 1388 = .ok (.iconst 0, 1) := by decide +kernel
theorem dL_law_1389 : decode cL_law 1389 = .ok (.ireturn, 1) := by decide +kernel
theorem dL_law_1390 : decode cL_law 1390 = .ok (.aload_n 1, 1) := by decide +kernel
theorem dL_law_1391 : decode cL_law 1391 = .ok (.aload_n 0, 1) := by decide +kernel
theorem dL_law_1392 : decode cL_law 1392 = .ok (.iload 4, 2) := by decide +kernel
theorem dL_law_1394 : decode cL_law 1394 = .ok (.iconst 1, 1) := by decide +kernel
theorem dL_law_1395 : decode cL_law 1395 = .ok (.iadd, 1) := by decide +kernel
theorem dL_law_1396 : decode cL_law 1396 = .ok (.iaload, 1) := by decide +kernel
theorem dL_law_1397 : decode cL_law 1397 = .ok (.invokevirtual 157, 3) := by decide +kernel
theorem dL_law_1400 : decode cL_law 1400 = .ok (.aload_n 2, 1) := by decide +kernel
theorem dL_law_1401 : decode cL_law 1401 = .ok (.aload_n 0, 1) := by decide +kernel
theorem dL_law_1402 : decode cL_law 1402 = .ok (.iload 4, 2) := by decide +kernel
theorem dL_law_1404 : decode cL_law 1404 = .ok (.iconst 1, 1) := by decide +kernel
theorem dL_law_1405 : decode cL_law 1405 = .ok (.iadd, 1) := by decide +kernel
theorem dL_law_1406 : decode cL_law 1406 = .ok (.iaload, 1) := by decide +kernel
theorem dL_law_1407 : decode cL_law 1407 = .ok (.invokevirtual 160, 3) := by decide +kernel
theorem dL_law_1410 : decode cL_law 1410 = .ok (.if_icmp .eq 343, 3) := by decide +kernel
theorem dL_law_1413 : decode cL_law 1413 = .ok (.iconst 0, 1) := by decide +kernel
theorem dL_law_1414 : decode cL_law 1414 = .ok (.ireturn, 1) := by decide +kernel
theorem dL_law_1415 : decode cL_law 1415 = .ok (.aload_n 1, 1) := by decide +kernel
theorem dL_law_1416 : decode cL_law 1416 = .ok (.invokevirtual 161, 3) := by decide +kernel
theorem dL_law_1419 : decode cL_law 1419 = .ok (.aload_n 2, 1) := by decide +kernel
theorem dL_law_1420 : decode cL_law 1420 = .ok (.invokevirtual 164, 3) := by decide +kernel
theorem dL_law_1423 : decode cL_law 1423 = .ok (.if_icmp .eq 330, 3) := by decide +kernel
theorem dL_law_1426 : decode cL_law 1426 = .ok (.iconst 0, 1) := by decide +kernel
theorem dL_law_1427 : decode cL_law 1427 = .ok (.ireturn, 1) := by decide +kernel
theorem dL_law_1428 : decode cL_law 1428 = .ok (.aload_n 1, 1) := by decide +kernel
theorem dL_law_1429 : decode cL_law 1429 = .ok (.aload_n 0, 1) := by decide +kernel
theorem dL_law_1430 : decode cL_law 1430 = .ok (.iload 4, 2) := by decide +kernel
theorem dL_law_1432 : decode cL_law 1432 = .ok (.iconst 1, 1) := by decide +kernel
theorem dL_law_1433 : decode cL_law 1433 = .ok (.iadd, 1) := by decide +kernel
theorem dL_law_1434 : decode cL_law 1434 = .ok (.iaload, 1) := by decide +kernel
theorem dL_law_1435 : decode cL_law 1435 = .ok (.invokevirtual 165, 3) := by decide +kernel
theorem dL_law_1438 : decode cL_law 1438 = .ok (.aload_n 2, 1) := by decide +kernel
theorem dL_law_1439 : decode cL_law 1439 = .ok (.aload_n 0, 1) := by decide +kernel
theorem dL_law_1440 : decode cL_law 1440 = .ok (.iload 4, 2) := by decide +kernel
theorem dL_law_1442 : decode cL_law 1442 = .ok (.iconst 1, 1) := by decide +kernel
theorem dL_law_1443 : decode cL_law 1443 = .ok (.iadd, 1) := by decide +kernel
theorem dL_law_1444 : decode cL_law 1444 = .ok (.iaload, 1) := by decide +kernel
theorem dL_law_1445 : decode cL_law 1445 = .ok (.invokevirtual 168, 3) := by decide +kernel
theorem dL_law_1448 : decode cL_law 1448 = .ok (.if_icmp .eq 305, 3) := by decide +kernel
theorem dL_law_1451 : decode cL_law 1451 = .ok (.iconst 0, 1) := by decide +kernel
theorem dL_law_1452 : decode cL_law 1452 = .ok (.ireturn, 1) := by decide +kernel
theorem dL_law_1453 : decode cL_law 1453 = .ok (.aload_n 1, 1) := by decide +kernel
theorem dL_law_1454 : decode cL_law 1454 = .ok (.invokevirtual 169, 3) := by decide +kernel
theorem dL_law_1457 : decode cL_law 1457 = .ok (.aload_n 2, 1) := by decide +kernel
theorem dL_law_1458 : decode cL_law 1458 = .ok (.invokevirtual 172, 3) := by decide +kernel
theorem dL_law_1461 : decode cL_law 1461 = .ok (.if_icmp .eq 292, 3) := by decide +kernel
theorem dL_law_1464 : decode cL_law 1464 = .ok (.iconst 0, 1) := by decide +kernel
theorem dL_law_1465 : decode cL_law 1465 = .ok (.ireturn, 1) := by decide +kernel
theorem dL_law_1466 : decode cL_law 1466 = .ok (.aload_n 1, 1) := by decide +kernel
theorem dL_law_1467 : decode cL_law 1467 = .ok (.aload_n 0, 1) := by decide +kernel
theorem dL_law_1468 : decode cL_law 1468 = .ok (.iload 4, 2) := by decide +kernel
theorem dL_law_1470 : decode cL_law 1470 = .ok (.iconst 1, 1) := by decide +kernel
theorem dL_law_1471 : decode cL_law 1471 = .ok (.iadd, 1) := by decide +kernel
theorem dL_law_1472 : decode cL_law 1472 = .ok (.iaload, 1) := by decide +kernel
theorem dL_law_1473 : decode cL_law 1473 = .ok (.invokevirtual 173, 3) := by decide +kernel
theorem dL_law_1476 : decode cL_law 1476 = .ok (.aload_n 2, 1) := by decide +kernel
theorem dL_law_1477 : decode cL_law 1477 = .ok (.aload_n 0, 1) := by decide +kernel
theorem dL_law_1478 : decode cL_law 1478 = .ok (.iload 4, 2) := by decide +kernel
theorem dL_law_1480 : decode cL_law 1480 = .ok (.iconst 1, 1) := by decide +kernel
theorem dL_law_1481 : decode cL_law 1481 = .ok (.iadd, 1) := by decide +kernel
theorem dL_law_1482 : decode cL_law 1482 = .ok (.iaload, 1) := by decide +kernel
theorem dL_law_1483 : decode cL_law 1483 = .ok (.invokevirtual 176, 3) := by decide +kernel
theorem dL_law_1486 : decode cL_law 1486 = .ok (.if_icmp .eq 267, 3) := by decide +kernel
theorem dL_law_1489 : decode cL_law 1489 = .ok (.iconst 0, 1) := by decide +kernel
theorem dL_law_1490 : decode cL_law 1490 = .ok (.ireturn, 1) := by decide +kernel
theorem dL_law_1491 : decode cL_law 1491 = .ok (.aload_n 1, 1) := by decide +kernel
theorem dL_law_1492 : decode cL_law 1492 = .ok (.invokevirtual 177, 3) := by decide +kernel
theorem dL_law_1495 : decode cL_law 1495 = .ok (.aload_n 2, 1) := by decide +kernel
theorem dL_law_1496 : decode cL_law 1496 = .ok (.invokevirtual 180, 3) := by decide +kernel
theorem dL_law_1499 : decode cL_law 1499 = .ok (.if_icmp .eq 254, 3) := by decide +kernel
theorem dL_law_1502 : decode cL_law 1502 = .ok (.iconst 0, 1) := by decide +kernel
theorem dL_law_1503 : decode cL_law 1503 = .ok (.ireturn, 1) := by decide +kernel
theorem dL_law_1504 : decode cL_law 1504 = .ok (.aload_n 1, 1) := by decide +kernel
theorem dL_law_1505 : decode cL_law 1505 = .ok (.aload_n 0, 1) := by decide +kernel
theorem dL_law_1506 : decode cL_law 1506 = .ok (.iload 4, 2) := by decide +kernel
theorem dL_law_1508 : decode cL_law 1508 = .ok (.iconst 1, 1) := by decide +kernel
theorem dL_law_1509 : decode cL_law 1509 = .ok (.iadd, 1) := by decide +kernel
theorem dL_law_1510 : decode cL_law 1510 = .ok (.iaload, 1) := by decide +kernel
theorem dL_law_1511 : decode cL_law 1511 = .ok (.invokevirtual 181, 3) := by decide +kernel
theorem dL_law_1514 : decode cL_law 1514 = .ok (.aload_n 2, 1) := by decide +kernel
theorem dL_law_1515 : decode cL_law 1515 = .ok (.aload_n 0, 1) := by decide +kernel
theorem dL_law_1516 : decode cL_law 1516 = .ok (.iload 4, 2) := by decide +kernel
theorem dL_law_1518 : decode cL_law 1518 = .ok (.iconst 1, 1) := by decide +kernel
theorem dL_law_1519 : decode cL_law 1519 = .ok (.iadd, 1) := by decide +kernel
theorem dL_law_1520 : decode cL_law 1520 = .ok (.iaload, 1) := by decide +kernel
theorem dL_law_1521 : decode cL_law 1521 = .ok (.invokevirtual 184, 3) := by decide +kernel
theorem dL_law_1524 : decode cL_law 1524 = .ok (.if_icmp .eq 229, 3) := by decide +kernel
theorem dL_law_1527 : decode cL_law 1527 = .ok (.iconst 0, 1) := by decide +kernel
theorem dL_law_1528 : decode cL_law 1528 = .ok (.ireturn, 1) := by decide +kernel
theorem dL_law_1529 : decode cL_law 1529 = .ok (.aload_n 1, 1) := by decide +kernel
theorem dL_law_1530 : decode cL_law 1530 = .ok (.aload_n 0, 1) := by decide +kernel
theorem dL_law_1531 : decode cL_law 1531 = .ok (.iload 4, 2) := by decide +kernel
theorem dL_law_1533 : decode cL_law 1533 = .ok (.iconst 1, 1) := by decide +kernel
theorem dL_law_1534 : decode cL_law 1534 = .ok (.iadd, 1) := by decide +kernel
theorem dL_law_1535 : decode cL_law 1535 = .ok (.iaload, 1) := by decide +kernel
theorem dL_law_1536 : decode cL_law 1536 = .ok (.aload_n 0, 1) := by decide +kernel
theorem dL_law_1537 : decode cL_law 1537 = .ok (.iload 4, 2) := by decide +kernel
theorem dL_law_1539 : decode cL_law 1539 = .ok (.iconst 2, 1) := by decide +kernel
theorem dL_law_1540 : decode cL_law 1540 = .ok (.iadd, 1) := by decide +kernel
theorem dL_law_1541 : decode cL_law 1541 = .ok (.iaload, 1) := by decide +kernel
theorem dL_law_1542 : decode cL_law 1542 = .ok (.invokevirtual 185, 3) := by decide +kernel
theorem dL_law_1545 : decode cL_law 1545 = .ok (.aload_n 2, 1) := by decide +kernel
theorem dL_law_1546 : decode cL_law 1546 = .ok (.aload_n 0, 1) := by decide +kernel
theorem dL_law_1547 : decode cL_law 1547 = .ok (.iload 4, 2) := by decide +kernel
theorem dL_law_1549 : decode cL_law 1549 = .ok (.iconst 1, 1) := by decide +kernel
theorem dL_law_1550 : decode cL_law 1550 = .ok (.iadd, 1) := by decide +kernel
theorem dL_law_1551 : decode cL_law 1551 = .ok (.iaload, 1) := by decide +kernel
theorem dL_law_1552 : decode cL_law 1552 = .ok (.aload_n 0, 1) := by decide +kernel
theorem dL_law_1553 : decode cL_law 1553 = .ok (.iload 4, 2) := by decide +kernel
theorem dL_law_1555 : decode cL_law 1555 = .ok (.iconst 2, 1) := by decide +kernel
theorem dL_law_1556 : decode cL_law 1556 = .ok (.iadd, 1) := by decide +kernel
theorem dL_law_1557 : decode cL_law 1557 = .ok (.iaload, 1) := by decide +kernel
theorem dL_law_1558 : decode cL_law 1558 = .ok (.invokevirtual 188, 3) := by decide +kernel
theorem dL_law_1561 : decode cL_law 1561 = .ok (.if_icmp .eq 192, 3) := by decide +kernel
theorem dL_law_1564 : decode cL_law 1564 = .ok (.iconst 0, 1) := by decide +kernel
theorem dL_law_1565 : decode cL_law 1565 = .ok (.ireturn, 1) := by decide +kernel
theorem dL_law_1566 : decode cL_law 1566 = .ok (.aload_n 1, 1) := by decide +kernel
theorem dL_law_1567 : decode cL_law 1567 = .ok (.aload_n 0, 1) := by decide +kernel
theorem dL_law_1568 : decode cL_law 1568 = .ok (.iload 4, 2) := by decide +kernel
theorem dL_law_1570 : decode cL_law 1570 = .ok (.iconst 1, 1) := by decide +kernel
theorem dL_law_1571 : decode cL_law 1571 = .ok (.iadd, 1) := by decide +kernel
theorem dL_law_1572 : decode cL_law 1572 = .ok (.iaload, 1) := by decide +kernel
theorem dL_law_1573 : decode cL_law 1573 = .ok (.aload_n 0, 1) := by decide +kernel
theorem dL_law_1574 : decode cL_law 1574 = .ok (.iload 4, 2) := by decide +kernel
theorem dL_law_1576 : decode cL_law 1576 = .ok (.iconst 2, 1) := by decide +kernel
theorem dL_law_1577 : decode cL_law 1577 = .ok (.iadd, 1) := by decide +kernel
theorem dL_law_1578 : decode cL_law 1578 = .ok (.iaload, 1) := by decide +kernel
theorem dL_law_1579 : decode cL_law 1579 = .ok (.aload_n 0, 1) := by decide +kernel
theorem dL_law_1580 : decode cL_law 1580 = .ok (.iload 4, 2) := by decide +kernel
theorem dL_law_1582 : decode cL_law 1582 = .ok (.iconst 3, 1) := by decide +kernel
theorem dL_law_1583 : decode cL_law 1583 = .ok (.iadd, 1) := by decide +kernel
theorem dL_law_1584 : decode cL_law 1584 = .ok (.iaload, 1) := by decide +kernel
theorem dL_law_1585 : decode cL_law 1585 = .ok (.invokevirtual 189, 3) := by decide +kernel
theorem dL_law_1588 : decode cL_law 1588 = .ok (.aload_n 2, 1) := by decide +kernel
theorem dL_law_1589 : decode cL_law 1589 = .ok (.aload_n 0, 1) := by decide +kernel
theorem dL_law_1590 : decode cL_law 1590 = .ok (.iload 4, 2) := by decide +kernel
theorem dL_law_1592 : decode cL_law 1592 = .ok (.iconst 1, 1) := by decide +kernel
theorem dL_law_1593 : decode cL_law 1593 = .ok (.iadd, 1) := by decide +kernel
theorem dL_law_1594 : decode cL_law 1594 = .ok (.iaload, 1) := by decide +kernel
theorem dL_law_1595 : decode cL_law 1595 = .ok (.aload_n 0, 1) := by decide +kernel
theorem dL_law_1596 : decode cL_law 1596 = .ok (.iload 4, 2) := by decide +kernel
theorem dL_law_1598 : decode cL_law 1598 = .ok (.iconst 2, 1) := by decide +kernel
theorem dL_law_1599 : decode cL_law 1599 = .ok (.iadd, 1) := by decide +kernel
theorem dL_law_1600 : decode cL_law 1600 = .ok (.iaload, 1) := by decide +kernel
theorem dL_law_1601 : decode cL_law 1601 = .ok (.aload_n 0, 1) := by decide +kernel
theorem dL_law_1602 : decode cL_law 1602 = .ok (.iload 4, 2) := by decide +kernel
theorem dL_law_1604 : decode cL_law 1604 = .ok (.iconst 3, 1) := by decide +kernel
theorem dL_law_1605 : decode cL_law 1605 = .ok (.iadd, 1) := by decide +kernel
theorem dL_law_1606 : decode cL_law 1606 = .ok (.iaload, 1) := by decide +kernel
theorem dL_law_1607 : decode cL_law 1607 = .ok (.invokevirtual 192, 3) := by decide +kernel
theorem dL_law_1610 : decode cL_law 1610 = .ok (.if_icmp .eq 143, 3) := by decide +kernel
theorem dL_law_1613 : decode cL_law 1613 = .ok (.iconst 0, 1) := by decide +kernel
theorem dL_law_1614 : decode cL_law 1614 = .ok (.ireturn, 1) := by decide +kernel
theorem dL_law_1615 : decode cL_law 1615 = .ok (.aload_n 1, 1) := by decide +kernel
theorem dL_law_1616 : decode cL_law 1616 = .ok (.aload_n 0, 1) := by decide +kernel
theorem dL_law_1617 : decode cL_law 1617 = .ok (.iload 4, 2) := by decide +kernel
theorem dL_law_1619 : decode cL_law 1619 = .ok (.iconst 1, 1) := by decide +kernel
theorem dL_law_1620 : decode cL_law 1620 = .ok (.iadd, 1) := by decide +kernel
theorem dL_law_1621 : decode cL_law 1621 = .ok (.iaload, 1) := by decide +kernel
theorem dL_law_1622 : decode cL_law 1622 = .ok (.aload_n 0, 1) := by decide +kernel
theorem dL_law_1623 : decode cL_law 1623 = .ok (.iload 4, 2) := by decide +kernel
theorem dL_law_1625 : decode cL_law 1625 = .ok (.iconst 2, 1) := by decide +kernel
theorem dL_law_1626 : decode cL_law 1626 = .ok (.iadd, 1) := by decide +kernel
theorem dL_law_1627 : decode cL_law 1627 = .ok (.iaload, 1) := by decide +kernel
theorem dL_law_1628 : decode cL_law 1628 = .ok (.invokevirtual 193, 3) := by decide +kernel
theorem dL_law_1631 : decode cL_law 1631 = .ok (.aload_n 2, 1) := by decide +kernel
theorem dL_law_1632 : decode cL_law 1632 = .ok (.aload_n 0, 1) := by decide +kernel
theorem dL_law_1633 : decode cL_law 1633 = .ok (.iload 4, 2) := by decide +kernel
theorem dL_law_1635 : decode cL_law 1635 = .ok (.iconst 1, 1) := by decide +kernel
theorem dL_law_1636 : decode cL_law 1636 = .ok (.iadd, 1) := by decide +kernel
theorem dL_law_1637 : decode cL_law 1637 = .ok (.iaload, 1) := by decide +kernel
theorem dL_law_1638 : decode cL_law 1638 = .ok (.aload_n 0, 1) := by decide +kernel
theorem dL_law_1639 : decode cL_law 1639 = .ok (.iload 4, 2) := by decide +kernel
theorem dL_law_1641 : decode cL_law 1641 = .ok (.iconst 2, 1) := by decide +kernel
theorem dL_law_1642 : decode cL_law 1642 = .ok (.iadd, 1) := by decide +kernel
theorem dL_law_1643 : decode cL_law 1643 = .ok (.iaload, 1) := by decide +kernel
theorem dL_law_1644 : decode cL_law 1644 = .ok (.invokevirtual 196, 3) := by decide +kernel
theorem dL_law_1647 : decode cL_law 1647 = .ok (.if_icmp .eq 106, 3) := by decide +kernel
theorem dL_law_1650 : decode cL_law 1650 = .ok (.iconst 0, 1) := by decide +kernel
theorem dL_law_1651 : decode cL_law 1651 = .ok (.ireturn, 1) := by decide +kernel
theorem dL_law_1652 : decode cL_law 1652 = .ok (.aload_n 1, 1) := by decide +kernel
theorem dL_law_1653 : decode cL_law 1653 = .ok (.aload_n 0, 1) := by decide +kernel
theorem dL_law_1654 : decode cL_law 1654 = .ok (.iload 4, 2) := by decide +kernel
theorem dL_law_1656 : decode cL_law 1656 = .ok (.iconst 1, 1) := by decide +kernel
theorem dL_law_1657 : decode cL_law 1657 = .ok (.iadd, 1) := by decide +kernel
theorem dL_law_1658 : decode cL_law 1658 = .ok (.iaload, 1) := by decide +kernel
theorem dL_law_1659 : decode cL_law 1659 = .ok (.invokevirtual 197, 3) := by decide +kernel
theorem dL_law_1662 : decode cL_law 1662 = .ok (.aload_n 2, 1) := by decide +kernel
theorem dL_law_1663 : decode cL_law 1663 = .ok (.aload_n 0, 1) := by decide +kernel
theorem dL_law_1664 : decode cL_law 1664 = .ok (.iload 4, 2) := by decide +kernel
theorem dL_law_1666 : decode cL_law 1666 = .ok (.iconst 1, 1) := by decide +kernel
theorem dL_law_1667 : decode cL_law 1667 = .ok (.iadd, 1) := by decide +kernel
theorem dL_law_1668 : decode cL_law 1668 = .ok (.iaload, 1) := by decide +kernel
theorem dL_law_1669 : decode cL_law 1669 = .ok (.invokevirtual 200, 3) := by decide +kernel
theorem dL_law_1672 : decode cL_law 1672 = .ok (.if_icmp .eq 81, 3) := by decide +kernel
theorem dL_law_1675 : decode cL_law 1675 = .ok (.iconst 0, 1) := by decide +kernel
theorem dL_law_1676 : decode cL_law 1676 = .ok (.ireturn, 1) := by decide +kernel
theorem dL_law_1677 : decode cL_law 1677 = .ok (.aload_n 1, 1) := by decide +kernel
theorem dL_law_1678 : decode cL_law 1678 = .ok (.aload_n 0, 1) := by decide +kernel
theorem dL_law_1679 : decode cL_law 1679 = .ok (.iload 4, 2) := by decide +kernel
theorem dL_law_1681 : decode cL_law 1681 = .ok (.iconst 1, 1) := by decide +kernel
theorem dL_law_1682 : decode cL_law 1682 = .ok (.iadd, 1) := by decide +kernel
theorem dL_law_1683 : decode cL_law 1683 = .ok (.iaload, 1) := by decide +kernel
theorem dL_law_1684 : decode cL_law 1684 = .ok (.invokevirtual 201, 3) := by decide +kernel
theorem dL_law_1687 : decode cL_law 1687 = .ok (.aload_n 2, 1) := by decide +kernel
theorem dL_law_1688 : decode cL_law 1688 = .ok (.aload_n 0, 1) := by decide +kernel
theorem dL_law_1689 : decode cL_law 1689 = .ok (.iload 4, 2) := by decide +kernel
theorem dL_law_1691 : decode cL_law 1691 = .ok (.iconst 1, 1) := by decide +kernel
theorem dL_law_1692 : decode cL_law 1692 = .ok (.iadd, 1) := by decide +kernel
theorem dL_law_1693 : decode cL_law 1693 = .ok (.iaload, 1) := by decide +kernel
theorem dL_law_1694 : decode cL_law 1694 = .ok (.invokevirtual 204, 3) := by decide +kernel
theorem dL_law_1697 : decode cL_law 1697 = .ok (.if_icmp .eq 56, 3) := by decide +kernel
theorem dL_law_1700 : decode cL_law 1700 = .ok (.iconst 0, 1) := by decide +kernel
theorem dL_law_1701 : decode cL_law 1701 = .ok (.ireturn, 1) := by decide +kernel
theorem dL_law_1702 : decode cL_law 1702 = .ok (.aload_n 1, 1) := by decide +kernel
theorem dL_law_1703 : decode cL_law 1703 = .ok (.invokevirtual 205, 3) := by decide +kernel
theorem dL_law_1706 : decode cL_law 1706 = .ok (.aload_n 2, 1) := by decide +kernel
theorem dL_law_1707 : decode cL_law 1707 = .ok (.invokevirtual 208, 3) := by decide +kernel
theorem dL_law_1710 : decode cL_law 1710 = .ok (.if_icmp .eq 43, 3) := by decide +kernel
theorem dL_law_1713 : decode cL_law 1713 = .ok (.iconst 0, 1) := by decide +kernel
theorem dL_law_1714 : decode cL_law 1714 = .ok (.ireturn, 1) := by decide +kernel
theorem dL_law_1715 : decode cL_law 1715 = .ok (.aload_n 1, 1) := by decide +kernel
theorem dL_law_1716 : decode cL_law 1716 = .ok (.invokevirtual 209, 3) := by decide +kernel
theorem dL_law_1719 : decode cL_law 1719 = .ok (.aload_n 2, 1) := by decide +kernel
theorem dL_law_1720 : decode cL_law 1720 = .ok (.invokevirtual 212, 3) := by decide +kernel
theorem dL_law_1723 : decode cL_law 1723 = .ok (.if_icmp .eq 30, 3) := by decide +kernel
theorem dL_law_1726 : decode cL_law 1726 = .ok (.iconst 0, 1) := by decide +kernel
theorem dL_law_1727 : decode cL_law 1727 = .ok (.ireturn, 1) := by decide +kernel
theorem dL_law_1728 : decode cL_law 1728 = .ok (.aload_n 1, 1) := by decide +kernel
theorem dL_law_1729 : decode cL_law 1729 = .ok (.aload_n 0, 1) := by decide +kernel
theorem dL_law_1730 : decode cL_law 1730 = .ok (.iload 4, 2) := by decide +kernel
theorem dL_law_1732 : decode cL_law 1732 = .ok (.iconst 1, 1) := by decide +kernel
theorem dL_law_1733 : decode cL_law 1733 = .ok (.iadd, 1) := by decide +kernel
theorem dL_law_1734 : decode cL_law 1734 = .ok (.iaload, 1) := by decide +kernel
theorem dL_law_1735 : decode cL_law 1735 = .ok (.invokevirtual 213, 3) := by decide +kernel
theorem dL_law_1738 : decode cL_law 1738 = .ok (.aload_n 2, 1) := by decide +kernel
theorem dL_law_1739 : decode cL_law 1739 = .ok (.aload_n 0, 1) := by decide +kernel
theorem dL_law_1740 : decode cL_law 1740 = .ok (.iload 4, 2) := by decide +kernel
theorem dL_law_1742 : decode cL_law 1742 = .ok (.iconst 1, 1) := by decide +kernel
theorem dL_law_1743 : decode cL_law 1743 = .ok (.iadd, 1) := by decide +kernel
theorem dL_law_1744 : decode cL_law 1744 = .ok (.iaload, 1) := by decide +kernel
theorem dL_law_1745 : decode cL_law 1745 = .ok (.invokevirtual 216, 3) := by decide +kernel
theorem dL_law_1748 : decode cL_law 1748 = .ok (.if_icmp .eq 5, 3) := by decide +kernel
theorem dL_law_1751 : decode cL_law 1751 = .ok (.iconst 0, 1) := by decide +kernel
theorem dL_law_1752 : decode cL_law 1752 = .ok (.ireturn, 1) := by decide +kernel
theorem dL_law_1753 : decode cL_law 1753 = .ok (.iinc 4 6, 3) := by decide +kernel
theorem dL_law_1756 : decode cL_law 1756 = .ok (.goto (-1733), 3) := by decide +kernel
theorem dL_law_1759 : decode cL_law 1759 = .ok (.iconst 1, 1) := by decide +kernel
theorem dL_law_1760 : decode cL_law 1760 = .ok (.ireturn, 1) := by decide +kernel
def opB0 (Inv : Nat → gM → gM → Prop) : Prop := ∀ (c : Nat) (σX σM : gM) (a1 : Int32) (a2 : Int32) (a3 : Int32) (a4 : Int32) (a5 : Int32), c < 512 → Inv c σX σM → ∃ (r : Int32) (τX τM : gM), fX11_feed fl a1 a2 a3 a4 a5 σX = some (r, τX) ∧ fX12_feed fl a1 a2 a3 a4 a5 σM = some (r, τM) ∧ Inv (c + 1) τX τM
def opB1 (Inv : Nat → gM → gM → Prop) : Prop := ∀ (c : Nat) (σX σM : gM) (a1 : Int32), c < 512 → Inv c σX σM → ∃ (r : Int32) (τX τM : gM), fX11_end a1 σX = some (r, τX) ∧ fX12_end a1 σM = some (r, τM) ∧ Inv (c + 1) τX τM
def opB2 (Inv : Nat → gM → gM → Prop) : Prop := ∀ (c : Nat) (σX σM : gM) (a1 : Int32), c < 512 → Inv c σX σM → ∃ (r : Int32) (τX τM : gM), fX11_fault fl a1 σX = some (r, τX) ∧ fX12_fault fl a1 σM = some (r, τM) ∧ Inv (c + 1) τX τM
def opB3 (Inv : Nat → gM → gM → Prop) : Prop := ∀ (c : Nat) (σX σM : gM) (a1 : Int32), c < 512 → Inv c σX σM → ∃ (r : Int32) (τX τM : gM), fX11_text fl a1 σX = some (r, τX) ∧ fX12_text fl a1 σM = some (r, τM) ∧ Inv (c + 1) τX τM
def opB4 (Inv : Nat → gM → gM → Prop) : Prop := ∀ (c : Nat) (σX σM : gM) (a1 : Int32), c < 512 → Inv c σX σM → ∃ (r : Int32) (τX τM : gM), fX11_rule a1 σX = some (r, τX) ∧ fX12_rule a1 σM = some (r, τM) ∧ Inv (c + 1) τX τM
def opB5 (Inv : Nat → gM → gM → Prop) : Prop := ∀ (c : Nat) (σX σM : gM) (a1 : Int32) (a2 : Int32), c < 512 → Inv c σX σM → ∃ (r : Int32) (τX τM : gM), fX11_times a1 a2 σX = some (r, τX) ∧ fX12_times a1 a2 σM = some (r, τM) ∧ Inv (c + 1) τX τM
def opB6 (Inv : Nat → gM → gM → Prop) : Prop := ∀ (c : Nat) (σX σM : gM) (a1 : Int32) (a2 : Int32), c < 512 → Inv c σX σM → ∃ (r : Int32) (τX τM : gM), fX11_over a1 a2 σX = some (r, τX) ∧ fX12_over a1 a2 σM = some (r, τM) ∧ Inv (c + 1) τX τM
def opB7 (Inv : Nat → gM → gM → Prop) : Prop := ∀ (c : Nat) (σX σM : gM) (a1 : Int32), c < 512 → Inv c σX σM → ∃ (r : Int32) (τX τM : gM), fX11_power a1 σX = some (r, τX) ∧ fX12_power a1 σM = some (r, τM) ∧ Inv (c + 1) τX τM
def opB8 (Inv : Nat → gM → gM → Prop) : Prop := ∀ (c : Nat) (σX σM : gM) (a1 : Int32), c < 512 → Inv c σX σM → ∃ (r : Int32) (τX τM : gM), fX11_logOf a1 σX = some (r, τX) ∧ fX12_logOf a1 σM = some (r, τM) ∧ Inv (c + 1) τX τM
def opB9 (Inv : Nat → gM → gM → Prop) : Prop := ∀ (c : Nat) (σX σM : gM) (a1 : Int32) (a2 : Int32), c < 512 → Inv c σX σM → ∃ (r : Int32) (τX τM : gM), fX11_place a1 a2 σX = some (r, τX) ∧ fX12_place a1 a2 σM = some (r, τM) ∧ Inv (c + 1) τX τM
def opB10 (Inv : Nat → gM → gM → Prop) : Prop := ∀ (c : Nat) (σX σM : gM) (a1 : Int32) (a2 : Int32), c < 512 → Inv c σX σM → ∃ (r : Int32) (τX τM : gM), fX11_part a1 a2 σX = some (r, τX) ∧ fX12_part a1 a2 σM = some (r, τM) ∧ Inv (c + 1) τX τM
def opB12 (Inv : Nat → gM → gM → Prop) : Prop := ∀ (c : Nat) (σX σM : gM) (a1 : Int32) (a2 : Int32) (a3 : Int32), c < 512 → Inv c σX σM → ∃ (r : Int32) (τX τM : gM), fX11_cell a1 a2 a3 σX = some (r, τX) ∧ fX12_cell a1 a2 a3 σM = some (r, τM) ∧ Inv (c + 1) τX τM
def opB13 (Inv : Nat → gM → gM → Prop) : Prop := ∀ (c : Nat) (σX σM : gM) (a1 : Int32) (a2 : Int32), c < 512 → Inv c σX σM → ∃ (r : Int32) (τX τM : gM), fX11_disk a1 a2 σX = some (r, τX) ∧ fX12_disk a1 a2 σM = some (r, τM) ∧ Inv (c + 1) τX τM
def opB14 (Inv : Nat → gM → gM → Prop) : Prop := ∀ (c : Nat) (σX σM : gM) (a1 : Int32) (a2 : Int32), c < 512 → Inv c σX σM → ∃ (r : Int32) (τX τM : gM), fX11_write fl a1 a2 σX = some (r, τX) ∧ fX12_write fl a1 a2 σM = some (r, τM) ∧ Inv (c + 1) τX τM
def opB15 (Inv : Nat → gM → gM → Prop) : Prop := ∀ (c : Nat) (σX σM : gM) (a1 : Int32), c < 512 → Inv c σX σM → ∃ (r : Int32) (τX τM : gM), fX11_lose fl a1 σX = some (r, τX) ∧ fX12_lose fl a1 σM = some (r, τM) ∧ Inv (c + 1) τX τM
def opB16 (Inv : Nat → gM → gM → Prop) : Prop := ∀ (c : Nat) (σX σM : gM) (a1 : Int32), c < 512 → Inv c σX σM → ∃ (r : Int32) (τX τM : gM), fX11_replace fl a1 σX = some (r, τX) ∧ fX12_replace fl a1 σM = some (r, τM) ∧ Inv (c + 1) τX τM
def opB17 (Inv : Nat → gM → gM → Prop) : Prop := ∀ (c : Nat) (σX σM : gM) (a1 : Int32) (a2 : Int32), c < 512 → Inv c σX σM → ∃ (r : Int32) (τX τM : gM), fX11_rebuild fl a1 a2 σX = some (r, τX) ∧ fX12_rebuild fl a1 a2 σM = some (r, τM) ∧ Inv (c + 1) τX τM
def opB18 (Inv : Nat → gM → gM → Prop) : Prop := ∀ (c : Nat) (σX σM : gM) (a1 : Int32), c < 512 → Inv c σX σM → ∃ (r : Int32) (τX τM : gM), fX11_scrub fl a1 σX = some (r, τX) ∧ fX12_scrub fl a1 σM = some (r, τM) ∧ Inv (c + 1) τX τM
def opB19 (Inv : Nat → gM → gM → Prop) : Prop := ∀ (c : Nat) (σX σM : gM) (a1 : Int32) (a2 : Int32) (a3 : Int32) (a4 : Int32), c < 512 → Inv c σX σM → ∃ (r : Int32) (τX τM : gM), fX11_spoil fl a1 a2 a3 a4 σX = some (r, τX) ∧ fX12_spoil fl a1 a2 a3 a4 σM = some (r, τM) ∧ Inv (c + 1) τX τM
def opB20 (Inv : Nat → gM → gM → Prop) : Prop := ∀ (c : Nat) (σX σM : gM) (a1 : Int32) (a2 : Int32) (a3 : Int32), c < 512 → Inv c σX σM → ∃ (r : Int32) (τX τM : gM), fX11_tear fl a1 a2 a3 σX = some (r, τX) ∧ fX12_tear fl a1 a2 a3 σM = some (r, τM) ∧ Inv (c + 1) τX τM
def opB21 (Inv : Nat → gM → gM → Prop) : Prop := ∀ (c : Nat) (σX σM : gM) , c < 512 → Inv c σX σM → ∃ (r : Int32) (τX τM : gM), fX11_clean fl σX = some (r, τX) ∧ fX12_clean fl σM = some (r, τM) ∧ Inv (c + 1) τX τM
def opB22 (Inv : Nat → gM → gM → Prop) : Prop := ∀ (c : Nat) (σX σM : gM) (a1 : Int32) (a2 : Int32) (a3 : Int32) (a4 : Int32), c < 512 → Inv c σX σM → ∃ (r : Int32) (τX τM : gM), fX11_full fl a1 a2 a3 a4 σX = some (r, τX) ∧ fX12_full fl a1 a2 a3 a4 σM = some (r, τM) ∧ Inv (c + 1) τX τM
def opB23 (Inv : Nat → gM → gM → Prop) : Prop := ∀ (c : Nat) (σX σM : gM) (a1 : Int32) (a2 : Int64), c < 512 → Inv c σX σM → ∃ (r : Int32) (τX τM : gM), fX11_years fl a1 a2 σX = some (r, τX) ∧ fX12_years fl a1 a2 σM = some (r, τM) ∧ Inv (c + 1) τX τM
def opB24 (Inv : Nat → gM → gM → Prop) : Prop := ∀ (c : Nat) (σX σM : gM) (a1 : Int32), c < 512 → Inv c σX σM → ∃ (r : Int32) (τX τM : gM), fX11_status a1 σX = some (r, τX) ∧ fX12_status a1 σM = some (r, τM) ∧ Inv (c + 1) τX τM
def opB25 (Inv : Nat → gM → gM → Prop) : Prop := ∀ (c : Nat) (σX σM : gM) , c < 512 → Inv c σX σM → ∃ (r : Int32) (τX τM : gM), fX11_undo σX = some (r, τX) ∧ fX12_undo fl σM = some (r, τM) ∧ Inv (c + 1) τX τM
def opB26 (Inv : Nat → gM → gM → Prop) : Prop := ∀ (c : Nat) (σX σM : gM) (a1 : Int32) (a2 : Int32), c < 512 → Inv c σX σM → ∃ (r : Int32) (τX τM : gM), fX11_log a1 a2 σX = some (r, τX) ∧ fX12_log a1 a2 σM = some (r, τM) ∧ Inv (c + 1) τX τM
def opB27 (Inv : Nat → gM → gM → Prop) : Prop := ∀ (c : Nat) (σX σM : gM) (a1 : Int32) (a2 : Int32), c < 512 → Inv c σX σM → ∃ (r : Int32) (τX τM : gM), fX11_cost fl a1 a2 σX = some (r, τX) ∧ fX12_cost fl a1 a2 σM = some (r, τM) ∧ Inv (c + 1) τX τM
def opB28 (Inv : Nat → gM → gM → Prop) : Prop := ∀ (c : Nat) (σX σM : gM) (a1 : Int32) (a2 : Int32) (a3 : Int32) (a4 : Int32) (a5 : Int32), c < 512 → Inv c σX σM → ∃ (r : Int32) (τX τM : gM), fX11_told fl a1 a2 a3 a4 a5 σX = some (r, τX) ∧ fX12_told fl a1 a2 a3 a4 a5 σM = some (r, τM) ∧ Inv (c + 1) τX τM
def opB29 (Inv : Nat → gM → gM → Prop) : Prop := ∀ (c : Nat) (σX σM : gM) (a1 : Int32) (a2 : Int32), c < 512 → Inv c σX σM → ∃ (r : Int32) (τX τM : gM), fX11_who fl a1 a2 σX = some (r, τX) ∧ fX12_who fl a1 a2 σM = some (r, τM) ∧ Inv (c + 1) τX τM
def opB30 (Inv : Nat → gM → gM → Prop) : Prop := ∀ (c : Nat) (σX σM : gM) , c < 512 → Inv c σX σM → ∃ (r : Int32) (τX τM : gM), fX11_more fl σX = some (r, τX) ∧ fX12_more fl σM = some (r, τM) ∧ Inv (c + 1) τX τM
def opB31 (Inv : Nat → gM → gM → Prop) : Prop := ∀ (c : Nat) (σX σM : gM) (a1 : Int32), c < 512 → Inv c σX σM → ∃ (r : Int32) (τX τM : gM), fX11_left fl a1 σX = some (r, τX) ∧ fX12_left fl a1 σM = some (r, τM) ∧ Inv (c + 1) τX τM
def opB32 (Inv : Nat → gM → gM → Prop) : Prop := ∀ (c : Nat) (σX σM : gM) , c < 512 → Inv c σX σM → ∃ (r : Int32) (τX τM : gM), fX11_fit fl σX = some (r, τX) ∧ fX12_fit fl σM = some (r, τM) ∧ Inv (c + 1) τX τM
def opB33 (Inv : Nat → gM → gM → Prop) : Prop := ∀ (c : Nat) (σX σM : gM) (a1 : Int32), c < 512 → Inv c σX σM → ∃ (r : Int32) (τX τM : gM), fX11_checked fl a1 σX = some (r, τX) ∧ fX12_checked fl a1 σM = some (r, τM) ∧ Inv (c + 1) τX τM
def opB34 (Inv : Nat → gM → gM → Prop) : Prop := ∀ (c : Nat) (σX σM : gM) , c < 512 → Inv c σX σM → ∃ (r : Int32) (τX τM : gM), fX11_equal fl σX = some (r, τX) ∧ fX12_equal fl σM = some (r, τM) ∧ Inv (c + 1) τX τM
def opB35 (Inv : Nat → gM → gM → Prop) : Prop := ∀ (c : Nat) (σX σM : gM) (a1 : Int32), c < 512 → Inv c σX σM → ∃ (r : Int32) (τX τM : gM), fX11_span fl a1 σX = some (r, τX) ∧ fX12_span fl a1 σM = some (r, τM) ∧ Inv (c + 1) τX τM
def opB36 (Inv : Nat → gM → gM → Prop) : Prop := ∀ (c : Nat) (σX σM : gM) , c < 512 → Inv c σX σM → ∃ (r : Int32) (τX τM : gM), fX11_risk fl σX = some (r, τX) ∧ fX12_risk fl σM = some (r, τM) ∧ Inv (c + 1) τX τM
def opB37 (Inv : Nat → gM → gM → Prop) : Prop := ∀ (c : Nat) (σX σM : gM) (a1 : Int32), c < 512 → Inv c σX σM → ∃ (r : Int32) (τX τM : gM), fX11_first fl a1 σX = some (r, τX) ∧ fX12_first fl a1 σM = some (r, τM) ∧ Inv (c + 1) τX τM
def opB38 (Inv : Nat → gM → gM → Prop) : Prop := ∀ (c : Nat) (σX σM : gM) (a1 : Int32) (a2 : Int32), c < 512 → Inv c σX σM → ∃ (r : Int32) (τX τM : gM), fX11_votes fl a1 a2 σX = some (r, τX) ∧ fX12_votes fl a1 a2 σM = some (r, τM) ∧ Inv (c + 1) τX τM
def opB39 (Inv : Nat → gM → gM → Prop) : Prop := ∀ (c : Nat) (σX σM : gM) (a1 : Int32) (a2 : Int32) (a3 : Int32), c < 512 → Inv c σX σM → ∃ (r : Int32) (τX τM : gM), fX11_step a1 a2 a3 σX = some (r, τX) ∧ fX12_step a1 a2 a3 σM = some (r, τM) ∧ Inv (c + 1) τX τM
def opB40 (Inv : Nat → gM → gM → Prop) : Prop := ∀ (c : Nat) (σX σM : gM) (a1 : Int32) (a2 : Int32), c < 512 → Inv c σX σM → ∃ (r : Int32) (τX τM : gM), fX11_run fl a1 a2 σX = some (r, τX) ∧ fX12_run fl a1 a2 σM = some (r, τM) ∧ Inv (c + 1) τX τM
def opB41 (Inv : Nat → gM → gM → Prop) : Prop := ∀ (c : Nat) (σX σM : gM) (a1 : Int32), c < 512 → Inv c σX σM → ∃ (r : Int32) (τX τM : gM), fX11_perform fl a1 σX = some (r, τX) ∧ fX12_perform fl a1 σM = some (r, τM) ∧ Inv (c + 1) τX τM
def opB42 (Inv : Nat → gM → gM → Prop) : Prop := ∀ (c : Nat) (σX σM : gM) (a1 : Int32), c < 512 → Inv c σX σM → ∃ (r : Int32) (τX τM : gM), fX11_most fl a1 σX = some (r, τX) ∧ fX12_most fl a1 σM = some (r, τM) ∧ Inv (c + 1) τX τM
def opB43 (Inv : Nat → gM → gM → Prop) : Prop := ∀ (c : Nat) (σX σM : gM) , c < 512 → Inv c σX σM → ∃ (r : Int32) (τX τM : gM), fX11_image fl σX = some (r, τX) ∧ fX12_image fl σM = some (r, τM) ∧ Inv (c + 1) τX τM
def opB44 (Inv : Nat → gM → gM → Prop) : Prop := ∀ (c : Nat) (σX σM : gM) , c < 512 → Inv c σX σM → ∃ (r : Int32) (τX τM : gM), fX11_back fl σX = some (r, τX) ∧ fX12_back fl σM = some (r, τM) ∧ Inv (c + 1) τX τM
def opB45 (Inv : Nat → gM → gM → Prop) : Prop := ∀ (c : Nat) (σX σM : gM) (a1 : Int32), c < 512 → Inv c σX σM → ∃ (r : Int32) (τX τM : gM), fX11_count a1 σX = some (r, τX) ∧ fX12_count a1 σM = some (r, τM) ∧ Inv (c + 1) τX τM
/-- read: both tell the byte, or there is no such address: then the class throws -/
def opB11 (Inv : Nat → gM → gM → Prop) : Prop := ∀ (c : Nat) (σX σM : gM) (a1 : Int32), c < 512 → Inv c σX σM →
  (∃ (r : Int32) (τX τM : gM), fX11_read fl a1 σX = some (r, τX) ∧ fX12_read fl a1 σM = some (r, τM) ∧ τM.1 0 0 = 0 ∧ Inv (c + 1) τX τM) ∨ (∃ (r : Int32) (τM : gM), fX6_isAddress a1 σX = some (0, σX) ∧ fX12_read fl a1 σM = some (r, τM) ∧ τM.1 0 0 = 1 ∧ Inv (c + 1) σX τM)
