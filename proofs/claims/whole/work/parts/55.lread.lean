/-! the law's own read: it catches -/
theorem va_P_app {D : va_G} {cl : List vw_C} {ws1 ws2 : va_W} {H : Heap} (h1 : va_P D cl ws1 H) (h2 : va_P D cl ws2 H) : va_P D cl (ws1 ++ ws2) H := by
  intro k q hq
  by_cases c : k < ws1.length
  · rw [List.getElem?_append_left c] at hq; exact h1 k q hq
  · rw [List.getElem?_append_right (Nat.not_lt.mp c)] at hq; exact h2 _ q hq
theorem va_P_l {D : va_G} {cl : List vw_C} {ws1 ws2 : va_W} {H : Heap} (h : va_P D cl (ws1 ++ ws2) H) : va_P D cl ws1 H := by
  intro k q hq
  refine h k q ?_
  have c : k < ws1.length := by
    rcases Nat.lt_or_ge k ws1.length with c | c
    · exact c
    · rw [List.getElem?_eq_none c] at hq; cases hq
  rw [List.getElem?_append_left c]; exact hq
theorem va_P_r {D : va_G} {cl : List vw_C} {ws1 ws2 : va_W} {H : Heap} (h : va_P D cl (ws1 ++ ws2) H) : va_P D cl ws2 H := by
  intro k q hq
  refine h (ws1.length + k) q ?_
  rw [List.getElem?_append_right (Nat.le_add_right _ _), Nat.add_sub_cancel_left]; exact hq
theorem va_D_app {A : Nat → Prop} {ws1 ws2 : va_W} (h1 : va_D A ws1) (h2 : va_D A ws2) (hd : ∀ (i j : Nat) (p q : Nat × va_E), ws1[i]? = some p → ws2[j]? = some q → p.1 ≠ q.1) : va_D A (ws1 ++ ws2) := by
  refine ⟨fun i j p q hp hq he => ?_, fun k q hq => ?_⟩
  · by_cases c1 : i < ws1.length
    · rw [List.getElem?_append_left c1] at hp
      by_cases c2 : j < ws1.length
      · rw [List.getElem?_append_left c2] at hq; exact h1.1 i j p q hp hq he
      · rw [List.getElem?_append_right (Nat.not_lt.mp c2)] at hq; exact absurd he (hd _ _ p q hp hq)
    · rw [List.getElem?_append_right (Nat.not_lt.mp c1)] at hp
      by_cases c2 : j < ws1.length
      · rw [List.getElem?_append_left c2] at hq; exact absurd he.symm (hd _ _ q p hq hp)
      · rw [List.getElem?_append_right (Nat.not_lt.mp c2)] at hq
        have := h2.1 _ _ p q hp hq he
        omega
  · by_cases c1 : k < ws1.length
    · rw [List.getElem?_append_left c1] at hq; exact h1.2 k q hq
    · rw [List.getElem?_append_right (Nat.not_lt.mp c1)] at hq; exact h2.2 _ q hq
theorem lw_hG {own : String} {idx nL1 n : Nat} {y : MethodName} {cc1 : ByteArray} {ret1 : Option FieldType} (hv : g_V own idx y cc1 nL1 ret1 n) : GoodIn gW (wsV own idx y.cls y (Cond.code y cc1 nL1 ret1 :: gW)) := by
  obtain ⟨w1, w2, w3, w4, w5, w6, w7, w8⟩ := hv
  intro w hw
  rcases List.mem_append.mp hw with h | h
  · simp only [List.mem_cons, List.not_mem_nil, or_false] at h
    rcases h with rfl | rfl | rfl | rfl
    · exact ⟨w1, good_of_word (List.mem_filter.mp w1).2⟩
    · exact ⟨w2, good_of_word (List.mem_filter.mp w2).2⟩
    · exact ⟨w3, good_of_word (List.mem_filter.mp w3).2⟩
    · exact ⟨w4, good_of_word (List.mem_filter.mp w4).2⟩
  · exact gW_good w5 w h
def rdR : Room := { frames := 13, cells := 1, slots := 6, locals := 520 }
def rdA (ad : Nat → Nat) (qo sz : Nat) : Nat → Prop := fun q => g_A ad shX sz q ∨ q = qo
def rdO (qo : Nat) (co : ClassId) (fo : Nat → Int64) : va_W := [(qo, .inl (co, 1, .inr (.inl fo)))]
section LRD
variable {l : Launch} {dC : Nat → ClassId} {dI : Nat → Nat → Nat} {ad : Nat → Nat} {ca : Nat → ClassId} {X : (Nat → Prop) → State → Heap → Prop} {qo : Nat} {co : ClassId}
def rdP (dC : Nat → ClassId) (dI : Nat → Nat → Nat) (ad : Nat → Nat) (ca : Nat → ClassId) (X : (Nat → Prop) → State → Heap → Prop) (qo : Nat) (co : ClassId) (σ : gM) (fo : Nat → Int64) (sz : Nat) (U : State) : Prop :=
  U.heap.size = sz ∧ va_P (dC, dI) vwCl (g_w ad ca shX σ) U.heap ∧ va_P (dC, dI) vwCl (rdO qo co fo) U.heap ∧ va_K (dC, dI) vwCl (g_tys ca shX) U ∧ va_K (dC, dI) vwCl [(co, .long)] U ∧ X (rdA ad qo sz) U U.heap
def rdB (dC : Nat → ClassId) (dI : Nat → Nat → Nat) (ad : Nat → Nat) (ca : Nat → ClassId) (qo : Nat) (co : ClassId) (σ : gM) (fo : Nat → Int64) (t : State) : Prop :=
  va_P (dC, dI) vwCl (g_w ad ca shX σ) t.heap ∧ va_P (dC, dI) vwCl (rdO qo co fo) t.heap
theorem rd_apart {fo : Nat → Int64} {H : Heap} {sz : Nat} (hq : ∀ i, i < 50 → ad i ≠ qo) (hPo : va_P (dC, dI) vwCl (rdO qo co fo) H) (hz : H.size ≤ sz) : ∀ (k : Nat) (q : Nat × va_E), (rdO qo co fo)[k]? = some q → q.1 < H.size → ¬ g_A ad shX sz q.1 := by
  intro k q hk hlt
  match k, hk with
  | 0, hk =>
    cases hk
    rintro (⟨j, h3, h4⟩ | h3)
    · exact hq j h3 h4
    · exact absurd hlt (Nat.not_lt.mpr (Nat.le_trans hz h3))
  | k + 1, hk => cases hk
set_option maxRecDepth 100000 in
theorem rd_lawT (hl0 : l.stackTraces = false) (hE : gEX l dC dI ad ca X) (hT : gET ad X) (hd0 : ∀ i j, i < 50 → j < 50 → ad i = ad j → i = j) (hq : ∀ i, i < 50 → ad i ≠ qo) {a1 : Int32} {σ : gM} {fo : Nat → Int64} (h : fX6_isAddress a1 σ = some (0, σ)) (sz : Nat) :
    vx_Met l yL_read (Cond.codeWith yL_read cL_read 4 (some .int) [(0, 9, 12, 13)] :: gW) rdR (va_Pc [.ref (ad 0), .int a1, .ref qo] (rdP dC dI ad ca X qo co σ fo sz)) (va_Qi (fun r (_ : Unit) => r = 1) (fun _ => rdB dC dI ad ca qo co σ fo) (rdA ad qo sz)) (vx_X (fun _ : Unit => False) (fun _ _ _ => True) (rdA ad qo sz)) 1 6 (rdA ad qo sz) := by
  refine vx_ofWH (cc := cL_read) (maxL := 4) (ret := some .int) (hh := [(0, 9, 12, 13)]) (by decide +kernel) rfl ?_
  intro p e s m args below meth c s₁ B hml hv
  obtain ⟨rfl, hsz, hP, hPo, hK, hKo, hX⟩ := hv
  subst hsz
  have hx := B.exec
  have hb := B.bytes
  have hall := atoms_spec (ws := Cond.codeWith yL_read cL_read 4 (some .int) [(0, 9, 12, 13)] :: gW) B.pre
  have hts : ∀ w ∈ gW, w.before _ s = true := fun w h => hall w (List.mem_cons_of_mem _ h)
  have htab := vx_table (x := yL_read) B (hall _ List.mem_cons_self)
  have hown : s.vm.findClass RL = some m.cls := findClass_of_methodNamed B.named
  have hlocks := B.notSynchronized
  have hret := B.returns
  have hS : va_S (rdA ad qo s.heap.size) s.heap s.heap [] := va_S.rf
  have hl := lv_entry ([.ref (ad 0), .int a1, .ref qo]) (n := 4) (Nat.le_of_ble_eq_true rfl)
  rw [lg_entry_eq]
  generalize (lg_sl ([.ref (ad 0), .int a1, .ref qo]) ++ List.replicate (4 - (lg_sl ([.ref (ad 0), .int a1, .ref qo])).length) Slot.unset).toArray = ls at hl ⊢
  have hl : lv_has ls 4 [(0, .ref (ad 0)), (1, .int a1), (2, .ref qo)] := hl
  refine lv_aload_n hx hb dL_read_0 rfl (lv_at hl 2 rfl) ?_
  refine lv_iconst (v := 0) hx hb dL_read_1 (by decide) ?_
  refine lv_aload_n hx hb dL_read_2 rfl (lv_at hl 0 rfl) ?_
  refine lv_iload_n hx hb dL_read_3 rfl (lv_at hl 1 rfl) ?_
  have hXX := hE.1
  have hbl : FrameBlind (va_Pc [Value.ref (ad 0), .int a1] (fun U => U.heap.size = s.heap.size ∧ va_P (dC, dI) vwCl (g_w ad ca shX σ) U.heap ∧ va_K (dC, dI) vwCl (g_tys ca shX) U ∧ X (g_A ad shX s.heap.size) U U.heap)) := by
    intro a U g mk q
    obtain ⟨q0, q1, qP, qK, qX⟩ := q
    exact ⟨q0, q1, qP, va_K.moved (u := U) (U := U.calling g mk a) (Vm.Alike.refl U.vm) qK, hXX.1 _ U (U.calling g mk a) _ (State.WarmedH.refl U) qX⟩
  refine vx_calli (vx_runV (As := [.int a1]) (b := ad 0) (rest := [.int 0, .ref qo]) ⟨hx, hb, hml, hown, hts⟩ (rd_throw hl0 hE hT hd0 h s.heap.size) (cwV 1 hts (lw_hG wvL_7) rfl rfl rfl ⟨rfl, wvL_7.2.2.2.2.2⟩ ⟨by decide, by decide⟩)
    ⟨hbl, va_recv hK hP (q := (RX11, TX11, 16)) (ci := 11) rfl (g_w_at (ad := ad) (ca := ca) (σ := σ) (sh := shX) (k := 0) rfl), fun U hU hW => ⟨rfl, by rw [hU], by rw [hU]; exact hP, va_K.moved hW.alike hK, by rw [hU]; exact hXX.2.2 _ _ U _ (fun q hq9 => Or.inl hq9) (hXX.1 _ s U _ hW hX)⟩⟩ rfl rfl hl.1 rfl (Nat.le_of_ble_eq_true rfl) dL_read_4 ⟨by decide, by decide⟩) hS (fun q _ hq9 => Or.inl hq9) (fun q hq9 => Or.inl hq9) (fun q _ hq9 => Or.inl hq9) ?_ ?_
  · intro E ce q9 u t H1 locs1 ht hal hpx hbx hz hk hS1 hce hcv hcl
    obtain ⟨rfl, hP1⟩ := hbx
    rw [ht] at hP1
    have hPo1 : va_P (dC, dI) vwCl (rdO qo co fo) H1 := lw_keepP hPo hk (rd_apart hq hPo (Nat.le_refl _))
    obtain ⟨-, -, hdc, -⟩ := hT _ _ _ hX
    refine vx_catch (own := RL) (name := nsE) hown [] ⟨0, 9, 12, 13⟩ [] (by rw [htab]; rfl) (fun _ h9 => nomatch h9) (by decide) (by decide) (hts _ rd_c3) (va_Nw.use (rd_dcl _ (by decide +kernel)).1 (hdc (.castable nsE nsE) (by decide +kernel))) hce hcv hcl ?_
    refine lv_astore_n (i := 3) hx hb dL_read_12 rfl hl (by decide) rfl (fun ls hl => ?_)
    refine lv_iconst (v := 1) hx hb dL_read_13 (by decide) ?_
    exact vx_ret (W.zret hx hb hret rfl (fun t ht hW => ⟨⟨1, (), rfl, rfl, by rw [ht]; exact hP1, by rw [ht]; exact hPo1⟩, hS1.F ht⟩) hS1.2.2 dL_read_14 hlocks)
  · intro r u t H1 locs1 ht hal hpost
    exact hpost.elim
theorem set_app {ws1 : va_W} (x y : Nat × va_E) : (ws1 ++ [x]).set ws1.length y = ws1 ++ [y] := by
  induction ws1 with
  | nil => rfl
  | cons a l ih =>
    show a :: ((l ++ [x]).set l.length y) = a :: (l ++ [y])
    rw [ih]
theorem at_app {ws1 : va_W} (x : Nat × va_E) : (ws1 ++ [x])[ws1.length]? = some x := by
  rw [List.getElem?_append_right (Nat.le_refl _), Nat.sub_self]; rfl
set_option maxRecDepth 100000 in
theorem rd_lawR (hE : gEX l dC dI ad ca X) (hd0 : ∀ i j, i < 50 → j < 50 → ad i = ad j → i = j) (hq : ∀ i, i < 50 → ad i ≠ qo) {a1 r : Int32} {σ σ' : gM} {fo : Nat → Int64} (h : fX11_read fl a1 σ = some (r, σ')) (sz : Nat) :
    vx_Met l yL_read (Cond.codeWith yL_read cL_read 4 (some .int) [(0, 9, 12, 13)] :: gW) rdR (va_Pc [.ref (ad 0), .int a1, .ref qo] (rdP dC dI ad ca X qo co σ fo sz)) (va_Qi (fun r9 (_ : Unit) => r9 = 0) (fun _ => rdB dC dI ad ca qo co σ' (vp_updL fo 0 r.toInt64)) (rdA ad qo sz)) (vx_X (fun _ : Unit => False) (fun _ _ _ => True) (rdA ad qo sz)) 1 6 (rdA ad qo sz) := by
  refine vx_ofWH (cc := cL_read) (maxL := 4) (ret := some .int) (hh := [(0, 9, 12, 13)]) (by decide +kernel) rfl ?_
  intro p e s m args below meth c s₁ B hml hv
  obtain ⟨rfl, hsz, hP, hPo, hK, hKo, hX⟩ := hv
  subst hsz
  have hx := B.exec
  have hb := B.bytes
  have hall := atoms_spec (ws := Cond.codeWith yL_read cL_read 4 (some .int) [(0, 9, 12, 13)] :: gW) B.pre
  have hts : ∀ w ∈ gW, w.before _ s = true := fun w h => hall w (List.mem_cons_of_mem _ h)
  have hown : s.vm.findClass RL = some m.cls := findClass_of_methodNamed B.named
  have hlocks := B.notSynchronized
  have hret := B.returns
  have hS : va_S (rdA ad qo s.heap.size) s.heap s.heap [] := va_S.rf
  have hl := lv_entry ([.ref (ad 0), .int a1, .ref qo]) (n := 4) (Nat.le_of_ble_eq_true rfl)
  rw [lg_entry_eq]
  generalize (lg_sl ([.ref (ad 0), .int a1, .ref qo]) ++ List.replicate (4 - (lg_sl ([.ref (ad 0), .int a1, .ref qo])).length) Slot.unset).toArray = ls at hl ⊢
  have hl : lv_has ls 4 [(0, .ref (ad 0)), (1, .int a1), (2, .ref qo)] := hl
  refine lv_aload_n hx hb dL_read_0 rfl (lv_at hl 2 rfl) ?_
  refine lv_iconst (v := 0) hx hb dL_read_1 (by decide) ?_
  refine lv_aload_n hx hb dL_read_2 rfl (lv_at hl 0 rfl) ?_
  refine lv_iload_n hx hb dL_read_3 rfl (lv_at hl 1 rfl) ?_
  refine lw_call (own := RL) (T := TX11) (N := 16) (q := 0) (ci := 11) (as := [.int a1]) (st := [.int 0, .ref qo]) ⟨hx, hb, hml, hown, hts⟩ hE.1 wvL_7 rfl rfl (kX11_read hE fl a1 σ h) rfl ⟨rfl, rfl, by decide, by decide⟩ (Nat.le_of_ble_eq_true rfl) rfl dL_read_4 hK hX (fun h9 hh q hq9 => Or.inl (g_A_le hh q hq9)) hP (lw_DX (n := 50) rfl hd0) hS hl.1 ⟨by decide, by decide⟩ (fun H1 locs1 hP1 hk1 hS1 => ?_)
  have hPo1 : va_P (dC, dI) vwCl (rdO qo co fo) H1 := lw_keepP hPo hk1 (rd_apart hq hPo (Nat.le_refl _))
  refine lv_i2l hx hb dL_read_7 rfl ?_
  have hD1 : va_D (rdA ad qo s.heap.size) (g_w ad ca shX σ') := ⟨(lw_DX (h := s.heap.size) (n := 50) rfl hd0).1, fun k q hk => Or.inl ((lw_DX (h := s.heap.size) (n := 50) rfl hd0).2 k q hk)⟩
  have hD2 : va_D (rdA ad qo s.heap.size) (rdO qo co fo) := by
    refine ⟨fun i j p q hp hq _ => ?_, fun k q hk => ?_⟩
    · match i, j, hp, hq with
      | 0, 0, _, _ => rfl
      | 0, j + 1, _, hq => cases hq
      | i + 1, _, hp, _ => cases hp
    · match k, hk with
      | 0, hk => cases hk; exact Or.inr rfl
      | k + 1, hk => cases hk
  have hD3 : va_D (rdA ad qo s.heap.size) (g_w ad ca shX σ' ++ rdO qo co fo) := va_D_app hD1 hD2 (fun i j p q hp hq9 he => by
    obtain ⟨h1, h2⟩ := g_w_of hp
    match j, hq9 with
    | 0, hq9 => cases hq9; exact hq i h1 (by rw [← h2]; exact he)
    | j + 1, hq9 => cases hq9)
  refine va_last (D := (dC, dI)) (cl := vwCl) (ws := g_w ad ca shX σ' ++ rdO qo co fo) hx hb hKo (va_P_app hP1 hPo1) hD3 hS1 (g_w ad ca shX σ').length 0 (at_app _) rfl (show vp_in 0 1 by unfold vp_in; decide) dL_read_8 (fun H2 locs2 hP2 hD9 hS2 => ?_)
  have hP2 : va_P (dC, dI) vwCl (g_w ad ca shX σ' ++ rdO qo co (vp_updL fo 0 r.toInt64)) H2 := by
    have h9 := hP2
    unfold rdO at h9
    rw [set_app] at h9
    exact h9
  refine lv_goto (tgt := 15) hx hb dL_read_9 (by decide) ?_
  refine lv_iconst (v := 0) hx hb dL_read_15 (by decide) ?_
  refine W.widen (k := 1) (n := 6) (by decide) (by decide) ?_
  exact vx_ret (W.zret hx hb hret rfl (fun t ht hW => ⟨⟨0, (), rfl, rfl, by rw [ht]; exact va_P_l hP2, by rw [ht]; exact va_P_r hP2⟩, hS2.F ht⟩) hS2.2.2 dL_read_16 hlocks)
end LRD
