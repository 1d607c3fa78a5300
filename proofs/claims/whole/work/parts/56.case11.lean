/-! the law's case 11 -/
theorem rd_hT : GoodIn gW (va_wsS RL 66 yL_read (Cond.codeWith yL_read cL_read 4 (some .int) [(0, 9, 12, 13)] :: gW)) := by
  intro w hw
  rcases List.mem_append.mp hw with h | h
  · simp only [List.mem_cons, List.not_mem_nil, or_false] at h
    rcases h with rfl | rfl | rfl
    · exact ⟨rd_c4, good_of_word (List.mem_filter.mp rd_c4).2⟩
    · exact ⟨rd_c5, good_of_word (List.mem_filter.mp rd_c5).2⟩
    · exact ⟨rd_c6, good_of_word (List.mem_filter.mp rd_c6).2⟩
  · rcases List.mem_cons.mp h with rfl | h
    · exact ⟨rd_c7, good_of_word (List.mem_filter.mp rd_c7).2⟩
    · exact ⟨h, good_of_word (List.mem_filter.mp h).2⟩
theorem cmp_same (x : Int64) : lg_cmp x x = 0 := by
  unfold lg_cmp
  simp
section LC11
variable {l : Launch} {p : Program} {e : Env} {s : State} {m : MethodId} {below : List Frame} {meth : Method} {c : Code} {b L : Nat} {xs : Nat → Int32} {dC : Nat → ClassId} {dI : Nat → Nat → Nat} {adX adM : Nat → Nat} {caX caM : Nat → ClassId} {qo : Nat} {co : ClassId} {XX XM : (Nat → Prop) → State → Heap → Prop} {σX σM τX : gM} {fo fo1 : Nat → Int64} {H : Heap} {locs : List Loc} {cells slots : Nat} {Q : State → Prop} {ls : Array Slot} {Inv : Nat → gM → gM → Prop} {i : Nat}
/-- the call of the law's own read -/
theorem lw_read {a1 r : Int32} (hh : lwH l p s m meth c b L xs dC dI adX adM caX caM qo co XX XM)
    (hM : vx_Met l yL_read (Cond.codeWith yL_read cL_read 4 (some .int) [(0, 9, 12, 13)] :: gW) rdR (va_Pc [.ref (adX 0), .int a1, .ref qo] (rdP dC dI adX caX XX qo co σX fo H.size)) (va_Qi (fun r9 (_ : Unit) => r9 = r) (fun _ => rdB dC dI adX caX qo co τX fo1) (rdA adX qo H.size)) (vx_X (fun _ : Unit => False) (fun _ _ _ => True) (rdA adX qo H.size)) 1 6 (rdA adX qo H.size))
    (hP : lwW dC dI adX adM caX caM qo co σX σM fo H) (hS : va_S (fun q => s.heap.size ≤ q) s.heap H locs) (hl : ls.size = 7) (hcs : cells + 1 ≤ 601024 ∧ slots + 6 ≤ 7293034)
    (kk : ∀ (H : Heap) (locs : List Loc), lwW dC dI adX adM caX caM qo co τX σM fo1 H → va_S (fun q => s.heap.size ≤ q) s.heap H locs → W p l e room_1 s m #[Value.ref b] below meth c H locs (cells + 1) (slots + 6) Q (F0 m 622 ls [.int r])) : W p l e room_1 s m #[Value.ref b] below meth c H locs cells slots Q (F0 m 619 ls [.ref qo, .int a1, .ref (adX 0)]) := by
  obtain ⟨hat, hKX, hKM, hKo, hEX, hEM, hXX, hXM, hD⟩ := id hh
  obtain ⟨hx, hb, hr, hml, hown, hts, hXs, hbl, hlocks, hgv⟩ := id hat
  have hX1 := hEX.1
  have hin : ∀ q, rdA adX qo H.size q → s.heap.size ≤ q := by
    rintro q ((⟨k, h1, h2⟩ | h1) | h1)
    · have := hD.2.2.2.2.2.1 k h1
      omega
    · exact Nat.le_trans hS.1 h1
    · rw [h1]; exact hD.2.2.2.2.2.2.2
  have hbl9 : FrameBlind (va_Pc [Value.ref (adX 0), .int a1, .ref qo] (rdP dC dI adX caX XX qo co σX fo H.size)) := by
    intro a U g mk q
    obtain ⟨q0, q1, qP, qO, qK, qKo, qX⟩ := q
    exact ⟨q0, q1, qP, qO, va_K.moved (u := U) (U := U.calling g mk a) (Vm.Alike.refl U.vm) qK, va_K.moved (u := U) (U := U.calling g mk a) (Vm.Alike.refl U.vm) qKo, hX1.1 _ U (U.calling g mk a) _ (State.WarmedH.refl U) qX⟩
  refine vx_calli (vx_runSX (As := [.ref (adX 0), .int a1, .ref qo]) (rest := []) (g := F0 m 619 ls [.ref qo, .int a1, .ref (adX 0)]) ⟨hx, hb, hml, hown, lw_gW hat⟩ hM (vx_cwSW 3 (lw_gW hat) rd_hT rfl rfl rfl ⟨by decide, by decide, by decide +kernel⟩ ⟨by decide, by decide⟩)
    ⟨hbl9, fun U hU hW => ⟨rfl, by rw [hU], by rw [hU]; exact hP.1, by rw [hU]; exact hP.2.2, va_K.moved hW.alike hKX, va_K.moved hW.alike hKo, by rw [hU]; exact hX1.2.2 _ _ U _ hin (hX1.1 _ s U _ hW (hX1.2.1 _ s _ _ hS.2.1 hXX))⟩⟩ rfl rfl hl rfl (Nat.le_of_ble_eq_true rfl) dL_law_619 hcs) hS (fun q _ hq9 => hin q hq9) (fun q hq9 => hin q hq9) (fun q _ hq9 => hin q hq9) ?_ ?_
  · intro E ce q9 u t H1 locs1 ht hal hpx
    exact hpx.elim
  · intro r9 u t H1 locs1 ht hal hpost hB hz hk hS1
    subst hpost
    obtain ⟨hB1, hB2⟩ := hB
    rw [ht] at hB1 hB2
    refine kk H1 locs1 ⟨hB1, lw_keepP hP.2.1 hk (fun k q hq hlt => ?_), hB2⟩ hS1
    obtain ⟨h1, h2⟩ := g_w_of hq
    rintro ((⟨j, h3, h4⟩ | h3) | h3)
    · exact hD.2.2.1 j k h3 h1 (by rw [h4, h2])
    · omega
    · exact hD.2.2.2.2.1 k h1 (by rw [← h2]; exact h3)
set_option maxRecDepth 100000 in
theorem lc11 (hl0 : l.stackTraces = false) (hT : gET adX XX) (hh : lwH l p s m meth c b L xs dC dI adX adM caX caM qo co XX XM) (hL : L ≤ 3072) (hi : 6 * i + 6 ≤ L) (hi5 : i < 512) (hB : opB11 Inv) (hI0 : Inv i σX σM) (hP : lwW dC dI adX adM caX caM qo co σX σM fo H) (hS : va_S (fun q => s.heap.size ≤ q) s.heap H locs) (hc1 : cells ≤ 1000 * (i + 1)) (hc2 : slots ≤ 100000 + 1000 * i) (hl : lv_has ls 7 [(0, .ref b), (1, .ref (adX 0)), (2, .ref (adM 0)), (3, .ref qo), (4, .int (nI (6 * i)))]) (K : ∀ (τX τM : gM) (fo : Nat → Int64) (H : Heap) (locs : List Loc) (cells slots : Nat) (ls : Array Slot), lwW dC dI adX adM caX caM qo co τX τM fo H → Inv (i + 1) τX τM → va_S (fun q => s.heap.size ≤ q) s.heap H locs → cells ≤ 1000 * (i + 2) → slots ≤ 100000 + 1000 * (i + 1) → lv_has ls 7 [(0, .ref b), (1, .ref (adX 0)), (2, .ref (adM 0)), (3, .ref qo), (4, .int (nI (6 * i)))] → W p l e room_1 s m #[Value.ref b] below meth c H locs cells slots Q (F0 m 1753 ls [])) : W p l e room_1 s m #[Value.ref b] below meth c H locs cells slots Q (F0 m 611 ls []) := by
  obtain ⟨hat, hKX, hKM, hKo, hEX, hEM, hXX, hXM, hD⟩ := id hh
  obtain ⟨hx, hb, hr, hml, hown, hts, hXs, hbl, hlocks, hgv⟩ := id hat
  have hbA : ¬ (fun q : Nat => s.heap.size ≤ q) b := Nat.not_le.mpr hbl
  refine lv_aload_n hx hb dL_law_611 rfl (lv_at hl 1 rfl) ?_
  refine lv_aload_n hx hb dL_law_612 rfl (lv_at hl 0 rfl) ?_
  refine lv_iload hx hb dL_law_613 (lv_at hl 4 rfl) ?_
  refine lv_iconst (v := 1) hx hb dL_law_615 (by decide) ?_
  refine lv_iadd hx hb dL_law_616 ?_
  refine va_sld hx hb hXs hbl hbA hS (lw_in (k := 1) hL hi (by decide)) dL_law_617 ?_
  refine lv_aload_n hx hb dL_law_618 rfl (lv_at hl 3 rfl) ?_
  rcases hB i σX σM (xs (nI (6 * i) + 1).toNatClampNeg) hi5 hI0 with ⟨r, τX, τM, e1, e2, e3, hI⟩ | ⟨r, τM, e1, e2, e3, hI⟩
  · refine lw_read hh (rd_lawR hEX hD.1 hD.2.2.2.1 e1 H.size) hP hS hl.1 ⟨by omega, by omega⟩ (fun H locs hP hS => ?_)
    refine lv_istore (i := 5) hx hb dL_law_622 hl (by decide) rfl (fun ls hl => ?_)
    refine lv_aload_n hx hb dL_law_624 rfl (lv_at hl 3 rfl) ?_
    refine lv_aload_n hx hb dL_law_625 rfl (lv_at hl 1 rfl) ?_
    refine lv_iload hx hb dL_law_626 (lv_at hl 5 rfl) ?_
    refine lv_iconst (v := 1) hx hb dL_law_628 (by decide) ?_
    refine lv_iadd hx hb dL_law_629 ?_
    refine va_sld hx hb hXs hbl hbA hS (lw_in (k := 1) hL hi (by decide)) dL_law_630 ?_
    refine lw_callM (as := [.int (xs (nI (6 * i) + 1).toNatClampNeg)]) (st := []) hh wvL_71 rfl (kX12_read hEM fl (xs (nI (6 * i) + 1).toNatClampNeg) σM e2) rfl (by decide) (Nat.le_of_ble_eq_true rfl) rfl rfl dL_law_631 hP hS hl.1 ⟨by omega, by omega⟩ (fun H locs hP hS => ?_)
    refine lv_istore (i := 6) hx hb dL_law_634 hl (by decide) rfl (fun ls hl => ?_)
    refine lv_aload_n hx hb dL_law_636 rfl (lv_at hl 4 rfl) ?_
    refine lw_callM (as := []) (st := []) hh wvL_72 rfl (kX12_thrown hEM τM (r0 := 0) (σ' := τM) (by unfold fX12_thrown; rw [e3])) rfl (by decide) (Nat.le_of_ble_eq_true rfl) rfl rfl dL_law_637 hP hS hl.1 ⟨by omega, by omega⟩ (fun H locs hP hS => ?_)
    refine lv_iload hx hb dL_law_640 (lv_at hl 1 rfl) ?_
    refine lv_icmp_eq (tgt := 647) hx hb dL_law_642 (by decide) (fun _ => ?_) (fun c9 => absurd rfl c9)
    refine lv_iload hx hb dL_law_647 (lv_at hl 1 rfl) ?_
    refine lv_if_ne (tgt := 664) hx hb dL_law_649 (by decide) (fun c9 => absurd rfl c9) (fun _ => ?_)
    refine lv_aload_n hx hb dL_law_652 rfl (lv_at hl 5 rfl) ?_
    refine lv_iconst (v := 0) hx hb dL_law_653 (by decide) ?_
    refine va_lald (D := (dC, dI)) (cl := vwCl) (ws := rdO qo co (vp_updL fo 0 r.toInt64)) hx hb hKo hP.2.2 0 0 rfl rfl (show vp_in 0 1 by unfold vp_in; decide) dL_law_654 ?_
    refine lv_iload hx hb dL_law_655 (lv_at hl 0 rfl) ?_
    refine lv_i2l hx hb dL_law_657 rfl ?_
    refine W.lcmp hx hb dL_law_658 ?_
    rw [show vp_updL fo 0 r.toInt64 (0 : Int32).toNatClampNeg = r.toInt64 from if_pos rfl, cmp_same]
    refine lv_if_eq (tgt := 664) hx hb dL_law_659 (by decide) (fun _ => ?_) (fun c9 => absurd rfl c9)
    refine lv_goto (tgt := 1753) hx hb dL_law_664 (by decide) ?_
    exact K τX τM _ H locs _ _ ls hP hI hS (by omega) (by omega) ⟨hl.1, hl.2.1, fun q hq => hl.2.2 q (List.mem_cons_of_mem _ (List.mem_cons_of_mem _ hq))⟩
  · refine lw_read hh (rd_lawT hl0 hEX hT hD.1 hD.2.2.2.1 e1 H.size) hP hS hl.1 ⟨by omega, by omega⟩ (fun H locs hP hS => ?_)
    refine lv_istore (i := 5) hx hb dL_law_622 hl (by decide) rfl (fun ls hl => ?_)
    refine lv_aload_n hx hb dL_law_624 rfl (lv_at hl 3 rfl) ?_
    refine lv_aload_n hx hb dL_law_625 rfl (lv_at hl 1 rfl) ?_
    refine lv_iload hx hb dL_law_626 (lv_at hl 5 rfl) ?_
    refine lv_iconst (v := 1) hx hb dL_law_628 (by decide) ?_
    refine lv_iadd hx hb dL_law_629 ?_
    refine va_sld hx hb hXs hbl hbA hS (lw_in (k := 1) hL hi (by decide)) dL_law_630 ?_
    refine lw_callM (as := [.int (xs (nI (6 * i) + 1).toNatClampNeg)]) (st := []) hh wvL_71 rfl (kX12_read hEM fl (xs (nI (6 * i) + 1).toNatClampNeg) σM e2) rfl (by decide) (Nat.le_of_ble_eq_true rfl) rfl rfl dL_law_631 hP hS hl.1 ⟨by omega, by omega⟩ (fun H locs hP hS => ?_)
    refine lv_istore (i := 6) hx hb dL_law_634 hl (by decide) rfl (fun ls hl => ?_)
    refine lv_aload_n hx hb dL_law_636 rfl (lv_at hl 4 rfl) ?_
    refine lw_callM (as := []) (st := []) hh wvL_72 rfl (kX12_thrown hEM τM (r0 := 1) (σ' := τM) (by unfold fX12_thrown; rw [e3])) rfl (by decide) (Nat.le_of_ble_eq_true rfl) rfl rfl dL_law_637 hP hS hl.1 ⟨by omega, by omega⟩ (fun H locs hP hS => ?_)
    refine lv_iload hx hb dL_law_640 (lv_at hl 1 rfl) ?_
    refine lv_icmp_eq (tgt := 647) hx hb dL_law_642 (by decide) (fun _ => ?_) (fun c9 => absurd rfl c9)
    refine lv_iload hx hb dL_law_647 (lv_at hl 1 rfl) ?_
    refine lv_if_ne (tgt := 664) hx hb dL_law_649 (by decide) (fun _ => ?_) (fun c9 => absurd c9 (by decide))
    refine lv_goto (tgt := 1753) hx hb dL_law_664 (by decide) ?_
    exact K σX τM _ H locs _ _ ls hP hI hS (by omega) (by omega) ⟨hl.1, hl.2.1, fun q hq => hl.2.2 q (List.mem_cons_of_mem _ (List.mem_cons_of_mem _ hq))⟩
end LC11
