/-! the law's loop -/
theorem and63 (v : Int32) : ∃ k, k < 64 ∧ v &&& 63 = nI k := by
  refine ⟨(v &&& 63).toBitVec.toNat, ?_, ?_⟩
  · have h : (v &&& 63).toBitVec.toNat = v.toBitVec.toNat &&& 63 := by
      show (v.toBitVec &&& (63 : Int32).toBitVec).toNat = _
      rw [BitVec.toNat_and]; rfl
    rw [h]
    have := Nat.and_le_right (n := v.toBitVec.toNat) (m := 63)
    omega
  · apply Int32.toBitVec_inj.1
    show _ = BitVec.ofNat 32 _
    rw [BitVec.ofNat_toNat]
    simp
theorem sub6 {L i : Nat} (hL : L ≤ 3072) (hi : i ≤ 512) : (nI L - 6 < nI (6 * i)) = ¬ (6 * i + 6 ≤ L) := by
  rw [Int32.lt_iff_toInt_lt, show (6 : Int32) = nI 6 from rfl, pk_sub_toInt (by omega) (by omega), nI_toInt (by omega)]
  apply propext
  omega
section LOOP
variable {l : Launch} {p : Program} {e : Env} {s : State} {m : MethodId} {below : List Frame} {meth : Method} {c : Code} {b L : Nat} {xs : Nat → Int32} {dC : Nat → ClassId} {dI : Nat → Nat → Nat} {adX adM : Nat → Nat} {caX caM : Nat → ClassId} {qo : Nat} {co : ClassId} {XX XM : (Nat → Prop) → State → Heap → Prop}
set_option maxRecDepth 100000 in
theorem lw_loop (hl0 : l.stackTraces = false) (hT : gET adX XX) (hh : lwH l p s m meth c b L xs dC dI adX adM caX caM qo co XX XM) (hL : L ≤ 3072) : ∀ (n i : Nat) (σX σM : gM) (fo : Nat → Int64) (H : Heap) (locs : List Loc) (cells slots : Nat) (ls : Array Slot), L < 6 * i + 6 * n → i ≤ 512 → Inv i σX σM → lwW dC dI adX adM caX caM qo co σX σM fo H → va_S (fun q => s.heap.size ≤ q) s.heap H locs → cells ≤ 1000 * (i + 1) → slots ≤ 100000 + 1000 * i → lv_has ls 7 [(0, .ref b), (1, .ref (adX 0)), (2, .ref (adM 0)), (3, .ref qo), (4, .int (nI (6 * i)))] →
    W p l e room_1 s m #[Value.ref b] below meth c H locs cells slots (lw_Z below #[Value.ref b] s) (F0 m 23 ls []) := by
  obtain ⟨hat, hKX, hKM, hKo, hEX, hEM, hXX, hXM, hD⟩ := id hh
  obtain ⟨hx, hb, hr, hml, hown, hts, hXs, hbl, hlocks, hgv⟩ := id hat
  have hbA : ¬ (fun q : Nat => s.heap.size ≤ q) b := Nat.not_le.mpr hbl
  intro n
  induction n with
  | zero =>
    intro i σX σM fo H locs cells slots ls hn hi0 hI0 hP hS hc1 hc2 hl
    refine lv_iload hx hb dL_law_23 (lv_at hl 4 rfl) ?_
    refine lv_aload_n hx hb dL_law_25 rfl (lv_at hl 0 rfl) ?_
    refine va_slen hx hb hXs hbl hbA hS dL_law_26 ?_
    refine lv_bipush (v := 6) hx hb dL_law_27 (by decide) ?_
    refine lv_isub hx hb dL_law_29 ?_
    refine lv_icmp_gt (tgt := 1759) hx hb dL_law_30 (by decide) (fun _ => ?_) (fun c9 => absurd (show nI L - 6 < nI (6 * i) by rw [sub6 hL hi0]; omega) c9)
    refine lv_iconst (v := 1) hx hb dL_law_1759 (by decide) ?_
    refine va_forget hS.2.2 ?_
    refine W.widen (k := 601024) (n := 7293034) (by omega) (by omega) ?_
    exact lw_ret hx hb hr hlocks dL_law_1760
  | succ n ih =>
    intro i σX σM fo H locs cells slots ls hn hi0 hI0 hP hS hc1 hc2 hl
    refine lv_iload hx hb dL_law_23 (lv_at hl 4 rfl) ?_
    refine lv_aload_n hx hb dL_law_25 rfl (lv_at hl 0 rfl) ?_
    refine va_slen hx hb hXs hbl hbA hS dL_law_26 ?_
    refine lv_bipush (v := 6) hx hb dL_law_27 (by decide) ?_
    refine lv_isub hx hb dL_law_29 ?_
    refine lv_icmp_gt (tgt := 1759) hx hb dL_law_30 (by decide) (fun _ => ?_) (fun c9 => ?_)
    · refine lv_iconst (v := 1) hx hb dL_law_1759 (by decide) ?_
      refine va_forget hS.2.2 ?_
      refine W.widen (k := 601024) (n := 7293034) (by omega) (by omega) ?_
      exact lw_ret hx hb hr hlocks dL_law_1760
    have hi : 6 * i + 6 ≤ L := by
      have c9 : ¬ nI L - 6 < nI (6 * i) := c9
      rw [sub6 hL hi0] at c9
      omega
    have hi5 : i < 512 := by omega
    have K : ∀ (τX τM : gM) (fo : Nat → Int64) (H : Heap) (locs : List Loc) (cells slots : Nat) (ls : Array Slot), lwW dC dI adX adM caX caM qo co τX τM fo H → Inv (i + 1) τX τM → va_S (fun q => s.heap.size ≤ q) s.heap H locs → cells ≤ 1000 * (i + 2) → slots ≤ 100000 + 1000 * (i + 1) → lv_has ls 7 [(0, .ref b), (1, .ref (adX 0)), (2, .ref (adM 0)), (3, .ref qo), (4, .int (nI (6 * i)))] → W p l e room_1 s m #[Value.ref b] below meth c H locs cells slots (lw_Z below #[Value.ref b] s) (F0 m 1753 ls []) := by
      intro τX τM fo H locs cells slots ls hP hI hS hc1 hc2 hl
      refine lv_iinc (k := 4) (v := nI (6 * (i + 1))) (lv' := [(4, .int (nI (6 * (i + 1)))), (0, .ref b), (1, .ref (adX 0)), (2, .ref (adM 0)), (3, .ref qo)]) hx hb dL_law_1753 hl rfl (show nI (6 * i) + nI 6 = nI (6 * (i + 1)) from nI_add _ 6) (by decide) rfl (fun ls hl => ?_)
      refine lv_goto (tgt := 23) hx hb dL_law_1756 (by decide) ?_
      refine ih (i + 1) τX τM fo H locs cells slots ls (by omega) (by omega) hI hP hS (by omega) (by omega) ⟨hl.1, hl.2.1, fun q hq => hl.2.2 q ?_⟩
      simp only [List.mem_cons, List.not_mem_nil, or_false] at hq
      rcases hq with rfl | rfl | rfl | rfl | rfl <;> simp
    refine lv_aload_n hx hb dL_law_33 rfl (lv_at hl 0 rfl) ?_
    refine lv_iload hx hb dL_law_34 (lv_at hl 4 rfl) ?_
    refine va_sld hx hb hXs hbl hbA hS (vp_in_nI (by omega) (by omega)) dL_law_36 ?_
    refine lv_bipush (v := 63) hx hb dL_law_37 (by decide) ?_
    refine lv_iand hx hb dL_law_39 ?_
    obtain ⟨k, hk, ek⟩ := and63 (xs (nI (6 * i)).toNatClampNeg)
    rw [ek]
    by_cases c46 : 46 ≤ k
    · refine lv_tableOut (tgt := 1753) hx hb dL_law_40 (Or.inr (by rw [nI_toInt (by omega)]; omega)) (by decide) ?_
      exact K σX σM fo H locs cells slots ls hP (Inv_up hI0) hS (by omega) (by omega) hl
    rcases (show k = 0 ∨ k = 1 ∨ k = 2 ∨ k = 3 ∨ k = 4 ∨ k = 5 ∨ k = 6 ∨ k = 7 ∨ k = 8 ∨ k = 9 ∨ k = 10 ∨ k = 11 ∨ k = 12 ∨ k = 13 ∨ k = 14 ∨ k = 15 ∨ k = 16 ∨ k = 17 ∨ k = 18 ∨ k = 19 ∨ k = 20 ∨ k = 21 ∨ k = 22 ∨ k = 23 ∨ k = 24 ∨ k = 25 ∨ k = 26 ∨ k = 27 ∨ k = 28 ∨ k = 29 ∨ k = 30 ∨ k = 31 ∨ k = 32 ∨ k = 33 ∨ k = 34 ∨ k = 35 ∨ k = 36 ∨ k = 37 ∨ k = 38 ∨ k = 39 ∨ k = 40 ∨ k = 41 ∨ k = 42 ∨ k = 43 ∨ k = 44 ∨ k = 45 by omega) with rfl | rfl | rfl | rfl | rfl | rfl | rfl | rfl | rfl | rfl | rfl | rfl | rfl | rfl | rfl | rfl | rfl | rfl | rfl | rfl | rfl | rfl | rfl | rfl | rfl | rfl | rfl | rfl | rfl | rfl | rfl | rfl | rfl | rfl | rfl | rfl | rfl | rfl | rfl | rfl | rfl | rfl | rfl | rfl | rfl | rfl
    · refine lv_tableIn (x := nI 0) (off := 200) (tgt := 240) hx hb dL_law_40 (by decide) (by decide) (by decide) (by decide) ?_
      exact lc0 hh hL hi hi5 ob0 hI0 hP hS hc1 hc2 hl K
    · refine lv_tableIn (x := nI 1) (off := 273) (tgt := 313) hx hb dL_law_40 (by decide) (by decide) (by decide) (by decide) ?_
      exact lc1 hh hL hi hi5 ob1 hI0 hP hS hc1 hc2 hl K
    · refine lv_tableIn (x := nI 2) (off := 298) (tgt := 338) hx hb dL_law_40 (by decide) (by decide) (by decide) (by decide) ?_
      exact lc2 hh hL hi hi5 ob2 hI0 hP hS hc1 hc2 hl K
    · refine lv_tableIn (x := nI 3) (off := 323) (tgt := 363) hx hb dL_law_40 (by decide) (by decide) (by decide) (by decide) ?_
      exact lc3 hh hL hi hi5 ob3 hI0 hP hS hc1 hc2 hl K
    · refine lv_tableIn (x := nI 4) (off := 348) (tgt := 388) hx hb dL_law_40 (by decide) (by decide) (by decide) (by decide) ?_
      exact lc4 hh hL hi hi5 ob4 hI0 hP hS hc1 hc2 hl K
    · refine lv_tableIn (x := nI 5) (off := 373) (tgt := 413) hx hb dL_law_40 (by decide) (by decide) (by decide) (by decide) ?_
      exact lc5 hh hL hi hi5 ob5 hI0 hP hS hc1 hc2 hl K
    · refine lv_tableIn (x := nI 6) (off := 410) (tgt := 450) hx hb dL_law_40 (by decide) (by decide) (by decide) (by decide) ?_
      exact lc6 hh hL hi hi5 ob6 hI0 hP hS hc1 hc2 hl K
    · refine lv_tableIn (x := nI 7) (off := 447) (tgt := 487) hx hb dL_law_40 (by decide) (by decide) (by decide) (by decide) ?_
      exact lc7 hh hL hi hi5 ob7 hI0 hP hS hc1 hc2 hl K
    · refine lv_tableIn (x := nI 8) (off := 472) (tgt := 512) hx hb dL_law_40 (by decide) (by decide) (by decide) (by decide) ?_
      exact lc8 hh hL hi hi5 ob8 hI0 hP hS hc1 hc2 hl K
    · refine lv_tableIn (x := nI 9) (off := 497) (tgt := 537) hx hb dL_law_40 (by decide) (by decide) (by decide) (by decide) ?_
      exact lc9 hh hL hi hi5 ob9 hI0 hP hS hc1 hc2 hl K
    · refine lv_tableIn (x := nI 10) (off := 534) (tgt := 574) hx hb dL_law_40 (by decide) (by decide) (by decide) (by decide) ?_
      exact lc10 hh hL hi hi5 ob10 hI0 hP hS hc1 hc2 hl K
    · refine lv_tableIn (x := nI 11) (off := 571) (tgt := 611) hx hb dL_law_40 (by decide) (by decide) (by decide) (by decide) ?_
      exact lc11 hl0 hT hh hL hi hi5 ob11 hI0 hP hS hc1 hc2 hl K
    · refine lv_tableIn (x := nI 12) (off := 627) (tgt := 667) hx hb dL_law_40 (by decide) (by decide) (by decide) (by decide) ?_
      exact lc12 hh hL hi hi5 ob12 hI0 hP hS hc1 hc2 hl K
    · refine lv_tableIn (x := nI 13) (off := 676) (tgt := 716) hx hb dL_law_40 (by decide) (by decide) (by decide) (by decide) ?_
      exact lc13 hh hL hi hi5 ob13 hI0 hP hS hc1 hc2 hl K
    · refine lv_tableIn (x := nI 14) (off := 713) (tgt := 753) hx hb dL_law_40 (by decide) (by decide) (by decide) (by decide) ?_
      exact lc14 hh hL hi hi5 ob14 hI0 hP hS hc1 hc2 hl K
    · refine lv_tableIn (x := nI 15) (off := 750) (tgt := 790) hx hb dL_law_40 (by decide) (by decide) (by decide) (by decide) ?_
      exact lc15 hh hL hi hi5 ob15 hI0 hP hS hc1 hc2 hl K
    · refine lv_tableIn (x := nI 16) (off := 775) (tgt := 815) hx hb dL_law_40 (by decide) (by decide) (by decide) (by decide) ?_
      exact lc16 hh hL hi hi5 ob16 hI0 hP hS hc1 hc2 hl K
    · refine lv_tableIn (x := nI 17) (off := 800) (tgt := 840) hx hb dL_law_40 (by decide) (by decide) (by decide) (by decide) ?_
      exact lc17 hh hL hi hi5 ob17 hI0 hP hS hc1 hc2 hl K
    · refine lv_tableIn (x := nI 18) (off := 837) (tgt := 877) hx hb dL_law_40 (by decide) (by decide) (by decide) (by decide) ?_
      exact lc18 hh hL hi hi5 ob18 hI0 hP hS hc1 hc2 hl K
    · refine lv_tableIn (x := nI 19) (off := 862) (tgt := 902) hx hb dL_law_40 (by decide) (by decide) (by decide) (by decide) ?_
      exact lc19 hh hL hi hi5 ob19 hI0 hP hS hc1 hc2 hl K
    · refine lv_tableIn (x := nI 20) (off := 923) (tgt := 963) hx hb dL_law_40 (by decide) (by decide) (by decide) (by decide) ?_
      exact lc20 hh hL hi hi5 ob20 hI0 hP hS hc1 hc2 hl K
    · refine lv_tableIn (x := nI 21) (off := 972) (tgt := 1012) hx hb dL_law_40 (by decide) (by decide) (by decide) (by decide) ?_
      exact lc21 hh hL hi hi5 ob21 hI0 hP hS hc1 hc2 hl K
    · refine lv_tableIn (x := nI 22) (off := 985) (tgt := 1025) hx hb dL_law_40 (by decide) (by decide) (by decide) (by decide) ?_
      exact lc22 hh hL hi hi5 ob22 hI0 hP hS hc1 hc2 hl K
    · refine lv_tableIn (x := nI 23) (off := 1046) (tgt := 1086) hx hb dL_law_40 (by decide) (by decide) (by decide) (by decide) ?_
      exact lc23 hh hL hi hi5 ob23 hI0 hP hS hc1 hc2 hl K
    · refine lv_tableIn (x := nI 24) (off := 1115) (tgt := 1155) hx hb dL_law_40 (by decide) (by decide) (by decide) (by decide) ?_
      exact lc24 hh hL hi hi5 ob24 hI0 hP hS hc1 hc2 hl K
    · refine lv_tableIn (x := nI 25) (off := 1140) (tgt := 1180) hx hb dL_law_40 (by decide) (by decide) (by decide) (by decide) ?_
      exact lc25 hh hL hi hi5 ob25 hI0 hP hS hc1 hc2 hl K
    · refine lv_tableIn (x := nI 26) (off := 1153) (tgt := 1193) hx hb dL_law_40 (by decide) (by decide) (by decide) (by decide) ?_
      exact lc26 hh hL hi hi5 ob26 hI0 hP hS hc1 hc2 hl K
    · refine lv_tableIn (x := nI 27) (off := 1190) (tgt := 1230) hx hb dL_law_40 (by decide) (by decide) (by decide) (by decide) ?_
      exact lc27 hh hL hi hi5 ob27 hI0 hP hS hc1 hc2 hl K
    · refine lv_tableIn (x := nI 28) (off := 1227) (tgt := 1267) hx hb dL_law_40 (by decide) (by decide) (by decide) (by decide) ?_
      exact lc28 hh hL hi hi5 ob28 hI0 hP hS hc1 hc2 hl K
    · refine lv_tableIn (x := nI 29) (off := 1300) (tgt := 1340) hx hb dL_law_40 (by decide) (by decide) (by decide) (by decide) ?_
      exact lc29 hh hL hi hi5 ob29 hI0 hP hS hc1 hc2 hl K
    · refine lv_tableIn (x := nI 30) (off := 1337) (tgt := 1377) hx hb dL_law_40 (by decide) (by decide) (by decide) (by decide) ?_
      exact lc30 hh hL hi hi5 ob30 hI0 hP hS hc1 hc2 hl K
    · refine lv_tableIn (x := nI 31) (off := 1350) (tgt := 1390) hx hb dL_law_40 (by decide) (by decide) (by decide) (by decide) ?_
      exact lc31 hh hL hi hi5 ob31 hI0 hP hS hc1 hc2 hl K
    · refine lv_tableIn (x := nI 32) (off := 1375) (tgt := 1415) hx hb dL_law_40 (by decide) (by decide) (by decide) (by decide) ?_
      exact lc32 hh hL hi hi5 ob32 hI0 hP hS hc1 hc2 hl K
    · refine lv_tableIn (x := nI 33) (off := 1388) (tgt := 1428) hx hb dL_law_40 (by decide) (by decide) (by decide) (by decide) ?_
      exact lc33 hh hL hi hi5 ob33 hI0 hP hS hc1 hc2 hl K
    · refine lv_tableIn (x := nI 34) (off := 1413) (tgt := 1453) hx hb dL_law_40 (by decide) (by decide) (by decide) (by decide) ?_
      exact lc34 hh hL hi hi5 ob34 hI0 hP hS hc1 hc2 hl K
    · refine lv_tableIn (x := nI 35) (off := 1426) (tgt := 1466) hx hb dL_law_40 (by decide) (by decide) (by decide) (by decide) ?_
      exact lc35 hh hL hi hi5 ob35 hI0 hP hS hc1 hc2 hl K
    · refine lv_tableIn (x := nI 36) (off := 1451) (tgt := 1491) hx hb dL_law_40 (by decide) (by decide) (by decide) (by decide) ?_
      exact lc36 hh hL hi hi5 ob36 hI0 hP hS hc1 hc2 hl K
    · refine lv_tableIn (x := nI 37) (off := 1464) (tgt := 1504) hx hb dL_law_40 (by decide) (by decide) (by decide) (by decide) ?_
      exact lc37 hh hL hi hi5 ob37 hI0 hP hS hc1 hc2 hl K
    · refine lv_tableIn (x := nI 38) (off := 1489) (tgt := 1529) hx hb dL_law_40 (by decide) (by decide) (by decide) (by decide) ?_
      exact lc38 hh hL hi hi5 ob38 hI0 hP hS hc1 hc2 hl K
    · refine lv_tableIn (x := nI 39) (off := 1526) (tgt := 1566) hx hb dL_law_40 (by decide) (by decide) (by decide) (by decide) ?_
      exact lc39 hh hL hi hi5 ob39 hI0 hP hS hc1 hc2 hl K
    · refine lv_tableIn (x := nI 40) (off := 1575) (tgt := 1615) hx hb dL_law_40 (by decide) (by decide) (by decide) (by decide) ?_
      exact lc40 hh hL hi hi5 ob40 hI0 hP hS hc1 hc2 hl K
    · refine lv_tableIn (x := nI 41) (off := 1612) (tgt := 1652) hx hb dL_law_40 (by decide) (by decide) (by decide) (by decide) ?_
      exact lc41 hh hL hi hi5 ob41 hI0 hP hS hc1 hc2 hl K
    · refine lv_tableIn (x := nI 42) (off := 1637) (tgt := 1677) hx hb dL_law_40 (by decide) (by decide) (by decide) (by decide) ?_
      exact lc42 hh hL hi hi5 ob42 hI0 hP hS hc1 hc2 hl K
    · refine lv_tableIn (x := nI 43) (off := 1662) (tgt := 1702) hx hb dL_law_40 (by decide) (by decide) (by decide) (by decide) ?_
      exact lc43 hh hL hi hi5 ob43 hI0 hP hS hc1 hc2 hl K
    · refine lv_tableIn (x := nI 44) (off := 1675) (tgt := 1715) hx hb dL_law_40 (by decide) (by decide) (by decide) (by decide) ?_
      exact lc44 hh hL hi hi5 ob44 hI0 hP hS hc1 hc2 hl K
    · refine lv_tableIn (x := nI 45) (off := 1688) (tgt := 1728) hx hb dL_law_40 (by decide) (by decide) (by decide) (by decide) ?_
      exact lc45 hh hL hi hi5 ob45 hI0 hP hS hc1 hc2 hl K
end LOOP
