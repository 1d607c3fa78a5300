section WKX2
variable {l : Launch} {dC : Nat → ClassId} {dI : Nat → Nat → Nat} {ad : Nat → Nat} {ca : Nat → ClassId} {X : (Nat → Prop) → State → Heap → Prop}

def fX5_get (i : Nat) (v1 : Int32) (σ : gM) : Option (Int32 × gM) := if v1 < 0 then (some (0, σ)) else (if 8 ≤ v1 then (some (0, σ)) else (if ¬ (v1 < 0 ∨ 8 ≤ v1.toNatClampNeg) then (some (σ.1 (13 + 5 * i) v1.toNatClampNeg, σ)) else none))
set_option maxRecDepth 100000 in
theorem kX5_get (hE : gEX l dC dI ad ca X) (i : Nat) (hi : i < 3)  (v1 : Int32) (σ : gM) {r0 : Int32} {σ' : gM} (h : fX5_get i v1 σ = some (r0, σ')) : g_C l dC dI ad ca shX X yX5_get cX5_get 2 (some .int) (gR 0) [.ref (12 + 5 * i), .int v1] σ (some (.int r0)) σ' := by
  refine g_entry (by decide +kernel) (Nat.le_of_ble_eq_true rfl) ?_
  refine g_lvE (lv1 := [(0, .ref (12 + 5 * i)), (1, .int v1)]) rfl ?_
  unfold fX5_get at h
  refine g_iload_n (pc := 0) dX5_get_0 rfl 1 rfl ?_
  refine g_if_lt (pc := 1) (tgt := 22) dX5_get_1 (by decide) (fun c4 => ?_) (fun c4 => ?_)
  · have h := g_ift c4 h
    refine g_iconst (pc := 22) (v := 0) dX5_get_22 (by decide) ?_
    cases h
    exact g_iret (pc := 23) rfl rfl rfl rfl dX5_get_23
  · have h := g_iff c4 h
    refine g_iload_n (pc := 4) dX5_get_4 rfl 1 rfl ?_
    refine g_aload_n (pc := 5) dX5_get_5 rfl 0 rfl ?_
    refine g_getR (pc := 6) wfX5_11 (sX_row (i := i) hi) rfl dX5_get_6 ?_
    refine g_alen (pc := 9) (sX_rb (i := i) hi) dX5_get_9 ?_
    refine g_icmp_ge (pc := 10) (tgt := 22) dX5_get_10 (by decide) (fun c5 => ?_) (fun c5 => ?_)
    · have h := g_ift c5 h
      refine g_iconst (pc := 22) (v := 0) dX5_get_22 (by decide) ?_
      cases h
      exact g_iret (pc := 23) rfl rfl rfl rfl dX5_get_23
    · have h := g_iff c5 h
      refine g_aload_n (pc := 13) dX5_get_13 rfl 0 rfl ?_
      refine g_getR (pc := 14) wfX5_11 (sX_row (i := i) hi) rfl dX5_get_14 ?_
      refine g_iload_n (pc := 17) dX5_get_17 rfl 1 rfl ?_
      obtain ⟨c6, h⟩ := g_gd h
      refine g_iald (pc := 18) (sX_rb (i := i) hi) c6 rfl dX5_get_18 ?_
      refine g_goto (pc := 19) (tgt := 23) dX5_get_19 (by decide) ?_
      cases h
      exact g_iret (pc := 23) rfl rfl rfl rfl dX5_get_23
def fX5_set (i : Nat) (v1 : Int32) (v2 : Int32) (σ : gM) : Option (gM) := if v1 < 0 then (some σ) else (if 8 ≤ v1 then (some σ) else (if ¬ (v1 < 0 ∨ 8 ≤ v1.toNatClampNeg) then (g_let (g_put σ (13 + 5 * i) v1.toNatClampNeg (v2 &&& 255)) (fun σ9 => some σ9)) else none))
set_option maxRecDepth 100000 in
theorem kX5_set (hE : gEX l dC dI ad ca X) (i : Nat) (hi : i < 3)  (v1 : Int32) (v2 : Int32) (σ : gM) {σ' : gM} (h : fX5_set i v1 v2 σ = some σ') : g_C l dC dI ad ca shX X yX5_set cX5_set 3 none (gR 0) [.ref (12 + 5 * i), .int v1, .int v2] σ none σ' := by
  refine g_entry (by decide +kernel) (Nat.le_of_ble_eq_true rfl) ?_
  refine g_lvE (lv1 := [(0, .ref (12 + 5 * i)), (1, .int v1), (2, .int v2)]) rfl ?_
  unfold fX5_set at h
  refine g_iload_n (pc := 0) dX5_set_0 rfl 1 rfl ?_
  refine g_if_lt (pc := 1) (tgt := 24) dX5_set_1 (by decide) (fun c6 => ?_) (fun c6 => ?_)
  · have h := g_ift c6 h
    cases h
    exact g_vret (pc := 24) rfl rfl rfl dX5_set_24
  · have h := g_iff c6 h
    refine g_iload_n (pc := 4) dX5_set_4 rfl 1 rfl ?_
    refine g_aload_n (pc := 5) dX5_set_5 rfl 0 rfl ?_
    refine g_getR (pc := 6) wfX5_11 (sX_row (i := i) hi) rfl dX5_set_6 ?_
    refine g_alen (pc := 9) (sX_rb (i := i) hi) dX5_set_9 ?_
    refine g_icmp_ge (pc := 10) (tgt := 24) dX5_set_10 (by decide) (fun c7 => ?_) (fun c7 => ?_)
    · have h := g_ift c7 h
      cases h
      exact g_vret (pc := 24) rfl rfl rfl dX5_set_24
    · have h := g_iff c7 h
      refine g_aload_n (pc := 13) dX5_set_13 rfl 0 rfl ?_
      refine g_getR (pc := 14) wfX5_11 (sX_row (i := i) hi) rfl dX5_set_14 ?_
      refine g_iload_n (pc := 17) dX5_set_17 rfl 1 rfl ?_
      refine g_iload_n (pc := 18) dX5_set_18 rfl 2 rfl ?_
      refine g_sipush (pc := 19) (v := 255) dX5_set_19 (by decide) ?_
      refine g_iand (pc := 22) dX5_set_22 ?_
      obtain ⟨c8, h⟩ := g_gd h
      obtain ⟨σ9, e10, h⟩ := g_ltd h
      refine g_iast (pc := 23) (sX_rb (i := i) hi) c8 rfl e10 dX5_set_23 ?_
      cases h
      exact g_vret (pc := 24) rfl rfl rfl dX5_set_24
def fX5_solveParts_b113 (n : Nat) (i : Nat) (s0 : Int32) (s1 : Int32) (σ : gM) : Option (gM) := g_bV (fX5_set i s1 s0 σ) (fun σ46 => some σ46)
set_option maxRecDepth 100000 in
theorem tX5_solveParts_b113 (hE : gEX l dC dI ad ca X) {σ' : gM} (n : Nat) (i : Nat) (hi : i < 3) (s0 : Int32) (s1 : Int32)  (σ : gM) (h : fX5_solveParts_b113 n i s0 s1 σ = some σ') : g_G l dC dI ad ca shX X cX5_solveParts 9 RX5 none (gR 2) none σ' 113 [] [.int s0, .int s1, .ref (12 + 5 * i)] σ := by
  unfold fX5_solveParts_b113 at h
  obtain ⟨σ46, h45, h⟩ := g_bVd h
  refine g_callVv (pc := 113) (st := []) hE.1 wvX5_57 (sX_row (i := i) hi) rfl (kX5_set hE i hi s1 s0 σ h45) rfl (gR_ok (by decide) (by decide)) (Nat.le_of_ble_eq_true rfl) rfl dX5_solveParts_113 ?_
  refine g_goto (pc := 116) (tgt := 164) dX5_solveParts_116 (by decide) ?_
  cases h
  exact g_vret (pc := 164) rfl rfl rfl dX5_solveParts_164
def fX5_solveParts (n : Nat) (i : Nat) (v1 : Int32) (v2 : Int32) (σ : gM) : Option (gM) := g_bI (fJ6_numberOfTrailingZeros_0f7a4 v1 σ) (fun r49 σ48 => g_bI (fJ6_numberOfLeadingZeros_0f7a4 v1 σ48) (fun r52 σ51 => g_bI (fX1_powerOfTwo r49 σ51) (fun r55 σ54 => g_bI (fX1_powerOfTwo (31 - r52) σ54) (fun r58 σ57 => g_bI (fX5_sumForP n i σ57) (fun r61 σ60 => g_bI (fX5_get i (σ60.1 5 6) σ60) (fun r64 σ63 => g_bI (fX1_sumByPowers n i (σ63.1 5 0) σ63) (fun r67 σ66 => g_bI (fX5_get i (σ66.1 5 7) σ66) (fun r70 σ69 => if r49 = (31 - r52) then (if v2 = 0 then (g_bI (fX1_quotient (r67 ^^^ r70) r55 σ69) (fun r88 σ87 => fX5_solveParts_b113 n i r88 r49 σ87)) else (fX5_solveParts_b113 n i (r61 ^^^ r64) r49 σ69)) else (g_bI (fX1_product (r61 ^^^ r64) r58 σ69) (fun r74 σ73 => g_bI (fX1_quotient ((r67 ^^^ r70) ^^^ r74) (r55 ^^^ r58) σ73) (fun r77 σ76 => g_bV (fX5_set i r49 r77 σ76) (fun σ79 => g_bI (fX5_get i r49 σ79) (fun r82 σ81 => g_bV (fX5_set i (31 - r52) ((r61 ^^^ r64) ^^^ r82) σ81) (fun σ84 => some σ84))))))))))))))
set_option maxRecDepth 100000 in
theorem kX5_solveParts (hE : gEX l dC dI ad ca X) (n : Nat) (i : Nat) (hi : i < 3)  (v1 : Int32) (v2 : Int32) (σ : gM) {σ' : gM} (h : fX5_solveParts n i v1 v2 σ = some σ') : g_C l dC dI ad ca shX X yX5_solveParts cX5_solveParts 9 none (gR 2) [.ref (12 + 5 * i), .int v1, .int v2] σ none σ' := by
  refine g_entry (by decide +kernel) (Nat.le_of_ble_eq_true rfl) ?_
  refine g_lvE (lv1 := [(0, .ref (12 + 5 * i)), (1, .int v1), (2, .int v2)]) rfl ?_
  unfold fX5_solveParts at h
  refine g_iload_n (pc := 0) dX5_solveParts_0 rfl 1 rfl ?_
  obtain ⟨r49, σ48, h47, h⟩ := g_bId h
  refine g_callSi (pc := 1) (st := []) hE.1 wsX5_73 (kJ6_numberOfTrailingZeros_0f7a4 hE v1 σ h47) rfl (gR_ok (by decide) (by decide)) (Nat.le_of_ble_eq_true rfl) rfl dX5_solveParts_1 ?_
  refine g_istore_n (pc := 4) (lv1 := [(3, .int r49), (0, .ref (12 + 5 * i)), (1, .int v1), (2, .int v2)]) dX5_solveParts_4 rfl (by decide) rfl ?_
  refine g_bipush (pc := 5) (v := 31) dX5_solveParts_5 (by decide) ?_
  refine g_iload_n (pc := 7) dX5_solveParts_7 rfl 2 rfl ?_
  obtain ⟨r52, σ51, h50, h⟩ := g_bId h
  refine g_callSi (pc := 8) (st := [.int 31]) hE.1 wsX5_79 (kJ6_numberOfLeadingZeros_0f7a4 hE v1 σ48 h50) rfl (gR_ok (by decide) (by decide)) (Nat.le_of_ble_eq_true rfl) rfl dX5_solveParts_8 ?_
  refine g_isub (pc := 11) dX5_solveParts_11 ?_
  refine g_istore (pc := 12) (lv1 := [(4, .int (31 - r52)), (3, .int r49), (0, .ref (12 + 5 * i)), (1, .int v1), (2, .int v2)]) dX5_solveParts_12 (by decide) rfl ?_
  refine g_aload_n (pc := 14) dX5_solveParts_14 rfl 2 rfl ?_
  refine g_getR (pc := 15) wfX5_21 (sX_row (i := i) hi) rfl dX5_solveParts_15 ?_
  refine g_iload_n (pc := 18) dX5_solveParts_18 rfl 1 rfl ?_
  obtain ⟨r55, σ54, h53, h⟩ := g_bId h
  refine g_callVi (pc := 19) (st := []) hE.1 wvX5_82 rfl rfl (kX1_powerOfTwo hE r49 σ51 h53) rfl (gR_ok (by decide) (by decide)) (Nat.le_of_ble_eq_true rfl) rfl dX5_solveParts_19 ?_
  refine g_istore (pc := 22) (lv1 := [(5, .int r55), (4, .int (31 - r52)), (3, .int r49), (0, .ref (12 + 5 * i)), (1, .int v1), (2, .int v2)]) dX5_solveParts_22 (by decide) rfl ?_
  refine g_aload_n (pc := 24) dX5_solveParts_24 rfl 3 rfl ?_
  refine g_getR (pc := 25) wfX5_21 (sX_row (i := i) hi) rfl dX5_solveParts_25 ?_
  refine g_iload (pc := 28) dX5_solveParts_28 1 rfl ?_
  obtain ⟨r58, σ57, h56, h⟩ := g_bId h
  refine g_callVi (pc := 30) (st := []) hE.1 wvX5_82 rfl rfl (kX1_powerOfTwo hE (31 - r52) σ54 h56) rfl (gR_ok (by decide) (by decide)) (Nat.le_of_ble_eq_true rfl) rfl dX5_solveParts_30 ?_
  refine g_istore (pc := 33) (lv1 := [(6, .int r58), (5, .int r55), (4, .int (31 - r52)), (3, .int r49), (0, .ref (12 + 5 * i)), (1, .int v1), (2, .int v2)]) dX5_solveParts_33 (by decide) rfl ?_
  refine g_aload_n (pc := 35) dX5_solveParts_35 rfl 4 rfl ?_
  obtain ⟨r61, σ60, h59, h⟩ := g_bId h
  refine g_callVi (pc := 36) (st := []) hE.1 wvX5_53 (sX_row (i := i) hi) rfl (kX5_sumForP hE n i hi σ57 h59) rfl (gR_ok (by decide) (by decide)) (Nat.le_of_ble_eq_true rfl) rfl dX5_solveParts_36 ?_
  refine g_aload_n (pc := 39) dX5_solveParts_39 rfl 4 rfl ?_
  refine g_aload_n (pc := 40) dX5_solveParts_40 rfl 4 rfl ?_
  refine g_getR (pc := 41) wfX5_17 (sX_row (i := i) hi) rfl dX5_solveParts_41 ?_
  refine g_getI (pc := 44) wfX5_46 rfl rfl dX5_solveParts_44 ?_
  obtain ⟨r64, σ63, h62, h⟩ := g_bId h
  refine g_callVi (pc := 47) (st := [.int r61]) hE.1 wvX5_85 (sX_row (i := i) hi) rfl (kX5_get hE i hi (σ60.1 5 6) σ60 h62) rfl (gR_ok (by decide) (by decide)) (Nat.le_of_ble_eq_true rfl) rfl dX5_solveParts_47 ?_
  refine g_ixor (pc := 50) dX5_solveParts_50 ?_
  refine g_istore (pc := 51) (lv1 := [(7, .int (r61 ^^^ r64)), (6, .int r58), (5, .int r55), (4, .int (31 - r52)), (3, .int r49), (0, .ref (12 + 5 * i)), (1, .int v1), (2, .int v2)]) dX5_solveParts_51 (by decide) rfl ?_
  refine g_aload_n (pc := 53) dX5_solveParts_53 rfl 5 rfl ?_
  refine g_getR (pc := 54) wfX5_21 (sX_row (i := i) hi) rfl dX5_solveParts_54 ?_
  refine g_aload_n (pc := 57) dX5_solveParts_57 rfl 5 rfl ?_
  refine g_getR (pc := 58) wfX5_11 (sX_row (i := i) hi) rfl dX5_solveParts_58 ?_
  refine g_aload_n (pc := 61) dX5_solveParts_61 rfl 5 rfl ?_
  refine g_getR (pc := 62) wfX5_17 (sX_row (i := i) hi) rfl dX5_solveParts_62 ?_
  refine g_getI (pc := 65) wfX5_64 rfl rfl dX5_solveParts_65 ?_
  obtain ⟨r67, σ66, h65, h⟩ := g_bId h
  refine g_callVi (pc := 68) (st := []) hE.1 wvX5_67 rfl rfl (kX1_sumByPowers hE n i hi (σ63.1 5 0) σ63 h65) rfl (gR_ok (by decide) (by decide)) (Nat.le_of_ble_eq_true rfl) rfl dX5_solveParts_68 ?_
  refine g_aload_n (pc := 71) dX5_solveParts_71 rfl 5 rfl ?_
  refine g_aload_n (pc := 72) dX5_solveParts_72 rfl 5 rfl ?_
  refine g_getR (pc := 73) wfX5_17 (sX_row (i := i) hi) rfl dX5_solveParts_73 ?_
  refine g_getI (pc := 76) wfX5_61 rfl rfl dX5_solveParts_76 ?_
  obtain ⟨r70, σ69, h68, h⟩ := g_bId h
  refine g_callVi (pc := 79) (st := [.int r67]) hE.1 wvX5_85 (sX_row (i := i) hi) rfl (kX5_get hE i hi (σ66.1 5 7) σ66 h68) rfl (gR_ok (by decide) (by decide)) (Nat.le_of_ble_eq_true rfl) rfl dX5_solveParts_79 ?_
  refine g_ixor (pc := 82) dX5_solveParts_82 ?_
  refine g_istore (pc := 83) (lv1 := [(8, .int (r67 ^^^ r70)), (7, .int (r61 ^^^ r64)), (6, .int r58), (5, .int r55), (4, .int (31 - r52)), (3, .int r49), (0, .ref (12 + 5 * i)), (1, .int v1), (2, .int v2)]) dX5_solveParts_83 (by decide) rfl ?_
  refine g_iload_n (pc := 85) dX5_solveParts_85 rfl 5 rfl ?_
  refine g_iload (pc := 86) dX5_solveParts_86 4 rfl ?_
  refine g_icmp_ne (pc := 88) (tgt := 119) dX5_solveParts_88 (by decide) (fun c71 => ?_) (fun c71 => ?_)
  · have h := g_iff c71 h
    refine g_aload_n (pc := 119) dX5_solveParts_119 rfl 6 rfl ?_
    refine g_iload_n (pc := 120) dX5_solveParts_120 rfl 5 rfl ?_
    refine g_aload_n (pc := 121) dX5_solveParts_121 rfl 6 rfl ?_
    refine g_getR (pc := 122) wfX5_21 (sX_row (i := i) hi) rfl dX5_solveParts_122 ?_
    refine g_iload (pc := 125) dX5_solveParts_125 0 rfl ?_
    refine g_aload_n (pc := 127) dX5_solveParts_127 rfl 6 rfl ?_
    refine g_getR (pc := 128) wfX5_21 (sX_row (i := i) hi) rfl dX5_solveParts_128 ?_
    refine g_iload (pc := 131) dX5_solveParts_131 1 rfl ?_
    refine g_iload (pc := 133) dX5_solveParts_133 2 rfl ?_
    obtain ⟨r74, σ73, h72, h⟩ := g_bId h
    refine g_callVi (pc := 135) (st := [.int (r67 ^^^ r70), .ref 6, .int r49, .ref (12 + 5 * i)]) hE.1 wvX5_91 rfl rfl (kX1_product hE (r61 ^^^ r64) r58 σ69 h72) rfl (gR_ok (by decide) (by decide)) (Nat.le_of_ble_eq_true rfl) rfl dX5_solveParts_135 ?_
    refine g_ixor (pc := 138) dX5_solveParts_138 ?_
    refine g_iload (pc := 139) dX5_solveParts_139 3 rfl ?_
    refine g_iload (pc := 141) dX5_solveParts_141 2 rfl ?_
    refine g_ixor (pc := 143) dX5_solveParts_143 ?_
    obtain ⟨r77, σ76, h75, h⟩ := g_bId h
    refine g_callVi (pc := 144) (st := [.int r49, .ref (12 + 5 * i)]) hE.1 wvX5_88 rfl rfl (kX1_quotient hE ((r67 ^^^ r70) ^^^ r74) (r55 ^^^ r58) σ73 h75) rfl (gR_ok (by decide) (by decide)) (Nat.le_of_ble_eq_true rfl) rfl dX5_solveParts_144 ?_
    obtain ⟨σ79, h78, h⟩ := g_bVd h
    refine g_callVv (pc := 147) (st := []) hE.1 wvX5_57 (sX_row (i := i) hi) rfl (kX5_set hE i hi r49 r77 σ76 h78) rfl (gR_ok (by decide) (by decide)) (Nat.le_of_ble_eq_true rfl) rfl dX5_solveParts_147 ?_
    refine g_aload_n (pc := 150) dX5_solveParts_150 rfl 6 rfl ?_
    refine g_iload (pc := 151) dX5_solveParts_151 4 rfl ?_
    refine g_iload (pc := 153) dX5_solveParts_153 1 rfl ?_
    refine g_aload_n (pc := 155) dX5_solveParts_155 rfl 6 rfl ?_
    refine g_iload_n (pc := 156) dX5_solveParts_156 rfl 5 rfl ?_
    obtain ⟨r82, σ81, h80, h⟩ := g_bId h
    refine g_callVi (pc := 157) (st := [.int (r61 ^^^ r64), .int (31 - r52), .ref (12 + 5 * i)]) hE.1 wvX5_85 (sX_row (i := i) hi) rfl (kX5_get hE i hi r49 σ79 h80) rfl (gR_ok (by decide) (by decide)) (Nat.le_of_ble_eq_true rfl) rfl dX5_solveParts_157 ?_
    refine g_ixor (pc := 160) dX5_solveParts_160 ?_
    obtain ⟨σ84, h83, h⟩ := g_bVd h
    refine g_callVv (pc := 161) (st := []) hE.1 wvX5_57 (sX_row (i := i) hi) rfl (kX5_set hE i hi (31 - r52) ((r61 ^^^ r64) ^^^ r82) σ81 h83) rfl (gR_ok (by decide) (by decide)) (Nat.le_of_ble_eq_true rfl) rfl dX5_solveParts_161 ?_
    cases h
    exact g_vret (pc := 164) rfl rfl rfl dX5_solveParts_164
  · have h := g_ift c71 h
    refine g_aload_n (pc := 91) dX5_solveParts_91 rfl 6 rfl ?_
    refine g_iload_n (pc := 92) dX5_solveParts_92 rfl 5 rfl ?_
    refine g_iload_n (pc := 93) dX5_solveParts_93 rfl 8 rfl ?_
    refine g_if_eq (pc := 94) (tgt := 102) dX5_solveParts_94 (by decide) (fun c85 => ?_) (fun c85 => ?_)
    · have h := g_ift c85 h
      refine g_aload_n (pc := 102) dX5_solveParts_102 rfl 6 rfl ?_
      refine g_getR (pc := 103) wfX5_21 (sX_row (i := i) hi) rfl dX5_solveParts_103 ?_
      refine g_iload (pc := 106) dX5_solveParts_106 0 rfl ?_
      refine g_iload (pc := 108) dX5_solveParts_108 3 rfl ?_
      obtain ⟨r88, σ87, h86, h⟩ := g_bId h
      refine g_callVi (pc := 110) (st := [.int r49, .ref (12 + 5 * i)]) hE.1 wvX5_88 rfl rfl (kX1_quotient hE (r67 ^^^ r70) r55 σ69 h86) rfl (gR_ok (by decide) (by decide)) (Nat.le_of_ble_eq_true rfl) rfl dX5_solveParts_110 ?_
      exact g_lv [] rfl (tX5_solveParts_b113 hE n i hi r88 r49 σ87 h)
    · have h := g_iff c85 h
      refine g_iload (pc := 97) dX5_solveParts_97 1 rfl ?_
      refine g_goto (pc := 99) (tgt := 113) dX5_solveParts_99 (by decide) ?_
      exact g_lv [] rfl (tX5_solveParts_b113 hE n i hi (r61 ^^^ r64) r49 σ69 h)
def fX5_gather_b76 (n : Nat) (i : Nat) (j : Nat) (v4 : Int32) (σ : gM) : Option (gM) := if ((v4 >>> ((σ.1 5 7) &&& 31)) &&& 1) = 0 then (some σ) else (g_bI (fX1_sumByPowers n i (σ.1 5 0) σ) (fun r22 σ21 => g_bV (fX5_set i (σ.1 5 7) r22 σ21) (fun σ24 => some σ24)))
set_option maxRecDepth 100000 in
theorem tX5_gather_b76 (hE : gEX l dC dI ad ca X) {σ' : gM} (n : Nat) (i : Nat) (hi : i < 3) (j : Nat) (hj : j < 3) (v4 : Int32)  (σ : gM) (h : fX5_gather_b76 n i j v4 σ = some σ') : g_G l dC dI ad ca shX X cX5_gather 7 RX5 none (gR 3) none σ' 76 [(0, .ref (12 + 5 * i)), (4, .int v4)] [] σ := by
  unfold fX5_gather_b76 at h
  refine g_iload (pc := 76) dX5_gather_76 1 rfl ?_
  refine g_aload_n (pc := 78) dX5_gather_78 rfl 0 rfl ?_
  refine g_getR (pc := 79) wfX5_17 (sX_row (i := i) hi) rfl dX5_gather_79 ?_
  refine g_getI (pc := 82) wfX5_61 rfl rfl dX5_gather_82 ?_
  refine g_ishr (pc := 85) dX5_gather_85 ?_
  refine g_iconst (pc := 86) (v := 1) dX5_gather_86 (by decide) ?_
  refine g_iand (pc := 87) dX5_gather_87 ?_
  refine g_if_eq (pc := 88) (tgt := 120) dX5_gather_88 (by decide) (fun c19 => ?_) (fun c19 => ?_)
  · have h := g_ift c19 h
    cases h
    exact g_vret (pc := 120) rfl rfl rfl dX5_gather_120
  · have h := g_iff c19 h
    refine g_aload_n (pc := 91) dX5_gather_91 rfl 0 rfl ?_
    refine g_aload_n (pc := 92) dX5_gather_92 rfl 0 rfl ?_
    refine g_getR (pc := 93) wfX5_17 (sX_row (i := i) hi) rfl dX5_gather_93 ?_
    refine g_getI (pc := 96) wfX5_61 rfl rfl dX5_gather_96 ?_
    refine g_aload_n (pc := 99) dX5_gather_99 rfl 0 rfl ?_
    refine g_getR (pc := 100) wfX5_21 (sX_row (i := i) hi) rfl dX5_gather_100 ?_
    refine g_aload_n (pc := 103) dX5_gather_103 rfl 0 rfl ?_
    refine g_getR (pc := 104) wfX5_11 (sX_row (i := i) hi) rfl dX5_gather_104 ?_
    refine g_aload_n (pc := 107) dX5_gather_107 rfl 0 rfl ?_
    refine g_getR (pc := 108) wfX5_17 (sX_row (i := i) hi) rfl dX5_gather_108 ?_
    refine g_getI (pc := 111) wfX5_64 rfl rfl dX5_gather_111 ?_
    obtain ⟨r22, σ21, h20, h⟩ := g_bId h
    refine g_callVi (pc := 114) (st := [.int (σ.1 5 7), .ref (12 + 5 * i)]) hE.1 wvX5_67 rfl rfl (kX1_sumByPowers hE n i hi (σ.1 5 0) σ h20) rfl (gR_ok (by decide) (by decide)) (Nat.le_of_ble_eq_true rfl) rfl dX5_gather_114 ?_
    obtain ⟨σ24, h23, h⟩ := g_bVd h
    refine g_callVv (pc := 117) (st := []) hE.1 wvX5_57 (sX_row (i := i) hi) rfl (kX5_set hE i hi (σ.1 5 7) r22 σ21 h23) rfl (gR_ok (by decide) (by decide)) (Nat.le_of_ble_eq_true rfl) rfl dX5_gather_117 ?_
    cases h
    exact g_vret (pc := 120) rfl rfl rfl dX5_gather_120
def fX5_gather_b56 (n : Nat) (i : Nat) (j : Nat) (v4 : Int32) (v6 : Int32) (σ : gM) : Option (gM) := if v6 = 0 then (g_bI (fX5_sumForP n i σ) (fun r28 σ27 => g_bV (fX5_set i (σ.1 5 6) r28 σ27) (fun σ30 => fX5_gather_b76 n i j v4 σ30))) else (fX5_gather_b76 n i j v4 σ)
set_option maxRecDepth 100000 in
theorem tX5_gather_b56 (hE : gEX l dC dI ad ca X) {σ' : gM} (n : Nat) (i : Nat) (hi : i < 3) (j : Nat) (hj : j < 3) (v4 : Int32) (v6 : Int32)  (σ : gM) (h : fX5_gather_b56 n i j v4 v6 σ = some σ') : g_G l dC dI ad ca shX X cX5_gather 7 RX5 none (gR 3) none σ' 56 [(0, .ref (12 + 5 * i)), (4, .int v4), (6, .int v6)] [] σ := by
  unfold fX5_gather_b56 at h
  refine g_iload (pc := 56) dX5_gather_56 2 rfl ?_
  refine g_if_ne (pc := 58) (tgt := 76) dX5_gather_58 (by decide) (fun c25 => ?_) (fun c25 => ?_)
  · have h := g_iff c25 h
    exact g_lv [0, 1] rfl (tX5_gather_b76 hE n i hi j hj v4 σ h)
  · have h := g_ift c25 h
    refine g_aload_n (pc := 61) dX5_gather_61 rfl 0 rfl ?_
    refine g_aload_n (pc := 62) dX5_gather_62 rfl 0 rfl ?_
    refine g_getR (pc := 63) wfX5_17 (sX_row (i := i) hi) rfl dX5_gather_63 ?_
    refine g_getI (pc := 66) wfX5_46 rfl rfl dX5_gather_66 ?_
    refine g_aload_n (pc := 69) dX5_gather_69 rfl 0 rfl ?_
    obtain ⟨r28, σ27, h26, h⟩ := g_bId h
    refine g_callVi (pc := 70) (st := [.int (σ.1 5 6), .ref (12 + 5 * i)]) hE.1 wvX5_53 (sX_row (i := i) hi) rfl (kX5_sumForP hE n i hi σ h26) rfl (gR_ok (by decide) (by decide)) (Nat.le_of_ble_eq_true rfl) rfl dX5_gather_70 ?_
    obtain ⟨σ30, h29, h⟩ := g_bVd h
    refine g_callVv (pc := 73) (st := []) hE.1 wvX5_57 (sX_row (i := i) hi) rfl (kX5_set hE i hi (σ.1 5 6) r28 σ27 h29) rfl (gR_ok (by decide) (by decide)) (Nat.le_of_ble_eq_true rfl) rfl dX5_gather_73 ?_
    exact g_lv [0, 1] rfl (tX5_gather_b76 hE n i hi j hj v4 σ30 h)
def fX5_gather_b41 (n : Nat) (i : Nat) (j : Nat) (v4 : Int32) (v5 : Int32) (s0 : Int32) (σ : gM) : Option (gM) := if v5 = 0 then (fX5_gather_b56 n i j v4 s0 σ) else (g_bV (fX5_solveParts n i v5 s0 σ) (fun σ33 => fX5_gather_b56 n i j v4 s0 σ33))
set_option maxRecDepth 100000 in
theorem tX5_gather_b41 (hE : gEX l dC dI ad ca X) {σ' : gM} (n : Nat) (i : Nat) (hi : i < 3) (j : Nat) (hj : j < 3) (v4 : Int32) (v5 : Int32) (s0 : Int32)  (σ : gM) (h : fX5_gather_b41 n i j v4 v5 s0 σ = some σ') : g_G l dC dI ad ca shX X cX5_gather 7 RX5 none (gR 3) none σ' 41 [(0, .ref (12 + 5 * i)), (4, .int v4), (5, .int v5)] [.int s0] σ := by
  unfold fX5_gather_b41 at h
  refine g_istore (pc := 41) (lv1 := [(6, .int s0), (0, .ref (12 + 5 * i)), (4, .int v4), (5, .int v5)]) dX5_gather_41 (by decide) rfl ?_
  refine g_iload (pc := 43) dX5_gather_43 3 rfl ?_
  refine g_if_eq (pc := 45) (tgt := 56) dX5_gather_45 (by decide) (fun c31 => ?_) (fun c31 => ?_)
  · have h := g_ift c31 h
    exact g_lv [1, 2, 0] rfl (tX5_gather_b56 hE n i hi j hj v4 s0 σ h)
  · have h := g_iff c31 h
    refine g_aload_n (pc := 48) dX5_gather_48 rfl 1 rfl ?_
    refine g_iload (pc := 49) dX5_gather_49 3 rfl ?_
    refine g_iload (pc := 51) dX5_gather_51 0 rfl ?_
    obtain ⟨σ33, h32, h⟩ := g_bVd h
    refine g_callVv (pc := 53) (st := []) hE.1 wvX5_49 (sX_row (i := i) hi) rfl (kX5_solveParts hE n i hi v5 s0 σ h32) rfl (gR_ok (by decide) (by decide)) (Nat.le_of_ble_eq_true rfl) rfl dX5_gather_53 ?_
    exact g_lv [1, 2, 0] rfl (tX5_gather_b56 hE n i hi j hj v4 s0 σ33 h)
def fX5_gather (n : Nat) (i : Nat) (j : Nat) (v2 : Int32) (v3 : Int32) (v4 : Int32) (σ : gM) : Option (gM) := g_bV (fX5_load n i j v2 v3 v4 σ) (fun σ35 => if ((v4 >>> ((σ35.1 5 6) &&& 31)) &&& 1) = 0 then (fX5_gather_b41 n i j v4 (v4 &&& (σ35.1 5 8)) 1 σ35) else (fX5_gather_b41 n i j v4 (v4 &&& (σ35.1 5 8)) 0 σ35))
set_option maxRecDepth 100000 in
theorem kX5_gather (hE : gEX l dC dI ad ca X) (n : Nat) (i : Nat) (hi : i < 3) (j : Nat) (hj : j < 3)  (v2 : Int32) (v3 : Int32) (v4 : Int32) (σ : gM) {σ' : gM} (h : fX5_gather n i j v2 v3 v4 σ = some σ') : g_C l dC dI ad ca shX X yX5_gather cX5_gather 7 none (gR 3) [.ref (12 + 5 * i), .ref (10 + 5 * j), .int v2, .int v3, .int v4] σ none σ' := by
  refine g_entry (by decide +kernel) (Nat.le_of_ble_eq_true rfl) ?_
  refine g_lvE (lv1 := [(0, .ref (12 + 5 * i)), (1, .ref (10 + 5 * j)), (2, .int v2), (3, .int v3), (4, .int v4)]) rfl ?_
  unfold fX5_gather at h
  refine g_aload_n (pc := 0) dX5_gather_0 rfl 0 rfl ?_
  refine g_aload_n (pc := 1) dX5_gather_1 rfl 1 rfl ?_
  refine g_iload_n (pc := 2) dX5_gather_2 rfl 2 rfl ?_
  refine g_iload_n (pc := 3) dX5_gather_3 rfl 3 rfl ?_
  refine g_iload (pc := 4) dX5_gather_4 4 rfl ?_
  obtain ⟨σ35, h34, h⟩ := g_bVd h
  refine g_callVv (pc := 6) (st := []) hE.1 wvX5_39 (sX_row (i := i) hi) rfl (kX5_load hE n i hi j hj v2 v3 v4 σ h34) rfl (gR_ok (by decide) (by decide)) (Nat.le_of_ble_eq_true rfl) rfl dX5_gather_6 ?_
  refine g_iload (pc := 9) dX5_gather_9 4 rfl ?_
  refine g_aload_n (pc := 11) dX5_gather_11 rfl 0 rfl ?_
  refine g_getR (pc := 12) wfX5_17 (sX_row (i := i) hi) rfl dX5_gather_12 ?_
  refine g_getI (pc := 15) wfX5_43 rfl rfl dX5_gather_15 ?_
  refine g_iand (pc := 18) dX5_gather_18 ?_
  refine g_istore (pc := 19) (lv1 := [(5, .int (v4 &&& (σ35.1 5 8))), (0, .ref (12 + 5 * i)), (1, .ref (10 + 5 * j)), (2, .int v2), (3, .int v3), (4, .int v4)]) dX5_gather_19 (by decide) rfl ?_
  refine g_iload (pc := 21) dX5_gather_21 5 rfl ?_
  refine g_aload_n (pc := 23) dX5_gather_23 rfl 1 rfl ?_
  refine g_getR (pc := 24) wfX5_17 (sX_row (i := i) hi) rfl dX5_gather_24 ?_
  refine g_getI (pc := 27) wfX5_46 rfl rfl dX5_gather_27 ?_
  refine g_ishr (pc := 30) dX5_gather_30 ?_
  refine g_iconst (pc := 31) (v := 1) dX5_gather_31 (by decide) ?_
  refine g_iand (pc := 32) dX5_gather_32 ?_
  refine g_if_ne (pc := 33) (tgt := 40) dX5_gather_33 (by decide) (fun c36 => ?_) (fun c36 => ?_)
  · have h := g_iff c36 h
    refine g_iconst (pc := 40) (v := 0) dX5_gather_40 (by decide) ?_
    exact g_lv [1, 5, 0] rfl (tX5_gather_b41 hE n i hi j hj v4 (v4 &&& (σ35.1 5 8)) 0 σ35 h)
  · have h := g_ift c36 h
    refine g_iconst (pc := 36) (v := 1) dX5_gather_36 (by decide) ?_
    refine g_goto (pc := 37) (tgt := 41) dX5_gather_37 (by decide) ?_
    exact g_lv [1, 5, 0] rfl (tX5_gather_b41 hE n i hi j hj v4 (v4 &&& (σ35.1 5 8)) 1 σ35 h)
def fX4_toldOf (n : Nat) (v1 : Int32) (v2 : Int32) (v3 : Int32) (v4 : Int32) (v5 : Int32) (σ : gM) : Option (Int32 × gM) := g_bI (fX6_partOn v4 v2 σ) (fun r21 σ20 => g_bI (fX6_partOn v5 v2 σ20) (fun r24 σ23 => g_bI (fX8_missing n 0 v2 σ23) (fun r27 σ26 => if (r27 &&& (((1 <<< (r21 &&& 31)) ||| (1 <<< (r24 &&& 31))) ^^^ (-1))) = 0 then (g_bV (fX5_gather n 0 0 v2 v3 ((1 <<< (r21 &&& 31)) ||| (1 <<< (r24 &&& 31))) σ26) (fun σ30 => g_bI (fX6_partOn v1 v2 σ30) (fun r33 σ32 => g_bI (fX5_get 0 r33 σ32) (fun r36 σ35 => some (r36, σ35))))) else (some ((-1000000), σ26)))))
set_option maxRecDepth 100000 in
theorem kX4_toldOf (hE : gEX l dC dI ad ca X) (n : Nat)  (v1 : Int32) (v2 : Int32) (v3 : Int32) (v4 : Int32) (v5 : Int32) (σ : gM) {r0 : Int32} {σ' : gM} (h : fX4_toldOf n v1 v2 v3 v4 v5 σ = some (r0, σ')) : g_C l dC dI ad ca shX X yX4_toldOf cX4_toldOf 7 (some .int) (gR 4) [.ref 24, .int v1, .int v2, .int v3, .int v4, .int v5] σ (some (.int r0)) σ' := by
  refine g_entry (by decide +kernel) (Nat.le_of_ble_eq_true rfl) ?_
  refine g_lvE (lv1 := [(0, .ref 24), (1, .int v1), (2, .int v2), (3, .int v3), (4, .int v4), (5, .int v5)]) rfl ?_
  unfold fX4_toldOf at h
  refine g_iconst (pc := 0) (v := 1) dX4_toldOf_0 (by decide) ?_
  refine g_aload_n (pc := 1) dX4_toldOf_1 rfl 0 rfl ?_
  refine g_getR (pc := 2) wfX4_21 rfl rfl dX4_toldOf_2 ?_
  refine g_iload (pc := 5) dX4_toldOf_5 4 rfl ?_
  refine g_iload_n (pc := 7) dX4_toldOf_7 rfl 2 rfl ?_
  obtain ⟨r21, σ20, h19, h⟩ := g_bId h
  refine g_callVi (pc := 8) (st := [.int 1]) hE.1 wvX4_50 rfl rfl (kX6_partOn hE v4 v2 σ h19) rfl (gR_ok (by decide) (by decide)) (Nat.le_of_ble_eq_true rfl) rfl dX4_toldOf_8 ?_
  refine g_ishl (pc := 11) dX4_toldOf_11 ?_
  refine g_iconst (pc := 12) (v := 1) dX4_toldOf_12 (by decide) ?_
  refine g_aload_n (pc := 13) dX4_toldOf_13 rfl 0 rfl ?_
  refine g_getR (pc := 14) wfX4_21 rfl rfl dX4_toldOf_14 ?_
  refine g_iload (pc := 17) dX4_toldOf_17 5 rfl ?_
  refine g_iload_n (pc := 19) dX4_toldOf_19 rfl 2 rfl ?_
  obtain ⟨r24, σ23, h22, h⟩ := g_bId h
  refine g_callVi (pc := 20) (st := [.int 1, .int (1 <<< (r21 &&& 31))]) hE.1 wvX4_50 rfl rfl (kX6_partOn hE v5 v2 σ20 h22) rfl (gR_ok (by decide) (by decide)) (Nat.le_of_ble_eq_true rfl) rfl dX4_toldOf_20 ?_
  refine g_ishl (pc := 23) dX4_toldOf_23 ?_
  refine g_ior (pc := 24) dX4_toldOf_24 ?_
  refine g_istore (pc := 25) (lv1 := [(6, .int ((1 <<< (r21 &&& 31)) ||| (1 <<< (r24 &&& 31)))), (0, .ref 24), (1, .int v1), (2, .int v2), (3, .int v3), (4, .int v4), (5, .int v5)]) dX4_toldOf_25 (by decide) rfl ?_
  refine g_aload_n (pc := 27) dX4_toldOf_27 rfl 1 rfl ?_
  refine g_getR (pc := 28) wfX4_9 rfl rfl dX4_toldOf_28 ?_
  refine g_iload_n (pc := 31) dX4_toldOf_31 rfl 3 rfl ?_
  obtain ⟨r27, σ26, h25, h⟩ := g_bId h
  refine g_callVi (pc := 32) (st := []) hE.1 wvX4_31 (sX_shelf (i := 0) (by decide)) rfl (kX8_missing hE n 0 (by decide) v2 σ23 h25) rfl (gR_ok (by decide) (by decide)) (Nat.le_of_ble_eq_true rfl) rfl dX4_toldOf_32 ?_
  refine g_iload (pc := 35) dX4_toldOf_35 0 rfl ?_
  refine g_iconst (pc := 37) (v := (-1)) dX4_toldOf_37 (by decide) ?_
  refine g_ixor (pc := 38) dX4_toldOf_38 ?_
  refine g_iand (pc := 39) dX4_toldOf_39 ?_
  refine g_if_eq (pc := 40) (tgt := 46) dX4_toldOf_40 (by decide) (fun c28 => ?_) (fun c28 => ?_)
  · have h := g_ift c28 h
    refine g_aload_n (pc := 46) dX4_toldOf_46 rfl 1 rfl ?_
    refine g_getR (pc := 47) wfX4_9 rfl rfl dX4_toldOf_47 ?_
    refine g_getR (pc := 50) wfX4_54 (sX_shelf (i := 0) (by decide)) rfl dX4_toldOf_50 ?_
    refine g_aload_n (pc := 53) dX4_toldOf_53 rfl 1 rfl ?_
    refine g_getR (pc := 54) wfX4_9 rfl rfl dX4_toldOf_54 ?_
    refine g_getR (pc := 57) wfX4_58 (sX_shelf (i := 0) (by decide)) rfl dX4_toldOf_57 ?_
    refine g_iload_n (pc := 60) dX4_toldOf_60 rfl 3 rfl ?_
    refine g_iload_n (pc := 61) dX4_toldOf_61 rfl 4 rfl ?_
    refine g_iload (pc := 62) dX4_toldOf_62 0 rfl ?_
    obtain ⟨σ30, h29, h⟩ := g_bVd h
    refine g_callVv (pc := 64) (st := []) hE.1 wvX4_62 (sX_row (i := 0) (by decide)) rfl (kX5_gather hE n 0 (by decide) 0 (by decide) v2 v3 ((1 <<< (r21 &&& 31)) ||| (1 <<< (r24 &&& 31))) σ26 h29) rfl (gR_ok (by decide) (by decide)) (Nat.le_of_ble_eq_true rfl) rfl dX4_toldOf_64 ?_
    refine g_aload_n (pc := 67) dX4_toldOf_67 rfl 1 rfl ?_
    refine g_getR (pc := 68) wfX4_9 rfl rfl dX4_toldOf_68 ?_
    refine g_getR (pc := 71) wfX4_54 (sX_shelf (i := 0) (by decide)) rfl dX4_toldOf_71 ?_
    refine g_aload_n (pc := 74) dX4_toldOf_74 rfl 1 rfl ?_
    refine g_getR (pc := 75) wfX4_21 rfl rfl dX4_toldOf_75 ?_
    refine g_iload_n (pc := 78) dX4_toldOf_78 rfl 2 rfl ?_
    refine g_iload_n (pc := 79) dX4_toldOf_79 rfl 3 rfl ?_
    obtain ⟨r33, σ32, h31, h⟩ := g_bId h
    refine g_callVi (pc := 80) (st := [.ref (12 + 5 * 0)]) hE.1 wvX4_50 rfl rfl (kX6_partOn hE v1 v2 σ30 h31) rfl (gR_ok (by decide) (by decide)) (Nat.le_of_ble_eq_true rfl) rfl dX4_toldOf_80 ?_
    obtain ⟨r36, σ35, h34, h⟩ := g_bId h
    refine g_callVi (pc := 83) (st := []) hE.1 wvX4_68 (sX_row (i := 0) (by decide)) rfl (kX5_get hE 0 (by decide) r33 σ32 h34) rfl (gR_ok (by decide) (by decide)) (Nat.le_of_ble_eq_true rfl) rfl dX4_toldOf_83 ?_
    cases h
    exact g_iret (pc := 86) rfl rfl rfl rfl dX4_toldOf_86
  · have h := g_iff c28 h
    refine g_ldc (pc := 43) wkX4_53 dX4_toldOf_43 ?_
    cases h
    exact g_iret (pc := 45) rfl rfl rfl rfl dX4_toldOf_45
def fX8_isDirty (i : Nat) (v1 : Int32) (σ : gM) : Option (Int32 × gM) := g_bI (fX9_get i 140 σ) (fun r7 σ6 => if ((r7 >>> (v1 &&& 31)) &&& 1) = 0 then (some (0, σ6)) else (some (1, σ6)))
set_option maxRecDepth 100000 in
theorem kX8_isDirty (hE : gEX l dC dI ad ca X) (i : Nat) (hi : i < 3)  (v1 : Int32) (σ : gM) {r0 : Int32} {σ' : gM} (h : fX8_isDirty i v1 σ = some (r0, σ')) : g_C l dC dI ad ca shX X yX8_isDirty cX8_isDirty 2 (some .boolean) (gR 1) [.ref (9 + 5 * i), .int v1] σ (some (.int r0)) σ' := by
  refine g_entry (by decide +kernel) (Nat.le_of_ble_eq_true rfl) ?_
  refine g_lvE (lv1 := [(0, .ref (9 + 5 * i)), (1, .int v1)]) rfl ?_
  unfold fX8_isDirty at h
  refine g_aload_n (pc := 0) dX8_isDirty_0 rfl 0 rfl ?_
  refine g_getR (pc := 1) wfX8_12 (sX_shelf (i := i) hi) rfl dX8_isDirty_1 ?_
  refine g_sipush (pc := 4) (v := 140) dX8_isDirty_4 (by decide) ?_
  obtain ⟨r7, σ6, h5, h⟩ := g_bId h
  refine g_callVi (pc := 7) (st := []) hE.1 wvX8_31 (sX_state (i := i) hi) rfl (kX9_get hE i hi 140 σ h5) rfl (gR_ok (by decide) (by decide)) (Nat.le_of_ble_eq_true rfl) rfl dX8_isDirty_7 ?_
  refine g_iload_n (pc := 10) dX8_isDirty_10 rfl 1 rfl ?_
  refine g_ishr (pc := 11) dX8_isDirty_11 ?_
  refine g_iconst (pc := 12) (v := 1) dX8_isDirty_12 (by decide) ?_
  refine g_iand (pc := 13) dX8_isDirty_13 ?_
  refine g_if_eq (pc := 14) (tgt := 21) dX8_isDirty_14 (by decide) (fun c8 => ?_) (fun c8 => ?_)
  · have h := g_ift c8 h
    refine g_iconst (pc := 21) (v := 0) dX8_isDirty_21 (by decide) ?_
    cases h
    exact g_iret (pc := 22) rfl (by decide) rfl rfl dX8_isDirty_22
  · have h := g_iff c8 h
    refine g_iconst (pc := 17) (v := 1) dX8_isDirty_17 (by decide) ?_
    refine g_goto (pc := 18) (tgt := 22) dX8_isDirty_18 (by decide) ?_
    cases h
    exact g_iret (pc := 22) rfl (by decide) rfl rfl dX8_isDirty_22
def fX5_wrongPart_b58 (n : Nat) (i : Nat) (v1 : Int32) (v2 : Int32) (σ : gM) : Option (Int32 × gM) := if v2 = 0 then (some (σ.1 5 6, σ)) else (if v1 = 0 then (some (σ.1 5 7, σ)) else (g_bI (fX1_quotient v2 v1 σ) (fun r28 σ27 => g_bI (fX1_logarithm r28 σ27) (fun r31 σ30 => if (σ30.1 5 0) ≤ r31 then (some ((-2), σ30)) else (some (r31, σ30))))))
set_option maxRecDepth 100000 in
theorem tX5_wrongPart_b58 (hE : gEX l dC dI ad ca X) {r0 : Int32} {σ' : gM} (n : Nat) (i : Nat) (hi : i < 3) (v1 : Int32) (v2 : Int32)  (σ : gM) (h : fX5_wrongPart_b58 n i v1 v2 σ = some (r0, σ')) : g_G l dC dI ad ca shX X cX5_wrongPart 4 RX5 (some .int) (gR 2) (some (.int r0)) σ' 58 [(0, .ref (12 + 5 * i)), (1, .int v1), (2, .int v2)] [] σ := by
  unfold fX5_wrongPart_b58 at h
  refine g_iload_n (pc := 58) dX5_wrongPart_58 rfl 2 rfl ?_
  refine g_if_ne (pc := 59) (tgt := 70) dX5_wrongPart_59 (by decide) (fun c24 => ?_) (fun c24 => ?_)
  · have h := g_iff c24 h
    refine g_iload_n (pc := 70) dX5_wrongPart_70 rfl 1 rfl ?_
    refine g_if_ne (pc := 71) (tgt := 82) dX5_wrongPart_71 (by decide) (fun c25 => ?_) (fun c25 => ?_)
    · have h := g_iff c25 h
      refine g_aload_n (pc := 82) dX5_wrongPart_82 rfl 0 rfl ?_
      refine g_getR (pc := 83) wfX5_21 (sX_row (i := i) hi) rfl dX5_wrongPart_83 ?_
      refine g_aload_n (pc := 86) dX5_wrongPart_86 rfl 0 rfl ?_
      refine g_getR (pc := 87) wfX5_21 (sX_row (i := i) hi) rfl dX5_wrongPart_87 ?_
      refine g_iload_n (pc := 90) dX5_wrongPart_90 rfl 2 rfl ?_
      refine g_iload_n (pc := 91) dX5_wrongPart_91 rfl 1 rfl ?_
      obtain ⟨r28, σ27, h26, h⟩ := g_bId h
      refine g_callVi (pc := 92) (st := [.ref 6]) hE.1 wvX5_88 rfl rfl (kX1_quotient hE v2 v1 σ h26) rfl (gR_ok (by decide) (by decide)) (Nat.le_of_ble_eq_true rfl) rfl dX5_wrongPart_92 ?_
      obtain ⟨r31, σ30, h29, h⟩ := g_bId h
      refine g_callVi (pc := 95) (st := []) hE.1 wvX5_94 rfl rfl (kX1_logarithm hE r28 σ27 h29) rfl (gR_ok (by decide) (by decide)) (Nat.le_of_ble_eq_true rfl) rfl dX5_wrongPart_95 ?_
      refine g_istore_n (pc := 98) (lv1 := [(3, .int r31), (0, .ref (12 + 5 * i)), (1, .int v1), (2, .int v2)]) dX5_wrongPart_98 rfl (by decide) rfl ?_
      refine g_iload_n (pc := 99) dX5_wrongPart_99 rfl 0 rfl ?_
      refine g_aload_n (pc := 100) dX5_wrongPart_100 rfl 1 rfl ?_
      refine g_getR (pc := 101) wfX5_17 (sX_row (i := i) hi) rfl dX5_wrongPart_101 ?_
      refine g_getI (pc := 104) wfX5_64 rfl rfl dX5_wrongPart_104 ?_
      refine g_icmp_ge (pc := 107) (tgt := 114) dX5_wrongPart_107 (by decide) (fun c32 => ?_) (fun c32 => ?_)
      · have h := g_ift c32 h
        refine g_bipush (pc := 114) (v := (-2)) dX5_wrongPart_114 (by decide) ?_
        cases h
        exact g_iret (pc := 116) rfl rfl rfl rfl dX5_wrongPart_116
      · have h := g_iff c32 h
        refine g_iload_n (pc := 110) dX5_wrongPart_110 rfl 0 rfl ?_
        refine g_goto (pc := 111) (tgt := 116) dX5_wrongPart_111 (by decide) ?_
        cases h
        exact g_iret (pc := 116) rfl rfl rfl rfl dX5_wrongPart_116
    · have h := g_ift c25 h
      refine g_aload_n (pc := 74) dX5_wrongPart_74 rfl 0 rfl ?_
      refine g_getR (pc := 75) wfX5_17 (sX_row (i := i) hi) rfl dX5_wrongPart_75 ?_
      refine g_getI (pc := 78) wfX5_61 rfl rfl dX5_wrongPart_78 ?_
      cases h
      exact g_iret (pc := 81) rfl rfl rfl rfl dX5_wrongPart_81
  · have h := g_ift c24 h
    refine g_aload_n (pc := 62) dX5_wrongPart_62 rfl 0 rfl ?_
    refine g_getR (pc := 63) wfX5_17 (sX_row (i := i) hi) rfl dX5_wrongPart_63 ?_
    refine g_getI (pc := 66) wfX5_46 rfl rfl dX5_wrongPart_66 ?_
    cases h
    exact g_iret (pc := 69) rfl rfl rfl rfl dX5_wrongPart_69
def fX5_wrongPart (n : Nat) (i : Nat) (σ : gM) : Option (Int32 × gM) := g_bI (fX5_sumForP n i σ) (fun r35 σ34 => g_bI (fX5_get i (σ34.1 5 6) σ34) (fun r38 σ37 => g_bI (fX1_sumByPowers n i (σ37.1 5 0) σ37) (fun r41 σ40 => g_bI (fX5_get i (σ40.1 5 7) σ40) (fun r44 σ43 => if (r35 ^^^ r38) = 0 then (if (r41 ^^^ r44) = 0 then (some ((-1), σ43)) else (fX5_wrongPart_b58 n i (r35 ^^^ r38) (r41 ^^^ r44) σ43)) else (fX5_wrongPart_b58 n i (r35 ^^^ r38) (r41 ^^^ r44) σ43)))))
set_option maxRecDepth 100000 in
theorem kX5_wrongPart (hE : gEX l dC dI ad ca X) (n : Nat) (i : Nat) (hi : i < 3)  (σ : gM) {r0 : Int32} {σ' : gM} (h : fX5_wrongPart n i σ = some (r0, σ')) : g_C l dC dI ad ca shX X yX5_wrongPart cX5_wrongPart 4 (some .int) (gR 2) [.ref (12 + 5 * i)] σ (some (.int r0)) σ' := by
  refine g_entry (by decide +kernel) (Nat.le_of_ble_eq_true rfl) ?_
  refine g_lvE (lv1 := [(0, .ref (12 + 5 * i))]) rfl ?_
  unfold fX5_wrongPart at h
  refine g_aload_n (pc := 0) dX5_wrongPart_0 rfl 0 rfl ?_
  obtain ⟨r35, σ34, h33, h⟩ := g_bId h
  refine g_callVi (pc := 1) (st := []) hE.1 wvX5_53 (sX_row (i := i) hi) rfl (kX5_sumForP hE n i hi σ h33) rfl (gR_ok (by decide) (by decide)) (Nat.le_of_ble_eq_true rfl) rfl dX5_wrongPart_1 ?_
  refine g_aload_n (pc := 4) dX5_wrongPart_4 rfl 0 rfl ?_
  refine g_aload_n (pc := 5) dX5_wrongPart_5 rfl 0 rfl ?_
  refine g_getR (pc := 6) wfX5_17 (sX_row (i := i) hi) rfl dX5_wrongPart_6 ?_
  refine g_getI (pc := 9) wfX5_46 rfl rfl dX5_wrongPart_9 ?_
  obtain ⟨r38, σ37, h36, h⟩ := g_bId h
  refine g_callVi (pc := 12) (st := [.int r35]) hE.1 wvX5_85 (sX_row (i := i) hi) rfl (kX5_get hE i hi (σ34.1 5 6) σ34 h36) rfl (gR_ok (by decide) (by decide)) (Nat.le_of_ble_eq_true rfl) rfl dX5_wrongPart_12 ?_
  refine g_ixor (pc := 15) dX5_wrongPart_15 ?_
  refine g_istore_n (pc := 16) (lv1 := [(1, .int (r35 ^^^ r38)), (0, .ref (12 + 5 * i))]) dX5_wrongPart_16 rfl (by decide) rfl ?_
  refine g_aload_n (pc := 17) dX5_wrongPart_17 rfl 1 rfl ?_
  refine g_getR (pc := 18) wfX5_21 (sX_row (i := i) hi) rfl dX5_wrongPart_18 ?_
  refine g_aload_n (pc := 21) dX5_wrongPart_21 rfl 1 rfl ?_
  refine g_getR (pc := 22) wfX5_11 (sX_row (i := i) hi) rfl dX5_wrongPart_22 ?_
  refine g_aload_n (pc := 25) dX5_wrongPart_25 rfl 1 rfl ?_
  refine g_getR (pc := 26) wfX5_17 (sX_row (i := i) hi) rfl dX5_wrongPart_26 ?_
  refine g_getI (pc := 29) wfX5_64 rfl rfl dX5_wrongPart_29 ?_
  obtain ⟨r41, σ40, h39, h⟩ := g_bId h
  refine g_callVi (pc := 32) (st := []) hE.1 wvX5_67 rfl rfl (kX1_sumByPowers hE n i hi (σ37.1 5 0) σ37 h39) rfl (gR_ok (by decide) (by decide)) (Nat.le_of_ble_eq_true rfl) rfl dX5_wrongPart_32 ?_
  refine g_aload_n (pc := 35) dX5_wrongPart_35 rfl 1 rfl ?_
  refine g_aload_n (pc := 36) dX5_wrongPart_36 rfl 1 rfl ?_
  refine g_getR (pc := 37) wfX5_17 (sX_row (i := i) hi) rfl dX5_wrongPart_37 ?_
  refine g_getI (pc := 40) wfX5_61 rfl rfl dX5_wrongPart_40 ?_
  obtain ⟨r44, σ43, h42, h⟩ := g_bId h
  refine g_callVi (pc := 43) (st := [.int r41]) hE.1 wvX5_85 (sX_row (i := i) hi) rfl (kX5_get hE i hi (σ40.1 5 7) σ40 h42) rfl (gR_ok (by decide) (by decide)) (Nat.le_of_ble_eq_true rfl) rfl dX5_wrongPart_43 ?_
  refine g_ixor (pc := 46) dX5_wrongPart_46 ?_
  refine g_istore_n (pc := 47) (lv1 := [(2, .int (r41 ^^^ r44)), (1, .int (r35 ^^^ r38)), (0, .ref (12 + 5 * i))]) dX5_wrongPart_47 rfl (by decide) rfl ?_
  refine g_iload_n (pc := 48) dX5_wrongPart_48 rfl 1 rfl ?_
  refine g_if_ne (pc := 49) (tgt := 58) dX5_wrongPart_49 (by decide) (fun c45 => ?_) (fun c45 => ?_)
  · have h := g_iff c45 h
    exact g_lv [2, 1, 0] rfl (tX5_wrongPart_b58 hE n i hi (r35 ^^^ r38) (r41 ^^^ r44) σ43 h)
  · have h := g_ift c45 h
    refine g_iload_n (pc := 52) dX5_wrongPart_52 rfl 0 rfl ?_
    refine g_if_ne (pc := 53) (tgt := 58) dX5_wrongPart_53 (by decide) (fun c46 => ?_) (fun c46 => ?_)
    · have h := g_iff c46 h
      exact g_lv [2, 1, 0] rfl (tX5_wrongPart_b58 hE n i hi (r35 ^^^ r38) (r41 ^^^ r44) σ43 h)
    · have h := g_ift c46 h
      refine g_iconst (pc := 56) (v := (-1)) dX5_wrongPart_56 (by decide) ?_
      cases h
      exact g_iret (pc := 57) rfl rfl rfl rfl dX5_wrongPart_57
def fX4_wrongDisk_b22 (n : Nat) (σ : gM) : Option (Int32 × gM) := some ((-1000000), σ)
set_option maxRecDepth 100000 in
theorem tX4_wrongDisk_b22 (hE : gEX l dC dI ad ca X) {r0 : Int32} {σ' : gM} (n : Nat)  (σ : gM) (h : fX4_wrongDisk_b22 n σ = some (r0, σ')) : g_G l dC dI ad ca shX X cX4_wrongDisk 4 RX4 (some .int) (gR 3) (some (.int r0)) σ' 22 [] [] σ := by
  unfold fX4_wrongDisk_b22 at h
  refine g_ldc (pc := 22) wkX4_53 dX4_wrongDisk_22 ?_
  cases h
  exact g_iret (pc := 24) rfl rfl rfl rfl dX4_wrongDisk_24
def fX4_wrongDisk (n : Nat) (v1 : Int32) (v2 : Int32) (σ : gM) : Option (Int32 × gM) := g_bI (fX8_missing n 0 v1 σ) (fun r20 σ19 => if r20 = 0 then (g_bI (fX8_isDirty 0 v1 σ19) (fun r24 σ23 => if r24 = 0 then (g_bV (fX5_load n 0 0 v1 v2 0 σ23) (fun σ27 => g_bI (fX5_wrongPart n 0 σ27) (fun r30 σ29 => if 0 ≤ r30 then (g_bI (fX6_diskOf r30 v1 σ29) (fun r34 σ33 => some (r34, σ33))) else (some (r30, σ29))))) else (fX4_wrongDisk_b22 n σ23))) else (fX4_wrongDisk_b22 n σ19))
set_option maxRecDepth 100000 in
theorem kX4_wrongDisk (hE : gEX l dC dI ad ca X) (n : Nat)  (v1 : Int32) (v2 : Int32) (σ : gM) {r0 : Int32} {σ' : gM} (h : fX4_wrongDisk n v1 v2 σ = some (r0, σ')) : g_C l dC dI ad ca shX X yX4_wrongDisk cX4_wrongDisk 4 (some .int) (gR 3) [.ref 24, .int v1, .int v2] σ (some (.int r0)) σ' := by
  refine g_entry (by decide +kernel) (Nat.le_of_ble_eq_true rfl) ?_
  refine g_lvE (lv1 := [(0, .ref 24), (1, .int v1), (2, .int v2)]) rfl ?_
  unfold fX4_wrongDisk at h
  refine g_aload_n (pc := 0) dX4_wrongDisk_0 rfl 0 rfl ?_
  refine g_getR (pc := 1) wfX4_9 rfl rfl dX4_wrongDisk_1 ?_
  refine g_iload_n (pc := 4) dX4_wrongDisk_4 rfl 1 rfl ?_
  obtain ⟨r20, σ19, h18, h⟩ := g_bId h
  refine g_callVi (pc := 5) (st := []) hE.1 wvX4_31 (sX_shelf (i := 0) (by decide)) rfl (kX8_missing hE n 0 (by decide) v1 σ h18) rfl (gR_ok (by decide) (by decide)) (Nat.le_of_ble_eq_true rfl) rfl dX4_wrongDisk_5 ?_
  refine g_if_ne (pc := 8) (tgt := 22) dX4_wrongDisk_8 (by decide) (fun c21 => ?_) (fun c21 => ?_)
  · have h := g_iff c21 h
    exact g_lv [] rfl (tX4_wrongDisk_b22 hE n σ19 h)
  · have h := g_ift c21 h
    refine g_aload_n (pc := 11) dX4_wrongDisk_11 rfl 0 rfl ?_
    refine g_getR (pc := 12) wfX4_9 rfl rfl dX4_wrongDisk_12 ?_
    refine g_iload_n (pc := 15) dX4_wrongDisk_15 rfl 1 rfl ?_
    obtain ⟨r24, σ23, h22, h⟩ := g_bId h
    refine g_callVi (pc := 16) (st := []) hE.1 wvX4_71 (sX_shelf (i := 0) (by decide)) rfl (kX8_isDirty hE 0 (by decide) v1 σ19 h22) rfl (gR_ok (by decide) (by decide)) (Nat.le_of_ble_eq_true rfl) rfl dX4_wrongDisk_16 ?_
    refine g_if_eq (pc := 19) (tgt := 25) dX4_wrongDisk_19 (by decide) (fun c25 => ?_) (fun c25 => ?_)
    · have h := g_ift c25 h
      refine g_aload_n (pc := 25) dX4_wrongDisk_25 rfl 0 rfl ?_
      refine g_getR (pc := 26) wfX4_9 rfl rfl dX4_wrongDisk_26 ?_
      refine g_getR (pc := 29) wfX4_54 (sX_shelf (i := 0) (by decide)) rfl dX4_wrongDisk_29 ?_
      refine g_aload_n (pc := 32) dX4_wrongDisk_32 rfl 0 rfl ?_
      refine g_getR (pc := 33) wfX4_9 rfl rfl dX4_wrongDisk_33 ?_
      refine g_getR (pc := 36) wfX4_58 (sX_shelf (i := 0) (by decide)) rfl dX4_wrongDisk_36 ?_
      refine g_iload_n (pc := 39) dX4_wrongDisk_39 rfl 1 rfl ?_
      refine g_iload_n (pc := 40) dX4_wrongDisk_40 rfl 2 rfl ?_
      refine g_iconst (pc := 41) (v := 0) dX4_wrongDisk_41 (by decide) ?_
      obtain ⟨σ27, h26, h⟩ := g_bVd h
      refine g_callVv (pc := 42) (st := []) hE.1 wvX4_75 (sX_row (i := 0) (by decide)) rfl (kX5_load hE n 0 (by decide) 0 (by decide) v1 v2 0 σ23 h26) rfl (gR_ok (by decide) (by decide)) (Nat.le_of_ble_eq_true rfl) rfl dX4_wrongDisk_42 ?_
      refine g_aload_n (pc := 45) dX4_wrongDisk_45 rfl 0 rfl ?_
      refine g_getR (pc := 46) wfX4_9 rfl rfl dX4_wrongDisk_46 ?_
      refine g_getR (pc := 49) wfX4_54 (sX_shelf (i := 0) (by decide)) rfl dX4_wrongDisk_49 ?_
      obtain ⟨r30, σ29, h28, h⟩ := g_bId h
      refine g_callVi (pc := 52) (st := []) hE.1 wvX4_78 (sX_row (i := 0) (by decide)) rfl (kX5_wrongPart hE n 0 (by decide) σ27 h28) rfl (gR_ok (by decide) (by decide)) (Nat.le_of_ble_eq_true rfl) rfl dX4_wrongDisk_52 ?_
      refine g_istore_n (pc := 55) (lv1 := [(3, .int r30), (0, .ref 24), (1, .int v1), (2, .int v2)]) dX4_wrongDisk_55 rfl (by decide) rfl ?_
      refine g_iload_n (pc := 56) dX4_wrongDisk_56 rfl 0 rfl ?_
      refine g_if_ge (pc := 57) (tgt := 64) dX4_wrongDisk_57 (by decide) (fun c31 => ?_) (fun c31 => ?_)
      · have h := g_ift c31 h
        refine g_aload_n (pc := 64) dX4_wrongDisk_64 rfl 1 rfl ?_
        refine g_getR (pc := 65) wfX4_21 rfl rfl dX4_wrongDisk_65 ?_
        refine g_iload_n (pc := 68) dX4_wrongDisk_68 rfl 0 rfl ?_
        refine g_iload_n (pc := 69) dX4_wrongDisk_69 rfl 2 rfl ?_
        obtain ⟨r34, σ33, h32, h⟩ := g_bId h
        refine g_callVi (pc := 70) (st := []) hE.1 wvX4_82 rfl rfl (kX6_diskOf hE r30 v1 σ29 h32) rfl (gR_ok (by decide) (by decide)) (Nat.le_of_ble_eq_true rfl) rfl dX4_wrongDisk_70 ?_
        cases h
        exact g_iret (pc := 73) rfl rfl rfl rfl dX4_wrongDisk_73
      · have h := g_iff c31 h
        refine g_iload_n (pc := 60) dX4_wrongDisk_60 rfl 0 rfl ?_
        refine g_goto (pc := 61) (tgt := 73) dX4_wrongDisk_61 (by decide) ?_
        cases h
        exact g_iret (pc := 73) rfl rfl rfl rfl dX4_wrongDisk_73
    · have h := g_iff c25 h
      exact g_lv [] rfl (tX4_wrongDisk_b22 hE n σ23 h)
def fX8_stands (i : Nat) (v1 : Int32) (v2 : Int32) (σ : gM) : Option (Int32 × gM) := g_bI (fX9_get i (96 + v1) σ) (fun r7 σ6 => if r7 = v2 then (some (1, σ6)) else (some (0, σ6)))
set_option maxRecDepth 100000 in
theorem kX8_stands (hE : gEX l dC dI ad ca X) (i : Nat) (hi : i < 3)  (v1 : Int32) (v2 : Int32) (σ : gM) {r0 : Int32} {σ' : gM} (h : fX8_stands i v1 v2 σ = some (r0, σ')) : g_C l dC dI ad ca shX X yX8_stands cX8_stands 3 (some .boolean) (gR 1) [.ref (9 + 5 * i), .int v1, .int v2] σ (some (.int r0)) σ' := by
  refine g_entry (by decide +kernel) (Nat.le_of_ble_eq_true rfl) ?_
  refine g_lvE (lv1 := [(0, .ref (9 + 5 * i)), (1, .int v1), (2, .int v2)]) rfl ?_
  unfold fX8_stands at h
  refine g_aload_n (pc := 0) dX8_stands_0 rfl 0 rfl ?_
  refine g_getR (pc := 1) wfX8_12 (sX_shelf (i := i) hi) rfl dX8_stands_1 ?_
  refine g_bipush (pc := 4) (v := 96) dX8_stands_4 (by decide) ?_
  refine g_iload_n (pc := 6) dX8_stands_6 rfl 1 rfl ?_
  refine g_iadd (pc := 7) dX8_stands_7 ?_
  obtain ⟨r7, σ6, h5, h⟩ := g_bId h
  refine g_callVi (pc := 8) (st := []) hE.1 wvX8_31 (sX_state (i := i) hi) rfl (kX9_get hE i hi (96 + v1) σ h5) rfl (gR_ok (by decide) (by decide)) (Nat.le_of_ble_eq_true rfl) rfl dX8_stands_8 ?_
  refine g_iload_n (pc := 11) dX8_stands_11 rfl 2 rfl ?_
  refine g_icmp_ne (pc := 12) (tgt := 19) dX8_stands_12 (by decide) (fun c8 => ?_) (fun c8 => ?_)
  · have h := g_iff c8 h
    refine g_iconst (pc := 19) (v := 0) dX8_stands_19 (by decide) ?_
    cases h
    exact g_iret (pc := 20) rfl (by decide) rfl rfl dX8_stands_20
  · have h := g_ift c8 h
    refine g_iconst (pc := 15) (v := 1) dX8_stands_15 (by decide) ?_
    refine g_goto (pc := 16) (tgt := 20) dX8_stands_16 (by decide) ?_
    cases h
    exact g_iret (pc := 20) rfl (by decide) rfl rfl dX8_stands_20
def fX8_notWhole_b35 (n : Nat) (i : Nat) (K4 : Int32 → Int32 → gM → Option (Int32 × gM)) (v1 : Int32) (v2 : Int32) (σ : gM) : Option (Int32 × gM) := K4 v1 (v2 + 1) σ
set_option maxRecDepth 100000 in
theorem tX8_notWhole_b35 (hE : gEX l dC dI ad ca X) {r0 : Int32} {σ' : gM} (n : Nat) (i : Nat) (hi : i < 3) (K4 : Int32 → Int32 → gM → Option (Int32 × gM)) (hK4 : ∀ (v1 : Int32) (v2 : Int32) (σ : gM), K4 v1 v2 σ = some (r0, σ') → g_G l dC dI ad ca shX X cX8_notWhole 3 RX8 (some .int) (gR 1) (some (.int r0)) σ' 4 [(0, .ref (9 + 5 * i)), (1, .int v1), (2, .int v2)] [] σ) (v1 : Int32) (v2 : Int32)  (σ : gM) (h : fX8_notWhole_b35 n i K4 v1 v2 σ = some (r0, σ')) : g_G l dC dI ad ca shX X cX8_notWhole 3 RX8 (some .int) (gR 1) (some (.int r0)) σ' 35 [(0, .ref (9 + 5 * i)), (1, .int v1), (2, .int v2)] [] σ := by
  unfold fX8_notWhole_b35 at h
  refine g_iinc (pc := 35) (v := v2 + 1) (lv1 := [(2, .int (v2 + 1)), (0, .ref (9 + 5 * i)), (1, .int v1)]) dX8_notWhole_35 2 rfl rfl (by decide) rfl ?_
  refine g_goto (pc := 38) (tgt := 4) dX8_notWhole_38 (by decide) ?_
  exact g_lv [1, 2, 0] rfl (hK4 v1 (v2 + 1) σ h)
def fX8_notWhole_b4 (n : Nat) (i : Nat) (K4 : Int32 → Int32 → gM → Option (Int32 × gM)) (v1 : Int32) (v2 : Int32) (σ : gM) : Option (Int32 × gM) := if (σ.1 5 5) ≤ v2 then (some (v1, σ)) else (g_bI (fX9_get i (96 + v2) σ) (fun r9 σ8 => if r9 = 0 then (fX8_notWhole_b35 n i K4 v1 v2 σ8) else (fX8_notWhole_b35 n i K4 (v1 ||| (1 <<< (v2 &&& 31))) v2 σ8)))
set_option maxRecDepth 100000 in
theorem tX8_notWhole_b4 (hE : gEX l dC dI ad ca X) {r0 : Int32} {σ' : gM} (n : Nat) (i : Nat) (hi : i < 3) (K4 : Int32 → Int32 → gM → Option (Int32 × gM)) (hK4 : ∀ (v1 : Int32) (v2 : Int32) (σ : gM), K4 v1 v2 σ = some (r0, σ') → g_G l dC dI ad ca shX X cX8_notWhole 3 RX8 (some .int) (gR 1) (some (.int r0)) σ' 4 [(0, .ref (9 + 5 * i)), (1, .int v1), (2, .int v2)] [] σ) (v1 : Int32) (v2 : Int32)  (σ : gM) (h : fX8_notWhole_b4 n i K4 v1 v2 σ = some (r0, σ')) : g_G l dC dI ad ca shX X cX8_notWhole 3 RX8 (some .int) (gR 1) (some (.int r0)) σ' 4 [(0, .ref (9 + 5 * i)), (1, .int v1), (2, .int v2)] [] σ := by
  unfold fX8_notWhole_b4 at h
  refine g_iload_n (pc := 4) dX8_notWhole_4 rfl 2 rfl ?_
  refine g_aload_n (pc := 5) dX8_notWhole_5 rfl 0 rfl ?_
  refine g_getR (pc := 6) wfX8_18 (sX_shelf (i := i) hi) rfl dX8_notWhole_6 ?_
  refine g_getI (pc := 9) wfX8_35 rfl rfl dX8_notWhole_9 ?_
  refine g_icmp_ge (pc := 12) (tgt := 41) dX8_notWhole_12 (by decide) (fun c6 => ?_) (fun c6 => ?_)
  · have h := g_ift c6 h
    refine g_iload_n (pc := 41) dX8_notWhole_41 rfl 1 rfl ?_
    cases h
    exact g_iret (pc := 42) rfl rfl rfl rfl dX8_notWhole_42
  · have h := g_iff c6 h
    refine g_aload_n (pc := 15) dX8_notWhole_15 rfl 0 rfl ?_
    refine g_getR (pc := 16) wfX8_12 (sX_shelf (i := i) hi) rfl dX8_notWhole_16 ?_
    refine g_bipush (pc := 19) (v := 96) dX8_notWhole_19 (by decide) ?_
    refine g_iload_n (pc := 21) dX8_notWhole_21 rfl 2 rfl ?_
    refine g_iadd (pc := 22) dX8_notWhole_22 ?_
    obtain ⟨r9, σ8, h7, h⟩ := g_bId h
    refine g_callVi (pc := 23) (st := []) hE.1 wvX8_31 (sX_state (i := i) hi) rfl (kX9_get hE i hi (96 + v2) σ h7) rfl (gR_ok (by decide) (by decide)) (Nat.le_of_ble_eq_true rfl) rfl dX8_notWhole_23 ?_
    refine g_if_eq (pc := 26) (tgt := 35) dX8_notWhole_26 (by decide) (fun c10 => ?_) (fun c10 => ?_)
    · have h := g_ift c10 h
      exact g_lv [0, 1, 2] rfl (tX8_notWhole_b35 hE n i hi K4 hK4 v1 v2 σ8 h)
    · have h := g_iff c10 h
      refine g_iload_n (pc := 29) dX8_notWhole_29 rfl 1 rfl ?_
      refine g_iconst (pc := 30) (v := 1) dX8_notWhole_30 (by decide) ?_
      refine g_iload_n (pc := 31) dX8_notWhole_31 rfl 2 rfl ?_
      refine g_ishl (pc := 32) dX8_notWhole_32 ?_
      refine g_ior (pc := 33) dX8_notWhole_33 ?_
      refine g_istore_n (pc := 34) (lv1 := [(1, .int (v1 ||| (1 <<< (v2 &&& 31)))), (0, .ref (9 + 5 * i)), (2, .int v2)]) dX8_notWhole_34 rfl (by decide) rfl ?_
      exact g_lv [1, 0, 2] rfl (tX8_notWhole_b35 hE n i hi K4 hK4 (v1 ||| (1 <<< (v2 &&& 31))) v2 σ8 h)
def fX8_notWhole_L4 (n : Nat) (i : Nat) : Nat → Int32 → Int32 → gM → Option (Int32 × gM)
  | 0 => fun _ _ _ => none
  | k + 1 => fX8_notWhole_b4 n i (fX8_notWhole_L4 n i k)
theorem tX8_notWhole_L4 (hE : gEX l dC dI ad ca X) {r0 : Int32} {σ' : gM} (n : Nat) (i : Nat) (hi : i < 3)  : ∀ (k : Nat) (v1 : Int32) (v2 : Int32) (σ : gM), fX8_notWhole_L4 n i k v1 v2 σ = some (r0, σ') → g_G l dC dI ad ca shX X cX8_notWhole 3 RX8 (some .int) (gR 1) (some (.int r0)) σ' 4 [(0, .ref (9 + 5 * i)), (1, .int v1), (2, .int v2)] [] σ := by
  intro k
  induction k with
  | zero => intro v1 v2 σ h; cases h
  | succ k ih => intro v1 v2 σ h; exact tX8_notWhole_b4 hE n i hi (fX8_notWhole_L4 n i k) ih v1 v2 σ h
def fX8_notWhole (n : Nat) (i : Nat) (σ : gM) : Option (Int32 × gM) := fX8_notWhole_L4 n i n 0 0 σ
set_option maxRecDepth 100000 in
theorem kX8_notWhole (hE : gEX l dC dI ad ca X) (n : Nat) (i : Nat) (hi : i < 3)  (σ : gM) {r0 : Int32} {σ' : gM} (h : fX8_notWhole n i σ = some (r0, σ')) : g_C l dC dI ad ca shX X yX8_notWhole cX8_notWhole 3 (some .int) (gR 1) [.ref (9 + 5 * i)] σ (some (.int r0)) σ' := by
  refine g_entry (by decide +kernel) (Nat.le_of_ble_eq_true rfl) ?_
  refine g_lvE (lv1 := [(0, .ref (9 + 5 * i))]) rfl ?_
  unfold fX8_notWhole at h
  refine g_iconst (pc := 0) (v := 0) dX8_notWhole_0 (by decide) ?_
  refine g_istore_n (pc := 1) (lv1 := [(1, .int 0), (0, .ref (9 + 5 * i))]) dX8_notWhole_1 rfl (by decide) rfl ?_
  refine g_iconst (pc := 2) (v := 0) dX8_notWhole_2 (by decide) ?_
  refine g_istore_n (pc := 3) (lv1 := [(2, .int 0), (1, .int 0), (0, .ref (9 + 5 * i))]) dX8_notWhole_3 rfl (by decide) rfl ?_
  exact g_lv [2, 1, 0] rfl (tX8_notWhole_L4 hE n i hi n 0 0 σ h)
def fX8_canLose_b31 (n : Nat) (i : Nat) (σ : gM) : Option (Int32 × gM) := some (1, σ)
set_option maxRecDepth 100000 in
theorem tX8_canLose_b31 (hE : gEX l dC dI ad ca X) {r0 : Int32} {σ' : gM} (n : Nat) (i : Nat) (hi : i < 3)  (σ : gM) (h : fX8_canLose_b31 n i σ = some (r0, σ')) : g_G l dC dI ad ca shX X cX8_canLose 2 RX8 (some .boolean) (gR 2) (some (.int r0)) σ' 31 [] [] σ := by
  unfold fX8_canLose_b31 at h
  refine g_iconst (pc := 31) (v := 1) dX8_canLose_31 (by decide) ?_
  refine g_goto (pc := 32) (tgt := 36) dX8_canLose_32 (by decide) ?_
  cases h
  exact g_iret (pc := 36) rfl (by decide) rfl rfl dX8_canLose_36
def fX8_canLose (n : Nat) (i : Nat) (v1 : Int32) (σ : gM) : Option (Int32 × gM) := g_bI (fX8_stands i v1 1 σ) (fun r18 σ17 => if r18 = 0 then (g_bI (fX8_stands i v1 0 σ17) (fun r22 σ21 => if r22 = 0 then (fX8_canLose_b31 n i σ21) else (g_bI (fX8_notWhole n i σ21) (fun r26 σ25 => g_bI (fJ6_bitCount_0f7a4 r26 σ25) (fun r29 σ28 => if 2 ≤ r29 then (some (0, σ28)) else (fX8_canLose_b31 n i σ28)))))) else (some (0, σ17)))
set_option maxRecDepth 100000 in
theorem kX8_canLose (hE : gEX l dC dI ad ca X) (n : Nat) (i : Nat) (hi : i < 3)  (v1 : Int32) (σ : gM) {r0 : Int32} {σ' : gM} (h : fX8_canLose n i v1 σ = some (r0, σ')) : g_C l dC dI ad ca shX X yX8_canLose cX8_canLose 2 (some .boolean) (gR 2) [.ref (9 + 5 * i), .int v1] σ (some (.int r0)) σ' := by
  refine g_entry (by decide +kernel) (Nat.le_of_ble_eq_true rfl) ?_
  refine g_lvE (lv1 := [(0, .ref (9 + 5 * i)), (1, .int v1)]) rfl ?_
  unfold fX8_canLose at h
  refine g_aload_n (pc := 0) dX8_canLose_0 rfl 0 rfl ?_
  refine g_iload_n (pc := 1) dX8_canLose_1 rfl 1 rfl ?_
  refine g_iconst (pc := 2) (v := 1) dX8_canLose_2 (by decide) ?_
  obtain ⟨r18, σ17, h16, h⟩ := g_bId h
  refine g_callVi (pc := 3) (st := []) hE.1 wvX8_49 (sX_shelf (i := i) hi) rfl (kX8_stands hE i hi v1 1 σ h16) rfl (gR_ok (by decide) (by decide)) (Nat.le_of_ble_eq_true rfl) rfl dX8_canLose_3 ?_
  refine g_if_eq (pc := 6) (tgt := 11) dX8_canLose_6 (by decide) (fun c19 => ?_) (fun c19 => ?_)
  · have h := g_ift c19 h
    refine g_aload_n (pc := 11) dX8_canLose_11 rfl 0 rfl ?_
    refine g_iload_n (pc := 12) dX8_canLose_12 rfl 1 rfl ?_
    refine g_iconst (pc := 13) (v := 0) dX8_canLose_13 (by decide) ?_
    obtain ⟨r22, σ21, h20, h⟩ := g_bId h
    refine g_callVi (pc := 14) (st := []) hE.1 wvX8_49 (sX_shelf (i := i) hi) rfl (kX8_stands hE i hi v1 0 σ17 h20) rfl (gR_ok (by decide) (by decide)) (Nat.le_of_ble_eq_true rfl) rfl dX8_canLose_14 ?_
    refine g_if_eq (pc := 17) (tgt := 31) dX8_canLose_17 (by decide) (fun c23 => ?_) (fun c23 => ?_)
    · have h := g_ift c23 h
      exact g_lv [] rfl (tX8_canLose_b31 hE n i hi σ21 h)
    · have h := g_iff c23 h
      refine g_aload_n (pc := 20) dX8_canLose_20 rfl 0 rfl ?_
      obtain ⟨r26, σ25, h24, h⟩ := g_bId h
      refine g_callVi (pc := 21) (st := []) hE.1 wvX8_52 (sX_shelf (i := i) hi) rfl (kX8_notWhole hE n i hi σ21 h24) rfl (gR_ok (by decide) (by decide)) (Nat.le_of_ble_eq_true rfl) rfl dX8_canLose_21 ?_
      obtain ⟨r29, σ28, h27, h⟩ := g_bId h
      refine g_callSi (pc := 24) (st := []) hE.1 wsX8_56 (kJ6_bitCount_0f7a4 hE r26 σ25 h27) rfl (gR_ok (by decide) (by decide)) (Nat.le_of_ble_eq_true rfl) rfl dX8_canLose_24 ?_
      refine g_iconst (pc := 27) (v := 2) dX8_canLose_27 (by decide) ?_
      refine g_icmp_ge (pc := 28) (tgt := 35) dX8_canLose_28 (by decide) (fun c30 => ?_) (fun c30 => ?_)
      · have h := g_ift c30 h
        refine g_iconst (pc := 35) (v := 0) dX8_canLose_35 (by decide) ?_
        cases h
        exact g_iret (pc := 36) rfl (by decide) rfl rfl dX8_canLose_36
      · have h := g_iff c30 h
        exact g_lv [] rfl (tX8_canLose_b31 hE n i hi σ28 h)
  · have h := g_iff c19 h
    refine g_iconst (pc := 9) (v := 0) dX8_canLose_9 (by decide) ?_
    cases h
    exact g_iret (pc := 10) rfl (by decide) rfl rfl dX8_canLose_10
def fX4_losable_b32 (n : Nat) (K4 : Int32 → Int32 → gM → Option (Int32 × gM)) (v1 : Int32) (v2 : Int32) (σ : gM) : Option (Int32 × gM) := K4 v1 (v2 + 1) σ
set_option maxRecDepth 100000 in
theorem tX4_losable_b32 (hE : gEX l dC dI ad ca X) {r0 : Int32} {σ' : gM} (n : Nat) (K4 : Int32 → Int32 → gM → Option (Int32 × gM)) (hK4 : ∀ (v1 : Int32) (v2 : Int32) (σ : gM), K4 v1 v2 σ = some (r0, σ') → g_G l dC dI ad ca shX X cX4_losable 3 RX4 (some .int) (gR 3) (some (.int r0)) σ' 4 [(0, .ref 24), (1, .int v1), (2, .int v2)] [] σ) (v1 : Int32) (v2 : Int32)  (σ : gM) (h : fX4_losable_b32 n K4 v1 v2 σ = some (r0, σ')) : g_G l dC dI ad ca shX X cX4_losable 3 RX4 (some .int) (gR 3) (some (.int r0)) σ' 32 [(0, .ref 24), (1, .int v1), (2, .int v2)] [] σ := by
  unfold fX4_losable_b32 at h
  refine g_iinc (pc := 32) (v := v2 + 1) (lv1 := [(2, .int (v2 + 1)), (0, .ref 24), (1, .int v1)]) dX4_losable_32 2 rfl rfl (by decide) rfl ?_
  refine g_goto (pc := 35) (tgt := 4) dX4_losable_35 (by decide) ?_
  exact g_lv [1, 2, 0] rfl (hK4 v1 (v2 + 1) σ h)
def fX4_losable_b4 (n : Nat) (K4 : Int32 → Int32 → gM → Option (Int32 × gM)) (v1 : Int32) (v2 : Int32) (σ : gM) : Option (Int32 × gM) := if (σ.1 5 5) ≤ v2 then (some (v1, σ)) else (g_bI (fX8_canLose n 0 v2 σ) (fun r9 σ8 => if r9 = 0 then (fX4_losable_b32 n K4 v1 v2 σ8) else (fX4_losable_b32 n K4 (v1 ||| (1 <<< (v2 &&& 31))) v2 σ8)))
set_option maxRecDepth 100000 in
theorem tX4_losable_b4 (hE : gEX l dC dI ad ca X) {r0 : Int32} {σ' : gM} (n : Nat) (K4 : Int32 → Int32 → gM → Option (Int32 × gM)) (hK4 : ∀ (v1 : Int32) (v2 : Int32) (σ : gM), K4 v1 v2 σ = some (r0, σ') → g_G l dC dI ad ca shX X cX4_losable 3 RX4 (some .int) (gR 3) (some (.int r0)) σ' 4 [(0, .ref 24), (1, .int v1), (2, .int v2)] [] σ) (v1 : Int32) (v2 : Int32)  (σ : gM) (h : fX4_losable_b4 n K4 v1 v2 σ = some (r0, σ')) : g_G l dC dI ad ca shX X cX4_losable 3 RX4 (some .int) (gR 3) (some (.int r0)) σ' 4 [(0, .ref 24), (1, .int v1), (2, .int v2)] [] σ := by
  unfold fX4_losable_b4 at h
  refine g_iload_n (pc := 4) dX4_losable_4 rfl 2 rfl ?_
  refine g_aload_n (pc := 5) dX4_losable_5 rfl 0 rfl ?_
  refine g_getR (pc := 6) wfX4_21 rfl rfl dX4_losable_6 ?_
  refine g_getI (pc := 9) wfX4_85 rfl rfl dX4_losable_9 ?_
  refine g_icmp_ge (pc := 12) (tgt := 38) dX4_losable_12 (by decide) (fun c6 => ?_) (fun c6 => ?_)
  · have h := g_ift c6 h
    refine g_iload_n (pc := 38) dX4_losable_38 rfl 1 rfl ?_
    cases h
    exact g_iret (pc := 39) rfl rfl rfl rfl dX4_losable_39
  · have h := g_iff c6 h
    refine g_aload_n (pc := 15) dX4_losable_15 rfl 0 rfl ?_
    refine g_getR (pc := 16) wfX4_9 rfl rfl dX4_losable_16 ?_
    refine g_iload_n (pc := 19) dX4_losable_19 rfl 2 rfl ?_
    obtain ⟨r9, σ8, h7, h⟩ := g_bId h
    refine g_callVi (pc := 20) (st := []) hE.1 wvX4_89 (sX_shelf (i := 0) (by decide)) rfl (kX8_canLose hE n 0 (by decide) v2 σ h7) rfl (gR_ok (by decide) (by decide)) (Nat.le_of_ble_eq_true rfl) rfl dX4_losable_20 ?_
    refine g_if_eq (pc := 23) (tgt := 32) dX4_losable_23 (by decide) (fun c10 => ?_) (fun c10 => ?_)
    · have h := g_ift c10 h
      exact g_lv [0, 1, 2] rfl (tX4_losable_b32 hE n K4 hK4 v1 v2 σ8 h)
    · have h := g_iff c10 h
      refine g_iload_n (pc := 26) dX4_losable_26 rfl 1 rfl ?_
      refine g_iconst (pc := 27) (v := 1) dX4_losable_27 (by decide) ?_
      refine g_iload_n (pc := 28) dX4_losable_28 rfl 2 rfl ?_
      refine g_ishl (pc := 29) dX4_losable_29 ?_
      refine g_ior (pc := 30) dX4_losable_30 ?_
      refine g_istore_n (pc := 31) (lv1 := [(1, .int (v1 ||| (1 <<< (v2 &&& 31)))), (0, .ref 24), (2, .int v2)]) dX4_losable_31 rfl (by decide) rfl ?_
      exact g_lv [1, 0, 2] rfl (tX4_losable_b32 hE n K4 hK4 (v1 ||| (1 <<< (v2 &&& 31))) v2 σ8 h)
def fX4_losable_L4 (n : Nat) : Nat → Int32 → Int32 → gM → Option (Int32 × gM)
  | 0 => fun _ _ _ => none
  | k + 1 => fX4_losable_b4 n (fX4_losable_L4 n k)
theorem tX4_losable_L4 (hE : gEX l dC dI ad ca X) {r0 : Int32} {σ' : gM} (n : Nat)  : ∀ (k : Nat) (v1 : Int32) (v2 : Int32) (σ : gM), fX4_losable_L4 n k v1 v2 σ = some (r0, σ') → g_G l dC dI ad ca shX X cX4_losable 3 RX4 (some .int) (gR 3) (some (.int r0)) σ' 4 [(0, .ref 24), (1, .int v1), (2, .int v2)] [] σ := by
  intro k
  induction k with
  | zero => intro v1 v2 σ h; cases h
  | succ k ih => intro v1 v2 σ h; exact tX4_losable_b4 hE n (fX4_losable_L4 n k) ih v1 v2 σ h
def fX4_losable (n : Nat) (σ : gM) : Option (Int32 × gM) := fX4_losable_L4 n n 0 0 σ
set_option maxRecDepth 100000 in
theorem kX4_losable (hE : gEX l dC dI ad ca X) (n : Nat)  (σ : gM) {r0 : Int32} {σ' : gM} (h : fX4_losable n σ = some (r0, σ')) : g_C l dC dI ad ca shX X yX4_losable cX4_losable 3 (some .int) (gR 3) [.ref 24] σ (some (.int r0)) σ' := by
  refine g_entry (by decide +kernel) (Nat.le_of_ble_eq_true rfl) ?_
  refine g_lvE (lv1 := [(0, .ref 24)]) rfl ?_
  unfold fX4_losable at h
  refine g_iconst (pc := 0) (v := 0) dX4_losable_0 (by decide) ?_
  refine g_istore_n (pc := 1) (lv1 := [(1, .int 0), (0, .ref 24)]) dX4_losable_1 rfl (by decide) rfl ?_
  refine g_iconst (pc := 2) (v := 0) dX4_losable_2 (by decide) ?_
  refine g_istore_n (pc := 3) (lv1 := [(2, .int 0), (1, .int 0), (0, .ref 24)]) dX4_losable_3 rfl (by decide) rfl ?_
  exact g_lv [2, 1, 0] rfl (tX4_losable_L4 hE n n 0 0 σ h)
def fX4_losableCouples_b97 (n : Nat) (K12 : Int32 → Int32 → Int32 → gM → Option (Int32 × gM)) (K28 : Int32 → Int32 → Int32 → Int32 → gM → Option (Int32 × gM)) (v1 : Int32) (v2 : Int32) (v3 : Int32) (v4 : Int32) (σ : gM) : Option (Int32 × gM) := K28 v1 v2 v3 (v4 + 1) σ
set_option maxRecDepth 100000 in
theorem tX4_losableCouples_b97 (hE : gEX l dC dI ad ca X) {r0 : Int32} {σ' : gM} (n : Nat) (K12 : Int32 → Int32 → Int32 → gM → Option (Int32 × gM)) (hK12 : ∀ (v1 : Int32) (v2 : Int32) (v3 : Int32) (σ : gM), K12 v1 v2 v3 σ = some (r0, σ') → g_G l dC dI ad ca shX X cX4_losableCouples 6 RX4 (some .int) (gR 2) (some (.int r0)) σ' 12 [(0, .ref 24), (1, .int v1), (2, .int v2), (3, .int v3)] [] σ) (K28 : Int32 → Int32 → Int32 → Int32 → gM → Option (Int32 × gM)) (hK28 : ∀ (v1 : Int32) (v2 : Int32) (v3 : Int32) (v4 : Int32) (σ : gM), K28 v1 v2 v3 v4 σ = some (r0, σ') → g_G l dC dI ad ca shX X cX4_losableCouples 6 RX4 (some .int) (gR 2) (some (.int r0)) σ' 28 [(0, .ref 24), (1, .int v1), (2, .int v2), (3, .int v3), (4, .int v4)] [] σ) (v1 : Int32) (v2 : Int32) (v3 : Int32) (v4 : Int32)  (σ : gM) (h : fX4_losableCouples_b97 n K12 K28 v1 v2 v3 v4 σ = some (r0, σ')) : g_G l dC dI ad ca shX X cX4_losableCouples 6 RX4 (some .int) (gR 2) (some (.int r0)) σ' 97 [(0, .ref 24), (1, .int v1), (2, .int v2), (3, .int v3), (4, .int v4)] [] σ := by
  unfold fX4_losableCouples_b97 at h
  refine g_iinc (pc := 97) (v := v4 + 1) (lv1 := [(4, .int (v4 + 1)), (0, .ref 24), (1, .int v1), (2, .int v2), (3, .int v3)]) dX4_losableCouples_97 4 rfl rfl (by decide) rfl ?_
  refine g_goto (pc := 100) (tgt := 28) dX4_losableCouples_100 (by decide) ?_
  exact g_lv [1, 2, 3, 4, 0] rfl (hK28 v1 v2 v3 (v4 + 1) σ h)
def fX4_losableCouples_b70 (n : Nat) (K12 : Int32 → Int32 → Int32 → gM → Option (Int32 × gM)) (K28 : Int32 → Int32 → Int32 → Int32 → gM → Option (Int32 × gM)) (v1 : Int32) (v2 : Int32) (v3 : Int32) (v4 : Int32) (s0 : Int32) (σ : gM) : Option (Int32 × gM) := if s0 = 0 then (g_bI (fJ6_bitCount_0f7a4 ((v2 ||| (1 <<< (v3 &&& 31))) ||| (1 <<< (v4 &&& 31))) σ) (fun r22 σ21 => if 2 < r22 then (fX4_losableCouples_b97 n K12 K28 v1 v2 v3 v4 σ21) else (fX4_losableCouples_b97 n K12 K28 (v1 + 1) v2 v3 v4 σ21))) else (fX4_losableCouples_b97 n K12 K28 v1 v2 v3 v4 σ)
set_option maxRecDepth 100000 in
theorem tX4_losableCouples_b70 (hE : gEX l dC dI ad ca X) {r0 : Int32} {σ' : gM} (n : Nat) (K12 : Int32 → Int32 → Int32 → gM → Option (Int32 × gM)) (hK12 : ∀ (v1 : Int32) (v2 : Int32) (v3 : Int32) (σ : gM), K12 v1 v2 v3 σ = some (r0, σ') → g_G l dC dI ad ca shX X cX4_losableCouples 6 RX4 (some .int) (gR 2) (some (.int r0)) σ' 12 [(0, .ref 24), (1, .int v1), (2, .int v2), (3, .int v3)] [] σ) (K28 : Int32 → Int32 → Int32 → Int32 → gM → Option (Int32 × gM)) (hK28 : ∀ (v1 : Int32) (v2 : Int32) (v3 : Int32) (v4 : Int32) (σ : gM), K28 v1 v2 v3 v4 σ = some (r0, σ') → g_G l dC dI ad ca shX X cX4_losableCouples 6 RX4 (some .int) (gR 2) (some (.int r0)) σ' 28 [(0, .ref 24), (1, .int v1), (2, .int v2), (3, .int v3), (4, .int v4)] [] σ) (v1 : Int32) (v2 : Int32) (v3 : Int32) (v4 : Int32) (s0 : Int32)  (σ : gM) (h : fX4_losableCouples_b70 n K12 K28 v1 v2 v3 v4 s0 σ = some (r0, σ')) : g_G l dC dI ad ca shX X cX4_losableCouples 6 RX4 (some .int) (gR 2) (some (.int r0)) σ' 70 [(0, .ref 24), (1, .int v1), (2, .int v2), (3, .int v3), (4, .int v4)] [.int s0] σ := by
  unfold fX4_losableCouples_b70 at h
  refine g_istore (pc := 70) (lv1 := [(5, .int s0), (0, .ref 24), (1, .int v1), (2, .int v2), (3, .int v3), (4, .int v4)]) dX4_losableCouples_70 (by decide) rfl ?_
  refine g_iload (pc := 72) dX4_losableCouples_72 0 rfl ?_
  refine g_if_ne (pc := 74) (tgt := 97) dX4_losableCouples_74 (by decide) (fun c19 => ?_) (fun c19 => ?_)
  · have h := g_iff c19 h
    exact g_lv [1, 2, 3, 4, 5] rfl (tX4_losableCouples_b97 hE n K12 hK12 K28 hK28 v1 v2 v3 v4 σ h)
  · have h := g_ift c19 h
    refine g_iload_n (pc := 77) dX4_losableCouples_77 rfl 3 rfl ?_
    refine g_iconst (pc := 78) (v := 1) dX4_losableCouples_78 (by decide) ?_
    refine g_iload_n (pc := 79) dX4_losableCouples_79 rfl 4 rfl ?_
    refine g_ishl (pc := 80) dX4_losableCouples_80 ?_
    refine g_ior (pc := 81) dX4_losableCouples_81 ?_
    refine g_iconst (pc := 82) (v := 1) dX4_losableCouples_82 (by decide) ?_
    refine g_iload (pc := 83) dX4_losableCouples_83 5 rfl ?_
    refine g_ishl (pc := 85) dX4_losableCouples_85 ?_
    refine g_ior (pc := 86) dX4_losableCouples_86 ?_
    obtain ⟨r22, σ21, h20, h⟩ := g_bId h
    refine g_callSi (pc := 87) (st := []) hE.1 wsX4_42 (kJ6_bitCount_0f7a4 hE ((v2 ||| (1 <<< (v3 &&& 31))) ||| (1 <<< (v4 &&& 31))) σ h20) rfl (gR_ok (by decide) (by decide)) (Nat.le_of_ble_eq_true rfl) rfl dX4_losableCouples_87 ?_
    refine g_iconst (pc := 90) (v := 2) dX4_losableCouples_90 (by decide) ?_
    refine g_icmp_gt (pc := 91) (tgt := 97) dX4_losableCouples_91 (by decide) (fun c23 => ?_) (fun c23 => ?_)
    · have h := g_ift c23 h
      exact g_lv [1, 2, 3, 4, 5] rfl (tX4_losableCouples_b97 hE n K12 hK12 K28 hK28 v1 v2 v3 v4 σ21 h)
    · have h := g_iff c23 h
      refine g_iinc (pc := 94) (v := v1 + 1) (lv1 := [(1, .int (v1 + 1)), (5, .int s0), (0, .ref 24), (2, .int v2), (3, .int v3), (4, .int v4)]) dX4_losableCouples_94 2 rfl rfl (by decide) rfl ?_
      exact g_lv [2, 0, 3, 4, 5] rfl (tX4_losableCouples_b97 hE n K12 hK12 K28 hK28 (v1 + 1) v2 v3 v4 σ21 h)
def fX4_losableCouples_b65 (n : Nat) (K12 : Int32 → Int32 → Int32 → gM → Option (Int32 × gM)) (K28 : Int32 → Int32 → Int32 → Int32 → gM → Option (Int32 × gM)) (v1 : Int32) (v2 : Int32) (v3 : Int32) (v4 : Int32) (σ : gM) : Option (Int32 × gM) := fX4_losableCouples_b70 n K12 K28 v1 v2 v3 v4 1 σ
set_option maxRecDepth 100000 in
theorem tX4_losableCouples_b65 (hE : gEX l dC dI ad ca X) {r0 : Int32} {σ' : gM} (n : Nat) (K12 : Int32 → Int32 → Int32 → gM → Option (Int32 × gM)) (hK12 : ∀ (v1 : Int32) (v2 : Int32) (v3 : Int32) (σ : gM), K12 v1 v2 v3 σ = some (r0, σ') → g_G l dC dI ad ca shX X cX4_losableCouples 6 RX4 (some .int) (gR 2) (some (.int r0)) σ' 12 [(0, .ref 24), (1, .int v1), (2, .int v2), (3, .int v3)] [] σ) (K28 : Int32 → Int32 → Int32 → Int32 → gM → Option (Int32 × gM)) (hK28 : ∀ (v1 : Int32) (v2 : Int32) (v3 : Int32) (v4 : Int32) (σ : gM), K28 v1 v2 v3 v4 σ = some (r0, σ') → g_G l dC dI ad ca shX X cX4_losableCouples 6 RX4 (some .int) (gR 2) (some (.int r0)) σ' 28 [(0, .ref 24), (1, .int v1), (2, .int v2), (3, .int v3), (4, .int v4)] [] σ) (v1 : Int32) (v2 : Int32) (v3 : Int32) (v4 : Int32)  (σ : gM) (h : fX4_losableCouples_b65 n K12 K28 v1 v2 v3 v4 σ = some (r0, σ')) : g_G l dC dI ad ca shX X cX4_losableCouples 6 RX4 (some .int) (gR 2) (some (.int r0)) σ' 65 [(0, .ref 24), (1, .int v1), (2, .int v2), (3, .int v3), (4, .int v4)] [] σ := by
  unfold fX4_losableCouples_b65 at h
  refine g_iconst (pc := 65) (v := 1) dX4_losableCouples_65 (by decide) ?_
  refine g_goto (pc := 66) (tgt := 70) dX4_losableCouples_66 (by decide) ?_
  exact g_lv [0, 1, 2, 3, 4] rfl (tX4_losableCouples_b70 hE n K12 hK12 K28 hK28 v1 v2 v3 v4 1 σ h)
def fX4_losableCouples_b28 (n : Nat) (K12 : Int32 → Int32 → Int32 → gM → Option (Int32 × gM)) (K28 : Int32 → Int32 → Int32 → Int32 → gM → Option (Int32 × gM)) (v1 : Int32) (v2 : Int32) (v3 : Int32) (v4 : Int32) (σ : gM) : Option (Int32 × gM) := if (σ.1 5 5) ≤ v4 then (K12 v1 v2 (v3 + 1) σ) else (g_bI (fX8_stands 0 v3 1 σ) (fun r27 σ26 => if r27 = 0 then (g_bI (fX8_stands 0 v4 1 σ26) (fun r31 σ30 => if r31 = 0 then (fX4_losableCouples_b70 n K12 K28 v1 v2 v3 v4 0 σ30) else (fX4_losableCouples_b65 n K12 K28 v1 v2 v3 v4 σ30))) else (fX4_losableCouples_b65 n K12 K28 v1 v2 v3 v4 σ26)))
set_option maxRecDepth 100000 in
theorem tX4_losableCouples_b28 (hE : gEX l dC dI ad ca X) {r0 : Int32} {σ' : gM} (n : Nat) (K12 : Int32 → Int32 → Int32 → gM → Option (Int32 × gM)) (hK12 : ∀ (v1 : Int32) (v2 : Int32) (v3 : Int32) (σ : gM), K12 v1 v2 v3 σ = some (r0, σ') → g_G l dC dI ad ca shX X cX4_losableCouples 6 RX4 (some .int) (gR 2) (some (.int r0)) σ' 12 [(0, .ref 24), (1, .int v1), (2, .int v2), (3, .int v3)] [] σ) (K28 : Int32 → Int32 → Int32 → Int32 → gM → Option (Int32 × gM)) (hK28 : ∀ (v1 : Int32) (v2 : Int32) (v3 : Int32) (v4 : Int32) (σ : gM), K28 v1 v2 v3 v4 σ = some (r0, σ') → g_G l dC dI ad ca shX X cX4_losableCouples 6 RX4 (some .int) (gR 2) (some (.int r0)) σ' 28 [(0, .ref 24), (1, .int v1), (2, .int v2), (3, .int v3), (4, .int v4)] [] σ) (v1 : Int32) (v2 : Int32) (v3 : Int32) (v4 : Int32)  (σ : gM) (h : fX4_losableCouples_b28 n K12 K28 v1 v2 v3 v4 σ = some (r0, σ')) : g_G l dC dI ad ca shX X cX4_losableCouples 6 RX4 (some .int) (gR 2) (some (.int r0)) σ' 28 [(0, .ref 24), (1, .int v1), (2, .int v2), (3, .int v3), (4, .int v4)] [] σ := by
  unfold fX4_losableCouples_b28 at h
  refine g_iload (pc := 28) dX4_losableCouples_28 4 rfl ?_
  refine g_aload_n (pc := 30) dX4_losableCouples_30 rfl 0 rfl ?_
  refine g_getR (pc := 31) wfX4_21 rfl rfl dX4_losableCouples_31 ?_
  refine g_getI (pc := 34) wfX4_85 rfl rfl dX4_losableCouples_34 ?_
  refine g_icmp_ge (pc := 37) (tgt := 103) dX4_losableCouples_37 (by decide) (fun c24 => ?_) (fun c24 => ?_)
  · have h := g_ift c24 h
    refine g_iinc (pc := 103) (v := v3 + 1) (lv1 := [(3, .int (v3 + 1)), (0, .ref 24), (1, .int v1), (2, .int v2), (4, .int v4)]) dX4_losableCouples_103 3 rfl rfl (by decide) rfl ?_
    refine g_goto (pc := 106) (tgt := 12) dX4_losableCouples_106 (by decide) ?_
    exact g_lv [1, 2, 3, 0] rfl (hK12 v1 v2 (v3 + 1) σ h)
  · have h := g_iff c24 h
    refine g_aload_n (pc := 40) dX4_losableCouples_40 rfl 0 rfl ?_
    refine g_getR (pc := 41) wfX4_9 rfl rfl dX4_losableCouples_41 ?_
    refine g_iload_n (pc := 44) dX4_losableCouples_44 rfl 3 rfl ?_
    refine g_iconst (pc := 45) (v := 1) dX4_losableCouples_45 (by decide) ?_
    obtain ⟨r27, σ26, h25, h⟩ := g_bId h
    refine g_callVi (pc := 46) (st := []) hE.1 wvX4_97 (sX_shelf (i := 0) (by decide)) rfl (kX8_stands hE 0 (by decide) v3 1 σ h25) rfl (gR_ok (by decide) (by decide)) (Nat.le_of_ble_eq_true rfl) rfl dX4_losableCouples_46 ?_
    refine g_if_ne (pc := 49) (tgt := 65) dX4_losableCouples_49 (by decide) (fun c28 => ?_) (fun c28 => ?_)
    · have h := g_iff c28 h
      exact g_lv [0, 1, 2, 3, 4] rfl (tX4_losableCouples_b65 hE n K12 hK12 K28 hK28 v1 v2 v3 v4 σ26 h)
    · have h := g_ift c28 h
      refine g_aload_n (pc := 52) dX4_losableCouples_52 rfl 0 rfl ?_
      refine g_getR (pc := 53) wfX4_9 rfl rfl dX4_losableCouples_53 ?_
      refine g_iload (pc := 56) dX4_losableCouples_56 4 rfl ?_
      refine g_iconst (pc := 58) (v := 1) dX4_losableCouples_58 (by decide) ?_
      obtain ⟨r31, σ30, h29, h⟩ := g_bId h
      refine g_callVi (pc := 59) (st := []) hE.1 wvX4_97 (sX_shelf (i := 0) (by decide)) rfl (kX8_stands hE 0 (by decide) v4 1 σ26 h29) rfl (gR_ok (by decide) (by decide)) (Nat.le_of_ble_eq_true rfl) rfl dX4_losableCouples_59 ?_
      refine g_if_eq (pc := 62) (tgt := 69) dX4_losableCouples_62 (by decide) (fun c32 => ?_) (fun c32 => ?_)
      · have h := g_ift c32 h
        refine g_iconst (pc := 69) (v := 0) dX4_losableCouples_69 (by decide) ?_
        exact g_lv [0, 1, 2, 3, 4] rfl (tX4_losableCouples_b70 hE n K12 hK12 K28 hK28 v1 v2 v3 v4 0 σ30 h)
      · have h := g_iff c32 h
        exact g_lv [0, 1, 2, 3, 4] rfl (tX4_losableCouples_b65 hE n K12 hK12 K28 hK28 v1 v2 v3 v4 σ30 h)
def fX4_losableCouples_L28 (n : Nat) (K12 : Int32 → Int32 → Int32 → gM → Option (Int32 × gM)) : Nat → Int32 → Int32 → Int32 → Int32 → gM → Option (Int32 × gM)
  | 0 => fun _ _ _ _ _ => none
  | k + 1 => fX4_losableCouples_b28 n K12 (fX4_losableCouples_L28 n K12 k)
theorem tX4_losableCouples_L28 (hE : gEX l dC dI ad ca X) {r0 : Int32} {σ' : gM} (n : Nat) (K12 : Int32 → Int32 → Int32 → gM → Option (Int32 × gM)) (hK12 : ∀ (v1 : Int32) (v2 : Int32) (v3 : Int32) (σ : gM), K12 v1 v2 v3 σ = some (r0, σ') → g_G l dC dI ad ca shX X cX4_losableCouples 6 RX4 (some .int) (gR 2) (some (.int r0)) σ' 12 [(0, .ref 24), (1, .int v1), (2, .int v2), (3, .int v3)] [] σ)  : ∀ (k : Nat) (v1 : Int32) (v2 : Int32) (v3 : Int32) (v4 : Int32) (σ : gM), fX4_losableCouples_L28 n K12 k v1 v2 v3 v4 σ = some (r0, σ') → g_G l dC dI ad ca shX X cX4_losableCouples 6 RX4 (some .int) (gR 2) (some (.int r0)) σ' 28 [(0, .ref 24), (1, .int v1), (2, .int v2), (3, .int v3), (4, .int v4)] [] σ := by
  intro k
  induction k with
  | zero => intro v1 v2 v3 v4 σ h; cases h
  | succ k ih => intro v1 v2 v3 v4 σ h; exact tX4_losableCouples_b28 hE n K12 hK12 (fX4_losableCouples_L28 n K12 k) ih v1 v2 v3 v4 σ h
def fX4_losableCouples_b12 (n : Nat) (K12 : Int32 → Int32 → Int32 → gM → Option (Int32 × gM)) (v1 : Int32) (v2 : Int32) (v3 : Int32) (σ : gM) : Option (Int32 × gM) := if (σ.1 5 5) ≤ v3 then (some (v1, σ)) else (fX4_losableCouples_L28 n K12 n v1 v2 v3 (v3 + 1) σ)
set_option maxRecDepth 100000 in
theorem tX4_losableCouples_b12 (hE : gEX l dC dI ad ca X) {r0 : Int32} {σ' : gM} (n : Nat) (K12 : Int32 → Int32 → Int32 → gM → Option (Int32 × gM)) (hK12 : ∀ (v1 : Int32) (v2 : Int32) (v3 : Int32) (σ : gM), K12 v1 v2 v3 σ = some (r0, σ') → g_G l dC dI ad ca shX X cX4_losableCouples 6 RX4 (some .int) (gR 2) (some (.int r0)) σ' 12 [(0, .ref 24), (1, .int v1), (2, .int v2), (3, .int v3)] [] σ) (v1 : Int32) (v2 : Int32) (v3 : Int32)  (σ : gM) (h : fX4_losableCouples_b12 n K12 v1 v2 v3 σ = some (r0, σ')) : g_G l dC dI ad ca shX X cX4_losableCouples 6 RX4 (some .int) (gR 2) (some (.int r0)) σ' 12 [(0, .ref 24), (1, .int v1), (2, .int v2), (3, .int v3)] [] σ := by
  unfold fX4_losableCouples_b12 at h
  refine g_iload_n (pc := 12) dX4_losableCouples_12 rfl 3 rfl ?_
  refine g_aload_n (pc := 13) dX4_losableCouples_13 rfl 0 rfl ?_
  refine g_getR (pc := 14) wfX4_21 rfl rfl dX4_losableCouples_14 ?_
  refine g_getI (pc := 17) wfX4_85 rfl rfl dX4_losableCouples_17 ?_
  refine g_icmp_ge (pc := 20) (tgt := 109) dX4_losableCouples_20 (by decide) (fun c33 => ?_) (fun c33 => ?_)
  · have h := g_ift c33 h
    refine g_iload_n (pc := 109) dX4_losableCouples_109 rfl 1 rfl ?_
    cases h
    exact g_iret (pc := 110) rfl rfl rfl rfl dX4_losableCouples_110
  · have h := g_iff c33 h
    refine g_iload_n (pc := 23) dX4_losableCouples_23 rfl 3 rfl ?_
    refine g_iconst (pc := 24) (v := 1) dX4_losableCouples_24 (by decide) ?_
    refine g_iadd (pc := 25) dX4_losableCouples_25 ?_
    refine g_istore (pc := 26) (lv1 := [(4, .int (v3 + 1)), (0, .ref 24), (1, .int v1), (2, .int v2), (3, .int v3)]) dX4_losableCouples_26 (by decide) rfl ?_
    exact g_lv [1, 2, 3, 4, 0] rfl (tX4_losableCouples_L28 hE n K12 hK12 n v1 v2 v3 (v3 + 1) σ h)
def fX4_losableCouples_L12 (n : Nat) : Nat → Int32 → Int32 → Int32 → gM → Option (Int32 × gM)
  | 0 => fun _ _ _ _ => none
  | k + 1 => fX4_losableCouples_b12 n (fX4_losableCouples_L12 n k)
theorem tX4_losableCouples_L12 (hE : gEX l dC dI ad ca X) {r0 : Int32} {σ' : gM} (n : Nat)  : ∀ (k : Nat) (v1 : Int32) (v2 : Int32) (v3 : Int32) (σ : gM), fX4_losableCouples_L12 n k v1 v2 v3 σ = some (r0, σ') → g_G l dC dI ad ca shX X cX4_losableCouples 6 RX4 (some .int) (gR 2) (some (.int r0)) σ' 12 [(0, .ref 24), (1, .int v1), (2, .int v2), (3, .int v3)] [] σ := by
  intro k
  induction k with
  | zero => intro v1 v2 v3 σ h; cases h
  | succ k ih => intro v1 v2 v3 σ h; exact tX4_losableCouples_b12 hE n (fX4_losableCouples_L12 n k) ih v1 v2 v3 σ h
def fX4_losableCouples (n : Nat) (σ : gM) : Option (Int32 × gM) := g_bI (fX8_notWhole n 0 σ) (fun r36 σ35 => fX4_losableCouples_L12 n n 0 r36 0 σ35)
set_option maxRecDepth 100000 in
theorem kX4_losableCouples (hE : gEX l dC dI ad ca X) (n : Nat)  (σ : gM) {r0 : Int32} {σ' : gM} (h : fX4_losableCouples n σ = some (r0, σ')) : g_C l dC dI ad ca shX X yX4_losableCouples cX4_losableCouples 6 (some .int) (gR 2) [.ref 24] σ (some (.int r0)) σ' := by
  refine g_entry (by decide +kernel) (Nat.le_of_ble_eq_true rfl) ?_
  refine g_lvE (lv1 := [(0, .ref 24)]) rfl ?_
  unfold fX4_losableCouples at h
  refine g_iconst (pc := 0) (v := 0) dX4_losableCouples_0 (by decide) ?_
  refine g_istore_n (pc := 1) (lv1 := [(1, .int 0), (0, .ref 24)]) dX4_losableCouples_1 rfl (by decide) rfl ?_
  refine g_aload_n (pc := 2) dX4_losableCouples_2 rfl 1 rfl ?_
  refine g_getR (pc := 3) wfX4_9 rfl rfl dX4_losableCouples_3 ?_
  obtain ⟨r36, σ35, h34, h⟩ := g_bId h
  refine g_callVi (pc := 6) (st := []) hE.1 wvX4_92 (sX_shelf (i := 0) (by decide)) rfl (kX8_notWhole hE n 0 (by decide) σ h34) rfl (gR_ok (by decide) (by decide)) (Nat.le_of_ble_eq_true rfl) rfl dX4_losableCouples_6 ?_
  refine g_istore_n (pc := 9) (lv1 := [(2, .int r36), (1, .int 0), (0, .ref 24)]) dX4_losableCouples_9 rfl (by decide) rfl ?_
  refine g_iconst (pc := 10) (v := 0) dX4_losableCouples_10 (by decide) ?_
  refine g_istore_n (pc := 11) (lv1 := [(3, .int 0), (2, .int r36), (1, .int 0), (0, .ref 24)]) dX4_losableCouples_11 rfl (by decide) rfl ?_
  exact g_lv [3, 2, 1, 0] rfl (tX4_losableCouples_L12 hE n n 0 r36 0 σ35 h)
def fX4_stripesLeftOf (v1 : Int32) (σ : gM) : Option (Int32 × gM) := g_bI (fX9_get 0 (104 + v1) σ) (fun r6 σ5 => some ((σ.1 5 1) - r6, σ5))
set_option maxRecDepth 100000 in
theorem kX4_stripesLeftOf (hE : gEX l dC dI ad ca X)  (v1 : Int32) (σ : gM) {r0 : Int32} {σ' : gM} (h : fX4_stripesLeftOf v1 σ = some (r0, σ')) : g_C l dC dI ad ca shX X yX4_stripesLeftOf cX4_stripesLeftOf 2 (some .int) (gR 1) [.ref 24, .int v1] σ (some (.int r0)) σ' := by
  refine g_entry (by decide +kernel) (Nat.le_of_ble_eq_true rfl) ?_
  refine g_lvE (lv1 := [(0, .ref 24), (1, .int v1)]) rfl ?_
  unfold fX4_stripesLeftOf at h
  refine g_aload_n (pc := 0) dX4_stripesLeftOf_0 rfl 0 rfl ?_
  refine g_getR (pc := 1) wfX4_21 rfl rfl dX4_stripesLeftOf_1 ?_
  refine g_getI (pc := 4) wfX4_101 rfl rfl dX4_stripesLeftOf_4 ?_
  refine g_aload_n (pc := 7) dX4_stripesLeftOf_7 rfl 0 rfl ?_
  refine g_getR (pc := 8) wfX4_9 rfl rfl dX4_stripesLeftOf_8 ?_
  refine g_getR (pc := 11) wfX4_58 (sX_shelf (i := 0) (by decide)) rfl dX4_stripesLeftOf_11 ?_
  refine g_bipush (pc := 14) (v := 104) dX4_stripesLeftOf_14 (by decide) ?_
  refine g_iload_n (pc := 16) dX4_stripesLeftOf_16 rfl 1 rfl ?_
  refine g_iadd (pc := 17) dX4_stripesLeftOf_17 ?_
  obtain ⟨r6, σ5, h4, h⟩ := g_bId h
  refine g_callVi (pc := 18) (st := [.int (σ.1 5 1)]) hE.1 wvX4_104 (sX_state (i := 0) (by decide)) rfl (kX9_get hE 0 (by decide) (104 + v1) σ h4) rfl (gR_ok (by decide) (by decide)) (Nat.le_of_ble_eq_true rfl) rfl dX4_stripesLeftOf_18 ?_
  refine g_isub (pc := 21) dX4_stripesLeftOf_21 ?_
  cases h
  exact g_iret (pc := 22) rfl rfl rfl rfl dX4_stripesLeftOf_22
def fX4_stripesLeft_b35 (n : Nat) (K4 : Int32 → Int32 → gM → Option (Int32 × gM)) (v1 : Int32) (v2 : Int32) (σ : gM) : Option (Int32 × gM) := K4 v1 (v2 + 1) σ
set_option maxRecDepth 100000 in
theorem tX4_stripesLeft_b35 (hE : gEX l dC dI ad ca X) {r0 : Int32} {σ' : gM} (n : Nat) (K4 : Int32 → Int32 → gM → Option (Int32 × gM)) (hK4 : ∀ (v1 : Int32) (v2 : Int32) (σ : gM), K4 v1 v2 σ = some (r0, σ') → g_G l dC dI ad ca shX X cX4_stripesLeft 3 RX4 (some .int) (gR 2) (some (.int r0)) σ' 4 [(0, .ref 24), (1, .int v1), (2, .int v2)] [] σ) (v1 : Int32) (v2 : Int32)  (σ : gM) (h : fX4_stripesLeft_b35 n K4 v1 v2 σ = some (r0, σ')) : g_G l dC dI ad ca shX X cX4_stripesLeft 3 RX4 (some .int) (gR 2) (some (.int r0)) σ' 35 [(0, .ref 24), (1, .int v1), (2, .int v2)] [] σ := by
  unfold fX4_stripesLeft_b35 at h
  refine g_iinc (pc := 35) (v := v2 + 1) (lv1 := [(2, .int (v2 + 1)), (0, .ref 24), (1, .int v1)]) dX4_stripesLeft_35 2 rfl rfl (by decide) rfl ?_
  refine g_goto (pc := 38) (tgt := 4) dX4_stripesLeft_38 (by decide) ?_
  exact g_lv [1, 2, 0] rfl (hK4 v1 (v2 + 1) σ h)
def fX4_stripesLeft_b4 (n : Nat) (K4 : Int32 → Int32 → gM → Option (Int32 × gM)) (v1 : Int32) (v2 : Int32) (σ : gM) : Option (Int32 × gM) := if (σ.1 5 5) ≤ v2 then (some (v1, σ)) else (g_bI (fX8_stands 0 v2 2 σ) (fun r12 σ11 => if r12 = 0 then (fX4_stripesLeft_b35 n K4 v1 v2 σ11) else (g_bI (fX4_stripesLeftOf v2 σ11) (fun r16 σ15 => fX4_stripesLeft_b35 n K4 (v1 + r16) v2 σ15))))
set_option maxRecDepth 100000 in
theorem tX4_stripesLeft_b4 (hE : gEX l dC dI ad ca X) {r0 : Int32} {σ' : gM} (n : Nat) (K4 : Int32 → Int32 → gM → Option (Int32 × gM)) (hK4 : ∀ (v1 : Int32) (v2 : Int32) (σ : gM), K4 v1 v2 σ = some (r0, σ') → g_G l dC dI ad ca shX X cX4_stripesLeft 3 RX4 (some .int) (gR 2) (some (.int r0)) σ' 4 [(0, .ref 24), (1, .int v1), (2, .int v2)] [] σ) (v1 : Int32) (v2 : Int32)  (σ : gM) (h : fX4_stripesLeft_b4 n K4 v1 v2 σ = some (r0, σ')) : g_G l dC dI ad ca shX X cX4_stripesLeft 3 RX4 (some .int) (gR 2) (some (.int r0)) σ' 4 [(0, .ref 24), (1, .int v1), (2, .int v2)] [] σ := by
  unfold fX4_stripesLeft_b4 at h
  refine g_iload_n (pc := 4) dX4_stripesLeft_4 rfl 2 rfl ?_
  refine g_aload_n (pc := 5) dX4_stripesLeft_5 rfl 0 rfl ?_
  refine g_getR (pc := 6) wfX4_21 rfl rfl dX4_stripesLeft_6 ?_
  refine g_getI (pc := 9) wfX4_85 rfl rfl dX4_stripesLeft_9 ?_
  refine g_icmp_ge (pc := 12) (tgt := 41) dX4_stripesLeft_12 (by decide) (fun c9 => ?_) (fun c9 => ?_)
  · have h := g_ift c9 h
    refine g_iload_n (pc := 41) dX4_stripesLeft_41 rfl 1 rfl ?_
    cases h
    exact g_iret (pc := 42) rfl rfl rfl rfl dX4_stripesLeft_42
  · have h := g_iff c9 h
    refine g_aload_n (pc := 15) dX4_stripesLeft_15 rfl 0 rfl ?_
    refine g_getR (pc := 16) wfX4_9 rfl rfl dX4_stripesLeft_16 ?_
    refine g_iload_n (pc := 19) dX4_stripesLeft_19 rfl 2 rfl ?_
    refine g_iconst (pc := 20) (v := 2) dX4_stripesLeft_20 (by decide) ?_
    obtain ⟨r12, σ11, h10, h⟩ := g_bId h
    refine g_callVi (pc := 21) (st := []) hE.1 wvX4_97 (sX_shelf (i := 0) (by decide)) rfl (kX8_stands hE 0 (by decide) v2 2 σ h10) rfl (gR_ok (by decide) (by decide)) (Nat.le_of_ble_eq_true rfl) rfl dX4_stripesLeft_21 ?_
    refine g_if_eq (pc := 24) (tgt := 35) dX4_stripesLeft_24 (by decide) (fun c13 => ?_) (fun c13 => ?_)
    · have h := g_ift c13 h
      exact g_lv [0, 1, 2] rfl (tX4_stripesLeft_b35 hE n K4 hK4 v1 v2 σ11 h)
    · have h := g_iff c13 h
      refine g_iload_n (pc := 27) dX4_stripesLeft_27 rfl 1 rfl ?_
      refine g_aload_n (pc := 28) dX4_stripesLeft_28 rfl 0 rfl ?_
      refine g_iload_n (pc := 29) dX4_stripesLeft_29 rfl 2 rfl ?_
      obtain ⟨r16, σ15, h14, h⟩ := g_bId h
      refine g_callVi (pc := 30) (st := [.int v1]) hE.1 wvX4_105 rfl rfl (kX4_stripesLeftOf hE v2 σ11 h14) rfl (gR_ok (by decide) (by decide)) (Nat.le_of_ble_eq_true rfl) rfl dX4_stripesLeft_30 ?_
      refine g_iadd (pc := 33) dX4_stripesLeft_33 ?_
      refine g_istore_n (pc := 34) (lv1 := [(1, .int (v1 + r16)), (0, .ref 24), (2, .int v2)]) dX4_stripesLeft_34 rfl (by decide) rfl ?_
      exact g_lv [1, 0, 2] rfl (tX4_stripesLeft_b35 hE n K4 hK4 (v1 + r16) v2 σ15 h)
def fX4_stripesLeft_L4 (n : Nat) : Nat → Int32 → Int32 → gM → Option (Int32 × gM)
  | 0 => fun _ _ _ => none
  | k + 1 => fX4_stripesLeft_b4 n (fX4_stripesLeft_L4 n k)
theorem tX4_stripesLeft_L4 (hE : gEX l dC dI ad ca X) {r0 : Int32} {σ' : gM} (n : Nat)  : ∀ (k : Nat) (v1 : Int32) (v2 : Int32) (σ : gM), fX4_stripesLeft_L4 n k v1 v2 σ = some (r0, σ') → g_G l dC dI ad ca shX X cX4_stripesLeft 3 RX4 (some .int) (gR 2) (some (.int r0)) σ' 4 [(0, .ref 24), (1, .int v1), (2, .int v2)] [] σ := by
  intro k
  induction k with
  | zero => intro v1 v2 σ h; cases h
  | succ k ih => intro v1 v2 σ h; exact tX4_stripesLeft_b4 hE n (fX4_stripesLeft_L4 n k) ih v1 v2 σ h
def fX4_stripesLeft (n : Nat) (σ : gM) : Option (Int32 × gM) := fX4_stripesLeft_L4 n n 0 0 σ
set_option maxRecDepth 100000 in
theorem kX4_stripesLeft (hE : gEX l dC dI ad ca X) (n : Nat)  (σ : gM) {r0 : Int32} {σ' : gM} (h : fX4_stripesLeft n σ = some (r0, σ')) : g_C l dC dI ad ca shX X yX4_stripesLeft cX4_stripesLeft 3 (some .int) (gR 2) [.ref 24] σ (some (.int r0)) σ' := by
  refine g_entry (by decide +kernel) (Nat.le_of_ble_eq_true rfl) ?_
  refine g_lvE (lv1 := [(0, .ref 24)]) rfl ?_
  unfold fX4_stripesLeft at h
  refine g_iconst (pc := 0) (v := 0) dX4_stripesLeft_0 (by decide) ?_
  refine g_istore_n (pc := 1) (lv1 := [(1, .int 0), (0, .ref 24)]) dX4_stripesLeft_1 rfl (by decide) rfl ?_
  refine g_iconst (pc := 2) (v := 0) dX4_stripesLeft_2 (by decide) ?_
  refine g_istore_n (pc := 3) (lv1 := [(2, .int 0), (1, .int 0), (0, .ref 24)]) dX4_stripesLeft_3 rfl (by decide) rfl ?_
  exact g_lv [2, 1, 0] rfl (tX4_stripesLeft_L4 hE n n 0 0 σ h)
def fX4_readsTillWhole_b71 (n : Nat) (K18 : Int32 → Int32 → Int32 → gM → Option (Int32 × gM)) (K33 : Int32 → Int32 → Int32 → Int32 → gM → Option (Int32 × gM)) (v2 : Int32) (v3 : Int32) (v4 : Int32) (v5 : Int32) (σ : gM) : Option (Int32 × gM) := K33 v2 v3 v4 (v5 + 1) σ
set_option maxRecDepth 100000 in
theorem tX4_readsTillWhole_b71 (hE : gEX l dC dI ad ca X) {r0 : Int32} {σ' : gM} (n : Nat) (K18 : Int32 → Int32 → Int32 → gM → Option (Int32 × gM)) (hK18 : ∀ (v2 : Int32) (v3 : Int32) (v4 : Int32) (σ : gM), K18 v2 v3 v4 σ = some (r0, σ') → g_G l dC dI ad ca shX X cX4_readsTillWhole 6 RX4 (some .int) (gR 2) (some (.int r0)) σ' 18 [(0, .ref 24), (2, .int v2), (3, .int v3), (4, .int v4)] [] σ) (K33 : Int32 → Int32 → Int32 → Int32 → gM → Option (Int32 × gM)) (hK33 : ∀ (v2 : Int32) (v3 : Int32) (v4 : Int32) (v5 : Int32) (σ : gM), K33 v2 v3 v4 v5 σ = some (r0, σ') → g_G l dC dI ad ca shX X cX4_readsTillWhole 6 RX4 (some .int) (gR 2) (some (.int r0)) σ' 33 [(0, .ref 24), (2, .int v2), (3, .int v3), (4, .int v4), (5, .int v5)] [] σ) (v2 : Int32) (v3 : Int32) (v4 : Int32) (v5 : Int32)  (σ : gM) (h : fX4_readsTillWhole_b71 n K18 K33 v2 v3 v4 v5 σ = some (r0, σ')) : g_G l dC dI ad ca shX X cX4_readsTillWhole 6 RX4 (some .int) (gR 2) (some (.int r0)) σ' 71 [(0, .ref 24), (2, .int v2), (3, .int v3), (4, .int v4), (5, .int v5)] [] σ := by
  unfold fX4_readsTillWhole_b71 at h
  refine g_iinc (pc := 71) (v := v5 + 1) (lv1 := [(5, .int (v5 + 1)), (0, .ref 24), (2, .int v2), (3, .int v3), (4, .int v4)]) dX4_readsTillWhole_71 4 rfl rfl (by decide) rfl ?_
  refine g_goto (pc := 74) (tgt := 33) dX4_readsTillWhole_74 (by decide) ?_
  exact g_lv [1, 2, 3, 4, 0] rfl (hK33 v2 v3 v4 (v5 + 1) σ h)
def fX4_readsTillWhole_b68 (n : Nat) (K18 : Int32 → Int32 → Int32 → gM → Option (Int32 × gM)) (K33 : Int32 → Int32 → Int32 → Int32 → gM → Option (Int32 × gM)) (v2 : Int32) (v3 : Int32) (v4 : Int32) (v5 : Int32) (σ : gM) : Option (Int32 × gM) := fX4_readsTillWhole_b71 n K18 K33 v2 (v3 + 1) v4 v5 σ
set_option maxRecDepth 100000 in
theorem tX4_readsTillWhole_b68 (hE : gEX l dC dI ad ca X) {r0 : Int32} {σ' : gM} (n : Nat) (K18 : Int32 → Int32 → Int32 → gM → Option (Int32 × gM)) (hK18 : ∀ (v2 : Int32) (v3 : Int32) (v4 : Int32) (σ : gM), K18 v2 v3 v4 σ = some (r0, σ') → g_G l dC dI ad ca shX X cX4_readsTillWhole 6 RX4 (some .int) (gR 2) (some (.int r0)) σ' 18 [(0, .ref 24), (2, .int v2), (3, .int v3), (4, .int v4)] [] σ) (K33 : Int32 → Int32 → Int32 → Int32 → gM → Option (Int32 × gM)) (hK33 : ∀ (v2 : Int32) (v3 : Int32) (v4 : Int32) (v5 : Int32) (σ : gM), K33 v2 v3 v4 v5 σ = some (r0, σ') → g_G l dC dI ad ca shX X cX4_readsTillWhole 6 RX4 (some .int) (gR 2) (some (.int r0)) σ' 33 [(0, .ref 24), (2, .int v2), (3, .int v3), (4, .int v4), (5, .int v5)] [] σ) (v2 : Int32) (v3 : Int32) (v4 : Int32) (v5 : Int32)  (σ : gM) (h : fX4_readsTillWhole_b68 n K18 K33 v2 v3 v4 v5 σ = some (r0, σ')) : g_G l dC dI ad ca shX X cX4_readsTillWhole 6 RX4 (some .int) (gR 2) (some (.int r0)) σ' 68 [(0, .ref 24), (2, .int v2), (3, .int v3), (4, .int v4), (5, .int v5)] [] σ := by
  unfold fX4_readsTillWhole_b68 at h
  refine g_iinc (pc := 68) (v := v3 + 1) (lv1 := [(3, .int (v3 + 1)), (0, .ref 24), (2, .int v2), (4, .int v4), (5, .int v5)]) dX4_readsTillWhole_68 2 rfl rfl (by decide) rfl ?_
  exact g_lv [1, 2, 0, 3, 4] rfl (tX4_readsTillWhole_b71 hE n K18 hK18 K33 hK33 v2 (v3 + 1) v4 v5 σ h)
def fX4_readsTillWhole_b33 (n : Nat) (K18 : Int32 → Int32 → Int32 → gM → Option (Int32 × gM)) (K33 : Int32 → Int32 → Int32 → Int32 → gM → Option (Int32 × gM)) (v2 : Int32) (v3 : Int32) (v4 : Int32) (v5 : Int32) (σ : gM) : Option (Int32 × gM) := if (σ.1 5 5) ≤ v5 then (K18 v2 v3 (v4 + 1) σ) else (g_bI (fX8_isThere 0 v5 v4 σ) (fun r14 σ13 => if r14 = 0 then (if ((v2 >>> (v5 &&& 31)) &&& 1) = 0 then (fX4_readsTillWhole_b71 n K18 K33 v2 v3 v4 v5 σ13) else (fX4_readsTillWhole_b68 n K18 K33 v2 v3 v4 v5 σ13)) else (fX4_readsTillWhole_b68 n K18 K33 v2 v3 v4 v5 σ13)))
set_option maxRecDepth 100000 in
theorem tX4_readsTillWhole_b33 (hE : gEX l dC dI ad ca X) {r0 : Int32} {σ' : gM} (n : Nat) (K18 : Int32 → Int32 → Int32 → gM → Option (Int32 × gM)) (hK18 : ∀ (v2 : Int32) (v3 : Int32) (v4 : Int32) (σ : gM), K18 v2 v3 v4 σ = some (r0, σ') → g_G l dC dI ad ca shX X cX4_readsTillWhole 6 RX4 (some .int) (gR 2) (some (.int r0)) σ' 18 [(0, .ref 24), (2, .int v2), (3, .int v3), (4, .int v4)] [] σ) (K33 : Int32 → Int32 → Int32 → Int32 → gM → Option (Int32 × gM)) (hK33 : ∀ (v2 : Int32) (v3 : Int32) (v4 : Int32) (v5 : Int32) (σ : gM), K33 v2 v3 v4 v5 σ = some (r0, σ') → g_G l dC dI ad ca shX X cX4_readsTillWhole 6 RX4 (some .int) (gR 2) (some (.int r0)) σ' 33 [(0, .ref 24), (2, .int v2), (3, .int v3), (4, .int v4), (5, .int v5)] [] σ) (v2 : Int32) (v3 : Int32) (v4 : Int32) (v5 : Int32)  (σ : gM) (h : fX4_readsTillWhole_b33 n K18 K33 v2 v3 v4 v5 σ = some (r0, σ')) : g_G l dC dI ad ca shX X cX4_readsTillWhole 6 RX4 (some .int) (gR 2) (some (.int r0)) σ' 33 [(0, .ref 24), (2, .int v2), (3, .int v3), (4, .int v4), (5, .int v5)] [] σ := by
  unfold fX4_readsTillWhole_b33 at h
  refine g_iload (pc := 33) dX4_readsTillWhole_33 4 rfl ?_
  refine g_aload_n (pc := 35) dX4_readsTillWhole_35 rfl 0 rfl ?_
  refine g_getR (pc := 36) wfX4_21 rfl rfl dX4_readsTillWhole_36 ?_
  refine g_getI (pc := 39) wfX4_85 rfl rfl dX4_readsTillWhole_39 ?_
  refine g_icmp_ge (pc := 42) (tgt := 77) dX4_readsTillWhole_42 (by decide) (fun c11 => ?_) (fun c11 => ?_)
  · have h := g_ift c11 h
    refine g_iinc (pc := 77) (v := v4 + 1) (lv1 := [(4, .int (v4 + 1)), (0, .ref 24), (2, .int v2), (3, .int v3), (5, .int v5)]) dX4_readsTillWhole_77 3 rfl rfl (by decide) rfl ?_
    refine g_goto (pc := 80) (tgt := 18) dX4_readsTillWhole_80 (by decide) ?_
    exact g_lv [1, 2, 3, 0] rfl (hK18 v2 v3 (v4 + 1) σ h)
  · have h := g_iff c11 h
    refine g_aload_n (pc := 45) dX4_readsTillWhole_45 rfl 0 rfl ?_
    refine g_getR (pc := 46) wfX4_9 rfl rfl dX4_readsTillWhole_46 ?_
    refine g_iload (pc := 49) dX4_readsTillWhole_49 4 rfl ?_
    refine g_iload (pc := 51) dX4_readsTillWhole_51 3 rfl ?_
    obtain ⟨r14, σ13, h12, h⟩ := g_bId h
    refine g_callVi (pc := 53) (st := []) hE.1 wvX4_111 (sX_shelf (i := 0) (by decide)) rfl (kX8_isThere hE 0 (by decide) v5 v4 σ h12) rfl (gR_ok (by decide) (by decide)) (Nat.le_of_ble_eq_true rfl) rfl dX4_readsTillWhole_53 ?_
    refine g_if_ne (pc := 56) (tgt := 68) dX4_readsTillWhole_56 (by decide) (fun c15 => ?_) (fun c15 => ?_)
    · have h := g_iff c15 h
      exact g_lv [0, 1, 2, 3, 4] rfl (tX4_readsTillWhole_b68 hE n K18 hK18 K33 hK33 v2 v3 v4 v5 σ13 h)
    · have h := g_ift c15 h
      refine g_iload_n (pc := 59) dX4_readsTillWhole_59 rfl 1 rfl ?_
      refine g_iload (pc := 60) dX4_readsTillWhole_60 4 rfl ?_
      refine g_ishr (pc := 62) dX4_readsTillWhole_62 ?_
      refine g_iconst (pc := 63) (v := 1) dX4_readsTillWhole_63 (by decide) ?_
      refine g_iand (pc := 64) dX4_readsTillWhole_64 ?_
      refine g_if_eq (pc := 65) (tgt := 71) dX4_readsTillWhole_65 (by decide) (fun c16 => ?_) (fun c16 => ?_)
      · have h := g_ift c16 h
        exact g_lv [0, 1, 2, 3, 4] rfl (tX4_readsTillWhole_b71 hE n K18 hK18 K33 hK33 v2 v3 v4 v5 σ13 h)
      · have h := g_iff c16 h
        exact g_lv [0, 1, 2, 3, 4] rfl (tX4_readsTillWhole_b68 hE n K18 hK18 K33 hK33 v2 v3 v4 v5 σ13 h)
def fX4_readsTillWhole_L33 (n : Nat) (K18 : Int32 → Int32 → Int32 → gM → Option (Int32 × gM)) : Nat → Int32 → Int32 → Int32 → Int32 → gM → Option (Int32 × gM)
  | 0 => fun _ _ _ _ _ => none
  | k + 1 => fX4_readsTillWhole_b33 n K18 (fX4_readsTillWhole_L33 n K18 k)
theorem tX4_readsTillWhole_L33 (hE : gEX l dC dI ad ca X) {r0 : Int32} {σ' : gM} (n : Nat) (K18 : Int32 → Int32 → Int32 → gM → Option (Int32 × gM)) (hK18 : ∀ (v2 : Int32) (v3 : Int32) (v4 : Int32) (σ : gM), K18 v2 v3 v4 σ = some (r0, σ') → g_G l dC dI ad ca shX X cX4_readsTillWhole 6 RX4 (some .int) (gR 2) (some (.int r0)) σ' 18 [(0, .ref 24), (2, .int v2), (3, .int v3), (4, .int v4)] [] σ)  : ∀ (k : Nat) (v2 : Int32) (v3 : Int32) (v4 : Int32) (v5 : Int32) (σ : gM), fX4_readsTillWhole_L33 n K18 k v2 v3 v4 v5 σ = some (r0, σ') → g_G l dC dI ad ca shX X cX4_readsTillWhole 6 RX4 (some .int) (gR 2) (some (.int r0)) σ' 33 [(0, .ref 24), (2, .int v2), (3, .int v3), (4, .int v4), (5, .int v5)] [] σ := by
  intro k
  induction k with
  | zero => intro v2 v3 v4 v5 σ h; cases h
  | succ k ih => intro v2 v3 v4 v5 σ h; exact tX4_readsTillWhole_b33 hE n K18 hK18 (fX4_readsTillWhole_L33 n K18 k) ih v2 v3 v4 v5 σ h
def fX4_readsTillWhole_b18 (n : Nat) (K18 : Int32 → Int32 → Int32 → gM → Option (Int32 × gM)) (v2 : Int32) (v3 : Int32) (v4 : Int32) (σ : gM) : Option (Int32 × gM) := if (σ.1 5 1) ≤ v4 then (some (v3 * (σ.1 5 2), σ)) else (fX4_readsTillWhole_L33 n K18 n v2 v3 v4 0 σ)
set_option maxRecDepth 100000 in
theorem tX4_readsTillWhole_b18 (hE : gEX l dC dI ad ca X) {r0 : Int32} {σ' : gM} (n : Nat) (K18 : Int32 → Int32 → Int32 → gM → Option (Int32 × gM)) (hK18 : ∀ (v2 : Int32) (v3 : Int32) (v4 : Int32) (σ : gM), K18 v2 v3 v4 σ = some (r0, σ') → g_G l dC dI ad ca shX X cX4_readsTillWhole 6 RX4 (some .int) (gR 2) (some (.int r0)) σ' 18 [(0, .ref 24), (2, .int v2), (3, .int v3), (4, .int v4)] [] σ) (v2 : Int32) (v3 : Int32) (v4 : Int32)  (σ : gM) (h : fX4_readsTillWhole_b18 n K18 v2 v3 v4 σ = some (r0, σ')) : g_G l dC dI ad ca shX X cX4_readsTillWhole 6 RX4 (some .int) (gR 2) (some (.int r0)) σ' 18 [(0, .ref 24), (2, .int v2), (3, .int v3), (4, .int v4)] [] σ := by
  unfold fX4_readsTillWhole_b18 at h
  refine g_iload (pc := 18) dX4_readsTillWhole_18 3 rfl ?_
  refine g_aload_n (pc := 20) dX4_readsTillWhole_20 rfl 0 rfl ?_
  refine g_getR (pc := 21) wfX4_21 rfl rfl dX4_readsTillWhole_21 ?_
  refine g_getI (pc := 24) wfX4_101 rfl rfl dX4_readsTillWhole_24 ?_
  refine g_icmp_ge (pc := 27) (tgt := 83) dX4_readsTillWhole_27 (by decide) (fun c17 => ?_) (fun c17 => ?_)
  · have h := g_ift c17 h
    refine g_iload_n (pc := 83) dX4_readsTillWhole_83 rfl 2 rfl ?_
    refine g_aload_n (pc := 84) dX4_readsTillWhole_84 rfl 0 rfl ?_
    refine g_getR (pc := 85) wfX4_21 rfl rfl dX4_readsTillWhole_85 ?_
    refine g_getI (pc := 88) wfX4_114 rfl rfl dX4_readsTillWhole_88 ?_
    refine g_imul (pc := 91) dX4_readsTillWhole_91 ?_
    cases h
    exact g_iret (pc := 92) rfl rfl rfl rfl dX4_readsTillWhole_92
  · have h := g_iff c17 h
    refine g_iconst (pc := 30) (v := 0) dX4_readsTillWhole_30 (by decide) ?_
    refine g_istore (pc := 31) (lv1 := [(5, .int 0), (0, .ref 24), (2, .int v2), (3, .int v3), (4, .int v4)]) dX4_readsTillWhole_31 (by decide) rfl ?_
    exact g_lv [1, 2, 3, 4, 0] rfl (tX4_readsTillWhole_L33 hE n K18 hK18 n v2 v3 v4 0 σ h)
def fX4_readsTillWhole_L18 (n : Nat) : Nat → Int32 → Int32 → Int32 → gM → Option (Int32 × gM)
  | 0 => fun _ _ _ _ => none
  | k + 1 => fX4_readsTillWhole_b18 n (fX4_readsTillWhole_L18 n k)
theorem tX4_readsTillWhole_L18 (hE : gEX l dC dI ad ca X) {r0 : Int32} {σ' : gM} (n : Nat)  : ∀ (k : Nat) (v2 : Int32) (v3 : Int32) (v4 : Int32) (σ : gM), fX4_readsTillWhole_L18 n k v2 v3 v4 σ = some (r0, σ') → g_G l dC dI ad ca shX X cX4_readsTillWhole 6 RX4 (some .int) (gR 2) (some (.int r0)) σ' 18 [(0, .ref 24), (2, .int v2), (3, .int v3), (4, .int v4)] [] σ := by
  intro k
  induction k with
  | zero => intro v2 v3 v4 σ h; cases h
  | succ k ih => intro v2 v3 v4 σ h; exact tX4_readsTillWhole_b18 hE n (fX4_readsTillWhole_L18 n k) ih v2 v3 v4 σ h
def fX4_readsTillWhole (n : Nat) (v1 : Int32) (v2 : Int32) (σ : gM) : Option (Int32 × gM) := g_bI (fX9_get 0 (104 + v1) σ) (fun r20 σ19 => fX4_readsTillWhole_L18 n n v2 0 r20 σ19)
set_option maxRecDepth 100000 in
theorem kX4_readsTillWhole (hE : gEX l dC dI ad ca X) (n : Nat)  (v1 : Int32) (v2 : Int32) (σ : gM) {r0 : Int32} {σ' : gM} (h : fX4_readsTillWhole n v1 v2 σ = some (r0, σ')) : g_C l dC dI ad ca shX X yX4_readsTillWhole cX4_readsTillWhole 6 (some .int) (gR 2) [.ref 24, .int v1, .int v2] σ (some (.int r0)) σ' := by
  refine g_entry (by decide +kernel) (Nat.le_of_ble_eq_true rfl) ?_
  refine g_lvE (lv1 := [(0, .ref 24), (1, .int v1), (2, .int v2)]) rfl ?_
  unfold fX4_readsTillWhole at h
  refine g_iconst (pc := 0) (v := 0) dX4_readsTillWhole_0 (by decide) ?_
  refine g_istore_n (pc := 1) (lv1 := [(3, .int 0), (0, .ref 24), (1, .int v1), (2, .int v2)]) dX4_readsTillWhole_1 rfl (by decide) rfl ?_
  refine g_aload_n (pc := 2) dX4_readsTillWhole_2 rfl 1 rfl ?_
  refine g_getR (pc := 3) wfX4_9 rfl rfl dX4_readsTillWhole_3 ?_
  refine g_getR (pc := 6) wfX4_58 (sX_shelf (i := 0) (by decide)) rfl dX4_readsTillWhole_6 ?_
  refine g_bipush (pc := 9) (v := 104) dX4_readsTillWhole_9 (by decide) ?_
  refine g_iload_n (pc := 11) dX4_readsTillWhole_11 rfl 2 rfl ?_
  refine g_iadd (pc := 12) dX4_readsTillWhole_12 ?_
  obtain ⟨r20, σ19, h18, h⟩ := g_bId h
  refine g_callVi (pc := 13) (st := []) hE.1 wvX4_104 (sX_state (i := 0) (by decide)) rfl (kX9_get hE 0 (by decide) (104 + v1) σ h18) rfl (gR_ok (by decide) (by decide)) (Nat.le_of_ble_eq_true rfl) rfl dX4_readsTillWhole_13 ?_
  refine g_istore (pc := 16) (lv1 := [(4, .int r20), (3, .int 0), (0, .ref 24), (1, .int v1), (2, .int v2)]) dX4_readsTillWhole_16 (by decide) rfl ?_
  exact g_lv [2, 4, 1, 0] rfl (tX4_readsTillWhole_L18 hE n n v2 0 r20 σ19 h)
def fX4_readsLeft_b44 (n : Nat) (K6 : Int32 → Int32 → Int32 → gM → Option (Int32 × gM)) (v1 : Int32) (v2 : Int32) (v3 : Int32) (σ : gM) : Option (Int32 × gM) := K6 v1 v2 (v3 + 1) σ
set_option maxRecDepth 100000 in
theorem tX4_readsLeft_b44 (hE : gEX l dC dI ad ca X) {r0 : Int32} {σ' : gM} (n : Nat) (K6 : Int32 → Int32 → Int32 → gM → Option (Int32 × gM)) (hK6 : ∀ (v1 : Int32) (v2 : Int32) (v3 : Int32) (σ : gM), K6 v1 v2 v3 σ = some (r0, σ') → g_G l dC dI ad ca shX X cX4_readsLeft 4 RX4 (some .int) (gR 3) (some (.int r0)) σ' 6 [(0, .ref 24), (1, .int v1), (2, .int v2), (3, .int v3)] [] σ) (v1 : Int32) (v2 : Int32) (v3 : Int32)  (σ : gM) (h : fX4_readsLeft_b44 n K6 v1 v2 v3 σ = some (r0, σ')) : g_G l dC dI ad ca shX X cX4_readsLeft 4 RX4 (some .int) (gR 3) (some (.int r0)) σ' 44 [(0, .ref 24), (1, .int v1), (2, .int v2), (3, .int v3)] [] σ := by
  unfold fX4_readsLeft_b44 at h
  refine g_iinc (pc := 44) (v := v3 + 1) (lv1 := [(3, .int (v3 + 1)), (0, .ref 24), (1, .int v1), (2, .int v2)]) dX4_readsLeft_44 3 rfl rfl (by decide) rfl ?_
  refine g_goto (pc := 47) (tgt := 6) dX4_readsLeft_47 (by decide) ?_
  exact g_lv [1, 2, 3, 0] rfl (hK6 v1 v2 (v3 + 1) σ h)
def fX4_readsLeft_b6 (n : Nat) (K6 : Int32 → Int32 → Int32 → gM → Option (Int32 × gM)) (v1 : Int32) (v2 : Int32) (v3 : Int32) (σ : gM) : Option (Int32 × gM) := if (σ.1 5 5) ≤ v3 then (some (v1, σ)) else (g_bI (fX8_stands 0 v3 2 σ) (fun r12 σ11 => if r12 = 0 then (fX4_readsLeft_b44 n K6 v1 v2 v3 σ11) else (g_bI (fX4_readsTillWhole n v3 v2 σ11) (fun r16 σ15 => fX4_readsLeft_b44 n K6 (v1 + r16) (v2 ||| (1 <<< (v3 &&& 31))) v3 σ15))))
set_option maxRecDepth 100000 in
theorem tX4_readsLeft_b6 (hE : gEX l dC dI ad ca X) {r0 : Int32} {σ' : gM} (n : Nat) (K6 : Int32 → Int32 → Int32 → gM → Option (Int32 × gM)) (hK6 : ∀ (v1 : Int32) (v2 : Int32) (v3 : Int32) (σ : gM), K6 v1 v2 v3 σ = some (r0, σ') → g_G l dC dI ad ca shX X cX4_readsLeft 4 RX4 (some .int) (gR 3) (some (.int r0)) σ' 6 [(0, .ref 24), (1, .int v1), (2, .int v2), (3, .int v3)] [] σ) (v1 : Int32) (v2 : Int32) (v3 : Int32)  (σ : gM) (h : fX4_readsLeft_b6 n K6 v1 v2 v3 σ = some (r0, σ')) : g_G l dC dI ad ca shX X cX4_readsLeft 4 RX4 (some .int) (gR 3) (some (.int r0)) σ' 6 [(0, .ref 24), (1, .int v1), (2, .int v2), (3, .int v3)] [] σ := by
  unfold fX4_readsLeft_b6 at h
  refine g_iload_n (pc := 6) dX4_readsLeft_6 rfl 3 rfl ?_
  refine g_aload_n (pc := 7) dX4_readsLeft_7 rfl 0 rfl ?_
  refine g_getR (pc := 8) wfX4_21 rfl rfl dX4_readsLeft_8 ?_
  refine g_getI (pc := 11) wfX4_85 rfl rfl dX4_readsLeft_11 ?_
  refine g_icmp_ge (pc := 14) (tgt := 50) dX4_readsLeft_14 (by decide) (fun c9 => ?_) (fun c9 => ?_)
  · have h := g_ift c9 h
    refine g_iload_n (pc := 50) dX4_readsLeft_50 rfl 1 rfl ?_
    cases h
    exact g_iret (pc := 51) rfl rfl rfl rfl dX4_readsLeft_51
  · have h := g_iff c9 h
    refine g_aload_n (pc := 17) dX4_readsLeft_17 rfl 0 rfl ?_
    refine g_getR (pc := 18) wfX4_9 rfl rfl dX4_readsLeft_18 ?_
    refine g_iload_n (pc := 21) dX4_readsLeft_21 rfl 3 rfl ?_
    refine g_iconst (pc := 22) (v := 2) dX4_readsLeft_22 (by decide) ?_
    obtain ⟨r12, σ11, h10, h⟩ := g_bId h
    refine g_callVi (pc := 23) (st := []) hE.1 wvX4_97 (sX_shelf (i := 0) (by decide)) rfl (kX8_stands hE 0 (by decide) v3 2 σ h10) rfl (gR_ok (by decide) (by decide)) (Nat.le_of_ble_eq_true rfl) rfl dX4_readsLeft_23 ?_
    refine g_if_eq (pc := 26) (tgt := 44) dX4_readsLeft_26 (by decide) (fun c13 => ?_) (fun c13 => ?_)
    · have h := g_ift c13 h
      exact g_lv [0, 1, 2, 3] rfl (tX4_readsLeft_b44 hE n K6 hK6 v1 v2 v3 σ11 h)
    · have h := g_iff c13 h
      refine g_iload_n (pc := 29) dX4_readsLeft_29 rfl 1 rfl ?_
      refine g_aload_n (pc := 30) dX4_readsLeft_30 rfl 0 rfl ?_
      refine g_iload_n (pc := 31) dX4_readsLeft_31 rfl 3 rfl ?_
      refine g_iload_n (pc := 32) dX4_readsLeft_32 rfl 2 rfl ?_
      obtain ⟨r16, σ15, h14, h⟩ := g_bId h
      refine g_callVi (pc := 33) (st := [.int v1]) hE.1 wvX4_108 rfl rfl (kX4_readsTillWhole hE n v3 v2 σ11 h14) rfl (gR_ok (by decide) (by decide)) (Nat.le_of_ble_eq_true rfl) rfl dX4_readsLeft_33 ?_
      refine g_iadd (pc := 36) dX4_readsLeft_36 ?_
      refine g_istore_n (pc := 37) (lv1 := [(1, .int (v1 + r16)), (0, .ref 24), (2, .int v2), (3, .int v3)]) dX4_readsLeft_37 rfl (by decide) rfl ?_
      refine g_iload_n (pc := 38) dX4_readsLeft_38 rfl 2 rfl ?_
      refine g_iconst (pc := 39) (v := 1) dX4_readsLeft_39 (by decide) ?_
      refine g_iload_n (pc := 40) dX4_readsLeft_40 rfl 3 rfl ?_
      refine g_ishl (pc := 41) dX4_readsLeft_41 ?_
      refine g_ior (pc := 42) dX4_readsLeft_42 ?_
      refine g_istore_n (pc := 43) (lv1 := [(2, .int (v2 ||| (1 <<< (v3 &&& 31)))), (1, .int (v1 + r16)), (0, .ref 24), (3, .int v3)]) dX4_readsLeft_43 rfl (by decide) rfl ?_
      exact g_lv [2, 1, 0, 3] rfl (tX4_readsLeft_b44 hE n K6 hK6 (v1 + r16) (v2 ||| (1 <<< (v3 &&& 31))) v3 σ15 h)
def fX4_readsLeft_L6 (n : Nat) : Nat → Int32 → Int32 → Int32 → gM → Option (Int32 × gM)
  | 0 => fun _ _ _ _ => none
  | k + 1 => fX4_readsLeft_b6 n (fX4_readsLeft_L6 n k)
theorem tX4_readsLeft_L6 (hE : gEX l dC dI ad ca X) {r0 : Int32} {σ' : gM} (n : Nat)  : ∀ (k : Nat) (v1 : Int32) (v2 : Int32) (v3 : Int32) (σ : gM), fX4_readsLeft_L6 n k v1 v2 v3 σ = some (r0, σ') → g_G l dC dI ad ca shX X cX4_readsLeft 4 RX4 (some .int) (gR 3) (some (.int r0)) σ' 6 [(0, .ref 24), (1, .int v1), (2, .int v2), (3, .int v3)] [] σ := by
  intro k
  induction k with
  | zero => intro v1 v2 v3 σ h; cases h
  | succ k ih => intro v1 v2 v3 σ h; exact tX4_readsLeft_b6 hE n (fX4_readsLeft_L6 n k) ih v1 v2 v3 σ h
def fX4_readsLeft (n : Nat) (σ : gM) : Option (Int32 × gM) := fX4_readsLeft_L6 n n 0 0 0 σ
set_option maxRecDepth 100000 in
theorem kX4_readsLeft (hE : gEX l dC dI ad ca X) (n : Nat)  (σ : gM) {r0 : Int32} {σ' : gM} (h : fX4_readsLeft n σ = some (r0, σ')) : g_C l dC dI ad ca shX X yX4_readsLeft cX4_readsLeft 4 (some .int) (gR 3) [.ref 24] σ (some (.int r0)) σ' := by
  refine g_entry (by decide +kernel) (Nat.le_of_ble_eq_true rfl) ?_
  refine g_lvE (lv1 := [(0, .ref 24)]) rfl ?_
  unfold fX4_readsLeft at h
  refine g_iconst (pc := 0) (v := 0) dX4_readsLeft_0 (by decide) ?_
  refine g_istore_n (pc := 1) (lv1 := [(1, .int 0), (0, .ref 24)]) dX4_readsLeft_1 rfl (by decide) rfl ?_
  refine g_iconst (pc := 2) (v := 0) dX4_readsLeft_2 (by decide) ?_
  refine g_istore_n (pc := 3) (lv1 := [(2, .int 0), (1, .int 0), (0, .ref 24)]) dX4_readsLeft_3 rfl (by decide) rfl ?_
  refine g_iconst (pc := 4) (v := 0) dX4_readsLeft_4 (by decide) ?_
  refine g_istore_n (pc := 5) (lv1 := [(3, .int 0), (2, .int 0), (1, .int 0), (0, .ref 24)]) dX4_readsLeft_5 rfl (by decide) rfl ?_
  exact g_lv [3, 2, 1, 0] rfl (tX4_readsLeft_L6 hE n n 0 0 0 σ h)
def fX4_nearestWhole_b59 (n : Nat) (K4 : Int32 → Int32 → Int32 → gM → Option (Int32 × gM)) (v1 : Int32) (v2 : Int32) (v3 : Int32) (σ : gM) : Option (Int32 × gM) := K4 v1 v2 (v3 + 1) σ
set_option maxRecDepth 100000 in
theorem tX4_nearestWhole_b59 (hE : gEX l dC dI ad ca X) {r0 : Int32} {σ' : gM} (n : Nat) (K4 : Int32 → Int32 → Int32 → gM → Option (Int32 × gM)) (hK4 : ∀ (v1 : Int32) (v2 : Int32) (v3 : Int32) (σ : gM), K4 v1 v2 v3 σ = some (r0, σ') → g_G l dC dI ad ca shX X cX4_nearestWhole 5 RX4 (some .int) (gR 3) (some (.int r0)) σ' 4 [(0, .ref 24), (1, .int v1), (2, .int v2), (3, .int v3)] [] σ) (v1 : Int32) (v2 : Int32) (v3 : Int32)  (σ : gM) (h : fX4_nearestWhole_b59 n K4 v1 v2 v3 σ = some (r0, σ')) : g_G l dC dI ad ca shX X cX4_nearestWhole 5 RX4 (some .int) (gR 3) (some (.int r0)) σ' 59 [(0, .ref 24), (1, .int v1), (2, .int v2), (3, .int v3)] [] σ := by
  unfold fX4_nearestWhole_b59 at h
  refine g_iinc (pc := 59) (v := v3 + 1) (lv1 := [(3, .int (v3 + 1)), (0, .ref 24), (1, .int v1), (2, .int v2)]) dX4_nearestWhole_59 3 rfl rfl (by decide) rfl ?_
  refine g_goto (pc := 62) (tgt := 4) dX4_nearestWhole_62 (by decide) ?_
  exact g_lv [1, 2, 3, 0] rfl (hK4 v1 v2 (v3 + 1) σ h)
def fX4_nearestWhole_b38 (n : Nat) (K4 : Int32 → Int32 → Int32 → gM → Option (Int32 × gM)) (v1 : Int32) (v2 : Int32) (v3 : Int32) (s0 : Int32) (σ : gM) : Option (Int32 × gM) := g_bI (fX8_stands 0 v3 2 σ) (fun r27 σ26 => if r27 = 0 then (fX4_nearestWhole_b59 n K4 v1 v2 v3 σ26) else (if s0 = 0 then (fX4_nearestWhole_b59 n K4 v1 v2 v3 σ26) else (fX4_nearestWhole_b59 n K4 v1 v3 v3 σ26)))
set_option maxRecDepth 100000 in
theorem tX4_nearestWhole_b38 (hE : gEX l dC dI ad ca X) {r0 : Int32} {σ' : gM} (n : Nat) (K4 : Int32 → Int32 → Int32 → gM → Option (Int32 × gM)) (hK4 : ∀ (v1 : Int32) (v2 : Int32) (v3 : Int32) (σ : gM), K4 v1 v2 v3 σ = some (r0, σ') → g_G l dC dI ad ca shX X cX4_nearestWhole 5 RX4 (some .int) (gR 3) (some (.int r0)) σ' 4 [(0, .ref 24), (1, .int v1), (2, .int v2), (3, .int v3)] [] σ) (v1 : Int32) (v2 : Int32) (v3 : Int32) (s0 : Int32)  (σ : gM) (h : fX4_nearestWhole_b38 n K4 v1 v2 v3 s0 σ = some (r0, σ')) : g_G l dC dI ad ca shX X cX4_nearestWhole 5 RX4 (some .int) (gR 3) (some (.int r0)) σ' 38 [(0, .ref 24), (1, .int v1), (2, .int v2), (3, .int v3)] [.int s0] σ := by
  unfold fX4_nearestWhole_b38 at h
  refine g_istore (pc := 38) (lv1 := [(4, .int s0), (0, .ref 24), (1, .int v1), (2, .int v2), (3, .int v3)]) dX4_nearestWhole_38 (by decide) rfl ?_
  refine g_aload_n (pc := 40) dX4_nearestWhole_40 rfl 1 rfl ?_
  refine g_getR (pc := 41) wfX4_9 rfl rfl dX4_nearestWhole_41 ?_
  refine g_iload_n (pc := 44) dX4_nearestWhole_44 rfl 4 rfl ?_
  refine g_iconst (pc := 45) (v := 2) dX4_nearestWhole_45 (by decide) ?_
  obtain ⟨r27, σ26, h25, h⟩ := g_bId h
  refine g_callVi (pc := 46) (st := []) hE.1 wvX4_97 (sX_shelf (i := 0) (by decide)) rfl (kX8_stands hE 0 (by decide) v3 2 σ h25) rfl (gR_ok (by decide) (by decide)) (Nat.le_of_ble_eq_true rfl) rfl dX4_nearestWhole_46 ?_
  refine g_if_eq (pc := 49) (tgt := 59) dX4_nearestWhole_49 (by decide) (fun c28 => ?_) (fun c28 => ?_)
  · have h := g_ift c28 h
    exact g_lv [1, 2, 3, 4] rfl (tX4_nearestWhole_b59 hE n K4 hK4 v1 v2 v3 σ26 h)
  · have h := g_iff c28 h
    refine g_iload (pc := 52) dX4_nearestWhole_52 0 rfl ?_
    refine g_if_eq (pc := 54) (tgt := 59) dX4_nearestWhole_54 (by decide) (fun c29 => ?_) (fun c29 => ?_)
    · have h := g_ift c29 h
      exact g_lv [1, 2, 3, 4] rfl (tX4_nearestWhole_b59 hE n K4 hK4 v1 v2 v3 σ26 h)
    · have h := g_iff c29 h
      refine g_iload_n (pc := 57) dX4_nearestWhole_57 rfl 4 rfl ?_
      refine g_istore_n (pc := 58) (lv1 := [(2, .int v3), (4, .int s0), (0, .ref 24), (1, .int v1), (3, .int v3)]) dX4_nearestWhole_58 rfl (by decide) rfl ?_
      exact g_lv [2, 3, 0, 4] rfl (tX4_nearestWhole_b59 hE n K4 hK4 v1 v3 v3 σ26 h)
def fX4_nearestWhole_b33 (n : Nat) (K4 : Int32 → Int32 → Int32 → gM → Option (Int32 × gM)) (v1 : Int32) (v2 : Int32) (v3 : Int32) (σ : gM) : Option (Int32 × gM) := fX4_nearestWhole_b38 n K4 v1 v2 v3 1 σ
set_option maxRecDepth 100000 in
theorem tX4_nearestWhole_b33 (hE : gEX l dC dI ad ca X) {r0 : Int32} {σ' : gM} (n : Nat) (K4 : Int32 → Int32 → Int32 → gM → Option (Int32 × gM)) (hK4 : ∀ (v1 : Int32) (v2 : Int32) (v3 : Int32) (σ : gM), K4 v1 v2 v3 σ = some (r0, σ') → g_G l dC dI ad ca shX X cX4_nearestWhole 5 RX4 (some .int) (gR 3) (some (.int r0)) σ' 4 [(0, .ref 24), (1, .int v1), (2, .int v2), (3, .int v3)] [] σ) (v1 : Int32) (v2 : Int32) (v3 : Int32)  (σ : gM) (h : fX4_nearestWhole_b33 n K4 v1 v2 v3 σ = some (r0, σ')) : g_G l dC dI ad ca shX X cX4_nearestWhole 5 RX4 (some .int) (gR 3) (some (.int r0)) σ' 33 [(0, .ref 24), (1, .int v1), (2, .int v2), (3, .int v3)] [] σ := by
  unfold fX4_nearestWhole_b33 at h
  refine g_iconst (pc := 33) (v := 1) dX4_nearestWhole_33 (by decide) ?_
  refine g_goto (pc := 34) (tgt := 38) dX4_nearestWhole_34 (by decide) ?_
  exact g_lv [0, 1, 2, 3] rfl (tX4_nearestWhole_b38 hE n K4 hK4 v1 v2 v3 1 σ h)
def fX4_nearestWhole_b74 (n : Nat) (v2 : Int32) (σ : gM) : Option (Int32 × gM) := some (v2, σ)
set_option maxRecDepth 100000 in
theorem tX4_nearestWhole_b74 (hE : gEX l dC dI ad ca X) {r0 : Int32} {σ' : gM} (n : Nat) (v2 : Int32)  (σ : gM) (h : fX4_nearestWhole_b74 n v2 σ = some (r0, σ')) : g_G l dC dI ad ca shX X cX4_nearestWhole 5 RX4 (some .int) (gR 3) (some (.int r0)) σ' 74 [(2, .int v2)] [] σ := by
  unfold fX4_nearestWhole_b74 at h
  refine g_iload_n (pc := 74) dX4_nearestWhole_74 rfl 0 rfl ?_
  cases h
  exact g_iret (pc := 75) rfl rfl rfl rfl dX4_nearestWhole_75
def fX4_nearestWhole_b4 (n : Nat) (K4 : Int32 → Int32 → Int32 → gM → Option (Int32 × gM)) (v1 : Int32) (v2 : Int32) (v3 : Int32) (σ : gM) : Option (Int32 × gM) := if (σ.1 5 5) ≤ v3 then (if v2 = (-1) then (fX4_nearestWhole_b74 n v2 σ) else (if v1 = 0 then (fX4_nearestWhole_b74 n v2 σ) else (if v1 = 1 then (g_bI (fX4_stripesLeftOf v2 σ) (fun r40 σ39 => some (r40, σ39))) else (if v1 = 2 then (g_bI (fX4_readsTillWhole n v2 0 σ) (fun r37 σ36 => some (r37, σ36))) else (some ((-1), σ)))))) else (if v2 = (-1) then (fX4_nearestWhole_b33 n K4 v1 v2 v3 σ) else (g_bI (fX4_stripesLeftOf v3 σ) (fun r44 σ43 => g_bI (fX4_stripesLeftOf v2 σ43) (fun r47 σ46 => if r47 ≤ r44 then (fX4_nearestWhole_b38 n K4 v1 v2 v3 0 σ46) else (fX4_nearestWhole_b33 n K4 v1 v2 v3 σ46)))))
set_option maxRecDepth 100000 in
theorem tX4_nearestWhole_b4 (hE : gEX l dC dI ad ca X) {r0 : Int32} {σ' : gM} (n : Nat) (K4 : Int32 → Int32 → Int32 → gM → Option (Int32 × gM)) (hK4 : ∀ (v1 : Int32) (v2 : Int32) (v3 : Int32) (σ : gM), K4 v1 v2 v3 σ = some (r0, σ') → g_G l dC dI ad ca shX X cX4_nearestWhole 5 RX4 (some .int) (gR 3) (some (.int r0)) σ' 4 [(0, .ref 24), (1, .int v1), (2, .int v2), (3, .int v3)] [] σ) (v1 : Int32) (v2 : Int32) (v3 : Int32)  (σ : gM) (h : fX4_nearestWhole_b4 n K4 v1 v2 v3 σ = some (r0, σ')) : g_G l dC dI ad ca shX X cX4_nearestWhole 5 RX4 (some .int) (gR 3) (some (.int r0)) σ' 4 [(0, .ref 24), (1, .int v1), (2, .int v2), (3, .int v3)] [] σ := by
  unfold fX4_nearestWhole_b4 at h
  refine g_iload_n (pc := 4) dX4_nearestWhole_4 rfl 3 rfl ?_
  refine g_aload_n (pc := 5) dX4_nearestWhole_5 rfl 0 rfl ?_
  refine g_getR (pc := 6) wfX4_21 rfl rfl dX4_nearestWhole_6 ?_
  refine g_getI (pc := 9) wfX4_85 rfl rfl dX4_nearestWhole_9 ?_
  refine g_icmp_ge (pc := 12) (tgt := 65) dX4_nearestWhole_12 (by decide) (fun c30 => ?_) (fun c30 => ?_)
  · have h := g_ift c30 h
    refine g_iload_n (pc := 65) dX4_nearestWhole_65 rfl 2 rfl ?_
    refine g_iconst (pc := 66) (v := (-1)) dX4_nearestWhole_66 (by decide) ?_
    refine g_icmp_eq (pc := 67) (tgt := 74) dX4_nearestWhole_67 (by decide) (fun c31 => ?_) (fun c31 => ?_)
    · have h := g_ift c31 h
      exact g_lv [2] rfl (tX4_nearestWhole_b74 hE n v2 σ h)
    · have h := g_iff c31 h
      refine g_iload_n (pc := 70) dX4_nearestWhole_70 rfl 1 rfl ?_
      refine g_if_ne (pc := 71) (tgt := 76) dX4_nearestWhole_71 (by decide) (fun c32 => ?_) (fun c32 => ?_)
      · have h := g_iff c32 h
        refine g_iload_n (pc := 76) dX4_nearestWhole_76 rfl 1 rfl ?_
        refine g_iconst (pc := 77) (v := 1) dX4_nearestWhole_77 (by decide) ?_
        refine g_icmp_ne (pc := 78) (tgt := 87) dX4_nearestWhole_78 (by decide) (fun c33 => ?_) (fun c33 => ?_)
        · have h := g_iff c33 h
          refine g_iload_n (pc := 87) dX4_nearestWhole_87 rfl 1 rfl ?_
          refine g_iconst (pc := 88) (v := 2) dX4_nearestWhole_88 (by decide) ?_
          refine g_icmp_ne (pc := 89) (tgt := 101) dX4_nearestWhole_89 (by decide) (fun c34 => ?_) (fun c34 => ?_)
          · have h := g_iff c34 h
            refine g_iconst (pc := 101) (v := (-1)) dX4_nearestWhole_101 (by decide) ?_
            cases h
            exact g_iret (pc := 102) rfl rfl rfl rfl dX4_nearestWhole_102
          · have h := g_ift c34 h
            refine g_aload_n (pc := 92) dX4_nearestWhole_92 rfl 0 rfl ?_
            refine g_iload_n (pc := 93) dX4_nearestWhole_93 rfl 2 rfl ?_
            refine g_iconst (pc := 94) (v := 0) dX4_nearestWhole_94 (by decide) ?_
            obtain ⟨r37, σ36, h35, h⟩ := g_bId h
            refine g_callVi (pc := 95) (st := []) hE.1 wvX4_108 rfl rfl (kX4_readsTillWhole hE n v2 0 σ h35) rfl (gR_ok (by decide) (by decide)) (Nat.le_of_ble_eq_true rfl) rfl dX4_nearestWhole_95 ?_
            refine g_goto (pc := 98) (tgt := 102) dX4_nearestWhole_98 (by decide) ?_
            cases h
            exact g_iret (pc := 102) rfl rfl rfl rfl dX4_nearestWhole_102
        · have h := g_ift c33 h
          refine g_aload_n (pc := 81) dX4_nearestWhole_81 rfl 0 rfl ?_
          refine g_iload_n (pc := 82) dX4_nearestWhole_82 rfl 2 rfl ?_
          obtain ⟨r40, σ39, h38, h⟩ := g_bId h
          refine g_callVi (pc := 83) (st := []) hE.1 wvX4_105 rfl rfl (kX4_stripesLeftOf hE v2 σ h38) rfl (gR_ok (by decide) (by decide)) (Nat.le_of_ble_eq_true rfl) rfl dX4_nearestWhole_83 ?_
          cases h
          exact g_iret (pc := 86) rfl rfl rfl rfl dX4_nearestWhole_86
      · have h := g_ift c32 h
        exact g_lv [2] rfl (tX4_nearestWhole_b74 hE n v2 σ h)
  · have h := g_iff c30 h
    refine g_iload_n (pc := 15) dX4_nearestWhole_15 rfl 2 rfl ?_
    refine g_iconst (pc := 16) (v := (-1)) dX4_nearestWhole_16 (by decide) ?_
    refine g_icmp_eq (pc := 17) (tgt := 33) dX4_nearestWhole_17 (by decide) (fun c41 => ?_) (fun c41 => ?_)
    · have h := g_ift c41 h
      exact g_lv [0, 1, 2, 3] rfl (tX4_nearestWhole_b33 hE n K4 hK4 v1 v2 v3 σ h)
    · have h := g_iff c41 h
      refine g_aload_n (pc := 20) dX4_nearestWhole_20 rfl 0 rfl ?_
      refine g_iload_n (pc := 21) dX4_nearestWhole_21 rfl 3 rfl ?_
      obtain ⟨r44, σ43, h42, h⟩ := g_bId h
      refine g_callVi (pc := 22) (st := []) hE.1 wvX4_105 rfl rfl (kX4_stripesLeftOf hE v3 σ h42) rfl (gR_ok (by decide) (by decide)) (Nat.le_of_ble_eq_true rfl) rfl dX4_nearestWhole_22 ?_
      refine g_aload_n (pc := 25) dX4_nearestWhole_25 rfl 0 rfl ?_
      refine g_iload_n (pc := 26) dX4_nearestWhole_26 rfl 2 rfl ?_
      obtain ⟨r47, σ46, h45, h⟩ := g_bId h
      refine g_callVi (pc := 27) (st := [.int r44]) hE.1 wvX4_105 rfl rfl (kX4_stripesLeftOf hE v2 σ43 h45) rfl (gR_ok (by decide) (by decide)) (Nat.le_of_ble_eq_true rfl) rfl dX4_nearestWhole_27 ?_
      refine g_icmp_ge (pc := 30) (tgt := 37) dX4_nearestWhole_30 (by decide) (fun c48 => ?_) (fun c48 => ?_)
      · have h := g_ift c48 h
        refine g_iconst (pc := 37) (v := 0) dX4_nearestWhole_37 (by decide) ?_
        exact g_lv [0, 1, 2, 3] rfl (tX4_nearestWhole_b38 hE n K4 hK4 v1 v2 v3 0 σ46 h)
      · have h := g_iff c48 h
        exact g_lv [0, 1, 2, 3] rfl (tX4_nearestWhole_b33 hE n K4 hK4 v1 v2 v3 σ46 h)
def fX4_nearestWhole_L4 (n : Nat) : Nat → Int32 → Int32 → Int32 → gM → Option (Int32 × gM)
  | 0 => fun _ _ _ _ => none
  | k + 1 => fX4_nearestWhole_b4 n (fX4_nearestWhole_L4 n k)
theorem tX4_nearestWhole_L4 (hE : gEX l dC dI ad ca X) {r0 : Int32} {σ' : gM} (n : Nat)  : ∀ (k : Nat) (v1 : Int32) (v2 : Int32) (v3 : Int32) (σ : gM), fX4_nearestWhole_L4 n k v1 v2 v3 σ = some (r0, σ') → g_G l dC dI ad ca shX X cX4_nearestWhole 5 RX4 (some .int) (gR 3) (some (.int r0)) σ' 4 [(0, .ref 24), (1, .int v1), (2, .int v2), (3, .int v3)] [] σ := by
  intro k
  induction k with
  | zero => intro v1 v2 v3 σ h; cases h
  | succ k ih => intro v1 v2 v3 σ h; exact tX4_nearestWhole_b4 hE n (fX4_nearestWhole_L4 n k) ih v1 v2 v3 σ h
def fX4_nearestWhole (n : Nat) (v1 : Int32) (σ : gM) : Option (Int32 × gM) := fX4_nearestWhole_L4 n n v1 (-1) 0 σ
set_option maxRecDepth 100000 in
theorem kX4_nearestWhole (hE : gEX l dC dI ad ca X) (n : Nat)  (v1 : Int32) (σ : gM) {r0 : Int32} {σ' : gM} (h : fX4_nearestWhole n v1 σ = some (r0, σ')) : g_C l dC dI ad ca shX X yX4_nearestWhole cX4_nearestWhole 5 (some .int) (gR 3) [.ref 24, .int v1] σ (some (.int r0)) σ' := by
  refine g_entry (by decide +kernel) (Nat.le_of_ble_eq_true rfl) ?_
  refine g_lvE (lv1 := [(0, .ref 24), (1, .int v1)]) rfl ?_
  unfold fX4_nearestWhole at h
  refine g_iconst (pc := 0) (v := (-1)) dX4_nearestWhole_0 (by decide) ?_
  refine g_istore_n (pc := 1) (lv1 := [(2, .int (-1)), (0, .ref 24), (1, .int v1)]) dX4_nearestWhole_1 rfl (by decide) rfl ?_
  refine g_iconst (pc := 2) (v := 0) dX4_nearestWhole_2 (by decide) ?_
  refine g_istore_n (pc := 3) (lv1 := [(3, .int 0), (2, .int (-1)), (0, .ref 24), (1, .int v1)]) dX4_nearestWhole_3 rfl (by decide) rfl ?_
  exact g_lv [2, 3, 1, 0] rfl (tX4_nearestWhole_L4 hE n n v1 (-1) 0 σ h)
def fX4_isRight_b2 (n : Nat) (K2 : Int32 → Int32 → gM → Option (Int32 × gM)) (v1 : Int32) (v2 : Int32) (σ : gM) : Option (Int32 × gM) := if (σ.1 5 2) ≤ v2 then (some (1, σ)) else (g_bV (fX5_load n 0 0 v1 v2 0 σ) (fun σ10 => g_bI (fX5_wrongPart n 0 σ10) (fun r13 σ12 => if r13 = (-1) then (K2 v1 (v2 + 1) σ12) else (some (0, σ12)))))
set_option maxRecDepth 100000 in
theorem tX4_isRight_b2 (hE : gEX l dC dI ad ca X) {r0 : Int32} {σ' : gM} (n : Nat) (K2 : Int32 → Int32 → gM → Option (Int32 × gM)) (hK2 : ∀ (v1 : Int32) (v2 : Int32) (σ : gM), K2 v1 v2 σ = some (r0, σ') → g_G l dC dI ad ca shX X cX4_isRight 3 RX4 (some .boolean) (gR 3) (some (.int r0)) σ' 2 [(0, .ref 24), (1, .int v1), (2, .int v2)] [] σ) (v1 : Int32) (v2 : Int32)  (σ : gM) (h : fX4_isRight_b2 n K2 v1 v2 σ = some (r0, σ')) : g_G l dC dI ad ca shX X cX4_isRight 3 RX4 (some .boolean) (gR 3) (some (.int r0)) σ' 2 [(0, .ref 24), (1, .int v1), (2, .int v2)] [] σ := by
  unfold fX4_isRight_b2 at h
  refine g_iload_n (pc := 2) dX4_isRight_2 rfl 2 rfl ?_
  refine g_aload_n (pc := 3) dX4_isRight_3 rfl 0 rfl ?_
  refine g_getR (pc := 4) wfX4_21 rfl rfl dX4_isRight_4 ?_
  refine g_getI (pc := 7) wfX4_114 rfl rfl dX4_isRight_7 ?_
  refine g_icmp_ge (pc := 10) (tgt := 55) dX4_isRight_10 (by decide) (fun c8 => ?_) (fun c8 => ?_)
  · have h := g_ift c8 h
    refine g_iconst (pc := 55) (v := 1) dX4_isRight_55 (by decide) ?_
    cases h
    exact g_iret (pc := 56) rfl (by decide) rfl rfl dX4_isRight_56
  · have h := g_iff c8 h
    refine g_aload_n (pc := 13) dX4_isRight_13 rfl 0 rfl ?_
    refine g_getR (pc := 14) wfX4_9 rfl rfl dX4_isRight_14 ?_
    refine g_getR (pc := 17) wfX4_54 (sX_shelf (i := 0) (by decide)) rfl dX4_isRight_17 ?_
    refine g_aload_n (pc := 20) dX4_isRight_20 rfl 0 rfl ?_
    refine g_getR (pc := 21) wfX4_9 rfl rfl dX4_isRight_21 ?_
    refine g_getR (pc := 24) wfX4_58 (sX_shelf (i := 0) (by decide)) rfl dX4_isRight_24 ?_
    refine g_iload_n (pc := 27) dX4_isRight_27 rfl 1 rfl ?_
    refine g_iload_n (pc := 28) dX4_isRight_28 rfl 2 rfl ?_
    refine g_iconst (pc := 29) (v := 0) dX4_isRight_29 (by decide) ?_
    obtain ⟨σ10, h9, h⟩ := g_bVd h
    refine g_callVv (pc := 30) (st := []) hE.1 wvX4_75 (sX_row (i := 0) (by decide)) rfl (kX5_load hE n 0 (by decide) 0 (by decide) v1 v2 0 σ h9) rfl (gR_ok (by decide) (by decide)) (Nat.le_of_ble_eq_true rfl) rfl dX4_isRight_30 ?_
    refine g_aload_n (pc := 33) dX4_isRight_33 rfl 0 rfl ?_
    refine g_getR (pc := 34) wfX4_9 rfl rfl dX4_isRight_34 ?_
    refine g_getR (pc := 37) wfX4_54 (sX_shelf (i := 0) (by decide)) rfl dX4_isRight_37 ?_
    obtain ⟨r13, σ12, h11, h⟩ := g_bId h
    refine g_callVi (pc := 40) (st := []) hE.1 wvX4_78 (sX_row (i := 0) (by decide)) rfl (kX5_wrongPart hE n 0 (by decide) σ10 h11) rfl (gR_ok (by decide) (by decide)) (Nat.le_of_ble_eq_true rfl) rfl dX4_isRight_40 ?_
    refine g_iconst (pc := 43) (v := (-1)) dX4_isRight_43 (by decide) ?_
    refine g_icmp_eq (pc := 44) (tgt := 49) dX4_isRight_44 (by decide) (fun c14 => ?_) (fun c14 => ?_)
    · have h := g_ift c14 h
      refine g_iinc (pc := 49) (v := v2 + 1) (lv1 := [(2, .int (v2 + 1)), (0, .ref 24), (1, .int v1)]) dX4_isRight_49 2 rfl rfl (by decide) rfl ?_
      refine g_goto (pc := 52) (tgt := 2) dX4_isRight_52 (by decide) ?_
      exact g_lv [1, 2, 0] rfl (hK2 v1 (v2 + 1) σ12 h)
    · have h := g_iff c14 h
      refine g_iconst (pc := 47) (v := 0) dX4_isRight_47 (by decide) ?_
      cases h
      exact g_iret (pc := 48) rfl (by decide) rfl rfl dX4_isRight_48
def fX4_isRight_L2 (n : Nat) : Nat → Int32 → Int32 → gM → Option (Int32 × gM)
  | 0 => fun _ _ _ => none
  | k + 1 => fX4_isRight_b2 n (fX4_isRight_L2 n k)
theorem tX4_isRight_L2 (hE : gEX l dC dI ad ca X) {r0 : Int32} {σ' : gM} (n : Nat)  : ∀ (k : Nat) (v1 : Int32) (v2 : Int32) (σ : gM), fX4_isRight_L2 n k v1 v2 σ = some (r0, σ') → g_G l dC dI ad ca shX X cX4_isRight 3 RX4 (some .boolean) (gR 3) (some (.int r0)) σ' 2 [(0, .ref 24), (1, .int v1), (2, .int v2)] [] σ := by
  intro k
  induction k with
  | zero => intro v1 v2 σ h; cases h
  | succ k ih => intro v1 v2 σ h; exact tX4_isRight_b2 hE n (fX4_isRight_L2 n k) ih v1 v2 σ h
def fX4_isRight (n : Nat) (v1 : Int32) (σ : gM) : Option (Int32 × gM) := fX4_isRight_L2 n n v1 0 σ
set_option maxRecDepth 100000 in
theorem kX4_isRight (hE : gEX l dC dI ad ca X) (n : Nat)  (v1 : Int32) (σ : gM) {r0 : Int32} {σ' : gM} (h : fX4_isRight n v1 σ = some (r0, σ')) : g_C l dC dI ad ca shX X yX4_isRight cX4_isRight 3 (some .boolean) (gR 3) [.ref 24, .int v1] σ (some (.int r0)) σ' := by
  refine g_entry (by decide +kernel) (Nat.le_of_ble_eq_true rfl) ?_
  refine g_lvE (lv1 := [(0, .ref 24), (1, .int v1)]) rfl ?_
  unfold fX4_isRight at h
  refine g_iconst (pc := 0) (v := 0) dX4_isRight_0 (by decide) ?_
  refine g_istore_n (pc := 1) (lv1 := [(2, .int 0), (0, .ref 24), (1, .int v1)]) dX4_isRight_1 rfl (by decide) rfl ?_
  exact g_lv [1, 2, 0] rfl (tX4_isRight_L2 hE n n v1 0 σ h)
def fX4_fitStripes_b40 (n : Nat) (K4 : Int32 → Int32 → gM → Option (Int32 × gM)) (v1 : Int32) (v2 : Int32) (σ : gM) : Option (Int32 × gM) := K4 v1 (v2 + 1) σ
set_option maxRecDepth 100000 in
theorem tX4_fitStripes_b40 (hE : gEX l dC dI ad ca X) {r0 : Int32} {σ' : gM} (n : Nat) (K4 : Int32 → Int32 → gM → Option (Int32 × gM)) (hK4 : ∀ (v1 : Int32) (v2 : Int32) (σ : gM), K4 v1 v2 σ = some (r0, σ') → g_G l dC dI ad ca shX X cX4_fitStripes 3 RX4 (some .int) (gR 4) (some (.int r0)) σ' 4 [(0, .ref 24), (1, .int v1), (2, .int v2)] [] σ) (v1 : Int32) (v2 : Int32)  (σ : gM) (h : fX4_fitStripes_b40 n K4 v1 v2 σ = some (r0, σ')) : g_G l dC dI ad ca shX X cX4_fitStripes 3 RX4 (some .int) (gR 4) (some (.int r0)) σ' 40 [(0, .ref 24), (1, .int v1), (2, .int v2)] [] σ := by
  unfold fX4_fitStripes_b40 at h
  refine g_iinc (pc := 40) (v := v2 + 1) (lv1 := [(2, .int (v2 + 1)), (0, .ref 24), (1, .int v1)]) dX4_fitStripes_40 2 rfl rfl (by decide) rfl ?_
  refine g_goto (pc := 43) (tgt := 4) dX4_fitStripes_43 (by decide) ?_
  exact g_lv [1, 2, 0] rfl (hK4 v1 (v2 + 1) σ h)
def fX4_fitStripes_b4 (n : Nat) (K4 : Int32 → Int32 → gM → Option (Int32 × gM)) (v1 : Int32) (v2 : Int32) (σ : gM) : Option (Int32 × gM) := if (σ.1 5 1) ≤ v2 then (some (v1, σ)) else (g_bI (fX8_missing n 0 v2 σ) (fun r13 σ12 => if r13 = 0 then (g_bI (fX4_isRight n v2 σ12) (fun r17 σ16 => if r17 = 0 then (fX4_fitStripes_b40 n K4 v1 v2 σ16) else (fX4_fitStripes_b40 n K4 (v1 ||| (1 <<< (v2 &&& 31))) v2 σ16))) else (fX4_fitStripes_b40 n K4 v1 v2 σ12)))
set_option maxRecDepth 100000 in
theorem tX4_fitStripes_b4 (hE : gEX l dC dI ad ca X) {r0 : Int32} {σ' : gM} (n : Nat) (K4 : Int32 → Int32 → gM → Option (Int32 × gM)) (hK4 : ∀ (v1 : Int32) (v2 : Int32) (σ : gM), K4 v1 v2 σ = some (r0, σ') → g_G l dC dI ad ca shX X cX4_fitStripes 3 RX4 (some .int) (gR 4) (some (.int r0)) σ' 4 [(0, .ref 24), (1, .int v1), (2, .int v2)] [] σ) (v1 : Int32) (v2 : Int32)  (σ : gM) (h : fX4_fitStripes_b4 n K4 v1 v2 σ = some (r0, σ')) : g_G l dC dI ad ca shX X cX4_fitStripes 3 RX4 (some .int) (gR 4) (some (.int r0)) σ' 4 [(0, .ref 24), (1, .int v1), (2, .int v2)] [] σ := by
  unfold fX4_fitStripes_b4 at h
  refine g_iload_n (pc := 4) dX4_fitStripes_4 rfl 2 rfl ?_
  refine g_aload_n (pc := 5) dX4_fitStripes_5 rfl 0 rfl ?_
  refine g_getR (pc := 6) wfX4_21 rfl rfl dX4_fitStripes_6 ?_
  refine g_getI (pc := 9) wfX4_101 rfl rfl dX4_fitStripes_9 ?_
  refine g_icmp_ge (pc := 12) (tgt := 46) dX4_fitStripes_12 (by decide) (fun c10 => ?_) (fun c10 => ?_)
  · have h := g_ift c10 h
    refine g_iload_n (pc := 46) dX4_fitStripes_46 rfl 1 rfl ?_
    cases h
    exact g_iret (pc := 47) rfl rfl rfl rfl dX4_fitStripes_47
  · have h := g_iff c10 h
    refine g_aload_n (pc := 15) dX4_fitStripes_15 rfl 0 rfl ?_
    refine g_getR (pc := 16) wfX4_9 rfl rfl dX4_fitStripes_16 ?_
    refine g_iload_n (pc := 19) dX4_fitStripes_19 rfl 2 rfl ?_
    obtain ⟨r13, σ12, h11, h⟩ := g_bId h
    refine g_callVi (pc := 20) (st := []) hE.1 wvX4_31 (sX_shelf (i := 0) (by decide)) rfl (kX8_missing hE n 0 (by decide) v2 σ h11) rfl (gR_ok (by decide) (by decide)) (Nat.le_of_ble_eq_true rfl) rfl dX4_fitStripes_20 ?_
    refine g_if_ne (pc := 23) (tgt := 40) dX4_fitStripes_23 (by decide) (fun c14 => ?_) (fun c14 => ?_)
    · have h := g_iff c14 h
      exact g_lv [0, 1, 2] rfl (tX4_fitStripes_b40 hE n K4 hK4 v1 v2 σ12 h)
    · have h := g_ift c14 h
      refine g_aload_n (pc := 26) dX4_fitStripes_26 rfl 0 rfl ?_
      refine g_iload_n (pc := 27) dX4_fitStripes_27 rfl 2 rfl ?_
      obtain ⟨r17, σ16, h15, h⟩ := g_bId h
      refine g_callVi (pc := 28) (st := []) hE.1 wvX4_117 rfl rfl (kX4_isRight hE n v2 σ12 h15) rfl (gR_ok (by decide) (by decide)) (Nat.le_of_ble_eq_true rfl) rfl dX4_fitStripes_28 ?_
      refine g_if_eq (pc := 31) (tgt := 40) dX4_fitStripes_31 (by decide) (fun c18 => ?_) (fun c18 => ?_)
      · have h := g_ift c18 h
        exact g_lv [0, 1, 2] rfl (tX4_fitStripes_b40 hE n K4 hK4 v1 v2 σ16 h)
      · have h := g_iff c18 h
        refine g_iload_n (pc := 34) dX4_fitStripes_34 rfl 1 rfl ?_
        refine g_iconst (pc := 35) (v := 1) dX4_fitStripes_35 (by decide) ?_
        refine g_iload_n (pc := 36) dX4_fitStripes_36 rfl 2 rfl ?_
        refine g_ishl (pc := 37) dX4_fitStripes_37 ?_
        refine g_ior (pc := 38) dX4_fitStripes_38 ?_
        refine g_istore_n (pc := 39) (lv1 := [(1, .int (v1 ||| (1 <<< (v2 &&& 31)))), (0, .ref 24), (2, .int v2)]) dX4_fitStripes_39 rfl (by decide) rfl ?_
        exact g_lv [1, 0, 2] rfl (tX4_fitStripes_b40 hE n K4 hK4 (v1 ||| (1 <<< (v2 &&& 31))) v2 σ16 h)
def fX4_fitStripes_L4 (n : Nat) : Nat → Int32 → Int32 → gM → Option (Int32 × gM)
  | 0 => fun _ _ _ => none
  | k + 1 => fX4_fitStripes_b4 n (fX4_fitStripes_L4 n k)
theorem tX4_fitStripes_L4 (hE : gEX l dC dI ad ca X) {r0 : Int32} {σ' : gM} (n : Nat)  : ∀ (k : Nat) (v1 : Int32) (v2 : Int32) (σ : gM), fX4_fitStripes_L4 n k v1 v2 σ = some (r0, σ') → g_G l dC dI ad ca shX X cX4_fitStripes 3 RX4 (some .int) (gR 4) (some (.int r0)) σ' 4 [(0, .ref 24), (1, .int v1), (2, .int v2)] [] σ := by
  intro k
  induction k with
  | zero => intro v1 v2 σ h; cases h
  | succ k ih => intro v1 v2 σ h; exact tX4_fitStripes_b4 hE n (fX4_fitStripes_L4 n k) ih v1 v2 σ h
def fX4_fitStripes (n : Nat) (σ : gM) : Option (Int32 × gM) := fX4_fitStripes_L4 n n 0 0 σ
set_option maxRecDepth 100000 in
theorem kX4_fitStripes (hE : gEX l dC dI ad ca X) (n : Nat)  (σ : gM) {r0 : Int32} {σ' : gM} (h : fX4_fitStripes n σ = some (r0, σ')) : g_C l dC dI ad ca shX X yX4_fitStripes cX4_fitStripes 3 (some .int) (gR 4) [.ref 24] σ (some (.int r0)) σ' := by
  refine g_entry (by decide +kernel) (Nat.le_of_ble_eq_true rfl) ?_
  refine g_lvE (lv1 := [(0, .ref 24)]) rfl ?_
  unfold fX4_fitStripes at h
  refine g_iconst (pc := 0) (v := 0) dX4_fitStripes_0 (by decide) ?_
  refine g_istore_n (pc := 1) (lv1 := [(1, .int 0), (0, .ref 24)]) dX4_fitStripes_1 rfl (by decide) rfl ?_
  refine g_iconst (pc := 2) (v := 0) dX4_fitStripes_2 (by decide) ?_
  refine g_istore_n (pc := 3) (lv1 := [(2, .int 0), (1, .int 0), (0, .ref 24)]) dX4_fitStripes_3 rfl (by decide) rfl ?_
  exact g_lv [2, 1, 0] rfl (tX4_fitStripes_L4 hE n n 0 0 σ h)
def fX6_byteOf (v1 : Int32) (σ : gM) : Option (Int32 × gM) := if 1 ≤ (σ.1 5 2) then (if (σ.1 5 2) = 0 then none else (some (v1 - v1 / (σ.1 5 2) * (σ.1 5 2), σ))) else (some (0, σ))
set_option maxRecDepth 100000 in
theorem kX6_byteOf (hE : gEX l dC dI ad ca X)  (v1 : Int32) (σ : gM) {r0 : Int32} {σ' : gM} (h : fX6_byteOf v1 σ = some (r0, σ')) : g_C l dC dI ad ca shX X yX6_byteOf cX6_byteOf 2 (some .int) (gR 0) [.ref 5, .int v1] σ (some (.int r0)) σ' := by
  refine g_entry (by decide +kernel) (Nat.le_of_ble_eq_true rfl) ?_
  refine g_lvE (lv1 := [(0, .ref 5), (1, .int v1)]) rfl ?_
  unfold fX6_byteOf at h
  refine g_aload_n (pc := 0) dX6_byteOf_0 rfl 0 rfl ?_
  refine g_getI (pc := 1) wfX6_16 rfl rfl dX6_byteOf_1 ?_
  refine g_iconst (pc := 4) (v := 1) dX6_byteOf_4 (by decide) ?_
  refine g_icmp_ge (pc := 5) (tgt := 12) dX6_byteOf_5 (by decide) (fun c3 => ?_) (fun c3 => ?_)
  · have h := g_ift c3 h
    refine g_iload_n (pc := 12) dX6_byteOf_12 rfl 1 rfl ?_
    refine g_aload_n (pc := 13) dX6_byteOf_13 rfl 0 rfl ?_
    refine g_getI (pc := 14) wfX6_16 rfl rfl dX6_byteOf_14 ?_
    obtain ⟨c4, h⟩ := g_gn h
    refine g_irem (pc := 17) dX6_byteOf_17 c4 ?_
    cases h
    exact g_iret (pc := 18) rfl rfl rfl rfl dX6_byteOf_18
  · have h := g_iff c3 h
    refine g_iconst (pc := 8) (v := 0) dX6_byteOf_8 (by decide) ?_
    refine g_goto (pc := 9) (tgt := 18) dX6_byteOf_9 (by decide) ?_
    cases h
    exact g_iret (pc := 18) rfl rfl rfl rfl dX6_byteOf_18
def fX8_byteRead (n : Nat) (i : Nat) (v1 : Int32) (σ : gM) : Option (Int32 × gM) := g_bI (fX6_stripeOf v1 σ) (fun r20 σ19 => g_bI (fX6_byteOf v1 σ19) (fun r23 σ22 => g_bI (fX8_missing n i r20 σ22) (fun r26 σ25 => g_bV (fX5_gather n i i r20 r23 r26 σ25) (fun σ28 => g_bI (fX6_partOf v1 σ28) (fun r31 σ30 => g_bI (fX5_get i r31 σ30) (fun r34 σ33 => some (r34, σ33)))))))
set_option maxRecDepth 100000 in
theorem kX8_byteRead (hE : gEX l dC dI ad ca X) (n : Nat) (i : Nat) (hi : i < 3)  (v1 : Int32) (σ : gM) {r0 : Int32} {σ' : gM} (h : fX8_byteRead n i v1 σ = some (r0, σ')) : g_C l dC dI ad ca shX X yX8_byteRead cX8_byteRead 3 (some .int) (gR 4) [.ref (9 + 5 * i), .int v1] σ (some (.int r0)) σ' := by
  refine g_entry (by decide +kernel) (Nat.le_of_ble_eq_true rfl) ?_
  refine g_lvE (lv1 := [(0, .ref (9 + 5 * i)), (1, .int v1)]) rfl ?_
  unfold fX8_byteRead at h
  refine g_aload_n (pc := 0) dX8_byteRead_0 rfl 0 rfl ?_
  refine g_getR (pc := 1) wfX8_18 (sX_shelf (i := i) hi) rfl dX8_byteRead_1 ?_
  refine g_iload_n (pc := 4) dX8_byteRead_4 rfl 1 rfl ?_
  obtain ⟨r20, σ19, h18, h⟩ := g_bId h
  refine g_callVi (pc := 5) (st := []) hE.1 wvX8_61 rfl rfl (kX6_stripeOf hE v1 σ h18) rfl (gR_ok (by decide) (by decide)) (Nat.le_of_ble_eq_true rfl) rfl dX8_byteRead_5 ?_
  refine g_istore_n (pc := 8) (lv1 := [(2, .int r20), (0, .ref (9 + 5 * i)), (1, .int v1)]) dX8_byteRead_8 rfl (by decide) rfl ?_
  refine g_aload_n (pc := 9) dX8_byteRead_9 rfl 1 rfl ?_
  refine g_getR (pc := 10) wfX8_27 (sX_shelf (i := i) hi) rfl dX8_byteRead_10 ?_
  refine g_aload_n (pc := 13) dX8_byteRead_13 rfl 1 rfl ?_
  refine g_getR (pc := 14) wfX8_12 (sX_shelf (i := i) hi) rfl dX8_byteRead_14 ?_
  refine g_iload_n (pc := 17) dX8_byteRead_17 rfl 0 rfl ?_
  refine g_aload_n (pc := 18) dX8_byteRead_18 rfl 1 rfl ?_
  refine g_getR (pc := 19) wfX8_18 (sX_shelf (i := i) hi) rfl dX8_byteRead_19 ?_
  refine g_iload_n (pc := 22) dX8_byteRead_22 rfl 2 rfl ?_
  obtain ⟨r23, σ22, h21, h⟩ := g_bId h
  refine g_callVi (pc := 23) (st := [.int r20, .ref (10 + 5 * i), .ref (12 + 5 * i)]) hE.1 wvX8_64 rfl rfl (kX6_byteOf hE v1 σ19 h21) rfl (gR_ok (by decide) (by decide)) (Nat.le_of_ble_eq_true rfl) rfl dX8_byteRead_23 ?_
  refine g_aload_n (pc := 26) dX8_byteRead_26 rfl 1 rfl ?_
  refine g_iload_n (pc := 27) dX8_byteRead_27 rfl 0 rfl ?_
  obtain ⟨r26, σ25, h24, h⟩ := g_bId h
  refine g_callVi (pc := 28) (st := [.int r23, .int r20, .ref (10 + 5 * i), .ref (12 + 5 * i)]) hE.1 wvX8_67 (sX_shelf (i := i) hi) rfl (kX8_missing hE n i hi r20 σ22 h24) rfl (gR_ok (by decide) (by decide)) (Nat.le_of_ble_eq_true rfl) rfl dX8_byteRead_28 ?_
  obtain ⟨σ28, h27, h⟩ := g_bVd h
  refine g_callVv (pc := 31) (st := []) hE.1 wvX8_70 (sX_row (i := i) hi) rfl (kX5_gather hE n i hi i hi r20 r23 r26 σ25 h27) rfl (gR_ok (by decide) (by decide)) (Nat.le_of_ble_eq_true rfl) rfl dX8_byteRead_31 ?_
  refine g_aload_n (pc := 34) dX8_byteRead_34 rfl 1 rfl ?_
  refine g_getR (pc := 35) wfX8_27 (sX_shelf (i := i) hi) rfl dX8_byteRead_35 ?_
  refine g_aload_n (pc := 38) dX8_byteRead_38 rfl 1 rfl ?_
  refine g_getR (pc := 39) wfX8_18 (sX_shelf (i := i) hi) rfl dX8_byteRead_39 ?_
  refine g_iload_n (pc := 42) dX8_byteRead_42 rfl 2 rfl ?_
  obtain ⟨r31, σ30, h29, h⟩ := g_bId h
  refine g_callVi (pc := 43) (st := [.ref (12 + 5 * i)]) hE.1 wvX8_74 rfl rfl (kX6_partOf hE v1 σ28 h29) rfl (gR_ok (by decide) (by decide)) (Nat.le_of_ble_eq_true rfl) rfl dX8_byteRead_43 ?_
  obtain ⟨r34, σ33, h32, h⟩ := g_bId h
  refine g_callVi (pc := 46) (st := []) hE.1 wvX8_77 (sX_row (i := i) hi) rfl (kX5_get hE i hi r31 σ30 h32) rfl (gR_ok (by decide) (by decide)) (Nat.le_of_ble_eq_true rfl) rfl dX8_byteRead_46 ?_
  cases h
  exact g_iret (pc := 49) rfl rfl rfl rfl dX8_byteRead_49
def fX5_mend_b73 (n : Nat) (i : Nat) (v1 : Int32) (v2 : Int32) (s0 : Int32) (σ : gM) : Option (gM) := g_bI (fX5_get i v1 σ) (fun r22 σ21 => g_bV (fX5_set i v1 ((r22 ^^^ v2) ^^^ s0) σ21) (fun σ24 => some σ24))
set_option maxRecDepth 100000 in
theorem tX5_mend_b73 (hE : gEX l dC dI ad ca X) {σ' : gM} (n : Nat) (i : Nat) (hi : i < 3) (v1 : Int32) (v2 : Int32) (s0 : Int32)  (σ : gM) (h : fX5_mend_b73 n i v1 v2 s0 σ = some σ') : g_G l dC dI ad ca shX X cX5_mend 4 RX5 none (gR 2) none σ' 73 [(0, .ref (12 + 5 * i)), (1, .int v1), (2, .int v2)] [.int s0] σ := by
  unfold fX5_mend_b73 at h
  refine g_istore_n (pc := 73) (lv1 := [(3, .int s0), (0, .ref (12 + 5 * i)), (1, .int v1), (2, .int v2)]) dX5_mend_73 rfl (by decide) rfl ?_
  refine g_aload_n (pc := 74) dX5_mend_74 rfl 1 rfl ?_
  refine g_iload_n (pc := 75) dX5_mend_75 rfl 2 rfl ?_
  refine g_aload_n (pc := 76) dX5_mend_76 rfl 1 rfl ?_
  refine g_iload_n (pc := 77) dX5_mend_77 rfl 2 rfl ?_
  obtain ⟨r22, σ21, h20, h⟩ := g_bId h
  refine g_callVi (pc := 78) (st := [.int v1, .ref (12 + 5 * i)]) hE.1 wvX5_85 (sX_row (i := i) hi) rfl (kX5_get hE i hi v1 σ h20) rfl (gR_ok (by decide) (by decide)) (Nat.le_of_ble_eq_true rfl) rfl dX5_mend_78 ?_
  refine g_iload_n (pc := 81) dX5_mend_81 rfl 3 rfl ?_
  refine g_ixor (pc := 82) dX5_mend_82 ?_
  refine g_iload_n (pc := 83) dX5_mend_83 rfl 0 rfl ?_
  refine g_ixor (pc := 84) dX5_mend_84 ?_
  obtain ⟨σ24, h23, h⟩ := g_bVd h
  refine g_callVv (pc := 85) (st := []) hE.1 wvX5_57 (sX_row (i := i) hi) rfl (kX5_set hE i hi v1 ((r22 ^^^ v2) ^^^ s0) σ21 h23) rfl (gR_ok (by decide) (by decide)) (Nat.le_of_ble_eq_true rfl) rfl dX5_mend_85 ?_
  cases h
  exact g_vret (pc := 88) rfl rfl rfl dX5_mend_88
def fX5_mend_b36 (n : Nat) (i : Nat) (v1 : Int32) (s0 : Int32) (σ : gM) : Option (gM) := if v1 = (σ.1 5 7) then (g_bI (fX5_get i (σ.1 5 7) σ) (fun r31 σ30 => fX5_mend_b73 n i v1 s0 r31 σ30)) else (g_bI (fX5_get i (σ.1 5 6) σ) (fun r28 σ27 => fX5_mend_b73 n i v1 s0 r28 σ27))
set_option maxRecDepth 100000 in
theorem tX5_mend_b36 (hE : gEX l dC dI ad ca X) {σ' : gM} (n : Nat) (i : Nat) (hi : i < 3) (v1 : Int32) (s0 : Int32)  (σ : gM) (h : fX5_mend_b36 n i v1 s0 σ = some σ') : g_G l dC dI ad ca shX X cX5_mend 4 RX5 none (gR 2) none σ' 36 [(0, .ref (12 + 5 * i)), (1, .int v1)] [.int s0] σ := by
  unfold fX5_mend_b36 at h
  refine g_istore_n (pc := 36) (lv1 := [(2, .int s0), (0, .ref (12 + 5 * i)), (1, .int v1)]) dX5_mend_36 rfl (by decide) rfl ?_
  refine g_iload_n (pc := 37) dX5_mend_37 rfl 2 rfl ?_
  refine g_aload_n (pc := 38) dX5_mend_38 rfl 1 rfl ?_
  refine g_getR (pc := 39) wfX5_17 (sX_row (i := i) hi) rfl dX5_mend_39 ?_
  refine g_getI (pc := 42) wfX5_61 rfl rfl dX5_mend_42 ?_
  refine g_icmp_ne (pc := 45) (tgt := 62) dX5_mend_45 (by decide) (fun c25 => ?_) (fun c25 => ?_)
  · have h := g_iff c25 h
    refine g_aload_n (pc := 62) dX5_mend_62 rfl 1 rfl ?_
    refine g_aload_n (pc := 63) dX5_mend_63 rfl 1 rfl ?_
    refine g_getR (pc := 64) wfX5_17 (sX_row (i := i) hi) rfl dX5_mend_64 ?_
    refine g_getI (pc := 67) wfX5_46 rfl rfl dX5_mend_67 ?_
    obtain ⟨r28, σ27, h26, h⟩ := g_bId h
    refine g_callVi (pc := 70) (st := []) hE.1 wvX5_85 (sX_row (i := i) hi) rfl (kX5_get hE i hi (σ.1 5 6) σ h26) rfl (gR_ok (by decide) (by decide)) (Nat.le_of_ble_eq_true rfl) rfl dX5_mend_70 ?_
    exact g_lv [1, 2, 0] rfl (tX5_mend_b73 hE n i hi v1 s0 r28 σ27 h)
  · have h := g_ift c25 h
    refine g_aload_n (pc := 48) dX5_mend_48 rfl 1 rfl ?_
    refine g_aload_n (pc := 49) dX5_mend_49 rfl 1 rfl ?_
    refine g_getR (pc := 50) wfX5_17 (sX_row (i := i) hi) rfl dX5_mend_50 ?_
    refine g_getI (pc := 53) wfX5_61 rfl rfl dX5_mend_53 ?_
    obtain ⟨r31, σ30, h29, h⟩ := g_bId h
    refine g_callVi (pc := 56) (st := []) hE.1 wvX5_85 (sX_row (i := i) hi) rfl (kX5_get hE i hi (σ.1 5 7) σ h29) rfl (gR_ok (by decide) (by decide)) (Nat.le_of_ble_eq_true rfl) rfl dX5_mend_56 ?_
    refine g_goto (pc := 59) (tgt := 73) dX5_mend_59 (by decide) ?_
    exact g_lv [1, 2, 0] rfl (tX5_mend_b73 hE n i hi v1 s0 r31 σ30 h)
def fX5_mend (n : Nat) (i : Nat) (v1 : Int32) (σ : gM) : Option (gM) := if v1 = (σ.1 5 7) then (g_bI (fX1_sumByPowers n i (σ.1 5 0) σ) (fun r38 σ37 => fX5_mend_b36 n i v1 r38 σ37)) else (g_bI (fX5_sumForP n i σ) (fun r35 σ34 => fX5_mend_b36 n i v1 r35 σ34))
set_option maxRecDepth 100000 in
theorem kX5_mend (hE : gEX l dC dI ad ca X) (n : Nat) (i : Nat) (hi : i < 3)  (v1 : Int32) (σ : gM) {σ' : gM} (h : fX5_mend n i v1 σ = some σ') : g_C l dC dI ad ca shX X yX5_mend cX5_mend 4 none (gR 2) [.ref (12 + 5 * i), .int v1] σ none σ' := by
  refine g_entry (by decide +kernel) (Nat.le_of_ble_eq_true rfl) ?_
  refine g_lvE (lv1 := [(0, .ref (12 + 5 * i)), (1, .int v1)]) rfl ?_
  unfold fX5_mend at h
  refine g_iload_n (pc := 0) dX5_mend_0 rfl 1 rfl ?_
  refine g_aload_n (pc := 1) dX5_mend_1 rfl 0 rfl ?_
  refine g_getR (pc := 2) wfX5_17 (sX_row (i := i) hi) rfl dX5_mend_2 ?_
  refine g_getI (pc := 5) wfX5_61 rfl rfl dX5_mend_5 ?_
  refine g_icmp_ne (pc := 8) (tgt := 32) dX5_mend_8 (by decide) (fun c32 => ?_) (fun c32 => ?_)
  · have h := g_iff c32 h
    refine g_aload_n (pc := 32) dX5_mend_32 rfl 0 rfl ?_
    obtain ⟨r35, σ34, h33, h⟩ := g_bId h
    refine g_callVi (pc := 33) (st := []) hE.1 wvX5_53 (sX_row (i := i) hi) rfl (kX5_sumForP hE n i hi σ h33) rfl (gR_ok (by decide) (by decide)) (Nat.le_of_ble_eq_true rfl) rfl dX5_mend_33 ?_
    exact g_lv [0, 1] rfl (tX5_mend_b36 hE n i hi v1 r35 σ34 h)
  · have h := g_ift c32 h
    refine g_aload_n (pc := 11) dX5_mend_11 rfl 0 rfl ?_
    refine g_getR (pc := 12) wfX5_21 (sX_row (i := i) hi) rfl dX5_mend_12 ?_
    refine g_aload_n (pc := 15) dX5_mend_15 rfl 0 rfl ?_
    refine g_getR (pc := 16) wfX5_11 (sX_row (i := i) hi) rfl dX5_mend_16 ?_
    refine g_aload_n (pc := 19) dX5_mend_19 rfl 0 rfl ?_
    refine g_getR (pc := 20) wfX5_17 (sX_row (i := i) hi) rfl dX5_mend_20 ?_
    refine g_getI (pc := 23) wfX5_64 rfl rfl dX5_mend_23 ?_
    obtain ⟨r38, σ37, h36, h⟩ := g_bId h
    refine g_callVi (pc := 26) (st := []) hE.1 wvX5_67 rfl rfl (kX1_sumByPowers hE n i hi (σ.1 5 0) σ h36) rfl (gR_ok (by decide) (by decide)) (Nat.le_of_ble_eq_true rfl) rfl dX5_mend_26 ?_
    refine g_goto (pc := 29) (tgt := 36) dX5_mend_29 (by decide) ?_
    exact g_lv [0, 1] rfl (tX5_mend_b36 hE n i hi v1 r38 σ37 h)
def fX4_byteIfScrubbed_b64 (n : Nat) (v4 : Int32) (σ : gM) : Option (Int32 × gM) := some (v4, σ)
set_option maxRecDepth 100000 in
theorem tX4_byteIfScrubbed_b64 (hE : gEX l dC dI ad ca X) {r0 : Int32} {σ' : gM} (n : Nat) (v4 : Int32)  (σ : gM) (h : fX4_byteIfScrubbed_b64 n v4 σ = some (r0, σ')) : g_G l dC dI ad ca shX X cX4_byteIfScrubbed 5 RX4 (some .int) (gR 5) (some (.int r0)) σ' 64 [(4, .int v4)] [] σ := by
  unfold fX4_byteIfScrubbed_b64 at h
  refine g_iload (pc := 64) dX4_byteIfScrubbed_64 0 rfl ?_
  cases h
  exact g_iret (pc := 66) rfl rfl rfl rfl dX4_byteIfScrubbed_66
def fX4_byteIfScrubbed (n : Nat) (v1 : Int32) (σ : gM) : Option (Int32 × gM) := g_bI (fX6_partOf v1 σ) (fun r29 σ28 => g_bI (fX6_stripeOf v1 σ28) (fun r32 σ31 => g_bI (fX8_byteRead n 0 v1 σ31) (fun r35 σ34 => g_bI (fX8_missing n 0 r32 σ34) (fun r38 σ37 => if r38 = 0 then (g_bI (fX8_isDirty 0 r32 σ37) (fun r42 σ41 => if r42 = 0 then (g_bI (fX5_wrongPart n 0 σ41) (fun r46 σ45 => if r46 = r29 then (g_bV (fX5_mend n 0 r29 σ45) (fun σ49 => g_bI (fX5_get 0 r29 σ49) (fun r52 σ51 => some (r52, σ51)))) else (fX4_byteIfScrubbed_b64 n r35 σ45))) else (fX4_byteIfScrubbed_b64 n r35 σ41))) else (fX4_byteIfScrubbed_b64 n r35 σ37)))))
set_option maxRecDepth 100000 in
theorem kX4_byteIfScrubbed (hE : gEX l dC dI ad ca X) (n : Nat)  (v1 : Int32) (σ : gM) {r0 : Int32} {σ' : gM} (h : fX4_byteIfScrubbed n v1 σ = some (r0, σ')) : g_C l dC dI ad ca shX X yX4_byteIfScrubbed cX4_byteIfScrubbed 5 (some .int) (gR 5) [.ref 24, .int v1] σ (some (.int r0)) σ' := by
  refine g_entry (by decide +kernel) (Nat.le_of_ble_eq_true rfl) ?_
  refine g_lvE (lv1 := [(0, .ref 24), (1, .int v1)]) rfl ?_
  unfold fX4_byteIfScrubbed at h
  refine g_aload_n (pc := 0) dX4_byteIfScrubbed_0 rfl 0 rfl ?_
  refine g_getR (pc := 1) wfX4_21 rfl rfl dX4_byteIfScrubbed_1 ?_
  refine g_iload_n (pc := 4) dX4_byteIfScrubbed_4 rfl 1 rfl ?_
  obtain ⟨r29, σ28, h27, h⟩ := g_bId h
  refine g_callVi (pc := 5) (st := []) hE.1 wvX4_22 rfl rfl (kX6_partOf hE v1 σ h27) rfl (gR_ok (by decide) (by decide)) (Nat.le_of_ble_eq_true rfl) rfl dX4_byteIfScrubbed_5 ?_
  refine g_istore_n (pc := 8) (lv1 := [(2, .int r29), (0, .ref 24), (1, .int v1)]) dX4_byteIfScrubbed_8 rfl (by decide) rfl ?_
  refine g_aload_n (pc := 9) dX4_byteIfScrubbed_9 rfl 1 rfl ?_
  refine g_getR (pc := 10) wfX4_21 rfl rfl dX4_byteIfScrubbed_10 ?_
  refine g_iload_n (pc := 13) dX4_byteIfScrubbed_13 rfl 2 rfl ?_
  obtain ⟨r32, σ31, h30, h⟩ := g_bId h
  refine g_callVi (pc := 14) (st := []) hE.1 wvX4_28 rfl rfl (kX6_stripeOf hE v1 σ28 h30) rfl (gR_ok (by decide) (by decide)) (Nat.le_of_ble_eq_true rfl) rfl dX4_byteIfScrubbed_14 ?_
  refine g_istore_n (pc := 17) (lv1 := [(3, .int r32), (2, .int r29), (0, .ref 24), (1, .int v1)]) dX4_byteIfScrubbed_17 rfl (by decide) rfl ?_
  refine g_aload_n (pc := 18) dX4_byteIfScrubbed_18 rfl 2 rfl ?_
  refine g_getR (pc := 19) wfX4_9 rfl rfl dX4_byteIfScrubbed_19 ?_
  refine g_iload_n (pc := 22) dX4_byteIfScrubbed_22 rfl 3 rfl ?_
  obtain ⟨r35, σ34, h33, h⟩ := g_bId h
  refine g_callVi (pc := 23) (st := []) hE.1 wvX4_120 (sX_shelf (i := 0) (by decide)) rfl (kX8_byteRead hE n 0 (by decide) v1 σ31 h33) rfl (gR_ok (by decide) (by decide)) (Nat.le_of_ble_eq_true rfl) rfl dX4_byteIfScrubbed_23 ?_
  refine g_istore (pc := 26) (lv1 := [(4, .int r35), (3, .int r32), (2, .int r29), (0, .ref 24), (1, .int v1)]) dX4_byteIfScrubbed_26 (by decide) rfl ?_
  refine g_aload_n (pc := 28) dX4_byteIfScrubbed_28 rfl 3 rfl ?_
  refine g_getR (pc := 29) wfX4_9 rfl rfl dX4_byteIfScrubbed_29 ?_
  refine g_iload_n (pc := 32) dX4_byteIfScrubbed_32 rfl 1 rfl ?_
  obtain ⟨r38, σ37, h36, h⟩ := g_bId h
  refine g_callVi (pc := 33) (st := []) hE.1 wvX4_31 (sX_shelf (i := 0) (by decide)) rfl (kX8_missing hE n 0 (by decide) r32 σ34 h36) rfl (gR_ok (by decide) (by decide)) (Nat.le_of_ble_eq_true rfl) rfl dX4_byteIfScrubbed_33 ?_
  refine g_if_ne (pc := 36) (tgt := 64) dX4_byteIfScrubbed_36 (by decide) (fun c39 => ?_) (fun c39 => ?_)
  · have h := g_iff c39 h
    exact g_lv [0] rfl (tX4_byteIfScrubbed_b64 hE n r35 σ37 h)
  · have h := g_ift c39 h
    refine g_aload_n (pc := 39) dX4_byteIfScrubbed_39 rfl 3 rfl ?_
    refine g_getR (pc := 40) wfX4_9 rfl rfl dX4_byteIfScrubbed_40 ?_
    refine g_iload_n (pc := 43) dX4_byteIfScrubbed_43 rfl 1 rfl ?_
    obtain ⟨r42, σ41, h40, h⟩ := g_bId h
    refine g_callVi (pc := 44) (st := []) hE.1 wvX4_71 (sX_shelf (i := 0) (by decide)) rfl (kX8_isDirty hE 0 (by decide) r32 σ37 h40) rfl (gR_ok (by decide) (by decide)) (Nat.le_of_ble_eq_true rfl) rfl dX4_byteIfScrubbed_44 ?_
    refine g_if_ne (pc := 47) (tgt := 64) dX4_byteIfScrubbed_47 (by decide) (fun c43 => ?_) (fun c43 => ?_)
    · have h := g_iff c43 h
      exact g_lv [0] rfl (tX4_byteIfScrubbed_b64 hE n r35 σ41 h)
    · have h := g_ift c43 h
      refine g_aload_n (pc := 50) dX4_byteIfScrubbed_50 rfl 3 rfl ?_
      refine g_getR (pc := 51) wfX4_9 rfl rfl dX4_byteIfScrubbed_51 ?_
      refine g_getR (pc := 54) wfX4_54 (sX_shelf (i := 0) (by decide)) rfl dX4_byteIfScrubbed_54 ?_
      obtain ⟨r46, σ45, h44, h⟩ := g_bId h
      refine g_callVi (pc := 57) (st := []) hE.1 wvX4_78 (sX_row (i := 0) (by decide)) rfl (kX5_wrongPart hE n 0 (by decide) σ41 h44) rfl (gR_ok (by decide) (by decide)) (Nat.le_of_ble_eq_true rfl) rfl dX4_byteIfScrubbed_57 ?_
      refine g_iload_n (pc := 60) dX4_byteIfScrubbed_60 rfl 2 rfl ?_
      refine g_icmp_eq (pc := 61) (tgt := 67) dX4_byteIfScrubbed_61 (by decide) (fun c47 => ?_) (fun c47 => ?_)
      · have h := g_ift c47 h
        refine g_aload_n (pc := 67) dX4_byteIfScrubbed_67 rfl 3 rfl ?_
        refine g_getR (pc := 68) wfX4_9 rfl rfl dX4_byteIfScrubbed_68 ?_
        refine g_getR (pc := 71) wfX4_54 (sX_shelf (i := 0) (by decide)) rfl dX4_byteIfScrubbed_71 ?_
        refine g_iload_n (pc := 74) dX4_byteIfScrubbed_74 rfl 2 rfl ?_
        obtain ⟨σ49, h48, h⟩ := g_bVd h
        refine g_callVv (pc := 75) (st := []) hE.1 wvX4_123 (sX_row (i := 0) (by decide)) rfl (kX5_mend hE n 0 (by decide) r29 σ45 h48) rfl (gR_ok (by decide) (by decide)) (Nat.le_of_ble_eq_true rfl) rfl dX4_byteIfScrubbed_75 ?_
        refine g_aload_n (pc := 78) dX4_byteIfScrubbed_78 rfl 3 rfl ?_
        refine g_getR (pc := 79) wfX4_9 rfl rfl dX4_byteIfScrubbed_79 ?_
        refine g_getR (pc := 82) wfX4_54 (sX_shelf (i := 0) (by decide)) rfl dX4_byteIfScrubbed_82 ?_
        refine g_iload_n (pc := 85) dX4_byteIfScrubbed_85 rfl 2 rfl ?_
        obtain ⟨r52, σ51, h50, h⟩ := g_bId h
        refine g_callVi (pc := 86) (st := []) hE.1 wvX4_68 (sX_row (i := 0) (by decide)) rfl (kX5_get hE 0 (by decide) r29 σ49 h50) rfl (gR_ok (by decide) (by decide)) (Nat.le_of_ble_eq_true rfl) rfl dX4_byteIfScrubbed_86 ?_
        cases h
        exact g_iret (pc := 89) rfl rfl rfl rfl dX4_byteIfScrubbed_89
      · have h := g_iff c47 h
        exact g_lv [0] rfl (tX4_byteIfScrubbed_b64 hE n r35 σ45 h)
def fX4_sameAs_b34 (n : Nat) (j : Nat) (K4 : Int32 → Int32 → gM → Option (Int32 × gM)) (v2 : Int32) (v3 : Int32) (σ : gM) : Option (Int32 × gM) := K4 v2 (v3 + 1) σ
set_option maxRecDepth 100000 in
theorem tX4_sameAs_b34 (hE : gEX l dC dI ad ca X) {r0 : Int32} {σ' : gM} (n : Nat) (j : Nat) (hj : j < 3) (K4 : Int32 → Int32 → gM → Option (Int32 × gM)) (hK4 : ∀ (v2 : Int32) (v3 : Int32) (σ : gM), K4 v2 v3 σ = some (r0, σ') → g_G l dC dI ad ca shX X cX4_sameAs 4 RX4 (some .int) (gR 5) (some (.int r0)) σ' 4 [(0, .ref 24), (1, .ref (9 + 5 * j)), (2, .int v2), (3, .int v3)] [] σ) (v2 : Int32) (v3 : Int32)  (σ : gM) (h : fX4_sameAs_b34 n j K4 v2 v3 σ = some (r0, σ')) : g_G l dC dI ad ca shX X cX4_sameAs 4 RX4 (some .int) (gR 5) (some (.int r0)) σ' 34 [(0, .ref 24), (1, .ref (9 + 5 * j)), (2, .int v2), (3, .int v3)] [] σ := by
  unfold fX4_sameAs_b34 at h
  refine g_iinc (pc := 34) (v := v3 + 1) (lv1 := [(3, .int (v3 + 1)), (0, .ref 24), (1, .ref (9 + 5 * j)), (2, .int v2)]) dX4_sameAs_34 3 rfl rfl (by decide) rfl ?_
  refine g_goto (pc := 37) (tgt := 4) dX4_sameAs_37 (by decide) ?_
  exact g_lv [1, 2, 3, 0] rfl (hK4 v2 (v3 + 1) σ h)
def fX4_sameAs_b4 (n : Nat) (j : Nat) (K4 : Int32 → Int32 → gM → Option (Int32 × gM)) (v2 : Int32) (v3 : Int32) (σ : gM) : Option (Int32 × gM) := g_bI (fX6_addresses σ) (fun r14 σ13 => if r14 ≤ v3 then (some (v2, σ13)) else (g_bI (fX8_byteRead n 0 v3 σ13) (fun r18 σ17 => g_bI (fX8_byteRead n j v3 σ17) (fun r21 σ20 => if r18 = r21 then (fX4_sameAs_b34 n j K4 (v2 + 1) v3 σ20) else (fX4_sameAs_b34 n j K4 v2 v3 σ20)))))
set_option maxRecDepth 100000 in
theorem tX4_sameAs_b4 (hE : gEX l dC dI ad ca X) {r0 : Int32} {σ' : gM} (n : Nat) (j : Nat) (hj : j < 3) (K4 : Int32 → Int32 → gM → Option (Int32 × gM)) (hK4 : ∀ (v2 : Int32) (v3 : Int32) (σ : gM), K4 v2 v3 σ = some (r0, σ') → g_G l dC dI ad ca shX X cX4_sameAs 4 RX4 (some .int) (gR 5) (some (.int r0)) σ' 4 [(0, .ref 24), (1, .ref (9 + 5 * j)), (2, .int v2), (3, .int v3)] [] σ) (v2 : Int32) (v3 : Int32)  (σ : gM) (h : fX4_sameAs_b4 n j K4 v2 v3 σ = some (r0, σ')) : g_G l dC dI ad ca shX X cX4_sameAs 4 RX4 (some .int) (gR 5) (some (.int r0)) σ' 4 [(0, .ref 24), (1, .ref (9 + 5 * j)), (2, .int v2), (3, .int v3)] [] σ := by
  unfold fX4_sameAs_b4 at h
  refine g_iload_n (pc := 4) dX4_sameAs_4 rfl 3 rfl ?_
  refine g_aload_n (pc := 5) dX4_sameAs_5 rfl 0 rfl ?_
  refine g_getR (pc := 6) wfX4_21 rfl rfl dX4_sameAs_6 ?_
  obtain ⟨r14, σ13, h12, h⟩ := g_bId h
  refine g_callVi (pc := 9) (st := [.int v3]) hE.1 wvX4_127 rfl rfl (kX6_addresses hE σ h12) rfl (gR_ok (by decide) (by decide)) (Nat.le_of_ble_eq_true rfl) rfl dX4_sameAs_9 ?_
  refine g_icmp_ge (pc := 12) (tgt := 40) dX4_sameAs_12 (by decide) (fun c15 => ?_) (fun c15 => ?_)
  · have h := g_ift c15 h
    refine g_iload_n (pc := 40) dX4_sameAs_40 rfl 2 rfl ?_
    cases h
    exact g_iret (pc := 41) rfl rfl rfl rfl dX4_sameAs_41
  · have h := g_iff c15 h
    refine g_aload_n (pc := 15) dX4_sameAs_15 rfl 0 rfl ?_
    refine g_getR (pc := 16) wfX4_9 rfl rfl dX4_sameAs_16 ?_
    refine g_iload_n (pc := 19) dX4_sameAs_19 rfl 3 rfl ?_
    obtain ⟨r18, σ17, h16, h⟩ := g_bId h
    refine g_callVi (pc := 20) (st := []) hE.1 wvX4_120 (sX_shelf (i := 0) (by decide)) rfl (kX8_byteRead hE n 0 (by decide) v3 σ13 h16) rfl (gR_ok (by decide) (by decide)) (Nat.le_of_ble_eq_true rfl) rfl dX4_sameAs_20 ?_
    refine g_aload_n (pc := 23) dX4_sameAs_23 rfl 1 rfl ?_
    refine g_iload_n (pc := 24) dX4_sameAs_24 rfl 3 rfl ?_
    obtain ⟨r21, σ20, h19, h⟩ := g_bId h
    refine g_callVi (pc := 25) (st := [.int r18]) hE.1 wvX4_120 (sX_shelf (i := j) hj) rfl (kX8_byteRead hE n j hj v3 σ17 h19) rfl (gR_ok (by decide) (by decide)) (Nat.le_of_ble_eq_true rfl) rfl dX4_sameAs_25 ?_
    refine g_icmp_ne (pc := 28) (tgt := 34) dX4_sameAs_28 (by decide) (fun c22 => ?_) (fun c22 => ?_)
    · have h := g_iff c22 h
      exact g_lv [0, 1, 2, 3] rfl (tX4_sameAs_b34 hE n j hj K4 hK4 v2 v3 σ20 h)
    · have h := g_ift c22 h
      refine g_iinc (pc := 31) (v := v2 + 1) (lv1 := [(2, .int (v2 + 1)), (0, .ref 24), (1, .ref (9 + 5 * j)), (3, .int v3)]) dX4_sameAs_31 2 rfl rfl (by decide) rfl ?_
      exact g_lv [1, 2, 0, 3] rfl (tX4_sameAs_b34 hE n j hj K4 hK4 (v2 + 1) v3 σ20 h)
def fX4_sameAs_L4 (n : Nat) (j : Nat) : Nat → Int32 → Int32 → gM → Option (Int32 × gM)
  | 0 => fun _ _ _ => none
  | k + 1 => fX4_sameAs_b4 n j (fX4_sameAs_L4 n j k)
theorem tX4_sameAs_L4 (hE : gEX l dC dI ad ca X) {r0 : Int32} {σ' : gM} (n : Nat) (j : Nat) (hj : j < 3)  : ∀ (k : Nat) (v2 : Int32) (v3 : Int32) (σ : gM), fX4_sameAs_L4 n j k v2 v3 σ = some (r0, σ') → g_G l dC dI ad ca shX X cX4_sameAs 4 RX4 (some .int) (gR 5) (some (.int r0)) σ' 4 [(0, .ref 24), (1, .ref (9 + 5 * j)), (2, .int v2), (3, .int v3)] [] σ := by
  intro k
  induction k with
  | zero => intro v2 v3 σ h; cases h
  | succ k ih => intro v2 v3 σ h; exact tX4_sameAs_b4 hE n j hj (fX4_sameAs_L4 n j k) ih v2 v3 σ h
def fX4_sameAs (n : Nat) (j : Nat) (σ : gM) : Option (Int32 × gM) := fX4_sameAs_L4 n j n 0 0 σ
set_option maxRecDepth 100000 in
theorem kX4_sameAs (hE : gEX l dC dI ad ca X) (n : Nat) (j : Nat) (hj : j < 3)  (σ : gM) {r0 : Int32} {σ' : gM} (h : fX4_sameAs n j σ = some (r0, σ')) : g_C l dC dI ad ca shX X yX4_sameAs cX4_sameAs 4 (some .int) (gR 5) [.ref 24, .ref (9 + 5 * j)] σ (some (.int r0)) σ' := by
  refine g_entry (by decide +kernel) (Nat.le_of_ble_eq_true rfl) ?_
  refine g_lvE (lv1 := [(0, .ref 24), (1, .ref (9 + 5 * j))]) rfl ?_
  unfold fX4_sameAs at h
  refine g_iconst (pc := 0) (v := 0) dX4_sameAs_0 (by decide) ?_
  refine g_istore_n (pc := 1) (lv1 := [(2, .int 0), (0, .ref 24), (1, .ref (9 + 5 * j))]) dX4_sameAs_1 rfl (by decide) rfl ?_
  refine g_iconst (pc := 2) (v := 0) dX4_sameAs_2 (by decide) ?_
  refine g_istore_n (pc := 3) (lv1 := [(3, .int 0), (2, .int 0), (0, .ref 24), (1, .ref (9 + 5 * j))]) dX4_sameAs_3 rfl (by decide) rfl ?_
  exact g_lv [2, 3, 1, 0] rfl (tX4_sameAs_L4 hE n j hj n 0 0 σ h)
def fX4_longestHidden_b94 (n : Nat) (K10 : Int32 → Int32 → Int32 → Int32 → Int32 → gM → Option (Int32 × gM)) (v1 : Int32) (v2 : Int32) (v3 : Int32) (v4 : Int32) (v5 : Int32) (σ : gM) : Option (Int32 × gM) := K10 v1 v2 v3 v4 (v5 + 1) σ
set_option maxRecDepth 100000 in
theorem tX4_longestHidden_b94 (hE : gEX l dC dI ad ca X) {r0 : Int32} {σ' : gM} (n : Nat) (K10 : Int32 → Int32 → Int32 → Int32 → Int32 → gM → Option (Int32 × gM)) (hK10 : ∀ (v1 : Int32) (v2 : Int32) (v3 : Int32) (v4 : Int32) (v5 : Int32) (σ : gM), K10 v1 v2 v3 v4 v5 σ = some (r0, σ') → g_G l dC dI ad ca shX X cX4_longestHidden 8 RX4 (some .int) (gR 2) (some (.int r0)) σ' 10 [(0, .ref 24), (1, .int v1), (2, .int v2), (3, .int v3), (4, .int v4), (5, .int v5)] [] σ) (v1 : Int32) (v2 : Int32) (v3 : Int32) (v4 : Int32) (v5 : Int32)  (σ : gM) (h : fX4_longestHidden_b94 n K10 v1 v2 v3 v4 v5 σ = some (r0, σ')) : g_G l dC dI ad ca shX X cX4_longestHidden 8 RX4 (some .int) (gR 2) (some (.int r0)) σ' 94 [(0, .ref 24), (1, .int v1), (2, .int v2), (3, .int v3), (4, .int v4), (5, .int v5)] [] σ := by
  unfold fX4_longestHidden_b94 at h
  refine g_iinc (pc := 94) (v := v5 + 1) (lv1 := [(5, .int (v5 + 1)), (0, .ref 24), (1, .int v1), (2, .int v2), (3, .int v3), (4, .int v4)]) dX4_longestHidden_94 5 rfl rfl (by decide) rfl ?_
  refine g_goto (pc := 97) (tgt := 10) dX4_longestHidden_97 (by decide) ?_
  exact g_lv [1, 2, 3, 4, 5, 0] rfl (hK10 v1 v2 v3 v4 (v5 + 1) σ h)
def fX4_longestHidden_b75 (n : Nat) (K10 : Int32 → Int32 → Int32 → Int32 → Int32 → gM → Option (Int32 × gM)) (v1 : Int32) (v2 : Int32) (v3 : Int32) (v5 : Int32) (s0 : Int32) (σ : gM) : Option (Int32 × gM) := if s0 ≤ v2 then (fX4_longestHidden_b94 n K10 v1 v2 v3 s0 v5 σ) else (fX4_longestHidden_b94 n K10 v1 s0 ((v5 - s0) + 1) s0 v5 σ)
set_option maxRecDepth 100000 in
theorem tX4_longestHidden_b75 (hE : gEX l dC dI ad ca X) {r0 : Int32} {σ' : gM} (n : Nat) (K10 : Int32 → Int32 → Int32 → Int32 → Int32 → gM → Option (Int32 × gM)) (hK10 : ∀ (v1 : Int32) (v2 : Int32) (v3 : Int32) (v4 : Int32) (v5 : Int32) (σ : gM), K10 v1 v2 v3 v4 v5 σ = some (r0, σ') → g_G l dC dI ad ca shX X cX4_longestHidden 8 RX4 (some .int) (gR 2) (some (.int r0)) σ' 10 [(0, .ref 24), (1, .int v1), (2, .int v2), (3, .int v3), (4, .int v4), (5, .int v5)] [] σ) (v1 : Int32) (v2 : Int32) (v3 : Int32) (v5 : Int32) (s0 : Int32)  (σ : gM) (h : fX4_longestHidden_b75 n K10 v1 v2 v3 v5 s0 σ = some (r0, σ')) : g_G l dC dI ad ca shX X cX4_longestHidden 8 RX4 (some .int) (gR 2) (some (.int r0)) σ' 75 [(0, .ref 24), (1, .int v1), (2, .int v2), (3, .int v3), (5, .int v5)] [.int s0] σ := by
  unfold fX4_longestHidden_b75 at h
  refine g_istore (pc := 75) (lv1 := [(4, .int s0), (0, .ref 24), (1, .int v1), (2, .int v2), (3, .int v3), (5, .int v5)]) dX4_longestHidden_75 (by decide) rfl ?_
  refine g_iload (pc := 77) dX4_longestHidden_77 0 rfl ?_
  refine g_iload_n (pc := 79) dX4_longestHidden_79 rfl 3 rfl ?_
  refine g_icmp_le (pc := 80) (tgt := 94) dX4_longestHidden_80 (by decide) (fun c20 => ?_) (fun c20 => ?_)
  · have h := g_ift c20 h
    exact g_lv [1, 2, 3, 4, 0, 5] rfl (tX4_longestHidden_b94 hE n K10 hK10 v1 v2 v3 s0 v5 σ h)
  · have h := g_iff c20 h
    refine g_iload (pc := 83) dX4_longestHidden_83 0 rfl ?_
    refine g_istore_n (pc := 85) (lv1 := [(2, .int s0), (4, .int s0), (0, .ref 24), (1, .int v1), (3, .int v3), (5, .int v5)]) dX4_longestHidden_85 rfl (by decide) rfl ?_
    refine g_iload (pc := 86) dX4_longestHidden_86 5 rfl ?_
    refine g_iload (pc := 88) dX4_longestHidden_88 1 rfl ?_
    refine g_isub (pc := 90) dX4_longestHidden_90 ?_
    refine g_iconst (pc := 91) (v := 1) dX4_longestHidden_91 (by decide) ?_
    refine g_iadd (pc := 92) dX4_longestHidden_92 ?_
    refine g_istore_n (pc := 93) (lv1 := [(3, .int ((v5 - s0) + 1)), (2, .int s0), (4, .int s0), (0, .ref 24), (1, .int v1), (5, .int v5)]) dX4_longestHidden_93 rfl (by decide) rfl ?_
    exact g_lv [3, 4, 1, 0, 2, 5] rfl (tX4_longestHidden_b94 hE n K10 hK10 v1 s0 ((v5 - s0) + 1) s0 v5 σ h)
def fX4_longestHidden_b10 (n : Nat) (K10 : Int32 → Int32 → Int32 → Int32 → Int32 → gM → Option (Int32 × gM)) (v1 : Int32) (v2 : Int32) (v3 : Int32) (v4 : Int32) (v5 : Int32) (σ : gM) : Option (Int32 × gM) := g_bI (fX6_addresses σ) (fun r23 σ22 => if r23 ≤ v5 then (if v1 = 0 then (some (v2, σ22)) else (some (v3, σ22))) else (g_bI (fX6_stripeOf v5 σ22) (fun r28 σ27 => g_bI (fX6_partOf v5 σ27) (fun r31 σ30 => g_bI (fX6_diskOf r31 r28 σ30) (fun r34 σ33 => g_bI (fX8_isThere 0 r34 r28 σ33) (fun r37 σ36 => if r37 = 0 then (fX4_longestHidden_b75 n K10 v1 v2 v3 v5 (v4 + 1) σ36) else (fX4_longestHidden_b75 n K10 v1 v2 v3 v5 0 σ36)))))))
set_option maxRecDepth 100000 in
theorem tX4_longestHidden_b10 (hE : gEX l dC dI ad ca X) {r0 : Int32} {σ' : gM} (n : Nat) (K10 : Int32 → Int32 → Int32 → Int32 → Int32 → gM → Option (Int32 × gM)) (hK10 : ∀ (v1 : Int32) (v2 : Int32) (v3 : Int32) (v4 : Int32) (v5 : Int32) (σ : gM), K10 v1 v2 v3 v4 v5 σ = some (r0, σ') → g_G l dC dI ad ca shX X cX4_longestHidden 8 RX4 (some .int) (gR 2) (some (.int r0)) σ' 10 [(0, .ref 24), (1, .int v1), (2, .int v2), (3, .int v3), (4, .int v4), (5, .int v5)] [] σ) (v1 : Int32) (v2 : Int32) (v3 : Int32) (v4 : Int32) (v5 : Int32)  (σ : gM) (h : fX4_longestHidden_b10 n K10 v1 v2 v3 v4 v5 σ = some (r0, σ')) : g_G l dC dI ad ca shX X cX4_longestHidden 8 RX4 (some .int) (gR 2) (some (.int r0)) σ' 10 [(0, .ref 24), (1, .int v1), (2, .int v2), (3, .int v3), (4, .int v4), (5, .int v5)] [] σ := by
  unfold fX4_longestHidden_b10 at h
  refine g_iload (pc := 10) dX4_longestHidden_10 5 rfl ?_
  refine g_aload_n (pc := 12) dX4_longestHidden_12 rfl 0 rfl ?_
  refine g_getR (pc := 13) wfX4_21 rfl rfl dX4_longestHidden_13 ?_
  obtain ⟨r23, σ22, h21, h⟩ := g_bId h
  refine g_callVi (pc := 16) (st := [.int v5]) hE.1 wvX4_127 rfl rfl (kX6_addresses hE σ h21) rfl (gR_ok (by decide) (by decide)) (Nat.le_of_ble_eq_true rfl) rfl dX4_longestHidden_16 ?_
  refine g_icmp_ge (pc := 19) (tgt := 100) dX4_longestHidden_19 (by decide) (fun c24 => ?_) (fun c24 => ?_)
  · have h := g_ift c24 h
    refine g_iload_n (pc := 100) dX4_longestHidden_100 rfl 1 rfl ?_
    refine g_if_ne (pc := 101) (tgt := 108) dX4_longestHidden_101 (by decide) (fun c25 => ?_) (fun c25 => ?_)
    · have h := g_iff c25 h
      refine g_iload_n (pc := 108) dX4_longestHidden_108 rfl 3 rfl ?_
      cases h
      exact g_iret (pc := 109) rfl rfl rfl rfl dX4_longestHidden_109
    · have h := g_ift c25 h
      refine g_iload_n (pc := 104) dX4_longestHidden_104 rfl 2 rfl ?_
      refine g_goto (pc := 105) (tgt := 109) dX4_longestHidden_105 (by decide) ?_
      cases h
      exact g_iret (pc := 109) rfl rfl rfl rfl dX4_longestHidden_109
  · have h := g_iff c24 h
    refine g_aload_n (pc := 22) dX4_longestHidden_22 rfl 0 rfl ?_
    refine g_getR (pc := 23) wfX4_21 rfl rfl dX4_longestHidden_23 ?_
    refine g_iload (pc := 26) dX4_longestHidden_26 5 rfl ?_
    obtain ⟨r28, σ27, h26, h⟩ := g_bId h
    refine g_callVi (pc := 28) (st := []) hE.1 wvX4_28 rfl rfl (kX6_stripeOf hE v5 σ22 h26) rfl (gR_ok (by decide) (by decide)) (Nat.le_of_ble_eq_true rfl) rfl dX4_longestHidden_28 ?_
    refine g_istore (pc := 31) (lv1 := [(6, .int r28), (0, .ref 24), (1, .int v1), (2, .int v2), (3, .int v3), (4, .int v4), (5, .int v5)]) dX4_longestHidden_31 (by decide) rfl ?_
    refine g_aload_n (pc := 33) dX4_longestHidden_33 rfl 1 rfl ?_
    refine g_getR (pc := 34) wfX4_9 rfl rfl dX4_longestHidden_34 ?_
    refine g_aload_n (pc := 37) dX4_longestHidden_37 rfl 1 rfl ?_
    refine g_getR (pc := 38) wfX4_21 rfl rfl dX4_longestHidden_38 ?_
    refine g_aload_n (pc := 41) dX4_longestHidden_41 rfl 1 rfl ?_
    refine g_getR (pc := 42) wfX4_21 rfl rfl dX4_longestHidden_42 ?_
    refine g_iload (pc := 45) dX4_longestHidden_45 6 rfl ?_
    obtain ⟨r31, σ30, h29, h⟩ := g_bId h
    refine g_callVi (pc := 47) (st := [.ref 5, .ref (9 + 5 * 0)]) hE.1 wvX4_22 rfl rfl (kX6_partOf hE v5 σ27 h29) rfl (gR_ok (by decide) (by decide)) (Nat.le_of_ble_eq_true rfl) rfl dX4_longestHidden_47 ?_
    refine g_iload (pc := 50) dX4_longestHidden_50 0 rfl ?_
    obtain ⟨r34, σ33, h32, h⟩ := g_bId h
    refine g_callVi (pc := 52) (st := [.ref (9 + 5 * 0)]) hE.1 wvX4_82 rfl rfl (kX6_diskOf hE r31 r28 σ30 h32) rfl (gR_ok (by decide) (by decide)) (Nat.le_of_ble_eq_true rfl) rfl dX4_longestHidden_52 ?_
    refine g_iload (pc := 55) dX4_longestHidden_55 0 rfl ?_
    obtain ⟨r37, σ36, h35, h⟩ := g_bId h
    refine g_callVi (pc := 57) (st := []) hE.1 wvX4_111 (sX_shelf (i := 0) (by decide)) rfl (kX8_isThere hE 0 (by decide) r34 r28 σ33 h35) rfl (gR_ok (by decide) (by decide)) (Nat.le_of_ble_eq_true rfl) rfl dX4_longestHidden_57 ?_
    refine g_istore (pc := 60) (lv1 := [(7, .int r37), (6, .int r28), (0, .ref 24), (1, .int v1), (2, .int v2), (3, .int v3), (4, .int v4), (5, .int v5)]) dX4_longestHidden_60 (by decide) rfl ?_
    refine g_iload (pc := 62) dX4_longestHidden_62 0 rfl ?_
    refine g_if_eq (pc := 64) (tgt := 71) dX4_longestHidden_64 (by decide) (fun c38 => ?_) (fun c38 => ?_)
    · have h := g_ift c38 h
      refine g_iload (pc := 71) dX4_longestHidden_71 6 rfl ?_
      refine g_iconst (pc := 73) (v := 1) dX4_longestHidden_73 (by decide) ?_
      refine g_iadd (pc := 74) dX4_longestHidden_74 ?_
      exact g_lv [2, 3, 4, 5, 7] rfl (tX4_longestHidden_b75 hE n K10 hK10 v1 v2 v3 v5 (v4 + 1) σ36 h)
    · have h := g_iff c38 h
      refine g_iconst (pc := 67) (v := 0) dX4_longestHidden_67 (by decide) ?_
      refine g_goto (pc := 68) (tgt := 75) dX4_longestHidden_68 (by decide) ?_
      exact g_lv [2, 3, 4, 5, 7] rfl (tX4_longestHidden_b75 hE n K10 hK10 v1 v2 v3 v5 0 σ36 h)
def fX4_longestHidden_L10 (n : Nat) : Nat → Int32 → Int32 → Int32 → Int32 → Int32 → gM → Option (Int32 × gM)
  | 0 => fun _ _ _ _ _ _ => none
  | k + 1 => fX4_longestHidden_b10 n (fX4_longestHidden_L10 n k)
theorem tX4_longestHidden_L10 (hE : gEX l dC dI ad ca X) {r0 : Int32} {σ' : gM} (n : Nat)  : ∀ (k : Nat) (v1 : Int32) (v2 : Int32) (v3 : Int32) (v4 : Int32) (v5 : Int32) (σ : gM), fX4_longestHidden_L10 n k v1 v2 v3 v4 v5 σ = some (r0, σ') → g_G l dC dI ad ca shX X cX4_longestHidden 8 RX4 (some .int) (gR 2) (some (.int r0)) σ' 10 [(0, .ref 24), (1, .int v1), (2, .int v2), (3, .int v3), (4, .int v4), (5, .int v5)] [] σ := by
  intro k
  induction k with
  | zero => intro v1 v2 v3 v4 v5 σ h; cases h
  | succ k ih => intro v1 v2 v3 v4 v5 σ h; exact tX4_longestHidden_b10 hE n (fX4_longestHidden_L10 n k) ih v1 v2 v3 v4 v5 σ h
def fX4_longestHidden (n : Nat) (v1 : Int32) (σ : gM) : Option (Int32 × gM) := fX4_longestHidden_L10 n n v1 0 (-1) 0 0 σ
set_option maxRecDepth 100000 in
theorem kX4_longestHidden (hE : gEX l dC dI ad ca X) (n : Nat)  (v1 : Int32) (σ : gM) {r0 : Int32} {σ' : gM} (h : fX4_longestHidden n v1 σ = some (r0, σ')) : g_C l dC dI ad ca shX X yX4_longestHidden cX4_longestHidden 8 (some .int) (gR 2) [.ref 24, .int v1] σ (some (.int r0)) σ' := by
  refine g_entry (by decide +kernel) (Nat.le_of_ble_eq_true rfl) ?_
  refine g_lvE (lv1 := [(0, .ref 24), (1, .int v1)]) rfl ?_
  unfold fX4_longestHidden at h
  refine g_iconst (pc := 0) (v := 0) dX4_longestHidden_0 (by decide) ?_
  refine g_istore_n (pc := 1) (lv1 := [(2, .int 0), (0, .ref 24), (1, .int v1)]) dX4_longestHidden_1 rfl (by decide) rfl ?_
  refine g_iconst (pc := 2) (v := (-1)) dX4_longestHidden_2 (by decide) ?_
  refine g_istore_n (pc := 3) (lv1 := [(3, .int (-1)), (2, .int 0), (0, .ref 24), (1, .int v1)]) dX4_longestHidden_3 rfl (by decide) rfl ?_
  refine g_iconst (pc := 4) (v := 0) dX4_longestHidden_4 (by decide) ?_
  refine g_istore (pc := 5) (lv1 := [(4, .int 0), (3, .int (-1)), (2, .int 0), (0, .ref 24), (1, .int v1)]) dX4_longestHidden_5 (by decide) rfl ?_
  refine g_iconst (pc := 7) (v := 0) dX4_longestHidden_7 (by decide) ?_
  refine g_istore (pc := 8) (lv1 := [(5, .int 0), (4, .int 0), (3, .int (-1)), (2, .int 0), (0, .ref 24), (1, .int v1)]) dX4_longestHidden_8 (by decide) rfl ?_
  exact g_lv [4, 5, 3, 2, 1, 0] rfl (tX4_longestHidden_L10 hE n n v1 0 (-1) 0 0 σ h)
def fX4_votesFor_b141 (n : Nat) (K36 : Int32 → Int32 → Int32 → Int32 → Int32 → Int32 → Int32 → gM → Option (Int32 × gM)) (K54 : Int32 → Int32 → Int32 → Int32 → Int32 → Int32 → Int32 → Int32 → gM → Option (Int32 × gM)) (v1 : Int32) (v2 : Int32) (v3 : Int32) (v4 : Int32) (v5 : Int32) (v6 : Int32) (v7 : Int32) (v8 : Int32) (σ : gM) : Option (Int32 × gM) := K54 v1 v2 v3 v4 v5 v6 v7 (v8 + 1) σ
set_option maxRecDepth 100000 in
theorem tX4_votesFor_b141 (hE : gEX l dC dI ad ca X) {r0 : Int32} {σ' : gM} (n : Nat) (K36 : Int32 → Int32 → Int32 → Int32 → Int32 → Int32 → Int32 → gM → Option (Int32 × gM)) (hK36 : ∀ (v1 : Int32) (v2 : Int32) (v3 : Int32) (v4 : Int32) (v5 : Int32) (v6 : Int32) (v7 : Int32) (σ : gM), K36 v1 v2 v3 v4 v5 v6 v7 σ = some (r0, σ') → g_G l dC dI ad ca shX X cX4_votesFor 10 RX4 (some .int) (gR 4) (some (.int r0)) σ' 36 [(0, .ref 24), (1, .int v1), (2, .int v2), (3, .int v3), (4, .int v4), (5, .int v5), (6, .int v6), (7, .int v7)] [] σ) (K54 : Int32 → Int32 → Int32 → Int32 → Int32 → Int32 → Int32 → Int32 → gM → Option (Int32 × gM)) (hK54 : ∀ (v1 : Int32) (v2 : Int32) (v3 : Int32) (v4 : Int32) (v5 : Int32) (v6 : Int32) (v7 : Int32) (v8 : Int32) (σ : gM), K54 v1 v2 v3 v4 v5 v6 v7 v8 σ = some (r0, σ') → g_G l dC dI ad ca shX X cX4_votesFor 10 RX4 (some .int) (gR 4) (some (.int r0)) σ' 54 [(0, .ref 24), (1, .int v1), (2, .int v2), (3, .int v3), (4, .int v4), (5, .int v5), (6, .int v6), (7, .int v7), (8, .int v8)] [] σ) (v1 : Int32) (v2 : Int32) (v3 : Int32) (v4 : Int32) (v5 : Int32) (v6 : Int32) (v7 : Int32) (v8 : Int32)  (σ : gM) (h : fX4_votesFor_b141 n K36 K54 v1 v2 v3 v4 v5 v6 v7 v8 σ = some (r0, σ')) : g_G l dC dI ad ca shX X cX4_votesFor 10 RX4 (some .int) (gR 4) (some (.int r0)) σ' 141 [(0, .ref 24), (1, .int v1), (2, .int v2), (3, .int v3), (4, .int v4), (5, .int v5), (6, .int v6), (7, .int v7), (8, .int v8)] [] σ := by
  unfold fX4_votesFor_b141 at h
  refine g_iinc (pc := 141) (v := v8 + 1) (lv1 := [(8, .int (v8 + 1)), (0, .ref 24), (1, .int v1), (2, .int v2), (3, .int v3), (4, .int v4), (5, .int v5), (6, .int v6), (7, .int v7)]) dX4_votesFor_141 8 rfl rfl (by decide) rfl ?_
  refine g_goto (pc := 144) (tgt := 54) dX4_votesFor_144 (by decide) ?_
  exact g_lv [1, 2, 3, 4, 5, 6, 7, 8, 0] rfl (hK54 v1 v2 v3 v4 v5 v6 v7 (v8 + 1) σ h)
def fX4_votesFor_b138 (n : Nat) (K36 : Int32 → Int32 → Int32 → Int32 → Int32 → Int32 → Int32 → gM → Option (Int32 × gM)) (K54 : Int32 → Int32 → Int32 → Int32 → Int32 → Int32 → Int32 → Int32 → gM → Option (Int32 × gM)) (v1 : Int32) (v2 : Int32) (v3 : Int32) (v4 : Int32) (v5 : Int32) (v7 : Int32) (v8 : Int32) (s0 : Int32) (s1 : Int32) (σ : gM) : Option (Int32 × gM) := fX4_votesFor_b141 n K36 K54 v1 v2 v3 v4 v5 (s1 + s0) v7 v8 σ
set_option maxRecDepth 100000 in
theorem tX4_votesFor_b138 (hE : gEX l dC dI ad ca X) {r0 : Int32} {σ' : gM} (n : Nat) (K36 : Int32 → Int32 → Int32 → Int32 → Int32 → Int32 → Int32 → gM → Option (Int32 × gM)) (hK36 : ∀ (v1 : Int32) (v2 : Int32) (v3 : Int32) (v4 : Int32) (v5 : Int32) (v6 : Int32) (v7 : Int32) (σ : gM), K36 v1 v2 v3 v4 v5 v6 v7 σ = some (r0, σ') → g_G l dC dI ad ca shX X cX4_votesFor 10 RX4 (some .int) (gR 4) (some (.int r0)) σ' 36 [(0, .ref 24), (1, .int v1), (2, .int v2), (3, .int v3), (4, .int v4), (5, .int v5), (6, .int v6), (7, .int v7)] [] σ) (K54 : Int32 → Int32 → Int32 → Int32 → Int32 → Int32 → Int32 → Int32 → gM → Option (Int32 × gM)) (hK54 : ∀ (v1 : Int32) (v2 : Int32) (v3 : Int32) (v4 : Int32) (v5 : Int32) (v6 : Int32) (v7 : Int32) (v8 : Int32) (σ : gM), K54 v1 v2 v3 v4 v5 v6 v7 v8 σ = some (r0, σ') → g_G l dC dI ad ca shX X cX4_votesFor 10 RX4 (some .int) (gR 4) (some (.int r0)) σ' 54 [(0, .ref 24), (1, .int v1), (2, .int v2), (3, .int v3), (4, .int v4), (5, .int v5), (6, .int v6), (7, .int v7), (8, .int v8)] [] σ) (v1 : Int32) (v2 : Int32) (v3 : Int32) (v4 : Int32) (v5 : Int32) (v7 : Int32) (v8 : Int32) (s0 : Int32) (s1 : Int32)  (σ : gM) (h : fX4_votesFor_b138 n K36 K54 v1 v2 v3 v4 v5 v7 v8 s0 s1 σ = some (r0, σ')) : g_G l dC dI ad ca shX X cX4_votesFor 10 RX4 (some .int) (gR 4) (some (.int r0)) σ' 138 [(0, .ref 24), (1, .int v1), (2, .int v2), (3, .int v3), (4, .int v4), (5, .int v5), (7, .int v7), (8, .int v8)] [.int s0, .int s1] σ := by
  unfold fX4_votesFor_b138 at h
  refine g_iadd (pc := 138) dX4_votesFor_138 ?_
  refine g_istore (pc := 139) (lv1 := [(6, .int (s1 + s0)), (0, .ref 24), (1, .int v1), (2, .int v2), (3, .int v3), (4, .int v4), (5, .int v5), (7, .int v7), (8, .int v8)]) dX4_votesFor_139 (by decide) rfl ?_
  exact g_lv [1, 2, 3, 4, 5, 6, 0, 7, 8] rfl (tX4_votesFor_b141 hE n K36 hK36 K54 hK54 v1 v2 v3 v4 v5 (s1 + s0) v7 v8 σ h)
def fX4_votesFor_b54 (n : Nat) (K36 : Int32 → Int32 → Int32 → Int32 → Int32 → Int32 → Int32 → gM → Option (Int32 × gM)) (K54 : Int32 → Int32 → Int32 → Int32 → Int32 → Int32 → Int32 → Int32 → gM → Option (Int32 × gM)) (v1 : Int32) (v2 : Int32) (v3 : Int32) (v4 : Int32) (v5 : Int32) (v6 : Int32) (v7 : Int32) (v8 : Int32) (σ : gM) : Option (Int32 × gM) := if (σ.1 5 5) ≤ v8 then (K36 v1 v2 v3 v4 v5 v6 (v7 + 1) σ) else (if (v5 &&& (((1 <<< (v7 &&& 31)) ||| (1 <<< (v8 &&& 31))) ^^^ (-1))) = 0 then (g_bI (fX6_byteOf v1 σ) (fun r26 σ25 => g_bV (fX5_gather n 0 0 v4 r26 ((1 <<< (v7 &&& 31)) ||| (1 <<< (v8 &&& 31))) σ25) (fun σ28 => g_bI (fX5_get 0 v3 σ28) (fun r31 σ30 => if r31 = v2 then (fX4_votesFor_b138 n K36 K54 v1 v2 v3 v4 v5 v7 v8 1 v6 σ30) else (fX4_votesFor_b138 n K36 K54 v1 v2 v3 v4 v5 v7 v8 0 v6 σ30))))) else (fX4_votesFor_b141 n K36 K54 v1 v2 v3 v4 v5 v6 v7 v8 σ))
set_option maxRecDepth 100000 in
theorem tX4_votesFor_b54 (hE : gEX l dC dI ad ca X) {r0 : Int32} {σ' : gM} (n : Nat) (K36 : Int32 → Int32 → Int32 → Int32 → Int32 → Int32 → Int32 → gM → Option (Int32 × gM)) (hK36 : ∀ (v1 : Int32) (v2 : Int32) (v3 : Int32) (v4 : Int32) (v5 : Int32) (v6 : Int32) (v7 : Int32) (σ : gM), K36 v1 v2 v3 v4 v5 v6 v7 σ = some (r0, σ') → g_G l dC dI ad ca shX X cX4_votesFor 10 RX4 (some .int) (gR 4) (some (.int r0)) σ' 36 [(0, .ref 24), (1, .int v1), (2, .int v2), (3, .int v3), (4, .int v4), (5, .int v5), (6, .int v6), (7, .int v7)] [] σ) (K54 : Int32 → Int32 → Int32 → Int32 → Int32 → Int32 → Int32 → Int32 → gM → Option (Int32 × gM)) (hK54 : ∀ (v1 : Int32) (v2 : Int32) (v3 : Int32) (v4 : Int32) (v5 : Int32) (v6 : Int32) (v7 : Int32) (v8 : Int32) (σ : gM), K54 v1 v2 v3 v4 v5 v6 v7 v8 σ = some (r0, σ') → g_G l dC dI ad ca shX X cX4_votesFor 10 RX4 (some .int) (gR 4) (some (.int r0)) σ' 54 [(0, .ref 24), (1, .int v1), (2, .int v2), (3, .int v3), (4, .int v4), (5, .int v5), (6, .int v6), (7, .int v7), (8, .int v8)] [] σ) (v1 : Int32) (v2 : Int32) (v3 : Int32) (v4 : Int32) (v5 : Int32) (v6 : Int32) (v7 : Int32) (v8 : Int32)  (σ : gM) (h : fX4_votesFor_b54 n K36 K54 v1 v2 v3 v4 v5 v6 v7 v8 σ = some (r0, σ')) : g_G l dC dI ad ca shX X cX4_votesFor 10 RX4 (some .int) (gR 4) (some (.int r0)) σ' 54 [(0, .ref 24), (1, .int v1), (2, .int v2), (3, .int v3), (4, .int v4), (5, .int v5), (6, .int v6), (7, .int v7), (8, .int v8)] [] σ := by
  unfold fX4_votesFor_b54 at h
  refine g_iload (pc := 54) dX4_votesFor_54 8 rfl ?_
  refine g_aload_n (pc := 56) dX4_votesFor_56 rfl 0 rfl ?_
  refine g_getR (pc := 57) wfX4_21 rfl rfl dX4_votesFor_57 ?_
  refine g_getI (pc := 60) wfX4_85 rfl rfl dX4_votesFor_60 ?_
  refine g_icmp_ge (pc := 63) (tgt := 147) dX4_votesFor_63 (by decide) (fun c22 => ?_) (fun c22 => ?_)
  · have h := g_ift c22 h
    refine g_iinc (pc := 147) (v := v7 + 1) (lv1 := [(7, .int (v7 + 1)), (0, .ref 24), (1, .int v1), (2, .int v2), (3, .int v3), (4, .int v4), (5, .int v5), (6, .int v6), (8, .int v8)]) dX4_votesFor_147 7 rfl rfl (by decide) rfl ?_
    refine g_goto (pc := 150) (tgt := 36) dX4_votesFor_150 (by decide) ?_
    exact g_lv [1, 2, 3, 4, 5, 6, 7, 0] rfl (hK36 v1 v2 v3 v4 v5 v6 (v7 + 1) σ h)
  · have h := g_iff c22 h
    refine g_iconst (pc := 66) (v := 1) dX4_votesFor_66 (by decide) ?_
    refine g_iload (pc := 67) dX4_votesFor_67 7 rfl ?_
    refine g_ishl (pc := 69) dX4_votesFor_69 ?_
    refine g_iconst (pc := 70) (v := 1) dX4_votesFor_70 (by decide) ?_
    refine g_iload (pc := 71) dX4_votesFor_71 8 rfl ?_
    refine g_ishl (pc := 73) dX4_votesFor_73 ?_
    refine g_ior (pc := 74) dX4_votesFor_74 ?_
    refine g_istore (pc := 75) (lv1 := [(9, .int ((1 <<< (v7 &&& 31)) ||| (1 <<< (v8 &&& 31)))), (0, .ref 24), (1, .int v1), (2, .int v2), (3, .int v3), (4, .int v4), (5, .int v5), (6, .int v6), (7, .int v7), (8, .int v8)]) dX4_votesFor_75 (by decide) rfl ?_
    refine g_iload (pc := 77) dX4_votesFor_77 6 rfl ?_
    refine g_iload (pc := 79) dX4_votesFor_79 0 rfl ?_
    refine g_iconst (pc := 81) (v := (-1)) dX4_votesFor_81 (by decide) ?_
    refine g_ixor (pc := 82) dX4_votesFor_82 ?_
    refine g_iand (pc := 83) dX4_votesFor_83 ?_
    refine g_if_ne (pc := 84) (tgt := 141) dX4_votesFor_84 (by decide) (fun c23 => ?_) (fun c23 => ?_)
    · have h := g_iff c23 h
      exact g_lv [1, 2, 3, 4, 5, 6, 7, 8, 9] rfl (tX4_votesFor_b141 hE n K36 hK36 K54 hK54 v1 v2 v3 v4 v5 v6 v7 v8 σ h)
    · have h := g_ift c23 h
      refine g_aload_n (pc := 87) dX4_votesFor_87 rfl 1 rfl ?_
      refine g_getR (pc := 88) wfX4_9 rfl rfl dX4_votesFor_88 ?_
      refine g_getR (pc := 91) wfX4_54 (sX_shelf (i := 0) (by decide)) rfl dX4_votesFor_91 ?_
      refine g_aload_n (pc := 94) dX4_votesFor_94 rfl 1 rfl ?_
      refine g_getR (pc := 95) wfX4_9 rfl rfl dX4_votesFor_95 ?_
      refine g_getR (pc := 98) wfX4_58 (sX_shelf (i := 0) (by decide)) rfl dX4_votesFor_98 ?_
      refine g_iload (pc := 101) dX4_votesFor_101 5 rfl ?_
      refine g_aload_n (pc := 103) dX4_votesFor_103 rfl 1 rfl ?_
      refine g_getR (pc := 104) wfX4_21 rfl rfl dX4_votesFor_104 ?_
      refine g_iload_n (pc := 107) dX4_votesFor_107 rfl 2 rfl ?_
      obtain ⟨r26, σ25, h24, h⟩ := g_bId h
      refine g_callVi (pc := 108) (st := [.int v4, .ref (10 + 5 * 0), .ref (12 + 5 * 0)]) hE.1 wvX4_130 rfl rfl (kX6_byteOf hE v1 σ h24) rfl (gR_ok (by decide) (by decide)) (Nat.le_of_ble_eq_true rfl) rfl dX4_votesFor_108 ?_
      refine g_iload (pc := 111) dX4_votesFor_111 0 rfl ?_
      obtain ⟨σ28, h27, h⟩ := g_bVd h
      refine g_callVv (pc := 113) (st := []) hE.1 wvX4_62 (sX_row (i := 0) (by decide)) rfl (kX5_gather hE n 0 (by decide) 0 (by decide) v4 r26 ((1 <<< (v7 &&& 31)) ||| (1 <<< (v8 &&& 31))) σ25 h27) rfl (gR_ok (by decide) (by decide)) (Nat.le_of_ble_eq_true rfl) rfl dX4_votesFor_113 ?_
      refine g_iload (pc := 116) dX4_votesFor_116 7 rfl ?_
      refine g_aload_n (pc := 118) dX4_votesFor_118 rfl 1 rfl ?_
      refine g_getR (pc := 119) wfX4_9 rfl rfl dX4_votesFor_119 ?_
      refine g_getR (pc := 122) wfX4_54 (sX_shelf (i := 0) (by decide)) rfl dX4_votesFor_122 ?_
      refine g_iload_n (pc := 125) dX4_votesFor_125 rfl 4 rfl ?_
      obtain ⟨r31, σ30, h29, h⟩ := g_bId h
      refine g_callVi (pc := 126) (st := [.int v6]) hE.1 wvX4_68 (sX_row (i := 0) (by decide)) rfl (kX5_get hE 0 (by decide) v3 σ28 h29) rfl (gR_ok (by decide) (by decide)) (Nat.le_of_ble_eq_true rfl) rfl dX4_votesFor_126 ?_
      refine g_iload_n (pc := 129) dX4_votesFor_129 rfl 3 rfl ?_
      refine g_icmp_ne (pc := 130) (tgt := 137) dX4_votesFor_130 (by decide) (fun c32 => ?_) (fun c32 => ?_)
      · have h := g_iff c32 h
        refine g_iconst (pc := 137) (v := 0) dX4_votesFor_137 (by decide) ?_
        exact g_lv [1, 2, 3, 4, 5, 6, 8, 9] rfl (tX4_votesFor_b138 hE n K36 hK36 K54 hK54 v1 v2 v3 v4 v5 v7 v8 0 v6 σ30 h)
      · have h := g_ift c32 h
        refine g_iconst (pc := 133) (v := 1) dX4_votesFor_133 (by decide) ?_
        refine g_goto (pc := 134) (tgt := 138) dX4_votesFor_134 (by decide) ?_
        exact g_lv [1, 2, 3, 4, 5, 6, 8, 9] rfl (tX4_votesFor_b138 hE n K36 hK36 K54 hK54 v1 v2 v3 v4 v5 v7 v8 1 v6 σ30 h)
def fX4_votesFor_L54 (n : Nat) (K36 : Int32 → Int32 → Int32 → Int32 → Int32 → Int32 → Int32 → gM → Option (Int32 × gM)) : Nat → Int32 → Int32 → Int32 → Int32 → Int32 → Int32 → Int32 → Int32 → gM → Option (Int32 × gM)
  | 0 => fun _ _ _ _ _ _ _ _ _ => none
  | k + 1 => fX4_votesFor_b54 n K36 (fX4_votesFor_L54 n K36 k)
theorem tX4_votesFor_L54 (hE : gEX l dC dI ad ca X) {r0 : Int32} {σ' : gM} (n : Nat) (K36 : Int32 → Int32 → Int32 → Int32 → Int32 → Int32 → Int32 → gM → Option (Int32 × gM)) (hK36 : ∀ (v1 : Int32) (v2 : Int32) (v3 : Int32) (v4 : Int32) (v5 : Int32) (v6 : Int32) (v7 : Int32) (σ : gM), K36 v1 v2 v3 v4 v5 v6 v7 σ = some (r0, σ') → g_G l dC dI ad ca shX X cX4_votesFor 10 RX4 (some .int) (gR 4) (some (.int r0)) σ' 36 [(0, .ref 24), (1, .int v1), (2, .int v2), (3, .int v3), (4, .int v4), (5, .int v5), (6, .int v6), (7, .int v7)] [] σ)  : ∀ (k : Nat) (v1 : Int32) (v2 : Int32) (v3 : Int32) (v4 : Int32) (v5 : Int32) (v6 : Int32) (v7 : Int32) (v8 : Int32) (σ : gM), fX4_votesFor_L54 n K36 k v1 v2 v3 v4 v5 v6 v7 v8 σ = some (r0, σ') → g_G l dC dI ad ca shX X cX4_votesFor 10 RX4 (some .int) (gR 4) (some (.int r0)) σ' 54 [(0, .ref 24), (1, .int v1), (2, .int v2), (3, .int v3), (4, .int v4), (5, .int v5), (6, .int v6), (7, .int v7), (8, .int v8)] [] σ := by
  intro k
  induction k with
  | zero => intro v1 v2 v3 v4 v5 v6 v7 v8 σ h; cases h
  | succ k ih => intro v1 v2 v3 v4 v5 v6 v7 v8 σ h; exact tX4_votesFor_b54 hE n K36 hK36 (fX4_votesFor_L54 n K36 k) ih v1 v2 v3 v4 v5 v6 v7 v8 σ h
def fX4_votesFor_b36 (n : Nat) (K36 : Int32 → Int32 → Int32 → Int32 → Int32 → Int32 → Int32 → gM → Option (Int32 × gM)) (v1 : Int32) (v2 : Int32) (v3 : Int32) (v4 : Int32) (v5 : Int32) (v6 : Int32) (v7 : Int32) (σ : gM) : Option (Int32 × gM) := if (σ.1 5 5) ≤ v7 then (some (v6, σ)) else (fX4_votesFor_L54 n K36 n v1 v2 v3 v4 v5 v6 v7 (v7 + 1) σ)
set_option maxRecDepth 100000 in
theorem tX4_votesFor_b36 (hE : gEX l dC dI ad ca X) {r0 : Int32} {σ' : gM} (n : Nat) (K36 : Int32 → Int32 → Int32 → Int32 → Int32 → Int32 → Int32 → gM → Option (Int32 × gM)) (hK36 : ∀ (v1 : Int32) (v2 : Int32) (v3 : Int32) (v4 : Int32) (v5 : Int32) (v6 : Int32) (v7 : Int32) (σ : gM), K36 v1 v2 v3 v4 v5 v6 v7 σ = some (r0, σ') → g_G l dC dI ad ca shX X cX4_votesFor 10 RX4 (some .int) (gR 4) (some (.int r0)) σ' 36 [(0, .ref 24), (1, .int v1), (2, .int v2), (3, .int v3), (4, .int v4), (5, .int v5), (6, .int v6), (7, .int v7)] [] σ) (v1 : Int32) (v2 : Int32) (v3 : Int32) (v4 : Int32) (v5 : Int32) (v6 : Int32) (v7 : Int32)  (σ : gM) (h : fX4_votesFor_b36 n K36 v1 v2 v3 v4 v5 v6 v7 σ = some (r0, σ')) : g_G l dC dI ad ca shX X cX4_votesFor 10 RX4 (some .int) (gR 4) (some (.int r0)) σ' 36 [(0, .ref 24), (1, .int v1), (2, .int v2), (3, .int v3), (4, .int v4), (5, .int v5), (6, .int v6), (7, .int v7)] [] σ := by
  unfold fX4_votesFor_b36 at h
  refine g_iload (pc := 36) dX4_votesFor_36 7 rfl ?_
  refine g_aload_n (pc := 38) dX4_votesFor_38 rfl 0 rfl ?_
  refine g_getR (pc := 39) wfX4_21 rfl rfl dX4_votesFor_39 ?_
  refine g_getI (pc := 42) wfX4_85 rfl rfl dX4_votesFor_42 ?_
  refine g_icmp_ge (pc := 45) (tgt := 153) dX4_votesFor_45 (by decide) (fun c33 => ?_) (fun c33 => ?_)
  · have h := g_ift c33 h
    refine g_iload (pc := 153) dX4_votesFor_153 6 rfl ?_
    cases h
    exact g_iret (pc := 155) rfl rfl rfl rfl dX4_votesFor_155
  · have h := g_iff c33 h
    refine g_iload (pc := 48) dX4_votesFor_48 7 rfl ?_
    refine g_iconst (pc := 50) (v := 1) dX4_votesFor_50 (by decide) ?_
    refine g_iadd (pc := 51) dX4_votesFor_51 ?_
    refine g_istore (pc := 52) (lv1 := [(8, .int (v7 + 1)), (0, .ref 24), (1, .int v1), (2, .int v2), (3, .int v3), (4, .int v4), (5, .int v5), (6, .int v6), (7, .int v7)]) dX4_votesFor_52 (by decide) rfl ?_
    exact g_lv [1, 2, 3, 4, 5, 6, 7, 8, 0] rfl (tX4_votesFor_L54 hE n K36 hK36 n v1 v2 v3 v4 v5 v6 v7 (v7 + 1) σ h)
def fX4_votesFor_L36 (n : Nat) : Nat → Int32 → Int32 → Int32 → Int32 → Int32 → Int32 → Int32 → gM → Option (Int32 × gM)
  | 0 => fun _ _ _ _ _ _ _ _ => none
  | k + 1 => fX4_votesFor_b36 n (fX4_votesFor_L36 n k)
theorem tX4_votesFor_L36 (hE : gEX l dC dI ad ca X) {r0 : Int32} {σ' : gM} (n : Nat)  : ∀ (k : Nat) (v1 : Int32) (v2 : Int32) (v3 : Int32) (v4 : Int32) (v5 : Int32) (v6 : Int32) (v7 : Int32) (σ : gM), fX4_votesFor_L36 n k v1 v2 v3 v4 v5 v6 v7 σ = some (r0, σ') → g_G l dC dI ad ca shX X cX4_votesFor 10 RX4 (some .int) (gR 4) (some (.int r0)) σ' 36 [(0, .ref 24), (1, .int v1), (2, .int v2), (3, .int v3), (4, .int v4), (5, .int v5), (6, .int v6), (7, .int v7)] [] σ := by
  intro k
  induction k with
  | zero => intro v1 v2 v3 v4 v5 v6 v7 σ h; cases h
  | succ k ih => intro v1 v2 v3 v4 v5 v6 v7 σ h; exact tX4_votesFor_b36 hE n (fX4_votesFor_L36 n k) ih v1 v2 v3 v4 v5 v6 v7 σ h
def fX4_votesFor (n : Nat) (v1 : Int32) (v2 : Int32) (σ : gM) : Option (Int32 × gM) := g_bI (fX6_partOf v1 σ) (fun r36 σ35 => g_bI (fX6_stripeOf v1 σ35) (fun r39 σ38 => g_bI (fX8_missing n 0 r39 σ38) (fun r42 σ41 => fX4_votesFor_L36 n n v1 v2 r36 r39 r42 0 0 σ41)))
set_option maxRecDepth 100000 in
theorem kX4_votesFor (hE : gEX l dC dI ad ca X) (n : Nat)  (v1 : Int32) (v2 : Int32) (σ : gM) {r0 : Int32} {σ' : gM} (h : fX4_votesFor n v1 v2 σ = some (r0, σ')) : g_C l dC dI ad ca shX X yX4_votesFor cX4_votesFor 10 (some .int) (gR 4) [.ref 24, .int v1, .int v2] σ (some (.int r0)) σ' := by
  refine g_entry (by decide +kernel) (Nat.le_of_ble_eq_true rfl) ?_
  refine g_lvE (lv1 := [(0, .ref 24), (1, .int v1), (2, .int v2)]) rfl ?_
  unfold fX4_votesFor at h
  refine g_aload_n (pc := 0) dX4_votesFor_0 rfl 0 rfl ?_
  refine g_getR (pc := 1) wfX4_21 rfl rfl dX4_votesFor_1 ?_
  refine g_iload_n (pc := 4) dX4_votesFor_4 rfl 1 rfl ?_
  obtain ⟨r36, σ35, h34, h⟩ := g_bId h
  refine g_callVi (pc := 5) (st := []) hE.1 wvX4_22 rfl rfl (kX6_partOf hE v1 σ h34) rfl (gR_ok (by decide) (by decide)) (Nat.le_of_ble_eq_true rfl) rfl dX4_votesFor_5 ?_
  refine g_istore_n (pc := 8) (lv1 := [(3, .int r36), (0, .ref 24), (1, .int v1), (2, .int v2)]) dX4_votesFor_8 rfl (by decide) rfl ?_
  refine g_aload_n (pc := 9) dX4_votesFor_9 rfl 1 rfl ?_
  refine g_getR (pc := 10) wfX4_21 rfl rfl dX4_votesFor_10 ?_
  refine g_iload_n (pc := 13) dX4_votesFor_13 rfl 2 rfl ?_
  obtain ⟨r39, σ38, h37, h⟩ := g_bId h
  refine g_callVi (pc := 14) (st := []) hE.1 wvX4_28 rfl rfl (kX6_stripeOf hE v1 σ35 h37) rfl (gR_ok (by decide) (by decide)) (Nat.le_of_ble_eq_true rfl) rfl dX4_votesFor_14 ?_
  refine g_istore (pc := 17) (lv1 := [(4, .int r39), (3, .int r36), (0, .ref 24), (1, .int v1), (2, .int v2)]) dX4_votesFor_17 (by decide) rfl ?_
  refine g_aload_n (pc := 19) dX4_votesFor_19 rfl 2 rfl ?_
  refine g_getR (pc := 20) wfX4_9 rfl rfl dX4_votesFor_20 ?_
  refine g_iload (pc := 23) dX4_votesFor_23 0 rfl ?_
  obtain ⟨r42, σ41, h40, h⟩ := g_bId h
  refine g_callVi (pc := 25) (st := []) hE.1 wvX4_31 (sX_shelf (i := 0) (by decide)) rfl (kX8_missing hE n 0 (by decide) r39 σ38 h40) rfl (gR_ok (by decide) (by decide)) (Nat.le_of_ble_eq_true rfl) rfl dX4_votesFor_25 ?_
  refine g_istore (pc := 28) (lv1 := [(5, .int r42), (4, .int r39), (3, .int r36), (0, .ref 24), (1, .int v1), (2, .int v2)]) dX4_votesFor_28 (by decide) rfl ?_
  refine g_iconst (pc := 30) (v := 0) dX4_votesFor_30 (by decide) ?_
  refine g_istore (pc := 31) (lv1 := [(6, .int 0), (5, .int r42), (4, .int r39), (3, .int r36), (0, .ref 24), (1, .int v1), (2, .int v2)]) dX4_votesFor_31 (by decide) rfl ?_
  refine g_iconst (pc := 33) (v := 0) dX4_votesFor_33 (by decide) ?_
  refine g_istore (pc := 34) (lv1 := [(7, .int 0), (6, .int 0), (5, .int r42), (4, .int r39), (3, .int r36), (0, .ref 24), (1, .int v1), (2, .int v2)]) dX4_votesFor_34 (by decide) rfl ?_
  exact g_lv [5, 6, 7, 4, 3, 2, 1, 0] rfl (tX4_votesFor_L36 hE n n v1 v2 r36 r39 r42 0 0 σ41 h)
def fX5_reckonSums (n : Nat) (i : Nat) (σ : gM) : Option (gM) := g_bI (fX5_sumForP n i σ) (fun r13 σ12 => g_bV (fX5_set i (σ.1 5 6) r13 σ12) (fun σ15 => g_bI (fX1_sumByPowers n i (σ15.1 5 0) σ15) (fun r18 σ17 => g_bV (fX5_set i (σ15.1 5 7) r18 σ17) (fun σ20 => some σ20))))
set_option maxRecDepth 100000 in
theorem kX5_reckonSums (hE : gEX l dC dI ad ca X) (n : Nat) (i : Nat) (hi : i < 3)  (σ : gM) {σ' : gM} (h : fX5_reckonSums n i σ = some σ') : g_C l dC dI ad ca shX X yX5_reckonSums cX5_reckonSums 1 none (gR 2) [.ref (12 + 5 * i)] σ none σ' := by
  refine g_entry (by decide +kernel) (Nat.le_of_ble_eq_true rfl) ?_
  refine g_lvE (lv1 := [(0, .ref (12 + 5 * i))]) rfl ?_
  unfold fX5_reckonSums at h
  refine g_aload_n (pc := 0) dX5_reckonSums_0 rfl 0 rfl ?_
  refine g_aload_n (pc := 1) dX5_reckonSums_1 rfl 0 rfl ?_
  refine g_getR (pc := 2) wfX5_17 (sX_row (i := i) hi) rfl dX5_reckonSums_2 ?_
  refine g_getI (pc := 5) wfX5_46 rfl rfl dX5_reckonSums_5 ?_
  refine g_aload_n (pc := 8) dX5_reckonSums_8 rfl 0 rfl ?_
  obtain ⟨r13, σ12, h11, h⟩ := g_bId h
  refine g_callVi (pc := 9) (st := [.int (σ.1 5 6), .ref (12 + 5 * i)]) hE.1 wvX5_53 (sX_row (i := i) hi) rfl (kX5_sumForP hE n i hi σ h11) rfl (gR_ok (by decide) (by decide)) (Nat.le_of_ble_eq_true rfl) rfl dX5_reckonSums_9 ?_
  obtain ⟨σ15, h14, h⟩ := g_bVd h
  refine g_callVv (pc := 12) (st := []) hE.1 wvX5_57 (sX_row (i := i) hi) rfl (kX5_set hE i hi (σ.1 5 6) r13 σ12 h14) rfl (gR_ok (by decide) (by decide)) (Nat.le_of_ble_eq_true rfl) rfl dX5_reckonSums_12 ?_
  refine g_aload_n (pc := 15) dX5_reckonSums_15 rfl 0 rfl ?_
  refine g_aload_n (pc := 16) dX5_reckonSums_16 rfl 0 rfl ?_
  refine g_getR (pc := 17) wfX5_17 (sX_row (i := i) hi) rfl dX5_reckonSums_17 ?_
  refine g_getI (pc := 20) wfX5_61 rfl rfl dX5_reckonSums_20 ?_
  refine g_aload_n (pc := 23) dX5_reckonSums_23 rfl 0 rfl ?_
  refine g_getR (pc := 24) wfX5_21 (sX_row (i := i) hi) rfl dX5_reckonSums_24 ?_
  refine g_aload_n (pc := 27) dX5_reckonSums_27 rfl 0 rfl ?_
  refine g_getR (pc := 28) wfX5_11 (sX_row (i := i) hi) rfl dX5_reckonSums_28 ?_
  refine g_aload_n (pc := 31) dX5_reckonSums_31 rfl 0 rfl ?_
  refine g_getR (pc := 32) wfX5_17 (sX_row (i := i) hi) rfl dX5_reckonSums_32 ?_
  refine g_getI (pc := 35) wfX5_64 rfl rfl dX5_reckonSums_35 ?_
  obtain ⟨r18, σ17, h16, h⟩ := g_bId h
  refine g_callVi (pc := 38) (st := [.int (σ15.1 5 7), .ref (12 + 5 * i)]) hE.1 wvX5_67 rfl rfl (kX1_sumByPowers hE n i hi (σ15.1 5 0) σ15 h16) rfl (gR_ok (by decide) (by decide)) (Nat.le_of_ble_eq_true rfl) rfl dX5_reckonSums_38 ?_
  obtain ⟨σ20, h19, h⟩ := g_bVd h
  refine g_callVv (pc := 41) (st := []) hE.1 wvX5_57 (sX_row (i := i) hi) rfl (kX5_set hE i hi (σ15.1 5 7) r18 σ17 h19) rfl (gR_ok (by decide) (by decide)) (Nat.le_of_ble_eq_true rfl) rfl dX5_reckonSums_41 ?_
  cases h
  exact g_vret (pc := 44) rfl rfl rfl dX5_reckonSums_44
def fX5_change (i : Nat) (v1 : Int32) (v2 : Int32) (σ : gM) : Option (gM) := g_bI (fX5_get i v1 σ) (fun r24 σ23 => g_bV (fX5_set i v1 v2 σ23) (fun σ26 => g_bI (fX5_get i (σ26.1 5 6) σ26) (fun r29 σ28 => g_bV (fX5_set i (σ26.1 5 6) (r29 ^^^ (r24 ^^^ v2)) σ28) (fun σ31 => g_bI (fX5_get i (σ31.1 5 7) σ31) (fun r34 σ33 => g_bI (fX1_powerOfTwo v1 σ33) (fun r37 σ36 => g_bI (fX1_product (r24 ^^^ v2) r37 σ36) (fun r40 σ39 => g_bV (fX5_set i (σ31.1 5 7) (r34 ^^^ r40) σ39) (fun σ42 => some σ42))))))))
set_option maxRecDepth 100000 in
theorem kX5_change (hE : gEX l dC dI ad ca X) (i : Nat) (hi : i < 3)  (v1 : Int32) (v2 : Int32) (σ : gM) {σ' : gM} (h : fX5_change i v1 v2 σ = some σ') : g_C l dC dI ad ca shX X yX5_change cX5_change 4 none (gR 2) [.ref (12 + 5 * i), .int v1, .int v2] σ none σ' := by
  refine g_entry (by decide +kernel) (Nat.le_of_ble_eq_true rfl) ?_
  refine g_lvE (lv1 := [(0, .ref (12 + 5 * i)), (1, .int v1), (2, .int v2)]) rfl ?_
  unfold fX5_change at h
  refine g_aload_n (pc := 0) dX5_change_0 rfl 0 rfl ?_
  refine g_iload_n (pc := 1) dX5_change_1 rfl 1 rfl ?_
  obtain ⟨r24, σ23, h22, h⟩ := g_bId h
  refine g_callVi (pc := 2) (st := []) hE.1 wvX5_85 (sX_row (i := i) hi) rfl (kX5_get hE i hi v1 σ h22) rfl (gR_ok (by decide) (by decide)) (Nat.le_of_ble_eq_true rfl) rfl dX5_change_2 ?_
  refine g_iload_n (pc := 5) dX5_change_5 rfl 2 rfl ?_
  refine g_ixor (pc := 6) dX5_change_6 ?_
  refine g_istore_n (pc := 7) (lv1 := [(3, .int (r24 ^^^ v2)), (0, .ref (12 + 5 * i)), (1, .int v1), (2, .int v2)]) dX5_change_7 rfl (by decide) rfl ?_
  refine g_aload_n (pc := 8) dX5_change_8 rfl 1 rfl ?_
  refine g_iload_n (pc := 9) dX5_change_9 rfl 2 rfl ?_
  refine g_iload_n (pc := 10) dX5_change_10 rfl 3 rfl ?_
  obtain ⟨σ26, h25, h⟩ := g_bVd h
  refine g_callVv (pc := 11) (st := []) hE.1 wvX5_57 (sX_row (i := i) hi) rfl (kX5_set hE i hi v1 v2 σ23 h25) rfl (gR_ok (by decide) (by decide)) (Nat.le_of_ble_eq_true rfl) rfl dX5_change_11 ?_
  refine g_aload_n (pc := 14) dX5_change_14 rfl 1 rfl ?_
  refine g_aload_n (pc := 15) dX5_change_15 rfl 1 rfl ?_
  refine g_getR (pc := 16) wfX5_17 (sX_row (i := i) hi) rfl dX5_change_16 ?_
  refine g_getI (pc := 19) wfX5_46 rfl rfl dX5_change_19 ?_
  refine g_aload_n (pc := 22) dX5_change_22 rfl 1 rfl ?_
  refine g_aload_n (pc := 23) dX5_change_23 rfl 1 rfl ?_
  refine g_getR (pc := 24) wfX5_17 (sX_row (i := i) hi) rfl dX5_change_24 ?_
  refine g_getI (pc := 27) wfX5_46 rfl rfl dX5_change_27 ?_
  obtain ⟨r29, σ28, h27, h⟩ := g_bId h
  refine g_callVi (pc := 30) (st := [.int (σ26.1 5 6), .ref (12 + 5 * i)]) hE.1 wvX5_85 (sX_row (i := i) hi) rfl (kX5_get hE i hi (σ26.1 5 6) σ26 h27) rfl (gR_ok (by decide) (by decide)) (Nat.le_of_ble_eq_true rfl) rfl dX5_change_30 ?_
  refine g_iload_n (pc := 33) dX5_change_33 rfl 0 rfl ?_
  refine g_ixor (pc := 34) dX5_change_34 ?_
  obtain ⟨σ31, h30, h⟩ := g_bVd h
  refine g_callVv (pc := 35) (st := []) hE.1 wvX5_57 (sX_row (i := i) hi) rfl (kX5_set hE i hi (σ26.1 5 6) (r29 ^^^ (r24 ^^^ v2)) σ28 h30) rfl (gR_ok (by decide) (by decide)) (Nat.le_of_ble_eq_true rfl) rfl dX5_change_35 ?_
  refine g_aload_n (pc := 38) dX5_change_38 rfl 1 rfl ?_
  refine g_aload_n (pc := 39) dX5_change_39 rfl 1 rfl ?_
  refine g_getR (pc := 40) wfX5_17 (sX_row (i := i) hi) rfl dX5_change_40 ?_
  refine g_getI (pc := 43) wfX5_61 rfl rfl dX5_change_43 ?_
  refine g_aload_n (pc := 46) dX5_change_46 rfl 1 rfl ?_
  refine g_aload_n (pc := 47) dX5_change_47 rfl 1 rfl ?_
  refine g_getR (pc := 48) wfX5_17 (sX_row (i := i) hi) rfl dX5_change_48 ?_
  refine g_getI (pc := 51) wfX5_61 rfl rfl dX5_change_51 ?_
  obtain ⟨r34, σ33, h32, h⟩ := g_bId h
  refine g_callVi (pc := 54) (st := [.int (σ31.1 5 7), .ref (12 + 5 * i)]) hE.1 wvX5_85 (sX_row (i := i) hi) rfl (kX5_get hE i hi (σ31.1 5 7) σ31 h32) rfl (gR_ok (by decide) (by decide)) (Nat.le_of_ble_eq_true rfl) rfl dX5_change_54 ?_
  refine g_aload_n (pc := 57) dX5_change_57 rfl 1 rfl ?_
  refine g_getR (pc := 58) wfX5_21 (sX_row (i := i) hi) rfl dX5_change_58 ?_
  refine g_iload_n (pc := 61) dX5_change_61 rfl 0 rfl ?_
  refine g_aload_n (pc := 62) dX5_change_62 rfl 1 rfl ?_
  refine g_getR (pc := 63) wfX5_21 (sX_row (i := i) hi) rfl dX5_change_63 ?_
  refine g_iload_n (pc := 66) dX5_change_66 rfl 2 rfl ?_
  obtain ⟨r37, σ36, h35, h⟩ := g_bId h
  refine g_callVi (pc := 67) (st := [.int (r24 ^^^ v2), .ref 6, .int r34, .int (σ31.1 5 7), .ref (12 + 5 * i)]) hE.1 wvX5_82 rfl rfl (kX1_powerOfTwo hE v1 σ33 h35) rfl (gR_ok (by decide) (by decide)) (Nat.le_of_ble_eq_true rfl) rfl dX5_change_67 ?_
  obtain ⟨r40, σ39, h38, h⟩ := g_bId h
  refine g_callVi (pc := 70) (st := [.int r34, .int (σ31.1 5 7), .ref (12 + 5 * i)]) hE.1 wvX5_91 rfl rfl (kX1_product hE (r24 ^^^ v2) r37 σ36 h38) rfl (gR_ok (by decide) (by decide)) (Nat.le_of_ble_eq_true rfl) rfl dX5_change_70 ?_
  refine g_ixor (pc := 73) dX5_change_73 ?_
  obtain ⟨σ42, h41, h⟩ := g_bVd h
  refine g_callVv (pc := 74) (st := []) hE.1 wvX5_57 (sX_row (i := i) hi) rfl (kX5_set hE i hi (σ31.1 5 7) (r34 ^^^ r40) σ39 h41) rfl (gR_ok (by decide) (by decide)) (Nat.le_of_ble_eq_true rfl) rfl dX5_change_74 ?_
  cases h
  exact g_vret (pc := 77) rfl rfl rfl dX5_change_77
def fX10_item (v1 : Int32) (σ : gM) : Option (Int32 × gM) := if v1 < 0 then (some (0, σ)) else (if 7 ≤ v1 then (some (0, σ)) else (if ¬ (v1 < 0 ∨ 7 ≤ v1.toNatClampNeg) then (some (σ.1 3 v1.toNatClampNeg, σ)) else none))
set_option maxRecDepth 100000 in
theorem kX10_item (hE : gEX l dC dI ad ca X)  (v1 : Int32) (σ : gM) {r0 : Int32} {σ' : gM} (h : fX10_item v1 σ = some (r0, σ')) : g_C l dC dI ad ca shX X yX10_item cX10_item 2 (some .int) (gR 0) [.ref 1, .int v1] σ (some (.int r0)) σ' := by
  refine g_entry (by decide +kernel) (Nat.le_of_ble_eq_true rfl) ?_
  refine g_lvE (lv1 := [(0, .ref 1), (1, .int v1)]) rfl ?_
  unfold fX10_item at h
  refine g_iload_n (pc := 0) dX10_item_0 rfl 1 rfl ?_
  refine g_if_lt (pc := 1) (tgt := 19) dX10_item_1 (by decide) (fun c4 => ?_) (fun c4 => ?_)
  · have h := g_ift c4 h
    refine g_iconst (pc := 19) (v := 0) dX10_item_19 (by decide) ?_
    cases h
    exact g_iret (pc := 20) rfl rfl rfl rfl dX10_item_20
  · have h := g_iff c4 h
    refine g_iload_n (pc := 4) dX10_item_4 rfl 1 rfl ?_
    refine g_bipush (pc := 5) (v := 7) dX10_item_5 (by decide) ?_
    refine g_icmp_ge (pc := 7) (tgt := 19) dX10_item_7 (by decide) (fun c5 => ?_) (fun c5 => ?_)
    · have h := g_ift c5 h
      refine g_iconst (pc := 19) (v := 0) dX10_item_19 (by decide) ?_
      cases h
      exact g_iret (pc := 20) rfl rfl rfl rfl dX10_item_20
    · have h := g_iff c5 h
      refine g_aload_n (pc := 10) dX10_item_10 rfl 0 rfl ?_
      refine g_getR (pc := 11) wfX10_28 rfl rfl dX10_item_11 ?_
      refine g_iload_n (pc := 14) dX10_item_14 rfl 1 rfl ?_
      obtain ⟨c6, h⟩ := g_gd h
      refine g_iald (pc := 15) rfl c6 rfl dX10_item_15 ?_
      refine g_goto (pc := 16) (tgt := 20) dX10_item_16 (by decide) ?_
      cases h
      exact g_iret (pc := 20) rfl rfl rfl rfl dX10_item_20
def fX6_take (σ : gM) : Option (gM) := g_bI (fX10_item 0 σ) (fun r38 σ37 => g_let (g_put σ37 5 0 r38) (fun σ39 => g_bI (fX10_item 1 σ39) (fun r43 σ42 => g_let (g_put σ42 5 1 r43) (fun σ44 => g_bI (fX10_item 2 σ44) (fun r48 σ47 => g_let (g_put σ47 5 2 r48) (fun σ49 => g_bI (fX10_item 3 σ49) (fun r53 σ52 => g_let (g_put σ52 5 3 r53) (fun σ54 => g_bI (fX10_item 4 σ54) (fun r58 σ57 => g_let (g_put σ57 5 4 r58) (fun σ59 => g_let (g_put σ59 5 5 ((σ59.1 5 0) + 2)) (fun σ61 => g_let (g_put σ61 5 6 (σ61.1 5 0)) (fun σ63 => g_let (g_put σ63 5 7 ((σ63.1 5 0) + 1)) (fun σ65 => g_let (g_put σ65 5 8 ((1 <<< ((σ65.1 5 0) &&& 31)) - 1)) (fun σ67 => g_let (g_put σ67 5 9 ((1 <<< ((σ67.1 5 5) &&& 31)) - 1)) (fun σ69 => some σ69)))))))))))))))
set_option maxRecDepth 100000 in
theorem kX6_take (hE : gEX l dC dI ad ca X)  (σ : gM) {σ' : gM} (h : fX6_take σ = some σ') : g_C l dC dI ad ca shX X yX6_take cX6_take 2 none (gR 1) [.ref 5, .ref 1] σ none σ' := by
  refine g_entry (by decide +kernel) (Nat.le_of_ble_eq_true rfl) ?_
  refine g_lvE (lv1 := [(0, .ref 5), (1, .ref 1)]) rfl ?_
  unfold fX6_take at h
  refine g_aload_n (pc := 0) dX6_take_0 rfl 0 rfl ?_
  refine g_aload_n (pc := 1) dX6_take_1 rfl 1 rfl ?_
  refine g_iconst (pc := 2) (v := 0) dX6_take_2 (by decide) ?_
  obtain ⟨r38, σ37, h36, h⟩ := g_bId h
  refine g_callVi (pc := 3) (st := [.ref 5]) hE.1 wvX6_40 rfl rfl (kX10_item hE 0 σ h36) rfl (gR_ok (by decide) (by decide)) (Nat.le_of_ble_eq_true rfl) rfl dX6_take_3 ?_
  obtain ⟨σ39, e40, h⟩ := g_ltd h
  refine g_putI (pc := 6) wfX6_7 rfl rfl rfl rfl e40 dX6_take_6 ?_
  refine g_aload_n (pc := 9) dX6_take_9 rfl 0 rfl ?_
  refine g_aload_n (pc := 10) dX6_take_10 rfl 1 rfl ?_
  refine g_iconst (pc := 11) (v := 1) dX6_take_11 (by decide) ?_
  obtain ⟨r43, σ42, h41, h⟩ := g_bId h
  refine g_callVi (pc := 12) (st := [.ref 5]) hE.1 wvX6_40 rfl rfl (kX10_item hE 1 σ39 h41) rfl (gR_ok (by decide) (by decide)) (Nat.le_of_ble_eq_true rfl) rfl dX6_take_12 ?_
  obtain ⟨σ44, e45, h⟩ := g_ltd h
  refine g_putI (pc := 15) wfX6_13 rfl rfl rfl rfl e45 dX6_take_15 ?_
  refine g_aload_n (pc := 18) dX6_take_18 rfl 0 rfl ?_
  refine g_aload_n (pc := 19) dX6_take_19 rfl 1 rfl ?_
  refine g_iconst (pc := 20) (v := 2) dX6_take_20 (by decide) ?_
  obtain ⟨r48, σ47, h46, h⟩ := g_bId h
  refine g_callVi (pc := 21) (st := [.ref 5]) hE.1 wvX6_40 rfl rfl (kX10_item hE 2 σ44 h46) rfl (gR_ok (by decide) (by decide)) (Nat.le_of_ble_eq_true rfl) rfl dX6_take_21 ?_
  obtain ⟨σ49, e50, h⟩ := g_ltd h
  refine g_putI (pc := 24) wfX6_16 rfl rfl rfl rfl e50 dX6_take_24 ?_
  refine g_aload_n (pc := 27) dX6_take_27 rfl 0 rfl ?_
  refine g_aload_n (pc := 28) dX6_take_28 rfl 1 rfl ?_
  refine g_iconst (pc := 29) (v := 3) dX6_take_29 (by decide) ?_
  obtain ⟨r53, σ52, h51, h⟩ := g_bId h
  refine g_callVi (pc := 30) (st := [.ref 5]) hE.1 wvX6_40 rfl rfl (kX10_item hE 3 σ49 h51) rfl (gR_ok (by decide) (by decide)) (Nat.le_of_ble_eq_true rfl) rfl dX6_take_30 ?_
  obtain ⟨σ54, e55, h⟩ := g_ltd h
  refine g_putI (pc := 33) wfX6_19 rfl rfl rfl rfl e55 dX6_take_33 ?_
  refine g_aload_n (pc := 36) dX6_take_36 rfl 0 rfl ?_
  refine g_aload_n (pc := 37) dX6_take_37 rfl 1 rfl ?_
  refine g_iconst (pc := 38) (v := 4) dX6_take_38 (by decide) ?_
  obtain ⟨r58, σ57, h56, h⟩ := g_bId h
  refine g_callVi (pc := 39) (st := [.ref 5]) hE.1 wvX6_40 rfl rfl (kX10_item hE 4 σ54 h56) rfl (gR_ok (by decide) (by decide)) (Nat.le_of_ble_eq_true rfl) rfl dX6_take_39 ?_
  obtain ⟨σ59, e60, h⟩ := g_ltd h
  refine g_putI (pc := 42) wfX6_22 rfl rfl rfl rfl e60 dX6_take_42 ?_
  refine g_aload_n (pc := 45) dX6_take_45 rfl 0 rfl ?_
  refine g_aload_n (pc := 46) dX6_take_46 rfl 0 rfl ?_
  refine g_getI (pc := 47) wfX6_7 rfl rfl dX6_take_47 ?_
  refine g_iconst (pc := 50) (v := 2) dX6_take_50 (by decide) ?_
  refine g_iadd (pc := 51) dX6_take_51 ?_
  obtain ⟨σ61, e62, h⟩ := g_ltd h
  refine g_putI (pc := 52) wfX6_25 rfl rfl rfl rfl e62 dX6_take_52 ?_
  refine g_aload_n (pc := 55) dX6_take_55 rfl 0 rfl ?_
  refine g_aload_n (pc := 56) dX6_take_56 rfl 0 rfl ?_
  refine g_getI (pc := 57) wfX6_7 rfl rfl dX6_take_57 ?_
  obtain ⟨σ63, e64, h⟩ := g_ltd h
  refine g_putI (pc := 60) wfX6_28 rfl rfl rfl rfl e64 dX6_take_60 ?_
  refine g_aload_n (pc := 63) dX6_take_63 rfl 0 rfl ?_
  refine g_aload_n (pc := 64) dX6_take_64 rfl 0 rfl ?_
  refine g_getI (pc := 65) wfX6_7 rfl rfl dX6_take_65 ?_
  refine g_iconst (pc := 68) (v := 1) dX6_take_68 (by decide) ?_
  refine g_iadd (pc := 69) dX6_take_69 ?_
  obtain ⟨σ65, e66, h⟩ := g_ltd h
  refine g_putI (pc := 70) wfX6_31 rfl rfl rfl rfl e66 dX6_take_70 ?_
  refine g_aload_n (pc := 73) dX6_take_73 rfl 0 rfl ?_
  refine g_iconst (pc := 74) (v := 1) dX6_take_74 (by decide) ?_
  refine g_aload_n (pc := 75) dX6_take_75 rfl 0 rfl ?_
  refine g_getI (pc := 76) wfX6_7 rfl rfl dX6_take_76 ?_
  refine g_ishl (pc := 79) dX6_take_79 ?_
  refine g_iconst (pc := 80) (v := 1) dX6_take_80 (by decide) ?_
  refine g_isub (pc := 81) dX6_take_81 ?_
  obtain ⟨σ67, e68, h⟩ := g_ltd h
  refine g_putI (pc := 82) wfX6_34 rfl rfl rfl rfl e68 dX6_take_82 ?_
  refine g_aload_n (pc := 85) dX6_take_85 rfl 0 rfl ?_
  refine g_iconst (pc := 86) (v := 1) dX6_take_86 (by decide) ?_
  refine g_aload_n (pc := 87) dX6_take_87 rfl 0 rfl ?_
  refine g_getI (pc := 88) wfX6_25 rfl rfl dX6_take_88 ?_
  refine g_ishl (pc := 91) dX6_take_91 ?_
  refine g_iconst (pc := 92) (v := 1) dX6_take_92 (by decide) ?_
  refine g_isub (pc := 93) dX6_take_93 ?_
  obtain ⟨σ69, e70, h⟩ := g_ltd h
  refine g_putI (pc := 94) wfX6_37 rfl rfl rfl rfl e70 dX6_take_94 ?_
  cases h
  exact g_vret (pc := 97) rfl rfl rfl dX6_take_97
end WKX2
