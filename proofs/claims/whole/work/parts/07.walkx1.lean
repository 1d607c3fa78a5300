section WKX1
variable {l : Launch} {dC : Nat → ClassId} {dI : Nat → Nat → Nat} {ad : Nat → Nat} {ca : Nat → ClassId} {X : (Nat → Prop) → State → Heap → Prop}

def fX0_start (v1 : Int64) (σ : gM) : Option (gM) := g_let (g_lng σ 31 v1) (fun σ3 => some σ3)
set_option maxRecDepth 100000 in
theorem kX0_start (hE : gEX l dC dI ad ca X)  (v1 : Int64) (σ : gM) {σ' : gM} (h : fX0_start v1 σ = some σ') : g_C l dC dI ad ca shX X yX0_start cX0_start 3 none (gR 0) [.ref 31, .long v1] σ none σ' := by
  refine g_entry (by decide +kernel) (Nat.le_of_ble_eq_true rfl) ?_
  refine g_lvE (lv1 := [(0, .ref 31), (1, .long v1)]) rfl ?_
  unfold fX0_start at h
  refine g_aload_n (pc := 0) dX0_start_0 rfl 0 rfl ?_
  refine g_lload_n (pc := 1) dX0_start_1 rfl 1 rfl ?_
  obtain ⟨σ3, e4, h⟩ := g_ltd h
  refine g_putL (pc := 2) wfX0_15 rfl rfl (g_hu (by decide)) e4 dX0_start_2 ?_
  cases h
  exact g_vret (pc := 5) rfl rfl rfl dX0_start_5
def fX0_number (v1 : Int32) (σ : gM) : Option (Int32 × gM) := if v1 < 0 then (some (0, σ)) else (if 4 ≤ v1 then (some (0, σ)) else (if ¬ (v1 < 0 ∨ 4 ≤ v1.toNatClampNeg) then (some (σ.1 32 v1.toNatClampNeg, σ)) else none))
set_option maxRecDepth 100000 in
theorem kX0_number (hE : gEX l dC dI ad ca X)  (v1 : Int32) (σ : gM) {r0 : Int32} {σ' : gM} (h : fX0_number v1 σ = some (r0, σ')) : g_C l dC dI ad ca shX X yX0_number cX0_number 2 (some .int) (gR 0) [.ref 31, .int v1] σ (some (.int r0)) σ' := by
  refine g_entry (by decide +kernel) (Nat.le_of_ble_eq_true rfl) ?_
  refine g_lvE (lv1 := [(0, .ref 31), (1, .int v1)]) rfl ?_
  unfold fX0_number at h
  refine g_iload_n (pc := 0) dX0_number_0 rfl 1 rfl ?_
  refine g_if_lt (pc := 1) (tgt := 22) dX0_number_1 (by decide) (fun c4 => ?_) (fun c4 => ?_)
  · have h := g_ift c4 h
    refine g_iconst (pc := 22) (v := 0) dX0_number_22 (by decide) ?_
    cases h
    exact g_iret (pc := 23) rfl rfl rfl rfl dX0_number_23
  · have h := g_iff c4 h
    refine g_iload_n (pc := 4) dX0_number_4 rfl 1 rfl ?_
    refine g_aload_n (pc := 5) dX0_number_5 rfl 0 rfl ?_
    refine g_getR (pc := 6) wfX0_9 rfl rfl dX0_number_6 ?_
    refine g_alen (pc := 9) rfl dX0_number_9 ?_
    refine g_icmp_ge (pc := 10) (tgt := 22) dX0_number_10 (by decide) (fun c5 => ?_) (fun c5 => ?_)
    · have h := g_ift c5 h
      refine g_iconst (pc := 22) (v := 0) dX0_number_22 (by decide) ?_
      cases h
      exact g_iret (pc := 23) rfl rfl rfl rfl dX0_number_23
    · have h := g_iff c5 h
      refine g_aload_n (pc := 13) dX0_number_13 rfl 0 rfl ?_
      refine g_getR (pc := 14) wfX0_9 rfl rfl dX0_number_14 ?_
      refine g_iload_n (pc := 17) dX0_number_17 rfl 1 rfl ?_
      obtain ⟨c6, h⟩ := g_gd h
      refine g_iald (pc := 18) rfl c6 rfl dX0_number_18 ?_
      refine g_goto (pc := 19) (tgt := 23) dX0_number_19 (by decide) ?_
      cases h
      exact g_iret (pc := 23) rfl rfl rfl rfl dX0_number_23
def fX0_draw (v1 : Int32) (σ : gM) : Option (Int32 × gM) := g_let (g_lng σ 31 (((σ.2 31) * 6364136223846793005) + 1442695040888963407)) (fun σ5 => if 1 ≤ v1 then (if v1.toInt64 = 0 then none else (some (((g_ul (σ5.2 31) 33) - (g_ul (σ5.2 31) 33) / v1.toInt64 * v1.toInt64).toInt32, σ5))) else (some (0, σ5)))
set_option maxRecDepth 100000 in
theorem kX0_draw (hE : gEX l dC dI ad ca X)  (v1 : Int32) (σ : gM) {r0 : Int32} {σ' : gM} (h : fX0_draw v1 σ = some (r0, σ')) : g_C l dC dI ad ca shX X yX0_draw cX0_draw 2 (some .int) (gR 0) [.ref 31, .int v1] σ (some (.int r0)) σ' := by
  refine g_entry (by decide +kernel) (Nat.le_of_ble_eq_true rfl) ?_
  refine g_lvE (lv1 := [(0, .ref 31), (1, .int v1)]) rfl ?_
  unfold fX0_draw at h
  refine g_aload_n (pc := 0) dX0_draw_0 rfl 0 rfl ?_
  refine g_aload_n (pc := 1) dX0_draw_1 rfl 0 rfl ?_
  refine g_getL (pc := 2) wfX0_15 rfl rfl dX0_draw_2 ?_
  refine g_ldc2 (pc := 5) wkX0_19 dX0_draw_5 ?_
  refine g_lmul (pc := 8) dX0_draw_8 ?_
  refine g_ldc2 (pc := 9) wkX0_21 dX0_draw_9 ?_
  refine g_ladd (pc := 12) dX0_draw_12 ?_
  obtain ⟨σ5, e6, h⟩ := g_ltd h
  refine g_putL (pc := 13) wfX0_15 rfl rfl (g_hu (by decide)) e6 dX0_draw_13 ?_
  refine g_iload_n (pc := 16) dX0_draw_16 rfl 1 rfl ?_
  refine g_iconst (pc := 17) (v := 1) dX0_draw_17 (by decide) ?_
  refine g_icmp_ge (pc := 18) (tgt := 25) dX0_draw_18 (by decide) (fun c7 => ?_) (fun c7 => ?_)
  · have h := g_ift c7 h
    refine g_aload_n (pc := 25) dX0_draw_25 rfl 0 rfl ?_
    refine g_getL (pc := 26) wfX0_15 rfl rfl dX0_draw_26 ?_
    refine g_bipush (pc := 29) (v := 33) dX0_draw_29 (by decide) ?_
    refine g_lushr (pc := 31) dX0_draw_31 ?_
    refine g_iload_n (pc := 32) dX0_draw_32 rfl 1 rfl ?_
    refine g_i2l (pc := 33) dX0_draw_33 ?_
    obtain ⟨c8, h⟩ := g_gn h
    refine g_lrem (pc := 34) dX0_draw_34 c8 ?_
    refine g_l2i (pc := 35) dX0_draw_35 ?_
    cases h
    exact g_iret (pc := 36) rfl rfl rfl rfl dX0_draw_36
  · have h := g_iff c7 h
    refine g_iconst (pc := 21) (v := 0) dX0_draw_21 (by decide) ?_
    refine g_goto (pc := 22) (tgt := 36) dX0_draw_22 (by decide) ?_
    cases h
    exact g_iret (pc := 36) rfl rfl rfl rfl dX0_draw_36
def fX6_addresses (σ : gM) : Option (Int32 × gM) := some (((σ.1 5 0) * (σ.1 5 1)) * (σ.1 5 2), σ)
set_option maxRecDepth 100000 in
theorem kX6_addresses (hE : gEX l dC dI ad ca X)  (σ : gM) {r0 : Int32} {σ' : gM} (h : fX6_addresses σ = some (r0, σ')) : g_C l dC dI ad ca shX X yX6_addresses cX6_addresses 1 (some .int) (gR 0) [.ref 5] σ (some (.int r0)) σ' := by
  refine g_entry (by decide +kernel) (Nat.le_of_ble_eq_true rfl) ?_
  refine g_lvE (lv1 := [(0, .ref 5)]) rfl ?_
  unfold fX6_addresses at h
  refine g_aload_n (pc := 0) dX6_addresses_0 rfl 0 rfl ?_
  refine g_getI (pc := 1) wfX6_7 rfl rfl dX6_addresses_1 ?_
  refine g_aload_n (pc := 4) dX6_addresses_4 rfl 0 rfl ?_
  refine g_getI (pc := 5) wfX6_13 rfl rfl dX6_addresses_5 ?_
  refine g_imul (pc := 8) dX6_addresses_8 ?_
  refine g_aload_n (pc := 9) dX6_addresses_9 rfl 0 rfl ?_
  refine g_getI (pc := 10) wfX6_16 rfl rfl dX6_addresses_10 ?_
  refine g_imul (pc := 13) dX6_addresses_13 ?_
  cases h
  exact g_iret (pc := 14) rfl rfl rfl rfl dX6_addresses_14
def fX0_year (σ : gM) : Option (Int32 × gM) := g_bI (fX0_draw 12 σ) (fun r100 σ99 => if r100 = 5 then (g_bI (fX0_draw (σ99.1 5 5) σ99) (fun r104 σ103 => g_let (g_put σ103 32 0 r104) (fun σ105 => some (1, σ105)))) else (if r100 = 6 then (g_bI (fX0_draw (σ99.1 5 5) σ99) (fun r110 σ109 => g_let (g_put σ109 32 0 r110) (fun σ111 => some (2, σ111)))) else (if r100 = 7 then (g_bI (fX0_draw (σ99.1 5 5) σ99) (fun r116 σ115 => g_let (g_put σ115 32 0 r116) (fun σ117 => g_bI (fX0_draw (σ117.1 5 1) σ117) (fun r121 σ120 => g_let (g_put σ120 32 1 (r121 + 1)) (fun σ122 => some (3, σ122)))))) else (if r100 = 8 then (g_bI (fX0_draw (σ99.1 5 5) σ99) (fun r127 σ126 => g_let (g_put σ126 32 0 r127) (fun σ128 => g_bI (fX0_draw (σ128.1 5 1) σ128) (fun r132 σ131 => g_let (g_put σ131 32 1 (r132 + 1)) (fun σ133 => some (3, σ133)))))) else (if r100 = 9 then (g_bI (fX0_draw (σ99.1 5 1) σ99) (fun r138 σ137 => g_let (g_put σ137 32 0 (r138 + 1)) (fun σ139 => some (4, σ139)))) else (if r100 = 10 then (g_bI (fX0_draw (σ99.1 5 5) σ99) (fun r144 σ143 => g_let (g_put σ143 32 0 r144) (fun σ145 => g_bI (fX0_draw (σ145.1 5 1) σ145) (fun r149 σ148 => g_let (g_put σ148 32 1 r149) (fun σ150 => g_bI (fX0_draw (σ150.1 5 2) σ150) (fun r154 σ153 => g_let (g_put σ153 32 2 r154) (fun σ155 => g_bI (fX0_draw 255 σ155) (fun r159 σ158 => g_let (g_put σ158 32 3 (r159 + 1)) (fun σ160 => some (5, σ160)))))))))) else (if r100 = 11 then (g_bI (fX6_addresses σ99) (fun r165 σ164 => g_bI (fX0_draw r165 σ164) (fun r168 σ167 => g_let (g_put σ167 32 0 r168) (fun σ169 => g_bI (fX0_draw 256 σ169) (fun r173 σ172 => g_let (g_put σ172 32 1 r173) (fun σ174 => g_bI (fX0_draw 3 σ174) (fun r178 σ177 => g_let (g_put σ177 32 2 r178) (fun σ179 => some (6, σ179))))))))) else (g_bI (fX6_addresses σ99) (fun r183 σ182 => g_bI (fX0_draw r183 σ182) (fun r186 σ185 => g_let (g_put σ185 32 0 r186) (fun σ187 => g_bI (fX0_draw 256 σ187) (fun r191 σ190 => g_let (g_put σ190 32 1 r191) (fun σ192 => some (0, σ192))))))))))))))
set_option maxRecDepth 100000 in
theorem kX0_year (hE : gEX l dC dI ad ca X)  (σ : gM) {r0 : Int32} {σ' : gM} (h : fX0_year σ = some (r0, σ')) : g_C l dC dI ad ca shX X yX0_year cX0_year 2 (some .int) (gR 1) [.ref 31, .ref 5] σ (some (.int r0)) σ' := by
  refine g_entry (by decide +kernel) (Nat.le_of_ble_eq_true rfl) ?_
  refine g_lvE (lv1 := [(0, .ref 31), (1, .ref 5)]) rfl ?_
  unfold fX0_year at h
  refine g_aload_n (pc := 0) dX0_year_0 rfl 0 rfl ?_
  refine g_bipush (pc := 1) (v := 12) dX0_year_1 (by decide) ?_
  obtain ⟨r100, σ99, h98, h⟩ := g_bId h
  refine g_callVi (pc := 3) (st := []) hE.1 wvX0_23 rfl rfl (kX0_draw hE 12 σ h98) rfl (gR_ok (by decide) (by decide)) (Nat.le_of_ble_eq_true rfl) rfl dX0_year_3 ?_
  by_cases c101 : r100 = 5
  · have h := g_ift c101 h
    refine g_tabIn (pc := 6) (tgt := 48) (off := 42) dX0_year_6 (by rw [c101]; decide) (by rw [c101]; decide) (by rw [c101]; decide) (by decide) ?_
    refine g_aload_n (pc := 48) dX0_year_48 rfl 0 rfl ?_
    refine g_getR (pc := 49) wfX0_9 rfl rfl dX0_year_49 ?_
    refine g_iconst (pc := 52) (v := 0) dX0_year_52 (by decide) ?_
    refine g_aload_n (pc := 53) dX0_year_53 rfl 0 rfl ?_
    refine g_aload_n (pc := 54) dX0_year_54 rfl 1 rfl ?_
    refine g_getI (pc := 55) wfX0_27 rfl rfl dX0_year_55 ?_
    obtain ⟨r104, σ103, h102, h⟩ := g_bId h
    refine g_callVi (pc := 58) (st := [.int 0, .ref 32]) hE.1 wvX0_23 rfl rfl (kX0_draw hE (σ99.1 5 5) σ99 h102) rfl (gR_ok (by decide) (by decide)) (Nat.le_of_ble_eq_true rfl) rfl dX0_year_58 ?_
    obtain ⟨σ105, e106, h⟩ := g_ltd h
    refine g_iast (pc := 61) rfl (by decide) (j := 0) (by decide) e106 dX0_year_61 ?_
    refine g_iconst (pc := 62) (v := 1) dX0_year_62 (by decide) ?_
    cases h
    exact g_iret (pc := 63) rfl rfl rfl rfl dX0_year_63
  have h := g_iff c101 h
  by_cases c107 : r100 = 6
  · have h := g_ift c107 h
    refine g_tabIn (pc := 6) (tgt := 64) (off := 58) dX0_year_6 (by rw [c107]; decide) (by rw [c107]; decide) (by rw [c107]; decide) (by decide) ?_
    refine g_aload_n (pc := 64) dX0_year_64 rfl 0 rfl ?_
    refine g_getR (pc := 65) wfX0_9 rfl rfl dX0_year_65 ?_
    refine g_iconst (pc := 68) (v := 0) dX0_year_68 (by decide) ?_
    refine g_aload_n (pc := 69) dX0_year_69 rfl 0 rfl ?_
    refine g_aload_n (pc := 70) dX0_year_70 rfl 1 rfl ?_
    refine g_getI (pc := 71) wfX0_27 rfl rfl dX0_year_71 ?_
    obtain ⟨r110, σ109, h108, h⟩ := g_bId h
    refine g_callVi (pc := 74) (st := [.int 0, .ref 32]) hE.1 wvX0_23 rfl rfl (kX0_draw hE (σ99.1 5 5) σ99 h108) rfl (gR_ok (by decide) (by decide)) (Nat.le_of_ble_eq_true rfl) rfl dX0_year_74 ?_
    obtain ⟨σ111, e112, h⟩ := g_ltd h
    refine g_iast (pc := 77) rfl (by decide) (j := 0) (by decide) e112 dX0_year_77 ?_
    refine g_iconst (pc := 78) (v := 2) dX0_year_78 (by decide) ?_
    cases h
    exact g_iret (pc := 79) rfl rfl rfl rfl dX0_year_79
  have h := g_iff c107 h
  by_cases c113 : r100 = 7
  · have h := g_ift c113 h
    refine g_tabIn (pc := 6) (tgt := 80) (off := 74) dX0_year_6 (by rw [c113]; decide) (by rw [c113]; decide) (by rw [c113]; decide) (by decide) ?_
    refine g_aload_n (pc := 80) dX0_year_80 rfl 0 rfl ?_
    refine g_getR (pc := 81) wfX0_9 rfl rfl dX0_year_81 ?_
    refine g_iconst (pc := 84) (v := 0) dX0_year_84 (by decide) ?_
    refine g_aload_n (pc := 85) dX0_year_85 rfl 0 rfl ?_
    refine g_aload_n (pc := 86) dX0_year_86 rfl 1 rfl ?_
    refine g_getI (pc := 87) wfX0_27 rfl rfl dX0_year_87 ?_
    obtain ⟨r116, σ115, h114, h⟩ := g_bId h
    refine g_callVi (pc := 90) (st := [.int 0, .ref 32]) hE.1 wvX0_23 rfl rfl (kX0_draw hE (σ99.1 5 5) σ99 h114) rfl (gR_ok (by decide) (by decide)) (Nat.le_of_ble_eq_true rfl) rfl dX0_year_90 ?_
    obtain ⟨σ117, e118, h⟩ := g_ltd h
    refine g_iast (pc := 93) rfl (by decide) (j := 0) (by decide) e118 dX0_year_93 ?_
    refine g_aload_n (pc := 94) dX0_year_94 rfl 0 rfl ?_
    refine g_getR (pc := 95) wfX0_9 rfl rfl dX0_year_95 ?_
    refine g_iconst (pc := 98) (v := 1) dX0_year_98 (by decide) ?_
    refine g_aload_n (pc := 99) dX0_year_99 rfl 0 rfl ?_
    refine g_aload_n (pc := 100) dX0_year_100 rfl 1 rfl ?_
    refine g_getI (pc := 101) wfX0_33 rfl rfl dX0_year_101 ?_
    obtain ⟨r121, σ120, h119, h⟩ := g_bId h
    refine g_callVi (pc := 104) (st := [.int 1, .ref 32]) hE.1 wvX0_23 rfl rfl (kX0_draw hE (σ117.1 5 1) σ117 h119) rfl (gR_ok (by decide) (by decide)) (Nat.le_of_ble_eq_true rfl) rfl dX0_year_104 ?_
    refine g_iconst (pc := 107) (v := 1) dX0_year_107 (by decide) ?_
    refine g_iadd (pc := 108) dX0_year_108 ?_
    obtain ⟨σ122, e123, h⟩ := g_ltd h
    refine g_iast (pc := 109) rfl (by decide) (j := 1) (by decide) e123 dX0_year_109 ?_
    refine g_iconst (pc := 110) (v := 3) dX0_year_110 (by decide) ?_
    cases h
    exact g_iret (pc := 111) rfl rfl rfl rfl dX0_year_111
  have h := g_iff c113 h
  by_cases c124 : r100 = 8
  · have h := g_ift c124 h
    refine g_tabIn (pc := 6) (tgt := 80) (off := 74) dX0_year_6 (by rw [c124]; decide) (by rw [c124]; decide) (by rw [c124]; decide) (by decide) ?_
    refine g_aload_n (pc := 80) dX0_year_80 rfl 0 rfl ?_
    refine g_getR (pc := 81) wfX0_9 rfl rfl dX0_year_81 ?_
    refine g_iconst (pc := 84) (v := 0) dX0_year_84 (by decide) ?_
    refine g_aload_n (pc := 85) dX0_year_85 rfl 0 rfl ?_
    refine g_aload_n (pc := 86) dX0_year_86 rfl 1 rfl ?_
    refine g_getI (pc := 87) wfX0_27 rfl rfl dX0_year_87 ?_
    obtain ⟨r127, σ126, h125, h⟩ := g_bId h
    refine g_callVi (pc := 90) (st := [.int 0, .ref 32]) hE.1 wvX0_23 rfl rfl (kX0_draw hE (σ99.1 5 5) σ99 h125) rfl (gR_ok (by decide) (by decide)) (Nat.le_of_ble_eq_true rfl) rfl dX0_year_90 ?_
    obtain ⟨σ128, e129, h⟩ := g_ltd h
    refine g_iast (pc := 93) rfl (by decide) (j := 0) (by decide) e129 dX0_year_93 ?_
    refine g_aload_n (pc := 94) dX0_year_94 rfl 0 rfl ?_
    refine g_getR (pc := 95) wfX0_9 rfl rfl dX0_year_95 ?_
    refine g_iconst (pc := 98) (v := 1) dX0_year_98 (by decide) ?_
    refine g_aload_n (pc := 99) dX0_year_99 rfl 0 rfl ?_
    refine g_aload_n (pc := 100) dX0_year_100 rfl 1 rfl ?_
    refine g_getI (pc := 101) wfX0_33 rfl rfl dX0_year_101 ?_
    obtain ⟨r132, σ131, h130, h⟩ := g_bId h
    refine g_callVi (pc := 104) (st := [.int 1, .ref 32]) hE.1 wvX0_23 rfl rfl (kX0_draw hE (σ128.1 5 1) σ128 h130) rfl (gR_ok (by decide) (by decide)) (Nat.le_of_ble_eq_true rfl) rfl dX0_year_104 ?_
    refine g_iconst (pc := 107) (v := 1) dX0_year_107 (by decide) ?_
    refine g_iadd (pc := 108) dX0_year_108 ?_
    obtain ⟨σ133, e134, h⟩ := g_ltd h
    refine g_iast (pc := 109) rfl (by decide) (j := 1) (by decide) e134 dX0_year_109 ?_
    refine g_iconst (pc := 110) (v := 3) dX0_year_110 (by decide) ?_
    cases h
    exact g_iret (pc := 111) rfl rfl rfl rfl dX0_year_111
  have h := g_iff c124 h
  by_cases c135 : r100 = 9
  · have h := g_ift c135 h
    refine g_tabIn (pc := 6) (tgt := 112) (off := 106) dX0_year_6 (by rw [c135]; decide) (by rw [c135]; decide) (by rw [c135]; decide) (by decide) ?_
    refine g_aload_n (pc := 112) dX0_year_112 rfl 0 rfl ?_
    refine g_getR (pc := 113) wfX0_9 rfl rfl dX0_year_113 ?_
    refine g_iconst (pc := 116) (v := 0) dX0_year_116 (by decide) ?_
    refine g_aload_n (pc := 117) dX0_year_117 rfl 0 rfl ?_
    refine g_aload_n (pc := 118) dX0_year_118 rfl 1 rfl ?_
    refine g_getI (pc := 119) wfX0_33 rfl rfl dX0_year_119 ?_
    obtain ⟨r138, σ137, h136, h⟩ := g_bId h
    refine g_callVi (pc := 122) (st := [.int 0, .ref 32]) hE.1 wvX0_23 rfl rfl (kX0_draw hE (σ99.1 5 1) σ99 h136) rfl (gR_ok (by decide) (by decide)) (Nat.le_of_ble_eq_true rfl) rfl dX0_year_122 ?_
    refine g_iconst (pc := 125) (v := 1) dX0_year_125 (by decide) ?_
    refine g_iadd (pc := 126) dX0_year_126 ?_
    obtain ⟨σ139, e140, h⟩ := g_ltd h
    refine g_iast (pc := 127) rfl (by decide) (j := 0) (by decide) e140 dX0_year_127 ?_
    refine g_iconst (pc := 128) (v := 4) dX0_year_128 (by decide) ?_
    cases h
    exact g_iret (pc := 129) rfl rfl rfl rfl dX0_year_129
  have h := g_iff c135 h
  by_cases c141 : r100 = 10
  · have h := g_ift c141 h
    refine g_tabIn (pc := 6) (tgt := 130) (off := 124) dX0_year_6 (by rw [c141]; decide) (by rw [c141]; decide) (by rw [c141]; decide) (by decide) ?_
    refine g_aload_n (pc := 130) dX0_year_130 rfl 0 rfl ?_
    refine g_getR (pc := 131) wfX0_9 rfl rfl dX0_year_131 ?_
    refine g_iconst (pc := 134) (v := 0) dX0_year_134 (by decide) ?_
    refine g_aload_n (pc := 135) dX0_year_135 rfl 0 rfl ?_
    refine g_aload_n (pc := 136) dX0_year_136 rfl 1 rfl ?_
    refine g_getI (pc := 137) wfX0_27 rfl rfl dX0_year_137 ?_
    obtain ⟨r144, σ143, h142, h⟩ := g_bId h
    refine g_callVi (pc := 140) (st := [.int 0, .ref 32]) hE.1 wvX0_23 rfl rfl (kX0_draw hE (σ99.1 5 5) σ99 h142) rfl (gR_ok (by decide) (by decide)) (Nat.le_of_ble_eq_true rfl) rfl dX0_year_140 ?_
    obtain ⟨σ145, e146, h⟩ := g_ltd h
    refine g_iast (pc := 143) rfl (by decide) (j := 0) (by decide) e146 dX0_year_143 ?_
    refine g_aload_n (pc := 144) dX0_year_144 rfl 0 rfl ?_
    refine g_getR (pc := 145) wfX0_9 rfl rfl dX0_year_145 ?_
    refine g_iconst (pc := 148) (v := 1) dX0_year_148 (by decide) ?_
    refine g_aload_n (pc := 149) dX0_year_149 rfl 0 rfl ?_
    refine g_aload_n (pc := 150) dX0_year_150 rfl 1 rfl ?_
    refine g_getI (pc := 151) wfX0_33 rfl rfl dX0_year_151 ?_
    obtain ⟨r149, σ148, h147, h⟩ := g_bId h
    refine g_callVi (pc := 154) (st := [.int 1, .ref 32]) hE.1 wvX0_23 rfl rfl (kX0_draw hE (σ145.1 5 1) σ145 h147) rfl (gR_ok (by decide) (by decide)) (Nat.le_of_ble_eq_true rfl) rfl dX0_year_154 ?_
    obtain ⟨σ150, e151, h⟩ := g_ltd h
    refine g_iast (pc := 157) rfl (by decide) (j := 1) (by decide) e151 dX0_year_157 ?_
    refine g_aload_n (pc := 158) dX0_year_158 rfl 0 rfl ?_
    refine g_getR (pc := 159) wfX0_9 rfl rfl dX0_year_159 ?_
    refine g_iconst (pc := 162) (v := 2) dX0_year_162 (by decide) ?_
    refine g_aload_n (pc := 163) dX0_year_163 rfl 0 rfl ?_
    refine g_aload_n (pc := 164) dX0_year_164 rfl 1 rfl ?_
    refine g_getI (pc := 165) wfX0_36 rfl rfl dX0_year_165 ?_
    obtain ⟨r154, σ153, h152, h⟩ := g_bId h
    refine g_callVi (pc := 168) (st := [.int 2, .ref 32]) hE.1 wvX0_23 rfl rfl (kX0_draw hE (σ150.1 5 2) σ150 h152) rfl (gR_ok (by decide) (by decide)) (Nat.le_of_ble_eq_true rfl) rfl dX0_year_168 ?_
    obtain ⟨σ155, e156, h⟩ := g_ltd h
    refine g_iast (pc := 171) rfl (by decide) (j := 2) (by decide) e156 dX0_year_171 ?_
    refine g_aload_n (pc := 172) dX0_year_172 rfl 0 rfl ?_
    refine g_getR (pc := 173) wfX0_9 rfl rfl dX0_year_173 ?_
    refine g_iconst (pc := 176) (v := 3) dX0_year_176 (by decide) ?_
    refine g_aload_n (pc := 177) dX0_year_177 rfl 0 rfl ?_
    refine g_sipush (pc := 178) (v := 255) dX0_year_178 (by decide) ?_
    obtain ⟨r159, σ158, h157, h⟩ := g_bId h
    refine g_callVi (pc := 181) (st := [.int 3, .ref 32]) hE.1 wvX0_23 rfl rfl (kX0_draw hE 255 σ155 h157) rfl (gR_ok (by decide) (by decide)) (Nat.le_of_ble_eq_true rfl) rfl dX0_year_181 ?_
    refine g_iconst (pc := 184) (v := 1) dX0_year_184 (by decide) ?_
    refine g_iadd (pc := 185) dX0_year_185 ?_
    obtain ⟨σ160, e161, h⟩ := g_ltd h
    refine g_iast (pc := 186) rfl (by decide) (j := 3) (by decide) e161 dX0_year_186 ?_
    refine g_iconst (pc := 187) (v := 5) dX0_year_187 (by decide) ?_
    cases h
    exact g_iret (pc := 188) rfl rfl rfl rfl dX0_year_188
  have h := g_iff c141 h
  by_cases c162 : r100 = 11
  · have h := g_ift c162 h
    refine g_tabIn (pc := 6) (tgt := 189) (off := 183) dX0_year_6 (by rw [c162]; decide) (by rw [c162]; decide) (by rw [c162]; decide) (by decide) ?_
    refine g_aload_n (pc := 189) dX0_year_189 rfl 0 rfl ?_
    refine g_getR (pc := 190) wfX0_9 rfl rfl dX0_year_190 ?_
    refine g_iconst (pc := 193) (v := 0) dX0_year_193 (by decide) ?_
    refine g_aload_n (pc := 194) dX0_year_194 rfl 0 rfl ?_
    refine g_aload_n (pc := 195) dX0_year_195 rfl 1 rfl ?_
    obtain ⟨r165, σ164, h163, h⟩ := g_bId h
    refine g_callVi (pc := 196) (st := [.ref 31, .int 0, .ref 32]) hE.1 wvX0_39 rfl rfl (kX6_addresses hE σ99 h163) rfl (gR_ok (by decide) (by decide)) (Nat.le_of_ble_eq_true rfl) rfl dX0_year_196 ?_
    obtain ⟨r168, σ167, h166, h⟩ := g_bId h
    refine g_callVi (pc := 199) (st := [.int 0, .ref 32]) hE.1 wvX0_23 rfl rfl (kX0_draw hE r165 σ164 h166) rfl (gR_ok (by decide) (by decide)) (Nat.le_of_ble_eq_true rfl) rfl dX0_year_199 ?_
    obtain ⟨σ169, e170, h⟩ := g_ltd h
    refine g_iast (pc := 202) rfl (by decide) (j := 0) (by decide) e170 dX0_year_202 ?_
    refine g_aload_n (pc := 203) dX0_year_203 rfl 0 rfl ?_
    refine g_getR (pc := 204) wfX0_9 rfl rfl dX0_year_204 ?_
    refine g_iconst (pc := 207) (v := 1) dX0_year_207 (by decide) ?_
    refine g_aload_n (pc := 208) dX0_year_208 rfl 0 rfl ?_
    refine g_sipush (pc := 209) (v := 256) dX0_year_209 (by decide) ?_
    obtain ⟨r173, σ172, h171, h⟩ := g_bId h
    refine g_callVi (pc := 212) (st := [.int 1, .ref 32]) hE.1 wvX0_23 rfl rfl (kX0_draw hE 256 σ169 h171) rfl (gR_ok (by decide) (by decide)) (Nat.le_of_ble_eq_true rfl) rfl dX0_year_212 ?_
    obtain ⟨σ174, e175, h⟩ := g_ltd h
    refine g_iast (pc := 215) rfl (by decide) (j := 1) (by decide) e175 dX0_year_215 ?_
    refine g_aload_n (pc := 216) dX0_year_216 rfl 0 rfl ?_
    refine g_getR (pc := 217) wfX0_9 rfl rfl dX0_year_217 ?_
    refine g_iconst (pc := 220) (v := 2) dX0_year_220 (by decide) ?_
    refine g_aload_n (pc := 221) dX0_year_221 rfl 0 rfl ?_
    refine g_iconst (pc := 222) (v := 3) dX0_year_222 (by decide) ?_
    obtain ⟨r178, σ177, h176, h⟩ := g_bId h
    refine g_callVi (pc := 223) (st := [.int 2, .ref 32]) hE.1 wvX0_23 rfl rfl (kX0_draw hE 3 σ174 h176) rfl (gR_ok (by decide) (by decide)) (Nat.le_of_ble_eq_true rfl) rfl dX0_year_223 ?_
    obtain ⟨σ179, e180, h⟩ := g_ltd h
    refine g_iast (pc := 226) rfl (by decide) (j := 2) (by decide) e180 dX0_year_226 ?_
    refine g_bipush (pc := 227) (v := 6) dX0_year_227 (by decide) ?_
    cases h
    exact g_iret (pc := 229) rfl rfl rfl rfl dX0_year_229
  have h := g_iff c162 h
  have u194 : (r100).toInt < 5 ∨ 11 < (r100).toInt := by
    have ec101 := g_toInt c101
    have ec107 := g_toInt c107
    have ec113 := g_toInt c113
    have ec124 := g_toInt c124
    have ec135 := g_toInt c135
    have ec141 := g_toInt c141
    have ec162 := g_toInt c162
    rw [show (5 : Int32).toInt = 5 from by decide] at ec101
    rw [show (6 : Int32).toInt = 6 from by decide] at ec107
    rw [show (7 : Int32).toInt = 7 from by decide] at ec113
    rw [show (8 : Int32).toInt = 8 from by decide] at ec124
    rw [show (9 : Int32).toInt = 9 from by decide] at ec135
    rw [show (10 : Int32).toInt = 10 from by decide] at ec141
    rw [show (11 : Int32).toInt = 11 from by decide] at ec162
    omega
  refine g_tabOut (pc := 6) (tgt := 230) dX0_year_6 u194 (by decide) ?_
  refine g_aload_n (pc := 230) dX0_year_230 rfl 0 rfl ?_
  refine g_getR (pc := 231) wfX0_9 rfl rfl dX0_year_231 ?_
  refine g_iconst (pc := 234) (v := 0) dX0_year_234 (by decide) ?_
  refine g_aload_n (pc := 235) dX0_year_235 rfl 0 rfl ?_
  refine g_aload_n (pc := 236) dX0_year_236 rfl 1 rfl ?_
  obtain ⟨r183, σ182, h181, h⟩ := g_bId h
  refine g_callVi (pc := 237) (st := [.ref 31, .int 0, .ref 32]) hE.1 wvX0_39 rfl rfl (kX6_addresses hE σ99 h181) rfl (gR_ok (by decide) (by decide)) (Nat.le_of_ble_eq_true rfl) rfl dX0_year_237 ?_
  obtain ⟨r186, σ185, h184, h⟩ := g_bId h
  refine g_callVi (pc := 240) (st := [.int 0, .ref 32]) hE.1 wvX0_23 rfl rfl (kX0_draw hE r183 σ182 h184) rfl (gR_ok (by decide) (by decide)) (Nat.le_of_ble_eq_true rfl) rfl dX0_year_240 ?_
  obtain ⟨σ187, e188, h⟩ := g_ltd h
  refine g_iast (pc := 243) rfl (by decide) (j := 0) (by decide) e188 dX0_year_243 ?_
  refine g_aload_n (pc := 244) dX0_year_244 rfl 0 rfl ?_
  refine g_getR (pc := 245) wfX0_9 rfl rfl dX0_year_245 ?_
  refine g_iconst (pc := 248) (v := 1) dX0_year_248 (by decide) ?_
  refine g_aload_n (pc := 249) dX0_year_249 rfl 0 rfl ?_
  refine g_sipush (pc := 250) (v := 256) dX0_year_250 (by decide) ?_
  obtain ⟨r191, σ190, h189, h⟩ := g_bId h
  refine g_callVi (pc := 253) (st := [.int 1, .ref 32]) hE.1 wvX0_23 rfl rfl (kX0_draw hE 256 σ187 h189) rfl (gR_ok (by decide) (by decide)) (Nat.le_of_ble_eq_true rfl) rfl dX0_year_253 ?_
  obtain ⟨σ192, e193, h⟩ := g_ltd h
  refine g_iast (pc := 256) rfl (by decide) (j := 1) (by decide) e193 dX0_year_256 ?_
  refine g_iconst (pc := 257) (v := 0) dX0_year_257 (by decide) ?_
  cases h
  exact g_iret (pc := 258) rfl rfl rfl rfl dX0_year_258
def fX1_fill_b26 (n : Nat) (K26 : Int32 → Int32 → gM → Option (gM)) (v2 : Int32) (v3 : Int32) (σ : gM) : Option (gM) := if 255 ≤ v3 then (some σ) else (if ¬ (v3 < 0 ∨ 255 ≤ v3.toNatClampNeg) then (g_let (g_put σ 7 v3.toNatClampNeg v2) (fun σ15 => if ¬ ((v2 &&& 255) < 0 ∨ 256 ≤ (v2 &&& 255).toNatClampNeg) then (g_let (g_put σ15 8 ((v2 &&& 255).toNatClampNeg) v3) (fun σ18 => K26 ((v2 <<< (1 &&& 31)) ^^^ ((g_us v2 7) * (σ18.1 6 2))) (v3 + 1) σ18)) else none)) else none)
set_option maxRecDepth 100000 in
theorem tX1_fill_b26 (hE : gEX l dC dI ad ca X) {σ' : gM} (n : Nat) (K26 : Int32 → Int32 → gM → Option (gM)) (hK26 : ∀ (v2 : Int32) (v3 : Int32) (σ : gM), K26 v2 v3 σ = some σ' → g_G l dC dI ad ca shX X cX1_fill 4 RX1 none (gR 0) none σ' 26 [(0, .ref 6), (2, .int v2), (3, .int v3)] [] σ) (v2 : Int32) (v3 : Int32)  (σ : gM) (h : fX1_fill_b26 n K26 v2 v3 σ = some σ') : g_G l dC dI ad ca shX X cX1_fill 4 RX1 none (gR 0) none σ' 26 [(0, .ref 6), (2, .int v2), (3, .int v3)] [] σ := by
  unfold fX1_fill_b26 at h
  refine g_iload_n (pc := 26) dX1_fill_26 rfl 2 rfl ?_
  refine g_sipush (pc := 27) (v := 255) dX1_fill_27 (by decide) ?_
  refine g_icmp_ge (pc := 30) (tgt := 71) dX1_fill_30 (by decide) (fun c13 => ?_) (fun c13 => ?_)
  · have h := g_ift c13 h
    cases h
    exact g_vret (pc := 71) rfl rfl rfl dX1_fill_71
  · have h := g_iff c13 h
    refine g_aload_n (pc := 33) dX1_fill_33 rfl 0 rfl ?_
    refine g_getR (pc := 34) wfX1_9 rfl rfl dX1_fill_34 ?_
    refine g_iload_n (pc := 37) dX1_fill_37 rfl 2 rfl ?_
    refine g_iload_n (pc := 38) dX1_fill_38 rfl 1 rfl ?_
    obtain ⟨c14, h⟩ := g_gd h
    obtain ⟨σ15, e16, h⟩ := g_ltd h
    refine g_iast (pc := 39) rfl c14 rfl e16 dX1_fill_39 ?_
    refine g_aload_n (pc := 40) dX1_fill_40 rfl 0 rfl ?_
    refine g_getR (pc := 41) wfX1_13 rfl rfl dX1_fill_41 ?_
    refine g_iload_n (pc := 44) dX1_fill_44 rfl 1 rfl ?_
    refine g_sipush (pc := 45) (v := 255) dX1_fill_45 (by decide) ?_
    refine g_iand (pc := 48) dX1_fill_48 ?_
    refine g_iload_n (pc := 49) dX1_fill_49 rfl 2 rfl ?_
    obtain ⟨c17, h⟩ := g_gd h
    obtain ⟨σ18, e19, h⟩ := g_ltd h
    refine g_iast (pc := 50) rfl c17 rfl e19 dX1_fill_50 ?_
    refine g_iload_n (pc := 51) dX1_fill_51 rfl 1 rfl ?_
    refine g_iconst (pc := 52) (v := 1) dX1_fill_52 (by decide) ?_
    refine g_ishl (pc := 53) dX1_fill_53 ?_
    refine g_iload_n (pc := 54) dX1_fill_54 rfl 1 rfl ?_
    refine g_bipush (pc := 55) (v := 7) dX1_fill_55 (by decide) ?_
    refine g_iushr (pc := 57) dX1_fill_57 ?_
    refine g_aload_n (pc := 58) dX1_fill_58 rfl 0 rfl ?_
    refine g_getI (pc := 59) wfX1_16 rfl rfl dX1_fill_59 ?_
    refine g_imul (pc := 62) dX1_fill_62 ?_
    refine g_ixor (pc := 63) dX1_fill_63 ?_
    refine g_istore_n (pc := 64) (lv1 := [(2, .int ((v2 <<< (1 &&& 31)) ^^^ ((g_us v2 7) * (σ18.1 6 2)))), (0, .ref 6), (3, .int v3)]) dX1_fill_64 rfl (by decide) rfl ?_
    refine g_iinc (pc := 65) (v := v3 + 1) (lv1 := [(3, .int (v3 + 1)), (2, .int ((v2 <<< (1 &&& 31)) ^^^ ((g_us v2 7) * (σ18.1 6 2)))), (0, .ref 6)]) dX1_fill_65 2 rfl rfl (by decide) rfl ?_
    refine g_goto (pc := 68) (tgt := 26) dX1_fill_68 (by decide) ?_
    exact g_lv [2, 1, 0] rfl (hK26 ((v2 <<< (1 &&& 31)) ^^^ ((g_us v2 7) * (σ18.1 6 2))) (v3 + 1) σ18 h)
def fX1_fill_L26 (n : Nat) : Nat → Int32 → Int32 → gM → Option (gM)
  | 0 => fun _ _ _ => none
  | k + 1 => fX1_fill_b26 n (fX1_fill_L26 n k)
theorem tX1_fill_L26 (hE : gEX l dC dI ad ca X) {σ' : gM} (n : Nat)  : ∀ (k : Nat) (v2 : Int32) (v3 : Int32) (σ : gM), fX1_fill_L26 n k v2 v3 σ = some σ' → g_G l dC dI ad ca shX X cX1_fill 4 RX1 none (gR 0) none σ' 26 [(0, .ref 6), (2, .int v2), (3, .int v3)] [] σ := by
  intro k
  induction k with
  | zero => intro v2 v3 σ h; cases h
  | succ k ih => intro v2 v3 σ h; exact tX1_fill_b26 hE n (fX1_fill_L26 n k) ih v2 v3 σ h
def fX1_fill (n : Nat) (v1 : Int32) (σ : gM) : Option (gM) := if v1 < 0 then (some σ) else (if v1 < 4 then (if ¬ (v1 < 0 ∨ 4 ≤ v1.toNatClampNeg) then (g_let (g_put σ 6 2 (([285, 299, 301, 333] : List Int32).getD v1.toNatClampNeg 0)) (fun σ23 => fX1_fill_L26 n n 1 0 σ23)) else none) else (some σ))
set_option maxRecDepth 100000 in
theorem kX1_fill (hE : gEX l dC dI ad ca X) (n : Nat)  (v1 : Int32) (σ : gM) {σ' : gM} (h : fX1_fill n v1 σ = some σ') : g_C l dC dI ad ca shX X yX1_fill cX1_fill 4 none (gR 0) [.ref 6, .int v1] σ none σ' := by
  refine g_entry (by decide +kernel) (Nat.le_of_ble_eq_true rfl) ?_
  refine g_lvE (lv1 := [(0, .ref 6), (1, .int v1)]) rfl ?_
  unfold fX1_fill at h
  refine g_iload_n (pc := 0) dX1_fill_0 rfl 1 rfl ?_
  refine g_if_lt (pc := 1) (tgt := 12) dX1_fill_1 (by decide) (fun c20 => ?_) (fun c20 => ?_)
  · have h := g_ift c20 h
    cases h
    exact g_vret (pc := 12) rfl rfl rfl dX1_fill_12
  · have h := g_iff c20 h
    refine g_iload_n (pc := 4) dX1_fill_4 rfl 1 rfl ?_
    refine g_gets (pc := 5) (xzA hE 4 rfl) wgX1_20 dX1_fill_5 ?_
    refine g_tlen (pc := 8) (xtA hE 4 rfl) dX1_fill_8 ?_
    refine g_icmp_lt (pc := 9) (tgt := 13) dX1_fill_9 (by decide) (fun c21 => ?_) (fun c21 => ?_)
    · have h := g_ift c21 h
      refine g_aload_n (pc := 13) dX1_fill_13 rfl 0 rfl ?_
      refine g_gets (pc := 14) (xzA hE 4 rfl) wgX1_20 dX1_fill_14 ?_
      refine g_iload_n (pc := 17) dX1_fill_17 rfl 1 rfl ?_
      obtain ⟨c22, h⟩ := g_gd h
      refine g_ti (pc := 18) (xtA hE 4 rfl) c22 rfl dX1_fill_18 ?_
      obtain ⟨σ23, e24, h⟩ := g_ltd h
      refine g_putI (pc := 19) wfX1_16 rfl rfl rfl rfl e24 dX1_fill_19 ?_
      refine g_iconst (pc := 22) (v := 1) dX1_fill_22 (by decide) ?_
      refine g_istore_n (pc := 23) (lv1 := [(2, .int 1), (0, .ref 6), (1, .int v1)]) dX1_fill_23 rfl (by decide) rfl ?_
      refine g_iconst (pc := 24) (v := 0) dX1_fill_24 (by decide) ?_
      refine g_istore_n (pc := 25) (lv1 := [(3, .int 0), (2, .int 1), (0, .ref 6), (1, .int v1)]) dX1_fill_25 rfl (by decide) rfl ?_
      exact g_lv [2, 1, 0] rfl (tX1_fill_L26 hE n n 1 0 σ23 h)
    · have h := g_iff c21 h
      cases h
      exact g_vret (pc := 12) rfl rfl rfl dX1_fill_12
def fJ9_floorMod_7cf53_b18 (v2 : Int32) (σ : gM) : Option (Int32 × gM) := some (v2, σ)
set_option maxRecDepth 100000 in
theorem tJ9_floorMod_7cf53_b18 (hE : gEX l dC dI ad ca X) {r0 : Int32} {σ' : gM} (v2 : Int32)  (σ : gM) (h : fJ9_floorMod_7cf53_b18 v2 σ = some (r0, σ')) : g_G l dC dI ad ca shX X cJ9_floorMod_7cf53 3 RJ9 (some .int) (gR 0) (some (.int r0)) σ' 18 [(2, .int v2)] [] σ := by
  unfold fJ9_floorMod_7cf53_b18 at h
  refine g_iload_n (pc := 18) dJ9_floorMod_7cf53_18 rfl 0 rfl ?_
  cases h
  exact g_iret (pc := 19) rfl rfl rfl rfl dJ9_floorMod_7cf53_19
def fJ9_floorMod_7cf53 (v0 : Int32) (v1 : Int32) (σ : gM) : Option (Int32 × gM) := if v1 = 0 then none else (if 0 ≤ (v0 ^^^ v1) then (fJ9_floorMod_7cf53_b18 (v0 - v0 / v1 * v1) σ) else (if (v0 - v0 / v1 * v1) = 0 then (fJ9_floorMod_7cf53_b18 (v0 - v0 / v1 * v1) σ) else (some ((v0 - v0 / v1 * v1) + v1, σ))))
set_option maxRecDepth 100000 in
theorem kJ9_floorMod_7cf53 (hE : gEX l dC dI ad ca X)  (v0 : Int32) (v1 : Int32) (σ : gM) {r0 : Int32} {σ' : gM} (h : fJ9_floorMod_7cf53 v0 v1 σ = some (r0, σ')) : g_C l dC dI ad ca shX X yJ9_floorMod_7cf53 cJ9_floorMod_7cf53 3 (some .int) (gR 0) [.int v0, .int v1] σ (some (.int r0)) σ' := by
  refine g_entry (by decide +kernel) (Nat.le_of_ble_eq_true rfl) ?_
  refine g_lvE (lv1 := [(0, .int v0), (1, .int v1)]) rfl ?_
  unfold fJ9_floorMod_7cf53 at h
  refine g_iload_n (pc := 0) dJ9_floorMod_7cf53_0 rfl 0 rfl ?_
  refine g_iload_n (pc := 1) dJ9_floorMod_7cf53_1 rfl 1 rfl ?_
  obtain ⟨c4, h⟩ := g_gn h
  refine g_irem (pc := 2) dJ9_floorMod_7cf53_2 c4 ?_
  refine g_istore_n (pc := 3) (lv1 := [(2, .int (v0 - v0 / v1 * v1)), (0, .int v0), (1, .int v1)]) dJ9_floorMod_7cf53_3 rfl (by decide) rfl ?_
  refine g_iload_n (pc := 4) dJ9_floorMod_7cf53_4 rfl 1 rfl ?_
  refine g_iload_n (pc := 5) dJ9_floorMod_7cf53_5 rfl 2 rfl ?_
  refine g_ixor (pc := 6) dJ9_floorMod_7cf53_6 ?_
  refine g_if_ge (pc := 7) (tgt := 18) dJ9_floorMod_7cf53_7 (by decide) (fun c5 => ?_) (fun c5 => ?_)
  · have h := g_ift c5 h
    exact g_lv [0] rfl (tJ9_floorMod_7cf53_b18 hE (v0 - v0 / v1 * v1) σ h)
  · have h := g_iff c5 h
    refine g_iload_n (pc := 10) dJ9_floorMod_7cf53_10 rfl 0 rfl ?_
    refine g_if_eq (pc := 11) (tgt := 18) dJ9_floorMod_7cf53_11 (by decide) (fun c6 => ?_) (fun c6 => ?_)
    · have h := g_ift c6 h
      exact g_lv [0] rfl (tJ9_floorMod_7cf53_b18 hE (v0 - v0 / v1 * v1) σ h)
    · have h := g_iff c6 h
      refine g_iload_n (pc := 14) dJ9_floorMod_7cf53_14 rfl 0 rfl ?_
      refine g_iload_n (pc := 15) dJ9_floorMod_7cf53_15 rfl 2 rfl ?_
      refine g_iadd (pc := 16) dJ9_floorMod_7cf53_16 ?_
      cases h
      exact g_iret (pc := 17) rfl rfl rfl rfl dJ9_floorMod_7cf53_17
def fX1_powerOfTwo (v1 : Int32) (σ : gM) : Option (Int32 × gM) := g_bI (fJ9_floorMod_7cf53 v1 255 σ) (fun r7 σ6 => if ¬ (r7 < 0 ∨ 255 ≤ r7.toNatClampNeg) then (some (σ6.1 7 r7.toNatClampNeg, σ6)) else none)
set_option maxRecDepth 100000 in
theorem kX1_powerOfTwo (hE : gEX l dC dI ad ca X)  (v1 : Int32) (σ : gM) {r0 : Int32} {σ' : gM} (h : fX1_powerOfTwo v1 σ = some (r0, σ')) : g_C l dC dI ad ca shX X yX1_powerOfTwo cX1_powerOfTwo 2 (some .int) (gR 1) [.ref 6, .int v1] σ (some (.int r0)) σ' := by
  refine g_entry (by decide +kernel) (Nat.le_of_ble_eq_true rfl) ?_
  refine g_lvE (lv1 := [(0, .ref 6), (1, .int v1)]) rfl ?_
  unfold fX1_powerOfTwo at h
  refine g_aload_n (pc := 0) dX1_powerOfTwo_0 rfl 0 rfl ?_
  refine g_getR (pc := 1) wfX1_9 rfl rfl dX1_powerOfTwo_1 ?_
  refine g_iload_n (pc := 4) dX1_powerOfTwo_4 rfl 1 rfl ?_
  refine g_sipush (pc := 5) (v := 255) dX1_powerOfTwo_5 (by decide) ?_
  obtain ⟨r7, σ6, h5, h⟩ := g_bId h
  refine g_callSi (pc := 8) (st := [.ref 7]) hE.1 wsX1_23 (kJ9_floorMod_7cf53 hE v1 255 σ h5) rfl (gR_ok (by decide) (by decide)) (Nat.le_of_ble_eq_true rfl) rfl dX1_powerOfTwo_8 ?_
  obtain ⟨c8, h⟩ := g_gd h
  refine g_iald (pc := 11) rfl c8 rfl dX1_powerOfTwo_11 ?_
  cases h
  exact g_iret (pc := 12) rfl rfl rfl rfl dX1_powerOfTwo_12
def fX1_logarithm (v1 : Int32) (σ : gM) : Option (Int32 × gM) := if ¬ ((v1 &&& 255) < 0 ∨ 256 ≤ (v1 &&& 255).toNatClampNeg) then (some (σ.1 8 ((v1 &&& 255).toNatClampNeg), σ)) else none
set_option maxRecDepth 100000 in
theorem kX1_logarithm (hE : gEX l dC dI ad ca X)  (v1 : Int32) (σ : gM) {r0 : Int32} {σ' : gM} (h : fX1_logarithm v1 σ = some (r0, σ')) : g_C l dC dI ad ca shX X yX1_logarithm cX1_logarithm 2 (some .int) (gR 0) [.ref 6, .int v1] σ (some (.int r0)) σ' := by
  refine g_entry (by decide +kernel) (Nat.le_of_ble_eq_true rfl) ?_
  refine g_lvE (lv1 := [(0, .ref 6), (1, .int v1)]) rfl ?_
  unfold fX1_logarithm at h
  refine g_aload_n (pc := 0) dX1_logarithm_0 rfl 0 rfl ?_
  refine g_getR (pc := 1) wfX1_13 rfl rfl dX1_logarithm_1 ?_
  refine g_iload_n (pc := 4) dX1_logarithm_4 rfl 1 rfl ?_
  refine g_sipush (pc := 5) (v := 255) dX1_logarithm_5 (by decide) ?_
  refine g_iand (pc := 8) dX1_logarithm_8 ?_
  obtain ⟨c2, h⟩ := g_gd h
  refine g_iald (pc := 9) rfl c2 rfl dX1_logarithm_9 ?_
  cases h
  exact g_iret (pc := 10) rfl rfl rfl rfl dX1_logarithm_10
def fX1_product (v1 : Int32) (v2 : Int32) (σ : gM) : Option (Int32 × gM) := if v1 = 0 then (some (0, σ)) else (if v2 = 0 then (some (0, σ)) else (if ¬ ((v1 &&& 255) < 0 ∨ 256 ≤ (v1 &&& 255).toNatClampNeg) then (if ¬ ((v2 &&& 255) < 0 ∨ 256 ≤ (v2 &&& 255).toNatClampNeg) then (g_bI (fJ9_floorMod_7cf53 ((σ.1 8 ((v1 &&& 255).toNatClampNeg)) + (σ.1 8 ((v2 &&& 255).toNatClampNeg))) 255 σ) (fun r15 σ14 => if ¬ (r15 < 0 ∨ 255 ≤ r15.toNatClampNeg) then (some (σ14.1 7 r15.toNatClampNeg, σ14)) else none)) else none) else none))
set_option maxRecDepth 100000 in
theorem kX1_product (hE : gEX l dC dI ad ca X)  (v1 : Int32) (v2 : Int32) (σ : gM) {r0 : Int32} {σ' : gM} (h : fX1_product v1 v2 σ = some (r0, σ')) : g_C l dC dI ad ca shX X yX1_product cX1_product 3 (some .int) (gR 1) [.ref 6, .int v1, .int v2] σ (some (.int r0)) σ' := by
  refine g_entry (by decide +kernel) (Nat.le_of_ble_eq_true rfl) ?_
  refine g_lvE (lv1 := [(0, .ref 6), (1, .int v1), (2, .int v2)]) rfl ?_
  unfold fX1_product at h
  refine g_iload_n (pc := 0) dX1_product_0 rfl 1 rfl ?_
  refine g_if_eq (pc := 1) (tgt := 8) dX1_product_1 (by decide) (fun c9 => ?_) (fun c9 => ?_)
  · have h := g_ift c9 h
    refine g_iconst (pc := 8) (v := 0) dX1_product_8 (by decide) ?_
    cases h
    exact g_iret (pc := 9) rfl rfl rfl rfl dX1_product_9
  · have h := g_iff c9 h
    refine g_iload_n (pc := 4) dX1_product_4 rfl 2 rfl ?_
    refine g_if_ne (pc := 5) (tgt := 10) dX1_product_5 (by decide) (fun c10 => ?_) (fun c10 => ?_)
    · have h := g_iff c10 h
      refine g_aload_n (pc := 10) dX1_product_10 rfl 0 rfl ?_
      refine g_getR (pc := 11) wfX1_9 rfl rfl dX1_product_11 ?_
      refine g_aload_n (pc := 14) dX1_product_14 rfl 0 rfl ?_
      refine g_getR (pc := 15) wfX1_13 rfl rfl dX1_product_15 ?_
      refine g_iload_n (pc := 18) dX1_product_18 rfl 1 rfl ?_
      refine g_sipush (pc := 19) (v := 255) dX1_product_19 (by decide) ?_
      refine g_iand (pc := 22) dX1_product_22 ?_
      obtain ⟨c11, h⟩ := g_gd h
      refine g_iald (pc := 23) rfl c11 rfl dX1_product_23 ?_
      refine g_aload_n (pc := 24) dX1_product_24 rfl 0 rfl ?_
      refine g_getR (pc := 25) wfX1_13 rfl rfl dX1_product_25 ?_
      refine g_iload_n (pc := 28) dX1_product_28 rfl 2 rfl ?_
      refine g_sipush (pc := 29) (v := 255) dX1_product_29 (by decide) ?_
      refine g_iand (pc := 32) dX1_product_32 ?_
      obtain ⟨c12, h⟩ := g_gd h
      refine g_iald (pc := 33) rfl c12 rfl dX1_product_33 ?_
      refine g_iadd (pc := 34) dX1_product_34 ?_
      refine g_sipush (pc := 35) (v := 255) dX1_product_35 (by decide) ?_
      obtain ⟨r15, σ14, h13, h⟩ := g_bId h
      refine g_callSi (pc := 38) (st := [.ref 7]) hE.1 wsX1_23 (kJ9_floorMod_7cf53 hE ((σ.1 8 ((v1 &&& 255).toNatClampNeg)) + (σ.1 8 ((v2 &&& 255).toNatClampNeg))) 255 σ h13) rfl (gR_ok (by decide) (by decide)) (Nat.le_of_ble_eq_true rfl) rfl dX1_product_38 ?_
      obtain ⟨c16, h⟩ := g_gd h
      refine g_iald (pc := 41) rfl c16 rfl dX1_product_41 ?_
      cases h
      exact g_iret (pc := 42) rfl rfl rfl rfl dX1_product_42
    · have h := g_ift c10 h
      refine g_iconst (pc := 8) (v := 0) dX1_product_8 (by decide) ?_
      cases h
      exact g_iret (pc := 9) rfl rfl rfl rfl dX1_product_9
def fX1_quotient (v1 : Int32) (v2 : Int32) (σ : gM) : Option (Int32 × gM) := if v1 = 0 then (some (0, σ)) else (if v2 = 0 then (some (0, σ)) else (if ¬ ((v1 &&& 255) < 0 ∨ 256 ≤ (v1 &&& 255).toNatClampNeg) then (if ¬ ((v2 &&& 255) < 0 ∨ 256 ≤ (v2 &&& 255).toNatClampNeg) then (g_bI (fJ9_floorMod_7cf53 ((σ.1 8 ((v1 &&& 255).toNatClampNeg)) - (σ.1 8 ((v2 &&& 255).toNatClampNeg))) 255 σ) (fun r15 σ14 => if ¬ (r15 < 0 ∨ 255 ≤ r15.toNatClampNeg) then (some (σ14.1 7 r15.toNatClampNeg, σ14)) else none)) else none) else none))
set_option maxRecDepth 100000 in
theorem kX1_quotient (hE : gEX l dC dI ad ca X)  (v1 : Int32) (v2 : Int32) (σ : gM) {r0 : Int32} {σ' : gM} (h : fX1_quotient v1 v2 σ = some (r0, σ')) : g_C l dC dI ad ca shX X yX1_quotient cX1_quotient 3 (some .int) (gR 1) [.ref 6, .int v1, .int v2] σ (some (.int r0)) σ' := by
  refine g_entry (by decide +kernel) (Nat.le_of_ble_eq_true rfl) ?_
  refine g_lvE (lv1 := [(0, .ref 6), (1, .int v1), (2, .int v2)]) rfl ?_
  unfold fX1_quotient at h
  refine g_iload_n (pc := 0) dX1_quotient_0 rfl 1 rfl ?_
  refine g_if_eq (pc := 1) (tgt := 8) dX1_quotient_1 (by decide) (fun c9 => ?_) (fun c9 => ?_)
  · have h := g_ift c9 h
    refine g_iconst (pc := 8) (v := 0) dX1_quotient_8 (by decide) ?_
    cases h
    exact g_iret (pc := 9) rfl rfl rfl rfl dX1_quotient_9
  · have h := g_iff c9 h
    refine g_iload_n (pc := 4) dX1_quotient_4 rfl 2 rfl ?_
    refine g_if_ne (pc := 5) (tgt := 10) dX1_quotient_5 (by decide) (fun c10 => ?_) (fun c10 => ?_)
    · have h := g_iff c10 h
      refine g_aload_n (pc := 10) dX1_quotient_10 rfl 0 rfl ?_
      refine g_getR (pc := 11) wfX1_9 rfl rfl dX1_quotient_11 ?_
      refine g_aload_n (pc := 14) dX1_quotient_14 rfl 0 rfl ?_
      refine g_getR (pc := 15) wfX1_13 rfl rfl dX1_quotient_15 ?_
      refine g_iload_n (pc := 18) dX1_quotient_18 rfl 1 rfl ?_
      refine g_sipush (pc := 19) (v := 255) dX1_quotient_19 (by decide) ?_
      refine g_iand (pc := 22) dX1_quotient_22 ?_
      obtain ⟨c11, h⟩ := g_gd h
      refine g_iald (pc := 23) rfl c11 rfl dX1_quotient_23 ?_
      refine g_aload_n (pc := 24) dX1_quotient_24 rfl 0 rfl ?_
      refine g_getR (pc := 25) wfX1_13 rfl rfl dX1_quotient_25 ?_
      refine g_iload_n (pc := 28) dX1_quotient_28 rfl 2 rfl ?_
      refine g_sipush (pc := 29) (v := 255) dX1_quotient_29 (by decide) ?_
      refine g_iand (pc := 32) dX1_quotient_32 ?_
      obtain ⟨c12, h⟩ := g_gd h
      refine g_iald (pc := 33) rfl c12 rfl dX1_quotient_33 ?_
      refine g_isub (pc := 34) dX1_quotient_34 ?_
      refine g_sipush (pc := 35) (v := 255) dX1_quotient_35 (by decide) ?_
      obtain ⟨r15, σ14, h13, h⟩ := g_bId h
      refine g_callSi (pc := 38) (st := [.ref 7]) hE.1 wsX1_23 (kJ9_floorMod_7cf53 hE ((σ.1 8 ((v1 &&& 255).toNatClampNeg)) - (σ.1 8 ((v2 &&& 255).toNatClampNeg))) 255 σ h13) rfl (gR_ok (by decide) (by decide)) (Nat.le_of_ble_eq_true rfl) rfl dX1_quotient_38 ?_
      obtain ⟨c16, h⟩ := g_gd h
      refine g_iald (pc := 41) rfl c16 rfl dX1_quotient_41 ?_
      cases h
      exact g_iret (pc := 42) rfl rfl rfl rfl dX1_quotient_42
    · have h := g_ift c10 h
      refine g_iconst (pc := 8) (v := 0) dX1_quotient_8 (by decide) ?_
      cases h
      exact g_iret (pc := 9) rfl rfl rfl rfl dX1_quotient_9
def fX1_sumByPowers_b12 (n : Nat) (j : Nat) (K12 : Int32 → Int32 → gM → Option (Int32 × gM)) (v3 : Int32) (v4 : Int32) (σ : gM) : Option (Int32 × gM) := if v4 < 0 then (some (v3, σ)) else (if ¬ (v4 < 0 ∨ 8 ≤ v4.toNatClampNeg) then (K12 (((v3 <<< (1 &&& 31)) ^^^ ((g_us v3 7) * (σ.1 6 2))) ^^^ (σ.1 (13 + 5 * j) v4.toNatClampNeg)) (v4 + (-1)) σ) else none)
set_option maxRecDepth 100000 in
theorem tX1_sumByPowers_b12 (hE : gEX l dC dI ad ca X) {r0 : Int32} {σ' : gM} (n : Nat) (j : Nat) (hj : j < 3) (K12 : Int32 → Int32 → gM → Option (Int32 × gM)) (hK12 : ∀ (v3 : Int32) (v4 : Int32) (σ : gM), K12 v3 v4 σ = some (r0, σ') → g_G l dC dI ad ca shX X cX1_sumByPowers 5 RX1 (some .int) (gR 1) (some (.int r0)) σ' 12 [(0, .ref 6), (1, .ref (13 + 5 * j)), (3, .int v3), (4, .int v4)] [] σ) (v3 : Int32) (v4 : Int32)  (σ : gM) (h : fX1_sumByPowers_b12 n j K12 v3 v4 σ = some (r0, σ')) : g_G l dC dI ad ca shX X cX1_sumByPowers 5 RX1 (some .int) (gR 1) (some (.int r0)) σ' 12 [(0, .ref 6), (1, .ref (13 + 5 * j)), (3, .int v3), (4, .int v4)] [] σ := by
  unfold fX1_sumByPowers_b12 at h
  refine g_iload (pc := 12) dX1_sumByPowers_12 3 rfl ?_
  refine g_if_lt (pc := 14) (tgt := 42) dX1_sumByPowers_14 (by decide) (fun c3 => ?_) (fun c3 => ?_)
  · have h := g_ift c3 h
    refine g_iload_n (pc := 42) dX1_sumByPowers_42 rfl 2 rfl ?_
    cases h
    exact g_iret (pc := 43) rfl rfl rfl rfl dX1_sumByPowers_43
  · have h := g_iff c3 h
    refine g_iload_n (pc := 17) dX1_sumByPowers_17 rfl 2 rfl ?_
    refine g_iconst (pc := 18) (v := 1) dX1_sumByPowers_18 (by decide) ?_
    refine g_ishl (pc := 19) dX1_sumByPowers_19 ?_
    refine g_iload_n (pc := 20) dX1_sumByPowers_20 rfl 2 rfl ?_
    refine g_bipush (pc := 21) (v := 7) dX1_sumByPowers_21 (by decide) ?_
    refine g_iushr (pc := 23) dX1_sumByPowers_23 ?_
    refine g_aload_n (pc := 24) dX1_sumByPowers_24 rfl 0 rfl ?_
    refine g_getI (pc := 25) wfX1_16 rfl rfl dX1_sumByPowers_25 ?_
    refine g_imul (pc := 28) dX1_sumByPowers_28 ?_
    refine g_ixor (pc := 29) dX1_sumByPowers_29 ?_
    refine g_aload_n (pc := 30) dX1_sumByPowers_30 rfl 1 rfl ?_
    refine g_iload (pc := 31) dX1_sumByPowers_31 3 rfl ?_
    obtain ⟨c4, h⟩ := g_gd h
    refine g_iald (pc := 33) (sX_rb (i := j) hj) c4 rfl dX1_sumByPowers_33 ?_
    refine g_ixor (pc := 34) dX1_sumByPowers_34 ?_
    refine g_istore_n (pc := 35) (lv1 := [(3, .int (((v3 <<< (1 &&& 31)) ^^^ ((g_us v3 7) * (σ.1 6 2))) ^^^ (σ.1 (13 + 5 * j) v4.toNatClampNeg))), (0, .ref 6), (1, .ref (13 + 5 * j)), (4, .int v4)]) dX1_sumByPowers_35 rfl (by decide) rfl ?_
    refine g_iinc (pc := 36) (v := v4 + (-1)) (lv1 := [(4, .int (v4 + (-1))), (3, .int (((v3 <<< (1 &&& 31)) ^^^ ((g_us v3 7) * (σ.1 6 2))) ^^^ (σ.1 (13 + 5 * j) v4.toNatClampNeg))), (0, .ref 6), (1, .ref (13 + 5 * j))]) dX1_sumByPowers_36 3 rfl rfl (by decide) rfl ?_
    refine g_goto (pc := 39) (tgt := 12) dX1_sumByPowers_39 (by decide) ?_
    exact g_lv [2, 3, 1, 0] rfl (hK12 (((v3 <<< (1 &&& 31)) ^^^ ((g_us v3 7) * (σ.1 6 2))) ^^^ (σ.1 (13 + 5 * j) v4.toNatClampNeg)) (v4 + (-1)) σ h)
def fX1_sumByPowers_L12 (n : Nat) (j : Nat) : Nat → Int32 → Int32 → gM → Option (Int32 × gM)
  | 0 => fun _ _ _ => none
  | k + 1 => fX1_sumByPowers_b12 n j (fX1_sumByPowers_L12 n j k)
theorem tX1_sumByPowers_L12 (hE : gEX l dC dI ad ca X) {r0 : Int32} {σ' : gM} (n : Nat) (j : Nat) (hj : j < 3)  : ∀ (k : Nat) (v3 : Int32) (v4 : Int32) (σ : gM), fX1_sumByPowers_L12 n j k v3 v4 σ = some (r0, σ') → g_G l dC dI ad ca shX X cX1_sumByPowers 5 RX1 (some .int) (gR 1) (some (.int r0)) σ' 12 [(0, .ref 6), (1, .ref (13 + 5 * j)), (3, .int v3), (4, .int v4)] [] σ := by
  intro k
  induction k with
  | zero => intro v3 v4 σ h; cases h
  | succ k ih => intro v3 v4 σ h; exact tX1_sumByPowers_b12 hE n j hj (fX1_sumByPowers_L12 n j k) ih v3 v4 σ h
def fX1_sumByPowers (n : Nat) (j : Nat) (v2 : Int32) (σ : gM) : Option (Int32 × gM) := fX1_sumByPowers_L12 n j n 0 ((if 8 < v2 then 8 else v2) - 1) σ
set_option maxRecDepth 100000 in
theorem kX1_sumByPowers (hE : gEX l dC dI ad ca X) (n : Nat) (j : Nat) (hj : j < 3)  (v2 : Int32) (σ : gM) {r0 : Int32} {σ' : gM} (h : fX1_sumByPowers n j v2 σ = some (r0, σ')) : g_C l dC dI ad ca shX X yX1_sumByPowers cX1_sumByPowers 5 (some .int) (gR 1) [.ref 6, .ref (13 + 5 * j), .int v2] σ (some (.int r0)) σ' := by
  refine g_entry (by decide +kernel) (Nat.le_of_ble_eq_true rfl) ?_
  refine g_lvE (lv1 := [(0, .ref 6), (1, .ref (13 + 5 * j)), (2, .int v2)]) rfl ?_
  unfold fX1_sumByPowers at h
  refine g_iconst (pc := 0) (v := 0) dX1_sumByPowers_0 (by decide) ?_
  refine g_istore_n (pc := 1) (lv1 := [(3, .int 0), (0, .ref 6), (1, .ref (13 + 5 * j)), (2, .int v2)]) dX1_sumByPowers_1 rfl (by decide) rfl ?_
  refine g_iload_n (pc := 2) dX1_sumByPowers_2 rfl 3 rfl ?_
  refine g_aload_n (pc := 3) dX1_sumByPowers_3 rfl 2 rfl ?_
  refine g_alen (pc := 4) (sX_rb (i := j) hj) dX1_sumByPowers_4 ?_
  refine g_min (pc := 5) (st := []) wmX1_29 ⟨by decide, by decide⟩ dX1_sumByPowers_5 ?_
  refine g_iconst (pc := 8) (v := 1) dX1_sumByPowers_8 (by decide) ?_
  refine g_isub (pc := 9) dX1_sumByPowers_9 ?_
  refine g_istore (pc := 10) (lv1 := [(4, .int ((if 8 < v2 then 8 else v2) - 1)), (3, .int 0), (0, .ref 6), (1, .ref (13 + 5 * j)), (2, .int v2)]) dX1_sumByPowers_10 (by decide) rfl ?_
  exact g_lv [2, 3, 1, 0] rfl (tX1_sumByPowers_L12 hE n j hj n 0 ((if 8 < v2 then 8 else v2) - 1) σ h)
def fX2_size (σ : gM) : Option (Int32 × gM) := some (σ.1 29 2, σ)
set_option maxRecDepth 100000 in
theorem kX2_size (hE : gEX l dC dI ad ca X)  (σ : gM) {r0 : Int32} {σ' : gM} (h : fX2_size σ = some (r0, σ')) : g_C l dC dI ad ca shX X yX2_size cX2_size 1 (some .int) (gR 0) [.ref 29] σ (some (.int r0)) σ' := by
  refine g_entry (by decide +kernel) (Nat.le_of_ble_eq_true rfl) ?_
  refine g_lvE (lv1 := [(0, .ref 29)]) rfl ?_
  unfold fX2_size at h
  refine g_aload_n (pc := 0) dX2_size_0 rfl 0 rfl ?_
  refine g_getI (pc := 1) wfX2_19 rfl rfl dX2_size_1 ?_
  cases h
  exact g_iret (pc := 4) rfl rfl rfl rfl dX2_size_4
def fX9_saveTo (i : Nat) (v2 : Int32) (σ : gM) : Option (gM) := if v2 < 0 then (some σ) else (if (5760 - 144) < v2 then (some σ) else (if ¬ (0 : Int32) < 0 then (if ¬ v2 < 0 then (if ¬ (144 : Int32) < 0 then (if (0 : Int32).toNatClampNeg + (144 : Int32).toNatClampNeg ≤ 144 then (if v2.toNatClampNeg + (144 : Int32).toNatClampNeg ≤ 5760 then (g_let (g_row σ 30 (va_cpy (σ.1 (11 + 5 * i)) (σ.1 30) (0 : Int32).toNatClampNeg v2.toNatClampNeg (144 : Int32).toNatClampNeg)) (fun σ17 => some σ17)) else none) else none) else none) else none) else none))
set_option maxRecDepth 100000 in
theorem kX9_saveTo (hE : gEX l dC dI ad ca X) (i : Nat) (hi : i < 3)  (v2 : Int32) (σ : gM) {σ' : gM} (h : fX9_saveTo i v2 σ = some σ') : g_C l dC dI ad ca shX X yX9_saveTo cX9_saveTo 3 none (gR 1) [.ref (10 + 5 * i), .ref 30, .int v2] σ none σ' := by
  refine g_entry (by decide +kernel) (Nat.le_of_ble_eq_true rfl) ?_
  refine g_lvE (lv1 := [(0, .ref (10 + 5 * i)), (1, .ref 30), (2, .int v2)]) rfl ?_
  unfold fX9_saveTo at h
  refine g_iload_n (pc := 0) dX9_saveTo_0 rfl 2 rfl ?_
  refine g_if_lt (pc := 1) (tgt := 27) dX9_saveTo_1 (by decide) (fun c10 => ?_) (fun c10 => ?_)
  · have h := g_ift c10 h
    cases h
    exact g_vret (pc := 27) rfl rfl rfl dX9_saveTo_27
  · have h := g_iff c10 h
    refine g_iload_n (pc := 4) dX9_saveTo_4 rfl 2 rfl ?_
    refine g_aload_n (pc := 5) dX9_saveTo_5 rfl 1 rfl ?_
    refine g_alen (pc := 6) rfl dX9_saveTo_6 ?_
    refine g_sipush (pc := 7) (v := 144) dX9_saveTo_7 (by decide) ?_
    refine g_isub (pc := 10) dX9_saveTo_10 ?_
    refine g_icmp_gt (pc := 11) (tgt := 27) dX9_saveTo_11 (by decide) (fun c11 => ?_) (fun c11 => ?_)
    · have h := g_ift c11 h
      cases h
      exact g_vret (pc := 27) rfl rfl rfl dX9_saveTo_27
    · have h := g_iff c11 h
      refine g_aload_n (pc := 14) dX9_saveTo_14 rfl 0 rfl ?_
      refine g_getR (pc := 15) wfX9_11 (sX_state (i := i) hi) rfl dX9_saveTo_15 ?_
      refine g_iconst (pc := 18) (v := 0) dX9_saveTo_18 (by decide) ?_
      refine g_aload_n (pc := 19) dX9_saveTo_19 rfl 1 rfl ?_
      refine g_iload_n (pc := 20) dX9_saveTo_20 rfl 2 rfl ?_
      refine g_sipush (pc := 21) (v := 144) dX9_saveTo_21 (by decide) ?_
      obtain ⟨c12, h⟩ := g_gd h
      obtain ⟨c13, h⟩ := g_gd h
      obtain ⟨c14, h⟩ := g_gd h
      obtain ⟨c15, h⟩ := g_gd h
      obtain ⟨c16, h⟩ := g_gd h
      obtain ⟨σ17, e18, h⟩ := g_ltd h
      refine g_copy (pc := 24) (st := []) waX9_31 (sX_slots (i := i) hi) rfl c12 c13 c14 c15 c16 ⟨by decide, by decide⟩ e18 dX9_saveTo_24 ?_
      cases h
      exact g_vret (pc := 27) rfl rfl rfl dX9_saveTo_27
def fX2_keep_b38 (j : Nat) (s0 : Int32) (σ : gM) : Option (gM) := g_let (g_put σ 29 1 s0) (fun σ8 => g_let (g_put σ8 29 2 (if 40 < ((σ8.1 29 2) + 1) then 40 else ((σ8.1 29 2) + 1))) (fun σ10 => some σ10))
set_option maxRecDepth 100000 in
theorem tX2_keep_b38 (hE : gEX l dC dI ad ca X) {σ' : gM} (j : Nat) (hj : j < 3) (s0 : Int32)  (σ : gM) (h : fX2_keep_b38 j s0 σ = some σ') : g_G l dC dI ad ca shX X cX2_keep 2 RX2 none (gR 2) none σ' 38 [(0, .ref 29)] [.int s0, .ref 29] σ := by
  unfold fX2_keep_b38 at h
  obtain ⟨σ8, e9, h⟩ := g_ltd h
  refine g_putI (pc := 38) wfX2_15 rfl rfl rfl rfl e9 dX2_keep_38 ?_
  refine g_aload_n (pc := 41) dX2_keep_41 rfl 0 rfl ?_
  refine g_aload_n (pc := 42) dX2_keep_42 rfl 0 rfl ?_
  refine g_getI (pc := 43) wfX2_19 rfl rfl dX2_keep_43 ?_
  refine g_iconst (pc := 46) (v := 1) dX2_keep_46 (by decide) ?_
  refine g_iadd (pc := 47) dX2_keep_47 ?_
  refine g_bipush (pc := 48) (v := 40) dX2_keep_48 (by decide) ?_
  refine g_min (pc := 50) (st := [.ref 29]) wmX2_26 ⟨by decide, by decide⟩ dX2_keep_50 ?_
  obtain ⟨σ10, e11, h⟩ := g_ltd h
  refine g_putI (pc := 53) wfX2_19 rfl rfl rfl rfl e11 dX2_keep_53 ?_
  cases h
  exact g_vret (pc := 56) rfl rfl rfl dX2_keep_56
def fX2_keep (j : Nat) (σ : gM) : Option (gM) := g_bV (fX9_saveTo j ((σ.1 29 1) * 144) σ) (fun σ13 => if 40 ≤ ((σ13.1 29 1) + 1) then (fX2_keep_b38 j 0 σ13) else (fX2_keep_b38 j ((σ13.1 29 1) + 1) σ13))
set_option maxRecDepth 100000 in
theorem kX2_keep (hE : gEX l dC dI ad ca X) (j : Nat) (hj : j < 3)  (σ : gM) {σ' : gM} (h : fX2_keep j σ = some σ') : g_C l dC dI ad ca shX X yX2_keep cX2_keep 2 none (gR 2) [.ref 29, .ref (10 + 5 * j)] σ none σ' := by
  refine g_entry (by decide +kernel) (Nat.le_of_ble_eq_true rfl) ?_
  refine g_lvE (lv1 := [(0, .ref 29), (1, .ref (10 + 5 * j))]) rfl ?_
  unfold fX2_keep at h
  refine g_aload_n (pc := 0) dX2_keep_0 rfl 1 rfl ?_
  refine g_aload_n (pc := 1) dX2_keep_1 rfl 0 rfl ?_
  refine g_getR (pc := 2) wfX2_11 rfl rfl dX2_keep_2 ?_
  refine g_aload_n (pc := 5) dX2_keep_5 rfl 0 rfl ?_
  refine g_getI (pc := 6) wfX2_15 rfl rfl dX2_keep_6 ?_
  refine g_sipush (pc := 9) (v := 144) dX2_keep_9 (by decide) ?_
  refine g_imul (pc := 12) dX2_keep_12 ?_
  obtain ⟨σ13, h12, h⟩ := g_bVd h
  refine g_callVv (pc := 13) (st := []) hE.1 wvX2_22 (sX_state (i := j) hj) rfl (kX9_saveTo hE j hj ((σ.1 29 1) * 144) σ h12) rfl (gR_ok (by decide) (by decide)) (Nat.le_of_ble_eq_true rfl) rfl dX2_keep_13 ?_
  refine g_aload_n (pc := 16) dX2_keep_16 rfl 0 rfl ?_
  refine g_aload_n (pc := 17) dX2_keep_17 rfl 0 rfl ?_
  refine g_getI (pc := 18) wfX2_15 rfl rfl dX2_keep_18 ?_
  refine g_iconst (pc := 21) (v := 1) dX2_keep_21 (by decide) ?_
  refine g_iadd (pc := 22) dX2_keep_22 ?_
  refine g_bipush (pc := 23) (v := 40) dX2_keep_23 (by decide) ?_
  refine g_icmp_ge (pc := 25) (tgt := 37) dX2_keep_25 (by decide) (fun c14 => ?_) (fun c14 => ?_)
  · have h := g_ift c14 h
    refine g_iconst (pc := 37) (v := 0) dX2_keep_37 (by decide) ?_
    exact g_lv [0] rfl (tX2_keep_b38 hE j hj 0 σ13 h)
  · have h := g_iff c14 h
    refine g_aload_n (pc := 28) dX2_keep_28 rfl 0 rfl ?_
    refine g_getI (pc := 29) wfX2_15 rfl rfl dX2_keep_29 ?_
    refine g_iconst (pc := 32) (v := 1) dX2_keep_32 (by decide) ?_
    refine g_iadd (pc := 33) dX2_keep_33 ?_
    refine g_goto (pc := 34) (tgt := 38) dX2_keep_34 (by decide) ?_
    exact g_lv [0] rfl (tX2_keep_b38 hE j hj ((σ13.1 29 1) + 1) σ13 h)
def fX9_loadFrom (i : Nat) (v2 : Int32) (σ : gM) : Option (gM) := if v2 < 0 then (some σ) else (if (5760 - 144) < v2 then (some σ) else (if ¬ v2 < 0 then (if ¬ (0 : Int32) < 0 then (if ¬ (144 : Int32) < 0 then (if v2.toNatClampNeg + (144 : Int32).toNatClampNeg ≤ 5760 then (if (0 : Int32).toNatClampNeg + (144 : Int32).toNatClampNeg ≤ 144 then (g_let (g_row σ (11 + 5 * i) (va_cpy (σ.1 30) (σ.1 (11 + 5 * i)) v2.toNatClampNeg (0 : Int32).toNatClampNeg (144 : Int32).toNatClampNeg)) (fun σ17 => some σ17)) else none) else none) else none) else none) else none))
set_option maxRecDepth 100000 in
theorem kX9_loadFrom (hE : gEX l dC dI ad ca X) (i : Nat) (hi : i < 3)  (v2 : Int32) (σ : gM) {σ' : gM} (h : fX9_loadFrom i v2 σ = some σ') : g_C l dC dI ad ca shX X yX9_loadFrom cX9_loadFrom 3 none (gR 1) [.ref (10 + 5 * i), .ref 30, .int v2] σ none σ' := by
  refine g_entry (by decide +kernel) (Nat.le_of_ble_eq_true rfl) ?_
  refine g_lvE (lv1 := [(0, .ref (10 + 5 * i)), (1, .ref 30), (2, .int v2)]) rfl ?_
  unfold fX9_loadFrom at h
  refine g_iload_n (pc := 0) dX9_loadFrom_0 rfl 2 rfl ?_
  refine g_if_lt (pc := 1) (tgt := 27) dX9_loadFrom_1 (by decide) (fun c10 => ?_) (fun c10 => ?_)
  · have h := g_ift c10 h
    cases h
    exact g_vret (pc := 27) rfl rfl rfl dX9_loadFrom_27
  · have h := g_iff c10 h
    refine g_iload_n (pc := 4) dX9_loadFrom_4 rfl 2 rfl ?_
    refine g_aload_n (pc := 5) dX9_loadFrom_5 rfl 1 rfl ?_
    refine g_alen (pc := 6) rfl dX9_loadFrom_6 ?_
    refine g_sipush (pc := 7) (v := 144) dX9_loadFrom_7 (by decide) ?_
    refine g_isub (pc := 10) dX9_loadFrom_10 ?_
    refine g_icmp_gt (pc := 11) (tgt := 27) dX9_loadFrom_11 (by decide) (fun c11 => ?_) (fun c11 => ?_)
    · have h := g_ift c11 h
      cases h
      exact g_vret (pc := 27) rfl rfl rfl dX9_loadFrom_27
    · have h := g_iff c11 h
      refine g_aload_n (pc := 14) dX9_loadFrom_14 rfl 1 rfl ?_
      refine g_iload_n (pc := 15) dX9_loadFrom_15 rfl 2 rfl ?_
      refine g_aload_n (pc := 16) dX9_loadFrom_16 rfl 0 rfl ?_
      refine g_getR (pc := 17) wfX9_11 (sX_state (i := i) hi) rfl dX9_loadFrom_17 ?_
      refine g_iconst (pc := 20) (v := 0) dX9_loadFrom_20 (by decide) ?_
      refine g_sipush (pc := 21) (v := 144) dX9_loadFrom_21 (by decide) ?_
      obtain ⟨c12, h⟩ := g_gd h
      obtain ⟨c13, h⟩ := g_gd h
      obtain ⟨c14, h⟩ := g_gd h
      obtain ⟨c15, h⟩ := g_gd h
      obtain ⟨c16, h⟩ := g_gd h
      obtain ⟨σ17, e18, h⟩ := g_ltd h
      refine g_copy (pc := 24) (st := []) waX9_31 rfl (sX_slots (i := i) hi) c12 c13 c14 c15 c16 ⟨by decide, by decide⟩ e18 dX9_loadFrom_24 ?_
      cases h
      exact g_vret (pc := 27) rfl rfl rfl dX9_loadFrom_27
def fX2_bringBack_b26 (j : Nat) (s0 : Int32) (σ : gM) : Option (gM) := g_let (g_put σ 29 1 s0) (fun σ9 => g_bV (fX9_loadFrom j ((σ9.1 29 1) * 144) σ9) (fun σ12 => g_let (g_put σ12 29 2 ((σ12.1 29 2) - 1)) (fun σ13 => some σ13)))
set_option maxRecDepth 100000 in
theorem tX2_bringBack_b26 (hE : gEX l dC dI ad ca X) {σ' : gM} (j : Nat) (hj : j < 3) (s0 : Int32)  (σ : gM) (h : fX2_bringBack_b26 j s0 σ = some σ') : g_G l dC dI ad ca shX X cX2_bringBack 2 RX2 none (gR 2) none σ' 26 [(0, .ref 29), (1, .ref (10 + 5 * j))] [.int s0, .ref 29] σ := by
  unfold fX2_bringBack_b26 at h
  obtain ⟨σ9, e10, h⟩ := g_ltd h
  refine g_putI (pc := 26) wfX2_15 rfl rfl rfl rfl e10 dX2_bringBack_26 ?_
  refine g_aload_n (pc := 29) dX2_bringBack_29 rfl 1 rfl ?_
  refine g_aload_n (pc := 30) dX2_bringBack_30 rfl 0 rfl ?_
  refine g_getR (pc := 31) wfX2_11 rfl rfl dX2_bringBack_31 ?_
  refine g_aload_n (pc := 34) dX2_bringBack_34 rfl 0 rfl ?_
  refine g_getI (pc := 35) wfX2_15 rfl rfl dX2_bringBack_35 ?_
  refine g_sipush (pc := 38) (v := 144) dX2_bringBack_38 (by decide) ?_
  refine g_imul (pc := 41) dX2_bringBack_41 ?_
  obtain ⟨σ12, h11, h⟩ := g_bVd h
  refine g_callVv (pc := 42) (st := []) hE.1 wvX2_32 (sX_state (i := j) hj) rfl (kX9_loadFrom hE j hj ((σ9.1 29 1) * 144) σ9 h11) rfl (gR_ok (by decide) (by decide)) (Nat.le_of_ble_eq_true rfl) rfl dX2_bringBack_42 ?_
  refine g_aload_n (pc := 45) dX2_bringBack_45 rfl 0 rfl ?_
  refine g_dup (pc := 46) dX2_bringBack_46 rfl ?_
  refine g_getI (pc := 47) wfX2_19 rfl rfl dX2_bringBack_47 ?_
  refine g_iconst (pc := 50) (v := 1) dX2_bringBack_50 (by decide) ?_
  refine g_isub (pc := 51) dX2_bringBack_51 ?_
  obtain ⟨σ13, e14, h⟩ := g_ltd h
  refine g_putI (pc := 52) wfX2_19 rfl rfl rfl rfl e14 dX2_bringBack_52 ?_
  cases h
  exact g_vret (pc := 55) rfl rfl rfl dX2_bringBack_55
def fX2_bringBack (j : Nat) (σ : gM) : Option (gM) := if (σ.1 29 2) ≤ 0 then (some σ) else (if (σ.1 29 1) ≤ 0 then (fX2_bringBack_b26 j 39 σ) else (fX2_bringBack_b26 j ((σ.1 29 1) - 1) σ))
set_option maxRecDepth 100000 in
theorem kX2_bringBack (hE : gEX l dC dI ad ca X) (j : Nat) (hj : j < 3)  (σ : gM) {σ' : gM} (h : fX2_bringBack j σ = some σ') : g_C l dC dI ad ca shX X yX2_bringBack cX2_bringBack 2 none (gR 2) [.ref 29, .ref (10 + 5 * j)] σ none σ' := by
  refine g_entry (by decide +kernel) (Nat.le_of_ble_eq_true rfl) ?_
  refine g_lvE (lv1 := [(0, .ref 29), (1, .ref (10 + 5 * j))]) rfl ?_
  unfold fX2_bringBack at h
  refine g_aload_n (pc := 0) dX2_bringBack_0 rfl 0 rfl ?_
  refine g_getI (pc := 1) wfX2_19 rfl rfl dX2_bringBack_1 ?_
  refine g_if_le (pc := 4) (tgt := 55) dX2_bringBack_4 (by decide) (fun c15 => ?_) (fun c15 => ?_)
  · have h := g_ift c15 h
    cases h
    exact g_vret (pc := 55) rfl rfl rfl dX2_bringBack_55
  · have h := g_iff c15 h
    refine g_aload_n (pc := 7) dX2_bringBack_7 rfl 0 rfl ?_
    refine g_aload_n (pc := 8) dX2_bringBack_8 rfl 0 rfl ?_
    refine g_getI (pc := 9) wfX2_15 rfl rfl dX2_bringBack_9 ?_
    refine g_if_le (pc := 12) (tgt := 24) dX2_bringBack_12 (by decide) (fun c16 => ?_) (fun c16 => ?_)
    · have h := g_ift c16 h
      refine g_bipush (pc := 24) (v := 39) dX2_bringBack_24 (by decide) ?_
      exact g_lv [0, 1] rfl (tX2_bringBack_b26 hE j hj 39 σ h)
    · have h := g_iff c16 h
      refine g_aload_n (pc := 15) dX2_bringBack_15 rfl 0 rfl ?_
      refine g_getI (pc := 16) wfX2_15 rfl rfl dX2_bringBack_16 ?_
      refine g_iconst (pc := 19) (v := 1) dX2_bringBack_19 (by decide) ?_
      refine g_isub (pc := 20) dX2_bringBack_20 ?_
      refine g_goto (pc := 21) (tgt := 26) dX2_bringBack_21 (by decide) ?_
      exact g_lv [0, 1] rfl (tX2_bringBack_b26 hE j hj ((σ.1 29 1) - 1) σ h)
def fX2_forget (σ : gM) : Option (gM) := g_let (g_put σ 29 2 0) (fun σ3 => some σ3)
set_option maxRecDepth 100000 in
theorem kX2_forget (hE : gEX l dC dI ad ca X)  (σ : gM) {σ' : gM} (h : fX2_forget σ = some σ') : g_C l dC dI ad ca shX X yX2_forget cX2_forget 1 none (gR 0) [.ref 29] σ none σ' := by
  refine g_entry (by decide +kernel) (Nat.le_of_ble_eq_true rfl) ?_
  refine g_lvE (lv1 := [(0, .ref 29)]) rfl ?_
  unfold fX2_forget at h
  refine g_aload_n (pc := 0) dX2_forget_0 rfl 0 rfl ?_
  refine g_iconst (pc := 1) (v := 0) dX2_forget_1 (by decide) ?_
  obtain ⟨σ3, e4, h⟩ := g_ltd h
  refine g_putI (pc := 2) wfX2_19 rfl rfl rfl rfl e4 dX2_forget_2 ?_
  cases h
  exact g_vret (pc := 5) rfl rfl rfl dX2_forget_5
def fX3_add (i : Nat) (v1 : Int32) (v2 : Int32) (v3 : Int32) (σ : gM) : Option (gM) := g_bI (fJ9_floorMod_7cf53 (σ.1 (25 + 2 * i) 1) 100 σ) (fun r17 σ16 => if ¬ ((3 * r17) < 0 ∨ 300 ≤ (3 * r17).toNatClampNeg) then (g_let (g_put σ16 (26 + 2 * i) ((3 * r17).toNatClampNeg) v1) (fun σ19 => if ¬ (((3 * r17) + 1) < 0 ∨ 300 ≤ ((3 * r17) + 1).toNatClampNeg) then (g_let (g_put σ19 (26 + 2 * i) (((3 * r17) + 1).toNatClampNeg) v2) (fun σ22 => if ¬ (((3 * r17) + 2) < 0 ∨ 300 ≤ ((3 * r17) + 2).toNatClampNeg) then (g_let (g_put σ22 (26 + 2 * i) (((3 * r17) + 2).toNatClampNeg) v3) (fun σ25 => g_let (g_put σ25 (25 + 2 * i) 1 ((σ25.1 (25 + 2 * i) 1) + 1)) (fun σ27 => some σ27))) else none)) else none)) else none)
set_option maxRecDepth 100000 in
theorem kX3_add (hE : gEX l dC dI ad ca X) (i : Nat) (hi : i < 2)  (v1 : Int32) (v2 : Int32) (v3 : Int32) (σ : gM) {σ' : gM} (h : fX3_add i v1 v2 v3 σ = some σ') : g_C l dC dI ad ca shX X yX3_add cX3_add 5 none (gR 1) [.ref (25 + 2 * i), .int v1, .int v2, .int v3] σ none σ' := by
  refine g_entry (by decide +kernel) (Nat.le_of_ble_eq_true rfl) ?_
  refine g_lvE (lv1 := [(0, .ref (25 + 2 * i)), (1, .int v1), (2, .int v2), (3, .int v3)]) rfl ?_
  unfold fX3_add at h
  refine g_iconst (pc := 0) (v := 3) dX3_add_0 (by decide) ?_
  refine g_aload_n (pc := 1) dX3_add_1 rfl 0 rfl ?_
  refine g_getI (pc := 2) wfX3_17 (sX_log (i := i) hi) rfl dX3_add_2 ?_
  refine g_bipush (pc := 5) (v := 100) dX3_add_5 (by decide) ?_
  obtain ⟨r17, σ16, h15, h⟩ := g_bId h
  refine g_callSi (pc := 7) (st := [.int 3]) hE.1 wsX3_21 (kJ9_floorMod_7cf53 hE (σ.1 (25 + 2 * i) 1) 100 σ h15) rfl (gR_ok (by decide) (by decide)) (Nat.le_of_ble_eq_true rfl) rfl dX3_add_7 ?_
  refine g_imul (pc := 10) dX3_add_10 ?_
  refine g_istore (pc := 11) (lv1 := [(4, .int (3 * r17)), (0, .ref (25 + 2 * i)), (1, .int v1), (2, .int v2), (3, .int v3)]) dX3_add_11 (by decide) rfl ?_
  refine g_aload_n (pc := 13) dX3_add_13 rfl 1 rfl ?_
  refine g_getR (pc := 14) wfX3_13 (sX_log (i := i) hi) rfl dX3_add_14 ?_
  refine g_iload (pc := 17) dX3_add_17 0 rfl ?_
  refine g_iload_n (pc := 19) dX3_add_19 rfl 2 rfl ?_
  obtain ⟨c18, h⟩ := g_gd h
  obtain ⟨σ19, e20, h⟩ := g_ltd h
  refine g_iast (pc := 20) (sX_ents (i := i) hi) c18 rfl e20 dX3_add_20 ?_
  refine g_aload_n (pc := 21) dX3_add_21 rfl 1 rfl ?_
  refine g_getR (pc := 22) wfX3_13 (sX_log (i := i) hi) rfl dX3_add_22 ?_
  refine g_iload (pc := 25) dX3_add_25 0 rfl ?_
  refine g_iconst (pc := 27) (v := 1) dX3_add_27 (by decide) ?_
  refine g_iadd (pc := 28) dX3_add_28 ?_
  refine g_iload_n (pc := 29) dX3_add_29 rfl 3 rfl ?_
  obtain ⟨c21, h⟩ := g_gd h
  obtain ⟨σ22, e23, h⟩ := g_ltd h
  refine g_iast (pc := 30) (sX_ents (i := i) hi) c21 rfl e23 dX3_add_30 ?_
  refine g_aload_n (pc := 31) dX3_add_31 rfl 1 rfl ?_
  refine g_getR (pc := 32) wfX3_13 (sX_log (i := i) hi) rfl dX3_add_32 ?_
  refine g_iload (pc := 35) dX3_add_35 0 rfl ?_
  refine g_iconst (pc := 37) (v := 2) dX3_add_37 (by decide) ?_
  refine g_iadd (pc := 38) dX3_add_38 ?_
  refine g_iload_n (pc := 39) dX3_add_39 rfl 4 rfl ?_
  obtain ⟨c24, h⟩ := g_gd h
  obtain ⟨σ25, e26, h⟩ := g_ltd h
  refine g_iast (pc := 40) (sX_ents (i := i) hi) c24 rfl e26 dX3_add_40 ?_
  refine g_aload_n (pc := 41) dX3_add_41 rfl 1 rfl ?_
  refine g_dup (pc := 42) dX3_add_42 rfl ?_
  refine g_getI (pc := 43) wfX3_17 (sX_log (i := i) hi) rfl dX3_add_43 ?_
  refine g_iconst (pc := 46) (v := 1) dX3_add_46 (by decide) ?_
  refine g_iadd (pc := 47) dX3_add_47 ?_
  obtain ⟨σ27, e28, h⟩ := g_ltd h
  refine g_putI (pc := 48) wfX3_17 (sX_log (i := i) hi) rfl rfl rfl e28 dX3_add_48 ?_
  cases h
  exact g_vret (pc := 51) rfl rfl rfl dX3_add_51
def fX3_drop (i : Nat) (σ : gM) : Option (gM) := if (σ.1 (25 + 2 * i) 1) ≤ 0 then (some σ) else (g_let (g_put σ (25 + 2 * i) 1 ((σ.1 (25 + 2 * i) 1) - 1)) (fun σ5 => some σ5))
set_option maxRecDepth 100000 in
theorem kX3_drop (hE : gEX l dC dI ad ca X) (i : Nat) (hi : i < 2)  (σ : gM) {σ' : gM} (h : fX3_drop i σ = some σ') : g_C l dC dI ad ca shX X yX3_drop cX3_drop 1 none (gR 0) [.ref (25 + 2 * i)] σ none σ' := by
  refine g_entry (by decide +kernel) (Nat.le_of_ble_eq_true rfl) ?_
  refine g_lvE (lv1 := [(0, .ref (25 + 2 * i))]) rfl ?_
  unfold fX3_drop at h
  refine g_aload_n (pc := 0) dX3_drop_0 rfl 0 rfl ?_
  refine g_getI (pc := 1) wfX3_17 (sX_log (i := i) hi) rfl dX3_drop_1 ?_
  refine g_if_le (pc := 4) (tgt := 17) dX3_drop_4 (by decide) (fun c4 => ?_) (fun c4 => ?_)
  · have h := g_ift c4 h
    cases h
    exact g_vret (pc := 17) rfl rfl rfl dX3_drop_17
  · have h := g_iff c4 h
    refine g_aload_n (pc := 7) dX3_drop_7 rfl 0 rfl ?_
    refine g_dup (pc := 8) dX3_drop_8 rfl ?_
    refine g_getI (pc := 9) wfX3_17 (sX_log (i := i) hi) rfl dX3_drop_9 ?_
    refine g_iconst (pc := 12) (v := 1) dX3_drop_12 (by decide) ?_
    refine g_isub (pc := 13) dX3_drop_13 ?_
    obtain ⟨σ5, e6, h⟩ := g_ltd h
    refine g_putI (pc := 14) wfX3_17 (sX_log (i := i) hi) rfl rfl rfl e6 dX3_drop_14 ?_
    cases h
    exact g_vret (pc := 17) rfl rfl rfl dX3_drop_17
def fX3_forget (i : Nat) (σ : gM) : Option (gM) := g_let (g_put σ (25 + 2 * i) 1 0) (fun σ3 => some σ3)
set_option maxRecDepth 100000 in
theorem kX3_forget (hE : gEX l dC dI ad ca X) (i : Nat) (hi : i < 2)  (σ : gM) {σ' : gM} (h : fX3_forget i σ = some σ') : g_C l dC dI ad ca shX X yX3_forget cX3_forget 1 none (gR 0) [.ref (25 + 2 * i)] σ none σ' := by
  refine g_entry (by decide +kernel) (Nat.le_of_ble_eq_true rfl) ?_
  refine g_lvE (lv1 := [(0, .ref (25 + 2 * i))]) rfl ?_
  unfold fX3_forget at h
  refine g_aload_n (pc := 0) dX3_forget_0 rfl 0 rfl ?_
  refine g_iconst (pc := 1) (v := 0) dX3_forget_1 (by decide) ?_
  obtain ⟨σ3, e4, h⟩ := g_ltd h
  refine g_putI (pc := 2) wfX3_17 (sX_log (i := i) hi) rfl rfl rfl e4 dX3_forget_2 ?_
  cases h
  exact g_vret (pc := 5) rfl rfl rfl dX3_forget_5
def fX3_length (i : Nat) (σ : gM) : Option (Int32 × gM) := some (if 60 < (σ.1 (25 + 2 * i) 1) then 60 else (σ.1 (25 + 2 * i) 1), σ)
set_option maxRecDepth 100000 in
theorem kX3_length (hE : gEX l dC dI ad ca X) (i : Nat) (hi : i < 2)  (σ : gM) {r0 : Int32} {σ' : gM} (h : fX3_length i σ = some (r0, σ')) : g_C l dC dI ad ca shX X yX3_length cX3_length 1 (some .int) (gR 1) [.ref (25 + 2 * i)] σ (some (.int r0)) σ' := by
  refine g_entry (by decide +kernel) (Nat.le_of_ble_eq_true rfl) ?_
  refine g_lvE (lv1 := [(0, .ref (25 + 2 * i))]) rfl ?_
  unfold fX3_length at h
  refine g_aload_n (pc := 0) dX3_length_0 rfl 0 rfl ?_
  refine g_getI (pc := 1) wfX3_17 (sX_log (i := i) hi) rfl dX3_length_1 ?_
  refine g_bipush (pc := 4) (v := 60) dX3_length_4 (by decide) ?_
  refine g_min (pc := 6) (st := []) wmX3_27 ⟨by decide, by decide⟩ dX3_length_6 ?_
  cases h
  exact g_iret (pc := 9) rfl rfl rfl rfl dX3_length_9
def fX3_tell_b21 (i : Nat) (σ : gM) : Option (Int32 × gM) := some ((-1000000), σ)
set_option maxRecDepth 100000 in
theorem tX3_tell_b21 (hE : gEX l dC dI ad ca X) {r0 : Int32} {σ' : gM} (i : Nat) (hi : i < 2)  (σ : gM) (h : fX3_tell_b21 i σ = some (r0, σ')) : g_G l dC dI ad ca shX X cX3_tell 3 RX3 (some .int) (gR 2) (some (.int r0)) σ' 21 [] [] σ := by
  unfold fX3_tell_b21 at h
  refine g_ldc (pc := 21) wkX3_34 dX3_tell_21 ?_
  cases h
  exact g_iret (pc := 23) rfl rfl rfl rfl dX3_tell_23
def fX3_tell (i : Nat) (v1 : Int32) (v2 : Int32) (σ : gM) : Option (Int32 × gM) := if v1 < 0 then (fX3_tell_b21 i σ) else (g_bI (fX3_length i σ) (fun r15 σ14 => if r15 ≤ v1 then (fX3_tell_b21 i σ14) else (if v2 < 0 then (fX3_tell_b21 i σ14) else (if v2 < 3 then (g_bI (fJ9_floorMod_7cf53 (((σ14.1 (25 + 2 * i) 1) - 1) - v1) 100 σ14) (fun r21 σ20 => if ¬ (((3 * r21) + v2) < 0 ∨ 300 ≤ ((3 * r21) + v2).toNatClampNeg) then (some (σ20.1 (26 + 2 * i) (((3 * r21) + v2).toNatClampNeg), σ20)) else none)) else (fX3_tell_b21 i σ14)))))
set_option maxRecDepth 100000 in
theorem kX3_tell (hE : gEX l dC dI ad ca X) (i : Nat) (hi : i < 2)  (v1 : Int32) (v2 : Int32) (σ : gM) {r0 : Int32} {σ' : gM} (h : fX3_tell i v1 v2 σ = some (r0, σ')) : g_C l dC dI ad ca shX X yX3_tell cX3_tell 3 (some .int) (gR 2) [.ref (25 + 2 * i), .int v1, .int v2] σ (some (.int r0)) σ' := by
  refine g_entry (by decide +kernel) (Nat.le_of_ble_eq_true rfl) ?_
  refine g_lvE (lv1 := [(0, .ref (25 + 2 * i)), (1, .int v1), (2, .int v2)]) rfl ?_
  unfold fX3_tell at h
  refine g_iload_n (pc := 0) dX3_tell_0 rfl 1 rfl ?_
  refine g_if_lt (pc := 1) (tgt := 21) dX3_tell_1 (by decide) (fun c12 => ?_) (fun c12 => ?_)
  · have h := g_ift c12 h
    exact g_lv [] rfl (tX3_tell_b21 hE i hi σ h)
  · have h := g_iff c12 h
    refine g_iload_n (pc := 4) dX3_tell_4 rfl 1 rfl ?_
    refine g_aload_n (pc := 5) dX3_tell_5 rfl 0 rfl ?_
    obtain ⟨r15, σ14, h13, h⟩ := g_bId h
    refine g_callVi (pc := 6) (st := [.int v1]) hE.1 wvX3_30 (sX_log (i := i) hi) rfl (kX3_length hE i hi σ h13) rfl (gR_ok (by decide) (by decide)) (Nat.le_of_ble_eq_true rfl) rfl dX3_tell_6 ?_
    refine g_icmp_ge (pc := 9) (tgt := 21) dX3_tell_9 (by decide) (fun c16 => ?_) (fun c16 => ?_)
    · have h := g_ift c16 h
      exact g_lv [] rfl (tX3_tell_b21 hE i hi σ14 h)
    · have h := g_iff c16 h
      refine g_iload_n (pc := 12) dX3_tell_12 rfl 2 rfl ?_
      refine g_if_lt (pc := 13) (tgt := 21) dX3_tell_13 (by decide) (fun c17 => ?_) (fun c17 => ?_)
      · have h := g_ift c17 h
        exact g_lv [] rfl (tX3_tell_b21 hE i hi σ14 h)
      · have h := g_iff c17 h
        refine g_iload_n (pc := 16) dX3_tell_16 rfl 2 rfl ?_
        refine g_iconst (pc := 17) (v := 3) dX3_tell_17 (by decide) ?_
        refine g_icmp_lt (pc := 18) (tgt := 24) dX3_tell_18 (by decide) (fun c18 => ?_) (fun c18 => ?_)
        · have h := g_ift c18 h
          refine g_aload_n (pc := 24) dX3_tell_24 rfl 0 rfl ?_
          refine g_getR (pc := 25) wfX3_13 (sX_log (i := i) hi) rfl dX3_tell_25 ?_
          refine g_iconst (pc := 28) (v := 3) dX3_tell_28 (by decide) ?_
          refine g_aload_n (pc := 29) dX3_tell_29 rfl 0 rfl ?_
          refine g_getI (pc := 30) wfX3_17 (sX_log (i := i) hi) rfl dX3_tell_30 ?_
          refine g_iconst (pc := 33) (v := 1) dX3_tell_33 (by decide) ?_
          refine g_isub (pc := 34) dX3_tell_34 ?_
          refine g_iload_n (pc := 35) dX3_tell_35 rfl 1 rfl ?_
          refine g_isub (pc := 36) dX3_tell_36 ?_
          refine g_bipush (pc := 37) (v := 100) dX3_tell_37 (by decide) ?_
          obtain ⟨r21, σ20, h19, h⟩ := g_bId h
          refine g_callSi (pc := 39) (st := [.int 3, .ref (26 + 2 * i)]) hE.1 wsX3_21 (kJ9_floorMod_7cf53 hE (((σ14.1 (25 + 2 * i) 1) - 1) - v1) 100 σ14 h19) rfl (gR_ok (by decide) (by decide)) (Nat.le_of_ble_eq_true rfl) rfl dX3_tell_39 ?_
          refine g_imul (pc := 42) dX3_tell_42 ?_
          refine g_iload_n (pc := 43) dX3_tell_43 rfl 2 rfl ?_
          refine g_iadd (pc := 44) dX3_tell_44 ?_
          obtain ⟨c22, h⟩ := g_gd h
          refine g_iald (pc := 45) (sX_ents (i := i) hi) c22 rfl dX3_tell_45 ?_
          cases h
          exact g_iret (pc := 46) rfl rfl rfl rfl dX3_tell_46
        · have h := g_iff c18 h
          exact g_lv [] rfl (tX3_tell_b21 hE i hi σ14 h)
def fX3_copy (i : Nat) (j : Nat) (σ : gM) : Option (gM) := if ¬ (0 : Int32) < 0 then (if ¬ (0 : Int32) < 0 then (if ¬ (300 : Int32) < 0 then (if (0 : Int32).toNatClampNeg + (300 : Int32).toNatClampNeg ≤ 300 then (if (0 : Int32).toNatClampNeg + (300 : Int32).toNatClampNeg ≤ 300 then (g_let (g_row σ (26 + 2 * i) (va_cpy (σ.1 (26 + 2 * j)) (σ.1 (26 + 2 * i)) (0 : Int32).toNatClampNeg (0 : Int32).toNatClampNeg (300 : Int32).toNatClampNeg)) (fun σ15 => g_let (g_put σ15 (25 + 2 * i) 1 (σ15.1 (25 + 2 * j) 1)) (fun σ17 => some σ17))) else none) else none) else none) else none) else none
set_option maxRecDepth 100000 in
theorem kX3_copy (hE : gEX l dC dI ad ca X) (i : Nat) (hi : i < 2) (j : Nat) (hj : j < 2)  (σ : gM) {σ' : gM} (h : fX3_copy i j σ = some σ') : g_C l dC dI ad ca shX X yX3_copy cX3_copy 2 none (gR 1) [.ref (25 + 2 * i), .ref (25 + 2 * j)] σ none σ' := by
  refine g_entry (by decide +kernel) (Nat.le_of_ble_eq_true rfl) ?_
  refine g_lvE (lv1 := [(0, .ref (25 + 2 * i)), (1, .ref (25 + 2 * j))]) rfl ?_
  unfold fX3_copy at h
  refine g_aload_n (pc := 0) dX3_copy_0 rfl 1 rfl ?_
  refine g_getR (pc := 1) wfX3_13 (sX_log (i := j) hj) rfl dX3_copy_1 ?_
  refine g_iconst (pc := 4) (v := 0) dX3_copy_4 (by decide) ?_
  refine g_aload_n (pc := 5) dX3_copy_5 rfl 0 rfl ?_
  refine g_getR (pc := 6) wfX3_13 (sX_log (i := i) hi) rfl dX3_copy_6 ?_
  refine g_iconst (pc := 9) (v := 0) dX3_copy_9 (by decide) ?_
  refine g_sipush (pc := 10) (v := 300) dX3_copy_10 (by decide) ?_
  obtain ⟨c10, h⟩ := g_gd h
  obtain ⟨c11, h⟩ := g_gd h
  obtain ⟨c12, h⟩ := g_gd h
  obtain ⟨c13, h⟩ := g_gd h
  obtain ⟨c14, h⟩ := g_gd h
  obtain ⟨σ15, e16, h⟩ := g_ltd h
  refine g_copy (pc := 13) (st := []) waX3_35 (sX_ents (i := j) hj) (sX_ents (i := i) hi) c10 c11 c12 c13 c14 ⟨by decide, by decide⟩ e16 dX3_copy_13 ?_
  refine g_aload_n (pc := 16) dX3_copy_16 rfl 0 rfl ?_
  refine g_aload_n (pc := 17) dX3_copy_17 rfl 1 rfl ?_
  refine g_getI (pc := 18) wfX3_17 (sX_log (i := j) hj) rfl dX3_copy_18 ?_
  obtain ⟨σ17, e18, h⟩ := g_ltd h
  refine g_putI (pc := 21) wfX3_17 (sX_log (i := i) hi) rfl rfl rfl e18 dX3_copy_21 ?_
  cases h
  exact g_vret (pc := 24) rfl rfl rfl dX3_copy_24
def fX6_partOf_b16 (σ : gM) : Option (Int32 × gM) := some (0, σ)
set_option maxRecDepth 100000 in
theorem tX6_partOf_b16 (hE : gEX l dC dI ad ca X) {r0 : Int32} {σ' : gM}  (σ : gM) (h : fX6_partOf_b16 σ = some (r0, σ')) : g_G l dC dI ad ca shX X cX6_partOf 2 RX6 (some .int) (gR 0) (some (.int r0)) σ' 16 [] [] σ := by
  unfold fX6_partOf_b16 at h
  refine g_iconst (pc := 16) (v := 0) dX6_partOf_16 (by decide) ?_
  refine g_goto (pc := 17) (tgt := 31) dX6_partOf_17 (by decide) ?_
  cases h
  exact g_iret (pc := 31) rfl rfl rfl rfl dX6_partOf_31
def fX6_partOf (v1 : Int32) (σ : gM) : Option (Int32 × gM) := if (σ.1 5 2) < 1 then (fX6_partOf_b16 σ) else (if 1 ≤ (σ.1 5 0) then (if (σ.1 5 2) = 0 then none else (if (σ.1 5 0) = 0 then none else (some ((v1 / (σ.1 5 2)) - (v1 / (σ.1 5 2)) / (σ.1 5 0) * (σ.1 5 0), σ)))) else (fX6_partOf_b16 σ))
set_option maxRecDepth 100000 in
theorem kX6_partOf (hE : gEX l dC dI ad ca X)  (v1 : Int32) (σ : gM) {r0 : Int32} {σ' : gM} (h : fX6_partOf v1 σ = some (r0, σ')) : g_C l dC dI ad ca shX X yX6_partOf cX6_partOf 2 (some .int) (gR 0) [.ref 5, .int v1] σ (some (.int r0)) σ' := by
  refine g_entry (by decide +kernel) (Nat.le_of_ble_eq_true rfl) ?_
  refine g_lvE (lv1 := [(0, .ref 5), (1, .int v1)]) rfl ?_
  unfold fX6_partOf at h
  refine g_aload_n (pc := 0) dX6_partOf_0 rfl 0 rfl ?_
  refine g_getI (pc := 1) wfX6_16 rfl rfl dX6_partOf_1 ?_
  refine g_iconst (pc := 4) (v := 1) dX6_partOf_4 (by decide) ?_
  refine g_icmp_lt (pc := 5) (tgt := 16) dX6_partOf_5 (by decide) (fun c5 => ?_) (fun c5 => ?_)
  · have h := g_ift c5 h
    exact g_lv [] rfl (tX6_partOf_b16 hE σ h)
  · have h := g_iff c5 h
    refine g_aload_n (pc := 8) dX6_partOf_8 rfl 0 rfl ?_
    refine g_getI (pc := 9) wfX6_7 rfl rfl dX6_partOf_9 ?_
    refine g_iconst (pc := 12) (v := 1) dX6_partOf_12 (by decide) ?_
    refine g_icmp_ge (pc := 13) (tgt := 20) dX6_partOf_13 (by decide) (fun c6 => ?_) (fun c6 => ?_)
    · have h := g_ift c6 h
      refine g_iload_n (pc := 20) dX6_partOf_20 rfl 1 rfl ?_
      refine g_aload_n (pc := 21) dX6_partOf_21 rfl 0 rfl ?_
      refine g_getI (pc := 22) wfX6_16 rfl rfl dX6_partOf_22 ?_
      obtain ⟨c7, h⟩ := g_gn h
      refine g_idiv (pc := 25) dX6_partOf_25 c7 ?_
      refine g_aload_n (pc := 26) dX6_partOf_26 rfl 0 rfl ?_
      refine g_getI (pc := 27) wfX6_7 rfl rfl dX6_partOf_27 ?_
      obtain ⟨c8, h⟩ := g_gn h
      refine g_irem (pc := 30) dX6_partOf_30 c8 ?_
      cases h
      exact g_iret (pc := 31) rfl rfl rfl rfl dX6_partOf_31
    · have h := g_iff c6 h
      exact g_lv [] rfl (tX6_partOf_b16 hE σ h)
def fX6_stripeOf_b16 (σ : gM) : Option (Int32 × gM) := some (0, σ)
set_option maxRecDepth 100000 in
theorem tX6_stripeOf_b16 (hE : gEX l dC dI ad ca X) {r0 : Int32} {σ' : gM}  (σ : gM) (h : fX6_stripeOf_b16 σ = some (r0, σ')) : g_G l dC dI ad ca shX X cX6_stripeOf 2 RX6 (some .int) (gR 0) (some (.int r0)) σ' 16 [] [] σ := by
  unfold fX6_stripeOf_b16 at h
  refine g_iconst (pc := 16) (v := 0) dX6_stripeOf_16 (by decide) ?_
  refine g_goto (pc := 17) (tgt := 31) dX6_stripeOf_17 (by decide) ?_
  cases h
  exact g_iret (pc := 31) rfl rfl rfl rfl dX6_stripeOf_31
def fX6_stripeOf (v1 : Int32) (σ : gM) : Option (Int32 × gM) := if (σ.1 5 2) < 1 then (fX6_stripeOf_b16 σ) else (if 1 ≤ (σ.1 5 0) then (if (σ.1 5 2) = 0 then none else (if (σ.1 5 0) = 0 then none else (some ((v1 / (σ.1 5 2)) / (σ.1 5 0), σ)))) else (fX6_stripeOf_b16 σ))
set_option maxRecDepth 100000 in
theorem kX6_stripeOf (hE : gEX l dC dI ad ca X)  (v1 : Int32) (σ : gM) {r0 : Int32} {σ' : gM} (h : fX6_stripeOf v1 σ = some (r0, σ')) : g_C l dC dI ad ca shX X yX6_stripeOf cX6_stripeOf 2 (some .int) (gR 0) [.ref 5, .int v1] σ (some (.int r0)) σ' := by
  refine g_entry (by decide +kernel) (Nat.le_of_ble_eq_true rfl) ?_
  refine g_lvE (lv1 := [(0, .ref 5), (1, .int v1)]) rfl ?_
  unfold fX6_stripeOf at h
  refine g_aload_n (pc := 0) dX6_stripeOf_0 rfl 0 rfl ?_
  refine g_getI (pc := 1) wfX6_16 rfl rfl dX6_stripeOf_1 ?_
  refine g_iconst (pc := 4) (v := 1) dX6_stripeOf_4 (by decide) ?_
  refine g_icmp_lt (pc := 5) (tgt := 16) dX6_stripeOf_5 (by decide) (fun c5 => ?_) (fun c5 => ?_)
  · have h := g_ift c5 h
    exact g_lv [] rfl (tX6_stripeOf_b16 hE σ h)
  · have h := g_iff c5 h
    refine g_aload_n (pc := 8) dX6_stripeOf_8 rfl 0 rfl ?_
    refine g_getI (pc := 9) wfX6_7 rfl rfl dX6_stripeOf_9 ?_
    refine g_iconst (pc := 12) (v := 1) dX6_stripeOf_12 (by decide) ?_
    refine g_icmp_ge (pc := 13) (tgt := 20) dX6_stripeOf_13 (by decide) (fun c6 => ?_) (fun c6 => ?_)
    · have h := g_ift c6 h
      refine g_iload_n (pc := 20) dX6_stripeOf_20 rfl 1 rfl ?_
      refine g_aload_n (pc := 21) dX6_stripeOf_21 rfl 0 rfl ?_
      refine g_getI (pc := 22) wfX6_16 rfl rfl dX6_stripeOf_22 ?_
      obtain ⟨c7, h⟩ := g_gn h
      refine g_idiv (pc := 25) dX6_stripeOf_25 c7 ?_
      refine g_aload_n (pc := 26) dX6_stripeOf_26 rfl 0 rfl ?_
      refine g_getI (pc := 27) wfX6_7 rfl rfl dX6_stripeOf_27 ?_
      obtain ⟨c8, h⟩ := g_gn h
      refine g_idiv (pc := 30) dX6_stripeOf_30 c8 ?_
      cases h
      exact g_iret (pc := 31) rfl rfl rfl rfl dX6_stripeOf_31
    · have h := g_iff c6 h
      exact g_lv [] rfl (tX6_stripeOf_b16 hE σ h)
def fX6_diskOf_b30 (v2 : Int32) (s0 : Int32) (σ : gM) : Option (Int32 × gM) := if (σ.1 5 5) = 0 then none else (g_bI (fJ9_floorMod_7cf53 ((((σ.1 5 5) - 1) - (v2 - v2 / (σ.1 5 5) * (σ.1 5 5))) + s0) (σ.1 5 5) σ) (fun r10 σ9 => some (r10, σ9)))
set_option maxRecDepth 100000 in
theorem tX6_diskOf_b30 (hE : gEX l dC dI ad ca X) {r0 : Int32} {σ' : gM} (v2 : Int32) (s0 : Int32)  (σ : gM) (h : fX6_diskOf_b30 v2 s0 σ = some (r0, σ')) : g_G l dC dI ad ca shX X cX6_diskOf 4 RX6 (some .int) (gR 1) (some (.int r0)) σ' 30 [(0, .ref 5), (2, .int v2)] [.int s0] σ := by
  unfold fX6_diskOf_b30 at h
  refine g_istore_n (pc := 30) (lv1 := [(3, .int s0), (0, .ref 5), (2, .int v2)]) dX6_diskOf_30 rfl (by decide) rfl ?_
  refine g_aload_n (pc := 31) dX6_diskOf_31 rfl 1 rfl ?_
  refine g_getI (pc := 32) wfX6_25 rfl rfl dX6_diskOf_32 ?_
  refine g_iconst (pc := 35) (v := 1) dX6_diskOf_35 (by decide) ?_
  refine g_isub (pc := 36) dX6_diskOf_36 ?_
  refine g_iload_n (pc := 37) dX6_diskOf_37 rfl 2 rfl ?_
  refine g_aload_n (pc := 38) dX6_diskOf_38 rfl 1 rfl ?_
  refine g_getI (pc := 39) wfX6_25 rfl rfl dX6_diskOf_39 ?_
  obtain ⟨c7, h⟩ := g_gn h
  refine g_irem (pc := 42) dX6_diskOf_42 c7 ?_
  refine g_isub (pc := 43) dX6_diskOf_43 ?_
  refine g_iload_n (pc := 44) dX6_diskOf_44 rfl 0 rfl ?_
  refine g_iadd (pc := 45) dX6_diskOf_45 ?_
  refine g_aload_n (pc := 46) dX6_diskOf_46 rfl 1 rfl ?_
  refine g_getI (pc := 47) wfX6_25 rfl rfl dX6_diskOf_47 ?_
  obtain ⟨r10, σ9, h8, h⟩ := g_bId h
  refine g_callSi (pc := 50) (st := []) hE.1 wsX6_60 (kJ9_floorMod_7cf53 hE ((((σ.1 5 5) - 1) - (v2 - v2 / (σ.1 5 5) * (σ.1 5 5))) + s0) (σ.1 5 5) σ h8) rfl (gR_ok (by decide) (by decide)) (Nat.le_of_ble_eq_true rfl) rfl dX6_diskOf_50 ?_
  cases h
  exact g_iret (pc := 53) rfl rfl rfl rfl dX6_diskOf_53
def fX6_diskOf (v1 : Int32) (v2 : Int32) (σ : gM) : Option (Int32 × gM) := if 1 ≤ (σ.1 5 5) then (if v1 < (σ.1 5 0) then (fX6_diskOf_b30 v2 (v1 + 2) σ) else (fX6_diskOf_b30 v2 (v1 - (σ.1 5 0)) σ)) else (some (0, σ))
set_option maxRecDepth 100000 in
theorem kX6_diskOf (hE : gEX l dC dI ad ca X)  (v1 : Int32) (v2 : Int32) (σ : gM) {r0 : Int32} {σ' : gM} (h : fX6_diskOf v1 v2 σ = some (r0, σ')) : g_C l dC dI ad ca shX X yX6_diskOf cX6_diskOf 4 (some .int) (gR 1) [.ref 5, .int v1, .int v2] σ (some (.int r0)) σ' := by
  refine g_entry (by decide +kernel) (Nat.le_of_ble_eq_true rfl) ?_
  refine g_lvE (lv1 := [(0, .ref 5), (1, .int v1), (2, .int v2)]) rfl ?_
  unfold fX6_diskOf at h
  refine g_aload_n (pc := 0) dX6_diskOf_0 rfl 0 rfl ?_
  refine g_getI (pc := 1) wfX6_25 rfl rfl dX6_diskOf_1 ?_
  refine g_iconst (pc := 4) (v := 1) dX6_diskOf_4 (by decide) ?_
  refine g_icmp_ge (pc := 5) (tgt := 10) dX6_diskOf_5 (by decide) (fun c11 => ?_) (fun c11 => ?_)
  · have h := g_ift c11 h
    refine g_iload_n (pc := 10) dX6_diskOf_10 rfl 1 rfl ?_
    refine g_aload_n (pc := 11) dX6_diskOf_11 rfl 0 rfl ?_
    refine g_getI (pc := 12) wfX6_7 rfl rfl dX6_diskOf_12 ?_
    refine g_icmp_lt (pc := 15) (tgt := 27) dX6_diskOf_15 (by decide) (fun c12 => ?_) (fun c12 => ?_)
    · have h := g_ift c12 h
      refine g_iload_n (pc := 27) dX6_diskOf_27 rfl 1 rfl ?_
      refine g_iconst (pc := 28) (v := 2) dX6_diskOf_28 (by decide) ?_
      refine g_iadd (pc := 29) dX6_diskOf_29 ?_
      exact g_lv [0, 2] rfl (tX6_diskOf_b30 hE v2 (v1 + 2) σ h)
    · have h := g_iff c12 h
      refine g_iload_n (pc := 18) dX6_diskOf_18 rfl 1 rfl ?_
      refine g_aload_n (pc := 19) dX6_diskOf_19 rfl 0 rfl ?_
      refine g_getI (pc := 20) wfX6_7 rfl rfl dX6_diskOf_20 ?_
      refine g_isub (pc := 23) dX6_diskOf_23 ?_
      refine g_goto (pc := 24) (tgt := 30) dX6_diskOf_24 (by decide) ?_
      exact g_lv [0, 2] rfl (tX6_diskOf_b30 hE v2 (v1 - (σ.1 5 0)) σ h)
  · have h := g_iff c11 h
    refine g_iconst (pc := 8) (v := 0) dX6_diskOf_8 (by decide) ?_
    cases h
    exact g_iret (pc := 9) rfl rfl rfl rfl dX6_diskOf_9
def fX9_get (i : Nat) (v1 : Int32) (σ : gM) : Option (Int32 × gM) := if v1 < 0 then (some (0, σ)) else (if 144 ≤ v1 then (some (0, σ)) else (if ¬ (v1 < 0 ∨ 144 ≤ v1.toNatClampNeg) then (some (σ.1 (11 + 5 * i) v1.toNatClampNeg, σ)) else none))
set_option maxRecDepth 100000 in
theorem kX9_get (hE : gEX l dC dI ad ca X) (i : Nat) (hi : i < 3)  (v1 : Int32) (σ : gM) {r0 : Int32} {σ' : gM} (h : fX9_get i v1 σ = some (r0, σ')) : g_C l dC dI ad ca shX X yX9_get cX9_get 2 (some .int) (gR 0) [.ref (10 + 5 * i), .int v1] σ (some (.int r0)) σ' := by
  refine g_entry (by decide +kernel) (Nat.le_of_ble_eq_true rfl) ?_
  refine g_lvE (lv1 := [(0, .ref (10 + 5 * i)), (1, .int v1)]) rfl ?_
  unfold fX9_get at h
  refine g_iload_n (pc := 0) dX9_get_0 rfl 1 rfl ?_
  refine g_if_lt (pc := 1) (tgt := 20) dX9_get_1 (by decide) (fun c4 => ?_) (fun c4 => ?_)
  · have h := g_ift c4 h
    refine g_iconst (pc := 20) (v := 0) dX9_get_20 (by decide) ?_
    cases h
    exact g_iret (pc := 21) rfl rfl rfl rfl dX9_get_21
  · have h := g_iff c4 h
    refine g_iload_n (pc := 4) dX9_get_4 rfl 1 rfl ?_
    refine g_sipush (pc := 5) (v := 144) dX9_get_5 (by decide) ?_
    refine g_icmp_ge (pc := 8) (tgt := 20) dX9_get_8 (by decide) (fun c5 => ?_) (fun c5 => ?_)
    · have h := g_ift c5 h
      refine g_iconst (pc := 20) (v := 0) dX9_get_20 (by decide) ?_
      cases h
      exact g_iret (pc := 21) rfl rfl rfl rfl dX9_get_21
    · have h := g_iff c5 h
      refine g_aload_n (pc := 11) dX9_get_11 rfl 0 rfl ?_
      refine g_getR (pc := 12) wfX9_11 (sX_state (i := i) hi) rfl dX9_get_12 ?_
      refine g_iload_n (pc := 15) dX9_get_15 rfl 1 rfl ?_
      obtain ⟨c6, h⟩ := g_gd h
      refine g_iald (pc := 16) (sX_slots (i := i) hi) c6 rfl dX9_get_16 ?_
      refine g_goto (pc := 17) (tgt := 21) dX9_get_17 (by decide) ?_
      cases h
      exact g_iret (pc := 21) rfl rfl rfl rfl dX9_get_21
def fX8_isThere (i : Nat) (v1 : Int32) (v2 : Int32) (σ : gM) : Option (Int32 × gM) := g_bI (fX9_get i (104 + v1) σ) (fun r7 σ6 => if r7 ≤ v2 then (some (0, σ6)) else (some (1, σ6)))
set_option maxRecDepth 100000 in
theorem kX8_isThere (hE : gEX l dC dI ad ca X) (i : Nat) (hi : i < 3)  (v1 : Int32) (v2 : Int32) (σ : gM) {r0 : Int32} {σ' : gM} (h : fX8_isThere i v1 v2 σ = some (r0, σ')) : g_C l dC dI ad ca shX X yX8_isThere cX8_isThere 3 (some .boolean) (gR 1) [.ref (9 + 5 * i), .int v1, .int v2] σ (some (.int r0)) σ' := by
  refine g_entry (by decide +kernel) (Nat.le_of_ble_eq_true rfl) ?_
  refine g_lvE (lv1 := [(0, .ref (9 + 5 * i)), (1, .int v1), (2, .int v2)]) rfl ?_
  unfold fX8_isThere at h
  refine g_iload_n (pc := 0) dX8_isThere_0 rfl 2 rfl ?_
  refine g_aload_n (pc := 1) dX8_isThere_1 rfl 0 rfl ?_
  refine g_getR (pc := 2) wfX8_12 (sX_shelf (i := i) hi) rfl dX8_isThere_2 ?_
  refine g_bipush (pc := 5) (v := 104) dX8_isThere_5 (by decide) ?_
  refine g_iload_n (pc := 7) dX8_isThere_7 rfl 1 rfl ?_
  refine g_iadd (pc := 8) dX8_isThere_8 ?_
  obtain ⟨r7, σ6, h5, h⟩ := g_bId h
  refine g_callVi (pc := 9) (st := [.int v2]) hE.1 wvX8_31 (sX_state (i := i) hi) rfl (kX9_get hE i hi (104 + v1) σ h5) rfl (gR_ok (by decide) (by decide)) (Nat.le_of_ble_eq_true rfl) rfl dX8_isThere_9 ?_
  refine g_icmp_ge (pc := 12) (tgt := 19) dX8_isThere_12 (by decide) (fun c8 => ?_) (fun c8 => ?_)
  · have h := g_ift c8 h
    refine g_iconst (pc := 19) (v := 0) dX8_isThere_19 (by decide) ?_
    cases h
    exact g_iret (pc := 20) rfl (by decide) rfl rfl dX8_isThere_20
  · have h := g_iff c8 h
    refine g_iconst (pc := 15) (v := 1) dX8_isThere_15 (by decide) ?_
    refine g_goto (pc := 16) (tgt := 20) dX8_isThere_16 (by decide) ?_
    cases h
    exact g_iret (pc := 20) rfl (by decide) rfl rfl dX8_isThere_20
def fX8_missing_b38 (n : Nat) (i : Nat) (K4 : Int32 → Int32 → Int32 → gM → Option (Int32 × gM)) (v1 : Int32) (v2 : Int32) (v3 : Int32) (σ : gM) : Option (Int32 × gM) := K4 v1 v2 (v3 + 1) σ
set_option maxRecDepth 100000 in
theorem tX8_missing_b38 (hE : gEX l dC dI ad ca X) {r0 : Int32} {σ' : gM} (n : Nat) (i : Nat) (hi : i < 3) (K4 : Int32 → Int32 → Int32 → gM → Option (Int32 × gM)) (hK4 : ∀ (v1 : Int32) (v2 : Int32) (v3 : Int32) (σ : gM), K4 v1 v2 v3 σ = some (r0, σ') → g_G l dC dI ad ca shX X cX8_missing 4 RX8 (some .int) (gR 2) (some (.int r0)) σ' 4 [(0, .ref (9 + 5 * i)), (1, .int v1), (2, .int v2), (3, .int v3)] [] σ) (v1 : Int32) (v2 : Int32) (v3 : Int32)  (σ : gM) (h : fX8_missing_b38 n i K4 v1 v2 v3 σ = some (r0, σ')) : g_G l dC dI ad ca shX X cX8_missing 4 RX8 (some .int) (gR 2) (some (.int r0)) σ' 38 [(0, .ref (9 + 5 * i)), (1, .int v1), (2, .int v2), (3, .int v3)] [] σ := by
  unfold fX8_missing_b38 at h
  refine g_iinc (pc := 38) (v := v3 + 1) (lv1 := [(3, .int (v3 + 1)), (0, .ref (9 + 5 * i)), (1, .int v1), (2, .int v2)]) dX8_missing_38 3 rfl rfl (by decide) rfl ?_
  refine g_goto (pc := 41) (tgt := 4) dX8_missing_41 (by decide) ?_
  exact g_lv [1, 2, 3, 0] rfl (hK4 v1 v2 (v3 + 1) σ h)
def fX8_missing_b4 (n : Nat) (i : Nat) (K4 : Int32 → Int32 → Int32 → gM → Option (Int32 × gM)) (v1 : Int32) (v2 : Int32) (v3 : Int32) (σ : gM) : Option (Int32 × gM) := if (σ.1 5 5) ≤ v3 then (some (v2, σ)) else (g_bI (fX6_diskOf v3 v1 σ) (fun r12 σ11 => g_bI (fX8_isThere i r12 v1 σ11) (fun r15 σ14 => if r15 = 0 then (fX8_missing_b38 n i K4 v1 (v2 ||| (1 <<< (v3 &&& 31))) v3 σ14) else (fX8_missing_b38 n i K4 v1 v2 v3 σ14))))
set_option maxRecDepth 100000 in
theorem tX8_missing_b4 (hE : gEX l dC dI ad ca X) {r0 : Int32} {σ' : gM} (n : Nat) (i : Nat) (hi : i < 3) (K4 : Int32 → Int32 → Int32 → gM → Option (Int32 × gM)) (hK4 : ∀ (v1 : Int32) (v2 : Int32) (v3 : Int32) (σ : gM), K4 v1 v2 v3 σ = some (r0, σ') → g_G l dC dI ad ca shX X cX8_missing 4 RX8 (some .int) (gR 2) (some (.int r0)) σ' 4 [(0, .ref (9 + 5 * i)), (1, .int v1), (2, .int v2), (3, .int v3)] [] σ) (v1 : Int32) (v2 : Int32) (v3 : Int32)  (σ : gM) (h : fX8_missing_b4 n i K4 v1 v2 v3 σ = some (r0, σ')) : g_G l dC dI ad ca shX X cX8_missing 4 RX8 (some .int) (gR 2) (some (.int r0)) σ' 4 [(0, .ref (9 + 5 * i)), (1, .int v1), (2, .int v2), (3, .int v3)] [] σ := by
  unfold fX8_missing_b4 at h
  refine g_iload_n (pc := 4) dX8_missing_4 rfl 3 rfl ?_
  refine g_aload_n (pc := 5) dX8_missing_5 rfl 0 rfl ?_
  refine g_getR (pc := 6) wfX8_18 (sX_shelf (i := i) hi) rfl dX8_missing_6 ?_
  refine g_getI (pc := 9) wfX8_35 rfl rfl dX8_missing_9 ?_
  refine g_icmp_ge (pc := 12) (tgt := 44) dX8_missing_12 (by decide) (fun c9 => ?_) (fun c9 => ?_)
  · have h := g_ift c9 h
    refine g_iload_n (pc := 44) dX8_missing_44 rfl 2 rfl ?_
    cases h
    exact g_iret (pc := 45) rfl rfl rfl rfl dX8_missing_45
  · have h := g_iff c9 h
    refine g_aload_n (pc := 15) dX8_missing_15 rfl 0 rfl ?_
    refine g_aload_n (pc := 16) dX8_missing_16 rfl 0 rfl ?_
    refine g_getR (pc := 17) wfX8_18 (sX_shelf (i := i) hi) rfl dX8_missing_17 ?_
    refine g_iload_n (pc := 20) dX8_missing_20 rfl 3 rfl ?_
    refine g_iload_n (pc := 21) dX8_missing_21 rfl 1 rfl ?_
    obtain ⟨r12, σ11, h10, h⟩ := g_bId h
    refine g_callVi (pc := 22) (st := [.ref (9 + 5 * i)]) hE.1 wvX8_41 rfl rfl (kX6_diskOf hE v3 v1 σ h10) rfl (gR_ok (by decide) (by decide)) (Nat.le_of_ble_eq_true rfl) rfl dX8_missing_22 ?_
    refine g_iload_n (pc := 25) dX8_missing_25 rfl 1 rfl ?_
    obtain ⟨r15, σ14, h13, h⟩ := g_bId h
    refine g_callVi (pc := 26) (st := []) hE.1 wvX8_45 (sX_shelf (i := i) hi) rfl (kX8_isThere hE i hi r12 v1 σ11 h13) rfl (gR_ok (by decide) (by decide)) (Nat.le_of_ble_eq_true rfl) rfl dX8_missing_26 ?_
    refine g_if_ne (pc := 29) (tgt := 38) dX8_missing_29 (by decide) (fun c16 => ?_) (fun c16 => ?_)
    · have h := g_iff c16 h
      exact g_lv [0, 1, 2, 3] rfl (tX8_missing_b38 hE n i hi K4 hK4 v1 v2 v3 σ14 h)
    · have h := g_ift c16 h
      refine g_iload_n (pc := 32) dX8_missing_32 rfl 2 rfl ?_
      refine g_iconst (pc := 33) (v := 1) dX8_missing_33 (by decide) ?_
      refine g_iload_n (pc := 34) dX8_missing_34 rfl 3 rfl ?_
      refine g_ishl (pc := 35) dX8_missing_35 ?_
      refine g_ior (pc := 36) dX8_missing_36 ?_
      refine g_istore_n (pc := 37) (lv1 := [(2, .int (v2 ||| (1 <<< (v3 &&& 31)))), (0, .ref (9 + 5 * i)), (1, .int v1), (3, .int v3)]) dX8_missing_37 rfl (by decide) rfl ?_
      exact g_lv [1, 2, 0, 3] rfl (tX8_missing_b38 hE n i hi K4 hK4 v1 (v2 ||| (1 <<< (v3 &&& 31))) v3 σ14 h)
def fX8_missing_L4 (n : Nat) (i : Nat) : Nat → Int32 → Int32 → Int32 → gM → Option (Int32 × gM)
  | 0 => fun _ _ _ _ => none
  | k + 1 => fX8_missing_b4 n i (fX8_missing_L4 n i k)
theorem tX8_missing_L4 (hE : gEX l dC dI ad ca X) {r0 : Int32} {σ' : gM} (n : Nat) (i : Nat) (hi : i < 3)  : ∀ (k : Nat) (v1 : Int32) (v2 : Int32) (v3 : Int32) (σ : gM), fX8_missing_L4 n i k v1 v2 v3 σ = some (r0, σ') → g_G l dC dI ad ca shX X cX8_missing 4 RX8 (some .int) (gR 2) (some (.int r0)) σ' 4 [(0, .ref (9 + 5 * i)), (1, .int v1), (2, .int v2), (3, .int v3)] [] σ := by
  intro k
  induction k with
  | zero => intro v1 v2 v3 σ h; cases h
  | succ k ih => intro v1 v2 v3 σ h; exact tX8_missing_b4 hE n i hi (fX8_missing_L4 n i k) ih v1 v2 v3 σ h
def fX8_missing (n : Nat) (i : Nat) (v1 : Int32) (σ : gM) : Option (Int32 × gM) := fX8_missing_L4 n i n v1 0 0 σ
set_option maxRecDepth 100000 in
theorem kX8_missing (hE : gEX l dC dI ad ca X) (n : Nat) (i : Nat) (hi : i < 3)  (v1 : Int32) (σ : gM) {r0 : Int32} {σ' : gM} (h : fX8_missing n i v1 σ = some (r0, σ')) : g_C l dC dI ad ca shX X yX8_missing cX8_missing 4 (some .int) (gR 2) [.ref (9 + 5 * i), .int v1] σ (some (.int r0)) σ' := by
  refine g_entry (by decide +kernel) (Nat.le_of_ble_eq_true rfl) ?_
  refine g_lvE (lv1 := [(0, .ref (9 + 5 * i)), (1, .int v1)]) rfl ?_
  unfold fX8_missing at h
  refine g_iconst (pc := 0) (v := 0) dX8_missing_0 (by decide) ?_
  refine g_istore_n (pc := 1) (lv1 := [(2, .int 0), (0, .ref (9 + 5 * i)), (1, .int v1)]) dX8_missing_1 rfl (by decide) rfl ?_
  refine g_iconst (pc := 2) (v := 0) dX8_missing_2 (by decide) ?_
  refine g_istore_n (pc := 3) (lv1 := [(3, .int 0), (2, .int 0), (0, .ref (9 + 5 * i)), (1, .int v1)]) dX8_missing_3 rfl (by decide) rfl ?_
  exact g_lv [2, 3, 1, 0] rfl (tX8_missing_L4 hE n i hi n v1 0 0 σ h)
def fX8_writeBits (i : Nat) (v1 : Int32) (v2 : Int32) (σ : gM) : Option (Int32 × gM) := some ((((1 <<< (v2 &&& 31)) ||| (1 <<< ((σ.1 5 6) &&& 31))) ||| (1 <<< ((σ.1 5 7) &&& 31))) &&& (v1 ^^^ (-1)), σ)
set_option maxRecDepth 100000 in
theorem kX8_writeBits (hE : gEX l dC dI ad ca X) (i : Nat) (hi : i < 3)  (v1 : Int32) (v2 : Int32) (σ : gM) {r0 : Int32} {σ' : gM} (h : fX8_writeBits i v1 v2 σ = some (r0, σ')) : g_C l dC dI ad ca shX X yX8_writeBits cX8_writeBits 3 (some .int) (gR 0) [.ref (9 + 5 * i), .int v1, .int v2] σ (some (.int r0)) σ' := by
  refine g_entry (by decide +kernel) (Nat.le_of_ble_eq_true rfl) ?_
  refine g_lvE (lv1 := [(0, .ref (9 + 5 * i)), (1, .int v1), (2, .int v2)]) rfl ?_
  unfold fX8_writeBits at h
  refine g_iconst (pc := 0) (v := 1) dX8_writeBits_0 (by decide) ?_
  refine g_iload_n (pc := 1) dX8_writeBits_1 rfl 2 rfl ?_
  refine g_ishl (pc := 2) dX8_writeBits_2 ?_
  refine g_iconst (pc := 3) (v := 1) dX8_writeBits_3 (by decide) ?_
  refine g_aload_n (pc := 4) dX8_writeBits_4 rfl 0 rfl ?_
  refine g_getR (pc := 5) wfX8_18 (sX_shelf (i := i) hi) rfl dX8_writeBits_5 ?_
  refine g_getI (pc := 8) wfX8_91 rfl rfl dX8_writeBits_8 ?_
  refine g_ishl (pc := 11) dX8_writeBits_11 ?_
  refine g_ior (pc := 12) dX8_writeBits_12 ?_
  refine g_iconst (pc := 13) (v := 1) dX8_writeBits_13 (by decide) ?_
  refine g_aload_n (pc := 14) dX8_writeBits_14 rfl 0 rfl ?_
  refine g_getR (pc := 15) wfX8_18 (sX_shelf (i := i) hi) rfl dX8_writeBits_15 ?_
  refine g_getI (pc := 18) wfX8_94 rfl rfl dX8_writeBits_18 ?_
  refine g_ishl (pc := 21) dX8_writeBits_21 ?_
  refine g_ior (pc := 22) dX8_writeBits_22 ?_
  refine g_iload_n (pc := 23) dX8_writeBits_23 rfl 1 rfl ?_
  refine g_iconst (pc := 24) (v := (-1)) dX8_writeBits_24 (by decide) ?_
  refine g_ixor (pc := 25) dX8_writeBits_25 ?_
  refine g_iand (pc := 26) dX8_writeBits_26 ?_
  cases h
  exact g_iret (pc := 27) rfl rfl rfl rfl dX8_writeBits_27
def fX8_readBits_b39 (i : Nat) (v2 : Int32) (s0 : Int32) (σ : gM) : Option (Int32 × gM) := some (s0 &&& (v2 ^^^ (-1)), σ)
set_option maxRecDepth 100000 in
theorem tX8_readBits_b39 (hE : gEX l dC dI ad ca X) {r0 : Int32} {σ' : gM} (i : Nat) (hi : i < 3) (v2 : Int32) (s0 : Int32)  (σ : gM) (h : fX8_readBits_b39 i v2 s0 σ = some (r0, σ')) : g_G l dC dI ad ca shX X cX8_readBits 5 RX8 (some .int) (gR 1) (some (.int r0)) σ' 39 [(2, .int v2)] [.int s0] σ := by
  unfold fX8_readBits_b39 at h
  refine g_istore (pc := 39) (lv1 := [(4, .int s0), (2, .int v2)]) dX8_readBits_39 (by decide) rfl ?_
  refine g_iload (pc := 41) dX8_readBits_41 0 rfl ?_
  refine g_iload_n (pc := 43) dX8_readBits_43 rfl 1 rfl ?_
  refine g_iconst (pc := 44) (v := (-1)) dX8_readBits_44 (by decide) ?_
  refine g_ixor (pc := 45) dX8_readBits_45 ?_
  refine g_iand (pc := 46) dX8_readBits_46 ?_
  cases h
  exact g_iret (pc := 47) rfl rfl rfl rfl dX8_readBits_47
def fX8_readBits (i : Nat) (v1 : Int32) (v2 : Int32) (v3 : Int32) (σ : gM) : Option (Int32 × gM) := if v1 = 0 then (g_bI (fX8_writeBits i v2 v3 σ) (fun r10 σ9 => some (r10, σ9))) else (if v1 = 1 then (fX8_readBits_b39 i v2 ((σ.1 5 8) &&& ((1 <<< (v3 &&& 31)) ^^^ (-1))) σ) else (fX8_readBits_b39 i v2 (σ.1 5 9) σ))
set_option maxRecDepth 100000 in
theorem kX8_readBits (hE : gEX l dC dI ad ca X) (i : Nat) (hi : i < 3)  (v1 : Int32) (v2 : Int32) (v3 : Int32) (σ : gM) {r0 : Int32} {σ' : gM} (h : fX8_readBits i v1 v2 v3 σ = some (r0, σ')) : g_C l dC dI ad ca shX X yX8_readBits cX8_readBits 5 (some .int) (gR 1) [.ref (9 + 5 * i), .int v1, .int v2, .int v3] σ (some (.int r0)) σ' := by
  refine g_entry (by decide +kernel) (Nat.le_of_ble_eq_true rfl) ?_
  refine g_lvE (lv1 := [(0, .ref (9 + 5 * i)), (1, .int v1), (2, .int v2), (3, .int v3)]) rfl ?_
  unfold fX8_readBits at h
  refine g_iload_n (pc := 0) dX8_readBits_0 rfl 1 rfl ?_
  refine g_if_ne (pc := 1) (tgt := 11) dX8_readBits_1 (by decide) (fun c6 => ?_) (fun c6 => ?_)
  · have h := g_iff c6 h
    refine g_iload_n (pc := 11) dX8_readBits_11 rfl 1 rfl ?_
    refine g_iconst (pc := 12) (v := 1) dX8_readBits_12 (by decide) ?_
    refine g_icmp_ne (pc := 13) (tgt := 32) dX8_readBits_13 (by decide) (fun c7 => ?_) (fun c7 => ?_)
    · have h := g_iff c7 h
      refine g_aload_n (pc := 32) dX8_readBits_32 rfl 0 rfl ?_
      refine g_getR (pc := 33) wfX8_18 (sX_shelf (i := i) hi) rfl dX8_readBits_33 ?_
      refine g_getI (pc := 36) wfX8_88 rfl rfl dX8_readBits_36 ?_
      exact g_lv [2] rfl (tX8_readBits_b39 hE i hi v2 (σ.1 5 9) σ h)
    · have h := g_ift c7 h
      refine g_aload_n (pc := 16) dX8_readBits_16 rfl 0 rfl ?_
      refine g_getR (pc := 17) wfX8_18 (sX_shelf (i := i) hi) rfl dX8_readBits_17 ?_
      refine g_getI (pc := 20) wfX8_78 rfl rfl dX8_readBits_20 ?_
      refine g_iconst (pc := 23) (v := 1) dX8_readBits_23 (by decide) ?_
      refine g_iload_n (pc := 24) dX8_readBits_24 rfl 3 rfl ?_
      refine g_ishl (pc := 25) dX8_readBits_25 ?_
      refine g_iconst (pc := 26) (v := (-1)) dX8_readBits_26 (by decide) ?_
      refine g_ixor (pc := 27) dX8_readBits_27 ?_
      refine g_iand (pc := 28) dX8_readBits_28 ?_
      refine g_goto (pc := 29) (tgt := 39) dX8_readBits_29 (by decide) ?_
      exact g_lv [2] rfl (tX8_readBits_b39 hE i hi v2 ((σ.1 5 8) &&& ((1 <<< (v3 &&& 31)) ^^^ (-1))) σ h)
  · have h := g_ift c6 h
    refine g_aload_n (pc := 4) dX8_readBits_4 rfl 0 rfl ?_
    refine g_iload_n (pc := 5) dX8_readBits_5 rfl 2 rfl ?_
    refine g_iload_n (pc := 6) dX8_readBits_6 rfl 3 rfl ?_
    obtain ⟨r10, σ9, h8, h⟩ := g_bId h
    refine g_callVi (pc := 7) (st := []) hE.1 wvX8_85 (sX_shelf (i := i) hi) rfl (kX8_writeBits hE i hi v2 v3 σ h8) rfl (gR_ok (by decide) (by decide)) (Nat.le_of_ble_eq_true rfl) rfl dX8_readBits_7 ?_
    cases h
    exact g_iret (pc := 10) rfl rfl rfl rfl dX8_readBits_10
def fJ6_bitCount_0f7a4 (v0 : Int32) (σ : gM) : Option (Int32 × gM) := some ((((((((v0 - ((g_us v0 1) &&& 1431655765)) &&& 858993459) + ((g_us (v0 - ((g_us v0 1) &&& 1431655765)) 2) &&& 858993459)) + (g_us (((v0 - ((g_us v0 1) &&& 1431655765)) &&& 858993459) + ((g_us (v0 - ((g_us v0 1) &&& 1431655765)) 2) &&& 858993459)) 4)) &&& 252645135) + (g_us (((((v0 - ((g_us v0 1) &&& 1431655765)) &&& 858993459) + ((g_us (v0 - ((g_us v0 1) &&& 1431655765)) 2) &&& 858993459)) + (g_us (((v0 - ((g_us v0 1) &&& 1431655765)) &&& 858993459) + ((g_us (v0 - ((g_us v0 1) &&& 1431655765)) 2) &&& 858993459)) 4)) &&& 252645135) 8)) + (g_us ((((((v0 - ((g_us v0 1) &&& 1431655765)) &&& 858993459) + ((g_us (v0 - ((g_us v0 1) &&& 1431655765)) 2) &&& 858993459)) + (g_us (((v0 - ((g_us v0 1) &&& 1431655765)) &&& 858993459) + ((g_us (v0 - ((g_us v0 1) &&& 1431655765)) 2) &&& 858993459)) 4)) &&& 252645135) + (g_us (((((v0 - ((g_us v0 1) &&& 1431655765)) &&& 858993459) + ((g_us (v0 - ((g_us v0 1) &&& 1431655765)) 2) &&& 858993459)) + (g_us (((v0 - ((g_us v0 1) &&& 1431655765)) &&& 858993459) + ((g_us (v0 - ((g_us v0 1) &&& 1431655765)) 2) &&& 858993459)) 4)) &&& 252645135) 8)) 16)) &&& 63, σ)
set_option maxRecDepth 100000 in
theorem kJ6_bitCount_0f7a4 (hE : gEX l dC dI ad ca X)  (v0 : Int32) (σ : gM) {r0 : Int32} {σ' : gM} (h : fJ6_bitCount_0f7a4 v0 σ = some (r0, σ')) : g_C l dC dI ad ca shX X yJ6_bitCount_0f7a4 cJ6_bitCount_0f7a4 1 (some .int) (gR 0) [.int v0] σ (some (.int r0)) σ' := by
  refine g_entry (by decide +kernel) (Nat.le_of_ble_eq_true rfl) ?_
  refine g_lvE (lv1 := [(0, .int v0)]) rfl ?_
  unfold fJ6_bitCount_0f7a4 at h
  refine g_iload_n (pc := 0) dJ6_bitCount_0f7a4_0 rfl 0 rfl ?_
  refine g_iload_n (pc := 1) dJ6_bitCount_0f7a4_1 rfl 0 rfl ?_
  refine g_iconst (pc := 2) (v := 1) dJ6_bitCount_0f7a4_2 (by decide) ?_
  refine g_iushr (pc := 3) dJ6_bitCount_0f7a4_3 ?_
  refine g_ldcw (pc := 4) wkJ6_265 dJ6_bitCount_0f7a4_4 ?_
  refine g_iand (pc := 7) dJ6_bitCount_0f7a4_7 ?_
  refine g_isub (pc := 8) dJ6_bitCount_0f7a4_8 ?_
  refine g_istore_n (pc := 9) (lv1 := [(0, .int (v0 - ((g_us v0 1) &&& 1431655765)))]) dJ6_bitCount_0f7a4_9 rfl (by decide) rfl ?_
  refine g_iload_n (pc := 10) dJ6_bitCount_0f7a4_10 rfl 0 rfl ?_
  refine g_ldcw (pc := 11) wkJ6_266 dJ6_bitCount_0f7a4_11 ?_
  refine g_iand (pc := 14) dJ6_bitCount_0f7a4_14 ?_
  refine g_iload_n (pc := 15) dJ6_bitCount_0f7a4_15 rfl 0 rfl ?_
  refine g_iconst (pc := 16) (v := 2) dJ6_bitCount_0f7a4_16 (by decide) ?_
  refine g_iushr (pc := 17) dJ6_bitCount_0f7a4_17 ?_
  refine g_ldcw (pc := 18) wkJ6_266 dJ6_bitCount_0f7a4_18 ?_
  refine g_iand (pc := 21) dJ6_bitCount_0f7a4_21 ?_
  refine g_iadd (pc := 22) dJ6_bitCount_0f7a4_22 ?_
  refine g_istore_n (pc := 23) (lv1 := [(0, .int (((v0 - ((g_us v0 1) &&& 1431655765)) &&& 858993459) + ((g_us (v0 - ((g_us v0 1) &&& 1431655765)) 2) &&& 858993459)))]) dJ6_bitCount_0f7a4_23 rfl (by decide) rfl ?_
  refine g_iload_n (pc := 24) dJ6_bitCount_0f7a4_24 rfl 0 rfl ?_
  refine g_iload_n (pc := 25) dJ6_bitCount_0f7a4_25 rfl 0 rfl ?_
  refine g_iconst (pc := 26) (v := 4) dJ6_bitCount_0f7a4_26 (by decide) ?_
  refine g_iushr (pc := 27) dJ6_bitCount_0f7a4_27 ?_
  refine g_iadd (pc := 28) dJ6_bitCount_0f7a4_28 ?_
  refine g_ldcw (pc := 29) wkJ6_267 dJ6_bitCount_0f7a4_29 ?_
  refine g_iand (pc := 32) dJ6_bitCount_0f7a4_32 ?_
  refine g_istore_n (pc := 33) (lv1 := [(0, .int (((((v0 - ((g_us v0 1) &&& 1431655765)) &&& 858993459) + ((g_us (v0 - ((g_us v0 1) &&& 1431655765)) 2) &&& 858993459)) + (g_us (((v0 - ((g_us v0 1) &&& 1431655765)) &&& 858993459) + ((g_us (v0 - ((g_us v0 1) &&& 1431655765)) 2) &&& 858993459)) 4)) &&& 252645135))]) dJ6_bitCount_0f7a4_33 rfl (by decide) rfl ?_
  refine g_iload_n (pc := 34) dJ6_bitCount_0f7a4_34 rfl 0 rfl ?_
  refine g_iload_n (pc := 35) dJ6_bitCount_0f7a4_35 rfl 0 rfl ?_
  refine g_bipush (pc := 36) (v := 8) dJ6_bitCount_0f7a4_36 (by decide) ?_
  refine g_iushr (pc := 38) dJ6_bitCount_0f7a4_38 ?_
  refine g_iadd (pc := 39) dJ6_bitCount_0f7a4_39 ?_
  refine g_istore_n (pc := 40) (lv1 := [(0, .int ((((((v0 - ((g_us v0 1) &&& 1431655765)) &&& 858993459) + ((g_us (v0 - ((g_us v0 1) &&& 1431655765)) 2) &&& 858993459)) + (g_us (((v0 - ((g_us v0 1) &&& 1431655765)) &&& 858993459) + ((g_us (v0 - ((g_us v0 1) &&& 1431655765)) 2) &&& 858993459)) 4)) &&& 252645135) + (g_us (((((v0 - ((g_us v0 1) &&& 1431655765)) &&& 858993459) + ((g_us (v0 - ((g_us v0 1) &&& 1431655765)) 2) &&& 858993459)) + (g_us (((v0 - ((g_us v0 1) &&& 1431655765)) &&& 858993459) + ((g_us (v0 - ((g_us v0 1) &&& 1431655765)) 2) &&& 858993459)) 4)) &&& 252645135) 8)))]) dJ6_bitCount_0f7a4_40 rfl (by decide) rfl ?_
  refine g_iload_n (pc := 41) dJ6_bitCount_0f7a4_41 rfl 0 rfl ?_
  refine g_iload_n (pc := 42) dJ6_bitCount_0f7a4_42 rfl 0 rfl ?_
  refine g_bipush (pc := 43) (v := 16) dJ6_bitCount_0f7a4_43 (by decide) ?_
  refine g_iushr (pc := 45) dJ6_bitCount_0f7a4_45 ?_
  refine g_iadd (pc := 46) dJ6_bitCount_0f7a4_46 ?_
  refine g_istore_n (pc := 47) (lv1 := [(0, .int (((((((v0 - ((g_us v0 1) &&& 1431655765)) &&& 858993459) + ((g_us (v0 - ((g_us v0 1) &&& 1431655765)) 2) &&& 858993459)) + (g_us (((v0 - ((g_us v0 1) &&& 1431655765)) &&& 858993459) + ((g_us (v0 - ((g_us v0 1) &&& 1431655765)) 2) &&& 858993459)) 4)) &&& 252645135) + (g_us (((((v0 - ((g_us v0 1) &&& 1431655765)) &&& 858993459) + ((g_us (v0 - ((g_us v0 1) &&& 1431655765)) 2) &&& 858993459)) + (g_us (((v0 - ((g_us v0 1) &&& 1431655765)) &&& 858993459) + ((g_us (v0 - ((g_us v0 1) &&& 1431655765)) 2) &&& 858993459)) 4)) &&& 252645135) 8)) + (g_us ((((((v0 - ((g_us v0 1) &&& 1431655765)) &&& 858993459) + ((g_us (v0 - ((g_us v0 1) &&& 1431655765)) 2) &&& 858993459)) + (g_us (((v0 - ((g_us v0 1) &&& 1431655765)) &&& 858993459) + ((g_us (v0 - ((g_us v0 1) &&& 1431655765)) 2) &&& 858993459)) 4)) &&& 252645135) + (g_us (((((v0 - ((g_us v0 1) &&& 1431655765)) &&& 858993459) + ((g_us (v0 - ((g_us v0 1) &&& 1431655765)) 2) &&& 858993459)) + (g_us (((v0 - ((g_us v0 1) &&& 1431655765)) &&& 858993459) + ((g_us (v0 - ((g_us v0 1) &&& 1431655765)) 2) &&& 858993459)) 4)) &&& 252645135) 8)) 16)))]) dJ6_bitCount_0f7a4_47 rfl (by decide) rfl ?_
  refine g_iload_n (pc := 48) dJ6_bitCount_0f7a4_48 rfl 0 rfl ?_
  refine g_bipush (pc := 49) (v := 63) dJ6_bitCount_0f7a4_49 (by decide) ?_
  refine g_iand (pc := 51) dJ6_bitCount_0f7a4_51 ?_
  cases h
  exact g_iret (pc := 52) rfl rfl rfl rfl dJ6_bitCount_0f7a4_52
def fX8_wayOf_b37 (i : Nat) (v1 : Int32) (v2 : Int32) (v3 : Int32) (s0 : Int32) (σ : gM) : Option (Int32 × gM) := if v3 = 0 then (if s0 = 0 then (some (2, σ)) else (some (1, σ))) else (g_bI (fX8_readBits i 0 v1 v2 σ) (fun r22 σ21 => g_bI (fJ6_bitCount_0f7a4 r22 σ21) (fun r25 σ24 => g_bI (fX8_readBits i 1 v1 v2 σ24) (fun r28 σ27 => g_bI (fJ6_bitCount_0f7a4 r28 σ27) (fun r31 σ30 => if s0 = 0 then (some (0, σ30)) else (if r25 ≤ r31 then (some (0, σ30)) else (some (1, σ30))))))))
set_option maxRecDepth 100000 in
theorem tX8_wayOf_b37 (hE : gEX l dC dI ad ca X) {r0 : Int32} {σ' : gM} (i : Nat) (hi : i < 3) (v1 : Int32) (v2 : Int32) (v3 : Int32) (s0 : Int32)  (σ : gM) (h : fX8_wayOf_b37 i v1 v2 v3 s0 σ = some (r0, σ')) : g_G l dC dI ad ca shX X cX8_wayOf 7 RX8 (some .int) (gR 2) (some (.int r0)) σ' 37 [(0, .ref (9 + 5 * i)), (1, .int v1), (2, .int v2), (3, .int v3)] [.int s0] σ := by
  unfold fX8_wayOf_b37 at h
  refine g_istore (pc := 37) (lv1 := [(4, .int s0), (0, .ref (9 + 5 * i)), (1, .int v1), (2, .int v2), (3, .int v3)]) dX8_wayOf_37 (by decide) rfl ?_
  refine g_iload_n (pc := 39) dX8_wayOf_39 rfl 4 rfl ?_
  refine g_if_ne (pc := 40) (tgt := 54) dX8_wayOf_40 (by decide) (fun c19 => ?_) (fun c19 => ?_)
  · have h := g_iff c19 h
    refine g_aload_n (pc := 54) dX8_wayOf_54 rfl 1 rfl ?_
    refine g_iconst (pc := 55) (v := 0) dX8_wayOf_55 (by decide) ?_
    refine g_iload_n (pc := 56) dX8_wayOf_56 rfl 2 rfl ?_
    refine g_iload_n (pc := 57) dX8_wayOf_57 rfl 3 rfl ?_
    obtain ⟨r22, σ21, h20, h⟩ := g_bId h
    refine g_callVi (pc := 58) (st := []) hE.1 wvX8_81 (sX_shelf (i := i) hi) rfl (kX8_readBits hE i hi 0 v1 v2 σ h20) rfl (gR_ok (by decide) (by decide)) (Nat.le_of_ble_eq_true rfl) rfl dX8_wayOf_58 ?_
    obtain ⟨r25, σ24, h23, h⟩ := g_bId h
    refine g_callSi (pc := 61) (st := []) hE.1 wsX8_56 (kJ6_bitCount_0f7a4 hE r22 σ21 h23) rfl (gR_ok (by decide) (by decide)) (Nat.le_of_ble_eq_true rfl) rfl dX8_wayOf_61 ?_
    refine g_istore (pc := 64) (lv1 := [(5, .int r25), (4, .int s0), (0, .ref (9 + 5 * i)), (1, .int v1), (2, .int v2), (3, .int v3)]) dX8_wayOf_64 (by decide) rfl ?_
    refine g_aload_n (pc := 66) dX8_wayOf_66 rfl 2 rfl ?_
    refine g_iconst (pc := 67) (v := 1) dX8_wayOf_67 (by decide) ?_
    refine g_iload_n (pc := 68) dX8_wayOf_68 rfl 3 rfl ?_
    refine g_iload_n (pc := 69) dX8_wayOf_69 rfl 4 rfl ?_
    obtain ⟨r28, σ27, h26, h⟩ := g_bId h
    refine g_callVi (pc := 70) (st := []) hE.1 wvX8_81 (sX_shelf (i := i) hi) rfl (kX8_readBits hE i hi 1 v1 v2 σ24 h26) rfl (gR_ok (by decide) (by decide)) (Nat.le_of_ble_eq_true rfl) rfl dX8_wayOf_70 ?_
    obtain ⟨r31, σ30, h29, h⟩ := g_bId h
    refine g_callSi (pc := 73) (st := []) hE.1 wsX8_56 (kJ6_bitCount_0f7a4 hE r28 σ27 h29) rfl (gR_ok (by decide) (by decide)) (Nat.le_of_ble_eq_true rfl) rfl dX8_wayOf_73 ?_
    refine g_istore (pc := 76) (lv1 := [(6, .int r31), (5, .int r25), (4, .int s0), (0, .ref (9 + 5 * i)), (1, .int v1), (2, .int v2), (3, .int v3)]) dX8_wayOf_76 (by decide) rfl ?_
    refine g_iload (pc := 78) dX8_wayOf_78 2 rfl ?_
    refine g_if_eq (pc := 80) (tgt := 94) dX8_wayOf_80 (by decide) (fun c32 => ?_) (fun c32 => ?_)
    · have h := g_ift c32 h
      refine g_iconst (pc := 94) (v := 0) dX8_wayOf_94 (by decide) ?_
      cases h
      exact g_iret (pc := 95) rfl rfl rfl rfl dX8_wayOf_95
    · have h := g_iff c32 h
      refine g_iload (pc := 83) dX8_wayOf_83 0 rfl ?_
      refine g_iload (pc := 85) dX8_wayOf_85 1 rfl ?_
      refine g_icmp_ge (pc := 87) (tgt := 94) dX8_wayOf_87 (by decide) (fun c33 => ?_) (fun c33 => ?_)
      · have h := g_ift c33 h
        refine g_iconst (pc := 94) (v := 0) dX8_wayOf_94 (by decide) ?_
        cases h
        exact g_iret (pc := 95) rfl rfl rfl rfl dX8_wayOf_95
      · have h := g_iff c33 h
        refine g_iconst (pc := 90) (v := 1) dX8_wayOf_90 (by decide) ?_
        refine g_goto (pc := 91) (tgt := 95) dX8_wayOf_91 (by decide) ?_
        cases h
        exact g_iret (pc := 95) rfl rfl rfl rfl dX8_wayOf_95
  · have h := g_ift c19 h
    refine g_iload (pc := 43) dX8_wayOf_43 0 rfl ?_
    refine g_if_eq (pc := 45) (tgt := 52) dX8_wayOf_45 (by decide) (fun c34 => ?_) (fun c34 => ?_)
    · have h := g_ift c34 h
      refine g_iconst (pc := 52) (v := 2) dX8_wayOf_52 (by decide) ?_
      cases h
      exact g_iret (pc := 53) rfl rfl rfl rfl dX8_wayOf_53
    · have h := g_iff c34 h
      refine g_iconst (pc := 48) (v := 1) dX8_wayOf_48 (by decide) ?_
      refine g_goto (pc := 49) (tgt := 53) dX8_wayOf_49 (by decide) ?_
      cases h
      exact g_iret (pc := 53) rfl rfl rfl rfl dX8_wayOf_53
def fX8_wayOf_b13 (i : Nat) (v1 : Int32) (v2 : Int32) (s0 : Int32) (σ : gM) : Option (Int32 × gM) := if ((v1 &&& (σ.1 5 8)) &&& ((1 <<< (v2 &&& 31)) ^^^ (-1))) = 0 then (fX8_wayOf_b37 i v1 v2 s0 1 σ) else (fX8_wayOf_b37 i v1 v2 s0 0 σ)
set_option maxRecDepth 100000 in
theorem tX8_wayOf_b13 (hE : gEX l dC dI ad ca X) {r0 : Int32} {σ' : gM} (i : Nat) (hi : i < 3) (v1 : Int32) (v2 : Int32) (s0 : Int32)  (σ : gM) (h : fX8_wayOf_b13 i v1 v2 s0 σ = some (r0, σ')) : g_G l dC dI ad ca shX X cX8_wayOf 7 RX8 (some .int) (gR 2) (some (.int r0)) σ' 13 [(0, .ref (9 + 5 * i)), (1, .int v1), (2, .int v2)] [.int s0] σ := by
  unfold fX8_wayOf_b13 at h
  refine g_istore_n (pc := 13) (lv1 := [(3, .int s0), (0, .ref (9 + 5 * i)), (1, .int v1), (2, .int v2)]) dX8_wayOf_13 rfl (by decide) rfl ?_
  refine g_iload_n (pc := 14) dX8_wayOf_14 rfl 2 rfl ?_
  refine g_aload_n (pc := 15) dX8_wayOf_15 rfl 1 rfl ?_
  refine g_getR (pc := 16) wfX8_18 (sX_shelf (i := i) hi) rfl dX8_wayOf_16 ?_
  refine g_getI (pc := 19) wfX8_78 rfl rfl dX8_wayOf_19 ?_
  refine g_iand (pc := 22) dX8_wayOf_22 ?_
  refine g_iconst (pc := 23) (v := 1) dX8_wayOf_23 (by decide) ?_
  refine g_iload_n (pc := 24) dX8_wayOf_24 rfl 3 rfl ?_
  refine g_ishl (pc := 25) dX8_wayOf_25 ?_
  refine g_iconst (pc := 26) (v := (-1)) dX8_wayOf_26 (by decide) ?_
  refine g_ixor (pc := 27) dX8_wayOf_27 ?_
  refine g_iand (pc := 28) dX8_wayOf_28 ?_
  refine g_if_ne (pc := 29) (tgt := 36) dX8_wayOf_29 (by decide) (fun c35 => ?_) (fun c35 => ?_)
  · have h := g_iff c35 h
    refine g_iconst (pc := 36) (v := 0) dX8_wayOf_36 (by decide) ?_
    exact g_lv [1, 2, 3, 0] rfl (tX8_wayOf_b37 hE i hi v1 v2 s0 0 σ h)
  · have h := g_ift c35 h
    refine g_iconst (pc := 32) (v := 1) dX8_wayOf_32 (by decide) ?_
    refine g_goto (pc := 33) (tgt := 37) dX8_wayOf_33 (by decide) ?_
    exact g_lv [1, 2, 3, 0] rfl (tX8_wayOf_b37 hE i hi v1 v2 s0 1 σ h)
def fX8_wayOf (i : Nat) (v1 : Int32) (v2 : Int32) (σ : gM) : Option (Int32 × gM) := if ((v1 >>> (v2 &&& 31)) &&& 1) = 0 then (fX8_wayOf_b13 i v1 v2 1 σ) else (fX8_wayOf_b13 i v1 v2 0 σ)
set_option maxRecDepth 100000 in
theorem kX8_wayOf (hE : gEX l dC dI ad ca X) (i : Nat) (hi : i < 3)  (v1 : Int32) (v2 : Int32) (σ : gM) {r0 : Int32} {σ' : gM} (h : fX8_wayOf i v1 v2 σ = some (r0, σ')) : g_C l dC dI ad ca shX X yX8_wayOf cX8_wayOf 7 (some .int) (gR 2) [.ref (9 + 5 * i), .int v1, .int v2] σ (some (.int r0)) σ' := by
  refine g_entry (by decide +kernel) (Nat.le_of_ble_eq_true rfl) ?_
  refine g_lvE (lv1 := [(0, .ref (9 + 5 * i)), (1, .int v1), (2, .int v2)]) rfl ?_
  unfold fX8_wayOf at h
  refine g_iload_n (pc := 0) dX8_wayOf_0 rfl 1 rfl ?_
  refine g_iload_n (pc := 1) dX8_wayOf_1 rfl 2 rfl ?_
  refine g_ishr (pc := 2) dX8_wayOf_2 ?_
  refine g_iconst (pc := 3) (v := 1) dX8_wayOf_3 (by decide) ?_
  refine g_iand (pc := 4) dX8_wayOf_4 ?_
  refine g_if_ne (pc := 5) (tgt := 12) dX8_wayOf_5 (by decide) (fun c36 => ?_) (fun c36 => ?_)
  · have h := g_iff c36 h
    refine g_iconst (pc := 12) (v := 0) dX8_wayOf_12 (by decide) ?_
    exact g_lv [0, 1, 2] rfl (tX8_wayOf_b13 hE i hi v1 v2 0 σ h)
  · have h := g_ift c36 h
    refine g_iconst (pc := 8) (v := 1) dX8_wayOf_8 (by decide) ?_
    refine g_goto (pc := 9) (tgt := 13) dX8_wayOf_9 (by decide) ?_
    exact g_lv [0, 1, 2] rfl (tX8_wayOf_b13 hE i hi v1 v2 1 σ h)
def fX4_costOf (n : Nat) (v1 : Int32) (v2 : Int32) (σ : gM) : Option (Int32 × gM) := g_bI (fX6_partOf v1 σ) (fun r31 σ30 => g_bI (fX6_stripeOf v1 σ30) (fun r34 σ33 => g_bI (fX8_missing n 0 r34 σ33) (fun r37 σ36 => g_bI (fX8_wayOf 0 r37 r31 σ36) (fun r40 σ39 => if v2 = 0 then (g_bI (fX8_readBits 0 r40 r37 r31 σ39) (fun r44 σ43 => g_bI (fJ6_bitCount_0f7a4 r44 σ43) (fun r47 σ46 => some (r47, σ46)))) else (if v2 = 1 then (g_bI (fX8_writeBits 0 r37 r31 σ39) (fun r51 σ50 => g_bI (fJ6_bitCount_0f7a4 r51 σ50) (fun r54 σ53 => some (r54, σ53)))) else (if v2 = 2 then (some (r40, σ39)) else (some ((-1), σ39))))))))
set_option maxRecDepth 100000 in
theorem kX4_costOf (hE : gEX l dC dI ad ca X) (n : Nat)  (v1 : Int32) (v2 : Int32) (σ : gM) {r0 : Int32} {σ' : gM} (h : fX4_costOf n v1 v2 σ = some (r0, σ')) : g_C l dC dI ad ca shX X yX4_costOf cX4_costOf 6 (some .int) (gR 3) [.ref 24, .int v1, .int v2] σ (some (.int r0)) σ' := by
  refine g_entry (by decide +kernel) (Nat.le_of_ble_eq_true rfl) ?_
  refine g_lvE (lv1 := [(0, .ref 24), (1, .int v1), (2, .int v2)]) rfl ?_
  unfold fX4_costOf at h
  refine g_aload_n (pc := 0) dX4_costOf_0 rfl 0 rfl ?_
  refine g_getR (pc := 1) wfX4_21 rfl rfl dX4_costOf_1 ?_
  refine g_iload_n (pc := 4) dX4_costOf_4 rfl 1 rfl ?_
  obtain ⟨r31, σ30, h29, h⟩ := g_bId h
  refine g_callVi (pc := 5) (st := []) hE.1 wvX4_22 rfl rfl (kX6_partOf hE v1 σ h29) rfl (gR_ok (by decide) (by decide)) (Nat.le_of_ble_eq_true rfl) rfl dX4_costOf_5 ?_
  refine g_istore_n (pc := 8) (lv1 := [(3, .int r31), (0, .ref 24), (1, .int v1), (2, .int v2)]) dX4_costOf_8 rfl (by decide) rfl ?_
  refine g_aload_n (pc := 9) dX4_costOf_9 rfl 1 rfl ?_
  refine g_getR (pc := 10) wfX4_9 rfl rfl dX4_costOf_10 ?_
  refine g_aload_n (pc := 13) dX4_costOf_13 rfl 1 rfl ?_
  refine g_getR (pc := 14) wfX4_21 rfl rfl dX4_costOf_14 ?_
  refine g_iload_n (pc := 17) dX4_costOf_17 rfl 2 rfl ?_
  obtain ⟨r34, σ33, h32, h⟩ := g_bId h
  refine g_callVi (pc := 18) (st := [.ref (9 + 5 * 0)]) hE.1 wvX4_28 rfl rfl (kX6_stripeOf hE v1 σ30 h32) rfl (gR_ok (by decide) (by decide)) (Nat.le_of_ble_eq_true rfl) rfl dX4_costOf_18 ?_
  obtain ⟨r37, σ36, h35, h⟩ := g_bId h
  refine g_callVi (pc := 21) (st := []) hE.1 wvX4_31 (sX_shelf (i := 0) (by decide)) rfl (kX8_missing hE n 0 (by decide) r34 σ33 h35) rfl (gR_ok (by decide) (by decide)) (Nat.le_of_ble_eq_true rfl) rfl dX4_costOf_21 ?_
  refine g_istore (pc := 24) (lv1 := [(4, .int r37), (3, .int r31), (0, .ref 24), (1, .int v1), (2, .int v2)]) dX4_costOf_24 (by decide) rfl ?_
  refine g_aload_n (pc := 26) dX4_costOf_26 rfl 2 rfl ?_
  refine g_getR (pc := 27) wfX4_9 rfl rfl dX4_costOf_27 ?_
  refine g_iload (pc := 30) dX4_costOf_30 0 rfl ?_
  refine g_iload_n (pc := 32) dX4_costOf_32 rfl 1 rfl ?_
  obtain ⟨r40, σ39, h38, h⟩ := g_bId h
  refine g_callVi (pc := 33) (st := []) hE.1 wvX4_34 (sX_shelf (i := 0) (by decide)) rfl (kX8_wayOf hE 0 (by decide) r37 r31 σ36 h38) rfl (gR_ok (by decide) (by decide)) (Nat.le_of_ble_eq_true rfl) rfl dX4_costOf_33 ?_
  refine g_istore (pc := 36) (lv1 := [(5, .int r40), (4, .int r37), (3, .int r31), (0, .ref 24), (1, .int v1), (2, .int v2)]) dX4_costOf_36 (by decide) rfl ?_
  refine g_iload_n (pc := 38) dX4_costOf_38 rfl 5 rfl ?_
  by_cases c41 : v2 = 0
  · have h := g_ift c41 h
    refine g_tabIn (pc := 39) (tgt := 64) (off := 25) dX4_costOf_39 (by rw [c41]; decide) (by rw [c41]; decide) (by rw [c41]; decide) (by decide) ?_
    refine g_aload_n (pc := 64) dX4_costOf_64 rfl 3 rfl ?_
    refine g_getR (pc := 65) wfX4_9 rfl rfl dX4_costOf_65 ?_
    refine g_iload (pc := 68) dX4_costOf_68 0 rfl ?_
    refine g_iload (pc := 70) dX4_costOf_70 1 rfl ?_
    refine g_iload_n (pc := 72) dX4_costOf_72 rfl 2 rfl ?_
    obtain ⟨r44, σ43, h42, h⟩ := g_bId h
    refine g_callVi (pc := 73) (st := []) hE.1 wvX4_38 (sX_shelf (i := 0) (by decide)) rfl (kX8_readBits hE 0 (by decide) r40 r37 r31 σ39 h42) rfl (gR_ok (by decide) (by decide)) (Nat.le_of_ble_eq_true rfl) rfl dX4_costOf_73 ?_
    obtain ⟨r47, σ46, h45, h⟩ := g_bId h
    refine g_callSi (pc := 76) (st := []) hE.1 wsX4_42 (kJ6_bitCount_0f7a4 hE r44 σ43 h45) rfl (gR_ok (by decide) (by decide)) (Nat.le_of_ble_eq_true rfl) rfl dX4_costOf_76 ?_
    cases h
    exact g_iret (pc := 79) rfl rfl rfl rfl dX4_costOf_79
  have h := g_iff c41 h
  by_cases c48 : v2 = 1
  · have h := g_ift c48 h
    refine g_tabIn (pc := 39) (tgt := 80) (off := 41) dX4_costOf_39 (by rw [c48]; decide) (by rw [c48]; decide) (by rw [c48]; decide) (by decide) ?_
    refine g_aload_n (pc := 80) dX4_costOf_80 rfl 3 rfl ?_
    refine g_getR (pc := 81) wfX4_9 rfl rfl dX4_costOf_81 ?_
    refine g_iload (pc := 84) dX4_costOf_84 1 rfl ?_
    refine g_iload_n (pc := 86) dX4_costOf_86 rfl 2 rfl ?_
    obtain ⟨r51, σ50, h49, h⟩ := g_bId h
    refine g_callVi (pc := 87) (st := []) hE.1 wvX4_47 (sX_shelf (i := 0) (by decide)) rfl (kX8_writeBits hE 0 (by decide) r37 r31 σ39 h49) rfl (gR_ok (by decide) (by decide)) (Nat.le_of_ble_eq_true rfl) rfl dX4_costOf_87 ?_
    obtain ⟨r54, σ53, h52, h⟩ := g_bId h
    refine g_callSi (pc := 90) (st := []) hE.1 wsX4_42 (kJ6_bitCount_0f7a4 hE r51 σ50 h52) rfl (gR_ok (by decide) (by decide)) (Nat.le_of_ble_eq_true rfl) rfl dX4_costOf_90 ?_
    cases h
    exact g_iret (pc := 93) rfl rfl rfl rfl dX4_costOf_93
  have h := g_iff c48 h
  by_cases c55 : v2 = 2
  · have h := g_ift c55 h
    refine g_tabIn (pc := 39) (tgt := 94) (off := 55) dX4_costOf_39 (by rw [c55]; decide) (by rw [c55]; decide) (by rw [c55]; decide) (by decide) ?_
    refine g_iload (pc := 94) dX4_costOf_94 0 rfl ?_
    cases h
    exact g_iret (pc := 96) rfl rfl rfl rfl dX4_costOf_96
  have h := g_iff c55 h
  have u56 : (v2).toInt < 0 ∨ 2 < (v2).toInt := by
    have ec41 := g_toInt c41
    have ec48 := g_toInt c48
    have ec55 := g_toInt c55
    rw [show (0 : Int32).toInt = 0 from by decide] at ec41
    rw [show (1 : Int32).toInt = 1 from by decide] at ec48
    rw [show (2 : Int32).toInt = 2 from by decide] at ec55
    omega
  refine g_tabOut (pc := 39) (tgt := 97) dX4_costOf_39 u56 (by decide) ?_
  refine g_iconst (pc := 97) (v := (-1)) dX4_costOf_97 (by decide) ?_
  cases h
  exact g_iret (pc := 98) rfl rfl rfl rfl dX4_costOf_98
def fX6_partOn (v1 : Int32) (v2 : Int32) (σ : gM) : Option (Int32 × gM) := if 1 ≤ (σ.1 5 5) then (if (σ.1 5 5) = 0 then none else (g_bI (fJ9_floorMod_7cf53 (v1 - (((σ.1 5 5) - 1) - (v2 - v2 / (σ.1 5 5) * (σ.1 5 5)))) (σ.1 5 5) σ) (fun r11 σ10 => if 2 ≤ r11 then (some (r11 - 2, σ10)) else (some ((σ10.1 5 0) + r11, σ10))))) else (some (0, σ))
set_option maxRecDepth 100000 in
theorem kX6_partOn (hE : gEX l dC dI ad ca X)  (v1 : Int32) (v2 : Int32) (σ : gM) {r0 : Int32} {σ' : gM} (h : fX6_partOn v1 v2 σ = some (r0, σ')) : g_C l dC dI ad ca shX X yX6_partOn cX6_partOn 4 (some .int) (gR 1) [.ref 5, .int v1, .int v2] σ (some (.int r0)) σ' := by
  refine g_entry (by decide +kernel) (Nat.le_of_ble_eq_true rfl) ?_
  refine g_lvE (lv1 := [(0, .ref 5), (1, .int v1), (2, .int v2)]) rfl ?_
  unfold fX6_partOn at h
  refine g_aload_n (pc := 0) dX6_partOn_0 rfl 0 rfl ?_
  refine g_getI (pc := 1) wfX6_25 rfl rfl dX6_partOn_1 ?_
  refine g_iconst (pc := 4) (v := 1) dX6_partOn_4 (by decide) ?_
  refine g_icmp_ge (pc := 5) (tgt := 10) dX6_partOn_5 (by decide) (fun c7 => ?_) (fun c7 => ?_)
  · have h := g_ift c7 h
    refine g_iload_n (pc := 10) dX6_partOn_10 rfl 1 rfl ?_
    refine g_aload_n (pc := 11) dX6_partOn_11 rfl 0 rfl ?_
    refine g_getI (pc := 12) wfX6_25 rfl rfl dX6_partOn_12 ?_
    refine g_iconst (pc := 15) (v := 1) dX6_partOn_15 (by decide) ?_
    refine g_isub (pc := 16) dX6_partOn_16 ?_
    refine g_iload_n (pc := 17) dX6_partOn_17 rfl 2 rfl ?_
    refine g_aload_n (pc := 18) dX6_partOn_18 rfl 0 rfl ?_
    refine g_getI (pc := 19) wfX6_25 rfl rfl dX6_partOn_19 ?_
    obtain ⟨c8, h⟩ := g_gn h
    refine g_irem (pc := 22) dX6_partOn_22 c8 ?_
    refine g_isub (pc := 23) dX6_partOn_23 ?_
    refine g_isub (pc := 24) dX6_partOn_24 ?_
    refine g_aload_n (pc := 25) dX6_partOn_25 rfl 0 rfl ?_
    refine g_getI (pc := 26) wfX6_25 rfl rfl dX6_partOn_26 ?_
    obtain ⟨r11, σ10, h9, h⟩ := g_bId h
    refine g_callSi (pc := 29) (st := []) hE.1 wsX6_60 (kJ9_floorMod_7cf53 hE (v1 - (((σ.1 5 5) - 1) - (v2 - v2 / (σ.1 5 5) * (σ.1 5 5)))) (σ.1 5 5) σ h9) rfl (gR_ok (by decide) (by decide)) (Nat.le_of_ble_eq_true rfl) rfl dX6_partOn_29 ?_
    refine g_istore_n (pc := 32) (lv1 := [(3, .int r11), (0, .ref 5), (1, .int v1), (2, .int v2)]) dX6_partOn_32 rfl (by decide) rfl ?_
    refine g_iload_n (pc := 33) dX6_partOn_33 rfl 0 rfl ?_
    refine g_iconst (pc := 34) (v := 2) dX6_partOn_34 (by decide) ?_
    refine g_icmp_ge (pc := 35) (tgt := 47) dX6_partOn_35 (by decide) (fun c12 => ?_) (fun c12 => ?_)
    · have h := g_ift c12 h
      refine g_iload_n (pc := 47) dX6_partOn_47 rfl 0 rfl ?_
      refine g_iconst (pc := 48) (v := 2) dX6_partOn_48 (by decide) ?_
      refine g_isub (pc := 49) dX6_partOn_49 ?_
      cases h
      exact g_iret (pc := 50) rfl rfl rfl rfl dX6_partOn_50
    · have h := g_iff c12 h
      refine g_aload_n (pc := 38) dX6_partOn_38 rfl 1 rfl ?_
      refine g_getI (pc := 39) wfX6_7 rfl rfl dX6_partOn_39 ?_
      refine g_iload_n (pc := 42) dX6_partOn_42 rfl 0 rfl ?_
      refine g_iadd (pc := 43) dX6_partOn_43 ?_
      refine g_goto (pc := 44) (tgt := 50) dX6_partOn_44 (by decide) ?_
      cases h
      exact g_iret (pc := 50) rfl rfl rfl rfl dX6_partOn_50
  · have h := g_iff c7 h
    refine g_iconst (pc := 8) (v := 0) dX6_partOn_8 (by decide) ?_
    cases h
    exact g_iret (pc := 9) rfl rfl rfl rfl dX6_partOn_9
def fX9_byteAt (i : Nat) (v1 : Int32) (v2 : Int32) (v3 : Int32) (σ : gM) : Option (Int32 × gM) := if ((v1 * 12) + v2) < 0 then (some (0, σ)) else (if 96 ≤ ((v1 * 12) + v2) then (some (0, σ)) else (if v3 < 0 then (some (0, σ)) else (if 4 ≤ v3 then (some (0, σ)) else (if ¬ (((v1 * 12) + v2) < 0 ∨ 144 ≤ ((v1 * 12) + v2).toNatClampNeg) then (some ((g_us (σ.1 (11 + 5 * i) (((v1 * 12) + v2).toNatClampNeg)) (8 * v3)) &&& 255, σ)) else none))))
set_option maxRecDepth 100000 in
theorem kX9_byteAt (hE : gEX l dC dI ad ca X) (i : Nat) (hi : i < 3)  (v1 : Int32) (v2 : Int32) (v3 : Int32) (σ : gM) {r0 : Int32} {σ' : gM} (h : fX9_byteAt i v1 v2 v3 σ = some (r0, σ')) : g_C l dC dI ad ca shX X yX9_byteAt cX9_byteAt 5 (some .int) (gR 0) [.ref (10 + 5 * i), .int v1, .int v2, .int v3] σ (some (.int r0)) σ' := by
  refine g_entry (by decide +kernel) (Nat.le_of_ble_eq_true rfl) ?_
  refine g_lvE (lv1 := [(0, .ref (10 + 5 * i)), (1, .int v1), (2, .int v2), (3, .int v3)]) rfl ?_
  unfold fX9_byteAt at h
  refine g_iload_n (pc := 0) dX9_byteAt_0 rfl 1 rfl ?_
  refine g_bipush (pc := 1) (v := 12) dX9_byteAt_1 (by decide) ?_
  refine g_imul (pc := 3) dX9_byteAt_3 ?_
  refine g_iload_n (pc := 4) dX9_byteAt_4 rfl 2 rfl ?_
  refine g_iadd (pc := 5) dX9_byteAt_5 ?_
  refine g_istore (pc := 6) (lv1 := [(4, .int ((v1 * 12) + v2)), (0, .ref (10 + 5 * i)), (1, .int v1), (2, .int v2), (3, .int v3)]) dX9_byteAt_6 (by decide) rfl ?_
  refine g_iload (pc := 8) dX9_byteAt_8 0 rfl ?_
  refine g_if_lt (pc := 10) (tgt := 48) dX9_byteAt_10 (by decide) (fun c6 => ?_) (fun c6 => ?_)
  · have h := g_ift c6 h
    refine g_iconst (pc := 48) (v := 0) dX9_byteAt_48 (by decide) ?_
    cases h
    exact g_iret (pc := 49) rfl rfl rfl rfl dX9_byteAt_49
  · have h := g_iff c6 h
    refine g_iload (pc := 13) dX9_byteAt_13 0 rfl ?_
    refine g_bipush (pc := 15) (v := 96) dX9_byteAt_15 (by decide) ?_
    refine g_icmp_ge (pc := 17) (tgt := 48) dX9_byteAt_17 (by decide) (fun c7 => ?_) (fun c7 => ?_)
    · have h := g_ift c7 h
      refine g_iconst (pc := 48) (v := 0) dX9_byteAt_48 (by decide) ?_
      cases h
      exact g_iret (pc := 49) rfl rfl rfl rfl dX9_byteAt_49
    · have h := g_iff c7 h
      refine g_iload_n (pc := 20) dX9_byteAt_20 rfl 4 rfl ?_
      refine g_if_lt (pc := 21) (tgt := 48) dX9_byteAt_21 (by decide) (fun c8 => ?_) (fun c8 => ?_)
      · have h := g_ift c8 h
        refine g_iconst (pc := 48) (v := 0) dX9_byteAt_48 (by decide) ?_
        cases h
        exact g_iret (pc := 49) rfl rfl rfl rfl dX9_byteAt_49
      · have h := g_iff c8 h
        refine g_iload_n (pc := 24) dX9_byteAt_24 rfl 4 rfl ?_
        refine g_iconst (pc := 25) (v := 4) dX9_byteAt_25 (by decide) ?_
        refine g_icmp_ge (pc := 26) (tgt := 48) dX9_byteAt_26 (by decide) (fun c9 => ?_) (fun c9 => ?_)
        · have h := g_ift c9 h
          refine g_iconst (pc := 48) (v := 0) dX9_byteAt_48 (by decide) ?_
          cases h
          exact g_iret (pc := 49) rfl rfl rfl rfl dX9_byteAt_49
        · have h := g_iff c9 h
          refine g_aload_n (pc := 29) dX9_byteAt_29 rfl 1 rfl ?_
          refine g_getR (pc := 30) wfX9_11 (sX_state (i := i) hi) rfl dX9_byteAt_30 ?_
          refine g_iload (pc := 33) dX9_byteAt_33 0 rfl ?_
          obtain ⟨c10, h⟩ := g_gd h
          refine g_iald (pc := 35) (sX_slots (i := i) hi) c10 rfl dX9_byteAt_35 ?_
          refine g_bipush (pc := 36) (v := 8) dX9_byteAt_36 (by decide) ?_
          refine g_iload_n (pc := 38) dX9_byteAt_38 rfl 4 rfl ?_
          refine g_imul (pc := 39) dX9_byteAt_39 ?_
          refine g_iushr (pc := 40) dX9_byteAt_40 ?_
          refine g_sipush (pc := 41) (v := 255) dX9_byteAt_41 (by decide) ?_
          refine g_iand (pc := 44) dX9_byteAt_44 ?_
          refine g_goto (pc := 45) (tgt := 49) dX9_byteAt_45 (by decide) ?_
          cases h
          exact g_iret (pc := 49) rfl rfl rfl rfl dX9_byteAt_49
def fX5_load_b73 (n : Nat) (i : Nat) (j : Nat) (K3 : Int32 → Int32 → Int32 → Int32 → gM → Option (gM)) (v2 : Int32) (v3 : Int32) (v4 : Int32) (v5 : Int32) (s0 : Int32) (s1 : Int32) (σ : gM) : Option (gM) := if ¬ (s1 < 0 ∨ 8 ≤ s1.toNatClampNeg) then (g_let (g_put σ (13 + 5 * i) s1.toNatClampNeg s0) (fun σ15 => K3 v2 v3 v4 (v5 + 1) σ15)) else none
set_option maxRecDepth 100000 in
theorem tX5_load_b73 (hE : gEX l dC dI ad ca X) {σ' : gM} (n : Nat) (i : Nat) (hi : i < 3) (j : Nat) (hj : j < 3) (K3 : Int32 → Int32 → Int32 → Int32 → gM → Option (gM)) (hK3 : ∀ (v2 : Int32) (v3 : Int32) (v4 : Int32) (v5 : Int32) (σ : gM), K3 v2 v3 v4 v5 σ = some σ' → g_G l dC dI ad ca shX X cX5_load 7 RX5 none (gR 2) none σ' 3 [(0, .ref (12 + 5 * i)), (1, .ref (10 + 5 * j)), (2, .int v2), (3, .int v3), (4, .int v4), (5, .int v5)] [] σ) (v2 : Int32) (v3 : Int32) (v4 : Int32) (v5 : Int32) (s0 : Int32) (s1 : Int32)  (σ : gM) (h : fX5_load_b73 n i j K3 v2 v3 v4 v5 s0 s1 σ = some σ') : g_G l dC dI ad ca shX X cX5_load 7 RX5 none (gR 2) none σ' 73 [(0, .ref (12 + 5 * i)), (1, .ref (10 + 5 * j)), (2, .int v2), (3, .int v3), (4, .int v4), (5, .int v5)] [.int s0, .int s1, .ref (13 + 5 * i)] σ := by
  unfold fX5_load_b73 at h
  obtain ⟨c14, h⟩ := g_gd h
  obtain ⟨σ15, e16, h⟩ := g_ltd h
  refine g_iast (pc := 73) (sX_rb (i := i) hi) c14 rfl e16 dX5_load_73 ?_
  refine g_iinc (pc := 74) (v := v5 + 1) (lv1 := [(5, .int (v5 + 1)), (0, .ref (12 + 5 * i)), (1, .ref (10 + 5 * j)), (2, .int v2), (3, .int v3), (4, .int v4)]) dX5_load_74 5 rfl rfl (by decide) rfl ?_
  refine g_goto (pc := 77) (tgt := 3) dX5_load_77 (by decide) ?_
  exact g_lv [1, 2, 3, 4, 5, 0] rfl (hK3 v2 v3 v4 (v5 + 1) σ15 h)
def fX5_load_b40 (n : Nat) (i : Nat) (j : Nat) (K3 : Int32 → Int32 → Int32 → Int32 → gM → Option (gM)) (v2 : Int32) (v3 : Int32) (v4 : Int32) (v5 : Int32) (s0 : Int32) (σ : gM) : Option (gM) := if s0 = 0 then (fX5_load_b73 n i j K3 v2 v3 v4 v5 0 v5 σ) else (g_bI (fX6_diskOf v5 v2 σ) (fun r20 σ19 => g_bI (fX9_byteAt j r20 v2 v3 σ19) (fun r23 σ22 => fX5_load_b73 n i j K3 v2 v3 v4 v5 r23 v5 σ22)))
set_option maxRecDepth 100000 in
theorem tX5_load_b40 (hE : gEX l dC dI ad ca X) {σ' : gM} (n : Nat) (i : Nat) (hi : i < 3) (j : Nat) (hj : j < 3) (K3 : Int32 → Int32 → Int32 → Int32 → gM → Option (gM)) (hK3 : ∀ (v2 : Int32) (v3 : Int32) (v4 : Int32) (v5 : Int32) (σ : gM), K3 v2 v3 v4 v5 σ = some σ' → g_G l dC dI ad ca shX X cX5_load 7 RX5 none (gR 2) none σ' 3 [(0, .ref (12 + 5 * i)), (1, .ref (10 + 5 * j)), (2, .int v2), (3, .int v3), (4, .int v4), (5, .int v5)] [] σ) (v2 : Int32) (v3 : Int32) (v4 : Int32) (v5 : Int32) (s0 : Int32)  (σ : gM) (h : fX5_load_b40 n i j K3 v2 v3 v4 v5 s0 σ = some σ') : g_G l dC dI ad ca shX X cX5_load 7 RX5 none (gR 2) none σ' 40 [(0, .ref (12 + 5 * i)), (1, .ref (10 + 5 * j)), (2, .int v2), (3, .int v3), (4, .int v4), (5, .int v5)] [.int s0] σ := by
  unfold fX5_load_b40 at h
  refine g_istore (pc := 40) (lv1 := [(6, .int s0), (0, .ref (12 + 5 * i)), (1, .ref (10 + 5 * j)), (2, .int v2), (3, .int v3), (4, .int v4), (5, .int v5)]) dX5_load_40 (by decide) rfl ?_
  refine g_aload_n (pc := 42) dX5_load_42 rfl 1 rfl ?_
  refine g_getR (pc := 43) wfX5_11 (sX_row (i := i) hi) rfl dX5_load_43 ?_
  refine g_iload (pc := 46) dX5_load_46 6 rfl ?_
  refine g_iload (pc := 48) dX5_load_48 0 rfl ?_
  refine g_if_eq (pc := 50) (tgt := 72) dX5_load_50 (by decide) (fun c17 => ?_) (fun c17 => ?_)
  · have h := g_ift c17 h
    refine g_iconst (pc := 72) (v := 0) dX5_load_72 (by decide) ?_
    exact g_lv [1, 2, 3, 4, 5, 6] rfl (tX5_load_b73 hE n i hi j hj K3 hK3 v2 v3 v4 v5 0 v5 σ h)
  · have h := g_iff c17 h
    refine g_aload_n (pc := 53) dX5_load_53 rfl 2 rfl ?_
    refine g_aload_n (pc := 54) dX5_load_54 rfl 1 rfl ?_
    refine g_getR (pc := 55) wfX5_17 (sX_row (i := i) hi) rfl dX5_load_55 ?_
    refine g_iload (pc := 58) dX5_load_58 6 rfl ?_
    refine g_iload_n (pc := 60) dX5_load_60 rfl 3 rfl ?_
    obtain ⟨r20, σ19, h18, h⟩ := g_bId h
    refine g_callVi (pc := 61) (st := [.ref (10 + 5 * j), .int v5, .ref (13 + 5 * i)]) hE.1 wvX5_31 rfl rfl (kX6_diskOf hE v5 v2 σ h18) rfl (gR_ok (by decide) (by decide)) (Nat.le_of_ble_eq_true rfl) rfl dX5_load_61 ?_
    refine g_iload_n (pc := 64) dX5_load_64 rfl 3 rfl ?_
    refine g_iload_n (pc := 65) dX5_load_65 rfl 4 rfl ?_
    obtain ⟨r23, σ22, h21, h⟩ := g_bId h
    refine g_callVi (pc := 66) (st := [.int v5, .ref (13 + 5 * i)]) hE.1 wvX5_35 (sX_state (i := j) hj) rfl (kX9_byteAt hE j hj r20 v2 v3 σ19 h21) rfl (gR_ok (by decide) (by decide)) (Nat.le_of_ble_eq_true rfl) rfl dX5_load_66 ?_
    refine g_goto (pc := 69) (tgt := 73) dX5_load_69 (by decide) ?_
    exact g_lv [1, 2, 3, 4, 5, 6] rfl (tX5_load_b73 hE n i hi j hj K3 hK3 v2 v3 v4 v5 r23 v5 σ22 h)
def fX5_load_b3 (n : Nat) (i : Nat) (j : Nat) (K3 : Int32 → Int32 → Int32 → Int32 → gM → Option (gM)) (v2 : Int32) (v3 : Int32) (v4 : Int32) (v5 : Int32) (σ : gM) : Option (gM) := if (σ.1 5 5) ≤ v5 then (some σ) else (if 8 ≤ v5 then (some σ) else (if ((v4 >>> (v5 &&& 31)) &&& 1) = 0 then (fX5_load_b40 n i j K3 v2 v3 v4 v5 1 σ) else (fX5_load_b40 n i j K3 v2 v3 v4 v5 0 σ)))
set_option maxRecDepth 100000 in
theorem tX5_load_b3 (hE : gEX l dC dI ad ca X) {σ' : gM} (n : Nat) (i : Nat) (hi : i < 3) (j : Nat) (hj : j < 3) (K3 : Int32 → Int32 → Int32 → Int32 → gM → Option (gM)) (hK3 : ∀ (v2 : Int32) (v3 : Int32) (v4 : Int32) (v5 : Int32) (σ : gM), K3 v2 v3 v4 v5 σ = some σ' → g_G l dC dI ad ca shX X cX5_load 7 RX5 none (gR 2) none σ' 3 [(0, .ref (12 + 5 * i)), (1, .ref (10 + 5 * j)), (2, .int v2), (3, .int v3), (4, .int v4), (5, .int v5)] [] σ) (v2 : Int32) (v3 : Int32) (v4 : Int32) (v5 : Int32)  (σ : gM) (h : fX5_load_b3 n i j K3 v2 v3 v4 v5 σ = some σ') : g_G l dC dI ad ca shX X cX5_load 7 RX5 none (gR 2) none σ' 3 [(0, .ref (12 + 5 * i)), (1, .ref (10 + 5 * j)), (2, .int v2), (3, .int v3), (4, .int v4), (5, .int v5)] [] σ := by
  unfold fX5_load_b3 at h
  refine g_iload (pc := 3) dX5_load_3 5 rfl ?_
  refine g_aload_n (pc := 5) dX5_load_5 rfl 0 rfl ?_
  refine g_getR (pc := 6) wfX5_17 (sX_row (i := i) hi) rfl dX5_load_6 ?_
  refine g_getI (pc := 9) wfX5_25 rfl rfl dX5_load_9 ?_
  refine g_icmp_ge (pc := 12) (tgt := 80) dX5_load_12 (by decide) (fun c24 => ?_) (fun c24 => ?_)
  · have h := g_ift c24 h
    cases h
    exact g_vret (pc := 80) rfl rfl rfl dX5_load_80
  · have h := g_iff c24 h
    refine g_iload (pc := 15) dX5_load_15 5 rfl ?_
    refine g_aload_n (pc := 17) dX5_load_17 rfl 0 rfl ?_
    refine g_getR (pc := 18) wfX5_11 (sX_row (i := i) hi) rfl dX5_load_18 ?_
    refine g_alen (pc := 21) (sX_rb (i := i) hi) dX5_load_21 ?_
    refine g_icmp_ge (pc := 22) (tgt := 80) dX5_load_22 (by decide) (fun c25 => ?_) (fun c25 => ?_)
    · have h := g_ift c25 h
      cases h
      exact g_vret (pc := 80) rfl rfl rfl dX5_load_80
    · have h := g_iff c25 h
      refine g_iload (pc := 25) dX5_load_25 4 rfl ?_
      refine g_iload (pc := 27) dX5_load_27 5 rfl ?_
      refine g_ishr (pc := 29) dX5_load_29 ?_
      refine g_iconst (pc := 30) (v := 1) dX5_load_30 (by decide) ?_
      refine g_iand (pc := 31) dX5_load_31 ?_
      refine g_if_ne (pc := 32) (tgt := 39) dX5_load_32 (by decide) (fun c26 => ?_) (fun c26 => ?_)
      · have h := g_iff c26 h
        refine g_iconst (pc := 39) (v := 0) dX5_load_39 (by decide) ?_
        exact g_lv [0, 1, 2, 3, 4, 5] rfl (tX5_load_b40 hE n i hi j hj K3 hK3 v2 v3 v4 v5 0 σ h)
      · have h := g_ift c26 h
        refine g_iconst (pc := 35) (v := 1) dX5_load_35 (by decide) ?_
        refine g_goto (pc := 36) (tgt := 40) dX5_load_36 (by decide) ?_
        exact g_lv [0, 1, 2, 3, 4, 5] rfl (tX5_load_b40 hE n i hi j hj K3 hK3 v2 v3 v4 v5 1 σ h)
def fX5_load_L3 (n : Nat) (i : Nat) (j : Nat) : Nat → Int32 → Int32 → Int32 → Int32 → gM → Option (gM)
  | 0 => fun _ _ _ _ _ => none
  | k + 1 => fX5_load_b3 n i j (fX5_load_L3 n i j k)
theorem tX5_load_L3 (hE : gEX l dC dI ad ca X) {σ' : gM} (n : Nat) (i : Nat) (hi : i < 3) (j : Nat) (hj : j < 3)  : ∀ (k : Nat) (v2 : Int32) (v3 : Int32) (v4 : Int32) (v5 : Int32) (σ : gM), fX5_load_L3 n i j k v2 v3 v4 v5 σ = some σ' → g_G l dC dI ad ca shX X cX5_load 7 RX5 none (gR 2) none σ' 3 [(0, .ref (12 + 5 * i)), (1, .ref (10 + 5 * j)), (2, .int v2), (3, .int v3), (4, .int v4), (5, .int v5)] [] σ := by
  intro k
  induction k with
  | zero => intro v2 v3 v4 v5 σ h; cases h
  | succ k ih => intro v2 v3 v4 v5 σ h; exact tX5_load_b3 hE n i hi j hj (fX5_load_L3 n i j k) ih v2 v3 v4 v5 σ h
def fX5_load (n : Nat) (i : Nat) (j : Nat) (v2 : Int32) (v3 : Int32) (v4 : Int32) (σ : gM) : Option (gM) := fX5_load_L3 n i j n v2 v3 v4 0 σ
set_option maxRecDepth 100000 in
theorem kX5_load (hE : gEX l dC dI ad ca X) (n : Nat) (i : Nat) (hi : i < 3) (j : Nat) (hj : j < 3)  (v2 : Int32) (v3 : Int32) (v4 : Int32) (σ : gM) {σ' : gM} (h : fX5_load n i j v2 v3 v4 σ = some σ') : g_C l dC dI ad ca shX X yX5_load cX5_load 7 none (gR 2) [.ref (12 + 5 * i), .ref (10 + 5 * j), .int v2, .int v3, .int v4] σ none σ' := by
  refine g_entry (by decide +kernel) (Nat.le_of_ble_eq_true rfl) ?_
  refine g_lvE (lv1 := [(0, .ref (12 + 5 * i)), (1, .ref (10 + 5 * j)), (2, .int v2), (3, .int v3), (4, .int v4)]) rfl ?_
  unfold fX5_load at h
  refine g_iconst (pc := 0) (v := 0) dX5_load_0 (by decide) ?_
  refine g_istore (pc := 1) (lv1 := [(5, .int 0), (0, .ref (12 + 5 * i)), (1, .ref (10 + 5 * j)), (2, .int v2), (3, .int v3), (4, .int v4)]) dX5_load_1 (by decide) rfl ?_
  exact g_lv [1, 2, 3, 4, 5, 0] rfl (tX5_load_L3 hE n i hi j hj n v2 v3 v4 0 σ h)
def fJ6_numberOfTrailingZeros_0f7a4_b74 (v0 : Int32) (v1 : Int32) (σ : gM) : Option (Int32 × gM) := some (v1 + (g_us v0 1), σ)
set_option maxRecDepth 100000 in
theorem tJ6_numberOfTrailingZeros_0f7a4_b74 (hE : gEX l dC dI ad ca X) {r0 : Int32} {σ' : gM} (v0 : Int32) (v1 : Int32)  (σ : gM) (h : fJ6_numberOfTrailingZeros_0f7a4_b74 v0 v1 σ = some (r0, σ')) : g_G l dC dI ad ca shX X cJ6_numberOfTrailingZeros_0f7a4 2 RJ6 (some .int) (gR 0) (some (.int r0)) σ' 74 [(0, .int v0), (1, .int v1)] [] σ := by
  unfold fJ6_numberOfTrailingZeros_0f7a4_b74 at h
  refine g_iload_n (pc := 74) dJ6_numberOfTrailingZeros_0f7a4_74 rfl 1 rfl ?_
  refine g_iload_n (pc := 75) dJ6_numberOfTrailingZeros_0f7a4_75 rfl 0 rfl ?_
  refine g_iconst (pc := 76) (v := 1) dJ6_numberOfTrailingZeros_0f7a4_76 (by decide) ?_
  refine g_iushr (pc := 77) dJ6_numberOfTrailingZeros_0f7a4_77 ?_
  refine g_iadd (pc := 78) dJ6_numberOfTrailingZeros_0f7a4_78 ?_
  cases h
  exact g_iret (pc := 79) rfl rfl rfl rfl dJ6_numberOfTrailingZeros_0f7a4_79
def fJ6_numberOfTrailingZeros_0f7a4_b62 (v0 : Int32) (v1 : Int32) (σ : gM) : Option (Int32 × gM) := if v0 ≤ 4 then (fJ6_numberOfTrailingZeros_0f7a4_b74 v0 v1 σ) else (fJ6_numberOfTrailingZeros_0f7a4_b74 (g_us v0 2) (v1 + 2) σ)
set_option maxRecDepth 100000 in
theorem tJ6_numberOfTrailingZeros_0f7a4_b62 (hE : gEX l dC dI ad ca X) {r0 : Int32} {σ' : gM} (v0 : Int32) (v1 : Int32)  (σ : gM) (h : fJ6_numberOfTrailingZeros_0f7a4_b62 v0 v1 σ = some (r0, σ')) : g_G l dC dI ad ca shX X cJ6_numberOfTrailingZeros_0f7a4 2 RJ6 (some .int) (gR 0) (some (.int r0)) σ' 62 [(0, .int v0), (1, .int v1)] [] σ := by
  unfold fJ6_numberOfTrailingZeros_0f7a4_b62 at h
  refine g_iload_n (pc := 62) dJ6_numberOfTrailingZeros_0f7a4_62 rfl 0 rfl ?_
  refine g_iconst (pc := 63) (v := 4) dJ6_numberOfTrailingZeros_0f7a4_63 (by decide) ?_
  refine g_icmp_le (pc := 64) (tgt := 74) dJ6_numberOfTrailingZeros_0f7a4_64 (by decide) (fun c6 => ?_) (fun c6 => ?_)
  · have h := g_ift c6 h
    exact g_lv [0, 1] rfl (tJ6_numberOfTrailingZeros_0f7a4_b74 hE v0 v1 σ h)
  · have h := g_iff c6 h
    refine g_iinc (pc := 67) (v := v1 + 2) (lv1 := [(1, .int (v1 + 2)), (0, .int v0)]) dJ6_numberOfTrailingZeros_0f7a4_67 1 rfl rfl (by decide) rfl ?_
    refine g_iload_n (pc := 70) dJ6_numberOfTrailingZeros_0f7a4_70 rfl 1 rfl ?_
    refine g_iconst (pc := 71) (v := 2) dJ6_numberOfTrailingZeros_0f7a4_71 (by decide) ?_
    refine g_iushr (pc := 72) dJ6_numberOfTrailingZeros_0f7a4_72 ?_
    refine g_istore_n (pc := 73) (lv1 := [(0, .int (g_us v0 2)), (1, .int (v1 + 2))]) dJ6_numberOfTrailingZeros_0f7a4_73 rfl (by decide) rfl ?_
    exact g_lv [0, 1] rfl (tJ6_numberOfTrailingZeros_0f7a4_b74 hE (g_us v0 2) (v1 + 2) σ h)
def fJ6_numberOfTrailingZeros_0f7a4_b49 (v0 : Int32) (v1 : Int32) (σ : gM) : Option (Int32 × gM) := if v0 ≤ 16 then (fJ6_numberOfTrailingZeros_0f7a4_b62 v0 v1 σ) else (fJ6_numberOfTrailingZeros_0f7a4_b62 (g_us v0 4) (v1 + 4) σ)
set_option maxRecDepth 100000 in
theorem tJ6_numberOfTrailingZeros_0f7a4_b49 (hE : gEX l dC dI ad ca X) {r0 : Int32} {σ' : gM} (v0 : Int32) (v1 : Int32)  (σ : gM) (h : fJ6_numberOfTrailingZeros_0f7a4_b49 v0 v1 σ = some (r0, σ')) : g_G l dC dI ad ca shX X cJ6_numberOfTrailingZeros_0f7a4 2 RJ6 (some .int) (gR 0) (some (.int r0)) σ' 49 [(0, .int v0), (1, .int v1)] [] σ := by
  unfold fJ6_numberOfTrailingZeros_0f7a4_b49 at h
  refine g_iload_n (pc := 49) dJ6_numberOfTrailingZeros_0f7a4_49 rfl 0 rfl ?_
  refine g_bipush (pc := 50) (v := 16) dJ6_numberOfTrailingZeros_0f7a4_50 (by decide) ?_
  refine g_icmp_le (pc := 52) (tgt := 62) dJ6_numberOfTrailingZeros_0f7a4_52 (by decide) (fun c7 => ?_) (fun c7 => ?_)
  · have h := g_ift c7 h
    exact g_lv [0, 1] rfl (tJ6_numberOfTrailingZeros_0f7a4_b62 hE v0 v1 σ h)
  · have h := g_iff c7 h
    refine g_iinc (pc := 55) (v := v1 + 4) (lv1 := [(1, .int (v1 + 4)), (0, .int v0)]) dJ6_numberOfTrailingZeros_0f7a4_55 1 rfl rfl (by decide) rfl ?_
    refine g_iload_n (pc := 58) dJ6_numberOfTrailingZeros_0f7a4_58 rfl 1 rfl ?_
    refine g_iconst (pc := 59) (v := 4) dJ6_numberOfTrailingZeros_0f7a4_59 (by decide) ?_
    refine g_iushr (pc := 60) dJ6_numberOfTrailingZeros_0f7a4_60 ?_
    refine g_istore_n (pc := 61) (lv1 := [(0, .int (g_us v0 4)), (1, .int (v1 + 4))]) dJ6_numberOfTrailingZeros_0f7a4_61 rfl (by decide) rfl ?_
    exact g_lv [0, 1] rfl (tJ6_numberOfTrailingZeros_0f7a4_b62 hE (g_us v0 4) (v1 + 4) σ h)
def fJ6_numberOfTrailingZeros_0f7a4_b34 (v0 : Int32) (v1 : Int32) (σ : gM) : Option (Int32 × gM) := if v0 ≤ 256 then (fJ6_numberOfTrailingZeros_0f7a4_b49 v0 v1 σ) else (fJ6_numberOfTrailingZeros_0f7a4_b49 (g_us v0 8) (v1 + 8) σ)
set_option maxRecDepth 100000 in
theorem tJ6_numberOfTrailingZeros_0f7a4_b34 (hE : gEX l dC dI ad ca X) {r0 : Int32} {σ' : gM} (v0 : Int32) (v1 : Int32)  (σ : gM) (h : fJ6_numberOfTrailingZeros_0f7a4_b34 v0 v1 σ = some (r0, σ')) : g_G l dC dI ad ca shX X cJ6_numberOfTrailingZeros_0f7a4 2 RJ6 (some .int) (gR 0) (some (.int r0)) σ' 34 [(0, .int v0), (1, .int v1)] [] σ := by
  unfold fJ6_numberOfTrailingZeros_0f7a4_b34 at h
  refine g_iload_n (pc := 34) dJ6_numberOfTrailingZeros_0f7a4_34 rfl 0 rfl ?_
  refine g_sipush (pc := 35) (v := 256) dJ6_numberOfTrailingZeros_0f7a4_35 (by decide) ?_
  refine g_icmp_le (pc := 38) (tgt := 49) dJ6_numberOfTrailingZeros_0f7a4_38 (by decide) (fun c8 => ?_) (fun c8 => ?_)
  · have h := g_ift c8 h
    exact g_lv [0, 1] rfl (tJ6_numberOfTrailingZeros_0f7a4_b49 hE v0 v1 σ h)
  · have h := g_iff c8 h
    refine g_iinc (pc := 41) (v := v1 + 8) (lv1 := [(1, .int (v1 + 8)), (0, .int v0)]) dJ6_numberOfTrailingZeros_0f7a4_41 1 rfl rfl (by decide) rfl ?_
    refine g_iload_n (pc := 44) dJ6_numberOfTrailingZeros_0f7a4_44 rfl 1 rfl ?_
    refine g_bipush (pc := 45) (v := 8) dJ6_numberOfTrailingZeros_0f7a4_45 (by decide) ?_
    refine g_iushr (pc := 47) dJ6_numberOfTrailingZeros_0f7a4_47 ?_
    refine g_istore_n (pc := 48) (lv1 := [(0, .int (g_us v0 8)), (1, .int (v1 + 8))]) dJ6_numberOfTrailingZeros_0f7a4_48 rfl (by decide) rfl ?_
    exact g_lv [0, 1] rfl (tJ6_numberOfTrailingZeros_0f7a4_b49 hE (g_us v0 8) (v1 + 8) σ h)
def fJ6_numberOfTrailingZeros_0f7a4 (v0 : Int32) (σ : gM) : Option (Int32 × gM) := if 0 < ((v0 ^^^ (-1)) &&& (v0 - 1)) then (if ((v0 ^^^ (-1)) &&& (v0 - 1)) ≤ 65536 then (fJ6_numberOfTrailingZeros_0f7a4_b34 ((v0 ^^^ (-1)) &&& (v0 - 1)) 1 σ) else (fJ6_numberOfTrailingZeros_0f7a4_b34 (g_us ((v0 ^^^ (-1)) &&& (v0 - 1)) 16) (1 + 16) σ)) else (some (((v0 ^^^ (-1)) &&& (v0 - 1)) &&& 32, σ))
set_option maxRecDepth 100000 in
theorem kJ6_numberOfTrailingZeros_0f7a4 (hE : gEX l dC dI ad ca X)  (v0 : Int32) (σ : gM) {r0 : Int32} {σ' : gM} (h : fJ6_numberOfTrailingZeros_0f7a4 v0 σ = some (r0, σ')) : g_C l dC dI ad ca shX X yJ6_numberOfTrailingZeros_0f7a4 cJ6_numberOfTrailingZeros_0f7a4 2 (some .int) (gR 0) [.int v0] σ (some (.int r0)) σ' := by
  refine g_entry (by decide +kernel) (Nat.le_of_ble_eq_true rfl) ?_
  refine g_lvE (lv1 := [(0, .int v0)]) rfl ?_
  unfold fJ6_numberOfTrailingZeros_0f7a4 at h
  refine g_iload_n (pc := 0) dJ6_numberOfTrailingZeros_0f7a4_0 rfl 0 rfl ?_
  refine g_iconst (pc := 1) (v := (-1)) dJ6_numberOfTrailingZeros_0f7a4_1 (by decide) ?_
  refine g_ixor (pc := 2) dJ6_numberOfTrailingZeros_0f7a4_2 ?_
  refine g_iload_n (pc := 3) dJ6_numberOfTrailingZeros_0f7a4_3 rfl 0 rfl ?_
  refine g_iconst (pc := 4) (v := 1) dJ6_numberOfTrailingZeros_0f7a4_4 (by decide) ?_
  refine g_isub (pc := 5) dJ6_numberOfTrailingZeros_0f7a4_5 ?_
  refine g_iand (pc := 6) dJ6_numberOfTrailingZeros_0f7a4_6 ?_
  refine g_istore_n (pc := 7) (lv1 := [(0, .int ((v0 ^^^ (-1)) &&& (v0 - 1)))]) dJ6_numberOfTrailingZeros_0f7a4_7 rfl (by decide) rfl ?_
  refine g_iload_n (pc := 8) dJ6_numberOfTrailingZeros_0f7a4_8 rfl 0 rfl ?_
  refine g_if_gt (pc := 9) (tgt := 17) dJ6_numberOfTrailingZeros_0f7a4_9 (by decide) (fun c9 => ?_) (fun c9 => ?_)
  · have h := g_ift c9 h
    refine g_iconst (pc := 17) (v := 1) dJ6_numberOfTrailingZeros_0f7a4_17 (by decide) ?_
    refine g_istore_n (pc := 18) (lv1 := [(1, .int 1), (0, .int ((v0 ^^^ (-1)) &&& (v0 - 1)))]) dJ6_numberOfTrailingZeros_0f7a4_18 rfl (by decide) rfl ?_
    refine g_iload_n (pc := 19) dJ6_numberOfTrailingZeros_0f7a4_19 rfl 1 rfl ?_
    refine g_ldcw (pc := 20) wkJ6_264 dJ6_numberOfTrailingZeros_0f7a4_20 ?_
    refine g_icmp_le (pc := 23) (tgt := 34) dJ6_numberOfTrailingZeros_0f7a4_23 (by decide) (fun c10 => ?_) (fun c10 => ?_)
    · have h := g_ift c10 h
      exact g_lv [1, 0] rfl (tJ6_numberOfTrailingZeros_0f7a4_b34 hE ((v0 ^^^ (-1)) &&& (v0 - 1)) 1 σ h)
    · have h := g_iff c10 h
      refine g_iinc (pc := 26) (v := 1 + 16) (lv1 := [(1, .int (1 + 16)), (0, .int ((v0 ^^^ (-1)) &&& (v0 - 1)))]) dJ6_numberOfTrailingZeros_0f7a4_26 0 rfl rfl (by decide) rfl ?_
      refine g_iload_n (pc := 29) dJ6_numberOfTrailingZeros_0f7a4_29 rfl 1 rfl ?_
      refine g_bipush (pc := 30) (v := 16) dJ6_numberOfTrailingZeros_0f7a4_30 (by decide) ?_
      refine g_iushr (pc := 32) dJ6_numberOfTrailingZeros_0f7a4_32 ?_
      refine g_istore_n (pc := 33) (lv1 := [(0, .int (g_us ((v0 ^^^ (-1)) &&& (v0 - 1)) 16)), (1, .int (1 + 16))]) dJ6_numberOfTrailingZeros_0f7a4_33 rfl (by decide) rfl ?_
      exact g_lv [0, 1] rfl (tJ6_numberOfTrailingZeros_0f7a4_b34 hE (g_us ((v0 ^^^ (-1)) &&& (v0 - 1)) 16) (1 + 16) σ h)
  · have h := g_iff c9 h
    refine g_iload_n (pc := 12) dJ6_numberOfTrailingZeros_0f7a4_12 rfl 0 rfl ?_
    refine g_bipush (pc := 13) (v := 32) dJ6_numberOfTrailingZeros_0f7a4_13 (by decide) ?_
    refine g_iand (pc := 15) dJ6_numberOfTrailingZeros_0f7a4_15 ?_
    cases h
    exact g_iret (pc := 16) rfl rfl rfl rfl dJ6_numberOfTrailingZeros_0f7a4_16
def fJ6_numberOfLeadingZeros_0f7a4_b73 (v0 : Int32) (v1 : Int32) (σ : gM) : Option (Int32 × gM) := some (v1 - (g_us v0 1), σ)
set_option maxRecDepth 100000 in
theorem tJ6_numberOfLeadingZeros_0f7a4_b73 (hE : gEX l dC dI ad ca X) {r0 : Int32} {σ' : gM} (v0 : Int32) (v1 : Int32)  (σ : gM) (h : fJ6_numberOfLeadingZeros_0f7a4_b73 v0 v1 σ = some (r0, σ')) : g_G l dC dI ad ca shX X cJ6_numberOfLeadingZeros_0f7a4 2 RJ6 (some .int) (gR 0) (some (.int r0)) σ' 73 [(0, .int v0), (1, .int v1)] [] σ := by
  unfold fJ6_numberOfLeadingZeros_0f7a4_b73 at h
  refine g_iload_n (pc := 73) dJ6_numberOfLeadingZeros_0f7a4_73 rfl 1 rfl ?_
  refine g_iload_n (pc := 74) dJ6_numberOfLeadingZeros_0f7a4_74 rfl 0 rfl ?_
  refine g_iconst (pc := 75) (v := 1) dJ6_numberOfLeadingZeros_0f7a4_75 (by decide) ?_
  refine g_iushr (pc := 76) dJ6_numberOfLeadingZeros_0f7a4_76 ?_
  refine g_isub (pc := 77) dJ6_numberOfLeadingZeros_0f7a4_77 ?_
  cases h
  exact g_iret (pc := 78) rfl rfl rfl rfl dJ6_numberOfLeadingZeros_0f7a4_78
def fJ6_numberOfLeadingZeros_0f7a4_b61 (v0 : Int32) (v1 : Int32) (σ : gM) : Option (Int32 × gM) := if v0 < 4 then (fJ6_numberOfLeadingZeros_0f7a4_b73 v0 v1 σ) else (fJ6_numberOfLeadingZeros_0f7a4_b73 (g_us v0 2) (v1 + (-2)) σ)
set_option maxRecDepth 100000 in
theorem tJ6_numberOfLeadingZeros_0f7a4_b61 (hE : gEX l dC dI ad ca X) {r0 : Int32} {σ' : gM} (v0 : Int32) (v1 : Int32)  (σ : gM) (h : fJ6_numberOfLeadingZeros_0f7a4_b61 v0 v1 σ = some (r0, σ')) : g_G l dC dI ad ca shX X cJ6_numberOfLeadingZeros_0f7a4 2 RJ6 (some .int) (gR 0) (some (.int r0)) σ' 61 [(0, .int v0), (1, .int v1)] [] σ := by
  unfold fJ6_numberOfLeadingZeros_0f7a4_b61 at h
  refine g_iload_n (pc := 61) dJ6_numberOfLeadingZeros_0f7a4_61 rfl 0 rfl ?_
  refine g_iconst (pc := 62) (v := 4) dJ6_numberOfLeadingZeros_0f7a4_62 (by decide) ?_
  refine g_icmp_lt (pc := 63) (tgt := 73) dJ6_numberOfLeadingZeros_0f7a4_63 (by decide) (fun c7 => ?_) (fun c7 => ?_)
  · have h := g_ift c7 h
    exact g_lv [0, 1] rfl (tJ6_numberOfLeadingZeros_0f7a4_b73 hE v0 v1 σ h)
  · have h := g_iff c7 h
    refine g_iinc (pc := 66) (v := v1 + (-2)) (lv1 := [(1, .int (v1 + (-2))), (0, .int v0)]) dJ6_numberOfLeadingZeros_0f7a4_66 1 rfl rfl (by decide) rfl ?_
    refine g_iload_n (pc := 69) dJ6_numberOfLeadingZeros_0f7a4_69 rfl 1 rfl ?_
    refine g_iconst (pc := 70) (v := 2) dJ6_numberOfLeadingZeros_0f7a4_70 (by decide) ?_
    refine g_iushr (pc := 71) dJ6_numberOfLeadingZeros_0f7a4_71 ?_
    refine g_istore_n (pc := 72) (lv1 := [(0, .int (g_us v0 2)), (1, .int (v1 + (-2)))]) dJ6_numberOfLeadingZeros_0f7a4_72 rfl (by decide) rfl ?_
    exact g_lv [0, 1] rfl (tJ6_numberOfLeadingZeros_0f7a4_b73 hE (g_us v0 2) (v1 + (-2)) σ h)
def fJ6_numberOfLeadingZeros_0f7a4_b48 (v0 : Int32) (v1 : Int32) (σ : gM) : Option (Int32 × gM) := if v0 < 16 then (fJ6_numberOfLeadingZeros_0f7a4_b61 v0 v1 σ) else (fJ6_numberOfLeadingZeros_0f7a4_b61 (g_us v0 4) (v1 + (-4)) σ)
set_option maxRecDepth 100000 in
theorem tJ6_numberOfLeadingZeros_0f7a4_b48 (hE : gEX l dC dI ad ca X) {r0 : Int32} {σ' : gM} (v0 : Int32) (v1 : Int32)  (σ : gM) (h : fJ6_numberOfLeadingZeros_0f7a4_b48 v0 v1 σ = some (r0, σ')) : g_G l dC dI ad ca shX X cJ6_numberOfLeadingZeros_0f7a4 2 RJ6 (some .int) (gR 0) (some (.int r0)) σ' 48 [(0, .int v0), (1, .int v1)] [] σ := by
  unfold fJ6_numberOfLeadingZeros_0f7a4_b48 at h
  refine g_iload_n (pc := 48) dJ6_numberOfLeadingZeros_0f7a4_48 rfl 0 rfl ?_
  refine g_bipush (pc := 49) (v := 16) dJ6_numberOfLeadingZeros_0f7a4_49 (by decide) ?_
  refine g_icmp_lt (pc := 51) (tgt := 61) dJ6_numberOfLeadingZeros_0f7a4_51 (by decide) (fun c8 => ?_) (fun c8 => ?_)
  · have h := g_ift c8 h
    exact g_lv [0, 1] rfl (tJ6_numberOfLeadingZeros_0f7a4_b61 hE v0 v1 σ h)
  · have h := g_iff c8 h
    refine g_iinc (pc := 54) (v := v1 + (-4)) (lv1 := [(1, .int (v1 + (-4))), (0, .int v0)]) dJ6_numberOfLeadingZeros_0f7a4_54 1 rfl rfl (by decide) rfl ?_
    refine g_iload_n (pc := 57) dJ6_numberOfLeadingZeros_0f7a4_57 rfl 1 rfl ?_
    refine g_iconst (pc := 58) (v := 4) dJ6_numberOfLeadingZeros_0f7a4_58 (by decide) ?_
    refine g_iushr (pc := 59) dJ6_numberOfLeadingZeros_0f7a4_59 ?_
    refine g_istore_n (pc := 60) (lv1 := [(0, .int (g_us v0 4)), (1, .int (v1 + (-4)))]) dJ6_numberOfLeadingZeros_0f7a4_60 rfl (by decide) rfl ?_
    exact g_lv [0, 1] rfl (tJ6_numberOfLeadingZeros_0f7a4_b61 hE (g_us v0 4) (v1 + (-4)) σ h)
def fJ6_numberOfLeadingZeros_0f7a4_b33 (v0 : Int32) (v1 : Int32) (σ : gM) : Option (Int32 × gM) := if v0 < 256 then (fJ6_numberOfLeadingZeros_0f7a4_b48 v0 v1 σ) else (fJ6_numberOfLeadingZeros_0f7a4_b48 (g_us v0 8) (v1 + (-8)) σ)
set_option maxRecDepth 100000 in
theorem tJ6_numberOfLeadingZeros_0f7a4_b33 (hE : gEX l dC dI ad ca X) {r0 : Int32} {σ' : gM} (v0 : Int32) (v1 : Int32)  (σ : gM) (h : fJ6_numberOfLeadingZeros_0f7a4_b33 v0 v1 σ = some (r0, σ')) : g_G l dC dI ad ca shX X cJ6_numberOfLeadingZeros_0f7a4 2 RJ6 (some .int) (gR 0) (some (.int r0)) σ' 33 [(0, .int v0), (1, .int v1)] [] σ := by
  unfold fJ6_numberOfLeadingZeros_0f7a4_b33 at h
  refine g_iload_n (pc := 33) dJ6_numberOfLeadingZeros_0f7a4_33 rfl 0 rfl ?_
  refine g_sipush (pc := 34) (v := 256) dJ6_numberOfLeadingZeros_0f7a4_34 (by decide) ?_
  refine g_icmp_lt (pc := 37) (tgt := 48) dJ6_numberOfLeadingZeros_0f7a4_37 (by decide) (fun c9 => ?_) (fun c9 => ?_)
  · have h := g_ift c9 h
    exact g_lv [0, 1] rfl (tJ6_numberOfLeadingZeros_0f7a4_b48 hE v0 v1 σ h)
  · have h := g_iff c9 h
    refine g_iinc (pc := 40) (v := v1 + (-8)) (lv1 := [(1, .int (v1 + (-8))), (0, .int v0)]) dJ6_numberOfLeadingZeros_0f7a4_40 1 rfl rfl (by decide) rfl ?_
    refine g_iload_n (pc := 43) dJ6_numberOfLeadingZeros_0f7a4_43 rfl 1 rfl ?_
    refine g_bipush (pc := 44) (v := 8) dJ6_numberOfLeadingZeros_0f7a4_44 (by decide) ?_
    refine g_iushr (pc := 46) dJ6_numberOfLeadingZeros_0f7a4_46 ?_
    refine g_istore_n (pc := 47) (lv1 := [(0, .int (g_us v0 8)), (1, .int (v1 + (-8)))]) dJ6_numberOfLeadingZeros_0f7a4_47 rfl (by decide) rfl ?_
    exact g_lv [0, 1] rfl (tJ6_numberOfLeadingZeros_0f7a4_b48 hE (g_us v0 8) (v1 + (-8)) σ h)
def fJ6_numberOfLeadingZeros_0f7a4 (v0 : Int32) (σ : gM) : Option (Int32 × gM) := if 0 < v0 then (if v0 < 65536 then (fJ6_numberOfLeadingZeros_0f7a4_b33 v0 31 σ) else (fJ6_numberOfLeadingZeros_0f7a4_b33 (g_us v0 16) (31 + (-16)) σ)) else (if v0 = 0 then (some (32, σ)) else (some (0, σ)))
set_option maxRecDepth 100000 in
theorem kJ6_numberOfLeadingZeros_0f7a4 (hE : gEX l dC dI ad ca X)  (v0 : Int32) (σ : gM) {r0 : Int32} {σ' : gM} (h : fJ6_numberOfLeadingZeros_0f7a4 v0 σ = some (r0, σ')) : g_C l dC dI ad ca shX X yJ6_numberOfLeadingZeros_0f7a4 cJ6_numberOfLeadingZeros_0f7a4 2 (some .int) (gR 0) [.int v0] σ (some (.int r0)) σ' := by
  refine g_entry (by decide +kernel) (Nat.le_of_ble_eq_true rfl) ?_
  refine g_lvE (lv1 := [(0, .int v0)]) rfl ?_
  unfold fJ6_numberOfLeadingZeros_0f7a4 at h
  refine g_iload_n (pc := 0) dJ6_numberOfLeadingZeros_0f7a4_0 rfl 0 rfl ?_
  refine g_if_gt (pc := 1) (tgt := 15) dJ6_numberOfLeadingZeros_0f7a4_1 (by decide) (fun c10 => ?_) (fun c10 => ?_)
  · have h := g_ift c10 h
    refine g_bipush (pc := 15) (v := 31) dJ6_numberOfLeadingZeros_0f7a4_15 (by decide) ?_
    refine g_istore_n (pc := 17) (lv1 := [(1, .int 31), (0, .int v0)]) dJ6_numberOfLeadingZeros_0f7a4_17 rfl (by decide) rfl ?_
    refine g_iload_n (pc := 18) dJ6_numberOfLeadingZeros_0f7a4_18 rfl 1 rfl ?_
    refine g_ldcw (pc := 19) wkJ6_264 dJ6_numberOfLeadingZeros_0f7a4_19 ?_
    refine g_icmp_lt (pc := 22) (tgt := 33) dJ6_numberOfLeadingZeros_0f7a4_22 (by decide) (fun c11 => ?_) (fun c11 => ?_)
    · have h := g_ift c11 h
      exact g_lv [1, 0] rfl (tJ6_numberOfLeadingZeros_0f7a4_b33 hE v0 31 σ h)
    · have h := g_iff c11 h
      refine g_iinc (pc := 25) (v := 31 + (-16)) (lv1 := [(1, .int (31 + (-16))), (0, .int v0)]) dJ6_numberOfLeadingZeros_0f7a4_25 0 rfl rfl (by decide) rfl ?_
      refine g_iload_n (pc := 28) dJ6_numberOfLeadingZeros_0f7a4_28 rfl 1 rfl ?_
      refine g_bipush (pc := 29) (v := 16) dJ6_numberOfLeadingZeros_0f7a4_29 (by decide) ?_
      refine g_iushr (pc := 31) dJ6_numberOfLeadingZeros_0f7a4_31 ?_
      refine g_istore_n (pc := 32) (lv1 := [(0, .int (g_us v0 16)), (1, .int (31 + (-16)))]) dJ6_numberOfLeadingZeros_0f7a4_32 rfl (by decide) rfl ?_
      exact g_lv [0, 1] rfl (tJ6_numberOfLeadingZeros_0f7a4_b33 hE (g_us v0 16) (31 + (-16)) σ h)
  · have h := g_iff c10 h
    refine g_iload_n (pc := 4) dJ6_numberOfLeadingZeros_0f7a4_4 rfl 0 rfl ?_
    refine g_if_ne (pc := 5) (tgt := 13) dJ6_numberOfLeadingZeros_0f7a4_5 (by decide) (fun c12 => ?_) (fun c12 => ?_)
    · have h := g_iff c12 h
      refine g_iconst (pc := 13) (v := 0) dJ6_numberOfLeadingZeros_0f7a4_13 (by decide) ?_
      cases h
      exact g_iret (pc := 14) rfl rfl rfl rfl dJ6_numberOfLeadingZeros_0f7a4_14
    · have h := g_ift c12 h
      refine g_bipush (pc := 8) (v := 32) dJ6_numberOfLeadingZeros_0f7a4_8 (by decide) ?_
      refine g_goto (pc := 10) (tgt := 14) dJ6_numberOfLeadingZeros_0f7a4_10 (by decide) ?_
      cases h
      exact g_iret (pc := 14) rfl rfl rfl rfl dJ6_numberOfLeadingZeros_0f7a4_14
def fX5_sumForP_b39 (n : Nat) (i : Nat) (v1 : Int32) (σ : gM) : Option (Int32 × gM) := some (v1, σ)
set_option maxRecDepth 100000 in
theorem tX5_sumForP_b39 (hE : gEX l dC dI ad ca X) {r0 : Int32} {σ' : gM} (n : Nat) (i : Nat) (hi : i < 3) (v1 : Int32)  (σ : gM) (h : fX5_sumForP_b39 n i v1 σ = some (r0, σ')) : g_G l dC dI ad ca shX X cX5_sumForP 3 RX5 (some .int) (gR 0) (some (.int r0)) σ' 39 [(1, .int v1)] [] σ := by
  unfold fX5_sumForP_b39 at h
  refine g_iload_n (pc := 39) dX5_sumForP_39 rfl 0 rfl ?_
  cases h
  exact g_iret (pc := 40) rfl rfl rfl rfl dX5_sumForP_40
def fX5_sumForP_b4 (n : Nat) (i : Nat) (K4 : Int32 → Int32 → gM → Option (Int32 × gM)) (v1 : Int32) (v2 : Int32) (σ : gM) : Option (Int32 × gM) := if (σ.1 5 0) ≤ v2 then (fX5_sumForP_b39 n i v1 σ) else (if 8 ≤ v2 then (fX5_sumForP_b39 n i v1 σ) else (if ¬ (v2 < 0 ∨ 8 ≤ v2.toNatClampNeg) then (K4 (v1 ^^^ (σ.1 (13 + 5 * i) v2.toNatClampNeg)) (v2 + 1) σ) else none))
set_option maxRecDepth 100000 in
theorem tX5_sumForP_b4 (hE : gEX l dC dI ad ca X) {r0 : Int32} {σ' : gM} (n : Nat) (i : Nat) (hi : i < 3) (K4 : Int32 → Int32 → gM → Option (Int32 × gM)) (hK4 : ∀ (v1 : Int32) (v2 : Int32) (σ : gM), K4 v1 v2 σ = some (r0, σ') → g_G l dC dI ad ca shX X cX5_sumForP 3 RX5 (some .int) (gR 0) (some (.int r0)) σ' 4 [(0, .ref (12 + 5 * i)), (1, .int v1), (2, .int v2)] [] σ) (v1 : Int32) (v2 : Int32)  (σ : gM) (h : fX5_sumForP_b4 n i K4 v1 v2 σ = some (r0, σ')) : g_G l dC dI ad ca shX X cX5_sumForP 3 RX5 (some .int) (gR 0) (some (.int r0)) σ' 4 [(0, .ref (12 + 5 * i)), (1, .int v1), (2, .int v2)] [] σ := by
  unfold fX5_sumForP_b4 at h
  refine g_iload_n (pc := 4) dX5_sumForP_4 rfl 2 rfl ?_
  refine g_aload_n (pc := 5) dX5_sumForP_5 rfl 0 rfl ?_
  refine g_getR (pc := 6) wfX5_17 (sX_row (i := i) hi) rfl dX5_sumForP_6 ?_
  refine g_getI (pc := 9) wfX5_64 rfl rfl dX5_sumForP_9 ?_
  refine g_icmp_ge (pc := 12) (tgt := 39) dX5_sumForP_12 (by decide) (fun c4 => ?_) (fun c4 => ?_)
  · have h := g_ift c4 h
    exact g_lv [1] rfl (tX5_sumForP_b39 hE n i hi v1 σ h)
  · have h := g_iff c4 h
    refine g_iload_n (pc := 15) dX5_sumForP_15 rfl 2 rfl ?_
    refine g_aload_n (pc := 16) dX5_sumForP_16 rfl 0 rfl ?_
    refine g_getR (pc := 17) wfX5_11 (sX_row (i := i) hi) rfl dX5_sumForP_17 ?_
    refine g_alen (pc := 20) (sX_rb (i := i) hi) dX5_sumForP_20 ?_
    refine g_icmp_ge (pc := 21) (tgt := 39) dX5_sumForP_21 (by decide) (fun c5 => ?_) (fun c5 => ?_)
    · have h := g_ift c5 h
      exact g_lv [1] rfl (tX5_sumForP_b39 hE n i hi v1 σ h)
    · have h := g_iff c5 h
      refine g_iload_n (pc := 24) dX5_sumForP_24 rfl 1 rfl ?_
      refine g_aload_n (pc := 25) dX5_sumForP_25 rfl 0 rfl ?_
      refine g_getR (pc := 26) wfX5_11 (sX_row (i := i) hi) rfl dX5_sumForP_26 ?_
      refine g_iload_n (pc := 29) dX5_sumForP_29 rfl 2 rfl ?_
      obtain ⟨c6, h⟩ := g_gd h
      refine g_iald (pc := 30) (sX_rb (i := i) hi) c6 rfl dX5_sumForP_30 ?_
      refine g_ixor (pc := 31) dX5_sumForP_31 ?_
      refine g_istore_n (pc := 32) (lv1 := [(1, .int (v1 ^^^ (σ.1 (13 + 5 * i) v2.toNatClampNeg))), (0, .ref (12 + 5 * i)), (2, .int v2)]) dX5_sumForP_32 rfl (by decide) rfl ?_
      refine g_iinc (pc := 33) (v := v2 + 1) (lv1 := [(2, .int (v2 + 1)), (1, .int (v1 ^^^ (σ.1 (13 + 5 * i) v2.toNatClampNeg))), (0, .ref (12 + 5 * i))]) dX5_sumForP_33 2 rfl rfl (by decide) rfl ?_
      refine g_goto (pc := 36) (tgt := 4) dX5_sumForP_36 (by decide) ?_
      exact g_lv [2, 1, 0] rfl (hK4 (v1 ^^^ (σ.1 (13 + 5 * i) v2.toNatClampNeg)) (v2 + 1) σ h)
def fX5_sumForP_L4 (n : Nat) (i : Nat) : Nat → Int32 → Int32 → gM → Option (Int32 × gM)
  | 0 => fun _ _ _ => none
  | k + 1 => fX5_sumForP_b4 n i (fX5_sumForP_L4 n i k)
theorem tX5_sumForP_L4 (hE : gEX l dC dI ad ca X) {r0 : Int32} {σ' : gM} (n : Nat) (i : Nat) (hi : i < 3)  : ∀ (k : Nat) (v1 : Int32) (v2 : Int32) (σ : gM), fX5_sumForP_L4 n i k v1 v2 σ = some (r0, σ') → g_G l dC dI ad ca shX X cX5_sumForP 3 RX5 (some .int) (gR 0) (some (.int r0)) σ' 4 [(0, .ref (12 + 5 * i)), (1, .int v1), (2, .int v2)] [] σ := by
  intro k
  induction k with
  | zero => intro v1 v2 σ h; cases h
  | succ k ih => intro v1 v2 σ h; exact tX5_sumForP_b4 hE n i hi (fX5_sumForP_L4 n i k) ih v1 v2 σ h
def fX5_sumForP (n : Nat) (i : Nat) (σ : gM) : Option (Int32 × gM) := fX5_sumForP_L4 n i n 0 0 σ
set_option maxRecDepth 100000 in
theorem kX5_sumForP (hE : gEX l dC dI ad ca X) (n : Nat) (i : Nat) (hi : i < 3)  (σ : gM) {r0 : Int32} {σ' : gM} (h : fX5_sumForP n i σ = some (r0, σ')) : g_C l dC dI ad ca shX X yX5_sumForP cX5_sumForP 3 (some .int) (gR 0) [.ref (12 + 5 * i)] σ (some (.int r0)) σ' := by
  refine g_entry (by decide +kernel) (Nat.le_of_ble_eq_true rfl) ?_
  refine g_lvE (lv1 := [(0, .ref (12 + 5 * i))]) rfl ?_
  unfold fX5_sumForP at h
  refine g_iconst (pc := 0) (v := 0) dX5_sumForP_0 (by decide) ?_
  refine g_istore_n (pc := 1) (lv1 := [(1, .int 0), (0, .ref (12 + 5 * i))]) dX5_sumForP_1 rfl (by decide) rfl ?_
  refine g_iconst (pc := 2) (v := 0) dX5_sumForP_2 (by decide) ?_
  refine g_istore_n (pc := 3) (lv1 := [(2, .int 0), (1, .int 0), (0, .ref (12 + 5 * i))]) dX5_sumForP_3 rfl (by decide) rfl ?_
  exact g_lv [2, 1, 0] rfl (tX5_sumForP_L4 hE n i hi n 0 0 σ h)
end WKX1
