section WKM4
variable {l : Launch} {dC : Nat → ClassId} {dI : Nat → Nat → Nat} {ad : Nat → Nat} {ca : Nat → ClassId} {X : (Nat → Prop) → State → Heap → Prop}

def fX12_cell (v1 : Int32) (v2 : Int32) (v3 : Int32) (σ : gM) : Option (Int32 × gM) := g_let (g_put σ 0 0 0) (fun σ15 => g_bI (fX12_isPlace v1 v2 v3 σ15) (fun r19 σ18 => if r19 = 0 then (some ((-1), σ18)) else (g_bI (fX12_isThere 10 v1 v2 σ18) (fun r23 σ22 => if r23 = 0 then (some ((-1000000), σ22)) else (g_bI (fX12_spot v1 v2 v3 σ22) (fun r27 σ26 => if ¬ (r27 < 0 ∨ 616 ≤ r27.toNatClampNeg) then (some (σ26.1 10 r27.toNatClampNeg, σ26)) else none))))))
set_option maxRecDepth 100000 in
theorem kX12_cell (hE : gEM l dC dI ad ca X)  (v1 : Int32) (v2 : Int32) (v3 : Int32) (σ : gM) {r0 : Int32} {σ' : gM} (h : fX12_cell v1 v2 v3 σ = some (r0, σ')) : g_C l dC dI ad ca shM X yX12_cell cX12_cell 4 (some .int) (gR 2) [.ref 0, .int v1, .int v2, .int v3] σ (some (.int r0)) σ' := by
  refine g_entry (by decide +kernel) (Nat.le_of_ble_eq_true rfl) ?_
  refine g_lvE (lv1 := [(0, .ref 0), (1, .int v1), (2, .int v2), (3, .int v3)]) rfl ?_
  unfold fX12_cell at h
  refine g_aload_n (pc := 0) dX12_cell_0 rfl 0 rfl ?_
  refine g_iconst (pc := 1) (v := 0) dX12_cell_1 (by decide) ?_
  obtain ⟨σ15, e16, h⟩ := g_ltd h
  refine g_putI (pc := 2) wfX12_57 rfl rfl rfl rfl e16 dX12_cell_2 ?_
  refine g_aload_n (pc := 5) dX12_cell_5 rfl 0 rfl ?_
  refine g_iload_n (pc := 6) dX12_cell_6 rfl 1 rfl ?_
  refine g_iload_n (pc := 7) dX12_cell_7 rfl 2 rfl ?_
  refine g_iload_n (pc := 8) dX12_cell_8 rfl 3 rfl ?_
  obtain ⟨r19, σ18, h17, h⟩ := g_bId h
  refine g_callVi (pc := 9) (st := []) hE.1 wvX12_290 rfl rfl (kX12_isPlace hE v1 v2 v3 σ15 h17) rfl (gR_ok (by decide) (by decide)) (Nat.le_of_ble_eq_true rfl) rfl dX12_cell_9 ?_
  refine g_if_ne (pc := 12) (tgt := 17) dX12_cell_12 (by decide) (fun c20 => ?_) (fun c20 => ?_)
  · have h := g_iff c20 h
    refine g_aload_n (pc := 17) dX12_cell_17 rfl 0 rfl ?_
    refine g_getR (pc := 18) wfX12_38 rfl rfl dX12_cell_18 ?_
    refine g_iload_n (pc := 21) dX12_cell_21 rfl 1 rfl ?_
    refine g_iload_n (pc := 22) dX12_cell_22 rfl 2 rfl ?_
    obtain ⟨r23, σ22, h21, h⟩ := g_bId h
    refine g_callSi (pc := 23) (st := []) hE.1 wsX12_202 (kX12_isThere hE 10 rfl v1 v2 σ18 h21) rfl (gR_ok (by decide) (by decide)) (Nat.le_of_ble_eq_true rfl) rfl dX12_cell_23 ?_
    refine g_if_eq (pc := 26) (tgt := 43) dX12_cell_26 (by decide) (fun c24 => ?_) (fun c24 => ?_)
    · have h := g_ift c24 h
      refine g_ldcw (pc := 43) wkX12_393 dX12_cell_43 ?_
      cases h
      exact g_iret (pc := 46) rfl rfl rfl rfl dX12_cell_46
    · have h := g_iff c24 h
      refine g_aload_n (pc := 29) dX12_cell_29 rfl 0 rfl ?_
      refine g_getR (pc := 30) wfX12_38 rfl rfl dX12_cell_30 ?_
      refine g_iload_n (pc := 33) dX12_cell_33 rfl 1 rfl ?_
      refine g_iload_n (pc := 34) dX12_cell_34 rfl 2 rfl ?_
      refine g_iload_n (pc := 35) dX12_cell_35 rfl 3 rfl ?_
      obtain ⟨r27, σ26, h25, h⟩ := g_bId h
      refine g_callSi (pc := 36) (st := [.ref 10]) hE.1 wsX12_206 (kX12_spot hE v1 v2 v3 σ22 h25) rfl (gR_ok (by decide) (by decide)) (Nat.le_of_ble_eq_true rfl) rfl dX12_cell_36 ?_
      obtain ⟨c28, h⟩ := g_gd h
      refine g_iald (pc := 39) rfl c28 rfl dX12_cell_39 ?_
      refine g_goto (pc := 40) (tgt := 46) dX12_cell_40 (by decide) ?_
      cases h
      exact g_iret (pc := 46) rfl rfl rfl rfl dX12_cell_46
  · have h := g_ift c20 h
    refine g_iconst (pc := 15) (v := (-1)) dX12_cell_15 (by decide) ?_
    cases h
    exact g_iret (pc := 16) rfl rfl rfl rfl dX12_cell_16
def fX12_disk (v1 : Int32) (v2 : Int32) (σ : gM) : Option (Int32 × gM) := g_let (g_put σ 0 0 0) (fun σ20 => g_bI (fX12_isDisk v1 σ20) (fun r24 σ23 => if r24 = 0 then (some ((-1), σ23)) else (if v2 = 0 then (if ¬ ((384 + v1) < 0 ∨ 616 ≤ (384 + v1).toNatClampNeg) then (some (σ23.1 10 ((384 + v1).toNatClampNeg), σ23)) else none) else (if v2 = 1 then (if ¬ ((384 + v1) < 0 ∨ 616 ≤ (384 + v1).toNatClampNeg) then (if (σ23.1 10 ((384 + v1).toNatClampNeg)) = 0 then (some (σ23.1 3 1, σ23)) else (if ¬ ((392 + v1) < 0 ∨ 616 ≤ (392 + v1).toNatClampNeg) then (some (σ23.1 10 ((392 + v1).toNatClampNeg), σ23)) else none)) else none) else (if v2 = 2 then (if ¬ ((400 + v1) < 0 ∨ 616 ≤ (400 + v1).toNatClampNeg) then (some (σ23.1 10 ((400 + v1).toNatClampNeg), σ23)) else none) else (if v2 = 3 then (if ¬ ((408 + v1) < 0 ∨ 616 ≤ (408 + v1).toNatClampNeg) then (some (σ23.1 10 ((408 + v1).toNatClampNeg), σ23)) else none) else (if v2 = 4 then (if ¬ ((416 + v1) < 0 ∨ 616 ≤ (416 + v1).toNatClampNeg) then (some (σ23.1 10 ((416 + v1).toNatClampNeg), σ23)) else none) else (some ((-1), σ23)))))))))
set_option maxRecDepth 100000 in
theorem kX12_disk (hE : gEM l dC dI ad ca X)  (v1 : Int32) (v2 : Int32) (σ : gM) {r0 : Int32} {σ' : gM} (h : fX12_disk v1 v2 σ = some (r0, σ')) : g_C l dC dI ad ca shM X yX12_disk cX12_disk 3 (some .int) (gR 1) [.ref 0, .int v1, .int v2] σ (some (.int r0)) σ' := by
  refine g_entry (by decide +kernel) (Nat.le_of_ble_eq_true rfl) ?_
  refine g_lvE (lv1 := [(0, .ref 0), (1, .int v1), (2, .int v2)]) rfl ?_
  unfold fX12_disk at h
  refine g_aload_n (pc := 0) dX12_disk_0 rfl 0 rfl ?_
  refine g_iconst (pc := 1) (v := 0) dX12_disk_1 (by decide) ?_
  obtain ⟨σ20, e21, h⟩ := g_ltd h
  refine g_putI (pc := 2) wfX12_57 rfl rfl rfl rfl e21 dX12_disk_2 ?_
  refine g_aload_n (pc := 5) dX12_disk_5 rfl 0 rfl ?_
  refine g_iload_n (pc := 6) dX12_disk_6 rfl 1 rfl ?_
  obtain ⟨r24, σ23, h22, h⟩ := g_bId h
  refine g_callVi (pc := 7) (st := []) hE.1 wvX12_278 rfl rfl (kX12_isDisk hE v1 σ20 h22) rfl (gR_ok (by decide) (by decide)) (Nat.le_of_ble_eq_true rfl) rfl dX12_disk_7 ?_
  refine g_if_ne (pc := 10) (tgt := 15) dX12_disk_10 (by decide) (fun c25 => ?_) (fun c25 => ?_)
  · have h := g_iff c25 h
    refine g_iload_n (pc := 15) dX12_disk_15 rfl 2 rfl ?_
    by_cases c26 : v2 = 0
    · have h := g_ift c26 h
      refine g_tabIn (pc := 16) (tgt := 52) (off := 36) dX12_disk_16 (by rw [c26]; decide) (by rw [c26]; decide) (by rw [c26]; decide) (by decide) ?_
      refine g_aload_n (pc := 52) dX12_disk_52 rfl 0 rfl ?_
      refine g_getR (pc := 53) wfX12_38 rfl rfl dX12_disk_53 ?_
      refine g_sipush (pc := 56) (v := 384) dX12_disk_56 (by decide) ?_
      refine g_iload_n (pc := 59) dX12_disk_59 rfl 1 rfl ?_
      refine g_iadd (pc := 60) dX12_disk_60 ?_
      obtain ⟨c27, h⟩ := g_gd h
      refine g_iald (pc := 61) rfl c27 rfl dX12_disk_61 ?_
      cases h
      exact g_iret (pc := 62) rfl rfl rfl rfl dX12_disk_62
    have h := g_iff c26 h
    by_cases c28 : v2 = 1
    · have h := g_ift c28 h
      refine g_tabIn (pc := 16) (tgt := 63) (off := 47) dX12_disk_16 (by rw [c28]; decide) (by rw [c28]; decide) (by rw [c28]; decide) (by decide) ?_
      refine g_aload_n (pc := 63) dX12_disk_63 rfl 0 rfl ?_
      refine g_getR (pc := 64) wfX12_38 rfl rfl dX12_disk_64 ?_
      refine g_sipush (pc := 67) (v := 384) dX12_disk_67 (by decide) ?_
      refine g_iload_n (pc := 70) dX12_disk_70 rfl 1 rfl ?_
      refine g_iadd (pc := 71) dX12_disk_71 ?_
      obtain ⟨c29, h⟩ := g_gd h
      refine g_iald (pc := 72) rfl c29 rfl dX12_disk_72 ?_
      refine g_if_ne (pc := 73) (tgt := 85) dX12_disk_73 (by decide) (fun c30 => ?_) (fun c30 => ?_)
      · have h := g_iff c30 h
        refine g_aload_n (pc := 85) dX12_disk_85 rfl 0 rfl ?_
        refine g_getR (pc := 86) wfX12_38 rfl rfl dX12_disk_86 ?_
        refine g_sipush (pc := 89) (v := 392) dX12_disk_89 (by decide) ?_
        refine g_iload_n (pc := 92) dX12_disk_92 rfl 1 rfl ?_
        refine g_iadd (pc := 93) dX12_disk_93 ?_
        obtain ⟨c31, h⟩ := g_gd h
        refine g_iald (pc := 94) rfl c31 rfl dX12_disk_94 ?_
        cases h
        exact g_iret (pc := 95) rfl rfl rfl rfl dX12_disk_95
      · have h := g_ift c30 h
        refine g_aload_n (pc := 76) dX12_disk_76 rfl 0 rfl ?_
        refine g_getR (pc := 77) wfX12_17 rfl rfl dX12_disk_77 ?_
        refine g_iconst (pc := 80) (v := 1) dX12_disk_80 (by decide) ?_
        refine g_iald (pc := 81) rfl (by decide) (j := 1) (by decide) dX12_disk_81 ?_
        refine g_goto (pc := 82) (tgt := 95) dX12_disk_82 (by decide) ?_
        cases h
        exact g_iret (pc := 95) rfl rfl rfl rfl dX12_disk_95
    have h := g_iff c28 h
    by_cases c32 : v2 = 2
    · have h := g_ift c32 h
      refine g_tabIn (pc := 16) (tgt := 96) (off := 80) dX12_disk_16 (by rw [c32]; decide) (by rw [c32]; decide) (by rw [c32]; decide) (by decide) ?_
      refine g_aload_n (pc := 96) dX12_disk_96 rfl 0 rfl ?_
      refine g_getR (pc := 97) wfX12_38 rfl rfl dX12_disk_97 ?_
      refine g_sipush (pc := 100) (v := 400) dX12_disk_100 (by decide) ?_
      refine g_iload_n (pc := 103) dX12_disk_103 rfl 1 rfl ?_
      refine g_iadd (pc := 104) dX12_disk_104 ?_
      obtain ⟨c33, h⟩ := g_gd h
      refine g_iald (pc := 105) rfl c33 rfl dX12_disk_105 ?_
      cases h
      exact g_iret (pc := 106) rfl rfl rfl rfl dX12_disk_106
    have h := g_iff c32 h
    by_cases c34 : v2 = 3
    · have h := g_ift c34 h
      refine g_tabIn (pc := 16) (tgt := 107) (off := 91) dX12_disk_16 (by rw [c34]; decide) (by rw [c34]; decide) (by rw [c34]; decide) (by decide) ?_
      refine g_aload_n (pc := 107) dX12_disk_107 rfl 0 rfl ?_
      refine g_getR (pc := 108) wfX12_38 rfl rfl dX12_disk_108 ?_
      refine g_sipush (pc := 111) (v := 408) dX12_disk_111 (by decide) ?_
      refine g_iload_n (pc := 114) dX12_disk_114 rfl 1 rfl ?_
      refine g_iadd (pc := 115) dX12_disk_115 ?_
      obtain ⟨c35, h⟩ := g_gd h
      refine g_iald (pc := 116) rfl c35 rfl dX12_disk_116 ?_
      cases h
      exact g_iret (pc := 117) rfl rfl rfl rfl dX12_disk_117
    have h := g_iff c34 h
    by_cases c36 : v2 = 4
    · have h := g_ift c36 h
      refine g_tabIn (pc := 16) (tgt := 118) (off := 102) dX12_disk_16 (by rw [c36]; decide) (by rw [c36]; decide) (by rw [c36]; decide) (by decide) ?_
      refine g_aload_n (pc := 118) dX12_disk_118 rfl 0 rfl ?_
      refine g_getR (pc := 119) wfX12_38 rfl rfl dX12_disk_119 ?_
      refine g_sipush (pc := 122) (v := 416) dX12_disk_122 (by decide) ?_
      refine g_iload_n (pc := 125) dX12_disk_125 rfl 1 rfl ?_
      refine g_iadd (pc := 126) dX12_disk_126 ?_
      obtain ⟨c37, h⟩ := g_gd h
      refine g_iald (pc := 127) rfl c37 rfl dX12_disk_127 ?_
      cases h
      exact g_iret (pc := 128) rfl rfl rfl rfl dX12_disk_128
    have h := g_iff c36 h
    have u38 : (v2).toInt < 0 ∨ 4 < (v2).toInt := by
      have ec26 := g_toInt c26
      have ec28 := g_toInt c28
      have ec32 := g_toInt c32
      have ec34 := g_toInt c34
      have ec36 := g_toInt c36
      rw [show (0 : Int32).toInt = 0 from by decide] at ec26
      rw [show (1 : Int32).toInt = 1 from by decide] at ec28
      rw [show (2 : Int32).toInt = 2 from by decide] at ec32
      rw [show (3 : Int32).toInt = 3 from by decide] at ec34
      rw [show (4 : Int32).toInt = 4 from by decide] at ec36
      omega
    refine g_tabOut (pc := 16) (tgt := 129) dX12_disk_16 u38 (by decide) ?_
    refine g_iconst (pc := 129) (v := (-1)) dX12_disk_129 (by decide) ?_
    cases h
    exact g_iret (pc := 130) rfl rfl rfl rfl dX12_disk_130
  · have h := g_ift c25 h
    refine g_iconst (pc := 13) (v := (-1)) dX12_disk_13 (by decide) ?_
    cases h
    exact g_iret (pc := 14) rfl rfl rfl rfl dX12_disk_14
def fX12_cost (n : Nat) (v1 : Int32) (v2 : Int32) (σ : gM) : Option (Int32 × gM) := g_let (g_put σ 0 0 0) (fun σ26 => g_bI (fX12_isAddress v1 σ26) (fun r30 σ29 => if r30 = 0 then (some ((-1), σ29)) else (g_bI (fX12_isIn v2.toInt64 0 2 σ29) (fun r34 σ33 => if r34 = 0 then (some ((-1), σ33)) else (g_bI (fX12_stripeOf v1 σ33) (fun r38 σ37 => g_bI (fX12_byteOf v1 σ37) (fun r41 σ40 => g_bV (fX12_lays n 10 r38 r41 (-1) (-1) σ40) (fun σ43 => g_bI (fX12_partOf v1 σ43) (fun r46 σ45 => g_bV (fX12_chooses n r46 σ45) (fun σ48 => if v2 = 0 then (some (σ48.1 0 27, σ48)) else (if v2 = 1 then (some (σ48.1 0 28, σ48)) else (some (σ48.1 0 26, σ48)))))))))))))
set_option maxRecDepth 100000 in
theorem kX12_cost (hE : gEM l dC dI ad ca X) (n : Nat)  (v1 : Int32) (v2 : Int32) (σ : gM) {r0 : Int32} {σ' : gM} (h : fX12_cost n v1 v2 σ = some (r0, σ')) : g_C l dC dI ad ca shM X yX12_cost cX12_cost 3 (some .int) (gR 3) [.ref 0, .int v1, .int v2] σ (some (.int r0)) σ' := by
  refine g_entry (by decide +kernel) (Nat.le_of_ble_eq_true rfl) ?_
  refine g_lvE (lv1 := [(0, .ref 0), (1, .int v1), (2, .int v2)]) rfl ?_
  unfold fX12_cost at h
  refine g_aload_n (pc := 0) dX12_cost_0 rfl 0 rfl ?_
  refine g_iconst (pc := 1) (v := 0) dX12_cost_1 (by decide) ?_
  obtain ⟨σ26, e27, h⟩ := g_ltd h
  refine g_putI (pc := 2) wfX12_57 rfl rfl rfl rfl e27 dX12_cost_2 ?_
  refine g_aload_n (pc := 5) dX12_cost_5 rfl 0 rfl ?_
  refine g_iload_n (pc := 6) dX12_cost_6 rfl 1 rfl ?_
  obtain ⟨r30, σ29, h28, h⟩ := g_bId h
  refine g_callVi (pc := 7) (st := []) hE.1 wvX12_281 rfl rfl (kX12_isAddress hE v1 σ26 h28) rfl (gR_ok (by decide) (by decide)) (Nat.le_of_ble_eq_true rfl) rfl dX12_cost_7 ?_
  refine g_if_eq (pc := 10) (tgt := 25) dX12_cost_10 (by decide) (fun c31 => ?_) (fun c31 => ?_)
  · have h := g_ift c31 h
    refine g_iconst (pc := 25) (v := (-1)) dX12_cost_25 (by decide) ?_
    cases h
    exact g_iret (pc := 26) rfl rfl rfl rfl dX12_cost_26
  · have h := g_iff c31 h
    refine g_iload_n (pc := 13) dX12_cost_13 rfl 2 rfl ?_
    refine g_i2l (pc := 14) dX12_cost_14 ?_
    refine g_lconst (pc := 15) (v := 0) dX12_cost_15 (by decide) ?_
    refine g_ldc2 (pc := 16) wkX12_294 dX12_cost_16 ?_
    obtain ⟨r34, σ33, h32, h⟩ := g_bId h
    refine g_callSi (pc := 19) (st := []) hE.1 wsX12_117 (kX12_isIn hE v2.toInt64 0 2 σ29 h32) rfl (gR_ok (by decide) (by decide)) (Nat.le_of_ble_eq_true rfl) rfl dX12_cost_19 ?_
    refine g_if_ne (pc := 22) (tgt := 27) dX12_cost_22 (by decide) (fun c35 => ?_) (fun c35 => ?_)
    · have h := g_iff c35 h
      refine g_aload_n (pc := 27) dX12_cost_27 rfl 0 rfl ?_
      refine g_aload_n (pc := 28) dX12_cost_28 rfl 0 rfl ?_
      refine g_getR (pc := 29) wfX12_38 rfl rfl dX12_cost_29 ?_
      refine g_aload_n (pc := 32) dX12_cost_32 rfl 0 rfl ?_
      refine g_iload_n (pc := 33) dX12_cost_33 rfl 1 rfl ?_
      obtain ⟨r38, σ37, h36, h⟩ := g_bId h
      refine g_callVi (pc := 34) (st := [.ref 10, .ref 0]) hE.1 wvX12_217 rfl rfl (kX12_stripeOf hE v1 σ33 h36) rfl (gR_ok (by decide) (by decide)) (Nat.le_of_ble_eq_true rfl) rfl dX12_cost_34 ?_
      refine g_aload_n (pc := 37) dX12_cost_37 rfl 0 rfl ?_
      refine g_iload_n (pc := 38) dX12_cost_38 rfl 1 rfl ?_
      obtain ⟨r41, σ40, h39, h⟩ := g_bId h
      refine g_callVi (pc := 39) (st := [.int r38, .ref 10, .ref 0]) hE.1 wvX12_220 rfl rfl (kX12_byteOf hE v1 σ37 h39) rfl (gR_ok (by decide) (by decide)) (Nat.le_of_ble_eq_true rfl) rfl dX12_cost_39 ?_
      refine g_iconst (pc := 42) (v := (-1)) dX12_cost_42 (by decide) ?_
      refine g_iconst (pc := 43) (v := (-1)) dX12_cost_43 (by decide) ?_
      obtain ⟨σ43, h42, h⟩ := g_bVd h
      refine g_callVv (pc := 44) (st := []) hE.1 wvX12_223 rfl rfl (kX12_lays hE n 10 rfl r38 r41 (-1) (-1) σ40 h42) rfl (gR_ok (by decide) (by decide)) (Nat.le_of_ble_eq_true rfl) rfl dX12_cost_44 ?_
      refine g_aload_n (pc := 47) dX12_cost_47 rfl 0 rfl ?_
      refine g_aload_n (pc := 48) dX12_cost_48 rfl 0 rfl ?_
      refine g_iload_n (pc := 49) dX12_cost_49 rfl 1 rfl ?_
      obtain ⟨r46, σ45, h44, h⟩ := g_bId h
      refine g_callVi (pc := 50) (st := [.ref 0]) hE.1 wvX12_230 rfl rfl (kX12_partOf hE v1 σ43 h44) rfl (gR_ok (by decide) (by decide)) (Nat.le_of_ble_eq_true rfl) rfl dX12_cost_50 ?_
      obtain ⟨σ48, h47, h⟩ := g_bVd h
      refine g_callVv (pc := 53) (st := []) hE.1 wvX12_250 rfl rfl (kX12_chooses hE n r46 σ45 h47) rfl (gR_ok (by decide) (by decide)) (Nat.le_of_ble_eq_true rfl) rfl dX12_cost_53 ?_
      refine g_iload_n (pc := 56) dX12_cost_56 rfl 2 rfl ?_
      refine g_if_ne (pc := 57) (tgt := 67) dX12_cost_57 (by decide) (fun c49 => ?_) (fun c49 => ?_)
      · have h := g_iff c49 h
        refine g_iload_n (pc := 67) dX12_cost_67 rfl 2 rfl ?_
        refine g_iconst (pc := 68) (v := 1) dX12_cost_68 (by decide) ?_
        refine g_icmp_ne (pc := 69) (tgt := 79) dX12_cost_69 (by decide) (fun c50 => ?_) (fun c50 => ?_)
        · have h := g_iff c50 h
          refine g_aload_n (pc := 79) dX12_cost_79 rfl 0 rfl ?_
          refine g_getI (pc := 80) wfX12_237 rfl rfl dX12_cost_80 ?_
          cases h
          exact g_iret (pc := 83) rfl rfl rfl rfl dX12_cost_83
        · have h := g_ift c50 h
          refine g_aload_n (pc := 72) dX12_cost_72 rfl 0 rfl ?_
          refine g_getI (pc := 73) wfX12_243 rfl rfl dX12_cost_73 ?_
          refine g_goto (pc := 76) (tgt := 83) dX12_cost_76 (by decide) ?_
          cases h
          exact g_iret (pc := 83) rfl rfl rfl rfl dX12_cost_83
      · have h := g_ift c49 h
        refine g_aload_n (pc := 60) dX12_cost_60 rfl 0 rfl ?_
        refine g_getI (pc := 61) wfX12_240 rfl rfl dX12_cost_61 ?_
        refine g_goto (pc := 64) (tgt := 83) dX12_cost_64 (by decide) ?_
        cases h
        exact g_iret (pc := 83) rfl rfl rfl rfl dX12_cost_83
    · have h := g_ift c35 h
      refine g_iconst (pc := 25) (v := (-1)) dX12_cost_25 (by decide) ?_
      cases h
      exact g_iret (pc := 26) rfl rfl rfl rfl dX12_cost_26
def fX12_told_b90 (n : Nat) (K50 : Int32 → Int32 → Int32 → Int32 → Int32 → Int32 → gM → Option (Int32 × gM)) (v1 : Int32) (v2 : Int32) (v3 : Int32) (v4 : Int32) (v5 : Int32) (v6 : Int32) (σ : gM) : Option (Int32 × gM) := K50 v1 v2 v3 v4 v5 (v6 + 1) σ
set_option maxRecDepth 100000 in
theorem tX12_told_b90 (hE : gEM l dC dI ad ca X) {r0 : Int32} {σ' : gM} (n : Nat) (K50 : Int32 → Int32 → Int32 → Int32 → Int32 → Int32 → gM → Option (Int32 × gM)) (hK50 : ∀ (v1 : Int32) (v2 : Int32) (v3 : Int32) (v4 : Int32) (v5 : Int32) (v6 : Int32) (σ : gM), K50 v1 v2 v3 v4 v5 v6 σ = some (r0, σ') → g_G l dC dI ad ca shM X cX12_told 7 RX12 (some .int) (gR 3) (some (.int r0)) σ' 50 [(0, .ref 0), (1, .int v1), (2, .int v2), (3, .int v3), (4, .int v4), (5, .int v5), (6, .int v6)] [] σ) (v1 : Int32) (v2 : Int32) (v3 : Int32) (v4 : Int32) (v5 : Int32) (v6 : Int32)  (σ : gM) (h : fX12_told_b90 n K50 v1 v2 v3 v4 v5 v6 σ = some (r0, σ')) : g_G l dC dI ad ca shM X cX12_told 7 RX12 (some .int) (gR 3) (some (.int r0)) σ' 90 [(0, .ref 0), (1, .int v1), (2, .int v2), (3, .int v3), (4, .int v4), (5, .int v5), (6, .int v6)] [] σ := by
  unfold fX12_told_b90 at h
  refine g_iinc (pc := 90) (v := v6 + 1) (lv1 := [(6, .int (v6 + 1)), (0, .ref 0), (1, .int v1), (2, .int v2), (3, .int v3), (4, .int v4), (5, .int v5)]) dX12_told_90 6 rfl rfl (by decide) rfl ?_
  refine g_goto (pc := 93) (tgt := 50) dX12_told_93 (by decide) ?_
  exact g_lv [1, 2, 3, 4, 5, 6, 0] rfl (hK50 v1 v2 v3 v4 v5 (v6 + 1) σ h)
def fX12_told_b50 (n : Nat) (K50 : Int32 → Int32 → Int32 → Int32 → Int32 → Int32 → gM → Option (Int32 × gM)) (v1 : Int32) (v2 : Int32) (v3 : Int32) (v4 : Int32) (v5 : Int32) (v6 : Int32) (σ : gM) : Option (Int32 × gM) := if (σ.1 0 13) ≤ v6 then (g_bV (fX12_lays n 10 v2 v3 v4 v5 σ) (fun σ34 => g_bV (fX12_solves n σ34) (fun σ36 => g_bI (fX12_roleOf v2 v1 σ36) (fun r39 σ38 => if ¬ (r39 < 0 ∨ 8 ≤ r39.toNatClampNeg) then (some (σ38.1 14 r39.toNatClampNeg, σ38)) else none)))) else (if v6 = v4 then (fX12_told_b90 n K50 v1 v2 v3 v4 v5 v6 σ) else (if v6 = v5 then (fX12_told_b90 n K50 v1 v2 v3 v4 v5 v6 σ) else (g_bI (fX12_isThere 10 v6 v2 σ) (fun r45 σ44 => if r45 = 0 then (some ((-1000000), σ44)) else (fX12_told_b90 n K50 v1 v2 v3 v4 v5 v6 σ44)))))
set_option maxRecDepth 100000 in
theorem tX12_told_b50 (hE : gEM l dC dI ad ca X) {r0 : Int32} {σ' : gM} (n : Nat) (K50 : Int32 → Int32 → Int32 → Int32 → Int32 → Int32 → gM → Option (Int32 × gM)) (hK50 : ∀ (v1 : Int32) (v2 : Int32) (v3 : Int32) (v4 : Int32) (v5 : Int32) (v6 : Int32) (σ : gM), K50 v1 v2 v3 v4 v5 v6 σ = some (r0, σ') → g_G l dC dI ad ca shM X cX12_told 7 RX12 (some .int) (gR 3) (some (.int r0)) σ' 50 [(0, .ref 0), (1, .int v1), (2, .int v2), (3, .int v3), (4, .int v4), (5, .int v5), (6, .int v6)] [] σ) (v1 : Int32) (v2 : Int32) (v3 : Int32) (v4 : Int32) (v5 : Int32) (v6 : Int32)  (σ : gM) (h : fX12_told_b50 n K50 v1 v2 v3 v4 v5 v6 σ = some (r0, σ')) : g_G l dC dI ad ca shM X cX12_told 7 RX12 (some .int) (gR 3) (some (.int r0)) σ' 50 [(0, .ref 0), (1, .int v1), (2, .int v2), (3, .int v3), (4, .int v4), (5, .int v5), (6, .int v6)] [] σ := by
  unfold fX12_told_b50 at h
  refine g_iload (pc := 50) dX12_told_50 6 rfl ?_
  refine g_aload_n (pc := 52) dX12_told_52 rfl 0 rfl ?_
  refine g_getI (pc := 53) wfX12_171 rfl rfl dX12_told_53 ?_
  refine g_icmp_ge (pc := 56) (tgt := 96) dX12_told_56 (by decide) (fun c32 => ?_) (fun c32 => ?_)
  · have h := g_ift c32 h
    refine g_aload_n (pc := 96) dX12_told_96 rfl 0 rfl ?_
    refine g_aload_n (pc := 97) dX12_told_97 rfl 0 rfl ?_
    refine g_getR (pc := 98) wfX12_38 rfl rfl dX12_told_98 ?_
    refine g_iload_n (pc := 101) dX12_told_101 rfl 2 rfl ?_
    refine g_iload_n (pc := 102) dX12_told_102 rfl 3 rfl ?_
    refine g_iload (pc := 103) dX12_told_103 4 rfl ?_
    refine g_iload (pc := 105) dX12_told_105 5 rfl ?_
    obtain ⟨σ34, h33, h⟩ := g_bVd h
    refine g_callVv (pc := 107) (st := []) hE.1 wvX12_223 rfl rfl (kX12_lays hE n 10 rfl v2 v3 v4 v5 σ h33) rfl (gR_ok (by decide) (by decide)) (Nat.le_of_ble_eq_true rfl) rfl dX12_told_107 ?_
    refine g_aload_n (pc := 110) dX12_told_110 rfl 0 rfl ?_
    obtain ⟨σ36, h35, h⟩ := g_bVd h
    refine g_callVv (pc := 111) (st := []) hE.1 wvX12_227 rfl rfl (kX12_solves hE n σ34 h35) rfl (gR_ok (by decide) (by decide)) (Nat.le_of_ble_eq_true rfl) rfl dX12_told_111 ?_
    refine g_aload_n (pc := 114) dX12_told_114 rfl 0 rfl ?_
    refine g_getR (pc := 115) wfX12_50 rfl rfl dX12_told_115 ?_
    refine g_aload_n (pc := 118) dX12_told_118 rfl 0 rfl ?_
    refine g_iload_n (pc := 119) dX12_told_119 rfl 2 rfl ?_
    refine g_iload_n (pc := 120) dX12_told_120 rfl 1 rfl ?_
    obtain ⟨r39, σ38, h37, h⟩ := g_bId h
    refine g_callVi (pc := 121) (st := [.ref 14]) hE.1 wvX12_340 rfl rfl (kX12_roleOf hE v2 v1 σ36 h37) rfl (gR_ok (by decide) (by decide)) (Nat.le_of_ble_eq_true rfl) rfl dX12_told_121 ?_
    obtain ⟨c40, h⟩ := g_gd h
    refine g_iald (pc := 124) rfl c40 rfl dX12_told_124 ?_
    cases h
    exact g_iret (pc := 125) rfl rfl rfl rfl dX12_told_125
  · have h := g_iff c32 h
    refine g_iload (pc := 59) dX12_told_59 6 rfl ?_
    refine g_iload (pc := 61) dX12_told_61 4 rfl ?_
    refine g_icmp_eq (pc := 63) (tgt := 90) dX12_told_63 (by decide) (fun c41 => ?_) (fun c41 => ?_)
    · have h := g_ift c41 h
      exact g_lv [0, 1, 2, 3, 4, 5, 6] rfl (tX12_told_b90 hE n K50 hK50 v1 v2 v3 v4 v5 v6 σ h)
    · have h := g_iff c41 h
      refine g_iload (pc := 66) dX12_told_66 6 rfl ?_
      refine g_iload (pc := 68) dX12_told_68 5 rfl ?_
      refine g_icmp_eq (pc := 70) (tgt := 90) dX12_told_70 (by decide) (fun c42 => ?_) (fun c42 => ?_)
      · have h := g_ift c42 h
        exact g_lv [0, 1, 2, 3, 4, 5, 6] rfl (tX12_told_b90 hE n K50 hK50 v1 v2 v3 v4 v5 v6 σ h)
      · have h := g_iff c42 h
        refine g_aload_n (pc := 73) dX12_told_73 rfl 0 rfl ?_
        refine g_getR (pc := 74) wfX12_38 rfl rfl dX12_told_74 ?_
        refine g_iload (pc := 77) dX12_told_77 6 rfl ?_
        refine g_iload_n (pc := 79) dX12_told_79 rfl 2 rfl ?_
        obtain ⟨r45, σ44, h43, h⟩ := g_bId h
        refine g_callSi (pc := 80) (st := []) hE.1 wsX12_202 (kX12_isThere hE 10 rfl v6 v2 σ h43) rfl (gR_ok (by decide) (by decide)) (Nat.le_of_ble_eq_true rfl) rfl dX12_told_80 ?_
        refine g_if_ne (pc := 83) (tgt := 90) dX12_told_83 (by decide) (fun c46 => ?_) (fun c46 => ?_)
        · have h := g_iff c46 h
          exact g_lv [0, 1, 2, 3, 4, 5, 6] rfl (tX12_told_b90 hE n K50 hK50 v1 v2 v3 v4 v5 v6 σ44 h)
        · have h := g_ift c46 h
          refine g_ldcw (pc := 86) wkX12_393 dX12_told_86 ?_
          cases h
          exact g_iret (pc := 89) rfl rfl rfl rfl dX12_told_89
def fX12_told_L50 (n : Nat) : Nat → Int32 → Int32 → Int32 → Int32 → Int32 → Int32 → gM → Option (Int32 × gM)
  | 0 => fun _ _ _ _ _ _ _ => none
  | k + 1 => fX12_told_b50 n (fX12_told_L50 n k)
theorem tX12_told_L50 (hE : gEM l dC dI ad ca X) {r0 : Int32} {σ' : gM} (n : Nat)  : ∀ (k : Nat) (v1 : Int32) (v2 : Int32) (v3 : Int32) (v4 : Int32) (v5 : Int32) (v6 : Int32) (σ : gM), fX12_told_L50 n k v1 v2 v3 v4 v5 v6 σ = some (r0, σ') → g_G l dC dI ad ca shM X cX12_told 7 RX12 (some .int) (gR 3) (some (.int r0)) σ' 50 [(0, .ref 0), (1, .int v1), (2, .int v2), (3, .int v3), (4, .int v4), (5, .int v5), (6, .int v6)] [] σ := by
  intro k
  induction k with
  | zero => intro v1 v2 v3 v4 v5 v6 σ h; cases h
  | succ k ih => intro v1 v2 v3 v4 v5 v6 σ h; exact tX12_told_b50 hE n (fX12_told_L50 n k) ih v1 v2 v3 v4 v5 v6 σ h
def fX12_told_b47 (n : Nat) (v1 : Int32) (v2 : Int32) (v3 : Int32) (v4 : Int32) (v5 : Int32) (σ : gM) : Option (Int32 × gM) := fX12_told_L50 n n v1 v2 v3 v4 v5 0 σ
set_option maxRecDepth 100000 in
theorem tX12_told_b47 (hE : gEM l dC dI ad ca X) {r0 : Int32} {σ' : gM} (n : Nat) (v1 : Int32) (v2 : Int32) (v3 : Int32) (v4 : Int32) (v5 : Int32)  (σ : gM) (h : fX12_told_b47 n v1 v2 v3 v4 v5 σ = some (r0, σ')) : g_G l dC dI ad ca shM X cX12_told 7 RX12 (some .int) (gR 3) (some (.int r0)) σ' 47 [(0, .ref 0), (1, .int v1), (2, .int v2), (3, .int v3), (4, .int v4), (5, .int v5)] [] σ := by
  unfold fX12_told_b47 at h
  refine g_iconst (pc := 47) (v := 0) dX12_told_47 (by decide) ?_
  refine g_istore (pc := 48) (lv1 := [(6, .int 0), (0, .ref 0), (1, .int v1), (2, .int v2), (3, .int v3), (4, .int v4), (5, .int v5)]) dX12_told_48 (by decide) rfl ?_
  exact g_lv [1, 2, 3, 4, 5, 6, 0] rfl (tX12_told_L50 hE n n v1 v2 v3 v4 v5 0 σ h)
def fX12_told (n : Nat) (v1 : Int32) (v2 : Int32) (v3 : Int32) (v4 : Int32) (v5 : Int32) (σ : gM) : Option (Int32 × gM) := g_let (g_put σ 0 0 0) (fun σ47 => g_bI (fX12_isPlace v1 v2 v3 σ47) (fun r51 σ50 => if r51 = 0 then (some ((-1), σ50)) else (g_bI (fX12_isDisk v4 σ50) (fun r55 σ54 => if r55 = 0 then (some ((-1), σ54)) else (g_bI (fX12_isDisk v5 σ54) (fun r59 σ58 => if r59 = 0 then (some ((-1), σ58)) else (if v1 = v4 then (fX12_told_b47 n v1 v2 v3 v4 v5 σ58) else (if v1 = v5 then (fX12_told_b47 n v1 v2 v3 v4 v5 σ58) else (some ((-1), σ58))))))))))
set_option maxRecDepth 100000 in
theorem kX12_told (hE : gEM l dC dI ad ca X) (n : Nat)  (v1 : Int32) (v2 : Int32) (v3 : Int32) (v4 : Int32) (v5 : Int32) (σ : gM) {r0 : Int32} {σ' : gM} (h : fX12_told n v1 v2 v3 v4 v5 σ = some (r0, σ')) : g_C l dC dI ad ca shM X yX12_told cX12_told 7 (some .int) (gR 3) [.ref 0, .int v1, .int v2, .int v3, .int v4, .int v5] σ (some (.int r0)) σ' := by
  refine g_entry (by decide +kernel) (Nat.le_of_ble_eq_true rfl) ?_
  refine g_lvE (lv1 := [(0, .ref 0), (1, .int v1), (2, .int v2), (3, .int v3), (4, .int v4), (5, .int v5)]) rfl ?_
  unfold fX12_told at h
  refine g_aload_n (pc := 0) dX12_told_0 rfl 0 rfl ?_
  refine g_iconst (pc := 1) (v := 0) dX12_told_1 (by decide) ?_
  obtain ⟨σ47, e48, h⟩ := g_ltd h
  refine g_putI (pc := 2) wfX12_57 rfl rfl rfl rfl e48 dX12_told_2 ?_
  refine g_aload_n (pc := 5) dX12_told_5 rfl 0 rfl ?_
  refine g_iload_n (pc := 6) dX12_told_6 rfl 1 rfl ?_
  refine g_iload_n (pc := 7) dX12_told_7 rfl 2 rfl ?_
  refine g_iload_n (pc := 8) dX12_told_8 rfl 3 rfl ?_
  obtain ⟨r51, σ50, h49, h⟩ := g_bId h
  refine g_callVi (pc := 9) (st := []) hE.1 wvX12_290 rfl rfl (kX12_isPlace hE v1 v2 v3 σ47 h49) rfl (gR_ok (by decide) (by decide)) (Nat.le_of_ble_eq_true rfl) rfl dX12_told_9 ?_
  refine g_if_eq (pc := 12) (tgt := 45) dX12_told_12 (by decide) (fun c52 => ?_) (fun c52 => ?_)
  · have h := g_ift c52 h
    refine g_iconst (pc := 45) (v := (-1)) dX12_told_45 (by decide) ?_
    cases h
    exact g_iret (pc := 46) rfl rfl rfl rfl dX12_told_46
  · have h := g_iff c52 h
    refine g_aload_n (pc := 15) dX12_told_15 rfl 0 rfl ?_
    refine g_iload (pc := 16) dX12_told_16 4 rfl ?_
    obtain ⟨r55, σ54, h53, h⟩ := g_bId h
    refine g_callVi (pc := 18) (st := []) hE.1 wvX12_278 rfl rfl (kX12_isDisk hE v4 σ50 h53) rfl (gR_ok (by decide) (by decide)) (Nat.le_of_ble_eq_true rfl) rfl dX12_told_18 ?_
    refine g_if_eq (pc := 21) (tgt := 45) dX12_told_21 (by decide) (fun c56 => ?_) (fun c56 => ?_)
    · have h := g_ift c56 h
      refine g_iconst (pc := 45) (v := (-1)) dX12_told_45 (by decide) ?_
      cases h
      exact g_iret (pc := 46) rfl rfl rfl rfl dX12_told_46
    · have h := g_iff c56 h
      refine g_aload_n (pc := 24) dX12_told_24 rfl 0 rfl ?_
      refine g_iload (pc := 25) dX12_told_25 5 rfl ?_
      obtain ⟨r59, σ58, h57, h⟩ := g_bId h
      refine g_callVi (pc := 27) (st := []) hE.1 wvX12_278 rfl rfl (kX12_isDisk hE v5 σ54 h57) rfl (gR_ok (by decide) (by decide)) (Nat.le_of_ble_eq_true rfl) rfl dX12_told_27 ?_
      refine g_if_eq (pc := 30) (tgt := 45) dX12_told_30 (by decide) (fun c60 => ?_) (fun c60 => ?_)
      · have h := g_ift c60 h
        refine g_iconst (pc := 45) (v := (-1)) dX12_told_45 (by decide) ?_
        cases h
        exact g_iret (pc := 46) rfl rfl rfl rfl dX12_told_46
      · have h := g_iff c60 h
        refine g_iload_n (pc := 33) dX12_told_33 rfl 1 rfl ?_
        refine g_iload (pc := 34) dX12_told_34 4 rfl ?_
        refine g_icmp_eq (pc := 36) (tgt := 47) dX12_told_36 (by decide) (fun c61 => ?_) (fun c61 => ?_)
        · have h := g_ift c61 h
          exact g_lv [0, 1, 2, 3, 4, 5] rfl (tX12_told_b47 hE n v1 v2 v3 v4 v5 σ58 h)
        · have h := g_iff c61 h
          refine g_iload_n (pc := 39) dX12_told_39 rfl 1 rfl ?_
          refine g_iload (pc := 40) dX12_told_40 5 rfl ?_
          refine g_icmp_eq (pc := 42) (tgt := 47) dX12_told_42 (by decide) (fun c62 => ?_) (fun c62 => ?_)
          · have h := g_ift c62 h
            exact g_lv [0, 1, 2, 3, 4, 5] rfl (tX12_told_b47 hE n v1 v2 v3 v4 v5 σ58 h)
          · have h := g_iff c62 h
            refine g_iconst (pc := 45) (v := (-1)) dX12_told_45 (by decide) ?_
            cases h
            exact g_iret (pc := 46) rfl rfl rfl rfl dX12_told_46
def fX12_who_b38 (n : Nat) (σ : gM) : Option (Int32 × gM) := some ((-1000000), σ)
set_option maxRecDepth 100000 in
theorem tX12_who_b38 (hE : gEM l dC dI ad ca X) {r0 : Int32} {σ' : gM} (n : Nat)  (σ : gM) (h : fX12_who_b38 n σ = some (r0, σ')) : g_G l dC dI ad ca shM X cX12_who 4 RX12 (some .int) (gR 3) (some (.int r0)) σ' 38 [] [] σ := by
  unfold fX12_who_b38 at h
  refine g_ldcw (pc := 38) wkX12_393 dX12_who_38 ?_
  cases h
  exact g_iret (pc := 41) rfl rfl rfl rfl dX12_who_41
def fX12_who (n : Nat) (v1 : Int32) (v2 : Int32) (σ : gM) : Option (Int32 × gM) := g_let (g_put σ 0 0 0) (fun σ24 => g_bI (fX12_isPlace 0 v1 v2 σ24) (fun r28 σ27 => if r28 = 0 then (fX12_who_b38 n σ27) else (g_bI (fX12_isAll n 10 v1 σ27) (fun r32 σ31 => if r32 = 0 then (fX12_who_b38 n σ31) else (g_bI (fX12_isDirty 10 v1 σ31) (fun r36 σ35 => if r36 = 0 then (g_bV (fX12_lays n 10 v1 v2 (-1) (-1) σ35) (fun σ39 => g_bI (fX12_wrong n σ39) (fun r42 σ41 => if 0 ≤ r42 then (g_bI (fX12_diskOf v1 r42 σ41) (fun r46 σ45 => some (r46, σ45))) else (some (r42, σ41))))) else (fX12_who_b38 n σ35)))))))
set_option maxRecDepth 100000 in
theorem kX12_who (hE : gEM l dC dI ad ca X) (n : Nat)  (v1 : Int32) (v2 : Int32) (σ : gM) {r0 : Int32} {σ' : gM} (h : fX12_who n v1 v2 σ = some (r0, σ')) : g_C l dC dI ad ca shM X yX12_who cX12_who 4 (some .int) (gR 3) [.ref 0, .int v1, .int v2] σ (some (.int r0)) σ' := by
  refine g_entry (by decide +kernel) (Nat.le_of_ble_eq_true rfl) ?_
  refine g_lvE (lv1 := [(0, .ref 0), (1, .int v1), (2, .int v2)]) rfl ?_
  unfold fX12_who at h
  refine g_aload_n (pc := 0) dX12_who_0 rfl 0 rfl ?_
  refine g_iconst (pc := 1) (v := 0) dX12_who_1 (by decide) ?_
  obtain ⟨σ24, e25, h⟩ := g_ltd h
  refine g_putI (pc := 2) wfX12_57 rfl rfl rfl rfl e25 dX12_who_2 ?_
  refine g_aload_n (pc := 5) dX12_who_5 rfl 0 rfl ?_
  refine g_iconst (pc := 6) (v := 0) dX12_who_6 (by decide) ?_
  refine g_iload_n (pc := 7) dX12_who_7 rfl 1 rfl ?_
  refine g_iload_n (pc := 8) dX12_who_8 rfl 2 rfl ?_
  obtain ⟨r28, σ27, h26, h⟩ := g_bId h
  refine g_callVi (pc := 9) (st := []) hE.1 wvX12_290 rfl rfl (kX12_isPlace hE 0 v1 v2 σ24 h26) rfl (gR_ok (by decide) (by decide)) (Nat.le_of_ble_eq_true rfl) rfl dX12_who_9 ?_
  refine g_if_eq (pc := 12) (tgt := 38) dX12_who_12 (by decide) (fun c29 => ?_) (fun c29 => ?_)
  · have h := g_ift c29 h
    exact g_lv [] rfl (tX12_who_b38 hE n σ27 h)
  · have h := g_iff c29 h
    refine g_aload_n (pc := 15) dX12_who_15 rfl 0 rfl ?_
    refine g_aload_n (pc := 16) dX12_who_16 rfl 0 rfl ?_
    refine g_getR (pc := 17) wfX12_38 rfl rfl dX12_who_17 ?_
    refine g_iload_n (pc := 20) dX12_who_20 rfl 1 rfl ?_
    obtain ⟨r32, σ31, h30, h⟩ := g_bId h
    refine g_callVi (pc := 21) (st := []) hE.1 wvX12_267 rfl rfl (kX12_isAll hE n 10 rfl v1 σ27 h30) rfl (gR_ok (by decide) (by decide)) (Nat.le_of_ble_eq_true rfl) rfl dX12_who_21 ?_
    refine g_if_eq (pc := 24) (tgt := 38) dX12_who_24 (by decide) (fun c33 => ?_) (fun c33 => ?_)
    · have h := g_ift c33 h
      exact g_lv [] rfl (tX12_who_b38 hE n σ31 h)
    · have h := g_iff c33 h
      refine g_aload_n (pc := 27) dX12_who_27 rfl 0 rfl ?_
      refine g_getR (pc := 28) wfX12_38 rfl rfl dX12_who_28 ?_
      refine g_iload_n (pc := 31) dX12_who_31 rfl 1 rfl ?_
      obtain ⟨r36, σ35, h34, h⟩ := g_bId h
      refine g_callSi (pc := 32) (st := []) hE.1 wsX12_271 (kX12_isDirty hE 10 rfl v1 σ31 h34) rfl (gR_ok (by decide) (by decide)) (Nat.le_of_ble_eq_true rfl) rfl dX12_who_32 ?_
      refine g_if_eq (pc := 35) (tgt := 42) dX12_who_35 (by decide) (fun c37 => ?_) (fun c37 => ?_)
      · have h := g_ift c37 h
        refine g_aload_n (pc := 42) dX12_who_42 rfl 0 rfl ?_
        refine g_aload_n (pc := 43) dX12_who_43 rfl 0 rfl ?_
        refine g_getR (pc := 44) wfX12_38 rfl rfl dX12_who_44 ?_
        refine g_iload_n (pc := 47) dX12_who_47 rfl 1 rfl ?_
        refine g_iload_n (pc := 48) dX12_who_48 rfl 2 rfl ?_
        refine g_iconst (pc := 49) (v := (-1)) dX12_who_49 (by decide) ?_
        refine g_iconst (pc := 50) (v := (-1)) dX12_who_50 (by decide) ?_
        obtain ⟨σ39, h38, h⟩ := g_bVd h
        refine g_callVv (pc := 51) (st := []) hE.1 wvX12_223 rfl rfl (kX12_lays hE n 10 rfl v1 v2 (-1) (-1) σ35 h38) rfl (gR_ok (by decide) (by decide)) (Nat.le_of_ble_eq_true rfl) rfl dX12_who_51 ?_
        refine g_aload_n (pc := 54) dX12_who_54 rfl 0 rfl ?_
        obtain ⟨r42, σ41, h40, h⟩ := g_bId h
        refine g_callVi (pc := 55) (st := []) hE.1 wvX12_264 rfl rfl (kX12_wrong hE n σ39 h40) rfl (gR_ok (by decide) (by decide)) (Nat.le_of_ble_eq_true rfl) rfl dX12_who_55 ?_
        refine g_istore_n (pc := 58) (lv1 := [(3, .int r42), (0, .ref 0), (1, .int v1), (2, .int v2)]) dX12_who_58 rfl (by decide) rfl ?_
        refine g_iload_n (pc := 59) dX12_who_59 rfl 0 rfl ?_
        refine g_if_ge (pc := 60) (tgt := 67) dX12_who_60 (by decide) (fun c43 => ?_) (fun c43 => ?_)
        · have h := g_ift c43 h
          refine g_aload_n (pc := 67) dX12_who_67 rfl 1 rfl ?_
          refine g_iload_n (pc := 68) dX12_who_68 rfl 2 rfl ?_
          refine g_iload_n (pc := 69) dX12_who_69 rfl 0 rfl ?_
          obtain ⟨r46, σ45, h44, h⟩ := g_bId h
          refine g_callVi (pc := 70) (st := []) hE.1 wvX12_199 rfl rfl (kX12_diskOf hE v1 r42 σ41 h44) rfl (gR_ok (by decide) (by decide)) (Nat.le_of_ble_eq_true rfl) rfl dX12_who_70 ?_
          cases h
          exact g_iret (pc := 73) rfl rfl rfl rfl dX12_who_73
        · have h := g_iff c43 h
          refine g_iload_n (pc := 63) dX12_who_63 rfl 0 rfl ?_
          refine g_goto (pc := 64) (tgt := 73) dX12_who_64 (by decide) ?_
          cases h
          exact g_iret (pc := 73) rfl rfl rfl rfl dX12_who_73
      · have h := g_iff c37 h
        exact g_lv [] rfl (tX12_who_b38 hE n σ35 h)
def fX12_more_b51 (n : Nat) (K18 : Int32 → Int32 → gM → Option (Int32 × gM)) (v2 : Int32) (s0 : Int32) (s1 : Int32) (σ : gM) : Option (Int32 × gM) := K18 (s1 ||| s0) (v2 + 1) σ
set_option maxRecDepth 100000 in
theorem tX12_more_b51 (hE : gEM l dC dI ad ca X) {r0 : Int32} {σ' : gM} (n : Nat) (K18 : Int32 → Int32 → gM → Option (Int32 × gM)) (hK18 : ∀ (v1 : Int32) (v2 : Int32) (σ : gM), K18 v1 v2 σ = some (r0, σ') → g_G l dC dI ad ca shM X cX12_more 3 RX12 (some .int) (gR 4) (some (.int r0)) σ' 18 [(0, .ref 0), (1, .int v1), (2, .int v2)] [] σ) (v2 : Int32) (s0 : Int32) (s1 : Int32)  (σ : gM) (h : fX12_more_b51 n K18 v2 s0 s1 σ = some (r0, σ')) : g_G l dC dI ad ca shM X cX12_more 3 RX12 (some .int) (gR 4) (some (.int r0)) σ' 51 [(0, .ref 0), (2, .int v2)] [.int s0, .int s1] σ := by
  unfold fX12_more_b51 at h
  refine g_ior (pc := 51) dX12_more_51 ?_
  refine g_istore_n (pc := 52) (lv1 := [(1, .int (s1 ||| s0)), (0, .ref 0), (2, .int v2)]) dX12_more_52 rfl (by decide) rfl ?_
  refine g_iinc (pc := 53) (v := v2 + 1) (lv1 := [(2, .int (v2 + 1)), (1, .int (s1 ||| s0)), (0, .ref 0)]) dX12_more_53 2 rfl rfl (by decide) rfl ?_
  refine g_goto (pc := 56) (tgt := 18) dX12_more_56 (by decide) ?_
  exact g_lv [2, 1, 0] rfl (hK18 (s1 ||| s0) (v2 + 1) σ h)
def fX12_more_b18 (n : Nat) (K18 : Int32 → Int32 → gM → Option (Int32 × gM)) (v1 : Int32) (v2 : Int32) (σ : gM) : Option (Int32 × gM) := if (σ.1 0 13) ≤ v2 then (some (v1, σ)) else (g_bI (fX12_stops n 10 1 v2 0 0 0 σ) (fun r12 σ11 => if r12 = (-1) then (fX12_more_b51 n K18 v2 (1 <<< (v2 &&& 31)) v1 σ11) else (fX12_more_b51 n K18 v2 0 v1 σ11)))
set_option maxRecDepth 100000 in
theorem tX12_more_b18 (hE : gEM l dC dI ad ca X) {r0 : Int32} {σ' : gM} (n : Nat) (K18 : Int32 → Int32 → gM → Option (Int32 × gM)) (hK18 : ∀ (v1 : Int32) (v2 : Int32) (σ : gM), K18 v1 v2 σ = some (r0, σ') → g_G l dC dI ad ca shM X cX12_more 3 RX12 (some .int) (gR 4) (some (.int r0)) σ' 18 [(0, .ref 0), (1, .int v1), (2, .int v2)] [] σ) (v1 : Int32) (v2 : Int32)  (σ : gM) (h : fX12_more_b18 n K18 v1 v2 σ = some (r0, σ')) : g_G l dC dI ad ca shM X cX12_more 3 RX12 (some .int) (gR 4) (some (.int r0)) σ' 18 [(0, .ref 0), (1, .int v1), (2, .int v2)] [] σ := by
  unfold fX12_more_b18 at h
  refine g_iload_n (pc := 18) dX12_more_18 rfl 2 rfl ?_
  refine g_aload_n (pc := 19) dX12_more_19 rfl 0 rfl ?_
  refine g_getI (pc := 20) wfX12_171 rfl rfl dX12_more_20 ?_
  refine g_icmp_ge (pc := 23) (tgt := 59) dX12_more_23 (by decide) (fun c9 => ?_) (fun c9 => ?_)
  · have h := g_ift c9 h
    refine g_iload_n (pc := 59) dX12_more_59 rfl 1 rfl ?_
    cases h
    exact g_iret (pc := 60) rfl rfl rfl rfl dX12_more_60
  · have h := g_iff c9 h
    refine g_iload_n (pc := 26) dX12_more_26 rfl 1 rfl ?_
    refine g_aload_n (pc := 27) dX12_more_27 rfl 0 rfl ?_
    refine g_aload_n (pc := 28) dX12_more_28 rfl 0 rfl ?_
    refine g_getR (pc := 29) wfX12_38 rfl rfl dX12_more_29 ?_
    refine g_iconst (pc := 32) (v := 1) dX12_more_32 (by decide) ?_
    refine g_iload_n (pc := 33) dX12_more_33 rfl 2 rfl ?_
    refine g_iconst (pc := 34) (v := 0) dX12_more_34 (by decide) ?_
    refine g_iconst (pc := 35) (v := 0) dX12_more_35 (by decide) ?_
    refine g_iconst (pc := 36) (v := 0) dX12_more_36 (by decide) ?_
    obtain ⟨r12, σ11, h10, h⟩ := g_bId h
    refine g_callVi (pc := 37) (st := [.int v1]) hE.1 wvX12_302 rfl rfl (kX12_stops hE n 10 rfl 1 v2 0 0 0 σ h10) rfl (gR_ok (by decide) (by decide)) (Nat.le_of_ble_eq_true rfl) rfl dX12_more_37 ?_
    refine g_iconst (pc := 40) (v := (-1)) dX12_more_40 (by decide) ?_
    refine g_icmp_ne (pc := 41) (tgt := 50) dX12_more_41 (by decide) (fun c13 => ?_) (fun c13 => ?_)
    · have h := g_iff c13 h
      refine g_iconst (pc := 50) (v := 0) dX12_more_50 (by decide) ?_
      exact g_lv [0, 2] rfl (tX12_more_b51 hE n K18 hK18 v2 0 v1 σ11 h)
    · have h := g_ift c13 h
      refine g_iconst (pc := 44) (v := 1) dX12_more_44 (by decide) ?_
      refine g_iload_n (pc := 45) dX12_more_45 rfl 2 rfl ?_
      refine g_ishl (pc := 46) dX12_more_46 ?_
      refine g_goto (pc := 47) (tgt := 51) dX12_more_47 (by decide) ?_
      exact g_lv [0, 2] rfl (tX12_more_b51 hE n K18 hK18 v2 (1 <<< (v2 &&& 31)) v1 σ11 h)
def fX12_more_L18 (n : Nat) : Nat → Int32 → Int32 → gM → Option (Int32 × gM)
  | 0 => fun _ _ _ => none
  | k + 1 => fX12_more_b18 n (fX12_more_L18 n k)
theorem tX12_more_L18 (hE : gEM l dC dI ad ca X) {r0 : Int32} {σ' : gM} (n : Nat)  : ∀ (k : Nat) (v1 : Int32) (v2 : Int32) (σ : gM), fX12_more_L18 n k v1 v2 σ = some (r0, σ') → g_G l dC dI ad ca shM X cX12_more 3 RX12 (some .int) (gR 4) (some (.int r0)) σ' 18 [(0, .ref 0), (1, .int v1), (2, .int v2)] [] σ := by
  intro k
  induction k with
  | zero => intro v1 v2 σ h; cases h
  | succ k ih => intro v1 v2 σ h; exact tX12_more_b18 hE n (fX12_more_L18 n k) ih v1 v2 σ h
def fX12_more (n : Nat) (σ : gM) : Option (Int32 × gM) := g_let (g_put σ 0 0 0) (fun σ14 => if (σ14.1 0 14) = 0 then (some ((-1), σ14)) else (fX12_more_L18 n n 0 0 σ14))
set_option maxRecDepth 100000 in
theorem kX12_more (hE : gEM l dC dI ad ca X) (n : Nat)  (σ : gM) {r0 : Int32} {σ' : gM} (h : fX12_more n σ = some (r0, σ')) : g_C l dC dI ad ca shM X yX12_more cX12_more 3 (some .int) (gR 4) [.ref 0] σ (some (.int r0)) σ' := by
  refine g_entry (by decide +kernel) (Nat.le_of_ble_eq_true rfl) ?_
  refine g_lvE (lv1 := [(0, .ref 0)]) rfl ?_
  unfold fX12_more at h
  refine g_aload_n (pc := 0) dX12_more_0 rfl 0 rfl ?_
  refine g_iconst (pc := 1) (v := 0) dX12_more_1 (by decide) ?_
  obtain ⟨σ14, e15, h⟩ := g_ltd h
  refine g_putI (pc := 2) wfX12_57 rfl rfl rfl rfl e15 dX12_more_2 ?_
  refine g_aload_n (pc := 5) dX12_more_5 rfl 0 rfl ?_
  refine g_getI (pc := 6) wfX12_153 rfl rfl dX12_more_6 ?_
  refine g_if_ne (pc := 9) (tgt := 14) dX12_more_9 (by decide) (fun c16 => ?_) (fun c16 => ?_)
  · have h := g_iff c16 h
    refine g_iconst (pc := 14) (v := 0) dX12_more_14 (by decide) ?_
    refine g_istore_n (pc := 15) (lv1 := [(1, .int 0), (0, .ref 0)]) dX12_more_15 rfl (by decide) rfl ?_
    refine g_iconst (pc := 16) (v := 0) dX12_more_16 (by decide) ?_
    refine g_istore_n (pc := 17) (lv1 := [(2, .int 0), (1, .int 0), (0, .ref 0)]) dX12_more_17 rfl (by decide) rfl ?_
    exact g_lv [2, 1, 0] rfl (tX12_more_L18 hE n n 0 0 σ14 h)
  · have h := g_ift c16 h
    refine g_iconst (pc := 12) (v := (-1)) dX12_more_12 (by decide) ?_
    cases h
    exact g_iret (pc := 13) rfl rfl rfl rfl dX12_more_13
def fX12_left_b49 (n : Nat) (K41 : Int32 → Int32 → Int32 → gM → Option (Int32 × gM)) (K49 : Int32 → Int32 → Int32 → gM → Option (Int32 × gM)) (v1 : Int32) (v2 : Int32) (v3 : Int32) (σ : gM) : Option (Int32 × gM) := if ¬ ((384 + v3) < 0 ∨ 616 ≤ (384 + v3).toNatClampNeg) then (if (σ.1 11 ((384 + v3).toNatClampNeg)) = 2 then (g_bV (fX12_rebuilds n 11 v3 σ) (fun σ19 => K49 v1 (v2 + 1) v3 σ19)) else (K41 v1 v2 (v3 + 1) σ)) else none
set_option maxRecDepth 100000 in
theorem tX12_left_b49 (hE : gEM l dC dI ad ca X) {r0 : Int32} {σ' : gM} (n : Nat) (K41 : Int32 → Int32 → Int32 → gM → Option (Int32 × gM)) (hK41 : ∀ (v1 : Int32) (v2 : Int32) (v3 : Int32) (σ : gM), K41 v1 v2 v3 σ = some (r0, σ') → g_G l dC dI ad ca shM X cX12_left 4 RX12 (some .int) (gR 4) (some (.int r0)) σ' 41 [(0, .ref 0), (1, .int v1), (2, .int v2), (3, .int v3)] [] σ) (K49 : Int32 → Int32 → Int32 → gM → Option (Int32 × gM)) (hK49 : ∀ (v1 : Int32) (v2 : Int32) (v3 : Int32) (σ : gM), K49 v1 v2 v3 σ = some (r0, σ') → g_G l dC dI ad ca shM X cX12_left 4 RX12 (some .int) (gR 4) (some (.int r0)) σ' 49 [(0, .ref 0), (1, .int v1), (2, .int v2), (3, .int v3)] [] σ) (v1 : Int32) (v2 : Int32) (v3 : Int32)  (σ : gM) (h : fX12_left_b49 n K41 K49 v1 v2 v3 σ = some (r0, σ')) : g_G l dC dI ad ca shM X cX12_left 4 RX12 (some .int) (gR 4) (some (.int r0)) σ' 49 [(0, .ref 0), (1, .int v1), (2, .int v2), (3, .int v3)] [] σ := by
  unfold fX12_left_b49 at h
  refine g_aload_n (pc := 49) dX12_left_49 rfl 0 rfl ?_
  refine g_getR (pc := 50) wfX12_41 rfl rfl dX12_left_50 ?_
  refine g_sipush (pc := 53) (v := 384) dX12_left_53 (by decide) ?_
  refine g_iload_n (pc := 56) dX12_left_56 rfl 3 rfl ?_
  refine g_iadd (pc := 57) dX12_left_57 ?_
  obtain ⟨c16, h⟩ := g_gd h
  refine g_iald (pc := 58) rfl c16 rfl dX12_left_58 ?_
  refine g_iconst (pc := 59) (v := 2) dX12_left_59 (by decide) ?_
  refine g_icmp_ne (pc := 60) (tgt := 78) dX12_left_60 (by decide) (fun c17 => ?_) (fun c17 => ?_)
  · have h := g_iff c17 h
    refine g_iinc (pc := 78) (v := v3 + 1) (lv1 := [(3, .int (v3 + 1)), (0, .ref 0), (1, .int v1), (2, .int v2)]) dX12_left_78 3 rfl rfl (by decide) rfl ?_
    refine g_goto (pc := 81) (tgt := 41) dX12_left_81 (by decide) ?_
    exact g_lv [1, 2, 3, 0] rfl (hK41 v1 v2 (v3 + 1) σ h)
  · have h := g_ift c17 h
    refine g_aload_n (pc := 63) dX12_left_63 rfl 0 rfl ?_
    refine g_aload_n (pc := 64) dX12_left_64 rfl 0 rfl ?_
    refine g_getR (pc := 65) wfX12_41 rfl rfl dX12_left_65 ?_
    refine g_iload_n (pc := 68) dX12_left_68 rfl 3 rfl ?_
    obtain ⟨σ19, h18, h⟩ := g_bVd h
    refine g_callVv (pc := 69) (st := []) hE.1 wvX12_320 rfl rfl (kX12_rebuilds hE n 11 rfl v3 σ h18) rfl (gR_ok (by decide) (by decide)) (Nat.le_of_ble_eq_true rfl) rfl dX12_left_69 ?_
    refine g_iinc (pc := 72) (v := v2 + 1) (lv1 := [(2, .int (v2 + 1)), (0, .ref 0), (1, .int v1), (3, .int v3)]) dX12_left_72 2 rfl rfl (by decide) rfl ?_
    refine g_goto (pc := 75) (tgt := 49) dX12_left_75 (by decide) ?_
    exact g_lv [1, 2, 0, 3] rfl (hK49 v1 (v2 + 1) v3 σ19 h)
def fX12_left_L49 (n : Nat) (K41 : Int32 → Int32 → Int32 → gM → Option (Int32 × gM)) : Nat → Int32 → Int32 → Int32 → gM → Option (Int32 × gM)
  | 0 => fun _ _ _ _ => none
  | k + 1 => fX12_left_b49 n K41 (fX12_left_L49 n K41 k)
theorem tX12_left_L49 (hE : gEM l dC dI ad ca X) {r0 : Int32} {σ' : gM} (n : Nat) (K41 : Int32 → Int32 → Int32 → gM → Option (Int32 × gM)) (hK41 : ∀ (v1 : Int32) (v2 : Int32) (v3 : Int32) (σ : gM), K41 v1 v2 v3 σ = some (r0, σ') → g_G l dC dI ad ca shM X cX12_left 4 RX12 (some .int) (gR 4) (some (.int r0)) σ' 41 [(0, .ref 0), (1, .int v1), (2, .int v2), (3, .int v3)] [] σ)  : ∀ (k : Nat) (v1 : Int32) (v2 : Int32) (v3 : Int32) (σ : gM), fX12_left_L49 n K41 k v1 v2 v3 σ = some (r0, σ') → g_G l dC dI ad ca shM X cX12_left 4 RX12 (some .int) (gR 4) (some (.int r0)) σ' 49 [(0, .ref 0), (1, .int v1), (2, .int v2), (3, .int v3)] [] σ := by
  intro k
  induction k with
  | zero => intro v1 v2 v3 σ h; cases h
  | succ k ih => intro v1 v2 v3 σ h; exact tX12_left_b49 hE n K41 hK41 (fX12_left_L49 n K41 k) ih v1 v2 v3 σ h
def fX12_left_b41 (n : Nat) (K41 : Int32 → Int32 → Int32 → gM → Option (Int32 × gM)) (v1 : Int32) (v2 : Int32) (v3 : Int32) (σ : gM) : Option (Int32 × gM) := if (σ.1 0 13) ≤ v3 then (if v1 = 0 then (some (v2, σ)) else (some ((σ.1 11 427) - (σ.1 10 427), σ))) else (fX12_left_L49 n K41 n v1 v2 v3 σ)
set_option maxRecDepth 100000 in
theorem tX12_left_b41 (hE : gEM l dC dI ad ca X) {r0 : Int32} {σ' : gM} (n : Nat) (K41 : Int32 → Int32 → Int32 → gM → Option (Int32 × gM)) (hK41 : ∀ (v1 : Int32) (v2 : Int32) (v3 : Int32) (σ : gM), K41 v1 v2 v3 σ = some (r0, σ') → g_G l dC dI ad ca shM X cX12_left 4 RX12 (some .int) (gR 4) (some (.int r0)) σ' 41 [(0, .ref 0), (1, .int v1), (2, .int v2), (3, .int v3)] [] σ) (v1 : Int32) (v2 : Int32) (v3 : Int32)  (σ : gM) (h : fX12_left_b41 n K41 v1 v2 v3 σ = some (r0, σ')) : g_G l dC dI ad ca shM X cX12_left 4 RX12 (some .int) (gR 4) (some (.int r0)) σ' 41 [(0, .ref 0), (1, .int v1), (2, .int v2), (3, .int v3)] [] σ := by
  unfold fX12_left_b41 at h
  refine g_iload_n (pc := 41) dX12_left_41 rfl 3 rfl ?_
  refine g_aload_n (pc := 42) dX12_left_42 rfl 0 rfl ?_
  refine g_getI (pc := 43) wfX12_171 rfl rfl dX12_left_43 ?_
  refine g_icmp_ge (pc := 46) (tgt := 84) dX12_left_46 (by decide) (fun c20 => ?_) (fun c20 => ?_)
  · have h := g_ift c20 h
    refine g_iload_n (pc := 84) dX12_left_84 rfl 1 rfl ?_
    refine g_if_ne (pc := 85) (tgt := 92) dX12_left_85 (by decide) (fun c21 => ?_) (fun c21 => ?_)
    · have h := g_iff c21 h
      refine g_aload_n (pc := 92) dX12_left_92 rfl 0 rfl ?_
      refine g_getR (pc := 93) wfX12_41 rfl rfl dX12_left_93 ?_
      refine g_sipush (pc := 96) (v := 427) dX12_left_96 (by decide) ?_
      refine g_iald (pc := 99) rfl (by decide) (j := 427) (by decide) dX12_left_99 ?_
      refine g_aload_n (pc := 100) dX12_left_100 rfl 0 rfl ?_
      refine g_getR (pc := 101) wfX12_38 rfl rfl dX12_left_101 ?_
      refine g_sipush (pc := 104) (v := 427) dX12_left_104 (by decide) ?_
      refine g_iald (pc := 107) rfl (by decide) (j := 427) (by decide) dX12_left_107 ?_
      refine g_isub (pc := 108) dX12_left_108 ?_
      cases h
      exact g_iret (pc := 109) rfl rfl rfl rfl dX12_left_109
    · have h := g_ift c21 h
      refine g_iload_n (pc := 88) dX12_left_88 rfl 2 rfl ?_
      refine g_goto (pc := 89) (tgt := 109) dX12_left_89 (by decide) ?_
      cases h
      exact g_iret (pc := 109) rfl rfl rfl rfl dX12_left_109
  · have h := g_iff c20 h
    exact g_lv [0, 1, 2, 3] rfl (tX12_left_L49 hE n K41 hK41 n v1 v2 v3 σ h)
def fX12_left_L41 (n : Nat) : Nat → Int32 → Int32 → Int32 → gM → Option (Int32 × gM)
  | 0 => fun _ _ _ _ => none
  | k + 1 => fX12_left_b41 n (fX12_left_L41 n k)
theorem tX12_left_L41 (hE : gEM l dC dI ad ca X) {r0 : Int32} {σ' : gM} (n : Nat)  : ∀ (k : Nat) (v1 : Int32) (v2 : Int32) (v3 : Int32) (σ : gM), fX12_left_L41 n k v1 v2 v3 σ = some (r0, σ') → g_G l dC dI ad ca shM X cX12_left 4 RX12 (some .int) (gR 4) (some (.int r0)) σ' 41 [(0, .ref 0), (1, .int v1), (2, .int v2), (3, .int v3)] [] σ := by
  intro k
  induction k with
  | zero => intro v1 v2 v3 σ h; cases h
  | succ k ih => intro v1 v2 v3 σ h; exact tX12_left_b41 hE n (fX12_left_L41 n k) ih v1 v2 v3 σ h
def fX12_left (n : Nat) (v1 : Int32) (σ : gM) : Option (Int32 × gM) := g_let (g_put σ 0 0 0) (fun σ22 => if (σ22.1 0 14) = 0 then (some ((-1), σ22)) else (g_bI (fX12_isIn v1.toInt64 0 1 σ22) (fun r27 σ26 => if r27 = 0 then (some ((-1), σ26)) else (g_bV (fX12_copyRow n 10 616 11 616 0 0 σ26) (fun σ30 => fX12_left_L41 n n v1 0 0 σ30)))))
set_option maxRecDepth 100000 in
theorem kX12_left (hE : gEM l dC dI ad ca X) (n : Nat)  (v1 : Int32) (σ : gM) {r0 : Int32} {σ' : gM} (h : fX12_left n v1 σ = some (r0, σ')) : g_C l dC dI ad ca shM X yX12_left cX12_left 4 (some .int) (gR 4) [.ref 0, .int v1] σ (some (.int r0)) σ' := by
  refine g_entry (by decide +kernel) (Nat.le_of_ble_eq_true rfl) ?_
  refine g_lvE (lv1 := [(0, .ref 0), (1, .int v1)]) rfl ?_
  unfold fX12_left at h
  refine g_aload_n (pc := 0) dX12_left_0 rfl 0 rfl ?_
  refine g_iconst (pc := 1) (v := 0) dX12_left_1 (by decide) ?_
  obtain ⟨σ22, e23, h⟩ := g_ltd h
  refine g_putI (pc := 2) wfX12_57 rfl rfl rfl rfl e23 dX12_left_2 ?_
  refine g_aload_n (pc := 5) dX12_left_5 rfl 0 rfl ?_
  refine g_getI (pc := 6) wfX12_153 rfl rfl dX12_left_6 ?_
  refine g_if_eq (pc := 9) (tgt := 22) dX12_left_9 (by decide) (fun c24 => ?_) (fun c24 => ?_)
  · have h := g_ift c24 h
    refine g_iconst (pc := 22) (v := (-1)) dX12_left_22 (by decide) ?_
    cases h
    exact g_iret (pc := 23) rfl rfl rfl rfl dX12_left_23
  · have h := g_iff c24 h
    refine g_iload_n (pc := 12) dX12_left_12 rfl 1 rfl ?_
    refine g_i2l (pc := 13) dX12_left_13 ?_
    refine g_lconst (pc := 14) (v := 0) dX12_left_14 (by decide) ?_
    refine g_lconst (pc := 15) (v := 1) dX12_left_15 (by decide) ?_
    obtain ⟨r27, σ26, h25, h⟩ := g_bId h
    refine g_callSi (pc := 16) (st := []) hE.1 wsX12_117 (kX12_isIn hE v1.toInt64 0 1 σ22 h25) rfl (gR_ok (by decide) (by decide)) (Nat.le_of_ble_eq_true rfl) rfl dX12_left_16 ?_
    refine g_if_ne (pc := 19) (tgt := 24) dX12_left_19 (by decide) (fun c28 => ?_) (fun c28 => ?_)
    · have h := g_iff c28 h
      refine g_aload_n (pc := 24) dX12_left_24 rfl 0 rfl ?_
      refine g_getR (pc := 25) wfX12_38 rfl rfl dX12_left_25 ?_
      refine g_iconst (pc := 28) (v := 0) dX12_left_28 (by decide) ?_
      refine g_aload_n (pc := 29) dX12_left_29 rfl 0 rfl ?_
      refine g_getR (pc := 30) wfX12_41 rfl rfl dX12_left_30 ?_
      refine g_iconst (pc := 33) (v := 0) dX12_left_33 (by decide) ?_
      obtain ⟨σ30, h29, h⟩ := g_bVd h
      refine g_callSv (pc := 34) (st := []) hE.1 wsX12_349 (kX12_copyRow hE n 10 616 rfl 11 616 rfl 0 0 σ26 h29) rfl (gR_ok (by decide) (by decide)) (Nat.le_of_ble_eq_true rfl) rfl dX12_left_34 ?_
      refine g_iconst (pc := 37) (v := 0) dX12_left_37 (by decide) ?_
      refine g_istore_n (pc := 38) (lv1 := [(2, .int 0), (0, .ref 0), (1, .int v1)]) dX12_left_38 rfl (by decide) rfl ?_
      refine g_iconst (pc := 39) (v := 0) dX12_left_39 (by decide) ?_
      refine g_istore_n (pc := 40) (lv1 := [(3, .int 0), (2, .int 0), (0, .ref 0), (1, .int v1)]) dX12_left_40 rfl (by decide) rfl ?_
      exact g_lv [2, 3, 1, 0] rfl (tX12_left_L41 hE n n v1 0 0 σ30 h)
    · have h := g_ift c28 h
      refine g_iconst (pc := 22) (v := (-1)) dX12_left_22 (by decide) ?_
      cases h
      exact g_iret (pc := 23) rfl rfl rfl rfl dX12_left_23
def fX12_lostBits_b33 (n : Nat) (K4 : Int32 → Int32 → gM → Option (Int32 × gM)) (v2 : Int32) (s0 : Int32) (s1 : Int32) (σ : gM) : Option (Int32 × gM) := K4 (s1 ||| s0) (v2 + 1) σ
set_option maxRecDepth 100000 in
theorem tX12_lostBits_b33 (hE : gEM l dC dI ad ca X) {r0 : Int32} {σ' : gM} (n : Nat) (K4 : Int32 → Int32 → gM → Option (Int32 × gM)) (hK4 : ∀ (v1 : Int32) (v2 : Int32) (σ : gM), K4 v1 v2 σ = some (r0, σ') → g_G l dC dI ad ca shM X cX12_lostBits 3 RX12 (some .int) (gR 0) (some (.int r0)) σ' 4 [(0, .ref 0), (1, .int v1), (2, .int v2)] [] σ) (v2 : Int32) (s0 : Int32) (s1 : Int32)  (σ : gM) (h : fX12_lostBits_b33 n K4 v2 s0 s1 σ = some (r0, σ')) : g_G l dC dI ad ca shM X cX12_lostBits 3 RX12 (some .int) (gR 0) (some (.int r0)) σ' 33 [(0, .ref 0), (2, .int v2)] [.int s0, .int s1] σ := by
  unfold fX12_lostBits_b33 at h
  refine g_ior (pc := 33) dX12_lostBits_33 ?_
  refine g_istore_n (pc := 34) (lv1 := [(1, .int (s1 ||| s0)), (0, .ref 0), (2, .int v2)]) dX12_lostBits_34 rfl (by decide) rfl ?_
  refine g_iinc (pc := 35) (v := v2 + 1) (lv1 := [(2, .int (v2 + 1)), (1, .int (s1 ||| s0)), (0, .ref 0)]) dX12_lostBits_35 2 rfl rfl (by decide) rfl ?_
  refine g_goto (pc := 38) (tgt := 4) dX12_lostBits_38 (by decide) ?_
  exact g_lv [2, 1, 0] rfl (hK4 (s1 ||| s0) (v2 + 1) σ h)
def fX12_lostBits_b4 (n : Nat) (K4 : Int32 → Int32 → gM → Option (Int32 × gM)) (v1 : Int32) (v2 : Int32) (σ : gM) : Option (Int32 × gM) := if (σ.1 0 13) ≤ v2 then (some (v1, σ)) else (if ¬ ((384 + v2) < 0 ∨ 616 ≤ (384 + v2).toNatClampNeg) then (if (σ.1 10 ((384 + v2).toNatClampNeg)) = 0 then (fX12_lostBits_b33 n K4 v2 0 v1 σ) else (fX12_lostBits_b33 n K4 v2 (1 <<< (v2 &&& 31)) v1 σ)) else none)
set_option maxRecDepth 100000 in
theorem tX12_lostBits_b4 (hE : gEM l dC dI ad ca X) {r0 : Int32} {σ' : gM} (n : Nat) (K4 : Int32 → Int32 → gM → Option (Int32 × gM)) (hK4 : ∀ (v1 : Int32) (v2 : Int32) (σ : gM), K4 v1 v2 σ = some (r0, σ') → g_G l dC dI ad ca shM X cX12_lostBits 3 RX12 (some .int) (gR 0) (some (.int r0)) σ' 4 [(0, .ref 0), (1, .int v1), (2, .int v2)] [] σ) (v1 : Int32) (v2 : Int32)  (σ : gM) (h : fX12_lostBits_b4 n K4 v1 v2 σ = some (r0, σ')) : g_G l dC dI ad ca shM X cX12_lostBits 3 RX12 (some .int) (gR 0) (some (.int r0)) σ' 4 [(0, .ref 0), (1, .int v1), (2, .int v2)] [] σ := by
  unfold fX12_lostBits_b4 at h
  refine g_iload_n (pc := 4) dX12_lostBits_4 rfl 2 rfl ?_
  refine g_aload_n (pc := 5) dX12_lostBits_5 rfl 0 rfl ?_
  refine g_getI (pc := 6) wfX12_171 rfl rfl dX12_lostBits_6 ?_
  refine g_icmp_ge (pc := 9) (tgt := 41) dX12_lostBits_9 (by decide) (fun c4 => ?_) (fun c4 => ?_)
  · have h := g_ift c4 h
    refine g_iload_n (pc := 41) dX12_lostBits_41 rfl 1 rfl ?_
    cases h
    exact g_iret (pc := 42) rfl rfl rfl rfl dX12_lostBits_42
  · have h := g_iff c4 h
    refine g_iload_n (pc := 12) dX12_lostBits_12 rfl 1 rfl ?_
    refine g_aload_n (pc := 13) dX12_lostBits_13 rfl 0 rfl ?_
    refine g_getR (pc := 14) wfX12_38 rfl rfl dX12_lostBits_14 ?_
    refine g_sipush (pc := 17) (v := 384) dX12_lostBits_17 (by decide) ?_
    refine g_iload_n (pc := 20) dX12_lostBits_20 rfl 2 rfl ?_
    refine g_iadd (pc := 21) dX12_lostBits_21 ?_
    obtain ⟨c5, h⟩ := g_gd h
    refine g_iald (pc := 22) rfl c5 rfl dX12_lostBits_22 ?_
    refine g_if_ne (pc := 23) (tgt := 30) dX12_lostBits_23 (by decide) (fun c6 => ?_) (fun c6 => ?_)
    · have h := g_iff c6 h
      refine g_iconst (pc := 30) (v := 1) dX12_lostBits_30 (by decide) ?_
      refine g_iload_n (pc := 31) dX12_lostBits_31 rfl 2 rfl ?_
      refine g_ishl (pc := 32) dX12_lostBits_32 ?_
      exact g_lv [0, 2] rfl (tX12_lostBits_b33 hE n K4 hK4 v2 (1 <<< (v2 &&& 31)) v1 σ h)
    · have h := g_ift c6 h
      refine g_iconst (pc := 26) (v := 0) dX12_lostBits_26 (by decide) ?_
      refine g_goto (pc := 27) (tgt := 33) dX12_lostBits_27 (by decide) ?_
      exact g_lv [0, 2] rfl (tX12_lostBits_b33 hE n K4 hK4 v2 0 v1 σ h)
def fX12_lostBits_L4 (n : Nat) : Nat → Int32 → Int32 → gM → Option (Int32 × gM)
  | 0 => fun _ _ _ => none
  | k + 1 => fX12_lostBits_b4 n (fX12_lostBits_L4 n k)
theorem tX12_lostBits_L4 (hE : gEM l dC dI ad ca X) {r0 : Int32} {σ' : gM} (n : Nat)  : ∀ (k : Nat) (v1 : Int32) (v2 : Int32) (σ : gM), fX12_lostBits_L4 n k v1 v2 σ = some (r0, σ') → g_G l dC dI ad ca shM X cX12_lostBits 3 RX12 (some .int) (gR 0) (some (.int r0)) σ' 4 [(0, .ref 0), (1, .int v1), (2, .int v2)] [] σ := by
  intro k
  induction k with
  | zero => intro v1 v2 σ h; cases h
  | succ k ih => intro v1 v2 σ h; exact tX12_lostBits_b4 hE n (fX12_lostBits_L4 n k) ih v1 v2 σ h
def fX12_lostBits (n : Nat) (σ : gM) : Option (Int32 × gM) := fX12_lostBits_L4 n n 0 0 σ
set_option maxRecDepth 100000 in
theorem kX12_lostBits (hE : gEM l dC dI ad ca X) (n : Nat)  (σ : gM) {r0 : Int32} {σ' : gM} (h : fX12_lostBits n σ = some (r0, σ')) : g_C l dC dI ad ca shM X yX12_lostBits cX12_lostBits 3 (some .int) (gR 0) [.ref 0] σ (some (.int r0)) σ' := by
  refine g_entry (by decide +kernel) (Nat.le_of_ble_eq_true rfl) ?_
  refine g_lvE (lv1 := [(0, .ref 0)]) rfl ?_
  unfold fX12_lostBits at h
  refine g_iconst (pc := 0) (v := 0) dX12_lostBits_0 (by decide) ?_
  refine g_istore_n (pc := 1) (lv1 := [(1, .int 0), (0, .ref 0)]) dX12_lostBits_1 rfl (by decide) rfl ?_
  refine g_iconst (pc := 2) (v := 0) dX12_lostBits_2 (by decide) ?_
  refine g_istore_n (pc := 3) (lv1 := [(2, .int 0), (1, .int 0), (0, .ref 0)]) dX12_lostBits_3 rfl (by decide) rfl ?_
  exact g_lv [2, 1, 0] rfl (tX12_lostBits_L4 hE n n 0 0 σ h)
def fX12_risk_b88 (n : Nat) (K18 : Int32 → Int32 → gM → Option (Int32 × gM)) (K30 : Int32 → Int32 → Int32 → gM → Option (Int32 × gM)) (v1 : Int32) (v2 : Int32) (v3 : Int32) (σ : gM) : Option (Int32 × gM) := K30 v1 v2 (v3 + 1) σ
set_option maxRecDepth 100000 in
theorem tX12_risk_b88 (hE : gEM l dC dI ad ca X) {r0 : Int32} {σ' : gM} (n : Nat) (K18 : Int32 → Int32 → gM → Option (Int32 × gM)) (hK18 : ∀ (v1 : Int32) (v2 : Int32) (σ : gM), K18 v1 v2 σ = some (r0, σ') → g_G l dC dI ad ca shM X cX12_risk 4 RX12 (some .int) (gR 1) (some (.int r0)) σ' 18 [(0, .ref 0), (1, .int v1), (2, .int v2)] [] σ) (K30 : Int32 → Int32 → Int32 → gM → Option (Int32 × gM)) (hK30 : ∀ (v1 : Int32) (v2 : Int32) (v3 : Int32) (σ : gM), K30 v1 v2 v3 σ = some (r0, σ') → g_G l dC dI ad ca shM X cX12_risk 4 RX12 (some .int) (gR 1) (some (.int r0)) σ' 30 [(0, .ref 0), (1, .int v1), (2, .int v2), (3, .int v3)] [] σ) (v1 : Int32) (v2 : Int32) (v3 : Int32)  (σ : gM) (h : fX12_risk_b88 n K18 K30 v1 v2 v3 σ = some (r0, σ')) : g_G l dC dI ad ca shM X cX12_risk 4 RX12 (some .int) (gR 1) (some (.int r0)) σ' 88 [(0, .ref 0), (1, .int v1), (2, .int v2), (3, .int v3)] [] σ := by
  unfold fX12_risk_b88 at h
  refine g_iinc (pc := 88) (v := v3 + 1) (lv1 := [(3, .int (v3 + 1)), (0, .ref 0), (1, .int v1), (2, .int v2)]) dX12_risk_88 3 rfl rfl (by decide) rfl ?_
  refine g_goto (pc := 91) (tgt := 30) dX12_risk_91 (by decide) ?_
  exact g_lv [1, 2, 3, 0] rfl (hK30 v1 v2 (v3 + 1) σ h)
def fX12_risk_b30 (n : Nat) (K18 : Int32 → Int32 → gM → Option (Int32 × gM)) (K30 : Int32 → Int32 → Int32 → gM → Option (Int32 × gM)) (v1 : Int32) (v2 : Int32) (v3 : Int32) (σ : gM) : Option (Int32 × gM) := if (σ.1 0 13) ≤ v3 then (K18 v1 (v2 + 1) σ) else (if ¬ ((384 + v2) < 0 ∨ 616 ≤ (384 + v2).toNatClampNeg) then (if (σ.1 10 ((384 + v2).toNatClampNeg)) = 1 then (fX12_risk_b88 n K18 K30 v1 v2 v3 σ) else (if ¬ ((384 + v3) < 0 ∨ 616 ≤ (384 + v3).toNatClampNeg) then (if (σ.1 10 ((384 + v3).toNatClampNeg)) = 1 then (fX12_risk_b88 n K18 K30 v1 v2 v3 σ) else (g_bI (fX12_lostBits n σ) (fun r24 σ23 => g_bI (fX12_bitsOf n ((r24 ||| (1 <<< (v2 &&& 31))) ||| (1 <<< (v3 &&& 31))) σ23) (fun r27 σ26 => if 2 < r27 then (fX12_risk_b88 n K18 K30 v1 v2 v3 σ26) else (fX12_risk_b88 n K18 K30 (v1 + 1) v2 v3 σ26))))) else none)) else none)
set_option maxRecDepth 100000 in
theorem tX12_risk_b30 (hE : gEM l dC dI ad ca X) {r0 : Int32} {σ' : gM} (n : Nat) (K18 : Int32 → Int32 → gM → Option (Int32 × gM)) (hK18 : ∀ (v1 : Int32) (v2 : Int32) (σ : gM), K18 v1 v2 σ = some (r0, σ') → g_G l dC dI ad ca shM X cX12_risk 4 RX12 (some .int) (gR 1) (some (.int r0)) σ' 18 [(0, .ref 0), (1, .int v1), (2, .int v2)] [] σ) (K30 : Int32 → Int32 → Int32 → gM → Option (Int32 × gM)) (hK30 : ∀ (v1 : Int32) (v2 : Int32) (v3 : Int32) (σ : gM), K30 v1 v2 v3 σ = some (r0, σ') → g_G l dC dI ad ca shM X cX12_risk 4 RX12 (some .int) (gR 1) (some (.int r0)) σ' 30 [(0, .ref 0), (1, .int v1), (2, .int v2), (3, .int v3)] [] σ) (v1 : Int32) (v2 : Int32) (v3 : Int32)  (σ : gM) (h : fX12_risk_b30 n K18 K30 v1 v2 v3 σ = some (r0, σ')) : g_G l dC dI ad ca shM X cX12_risk 4 RX12 (some .int) (gR 1) (some (.int r0)) σ' 30 [(0, .ref 0), (1, .int v1), (2, .int v2), (3, .int v3)] [] σ := by
  unfold fX12_risk_b30 at h
  refine g_iload_n (pc := 30) dX12_risk_30 rfl 3 rfl ?_
  refine g_aload_n (pc := 31) dX12_risk_31 rfl 0 rfl ?_
  refine g_getI (pc := 32) wfX12_171 rfl rfl dX12_risk_32 ?_
  refine g_icmp_ge (pc := 35) (tgt := 94) dX12_risk_35 (by decide) (fun c17 => ?_) (fun c17 => ?_)
  · have h := g_ift c17 h
    refine g_iinc (pc := 94) (v := v2 + 1) (lv1 := [(2, .int (v2 + 1)), (0, .ref 0), (1, .int v1), (3, .int v3)]) dX12_risk_94 2 rfl rfl (by decide) rfl ?_
    refine g_goto (pc := 97) (tgt := 18) dX12_risk_97 (by decide) ?_
    exact g_lv [1, 2, 0] rfl (hK18 v1 (v2 + 1) σ h)
  · have h := g_iff c17 h
    refine g_aload_n (pc := 38) dX12_risk_38 rfl 0 rfl ?_
    refine g_getR (pc := 39) wfX12_38 rfl rfl dX12_risk_39 ?_
    refine g_sipush (pc := 42) (v := 384) dX12_risk_42 (by decide) ?_
    refine g_iload_n (pc := 45) dX12_risk_45 rfl 2 rfl ?_
    refine g_iadd (pc := 46) dX12_risk_46 ?_
    obtain ⟨c18, h⟩ := g_gd h
    refine g_iald (pc := 47) rfl c18 rfl dX12_risk_47 ?_
    refine g_iconst (pc := 48) (v := 1) dX12_risk_48 (by decide) ?_
    refine g_icmp_eq (pc := 49) (tgt := 88) dX12_risk_49 (by decide) (fun c19 => ?_) (fun c19 => ?_)
    · have h := g_ift c19 h
      exact g_lv [0, 1, 2, 3] rfl (tX12_risk_b88 hE n K18 hK18 K30 hK30 v1 v2 v3 σ h)
    · have h := g_iff c19 h
      refine g_aload_n (pc := 52) dX12_risk_52 rfl 0 rfl ?_
      refine g_getR (pc := 53) wfX12_38 rfl rfl dX12_risk_53 ?_
      refine g_sipush (pc := 56) (v := 384) dX12_risk_56 (by decide) ?_
      refine g_iload_n (pc := 59) dX12_risk_59 rfl 3 rfl ?_
      refine g_iadd (pc := 60) dX12_risk_60 ?_
      obtain ⟨c20, h⟩ := g_gd h
      refine g_iald (pc := 61) rfl c20 rfl dX12_risk_61 ?_
      refine g_iconst (pc := 62) (v := 1) dX12_risk_62 (by decide) ?_
      refine g_icmp_eq (pc := 63) (tgt := 88) dX12_risk_63 (by decide) (fun c21 => ?_) (fun c21 => ?_)
      · have h := g_ift c21 h
        exact g_lv [0, 1, 2, 3] rfl (tX12_risk_b88 hE n K18 hK18 K30 hK30 v1 v2 v3 σ h)
      · have h := g_iff c21 h
        refine g_aload_n (pc := 66) dX12_risk_66 rfl 0 rfl ?_
        obtain ⟨r24, σ23, h22, h⟩ := g_bId h
        refine g_callVi (pc := 67) (st := []) hE.1 wvX12_394 rfl rfl (kX12_lostBits hE n σ h22) rfl (gR_ok (by decide) (by decide)) (Nat.le_of_ble_eq_true rfl) rfl dX12_risk_67 ?_
        refine g_iconst (pc := 70) (v := 1) dX12_risk_70 (by decide) ?_
        refine g_iload_n (pc := 71) dX12_risk_71 rfl 2 rfl ?_
        refine g_ishl (pc := 72) dX12_risk_72 ?_
        refine g_ior (pc := 73) dX12_risk_73 ?_
        refine g_iconst (pc := 74) (v := 1) dX12_risk_74 (by decide) ?_
        refine g_iload_n (pc := 75) dX12_risk_75 rfl 3 rfl ?_
        refine g_ishl (pc := 76) dX12_risk_76 ?_
        refine g_ior (pc := 77) dX12_risk_77 ?_
        obtain ⟨r27, σ26, h25, h⟩ := g_bId h
        refine g_callSi (pc := 78) (st := []) hE.1 wsX12_330 (kX12_bitsOf hE n ((r24 ||| (1 <<< (v2 &&& 31))) ||| (1 <<< (v3 &&& 31))) σ23 h25) rfl (gR_ok (by decide) (by decide)) (Nat.le_of_ble_eq_true rfl) rfl dX12_risk_78 ?_
        refine g_iconst (pc := 81) (v := 2) dX12_risk_81 (by decide) ?_
        refine g_icmp_gt (pc := 82) (tgt := 88) dX12_risk_82 (by decide) (fun c28 => ?_) (fun c28 => ?_)
        · have h := g_ift c28 h
          exact g_lv [0, 1, 2, 3] rfl (tX12_risk_b88 hE n K18 hK18 K30 hK30 v1 v2 v3 σ26 h)
        · have h := g_iff c28 h
          refine g_iinc (pc := 85) (v := v1 + 1) (lv1 := [(1, .int (v1 + 1)), (0, .ref 0), (2, .int v2), (3, .int v3)]) dX12_risk_85 1 rfl rfl (by decide) rfl ?_
          exact g_lv [1, 0, 2, 3] rfl (tX12_risk_b88 hE n K18 hK18 K30 hK30 (v1 + 1) v2 v3 σ26 h)
def fX12_risk_L30 (n : Nat) (K18 : Int32 → Int32 → gM → Option (Int32 × gM)) : Nat → Int32 → Int32 → Int32 → gM → Option (Int32 × gM)
  | 0 => fun _ _ _ _ => none
  | k + 1 => fX12_risk_b30 n K18 (fX12_risk_L30 n K18 k)
theorem tX12_risk_L30 (hE : gEM l dC dI ad ca X) {r0 : Int32} {σ' : gM} (n : Nat) (K18 : Int32 → Int32 → gM → Option (Int32 × gM)) (hK18 : ∀ (v1 : Int32) (v2 : Int32) (σ : gM), K18 v1 v2 σ = some (r0, σ') → g_G l dC dI ad ca shM X cX12_risk 4 RX12 (some .int) (gR 1) (some (.int r0)) σ' 18 [(0, .ref 0), (1, .int v1), (2, .int v2)] [] σ)  : ∀ (k : Nat) (v1 : Int32) (v2 : Int32) (v3 : Int32) (σ : gM), fX12_risk_L30 n K18 k v1 v2 v3 σ = some (r0, σ') → g_G l dC dI ad ca shM X cX12_risk 4 RX12 (some .int) (gR 1) (some (.int r0)) σ' 30 [(0, .ref 0), (1, .int v1), (2, .int v2), (3, .int v3)] [] σ := by
  intro k
  induction k with
  | zero => intro v1 v2 v3 σ h; cases h
  | succ k ih => intro v1 v2 v3 σ h; exact tX12_risk_b30 hE n K18 hK18 (fX12_risk_L30 n K18 k) ih v1 v2 v3 σ h
def fX12_risk_b18 (n : Nat) (K18 : Int32 → Int32 → gM → Option (Int32 × gM)) (v1 : Int32) (v2 : Int32) (σ : gM) : Option (Int32 × gM) := if (σ.1 0 13) ≤ v2 then (some (v1, σ)) else (fX12_risk_L30 n K18 n v1 v2 (v2 + 1) σ)
set_option maxRecDepth 100000 in
theorem tX12_risk_b18 (hE : gEM l dC dI ad ca X) {r0 : Int32} {σ' : gM} (n : Nat) (K18 : Int32 → Int32 → gM → Option (Int32 × gM)) (hK18 : ∀ (v1 : Int32) (v2 : Int32) (σ : gM), K18 v1 v2 σ = some (r0, σ') → g_G l dC dI ad ca shM X cX12_risk 4 RX12 (some .int) (gR 1) (some (.int r0)) σ' 18 [(0, .ref 0), (1, .int v1), (2, .int v2)] [] σ) (v1 : Int32) (v2 : Int32)  (σ : gM) (h : fX12_risk_b18 n K18 v1 v2 σ = some (r0, σ')) : g_G l dC dI ad ca shM X cX12_risk 4 RX12 (some .int) (gR 1) (some (.int r0)) σ' 18 [(0, .ref 0), (1, .int v1), (2, .int v2)] [] σ := by
  unfold fX12_risk_b18 at h
  refine g_iload_n (pc := 18) dX12_risk_18 rfl 2 rfl ?_
  refine g_aload_n (pc := 19) dX12_risk_19 rfl 0 rfl ?_
  refine g_getI (pc := 20) wfX12_171 rfl rfl dX12_risk_20 ?_
  refine g_icmp_ge (pc := 23) (tgt := 100) dX12_risk_23 (by decide) (fun c29 => ?_) (fun c29 => ?_)
  · have h := g_ift c29 h
    refine g_iload_n (pc := 100) dX12_risk_100 rfl 1 rfl ?_
    cases h
    exact g_iret (pc := 101) rfl rfl rfl rfl dX12_risk_101
  · have h := g_iff c29 h
    refine g_iload_n (pc := 26) dX12_risk_26 rfl 2 rfl ?_
    refine g_iconst (pc := 27) (v := 1) dX12_risk_27 (by decide) ?_
    refine g_iadd (pc := 28) dX12_risk_28 ?_
    refine g_istore_n (pc := 29) (lv1 := [(3, .int (v2 + 1)), (0, .ref 0), (1, .int v1), (2, .int v2)]) dX12_risk_29 rfl (by decide) rfl ?_
    exact g_lv [1, 2, 3, 0] rfl (tX12_risk_L30 hE n K18 hK18 n v1 v2 (v2 + 1) σ h)
def fX12_risk_L18 (n : Nat) : Nat → Int32 → Int32 → gM → Option (Int32 × gM)
  | 0 => fun _ _ _ => none
  | k + 1 => fX12_risk_b18 n (fX12_risk_L18 n k)
theorem tX12_risk_L18 (hE : gEM l dC dI ad ca X) {r0 : Int32} {σ' : gM} (n : Nat)  : ∀ (k : Nat) (v1 : Int32) (v2 : Int32) (σ : gM), fX12_risk_L18 n k v1 v2 σ = some (r0, σ') → g_G l dC dI ad ca shM X cX12_risk 4 RX12 (some .int) (gR 1) (some (.int r0)) σ' 18 [(0, .ref 0), (1, .int v1), (2, .int v2)] [] σ := by
  intro k
  induction k with
  | zero => intro v1 v2 σ h; cases h
  | succ k ih => intro v1 v2 σ h; exact tX12_risk_b18 hE n (fX12_risk_L18 n k) ih v1 v2 σ h
def fX12_risk (n : Nat) (σ : gM) : Option (Int32 × gM) := g_let (g_put σ 0 0 0) (fun σ30 => if (σ30.1 0 14) = 0 then (some ((-1), σ30)) else (fX12_risk_L18 n n 0 0 σ30))
set_option maxRecDepth 100000 in
theorem kX12_risk (hE : gEM l dC dI ad ca X) (n : Nat)  (σ : gM) {r0 : Int32} {σ' : gM} (h : fX12_risk n σ = some (r0, σ')) : g_C l dC dI ad ca shM X yX12_risk cX12_risk 4 (some .int) (gR 1) [.ref 0] σ (some (.int r0)) σ' := by
  refine g_entry (by decide +kernel) (Nat.le_of_ble_eq_true rfl) ?_
  refine g_lvE (lv1 := [(0, .ref 0)]) rfl ?_
  unfold fX12_risk at h
  refine g_aload_n (pc := 0) dX12_risk_0 rfl 0 rfl ?_
  refine g_iconst (pc := 1) (v := 0) dX12_risk_1 (by decide) ?_
  obtain ⟨σ30, e31, h⟩ := g_ltd h
  refine g_putI (pc := 2) wfX12_57 rfl rfl rfl rfl e31 dX12_risk_2 ?_
  refine g_aload_n (pc := 5) dX12_risk_5 rfl 0 rfl ?_
  refine g_getI (pc := 6) wfX12_153 rfl rfl dX12_risk_6 ?_
  refine g_if_ne (pc := 9) (tgt := 14) dX12_risk_9 (by decide) (fun c32 => ?_) (fun c32 => ?_)
  · have h := g_iff c32 h
    refine g_iconst (pc := 14) (v := 0) dX12_risk_14 (by decide) ?_
    refine g_istore_n (pc := 15) (lv1 := [(1, .int 0), (0, .ref 0)]) dX12_risk_15 rfl (by decide) rfl ?_
    refine g_iconst (pc := 16) (v := 0) dX12_risk_16 (by decide) ?_
    refine g_istore_n (pc := 17) (lv1 := [(2, .int 0), (1, .int 0), (0, .ref 0)]) dX12_risk_17 rfl (by decide) rfl ?_
    exact g_lv [2, 1, 0] rfl (tX12_risk_L18 hE n n 0 0 σ30 h)
  · have h := g_ift c32 h
    refine g_iconst (pc := 12) (v := (-1)) dX12_risk_12 (by decide) ?_
    cases h
    exact g_iret (pc := 13) rfl rfl rfl rfl dX12_risk_13
def fX12_first_b82 (n : Nat) (K30 : Int32 → Int32 → Int32 → gM → Option (Int32 × gM)) (v1 : Int32) (v2 : Int32) (v3 : Int32) (σ : gM) : Option (Int32 × gM) := K30 v1 v2 (v3 + 1) σ
set_option maxRecDepth 100000 in
theorem tX12_first_b82 (hE : gEM l dC dI ad ca X) {r0 : Int32} {σ' : gM} (n : Nat) (K30 : Int32 → Int32 → Int32 → gM → Option (Int32 × gM)) (hK30 : ∀ (v1 : Int32) (v2 : Int32) (v3 : Int32) (σ : gM), K30 v1 v2 v3 σ = some (r0, σ') → g_G l dC dI ad ca shM X cX12_first 4 RX12 (some .int) (gR 4) (some (.int r0)) σ' 30 [(0, .ref 0), (1, .int v1), (2, .int v2), (3, .int v3)] [] σ) (v1 : Int32) (v2 : Int32) (v3 : Int32)  (σ : gM) (h : fX12_first_b82 n K30 v1 v2 v3 σ = some (r0, σ')) : g_G l dC dI ad ca shM X cX12_first 4 RX12 (some .int) (gR 4) (some (.int r0)) σ' 82 [(0, .ref 0), (1, .int v1), (2, .int v2), (3, .int v3)] [] σ := by
  unfold fX12_first_b82 at h
  refine g_iinc (pc := 82) (v := v3 + 1) (lv1 := [(3, .int (v3 + 1)), (0, .ref 0), (1, .int v1), (2, .int v2)]) dX12_first_82 3 rfl rfl (by decide) rfl ?_
  refine g_goto (pc := 85) (tgt := 30) dX12_first_85 (by decide) ?_
  exact g_lv [1, 2, 3, 0] rfl (hK30 v1 v2 (v3 + 1) σ h)
def fX12_first_b80 (n : Nat) (K30 : Int32 → Int32 → Int32 → gM → Option (Int32 × gM)) (v1 : Int32) (v3 : Int32) (σ : gM) : Option (Int32 × gM) := fX12_first_b82 n K30 v1 v3 v3 σ
set_option maxRecDepth 100000 in
theorem tX12_first_b80 (hE : gEM l dC dI ad ca X) {r0 : Int32} {σ' : gM} (n : Nat) (K30 : Int32 → Int32 → Int32 → gM → Option (Int32 × gM)) (hK30 : ∀ (v1 : Int32) (v2 : Int32) (v3 : Int32) (σ : gM), K30 v1 v2 v3 σ = some (r0, σ') → g_G l dC dI ad ca shM X cX12_first 4 RX12 (some .int) (gR 4) (some (.int r0)) σ' 30 [(0, .ref 0), (1, .int v1), (2, .int v2), (3, .int v3)] [] σ) (v1 : Int32) (v3 : Int32)  (σ : gM) (h : fX12_first_b80 n K30 v1 v3 σ = some (r0, σ')) : g_G l dC dI ad ca shM X cX12_first 4 RX12 (some .int) (gR 4) (some (.int r0)) σ' 80 [(0, .ref 0), (1, .int v1), (3, .int v3)] [] σ := by
  unfold fX12_first_b80 at h
  refine g_iload_n (pc := 80) dX12_first_80 rfl 2 rfl ?_
  refine g_istore_n (pc := 81) (lv1 := [(2, .int v3), (0, .ref 0), (1, .int v1), (3, .int v3)]) dX12_first_81 rfl (by decide) rfl ?_
  exact g_lv [1, 2, 0, 3] rfl (tX12_first_b82 hE n K30 hK30 v1 v3 v3 σ h)
def fX12_first_b97 (n : Nat) (v2 : Int32) (σ : gM) : Option (Int32 × gM) := some (v2, σ)
set_option maxRecDepth 100000 in
theorem tX12_first_b97 (hE : gEM l dC dI ad ca X) {r0 : Int32} {σ' : gM} (n : Nat) (v2 : Int32)  (σ : gM) (h : fX12_first_b97 n v2 σ = some (r0, σ')) : g_G l dC dI ad ca shM X cX12_first 4 RX12 (some .int) (gR 4) (some (.int r0)) σ' 97 [(2, .int v2)] [] σ := by
  unfold fX12_first_b97 at h
  refine g_iload_n (pc := 97) dX12_first_97 rfl 0 rfl ?_
  cases h
  exact g_iret (pc := 98) rfl rfl rfl rfl dX12_first_98
def fX12_first_b135 (n : Nat) (K135 : Int32 → gM → Option (Int32 × gM)) (v2 : Int32) (σ : gM) : Option (Int32 × gM) := if ¬ ((384 + v2) < 0 ∨ 616 ≤ (384 + v2).toNatClampNeg) then (if (σ.1 11 ((384 + v2).toNatClampNeg)) = 2 then (g_bV (fX12_rebuilds n 11 v2 σ) (fun σ28 => K135 v2 σ28)) else (some ((σ.1 11 427) - (σ.1 10 427), σ))) else none
set_option maxRecDepth 100000 in
theorem tX12_first_b135 (hE : gEM l dC dI ad ca X) {r0 : Int32} {σ' : gM} (n : Nat) (K135 : Int32 → gM → Option (Int32 × gM)) (hK135 : ∀ (v2 : Int32) (σ : gM), K135 v2 σ = some (r0, σ') → g_G l dC dI ad ca shM X cX12_first 4 RX12 (some .int) (gR 4) (some (.int r0)) σ' 135 [(0, .ref 0), (2, .int v2)] [] σ) (v2 : Int32)  (σ : gM) (h : fX12_first_b135 n K135 v2 σ = some (r0, σ')) : g_G l dC dI ad ca shM X cX12_first 4 RX12 (some .int) (gR 4) (some (.int r0)) σ' 135 [(0, .ref 0), (2, .int v2)] [] σ := by
  unfold fX12_first_b135 at h
  refine g_aload_n (pc := 135) dX12_first_135 rfl 0 rfl ?_
  refine g_getR (pc := 136) wfX12_41 rfl rfl dX12_first_136 ?_
  refine g_sipush (pc := 139) (v := 384) dX12_first_139 (by decide) ?_
  refine g_iload_n (pc := 142) dX12_first_142 rfl 1 rfl ?_
  refine g_iadd (pc := 143) dX12_first_143 ?_
  obtain ⟨c25, h⟩ := g_gd h
  refine g_iald (pc := 144) rfl c25 rfl dX12_first_144 ?_
  refine g_iconst (pc := 145) (v := 2) dX12_first_145 (by decide) ?_
  refine g_icmp_ne (pc := 146) (tgt := 161) dX12_first_146 (by decide) (fun c26 => ?_) (fun c26 => ?_)
  · have h := g_iff c26 h
    refine g_aload_n (pc := 161) dX12_first_161 rfl 0 rfl ?_
    refine g_getR (pc := 162) wfX12_41 rfl rfl dX12_first_162 ?_
    refine g_sipush (pc := 165) (v := 427) dX12_first_165 (by decide) ?_
    refine g_iald (pc := 168) rfl (by decide) (j := 427) (by decide) dX12_first_168 ?_
    refine g_aload_n (pc := 169) dX12_first_169 rfl 0 rfl ?_
    refine g_getR (pc := 170) wfX12_38 rfl rfl dX12_first_170 ?_
    refine g_sipush (pc := 173) (v := 427) dX12_first_173 (by decide) ?_
    refine g_iald (pc := 176) rfl (by decide) (j := 427) (by decide) dX12_first_176 ?_
    refine g_isub (pc := 177) dX12_first_177 ?_
    cases h
    exact g_iret (pc := 178) rfl rfl rfl rfl dX12_first_178
  · have h := g_ift c26 h
    refine g_aload_n (pc := 149) dX12_first_149 rfl 0 rfl ?_
    refine g_aload_n (pc := 150) dX12_first_150 rfl 0 rfl ?_
    refine g_getR (pc := 151) wfX12_41 rfl rfl dX12_first_151 ?_
    refine g_iload_n (pc := 154) dX12_first_154 rfl 1 rfl ?_
    obtain ⟨σ28, h27, h⟩ := g_bVd h
    refine g_callVv (pc := 155) (st := []) hE.1 wvX12_320 rfl rfl (kX12_rebuilds hE n 11 rfl v2 σ h27) rfl (gR_ok (by decide) (by decide)) (Nat.le_of_ble_eq_true rfl) rfl dX12_first_155 ?_
    refine g_goto (pc := 158) (tgt := 135) dX12_first_158 (by decide) ?_
    exact g_lv [0, 1] rfl (hK135 v2 σ28 h)
def fX12_first_L135 (n : Nat) : Nat → Int32 → gM → Option (Int32 × gM)
  | 0 => fun _ _ => none
  | k + 1 => fX12_first_b135 n (fX12_first_L135 n k)
theorem tX12_first_L135 (hE : gEM l dC dI ad ca X) {r0 : Int32} {σ' : gM} (n : Nat)  : ∀ (k : Nat) (v2 : Int32) (σ : gM), fX12_first_L135 n k v2 σ = some (r0, σ') → g_G l dC dI ad ca shM X cX12_first 4 RX12 (some .int) (gR 4) (some (.int r0)) σ' 135 [(0, .ref 0), (2, .int v2)] [] σ := by
  intro k
  induction k with
  | zero => intro v2 σ h; cases h
  | succ k ih => intro v2 σ h; exact tX12_first_b135 hE n (fX12_first_L135 n k) ih v2 σ h
def fX12_first_b30 (n : Nat) (K30 : Int32 → Int32 → Int32 → gM → Option (Int32 × gM)) (v1 : Int32) (v2 : Int32) (v3 : Int32) (σ : gM) : Option (Int32 × gM) := if (σ.1 0 13) ≤ v3 then (if v2 = (-1) then (fX12_first_b97 n v2 σ) else (if v1 = 0 then (fX12_first_b97 n v2 σ) else (if v1 = 1 then (if ¬ ((392 + v2) < 0 ∨ 616 ≤ (392 + v2).toNatClampNeg) then (some ((σ.1 3 1) - (σ.1 10 ((392 + v2).toNatClampNeg)), σ)) else none) else (g_bV (fX12_copyRow n 10 616 11 616 0 0 σ) (fun σ34 => fX12_first_L135 n n v2 σ34))))) else (if ¬ ((384 + v3) < 0 ∨ 616 ≤ (384 + v3).toNatClampNeg) then (if (σ.1 10 ((384 + v3).toNatClampNeg)) = 2 then (if v2 = (-1) then (fX12_first_b80 n K30 v1 v3 σ) else (if ¬ ((392 + v3) < 0 ∨ 616 ≤ (392 + v3).toNatClampNeg) then (if ¬ ((392 + v2) < 0 ∨ 616 ≤ (392 + v2).toNatClampNeg) then (if (σ.1 10 ((392 + v3).toNatClampNeg)) ≤ (σ.1 10 ((392 + v2).toNatClampNeg)) then (fX12_first_b82 n K30 v1 v2 v3 σ) else (fX12_first_b80 n K30 v1 v3 σ)) else none) else none)) else (fX12_first_b82 n K30 v1 v2 v3 σ)) else none)
set_option maxRecDepth 100000 in
theorem tX12_first_b30 (hE : gEM l dC dI ad ca X) {r0 : Int32} {σ' : gM} (n : Nat) (K30 : Int32 → Int32 → Int32 → gM → Option (Int32 × gM)) (hK30 : ∀ (v1 : Int32) (v2 : Int32) (v3 : Int32) (σ : gM), K30 v1 v2 v3 σ = some (r0, σ') → g_G l dC dI ad ca shM X cX12_first 4 RX12 (some .int) (gR 4) (some (.int r0)) σ' 30 [(0, .ref 0), (1, .int v1), (2, .int v2), (3, .int v3)] [] σ) (v1 : Int32) (v2 : Int32) (v3 : Int32)  (σ : gM) (h : fX12_first_b30 n K30 v1 v2 v3 σ = some (r0, σ')) : g_G l dC dI ad ca shM X cX12_first 4 RX12 (some .int) (gR 4) (some (.int r0)) σ' 30 [(0, .ref 0), (1, .int v1), (2, .int v2), (3, .int v3)] [] σ := by
  unfold fX12_first_b30 at h
  refine g_iload_n (pc := 30) dX12_first_30 rfl 3 rfl ?_
  refine g_aload_n (pc := 31) dX12_first_31 rfl 0 rfl ?_
  refine g_getI (pc := 32) wfX12_171 rfl rfl dX12_first_32 ?_
  refine g_icmp_ge (pc := 35) (tgt := 88) dX12_first_35 (by decide) (fun c29 => ?_) (fun c29 => ?_)
  · have h := g_ift c29 h
    refine g_iload_n (pc := 88) dX12_first_88 rfl 2 rfl ?_
    refine g_iconst (pc := 89) (v := (-1)) dX12_first_89 (by decide) ?_
    refine g_icmp_eq (pc := 90) (tgt := 97) dX12_first_90 (by decide) (fun c30 => ?_) (fun c30 => ?_)
    · have h := g_ift c30 h
      exact g_lv [2] rfl (tX12_first_b97 hE n v2 σ h)
    · have h := g_iff c30 h
      refine g_iload_n (pc := 93) dX12_first_93 rfl 1 rfl ?_
      refine g_if_ne (pc := 94) (tgt := 99) dX12_first_94 (by decide) (fun c31 => ?_) (fun c31 => ?_)
      · have h := g_iff c31 h
        refine g_iload_n (pc := 99) dX12_first_99 rfl 1 rfl ?_
        refine g_iconst (pc := 100) (v := 1) dX12_first_100 (by decide) ?_
        refine g_icmp_ne (pc := 101) (tgt := 122) dX12_first_101 (by decide) (fun c32 => ?_) (fun c32 => ?_)
        · have h := g_iff c32 h
          refine g_aload_n (pc := 122) dX12_first_122 rfl 0 rfl ?_
          refine g_getR (pc := 123) wfX12_38 rfl rfl dX12_first_123 ?_
          refine g_iconst (pc := 126) (v := 0) dX12_first_126 (by decide) ?_
          refine g_aload_n (pc := 127) dX12_first_127 rfl 0 rfl ?_
          refine g_getR (pc := 128) wfX12_41 rfl rfl dX12_first_128 ?_
          refine g_iconst (pc := 131) (v := 0) dX12_first_131 (by decide) ?_
          obtain ⟨σ34, h33, h⟩ := g_bVd h
          refine g_callSv (pc := 132) (st := []) hE.1 wsX12_349 (kX12_copyRow hE n 10 616 rfl 11 616 rfl 0 0 σ h33) rfl (gR_ok (by decide) (by decide)) (Nat.le_of_ble_eq_true rfl) rfl dX12_first_132 ?_
          exact g_lv [0, 2] rfl (tX12_first_L135 hE n n v2 σ34 h)
        · have h := g_ift c32 h
          refine g_aload_n (pc := 104) dX12_first_104 rfl 0 rfl ?_
          refine g_getR (pc := 105) wfX12_17 rfl rfl dX12_first_105 ?_
          refine g_iconst (pc := 108) (v := 1) dX12_first_108 (by decide) ?_
          refine g_iald (pc := 109) rfl (by decide) (j := 1) (by decide) dX12_first_109 ?_
          refine g_aload_n (pc := 110) dX12_first_110 rfl 0 rfl ?_
          refine g_getR (pc := 111) wfX12_38 rfl rfl dX12_first_111 ?_
          refine g_sipush (pc := 114) (v := 392) dX12_first_114 (by decide) ?_
          refine g_iload_n (pc := 117) dX12_first_117 rfl 2 rfl ?_
          refine g_iadd (pc := 118) dX12_first_118 ?_
          obtain ⟨c35, h⟩ := g_gd h
          refine g_iald (pc := 119) rfl c35 rfl dX12_first_119 ?_
          refine g_isub (pc := 120) dX12_first_120 ?_
          cases h
          exact g_iret (pc := 121) rfl rfl rfl rfl dX12_first_121
      · have h := g_ift c31 h
        exact g_lv [2] rfl (tX12_first_b97 hE n v2 σ h)
  · have h := g_iff c29 h
    refine g_aload_n (pc := 38) dX12_first_38 rfl 0 rfl ?_
    refine g_getR (pc := 39) wfX12_38 rfl rfl dX12_first_39 ?_
    refine g_sipush (pc := 42) (v := 384) dX12_first_42 (by decide) ?_
    refine g_iload_n (pc := 45) dX12_first_45 rfl 3 rfl ?_
    refine g_iadd (pc := 46) dX12_first_46 ?_
    obtain ⟨c36, h⟩ := g_gd h
    refine g_iald (pc := 47) rfl c36 rfl dX12_first_47 ?_
    refine g_iconst (pc := 48) (v := 2) dX12_first_48 (by decide) ?_
    refine g_icmp_ne (pc := 49) (tgt := 82) dX12_first_49 (by decide) (fun c37 => ?_) (fun c37 => ?_)
    · have h := g_iff c37 h
      exact g_lv [0, 1, 2, 3] rfl (tX12_first_b82 hE n K30 hK30 v1 v2 v3 σ h)
    · have h := g_ift c37 h
      refine g_iload_n (pc := 52) dX12_first_52 rfl 2 rfl ?_
      refine g_iconst (pc := 53) (v := (-1)) dX12_first_53 (by decide) ?_
      refine g_icmp_eq (pc := 54) (tgt := 80) dX12_first_54 (by decide) (fun c38 => ?_) (fun c38 => ?_)
      · have h := g_ift c38 h
        exact g_lv [0, 1, 3] rfl (tX12_first_b80 hE n K30 hK30 v1 v3 σ h)
      · have h := g_iff c38 h
        refine g_aload_n (pc := 57) dX12_first_57 rfl 0 rfl ?_
        refine g_getR (pc := 58) wfX12_38 rfl rfl dX12_first_58 ?_
        refine g_sipush (pc := 61) (v := 392) dX12_first_61 (by decide) ?_
        refine g_iload_n (pc := 64) dX12_first_64 rfl 3 rfl ?_
        refine g_iadd (pc := 65) dX12_first_65 ?_
        obtain ⟨c39, h⟩ := g_gd h
        refine g_iald (pc := 66) rfl c39 rfl dX12_first_66 ?_
        refine g_aload_n (pc := 67) dX12_first_67 rfl 0 rfl ?_
        refine g_getR (pc := 68) wfX12_38 rfl rfl dX12_first_68 ?_
        refine g_sipush (pc := 71) (v := 392) dX12_first_71 (by decide) ?_
        refine g_iload_n (pc := 74) dX12_first_74 rfl 2 rfl ?_
        refine g_iadd (pc := 75) dX12_first_75 ?_
        obtain ⟨c40, h⟩ := g_gd h
        refine g_iald (pc := 76) rfl c40 rfl dX12_first_76 ?_
        refine g_icmp_le (pc := 77) (tgt := 82) dX12_first_77 (by decide) (fun c41 => ?_) (fun c41 => ?_)
        · have h := g_ift c41 h
          exact g_lv [0, 1, 2, 3] rfl (tX12_first_b82 hE n K30 hK30 v1 v2 v3 σ h)
        · have h := g_iff c41 h
          exact g_lv [0, 1, 3] rfl (tX12_first_b80 hE n K30 hK30 v1 v3 σ h)
def fX12_first_L30 (n : Nat) : Nat → Int32 → Int32 → Int32 → gM → Option (Int32 × gM)
  | 0 => fun _ _ _ _ => none
  | k + 1 => fX12_first_b30 n (fX12_first_L30 n k)
theorem tX12_first_L30 (hE : gEM l dC dI ad ca X) {r0 : Int32} {σ' : gM} (n : Nat)  : ∀ (k : Nat) (v1 : Int32) (v2 : Int32) (v3 : Int32) (σ : gM), fX12_first_L30 n k v1 v2 v3 σ = some (r0, σ') → g_G l dC dI ad ca shM X cX12_first 4 RX12 (some .int) (gR 4) (some (.int r0)) σ' 30 [(0, .ref 0), (1, .int v1), (2, .int v2), (3, .int v3)] [] σ := by
  intro k
  induction k with
  | zero => intro v1 v2 v3 σ h; cases h
  | succ k ih => intro v1 v2 v3 σ h; exact tX12_first_b30 hE n (fX12_first_L30 n k) ih v1 v2 v3 σ h
def fX12_first (n : Nat) (v1 : Int32) (σ : gM) : Option (Int32 × gM) := g_let (g_put σ 0 0 0) (fun σ42 => if (σ42.1 0 14) = 0 then (some ((-1), σ42)) else (g_bI (fX12_isIn v1.toInt64 0 2 σ42) (fun r47 σ46 => if r47 = 0 then (some ((-1), σ46)) else (fX12_first_L30 n n v1 (-1) 0 σ46))))
set_option maxRecDepth 100000 in
theorem kX12_first (hE : gEM l dC dI ad ca X) (n : Nat)  (v1 : Int32) (σ : gM) {r0 : Int32} {σ' : gM} (h : fX12_first n v1 σ = some (r0, σ')) : g_C l dC dI ad ca shM X yX12_first cX12_first 4 (some .int) (gR 4) [.ref 0, .int v1] σ (some (.int r0)) σ' := by
  refine g_entry (by decide +kernel) (Nat.le_of_ble_eq_true rfl) ?_
  refine g_lvE (lv1 := [(0, .ref 0), (1, .int v1)]) rfl ?_
  unfold fX12_first at h
  refine g_aload_n (pc := 0) dX12_first_0 rfl 0 rfl ?_
  refine g_iconst (pc := 1) (v := 0) dX12_first_1 (by decide) ?_
  obtain ⟨σ42, e43, h⟩ := g_ltd h
  refine g_putI (pc := 2) wfX12_57 rfl rfl rfl rfl e43 dX12_first_2 ?_
  refine g_aload_n (pc := 5) dX12_first_5 rfl 0 rfl ?_
  refine g_getI (pc := 6) wfX12_153 rfl rfl dX12_first_6 ?_
  refine g_if_eq (pc := 9) (tgt := 24) dX12_first_9 (by decide) (fun c44 => ?_) (fun c44 => ?_)
  · have h := g_ift c44 h
    refine g_iconst (pc := 24) (v := (-1)) dX12_first_24 (by decide) ?_
    cases h
    exact g_iret (pc := 25) rfl rfl rfl rfl dX12_first_25
  · have h := g_iff c44 h
    refine g_iload_n (pc := 12) dX12_first_12 rfl 1 rfl ?_
    refine g_i2l (pc := 13) dX12_first_13 ?_
    refine g_lconst (pc := 14) (v := 0) dX12_first_14 (by decide) ?_
    refine g_ldc2 (pc := 15) wkX12_294 dX12_first_15 ?_
    obtain ⟨r47, σ46, h45, h⟩ := g_bId h
    refine g_callSi (pc := 18) (st := []) hE.1 wsX12_117 (kX12_isIn hE v1.toInt64 0 2 σ42 h45) rfl (gR_ok (by decide) (by decide)) (Nat.le_of_ble_eq_true rfl) rfl dX12_first_18 ?_
    refine g_if_ne (pc := 21) (tgt := 26) dX12_first_21 (by decide) (fun c48 => ?_) (fun c48 => ?_)
    · have h := g_iff c48 h
      refine g_iconst (pc := 26) (v := (-1)) dX12_first_26 (by decide) ?_
      refine g_istore_n (pc := 27) (lv1 := [(2, .int (-1)), (0, .ref 0), (1, .int v1)]) dX12_first_27 rfl (by decide) rfl ?_
      refine g_iconst (pc := 28) (v := 0) dX12_first_28 (by decide) ?_
      refine g_istore_n (pc := 29) (lv1 := [(3, .int 0), (2, .int (-1)), (0, .ref 0), (1, .int v1)]) dX12_first_29 rfl (by decide) rfl ?_
      exact g_lv [2, 3, 1, 0] rfl (tX12_first_L30 hE n n v1 (-1) 0 σ46 h)
    · have h := g_ift c48 h
      refine g_iconst (pc := 24) (v := (-1)) dX12_first_24 (by decide) ?_
      cases h
      exact g_iret (pc := 25) rfl rfl rfl rfl dX12_first_25
def fX12_areThere_b39 (n : Nat) (K3 : Int32 → Int32 → Int32 → Int32 → gM → Option (Int32 × gM)) (v1 : Int32) (v2 : Int32) (v3 : Int32) (v4 : Int32) (σ : gM) : Option (Int32 × gM) := K3 v1 v2 v3 (v4 + 1) σ
set_option maxRecDepth 100000 in
theorem tX12_areThere_b39 (hE : gEM l dC dI ad ca X) {r0 : Int32} {σ' : gM} (n : Nat) (K3 : Int32 → Int32 → Int32 → Int32 → gM → Option (Int32 × gM)) (hK3 : ∀ (v1 : Int32) (v2 : Int32) (v3 : Int32) (v4 : Int32) (σ : gM), K3 v1 v2 v3 v4 σ = some (r0, σ') → g_G l dC dI ad ca shM X cX12_areThere 5 RX12 (some .boolean) (gR 1) (some (.int r0)) σ' 3 [(0, .ref 0), (1, .int v1), (2, .int v2), (3, .int v3), (4, .int v4)] [] σ) (v1 : Int32) (v2 : Int32) (v3 : Int32) (v4 : Int32)  (σ : gM) (h : fX12_areThere_b39 n K3 v1 v2 v3 v4 σ = some (r0, σ')) : g_G l dC dI ad ca shM X cX12_areThere 5 RX12 (some .boolean) (gR 1) (some (.int r0)) σ' 39 [(0, .ref 0), (1, .int v1), (2, .int v2), (3, .int v3), (4, .int v4)] [] σ := by
  unfold fX12_areThere_b39 at h
  refine g_iinc (pc := 39) (v := v4 + 1) (lv1 := [(4, .int (v4 + 1)), (0, .ref 0), (1, .int v1), (2, .int v2), (3, .int v3)]) dX12_areThere_39 4 rfl rfl (by decide) rfl ?_
  refine g_goto (pc := 42) (tgt := 3) dX12_areThere_42 (by decide) ?_
  exact g_lv [1, 2, 3, 4, 0] rfl (hK3 v1 v2 v3 (v4 + 1) σ h)
def fX12_areThere_b3 (n : Nat) (K3 : Int32 → Int32 → Int32 → Int32 → gM → Option (Int32 × gM)) (v1 : Int32) (v2 : Int32) (v3 : Int32) (v4 : Int32) (σ : gM) : Option (Int32 × gM) := if (σ.1 0 13) ≤ v4 then (some (1, σ)) else (if v4 = v2 then (fX12_areThere_b39 n K3 v1 v2 v3 v4 σ) else (if v4 = v3 then (fX12_areThere_b39 n K3 v1 v2 v3 v4 σ) else (g_bI (fX12_isThere 10 v4 v1 σ) (fun r13 σ12 => if r13 = 0 then (some (0, σ12)) else (fX12_areThere_b39 n K3 v1 v2 v3 v4 σ12)))))
set_option maxRecDepth 100000 in
theorem tX12_areThere_b3 (hE : gEM l dC dI ad ca X) {r0 : Int32} {σ' : gM} (n : Nat) (K3 : Int32 → Int32 → Int32 → Int32 → gM → Option (Int32 × gM)) (hK3 : ∀ (v1 : Int32) (v2 : Int32) (v3 : Int32) (v4 : Int32) (σ : gM), K3 v1 v2 v3 v4 σ = some (r0, σ') → g_G l dC dI ad ca shM X cX12_areThere 5 RX12 (some .boolean) (gR 1) (some (.int r0)) σ' 3 [(0, .ref 0), (1, .int v1), (2, .int v2), (3, .int v3), (4, .int v4)] [] σ) (v1 : Int32) (v2 : Int32) (v3 : Int32) (v4 : Int32)  (σ : gM) (h : fX12_areThere_b3 n K3 v1 v2 v3 v4 σ = some (r0, σ')) : g_G l dC dI ad ca shM X cX12_areThere 5 RX12 (some .boolean) (gR 1) (some (.int r0)) σ' 3 [(0, .ref 0), (1, .int v1), (2, .int v2), (3, .int v3), (4, .int v4)] [] σ := by
  unfold fX12_areThere_b3 at h
  refine g_iload (pc := 3) dX12_areThere_3 4 rfl ?_
  refine g_aload_n (pc := 5) dX12_areThere_5 rfl 0 rfl ?_
  refine g_getI (pc := 6) wfX12_171 rfl rfl dX12_areThere_6 ?_
  refine g_icmp_ge (pc := 9) (tgt := 45) dX12_areThere_9 (by decide) (fun c8 => ?_) (fun c8 => ?_)
  · have h := g_ift c8 h
    refine g_iconst (pc := 45) (v := 1) dX12_areThere_45 (by decide) ?_
    cases h
    exact g_iret (pc := 46) rfl (by decide) rfl rfl dX12_areThere_46
  · have h := g_iff c8 h
    refine g_iload (pc := 12) dX12_areThere_12 4 rfl ?_
    refine g_iload_n (pc := 14) dX12_areThere_14 rfl 2 rfl ?_
    refine g_icmp_eq (pc := 15) (tgt := 39) dX12_areThere_15 (by decide) (fun c9 => ?_) (fun c9 => ?_)
    · have h := g_ift c9 h
      exact g_lv [0, 1, 2, 3, 4] rfl (tX12_areThere_b39 hE n K3 hK3 v1 v2 v3 v4 σ h)
    · have h := g_iff c9 h
      refine g_iload (pc := 18) dX12_areThere_18 4 rfl ?_
      refine g_iload_n (pc := 20) dX12_areThere_20 rfl 3 rfl ?_
      refine g_icmp_eq (pc := 21) (tgt := 39) dX12_areThere_21 (by decide) (fun c10 => ?_) (fun c10 => ?_)
      · have h := g_ift c10 h
        exact g_lv [0, 1, 2, 3, 4] rfl (tX12_areThere_b39 hE n K3 hK3 v1 v2 v3 v4 σ h)
      · have h := g_iff c10 h
        refine g_aload_n (pc := 24) dX12_areThere_24 rfl 0 rfl ?_
        refine g_getR (pc := 25) wfX12_38 rfl rfl dX12_areThere_25 ?_
        refine g_iload (pc := 28) dX12_areThere_28 4 rfl ?_
        refine g_iload_n (pc := 30) dX12_areThere_30 rfl 1 rfl ?_
        obtain ⟨r13, σ12, h11, h⟩ := g_bId h
        refine g_callSi (pc := 31) (st := []) hE.1 wsX12_202 (kX12_isThere hE 10 rfl v4 v1 σ h11) rfl (gR_ok (by decide) (by decide)) (Nat.le_of_ble_eq_true rfl) rfl dX12_areThere_31 ?_
        refine g_if_ne (pc := 34) (tgt := 39) dX12_areThere_34 (by decide) (fun c14 => ?_) (fun c14 => ?_)
        · have h := g_iff c14 h
          exact g_lv [0, 1, 2, 3, 4] rfl (tX12_areThere_b39 hE n K3 hK3 v1 v2 v3 v4 σ12 h)
        · have h := g_ift c14 h
          refine g_iconst (pc := 37) (v := 0) dX12_areThere_37 (by decide) ?_
          cases h
          exact g_iret (pc := 38) rfl (by decide) rfl rfl dX12_areThere_38
def fX12_areThere_L3 (n : Nat) : Nat → Int32 → Int32 → Int32 → Int32 → gM → Option (Int32 × gM)
  | 0 => fun _ _ _ _ _ => none
  | k + 1 => fX12_areThere_b3 n (fX12_areThere_L3 n k)
theorem tX12_areThere_L3 (hE : gEM l dC dI ad ca X) {r0 : Int32} {σ' : gM} (n : Nat)  : ∀ (k : Nat) (v1 : Int32) (v2 : Int32) (v3 : Int32) (v4 : Int32) (σ : gM), fX12_areThere_L3 n k v1 v2 v3 v4 σ = some (r0, σ') → g_G l dC dI ad ca shM X cX12_areThere 5 RX12 (some .boolean) (gR 1) (some (.int r0)) σ' 3 [(0, .ref 0), (1, .int v1), (2, .int v2), (3, .int v3), (4, .int v4)] [] σ := by
  intro k
  induction k with
  | zero => intro v1 v2 v3 v4 σ h; cases h
  | succ k ih => intro v1 v2 v3 v4 σ h; exact tX12_areThere_b3 hE n (fX12_areThere_L3 n k) ih v1 v2 v3 v4 σ h
def fX12_areThere (n : Nat) (v1 : Int32) (v2 : Int32) (v3 : Int32) (σ : gM) : Option (Int32 × gM) := fX12_areThere_L3 n n v1 v2 v3 0 σ
set_option maxRecDepth 100000 in
theorem kX12_areThere (hE : gEM l dC dI ad ca X) (n : Nat)  (v1 : Int32) (v2 : Int32) (v3 : Int32) (σ : gM) {r0 : Int32} {σ' : gM} (h : fX12_areThere n v1 v2 v3 σ = some (r0, σ')) : g_C l dC dI ad ca shM X yX12_areThere cX12_areThere 5 (some .boolean) (gR 1) [.ref 0, .int v1, .int v2, .int v3] σ (some (.int r0)) σ' := by
  refine g_entry (by decide +kernel) (Nat.le_of_ble_eq_true rfl) ?_
  refine g_lvE (lv1 := [(0, .ref 0), (1, .int v1), (2, .int v2), (3, .int v3)]) rfl ?_
  unfold fX12_areThere at h
  refine g_iconst (pc := 0) (v := 0) dX12_areThere_0 (by decide) ?_
  refine g_istore (pc := 1) (lv1 := [(4, .int 0), (0, .ref 0), (1, .int v1), (2, .int v2), (3, .int v3)]) dX12_areThere_1 (by decide) rfl ?_
  exact g_lv [1, 2, 3, 4, 0] rfl (tX12_areThere_L3 hE n n v1 v2 v3 0 σ h)
def fX12_votes_b119 (n : Nat) (K34 : Int32 → Int32 → Int32 → Int32 → Int32 → gM → Option (Int32 × gM)) (K49 : Int32 → Int32 → Int32 → Int32 → Int32 → Int32 → gM → Option (Int32 × gM)) (v1 : Int32) (v2 : Int32) (v3 : Int32) (v4 : Int32) (v5 : Int32) (v6 : Int32) (σ : gM) : Option (Int32 × gM) := K49 v1 v2 v3 v4 v5 (v6 + 1) σ
set_option maxRecDepth 100000 in
theorem tX12_votes_b119 (hE : gEM l dC dI ad ca X) {r0 : Int32} {σ' : gM} (n : Nat) (K34 : Int32 → Int32 → Int32 → Int32 → Int32 → gM → Option (Int32 × gM)) (hK34 : ∀ (v1 : Int32) (v2 : Int32) (v3 : Int32) (v4 : Int32) (v5 : Int32) (σ : gM), K34 v1 v2 v3 v4 v5 σ = some (r0, σ') → g_G l dC dI ad ca shM X cX12_votes 7 RX12 (some .int) (gR 3) (some (.int r0)) σ' 34 [(0, .ref 0), (1, .int v1), (2, .int v2), (3, .int v3), (4, .int v4), (5, .int v5)] [] σ) (K49 : Int32 → Int32 → Int32 → Int32 → Int32 → Int32 → gM → Option (Int32 × gM)) (hK49 : ∀ (v1 : Int32) (v2 : Int32) (v3 : Int32) (v4 : Int32) (v5 : Int32) (v6 : Int32) (σ : gM), K49 v1 v2 v3 v4 v5 v6 σ = some (r0, σ') → g_G l dC dI ad ca shM X cX12_votes 7 RX12 (some .int) (gR 3) (some (.int r0)) σ' 49 [(0, .ref 0), (1, .int v1), (2, .int v2), (3, .int v3), (4, .int v4), (5, .int v5), (6, .int v6)] [] σ) (v1 : Int32) (v2 : Int32) (v3 : Int32) (v4 : Int32) (v5 : Int32) (v6 : Int32)  (σ : gM) (h : fX12_votes_b119 n K34 K49 v1 v2 v3 v4 v5 v6 σ = some (r0, σ')) : g_G l dC dI ad ca shM X cX12_votes 7 RX12 (some .int) (gR 3) (some (.int r0)) σ' 119 [(0, .ref 0), (1, .int v1), (2, .int v2), (3, .int v3), (4, .int v4), (5, .int v5), (6, .int v6)] [] σ := by
  unfold fX12_votes_b119 at h
  refine g_iinc (pc := 119) (v := v6 + 1) (lv1 := [(6, .int (v6 + 1)), (0, .ref 0), (1, .int v1), (2, .int v2), (3, .int v3), (4, .int v4), (5, .int v5)]) dX12_votes_119 6 rfl rfl (by decide) rfl ?_
  refine g_goto (pc := 122) (tgt := 49) dX12_votes_122 (by decide) ?_
  exact g_lv [1, 2, 3, 4, 5, 6, 0] rfl (hK49 v1 v2 v3 v4 v5 (v6 + 1) σ h)
def fX12_votes_b116 (n : Nat) (K34 : Int32 → Int32 → Int32 → Int32 → Int32 → gM → Option (Int32 × gM)) (K49 : Int32 → Int32 → Int32 → Int32 → Int32 → Int32 → gM → Option (Int32 × gM)) (v1 : Int32) (v2 : Int32) (v3 : Int32) (v5 : Int32) (v6 : Int32) (s0 : Int32) (s1 : Int32) (σ : gM) : Option (Int32 × gM) := fX12_votes_b119 n K34 K49 v1 v2 v3 (s1 + s0) v5 v6 σ
set_option maxRecDepth 100000 in
theorem tX12_votes_b116 (hE : gEM l dC dI ad ca X) {r0 : Int32} {σ' : gM} (n : Nat) (K34 : Int32 → Int32 → Int32 → Int32 → Int32 → gM → Option (Int32 × gM)) (hK34 : ∀ (v1 : Int32) (v2 : Int32) (v3 : Int32) (v4 : Int32) (v5 : Int32) (σ : gM), K34 v1 v2 v3 v4 v5 σ = some (r0, σ') → g_G l dC dI ad ca shM X cX12_votes 7 RX12 (some .int) (gR 3) (some (.int r0)) σ' 34 [(0, .ref 0), (1, .int v1), (2, .int v2), (3, .int v3), (4, .int v4), (5, .int v5)] [] σ) (K49 : Int32 → Int32 → Int32 → Int32 → Int32 → Int32 → gM → Option (Int32 × gM)) (hK49 : ∀ (v1 : Int32) (v2 : Int32) (v3 : Int32) (v4 : Int32) (v5 : Int32) (v6 : Int32) (σ : gM), K49 v1 v2 v3 v4 v5 v6 σ = some (r0, σ') → g_G l dC dI ad ca shM X cX12_votes 7 RX12 (some .int) (gR 3) (some (.int r0)) σ' 49 [(0, .ref 0), (1, .int v1), (2, .int v2), (3, .int v3), (4, .int v4), (5, .int v5), (6, .int v6)] [] σ) (v1 : Int32) (v2 : Int32) (v3 : Int32) (v5 : Int32) (v6 : Int32) (s0 : Int32) (s1 : Int32)  (σ : gM) (h : fX12_votes_b116 n K34 K49 v1 v2 v3 v5 v6 s0 s1 σ = some (r0, σ')) : g_G l dC dI ad ca shM X cX12_votes 7 RX12 (some .int) (gR 3) (some (.int r0)) σ' 116 [(0, .ref 0), (1, .int v1), (2, .int v2), (3, .int v3), (5, .int v5), (6, .int v6)] [.int s0, .int s1] σ := by
  unfold fX12_votes_b116 at h
  refine g_iadd (pc := 116) dX12_votes_116 ?_
  refine g_istore (pc := 117) (lv1 := [(4, .int (s1 + s0)), (0, .ref 0), (1, .int v1), (2, .int v2), (3, .int v3), (5, .int v5), (6, .int v6)]) dX12_votes_117 (by decide) rfl ?_
  exact g_lv [1, 2, 3, 4, 0, 5, 6] rfl (tX12_votes_b119 hE n K34 hK34 K49 hK49 v1 v2 v3 (s1 + s0) v5 v6 σ h)
def fX12_votes_b49 (n : Nat) (K34 : Int32 → Int32 → Int32 → Int32 → Int32 → gM → Option (Int32 × gM)) (K49 : Int32 → Int32 → Int32 → Int32 → Int32 → Int32 → gM → Option (Int32 × gM)) (v1 : Int32) (v2 : Int32) (v3 : Int32) (v4 : Int32) (v5 : Int32) (v6 : Int32) (σ : gM) : Option (Int32 × gM) := if (σ.1 0 13) ≤ v6 then (K34 v1 v2 v3 v4 (v5 + 1) σ) else (g_bI (fX12_areThere n v3 v5 v6 σ) (fun r35 σ34 => if r35 = 0 then (fX12_votes_b119 n K34 K49 v1 v2 v3 v4 v5 v6 σ34) else (g_bI (fX12_byteOf v1 σ34) (fun r39 σ38 => g_bV (fX12_lays n 10 v3 r39 v5 v6 σ38) (fun σ41 => g_bV (fX12_solves n σ41) (fun σ43 => g_bI (fX12_partOf v1 σ43) (fun r46 σ45 => if ¬ (r46 < 0 ∨ 8 ≤ r46.toNatClampNeg) then (if (σ45.1 14 r46.toNatClampNeg) = v2 then (fX12_votes_b116 n K34 K49 v1 v2 v3 v5 v6 1 v4 σ45) else (fX12_votes_b116 n K34 K49 v1 v2 v3 v5 v6 0 v4 σ45)) else none)))))))
set_option maxRecDepth 100000 in
theorem tX12_votes_b49 (hE : gEM l dC dI ad ca X) {r0 : Int32} {σ' : gM} (n : Nat) (K34 : Int32 → Int32 → Int32 → Int32 → Int32 → gM → Option (Int32 × gM)) (hK34 : ∀ (v1 : Int32) (v2 : Int32) (v3 : Int32) (v4 : Int32) (v5 : Int32) (σ : gM), K34 v1 v2 v3 v4 v5 σ = some (r0, σ') → g_G l dC dI ad ca shM X cX12_votes 7 RX12 (some .int) (gR 3) (some (.int r0)) σ' 34 [(0, .ref 0), (1, .int v1), (2, .int v2), (3, .int v3), (4, .int v4), (5, .int v5)] [] σ) (K49 : Int32 → Int32 → Int32 → Int32 → Int32 → Int32 → gM → Option (Int32 × gM)) (hK49 : ∀ (v1 : Int32) (v2 : Int32) (v3 : Int32) (v4 : Int32) (v5 : Int32) (v6 : Int32) (σ : gM), K49 v1 v2 v3 v4 v5 v6 σ = some (r0, σ') → g_G l dC dI ad ca shM X cX12_votes 7 RX12 (some .int) (gR 3) (some (.int r0)) σ' 49 [(0, .ref 0), (1, .int v1), (2, .int v2), (3, .int v3), (4, .int v4), (5, .int v5), (6, .int v6)] [] σ) (v1 : Int32) (v2 : Int32) (v3 : Int32) (v4 : Int32) (v5 : Int32) (v6 : Int32)  (σ : gM) (h : fX12_votes_b49 n K34 K49 v1 v2 v3 v4 v5 v6 σ = some (r0, σ')) : g_G l dC dI ad ca shM X cX12_votes 7 RX12 (some .int) (gR 3) (some (.int r0)) σ' 49 [(0, .ref 0), (1, .int v1), (2, .int v2), (3, .int v3), (4, .int v4), (5, .int v5), (6, .int v6)] [] σ := by
  unfold fX12_votes_b49 at h
  refine g_iload (pc := 49) dX12_votes_49 6 rfl ?_
  refine g_aload_n (pc := 51) dX12_votes_51 rfl 0 rfl ?_
  refine g_getI (pc := 52) wfX12_171 rfl rfl dX12_votes_52 ?_
  refine g_icmp_ge (pc := 55) (tgt := 125) dX12_votes_55 (by decide) (fun c32 => ?_) (fun c32 => ?_)
  · have h := g_ift c32 h
    refine g_iinc (pc := 125) (v := v5 + 1) (lv1 := [(5, .int (v5 + 1)), (0, .ref 0), (1, .int v1), (2, .int v2), (3, .int v3), (4, .int v4), (6, .int v6)]) dX12_votes_125 5 rfl rfl (by decide) rfl ?_
    refine g_goto (pc := 128) (tgt := 34) dX12_votes_128 (by decide) ?_
    exact g_lv [1, 2, 3, 4, 5, 0] rfl (hK34 v1 v2 v3 v4 (v5 + 1) σ h)
  · have h := g_iff c32 h
    refine g_aload_n (pc := 58) dX12_votes_58 rfl 0 rfl ?_
    refine g_iload_n (pc := 59) dX12_votes_59 rfl 3 rfl ?_
    refine g_iload (pc := 60) dX12_votes_60 5 rfl ?_
    refine g_iload (pc := 62) dX12_votes_62 6 rfl ?_
    obtain ⟨r35, σ34, h33, h⟩ := g_bId h
    refine g_callVi (pc := 64) (st := []) hE.1 wvX12_397 rfl rfl (kX12_areThere hE n v3 v5 v6 σ h33) rfl (gR_ok (by decide) (by decide)) (Nat.le_of_ble_eq_true rfl) rfl dX12_votes_64 ?_
    refine g_if_ne (pc := 67) (tgt := 73) dX12_votes_67 (by decide) (fun c36 => ?_) (fun c36 => ?_)
    · have h := g_iff c36 h
      refine g_aload_n (pc := 73) dX12_votes_73 rfl 0 rfl ?_
      refine g_aload_n (pc := 74) dX12_votes_74 rfl 0 rfl ?_
      refine g_getR (pc := 75) wfX12_38 rfl rfl dX12_votes_75 ?_
      refine g_iload_n (pc := 78) dX12_votes_78 rfl 3 rfl ?_
      refine g_aload_n (pc := 79) dX12_votes_79 rfl 0 rfl ?_
      refine g_iload_n (pc := 80) dX12_votes_80 rfl 1 rfl ?_
      obtain ⟨r39, σ38, h37, h⟩ := g_bId h
      refine g_callVi (pc := 81) (st := [.int v3, .ref 10, .ref 0]) hE.1 wvX12_220 rfl rfl (kX12_byteOf hE v1 σ34 h37) rfl (gR_ok (by decide) (by decide)) (Nat.le_of_ble_eq_true rfl) rfl dX12_votes_81 ?_
      refine g_iload (pc := 84) dX12_votes_84 5 rfl ?_
      refine g_iload (pc := 86) dX12_votes_86 6 rfl ?_
      obtain ⟨σ41, h40, h⟩ := g_bVd h
      refine g_callVv (pc := 88) (st := []) hE.1 wvX12_223 rfl rfl (kX12_lays hE n 10 rfl v3 r39 v5 v6 σ38 h40) rfl (gR_ok (by decide) (by decide)) (Nat.le_of_ble_eq_true rfl) rfl dX12_votes_88 ?_
      refine g_aload_n (pc := 91) dX12_votes_91 rfl 0 rfl ?_
      obtain ⟨σ43, h42, h⟩ := g_bVd h
      refine g_callVv (pc := 92) (st := []) hE.1 wvX12_227 rfl rfl (kX12_solves hE n σ41 h42) rfl (gR_ok (by decide) (by decide)) (Nat.le_of_ble_eq_true rfl) rfl dX12_votes_92 ?_
      refine g_iload (pc := 95) dX12_votes_95 4 rfl ?_
      refine g_aload_n (pc := 97) dX12_votes_97 rfl 0 rfl ?_
      refine g_getR (pc := 98) wfX12_50 rfl rfl dX12_votes_98 ?_
      refine g_aload_n (pc := 101) dX12_votes_101 rfl 0 rfl ?_
      refine g_iload_n (pc := 102) dX12_votes_102 rfl 1 rfl ?_
      obtain ⟨r46, σ45, h44, h⟩ := g_bId h
      refine g_callVi (pc := 103) (st := [.ref 14, .int v4]) hE.1 wvX12_230 rfl rfl (kX12_partOf hE v1 σ43 h44) rfl (gR_ok (by decide) (by decide)) (Nat.le_of_ble_eq_true rfl) rfl dX12_votes_103 ?_
      obtain ⟨c47, h⟩ := g_gd h
      refine g_iald (pc := 106) rfl c47 rfl dX12_votes_106 ?_
      refine g_iload_n (pc := 107) dX12_votes_107 rfl 2 rfl ?_
      refine g_icmp_ne (pc := 108) (tgt := 115) dX12_votes_108 (by decide) (fun c48 => ?_) (fun c48 => ?_)
      · have h := g_iff c48 h
        refine g_iconst (pc := 115) (v := 0) dX12_votes_115 (by decide) ?_
        exact g_lv [0, 1, 2, 3, 5, 6] rfl (tX12_votes_b116 hE n K34 hK34 K49 hK49 v1 v2 v3 v5 v6 0 v4 σ45 h)
      · have h := g_ift c48 h
        refine g_iconst (pc := 111) (v := 1) dX12_votes_111 (by decide) ?_
        refine g_goto (pc := 112) (tgt := 116) dX12_votes_112 (by decide) ?_
        exact g_lv [0, 1, 2, 3, 5, 6] rfl (tX12_votes_b116 hE n K34 hK34 K49 hK49 v1 v2 v3 v5 v6 1 v4 σ45 h)
    · have h := g_ift c36 h
      refine g_goto (pc := 70) (tgt := 119) dX12_votes_70 (by decide) ?_
      exact g_lv [0, 1, 2, 3, 4, 5, 6] rfl (tX12_votes_b119 hE n K34 hK34 K49 hK49 v1 v2 v3 v4 v5 v6 σ34 h)
def fX12_votes_L49 (n : Nat) (K34 : Int32 → Int32 → Int32 → Int32 → Int32 → gM → Option (Int32 × gM)) : Nat → Int32 → Int32 → Int32 → Int32 → Int32 → Int32 → gM → Option (Int32 × gM)
  | 0 => fun _ _ _ _ _ _ _ => none
  | k + 1 => fX12_votes_b49 n K34 (fX12_votes_L49 n K34 k)
theorem tX12_votes_L49 (hE : gEM l dC dI ad ca X) {r0 : Int32} {σ' : gM} (n : Nat) (K34 : Int32 → Int32 → Int32 → Int32 → Int32 → gM → Option (Int32 × gM)) (hK34 : ∀ (v1 : Int32) (v2 : Int32) (v3 : Int32) (v4 : Int32) (v5 : Int32) (σ : gM), K34 v1 v2 v3 v4 v5 σ = some (r0, σ') → g_G l dC dI ad ca shM X cX12_votes 7 RX12 (some .int) (gR 3) (some (.int r0)) σ' 34 [(0, .ref 0), (1, .int v1), (2, .int v2), (3, .int v3), (4, .int v4), (5, .int v5)] [] σ)  : ∀ (k : Nat) (v1 : Int32) (v2 : Int32) (v3 : Int32) (v4 : Int32) (v5 : Int32) (v6 : Int32) (σ : gM), fX12_votes_L49 n K34 k v1 v2 v3 v4 v5 v6 σ = some (r0, σ') → g_G l dC dI ad ca shM X cX12_votes 7 RX12 (some .int) (gR 3) (some (.int r0)) σ' 49 [(0, .ref 0), (1, .int v1), (2, .int v2), (3, .int v3), (4, .int v4), (5, .int v5), (6, .int v6)] [] σ := by
  intro k
  induction k with
  | zero => intro v1 v2 v3 v4 v5 v6 σ h; cases h
  | succ k ih => intro v1 v2 v3 v4 v5 v6 σ h; exact tX12_votes_b49 hE n K34 hK34 (fX12_votes_L49 n K34 k) ih v1 v2 v3 v4 v5 v6 σ h
def fX12_votes_b34 (n : Nat) (K34 : Int32 → Int32 → Int32 → Int32 → Int32 → gM → Option (Int32 × gM)) (v1 : Int32) (v2 : Int32) (v3 : Int32) (v4 : Int32) (v5 : Int32) (σ : gM) : Option (Int32 × gM) := if (σ.1 0 13) ≤ v5 then (some (v4, σ)) else (fX12_votes_L49 n K34 n v1 v2 v3 v4 v5 (v5 + 1) σ)
set_option maxRecDepth 100000 in
theorem tX12_votes_b34 (hE : gEM l dC dI ad ca X) {r0 : Int32} {σ' : gM} (n : Nat) (K34 : Int32 → Int32 → Int32 → Int32 → Int32 → gM → Option (Int32 × gM)) (hK34 : ∀ (v1 : Int32) (v2 : Int32) (v3 : Int32) (v4 : Int32) (v5 : Int32) (σ : gM), K34 v1 v2 v3 v4 v5 σ = some (r0, σ') → g_G l dC dI ad ca shM X cX12_votes 7 RX12 (some .int) (gR 3) (some (.int r0)) σ' 34 [(0, .ref 0), (1, .int v1), (2, .int v2), (3, .int v3), (4, .int v4), (5, .int v5)] [] σ) (v1 : Int32) (v2 : Int32) (v3 : Int32) (v4 : Int32) (v5 : Int32)  (σ : gM) (h : fX12_votes_b34 n K34 v1 v2 v3 v4 v5 σ = some (r0, σ')) : g_G l dC dI ad ca shM X cX12_votes 7 RX12 (some .int) (gR 3) (some (.int r0)) σ' 34 [(0, .ref 0), (1, .int v1), (2, .int v2), (3, .int v3), (4, .int v4), (5, .int v5)] [] σ := by
  unfold fX12_votes_b34 at h
  refine g_iload (pc := 34) dX12_votes_34 5 rfl ?_
  refine g_aload_n (pc := 36) dX12_votes_36 rfl 0 rfl ?_
  refine g_getI (pc := 37) wfX12_171 rfl rfl dX12_votes_37 ?_
  refine g_icmp_ge (pc := 40) (tgt := 131) dX12_votes_40 (by decide) (fun c49 => ?_) (fun c49 => ?_)
  · have h := g_ift c49 h
    refine g_iload (pc := 131) dX12_votes_131 4 rfl ?_
    cases h
    exact g_iret (pc := 133) rfl rfl rfl rfl dX12_votes_133
  · have h := g_iff c49 h
    refine g_iload (pc := 43) dX12_votes_43 5 rfl ?_
    refine g_iconst (pc := 45) (v := 1) dX12_votes_45 (by decide) ?_
    refine g_iadd (pc := 46) dX12_votes_46 ?_
    refine g_istore (pc := 47) (lv1 := [(6, .int (v5 + 1)), (0, .ref 0), (1, .int v1), (2, .int v2), (3, .int v3), (4, .int v4), (5, .int v5)]) dX12_votes_47 (by decide) rfl ?_
    exact g_lv [1, 2, 3, 4, 5, 6, 0] rfl (tX12_votes_L49 hE n K34 hK34 n v1 v2 v3 v4 v5 (v5 + 1) σ h)
def fX12_votes_L34 (n : Nat) : Nat → Int32 → Int32 → Int32 → Int32 → Int32 → gM → Option (Int32 × gM)
  | 0 => fun _ _ _ _ _ _ => none
  | k + 1 => fX12_votes_b34 n (fX12_votes_L34 n k)
theorem tX12_votes_L34 (hE : gEM l dC dI ad ca X) {r0 : Int32} {σ' : gM} (n : Nat)  : ∀ (k : Nat) (v1 : Int32) (v2 : Int32) (v3 : Int32) (v4 : Int32) (v5 : Int32) (σ : gM), fX12_votes_L34 n k v1 v2 v3 v4 v5 σ = some (r0, σ') → g_G l dC dI ad ca shM X cX12_votes 7 RX12 (some .int) (gR 3) (some (.int r0)) σ' 34 [(0, .ref 0), (1, .int v1), (2, .int v2), (3, .int v3), (4, .int v4), (5, .int v5)] [] σ := by
  intro k
  induction k with
  | zero => intro v1 v2 v3 v4 v5 σ h; cases h
  | succ k ih => intro v1 v2 v3 v4 v5 σ h; exact tX12_votes_b34 hE n (fX12_votes_L34 n k) ih v1 v2 v3 v4 v5 σ h
def fX12_votes (n : Nat) (v1 : Int32) (v2 : Int32) (σ : gM) : Option (Int32 × gM) := g_let (g_put σ 0 0 0) (fun σ50 => g_bI (fX12_isAddress v1 σ50) (fun r54 σ53 => if r54 = 0 then (some ((-1), σ53)) else (g_bI (fX12_isByte v2 σ53) (fun r58 σ57 => if r58 = 0 then (some ((-1), σ57)) else (g_bI (fX12_stripeOf v1 σ57) (fun r62 σ61 => fX12_votes_L34 n n v1 v2 r62 0 0 σ61))))))
set_option maxRecDepth 100000 in
theorem kX12_votes (hE : gEM l dC dI ad ca X) (n : Nat)  (v1 : Int32) (v2 : Int32) (σ : gM) {r0 : Int32} {σ' : gM} (h : fX12_votes n v1 v2 σ = some (r0, σ')) : g_C l dC dI ad ca shM X yX12_votes cX12_votes 7 (some .int) (gR 3) [.ref 0, .int v1, .int v2] σ (some (.int r0)) σ' := by
  refine g_entry (by decide +kernel) (Nat.le_of_ble_eq_true rfl) ?_
  refine g_lvE (lv1 := [(0, .ref 0), (1, .int v1), (2, .int v2)]) rfl ?_
  unfold fX12_votes at h
  refine g_aload_n (pc := 0) dX12_votes_0 rfl 0 rfl ?_
  refine g_iconst (pc := 1) (v := 0) dX12_votes_1 (by decide) ?_
  obtain ⟨σ50, e51, h⟩ := g_ltd h
  refine g_putI (pc := 2) wfX12_57 rfl rfl rfl rfl e51 dX12_votes_2 ?_
  refine g_aload_n (pc := 5) dX12_votes_5 rfl 0 rfl ?_
  refine g_iload_n (pc := 6) dX12_votes_6 rfl 1 rfl ?_
  obtain ⟨r54, σ53, h52, h⟩ := g_bId h
  refine g_callVi (pc := 7) (st := []) hE.1 wvX12_281 rfl rfl (kX12_isAddress hE v1 σ50 h52) rfl (gR_ok (by decide) (by decide)) (Nat.le_of_ble_eq_true rfl) rfl dX12_votes_7 ?_
  refine g_if_eq (pc := 10) (tgt := 20) dX12_votes_10 (by decide) (fun c55 => ?_) (fun c55 => ?_)
  · have h := g_ift c55 h
    refine g_iconst (pc := 20) (v := (-1)) dX12_votes_20 (by decide) ?_
    cases h
    exact g_iret (pc := 21) rfl rfl rfl rfl dX12_votes_21
  · have h := g_iff c55 h
    refine g_iload_n (pc := 13) dX12_votes_13 rfl 2 rfl ?_
    obtain ⟨r58, σ57, h56, h⟩ := g_bId h
    refine g_callSi (pc := 14) (st := []) hE.1 wsX12_156 (kX12_isByte hE v2 σ53 h56) rfl (gR_ok (by decide) (by decide)) (Nat.le_of_ble_eq_true rfl) rfl dX12_votes_14 ?_
    refine g_if_ne (pc := 17) (tgt := 22) dX12_votes_17 (by decide) (fun c59 => ?_) (fun c59 => ?_)
    · have h := g_iff c59 h
      refine g_aload_n (pc := 22) dX12_votes_22 rfl 0 rfl ?_
      refine g_iload_n (pc := 23) dX12_votes_23 rfl 1 rfl ?_
      obtain ⟨r62, σ61, h60, h⟩ := g_bId h
      refine g_callVi (pc := 24) (st := []) hE.1 wvX12_217 rfl rfl (kX12_stripeOf hE v1 σ57 h60) rfl (gR_ok (by decide) (by decide)) (Nat.le_of_ble_eq_true rfl) rfl dX12_votes_24 ?_
      refine g_istore_n (pc := 27) (lv1 := [(3, .int r62), (0, .ref 0), (1, .int v1), (2, .int v2)]) dX12_votes_27 rfl (by decide) rfl ?_
      refine g_iconst (pc := 28) (v := 0) dX12_votes_28 (by decide) ?_
      refine g_istore (pc := 29) (lv1 := [(4, .int 0), (3, .int r62), (0, .ref 0), (1, .int v1), (2, .int v2)]) dX12_votes_29 (by decide) rfl ?_
      refine g_iconst (pc := 31) (v := 0) dX12_votes_31 (by decide) ?_
      refine g_istore (pc := 32) (lv1 := [(5, .int 0), (4, .int 0), (3, .int r62), (0, .ref 0), (1, .int v1), (2, .int v2)]) dX12_votes_32 (by decide) rfl ?_
      exact g_lv [3, 4, 5, 2, 1, 0] rfl (tX12_votes_L34 hE n n v1 v2 r62 0 0 σ61 h)
    · have h := g_ift c59 h
      refine g_iconst (pc := 20) (v := (-1)) dX12_votes_20 (by decide) ?_
      cases h
      exact g_iret (pc := 21) rfl rfl rfl rfl dX12_votes_21
def fX12_isFit_b16 (n : Nat) (K16 : Int32 → Int32 → gM → Option (Int32 × gM)) (v1 : Int32) (v2 : Int32) (σ : gM) : Option (Int32 × gM) := if (σ.1 3 2) ≤ v2 then (some (1, σ)) else (g_bV (fX12_lays n 10 v1 v2 (-1) (-1) σ) (fun σ14 => g_bI (fX12_wrong n σ14) (fun r17 σ16 => if r17 = (-1) then (K16 v1 (v2 + 1) σ16) else (some (0, σ16)))))
set_option maxRecDepth 100000 in
theorem tX12_isFit_b16 (hE : gEM l dC dI ad ca X) {r0 : Int32} {σ' : gM} (n : Nat) (K16 : Int32 → Int32 → gM → Option (Int32 × gM)) (hK16 : ∀ (v1 : Int32) (v2 : Int32) (σ : gM), K16 v1 v2 σ = some (r0, σ') → g_G l dC dI ad ca shM X cX12_isFit 3 RX12 (some .boolean) (gR 3) (some (.int r0)) σ' 16 [(0, .ref 0), (1, .int v1), (2, .int v2)] [] σ) (v1 : Int32) (v2 : Int32)  (σ : gM) (h : fX12_isFit_b16 n K16 v1 v2 σ = some (r0, σ')) : g_G l dC dI ad ca shM X cX12_isFit 3 RX12 (some .boolean) (gR 3) (some (.int r0)) σ' 16 [(0, .ref 0), (1, .int v1), (2, .int v2)] [] σ := by
  unfold fX12_isFit_b16 at h
  refine g_iload_n (pc := 16) dX12_isFit_16 rfl 2 rfl ?_
  refine g_aload_n (pc := 17) dX12_isFit_17 rfl 0 rfl ?_
  refine g_getR (pc := 18) wfX12_17 rfl rfl dX12_isFit_18 ?_
  refine g_iconst (pc := 21) (v := 2) dX12_isFit_21 (by decide) ?_
  refine g_iald (pc := 22) rfl (by decide) (j := 2) (by decide) dX12_isFit_22 ?_
  refine g_icmp_ge (pc := 23) (tgt := 54) dX12_isFit_23 (by decide) (fun c12 => ?_) (fun c12 => ?_)
  · have h := g_ift c12 h
    refine g_iconst (pc := 54) (v := 1) dX12_isFit_54 (by decide) ?_
    cases h
    exact g_iret (pc := 55) rfl (by decide) rfl rfl dX12_isFit_55
  · have h := g_iff c12 h
    refine g_aload_n (pc := 26) dX12_isFit_26 rfl 0 rfl ?_
    refine g_aload_n (pc := 27) dX12_isFit_27 rfl 0 rfl ?_
    refine g_getR (pc := 28) wfX12_38 rfl rfl dX12_isFit_28 ?_
    refine g_iload_n (pc := 31) dX12_isFit_31 rfl 1 rfl ?_
    refine g_iload_n (pc := 32) dX12_isFit_32 rfl 2 rfl ?_
    refine g_iconst (pc := 33) (v := (-1)) dX12_isFit_33 (by decide) ?_
    refine g_iconst (pc := 34) (v := (-1)) dX12_isFit_34 (by decide) ?_
    obtain ⟨σ14, h13, h⟩ := g_bVd h
    refine g_callVv (pc := 35) (st := []) hE.1 wvX12_223 rfl rfl (kX12_lays hE n 10 rfl v1 v2 (-1) (-1) σ h13) rfl (gR_ok (by decide) (by decide)) (Nat.le_of_ble_eq_true rfl) rfl dX12_isFit_35 ?_
    refine g_aload_n (pc := 38) dX12_isFit_38 rfl 0 rfl ?_
    obtain ⟨r17, σ16, h15, h⟩ := g_bId h
    refine g_callVi (pc := 39) (st := []) hE.1 wvX12_264 rfl rfl (kX12_wrong hE n σ14 h15) rfl (gR_ok (by decide) (by decide)) (Nat.le_of_ble_eq_true rfl) rfl dX12_isFit_39 ?_
    refine g_iconst (pc := 42) (v := (-1)) dX12_isFit_42 (by decide) ?_
    refine g_icmp_eq (pc := 43) (tgt := 48) dX12_isFit_43 (by decide) (fun c18 => ?_) (fun c18 => ?_)
    · have h := g_ift c18 h
      refine g_iinc (pc := 48) (v := v2 + 1) (lv1 := [(2, .int (v2 + 1)), (0, .ref 0), (1, .int v1)]) dX12_isFit_48 2 rfl rfl (by decide) rfl ?_
      refine g_goto (pc := 51) (tgt := 16) dX12_isFit_51 (by decide) ?_
      exact g_lv [1, 2, 0] rfl (hK16 v1 (v2 + 1) σ16 h)
    · have h := g_iff c18 h
      refine g_iconst (pc := 46) (v := 0) dX12_isFit_46 (by decide) ?_
      cases h
      exact g_iret (pc := 47) rfl (by decide) rfl rfl dX12_isFit_47
def fX12_isFit_L16 (n : Nat) : Nat → Int32 → Int32 → gM → Option (Int32 × gM)
  | 0 => fun _ _ _ => none
  | k + 1 => fX12_isFit_b16 n (fX12_isFit_L16 n k)
theorem tX12_isFit_L16 (hE : gEM l dC dI ad ca X) {r0 : Int32} {σ' : gM} (n : Nat)  : ∀ (k : Nat) (v1 : Int32) (v2 : Int32) (σ : gM), fX12_isFit_L16 n k v1 v2 σ = some (r0, σ') → g_G l dC dI ad ca shM X cX12_isFit 3 RX12 (some .boolean) (gR 3) (some (.int r0)) σ' 16 [(0, .ref 0), (1, .int v1), (2, .int v2)] [] σ := by
  intro k
  induction k with
  | zero => intro v1 v2 σ h; cases h
  | succ k ih => intro v1 v2 σ h; exact tX12_isFit_b16 hE n (fX12_isFit_L16 n k) ih v1 v2 σ h
def fX12_isFit (n : Nat) (v1 : Int32) (σ : gM) : Option (Int32 × gM) := g_bI (fX12_isAll n 10 v1 σ) (fun r21 σ20 => if r21 = 0 then (some (0, σ20)) else (fX12_isFit_L16 n n v1 0 σ20))
set_option maxRecDepth 100000 in
theorem kX12_isFit (hE : gEM l dC dI ad ca X) (n : Nat)  (v1 : Int32) (σ : gM) {r0 : Int32} {σ' : gM} (h : fX12_isFit n v1 σ = some (r0, σ')) : g_C l dC dI ad ca shM X yX12_isFit cX12_isFit 3 (some .boolean) (gR 3) [.ref 0, .int v1] σ (some (.int r0)) σ' := by
  refine g_entry (by decide +kernel) (Nat.le_of_ble_eq_true rfl) ?_
  refine g_lvE (lv1 := [(0, .ref 0), (1, .int v1)]) rfl ?_
  unfold fX12_isFit at h
  refine g_aload_n (pc := 0) dX12_isFit_0 rfl 0 rfl ?_
  refine g_aload_n (pc := 1) dX12_isFit_1 rfl 0 rfl ?_
  refine g_getR (pc := 2) wfX12_38 rfl rfl dX12_isFit_2 ?_
  refine g_iload_n (pc := 5) dX12_isFit_5 rfl 1 rfl ?_
  obtain ⟨r21, σ20, h19, h⟩ := g_bId h
  refine g_callVi (pc := 6) (st := []) hE.1 wvX12_267 rfl rfl (kX12_isAll hE n 10 rfl v1 σ h19) rfl (gR_ok (by decide) (by decide)) (Nat.le_of_ble_eq_true rfl) rfl dX12_isFit_6 ?_
  refine g_if_ne (pc := 9) (tgt := 14) dX12_isFit_9 (by decide) (fun c22 => ?_) (fun c22 => ?_)
  · have h := g_iff c22 h
    refine g_iconst (pc := 14) (v := 0) dX12_isFit_14 (by decide) ?_
    refine g_istore_n (pc := 15) (lv1 := [(2, .int 0), (0, .ref 0), (1, .int v1)]) dX12_isFit_15 rfl (by decide) rfl ?_
    exact g_lv [1, 2, 0] rfl (tX12_isFit_L16 hE n n v1 0 σ20 h)
  · have h := g_ift c22 h
    refine g_iconst (pc := 12) (v := 0) dX12_isFit_12 (by decide) ?_
    cases h
    exact g_iret (pc := 13) rfl (by decide) rfl rfl dX12_isFit_13
def fX12_fit_b44 (n : Nat) (K18 : Int32 → Int32 → gM → Option (Int32 × gM)) (v2 : Int32) (s0 : Int32) (s1 : Int32) (σ : gM) : Option (Int32 × gM) := K18 (s1 ||| s0) (v2 + 1) σ
set_option maxRecDepth 100000 in
theorem tX12_fit_b44 (hE : gEM l dC dI ad ca X) {r0 : Int32} {σ' : gM} (n : Nat) (K18 : Int32 → Int32 → gM → Option (Int32 × gM)) (hK18 : ∀ (v1 : Int32) (v2 : Int32) (σ : gM), K18 v1 v2 σ = some (r0, σ') → g_G l dC dI ad ca shM X cX12_fit 3 RX12 (some .int) (gR 4) (some (.int r0)) σ' 18 [(0, .ref 0), (1, .int v1), (2, .int v2)] [] σ) (v2 : Int32) (s0 : Int32) (s1 : Int32)  (σ : gM) (h : fX12_fit_b44 n K18 v2 s0 s1 σ = some (r0, σ')) : g_G l dC dI ad ca shM X cX12_fit 3 RX12 (some .int) (gR 4) (some (.int r0)) σ' 44 [(0, .ref 0), (2, .int v2)] [.int s0, .int s1] σ := by
  unfold fX12_fit_b44 at h
  refine g_ior (pc := 44) dX12_fit_44 ?_
  refine g_istore_n (pc := 45) (lv1 := [(1, .int (s1 ||| s0)), (0, .ref 0), (2, .int v2)]) dX12_fit_45 rfl (by decide) rfl ?_
  refine g_iinc (pc := 46) (v := v2 + 1) (lv1 := [(2, .int (v2 + 1)), (1, .int (s1 ||| s0)), (0, .ref 0)]) dX12_fit_46 2 rfl rfl (by decide) rfl ?_
  refine g_goto (pc := 49) (tgt := 18) dX12_fit_49 (by decide) ?_
  exact g_lv [2, 1, 0] rfl (hK18 (s1 ||| s0) (v2 + 1) σ h)
def fX12_fit_b18 (n : Nat) (K18 : Int32 → Int32 → gM → Option (Int32 × gM)) (v1 : Int32) (v2 : Int32) (σ : gM) : Option (Int32 × gM) := if (σ.1 3 1) ≤ v2 then (some (v1, σ)) else (g_bI (fX12_isFit n v2 σ) (fun r12 σ11 => if r12 = 0 then (fX12_fit_b44 n K18 v2 0 v1 σ11) else (fX12_fit_b44 n K18 v2 (1 <<< (v2 &&& 31)) v1 σ11)))
set_option maxRecDepth 100000 in
theorem tX12_fit_b18 (hE : gEM l dC dI ad ca X) {r0 : Int32} {σ' : gM} (n : Nat) (K18 : Int32 → Int32 → gM → Option (Int32 × gM)) (hK18 : ∀ (v1 : Int32) (v2 : Int32) (σ : gM), K18 v1 v2 σ = some (r0, σ') → g_G l dC dI ad ca shM X cX12_fit 3 RX12 (some .int) (gR 4) (some (.int r0)) σ' 18 [(0, .ref 0), (1, .int v1), (2, .int v2)] [] σ) (v1 : Int32) (v2 : Int32)  (σ : gM) (h : fX12_fit_b18 n K18 v1 v2 σ = some (r0, σ')) : g_G l dC dI ad ca shM X cX12_fit 3 RX12 (some .int) (gR 4) (some (.int r0)) σ' 18 [(0, .ref 0), (1, .int v1), (2, .int v2)] [] σ := by
  unfold fX12_fit_b18 at h
  refine g_iload_n (pc := 18) dX12_fit_18 rfl 2 rfl ?_
  refine g_aload_n (pc := 19) dX12_fit_19 rfl 0 rfl ?_
  refine g_getR (pc := 20) wfX12_17 rfl rfl dX12_fit_20 ?_
  refine g_iconst (pc := 23) (v := 1) dX12_fit_23 (by decide) ?_
  refine g_iald (pc := 24) rfl (by decide) (j := 1) (by decide) dX12_fit_24 ?_
  refine g_icmp_ge (pc := 25) (tgt := 52) dX12_fit_25 (by decide) (fun c9 => ?_) (fun c9 => ?_)
  · have h := g_ift c9 h
    refine g_iload_n (pc := 52) dX12_fit_52 rfl 1 rfl ?_
    cases h
    exact g_iret (pc := 53) rfl rfl rfl rfl dX12_fit_53
  · have h := g_iff c9 h
    refine g_iload_n (pc := 28) dX12_fit_28 rfl 1 rfl ?_
    refine g_aload_n (pc := 29) dX12_fit_29 rfl 0 rfl ?_
    refine g_iload_n (pc := 30) dX12_fit_30 rfl 2 rfl ?_
    obtain ⟨r12, σ11, h10, h⟩ := g_bId h
    refine g_callVi (pc := 31) (st := [.int v1]) hE.1 wvX12_400 rfl rfl (kX12_isFit hE n v2 σ h10) rfl (gR_ok (by decide) (by decide)) (Nat.le_of_ble_eq_true rfl) rfl dX12_fit_31 ?_
    refine g_if_eq (pc := 34) (tgt := 43) dX12_fit_34 (by decide) (fun c13 => ?_) (fun c13 => ?_)
    · have h := g_ift c13 h
      refine g_iconst (pc := 43) (v := 0) dX12_fit_43 (by decide) ?_
      exact g_lv [0, 2] rfl (tX12_fit_b44 hE n K18 hK18 v2 0 v1 σ11 h)
    · have h := g_iff c13 h
      refine g_iconst (pc := 37) (v := 1) dX12_fit_37 (by decide) ?_
      refine g_iload_n (pc := 38) dX12_fit_38 rfl 2 rfl ?_
      refine g_ishl (pc := 39) dX12_fit_39 ?_
      refine g_goto (pc := 40) (tgt := 44) dX12_fit_40 (by decide) ?_
      exact g_lv [0, 2] rfl (tX12_fit_b44 hE n K18 hK18 v2 (1 <<< (v2 &&& 31)) v1 σ11 h)
def fX12_fit_L18 (n : Nat) : Nat → Int32 → Int32 → gM → Option (Int32 × gM)
  | 0 => fun _ _ _ => none
  | k + 1 => fX12_fit_b18 n (fX12_fit_L18 n k)
theorem tX12_fit_L18 (hE : gEM l dC dI ad ca X) {r0 : Int32} {σ' : gM} (n : Nat)  : ∀ (k : Nat) (v1 : Int32) (v2 : Int32) (σ : gM), fX12_fit_L18 n k v1 v2 σ = some (r0, σ') → g_G l dC dI ad ca shM X cX12_fit 3 RX12 (some .int) (gR 4) (some (.int r0)) σ' 18 [(0, .ref 0), (1, .int v1), (2, .int v2)] [] σ := by
  intro k
  induction k with
  | zero => intro v1 v2 σ h; cases h
  | succ k ih => intro v1 v2 σ h; exact tX12_fit_b18 hE n (fX12_fit_L18 n k) ih v1 v2 σ h
def fX12_fit (n : Nat) (σ : gM) : Option (Int32 × gM) := g_let (g_put σ 0 0 0) (fun σ14 => if (σ14.1 0 14) = 0 then (some ((-1), σ14)) else (fX12_fit_L18 n n 0 0 σ14))
set_option maxRecDepth 100000 in
theorem kX12_fit (hE : gEM l dC dI ad ca X) (n : Nat)  (σ : gM) {r0 : Int32} {σ' : gM} (h : fX12_fit n σ = some (r0, σ')) : g_C l dC dI ad ca shM X yX12_fit cX12_fit 3 (some .int) (gR 4) [.ref 0] σ (some (.int r0)) σ' := by
  refine g_entry (by decide +kernel) (Nat.le_of_ble_eq_true rfl) ?_
  refine g_lvE (lv1 := [(0, .ref 0)]) rfl ?_
  unfold fX12_fit at h
  refine g_aload_n (pc := 0) dX12_fit_0 rfl 0 rfl ?_
  refine g_iconst (pc := 1) (v := 0) dX12_fit_1 (by decide) ?_
  obtain ⟨σ14, e15, h⟩ := g_ltd h
  refine g_putI (pc := 2) wfX12_57 rfl rfl rfl rfl e15 dX12_fit_2 ?_
  refine g_aload_n (pc := 5) dX12_fit_5 rfl 0 rfl ?_
  refine g_getI (pc := 6) wfX12_153 rfl rfl dX12_fit_6 ?_
  refine g_if_ne (pc := 9) (tgt := 14) dX12_fit_9 (by decide) (fun c16 => ?_) (fun c16 => ?_)
  · have h := g_iff c16 h
    refine g_iconst (pc := 14) (v := 0) dX12_fit_14 (by decide) ?_
    refine g_istore_n (pc := 15) (lv1 := [(1, .int 0), (0, .ref 0)]) dX12_fit_15 rfl (by decide) rfl ?_
    refine g_iconst (pc := 16) (v := 0) dX12_fit_16 (by decide) ?_
    refine g_istore_n (pc := 17) (lv1 := [(2, .int 0), (1, .int 0), (0, .ref 0)]) dX12_fit_17 rfl (by decide) rfl ?_
    exact g_lv [2, 1, 0] rfl (tX12_fit_L18 hE n n 0 0 σ14 h)
  · have h := g_ift c16 h
    refine g_iconst (pc := 12) (v := (-1)) dX12_fit_12 (by decide) ?_
    cases h
    exact g_iret (pc := 13) rfl rfl rfl rfl dX12_fit_13
def fX12_checked (n : Nat) (v1 : Int32) (σ : gM) : Option (Int32 × gM) := g_let (g_put σ 0 0 0) (fun σ18 => g_bI (fX12_isAddress v1 σ18) (fun r22 σ21 => if r22 = 0 then (some ((-1), σ21)) else (g_bV (fX12_copyRow n 10 616 11 616 0 0 σ21) (fun σ25 => g_bI (fX12_stripeOf v1 σ25) (fun r28 σ27 => g_bI (fX12_scrubs n 11 r28 σ27) (fun r31 σ30 => g_bI (fX12_reads n 11 v1 σ30) (fun r34 σ33 => some (r34, σ33))))))))
set_option maxRecDepth 100000 in
theorem kX12_checked (hE : gEM l dC dI ad ca X) (n : Nat)  (v1 : Int32) (σ : gM) {r0 : Int32} {σ' : gM} (h : fX12_checked n v1 σ = some (r0, σ')) : g_C l dC dI ad ca shM X yX12_checked cX12_checked 3 (some .int) (gR 5) [.ref 0, .int v1] σ (some (.int r0)) σ' := by
  refine g_entry (by decide +kernel) (Nat.le_of_ble_eq_true rfl) ?_
  refine g_lvE (lv1 := [(0, .ref 0), (1, .int v1)]) rfl ?_
  unfold fX12_checked at h
  refine g_aload_n (pc := 0) dX12_checked_0 rfl 0 rfl ?_
  refine g_iconst (pc := 1) (v := 0) dX12_checked_1 (by decide) ?_
  obtain ⟨σ18, e19, h⟩ := g_ltd h
  refine g_putI (pc := 2) wfX12_57 rfl rfl rfl rfl e19 dX12_checked_2 ?_
  refine g_aload_n (pc := 5) dX12_checked_5 rfl 0 rfl ?_
  refine g_iload_n (pc := 6) dX12_checked_6 rfl 1 rfl ?_
  obtain ⟨r22, σ21, h20, h⟩ := g_bId h
  refine g_callVi (pc := 7) (st := []) hE.1 wvX12_281 rfl rfl (kX12_isAddress hE v1 σ18 h20) rfl (gR_ok (by decide) (by decide)) (Nat.le_of_ble_eq_true rfl) rfl dX12_checked_7 ?_
  refine g_if_ne (pc := 10) (tgt := 15) dX12_checked_10 (by decide) (fun c23 => ?_) (fun c23 => ?_)
  · have h := g_iff c23 h
    refine g_aload_n (pc := 15) dX12_checked_15 rfl 0 rfl ?_
    refine g_getR (pc := 16) wfX12_38 rfl rfl dX12_checked_16 ?_
    refine g_iconst (pc := 19) (v := 0) dX12_checked_19 (by decide) ?_
    refine g_aload_n (pc := 20) dX12_checked_20 rfl 0 rfl ?_
    refine g_getR (pc := 21) wfX12_41 rfl rfl dX12_checked_21 ?_
    refine g_iconst (pc := 24) (v := 0) dX12_checked_24 (by decide) ?_
    obtain ⟨σ25, h24, h⟩ := g_bVd h
    refine g_callSv (pc := 25) (st := []) hE.1 wsX12_349 (kX12_copyRow hE n 10 616 rfl 11 616 rfl 0 0 σ21 h24) rfl (gR_ok (by decide) (by decide)) (Nat.le_of_ble_eq_true rfl) rfl dX12_checked_25 ?_
    refine g_aload_n (pc := 28) dX12_checked_28 rfl 0 rfl ?_
    refine g_aload_n (pc := 29) dX12_checked_29 rfl 0 rfl ?_
    refine g_getR (pc := 30) wfX12_41 rfl rfl dX12_checked_30 ?_
    refine g_aload_n (pc := 33) dX12_checked_33 rfl 0 rfl ?_
    refine g_iload_n (pc := 34) dX12_checked_34 rfl 1 rfl ?_
    obtain ⟨r28, σ27, h26, h⟩ := g_bId h
    refine g_callVi (pc := 35) (st := [.ref 11, .ref 0]) hE.1 wvX12_217 rfl rfl (kX12_stripeOf hE v1 σ25 h26) rfl (gR_ok (by decide) (by decide)) (Nat.le_of_ble_eq_true rfl) rfl dX12_checked_35 ?_
    obtain ⟨r31, σ30, h29, h⟩ := g_bId h
    refine g_callVi (pc := 38) (st := []) hE.1 wvX12_343 rfl rfl (kX12_scrubs hE n 11 rfl r28 σ27 h29) rfl (gR_ok (by decide) (by decide)) (Nat.le_of_ble_eq_true rfl) rfl dX12_checked_38 ?_
    refine g_istore_n (pc := 41) (lv1 := [(2, .int r31), (0, .ref 0), (1, .int v1)]) dX12_checked_41 rfl (by decide) rfl ?_
    refine g_aload_n (pc := 42) dX12_checked_42 rfl 1 rfl ?_
    refine g_aload_n (pc := 43) dX12_checked_43 rfl 1 rfl ?_
    refine g_getR (pc := 44) wfX12_41 rfl rfl dX12_checked_44 ?_
    refine g_iload_n (pc := 47) dX12_checked_47 rfl 2 rfl ?_
    obtain ⟨r34, σ33, h32, h⟩ := g_bId h
    refine g_callVi (pc := 48) (st := []) hE.1 wvX12_309 rfl rfl (kX12_reads hE n 11 rfl v1 σ30 h32) rfl (gR_ok (by decide) (by decide)) (Nat.le_of_ble_eq_true rfl) rfl dX12_checked_48 ?_
    cases h
    exact g_iret (pc := 51) rfl rfl rfl rfl dX12_checked_51
  · have h := g_ift c23 h
    refine g_iconst (pc := 13) (v := (-1)) dX12_checked_13 (by decide) ?_
    cases h
    exact g_iret (pc := 14) rfl rfl rfl rfl dX12_checked_14
def fX12_equal_b55 (n : Nat) (K18 : Int32 → Int32 → gM → Option (Int32 × gM)) (v2 : Int32) (s0 : Int32) (s1 : Int32) (σ : gM) : Option (Int32 × gM) := K18 (s1 + s0) (v2 + 1) σ
set_option maxRecDepth 100000 in
theorem tX12_equal_b55 (hE : gEM l dC dI ad ca X) {r0 : Int32} {σ' : gM} (n : Nat) (K18 : Int32 → Int32 → gM → Option (Int32 × gM)) (hK18 : ∀ (v1 : Int32) (v2 : Int32) (σ : gM), K18 v1 v2 σ = some (r0, σ') → g_G l dC dI ad ca shM X cX12_equal 4 RX12 (some .int) (gR 4) (some (.int r0)) σ' 18 [(0, .ref 0), (1, .int v1), (2, .int v2)] [] σ) (v2 : Int32) (s0 : Int32) (s1 : Int32)  (σ : gM) (h : fX12_equal_b55 n K18 v2 s0 s1 σ = some (r0, σ')) : g_G l dC dI ad ca shM X cX12_equal 4 RX12 (some .int) (gR 4) (some (.int r0)) σ' 55 [(0, .ref 0), (2, .int v2)] [.int s0, .int s1] σ := by
  unfold fX12_equal_b55 at h
  refine g_iadd (pc := 55) dX12_equal_55 ?_
  refine g_istore_n (pc := 56) (lv1 := [(1, .int (s1 + s0)), (0, .ref 0), (2, .int v2)]) dX12_equal_56 rfl (by decide) rfl ?_
  refine g_iinc (pc := 57) (v := v2 + 1) (lv1 := [(2, .int (v2 + 1)), (1, .int (s1 + s0)), (0, .ref 0)]) dX12_equal_57 2 rfl rfl (by decide) rfl ?_
  refine g_goto (pc := 60) (tgt := 18) dX12_equal_60 (by decide) ?_
  exact g_lv [2, 1, 0] rfl (hK18 (s1 + s0) (v2 + 1) σ h)
def fX12_equal_b18 (n : Nat) (K18 : Int32 → Int32 → gM → Option (Int32 × gM)) (v1 : Int32) (v2 : Int32) (σ : gM) : Option (Int32 × gM) := if (σ.1 0 14) ≤ v2 then (some (v1, σ)) else (g_bI (fX12_reads n 10 v2 σ) (fun r15 σ14 => g_bI (fX12_reads n 12 v2 σ14) (fun r18 σ17 => if r18 = r15 then (fX12_equal_b55 n K18 v2 1 v1 σ17) else (fX12_equal_b55 n K18 v2 0 v1 σ17))))
set_option maxRecDepth 100000 in
theorem tX12_equal_b18 (hE : gEM l dC dI ad ca X) {r0 : Int32} {σ' : gM} (n : Nat) (K18 : Int32 → Int32 → gM → Option (Int32 × gM)) (hK18 : ∀ (v1 : Int32) (v2 : Int32) (σ : gM), K18 v1 v2 σ = some (r0, σ') → g_G l dC dI ad ca shM X cX12_equal 4 RX12 (some .int) (gR 4) (some (.int r0)) σ' 18 [(0, .ref 0), (1, .int v1), (2, .int v2)] [] σ) (v1 : Int32) (v2 : Int32)  (σ : gM) (h : fX12_equal_b18 n K18 v1 v2 σ = some (r0, σ')) : g_G l dC dI ad ca shM X cX12_equal 4 RX12 (some .int) (gR 4) (some (.int r0)) σ' 18 [(0, .ref 0), (1, .int v1), (2, .int v2)] [] σ := by
  unfold fX12_equal_b18 at h
  refine g_iload_n (pc := 18) dX12_equal_18 rfl 2 rfl ?_
  refine g_aload_n (pc := 19) dX12_equal_19 rfl 0 rfl ?_
  refine g_getI (pc := 20) wfX12_153 rfl rfl dX12_equal_20 ?_
  refine g_icmp_ge (pc := 23) (tgt := 63) dX12_equal_23 (by decide) (fun c12 => ?_) (fun c12 => ?_)
  · have h := g_ift c12 h
    refine g_iload_n (pc := 63) dX12_equal_63 rfl 1 rfl ?_
    cases h
    exact g_iret (pc := 64) rfl rfl rfl rfl dX12_equal_64
  · have h := g_iff c12 h
    refine g_aload_n (pc := 26) dX12_equal_26 rfl 0 rfl ?_
    refine g_aload_n (pc := 27) dX12_equal_27 rfl 0 rfl ?_
    refine g_getR (pc := 28) wfX12_38 rfl rfl dX12_equal_28 ?_
    refine g_iload_n (pc := 31) dX12_equal_31 rfl 2 rfl ?_
    obtain ⟨r15, σ14, h13, h⟩ := g_bId h
    refine g_callVi (pc := 32) (st := []) hE.1 wvX12_309 rfl rfl (kX12_reads hE n 10 rfl v2 σ h13) rfl (gR_ok (by decide) (by decide)) (Nat.le_of_ble_eq_true rfl) rfl dX12_equal_32 ?_
    refine g_istore_n (pc := 35) (lv1 := [(3, .int r15), (0, .ref 0), (1, .int v1), (2, .int v2)]) dX12_equal_35 rfl (by decide) rfl ?_
    refine g_iload_n (pc := 36) dX12_equal_36 rfl 2 rfl ?_
    refine g_aload_n (pc := 37) dX12_equal_37 rfl 1 rfl ?_
    refine g_aload_n (pc := 38) dX12_equal_38 rfl 1 rfl ?_
    refine g_getR (pc := 39) wfX12_44 rfl rfl dX12_equal_39 ?_
    refine g_iload_n (pc := 42) dX12_equal_42 rfl 3 rfl ?_
    obtain ⟨r18, σ17, h16, h⟩ := g_bId h
    refine g_callVi (pc := 43) (st := [.int v1]) hE.1 wvX12_309 rfl rfl (kX12_reads hE n 12 rfl v2 σ14 h16) rfl (gR_ok (by decide) (by decide)) (Nat.le_of_ble_eq_true rfl) rfl dX12_equal_43 ?_
    refine g_iload_n (pc := 46) dX12_equal_46 rfl 0 rfl ?_
    refine g_icmp_ne (pc := 47) (tgt := 54) dX12_equal_47 (by decide) (fun c19 => ?_) (fun c19 => ?_)
    · have h := g_iff c19 h
      refine g_iconst (pc := 54) (v := 0) dX12_equal_54 (by decide) ?_
      exact g_lv [1, 3] rfl (tX12_equal_b55 hE n K18 hK18 v2 0 v1 σ17 h)
    · have h := g_ift c19 h
      refine g_iconst (pc := 50) (v := 1) dX12_equal_50 (by decide) ?_
      refine g_goto (pc := 51) (tgt := 55) dX12_equal_51 (by decide) ?_
      exact g_lv [1, 3] rfl (tX12_equal_b55 hE n K18 hK18 v2 1 v1 σ17 h)
def fX12_equal_L18 (n : Nat) : Nat → Int32 → Int32 → gM → Option (Int32 × gM)
  | 0 => fun _ _ _ => none
  | k + 1 => fX12_equal_b18 n (fX12_equal_L18 n k)
theorem tX12_equal_L18 (hE : gEM l dC dI ad ca X) {r0 : Int32} {σ' : gM} (n : Nat)  : ∀ (k : Nat) (v1 : Int32) (v2 : Int32) (σ : gM), fX12_equal_L18 n k v1 v2 σ = some (r0, σ') → g_G l dC dI ad ca shM X cX12_equal 4 RX12 (some .int) (gR 4) (some (.int r0)) σ' 18 [(0, .ref 0), (1, .int v1), (2, .int v2)] [] σ := by
  intro k
  induction k with
  | zero => intro v1 v2 σ h; cases h
  | succ k ih => intro v1 v2 σ h; exact tX12_equal_b18 hE n (fX12_equal_L18 n k) ih v1 v2 σ h
def fX12_equal (n : Nat) (σ : gM) : Option (Int32 × gM) := g_let (g_put σ 0 0 0) (fun σ20 => if (σ20.1 0 23) = 0 then (some ((-1), σ20)) else (fX12_equal_L18 n n 0 0 σ20))
set_option maxRecDepth 100000 in
theorem kX12_equal (hE : gEM l dC dI ad ca X) (n : Nat)  (σ : gM) {r0 : Int32} {σ' : gM} (h : fX12_equal n σ = some (r0, σ')) : g_C l dC dI ad ca shM X yX12_equal cX12_equal 4 (some .int) (gR 4) [.ref 0] σ (some (.int r0)) σ' := by
  refine g_entry (by decide +kernel) (Nat.le_of_ble_eq_true rfl) ?_
  refine g_lvE (lv1 := [(0, .ref 0)]) rfl ?_
  unfold fX12_equal at h
  refine g_aload_n (pc := 0) dX12_equal_0 rfl 0 rfl ?_
  refine g_iconst (pc := 1) (v := 0) dX12_equal_1 (by decide) ?_
  obtain ⟨σ20, e21, h⟩ := g_ltd h
  refine g_putI (pc := 2) wfX12_57 rfl rfl rfl rfl e21 dX12_equal_2 ?_
  refine g_aload_n (pc := 5) dX12_equal_5 rfl 0 rfl ?_
  refine g_getI (pc := 6) wfX12_184 rfl rfl dX12_equal_6 ?_
  refine g_if_ne (pc := 9) (tgt := 14) dX12_equal_9 (by decide) (fun c22 => ?_) (fun c22 => ?_)
  · have h := g_iff c22 h
    refine g_iconst (pc := 14) (v := 0) dX12_equal_14 (by decide) ?_
    refine g_istore_n (pc := 15) (lv1 := [(1, .int 0), (0, .ref 0)]) dX12_equal_15 rfl (by decide) rfl ?_
    refine g_iconst (pc := 16) (v := 0) dX12_equal_16 (by decide) ?_
    refine g_istore_n (pc := 17) (lv1 := [(2, .int 0), (1, .int 0), (0, .ref 0)]) dX12_equal_17 rfl (by decide) rfl ?_
    exact g_lv [2, 1, 0] rfl (tX12_equal_L18 hE n n 0 0 σ20 h)
  · have h := g_ift c22 h
    refine g_iconst (pc := 12) (v := (-1)) dX12_equal_12 (by decide) ?_
    cases h
    exact g_iret (pc := 13) rfl rfl rfl rfl dX12_equal_13
def fX12_span_b105 (n : Nat) (K34 : Int32 → Int32 → Int32 → Int32 → Int32 → gM → Option (Int32 × gM)) (v1 : Int32) (v2 : Int32) (v3 : Int32) (v4 : Int32) (v5 : Int32) (σ : gM) : Option (Int32 × gM) := K34 v1 v2 v3 v4 (v5 + 1) σ
set_option maxRecDepth 100000 in
theorem tX12_span_b105 (hE : gEM l dC dI ad ca X) {r0 : Int32} {σ' : gM} (n : Nat) (K34 : Int32 → Int32 → Int32 → Int32 → Int32 → gM → Option (Int32 × gM)) (hK34 : ∀ (v1 : Int32) (v2 : Int32) (v3 : Int32) (v4 : Int32) (v5 : Int32) (σ : gM), K34 v1 v2 v3 v4 v5 σ = some (r0, σ') → g_G l dC dI ad ca shM X cX12_span 6 RX12 (some .int) (gR 2) (some (.int r0)) σ' 34 [(0, .ref 0), (1, .int v1), (2, .int v2), (3, .int v3), (4, .int v4), (5, .int v5)] [] σ) (v1 : Int32) (v2 : Int32) (v3 : Int32) (v4 : Int32) (v5 : Int32)  (σ : gM) (h : fX12_span_b105 n K34 v1 v2 v3 v4 v5 σ = some (r0, σ')) : g_G l dC dI ad ca shM X cX12_span 6 RX12 (some .int) (gR 2) (some (.int r0)) σ' 105 [(0, .ref 0), (1, .int v1), (2, .int v2), (3, .int v3), (4, .int v4), (5, .int v5)] [] σ := by
  unfold fX12_span_b105 at h
  refine g_iinc (pc := 105) (v := v5 + 1) (lv1 := [(5, .int (v5 + 1)), (0, .ref 0), (1, .int v1), (2, .int v2), (3, .int v3), (4, .int v4)]) dX12_span_105 5 rfl rfl (by decide) rfl ?_
  refine g_goto (pc := 108) (tgt := 34) dX12_span_108 (by decide) ?_
  exact g_lv [1, 2, 3, 4, 5, 0] rfl (hK34 v1 v2 v3 v4 (v5 + 1) σ h)
def fX12_span_b83 (n : Nat) (K34 : Int32 → Int32 → Int32 → Int32 → Int32 → gM → Option (Int32 × gM)) (v1 : Int32) (v2 : Int32) (v3 : Int32) (v5 : Int32) (s0 : Int32) (σ : gM) : Option (Int32 × gM) := if v2 < s0 then (fX12_span_b105 n K34 v1 s0 ((v5 - s0) + 1) s0 v5 σ) else (fX12_span_b105 n K34 v1 v2 v3 s0 v5 σ)
set_option maxRecDepth 100000 in
theorem tX12_span_b83 (hE : gEM l dC dI ad ca X) {r0 : Int32} {σ' : gM} (n : Nat) (K34 : Int32 → Int32 → Int32 → Int32 → Int32 → gM → Option (Int32 × gM)) (hK34 : ∀ (v1 : Int32) (v2 : Int32) (v3 : Int32) (v4 : Int32) (v5 : Int32) (σ : gM), K34 v1 v2 v3 v4 v5 σ = some (r0, σ') → g_G l dC dI ad ca shM X cX12_span 6 RX12 (some .int) (gR 2) (some (.int r0)) σ' 34 [(0, .ref 0), (1, .int v1), (2, .int v2), (3, .int v3), (4, .int v4), (5, .int v5)] [] σ) (v1 : Int32) (v2 : Int32) (v3 : Int32) (v5 : Int32) (s0 : Int32)  (σ : gM) (h : fX12_span_b83 n K34 v1 v2 v3 v5 s0 σ = some (r0, σ')) : g_G l dC dI ad ca shM X cX12_span 6 RX12 (some .int) (gR 2) (some (.int r0)) σ' 83 [(0, .ref 0), (1, .int v1), (2, .int v2), (3, .int v3), (5, .int v5)] [.int s0] σ := by
  unfold fX12_span_b83 at h
  refine g_istore (pc := 83) (lv1 := [(4, .int s0), (0, .ref 0), (1, .int v1), (2, .int v2), (3, .int v3), (5, .int v5)]) dX12_span_83 (by decide) rfl ?_
  refine g_iload (pc := 85) dX12_span_85 0 rfl ?_
  refine g_iload_n (pc := 87) dX12_span_87 rfl 3 rfl ?_
  refine g_icmp_gt (pc := 88) (tgt := 94) dX12_span_88 (by decide) (fun c27 => ?_) (fun c27 => ?_)
  · have h := g_ift c27 h
    refine g_iload (pc := 94) dX12_span_94 0 rfl ?_
    refine g_istore_n (pc := 96) (lv1 := [(2, .int s0), (4, .int s0), (0, .ref 0), (1, .int v1), (3, .int v3), (5, .int v5)]) dX12_span_96 rfl (by decide) rfl ?_
    refine g_iload (pc := 97) dX12_span_97 5 rfl ?_
    refine g_iload (pc := 99) dX12_span_99 1 rfl ?_
    refine g_isub (pc := 101) dX12_span_101 ?_
    refine g_iconst (pc := 102) (v := 1) dX12_span_102 (by decide) ?_
    refine g_iadd (pc := 103) dX12_span_103 ?_
    refine g_istore_n (pc := 104) (lv1 := [(3, .int ((v5 - s0) + 1)), (2, .int s0), (4, .int s0), (0, .ref 0), (1, .int v1), (5, .int v5)]) dX12_span_104 rfl (by decide) rfl ?_
    exact g_lv [3, 4, 1, 0, 2, 5] rfl (tX12_span_b105 hE n K34 hK34 v1 s0 ((v5 - s0) + 1) s0 v5 σ h)
  · have h := g_iff c27 h
    refine g_goto (pc := 91) (tgt := 105) dX12_span_91 (by decide) ?_
    exact g_lv [1, 2, 3, 4, 0, 5] rfl (tX12_span_b105 hE n K34 hK34 v1 v2 v3 s0 v5 σ h)
def fX12_span_b34 (n : Nat) (K34 : Int32 → Int32 → Int32 → Int32 → Int32 → gM → Option (Int32 × gM)) (v1 : Int32) (v2 : Int32) (v3 : Int32) (v4 : Int32) (v5 : Int32) (σ : gM) : Option (Int32 × gM) := if (σ.1 0 14) ≤ v5 then (if v1 = 0 then (some (v2, σ)) else (some (v3, σ))) else (g_bI (fX12_stripeOf v5 σ) (fun r32 σ31 => g_bI (fX12_partOf v5 σ31) (fun r35 σ34 => g_bI (fX12_diskOf r32 r35 σ34) (fun r38 σ37 => g_bI (fX12_stripeOf v5 σ37) (fun r41 σ40 => g_bI (fX12_isThere 10 r38 r41 σ40) (fun r44 σ43 => if r44 = 0 then (fX12_span_b83 n K34 v1 v2 v3 v5 (v4 + 1) σ43) else (fX12_span_b83 n K34 v1 v2 v3 v5 0 σ43)))))))
set_option maxRecDepth 100000 in
theorem tX12_span_b34 (hE : gEM l dC dI ad ca X) {r0 : Int32} {σ' : gM} (n : Nat) (K34 : Int32 → Int32 → Int32 → Int32 → Int32 → gM → Option (Int32 × gM)) (hK34 : ∀ (v1 : Int32) (v2 : Int32) (v3 : Int32) (v4 : Int32) (v5 : Int32) (σ : gM), K34 v1 v2 v3 v4 v5 σ = some (r0, σ') → g_G l dC dI ad ca shM X cX12_span 6 RX12 (some .int) (gR 2) (some (.int r0)) σ' 34 [(0, .ref 0), (1, .int v1), (2, .int v2), (3, .int v3), (4, .int v4), (5, .int v5)] [] σ) (v1 : Int32) (v2 : Int32) (v3 : Int32) (v4 : Int32) (v5 : Int32)  (σ : gM) (h : fX12_span_b34 n K34 v1 v2 v3 v4 v5 σ = some (r0, σ')) : g_G l dC dI ad ca shM X cX12_span 6 RX12 (some .int) (gR 2) (some (.int r0)) σ' 34 [(0, .ref 0), (1, .int v1), (2, .int v2), (3, .int v3), (4, .int v4), (5, .int v5)] [] σ := by
  unfold fX12_span_b34 at h
  refine g_iload (pc := 34) dX12_span_34 5 rfl ?_
  refine g_aload_n (pc := 36) dX12_span_36 rfl 0 rfl ?_
  refine g_getI (pc := 37) wfX12_153 rfl rfl dX12_span_37 ?_
  refine g_icmp_ge (pc := 40) (tgt := 111) dX12_span_40 (by decide) (fun c28 => ?_) (fun c28 => ?_)
  · have h := g_ift c28 h
    refine g_iload_n (pc := 111) dX12_span_111 rfl 1 rfl ?_
    refine g_if_ne (pc := 112) (tgt := 119) dX12_span_112 (by decide) (fun c29 => ?_) (fun c29 => ?_)
    · have h := g_iff c29 h
      refine g_iload_n (pc := 119) dX12_span_119 rfl 3 rfl ?_
      cases h
      exact g_iret (pc := 120) rfl rfl rfl rfl dX12_span_120
    · have h := g_ift c29 h
      refine g_iload_n (pc := 115) dX12_span_115 rfl 2 rfl ?_
      refine g_goto (pc := 116) (tgt := 120) dX12_span_116 (by decide) ?_
      cases h
      exact g_iret (pc := 120) rfl rfl rfl rfl dX12_span_120
  · have h := g_iff c28 h
    refine g_aload_n (pc := 43) dX12_span_43 rfl 0 rfl ?_
    refine g_getR (pc := 44) wfX12_38 rfl rfl dX12_span_44 ?_
    refine g_aload_n (pc := 47) dX12_span_47 rfl 0 rfl ?_
    refine g_aload_n (pc := 48) dX12_span_48 rfl 0 rfl ?_
    refine g_iload (pc := 49) dX12_span_49 5 rfl ?_
    obtain ⟨r32, σ31, h30, h⟩ := g_bId h
    refine g_callVi (pc := 51) (st := [.ref 0, .ref 10]) hE.1 wvX12_217 rfl rfl (kX12_stripeOf hE v5 σ h30) rfl (gR_ok (by decide) (by decide)) (Nat.le_of_ble_eq_true rfl) rfl dX12_span_51 ?_
    refine g_aload_n (pc := 54) dX12_span_54 rfl 0 rfl ?_
    refine g_iload (pc := 55) dX12_span_55 5 rfl ?_
    obtain ⟨r35, σ34, h33, h⟩ := g_bId h
    refine g_callVi (pc := 57) (st := [.int r32, .ref 0, .ref 10]) hE.1 wvX12_230 rfl rfl (kX12_partOf hE v5 σ31 h33) rfl (gR_ok (by decide) (by decide)) (Nat.le_of_ble_eq_true rfl) rfl dX12_span_57 ?_
    obtain ⟨r38, σ37, h36, h⟩ := g_bId h
    refine g_callVi (pc := 60) (st := [.ref 10]) hE.1 wvX12_199 rfl rfl (kX12_diskOf hE r32 r35 σ34 h36) rfl (gR_ok (by decide) (by decide)) (Nat.le_of_ble_eq_true rfl) rfl dX12_span_60 ?_
    refine g_aload_n (pc := 63) dX12_span_63 rfl 0 rfl ?_
    refine g_iload (pc := 64) dX12_span_64 5 rfl ?_
    obtain ⟨r41, σ40, h39, h⟩ := g_bId h
    refine g_callVi (pc := 66) (st := [.int r38, .ref 10]) hE.1 wvX12_217 rfl rfl (kX12_stripeOf hE v5 σ37 h39) rfl (gR_ok (by decide) (by decide)) (Nat.le_of_ble_eq_true rfl) rfl dX12_span_66 ?_
    obtain ⟨r44, σ43, h42, h⟩ := g_bId h
    refine g_callSi (pc := 69) (st := []) hE.1 wsX12_202 (kX12_isThere hE 10 rfl r38 r41 σ40 h42) rfl (gR_ok (by decide) (by decide)) (Nat.le_of_ble_eq_true rfl) rfl dX12_span_69 ?_
    refine g_if_eq (pc := 72) (tgt := 79) dX12_span_72 (by decide) (fun c45 => ?_) (fun c45 => ?_)
    · have h := g_ift c45 h
      refine g_iload (pc := 79) dX12_span_79 4 rfl ?_
      refine g_iconst (pc := 81) (v := 1) dX12_span_81 (by decide) ?_
      refine g_iadd (pc := 82) dX12_span_82 ?_
      exact g_lv [0, 1, 2, 3, 5] rfl (tX12_span_b83 hE n K34 hK34 v1 v2 v3 v5 (v4 + 1) σ43 h)
    · have h := g_iff c45 h
      refine g_iconst (pc := 75) (v := 0) dX12_span_75 (by decide) ?_
      refine g_goto (pc := 76) (tgt := 83) dX12_span_76 (by decide) ?_
      exact g_lv [0, 1, 2, 3, 5] rfl (tX12_span_b83 hE n K34 hK34 v1 v2 v3 v5 0 σ43 h)
def fX12_span_L34 (n : Nat) : Nat → Int32 → Int32 → Int32 → Int32 → Int32 → gM → Option (Int32 × gM)
  | 0 => fun _ _ _ _ _ _ => none
  | k + 1 => fX12_span_b34 n (fX12_span_L34 n k)
theorem tX12_span_L34 (hE : gEM l dC dI ad ca X) {r0 : Int32} {σ' : gM} (n : Nat)  : ∀ (k : Nat) (v1 : Int32) (v2 : Int32) (v3 : Int32) (v4 : Int32) (v5 : Int32) (σ : gM), fX12_span_L34 n k v1 v2 v3 v4 v5 σ = some (r0, σ') → g_G l dC dI ad ca shM X cX12_span 6 RX12 (some .int) (gR 2) (some (.int r0)) σ' 34 [(0, .ref 0), (1, .int v1), (2, .int v2), (3, .int v3), (4, .int v4), (5, .int v5)] [] σ := by
  intro k
  induction k with
  | zero => intro v1 v2 v3 v4 v5 σ h; cases h
  | succ k ih => intro v1 v2 v3 v4 v5 σ h; exact tX12_span_b34 hE n (fX12_span_L34 n k) ih v1 v2 v3 v4 v5 σ h
def fX12_span (n : Nat) (v1 : Int32) (σ : gM) : Option (Int32 × gM) := g_let (g_put σ 0 0 0) (fun σ46 => if (σ46.1 0 14) = 0 then (some ((-1), σ46)) else (g_bI (fX12_isIn v1.toInt64 0 1 σ46) (fun r51 σ50 => if r51 = 0 then (some ((-1), σ50)) else (fX12_span_L34 n n v1 0 (-1) 0 0 σ50))))
set_option maxRecDepth 100000 in
theorem kX12_span (hE : gEM l dC dI ad ca X) (n : Nat)  (v1 : Int32) (σ : gM) {r0 : Int32} {σ' : gM} (h : fX12_span n v1 σ = some (r0, σ')) : g_C l dC dI ad ca shM X yX12_span cX12_span 6 (some .int) (gR 2) [.ref 0, .int v1] σ (some (.int r0)) σ' := by
  refine g_entry (by decide +kernel) (Nat.le_of_ble_eq_true rfl) ?_
  refine g_lvE (lv1 := [(0, .ref 0), (1, .int v1)]) rfl ?_
  unfold fX12_span at h
  refine g_aload_n (pc := 0) dX12_span_0 rfl 0 rfl ?_
  refine g_iconst (pc := 1) (v := 0) dX12_span_1 (by decide) ?_
  obtain ⟨σ46, e47, h⟩ := g_ltd h
  refine g_putI (pc := 2) wfX12_57 rfl rfl rfl rfl e47 dX12_span_2 ?_
  refine g_aload_n (pc := 5) dX12_span_5 rfl 0 rfl ?_
  refine g_getI (pc := 6) wfX12_153 rfl rfl dX12_span_6 ?_
  refine g_if_eq (pc := 9) (tgt := 22) dX12_span_9 (by decide) (fun c48 => ?_) (fun c48 => ?_)
  · have h := g_ift c48 h
    refine g_iconst (pc := 22) (v := (-1)) dX12_span_22 (by decide) ?_
    cases h
    exact g_iret (pc := 23) rfl rfl rfl rfl dX12_span_23
  · have h := g_iff c48 h
    refine g_iload_n (pc := 12) dX12_span_12 rfl 1 rfl ?_
    refine g_i2l (pc := 13) dX12_span_13 ?_
    refine g_lconst (pc := 14) (v := 0) dX12_span_14 (by decide) ?_
    refine g_lconst (pc := 15) (v := 1) dX12_span_15 (by decide) ?_
    obtain ⟨r51, σ50, h49, h⟩ := g_bId h
    refine g_callSi (pc := 16) (st := []) hE.1 wsX12_117 (kX12_isIn hE v1.toInt64 0 1 σ46 h49) rfl (gR_ok (by decide) (by decide)) (Nat.le_of_ble_eq_true rfl) rfl dX12_span_16 ?_
    refine g_if_ne (pc := 19) (tgt := 24) dX12_span_19 (by decide) (fun c52 => ?_) (fun c52 => ?_)
    · have h := g_iff c52 h
      refine g_iconst (pc := 24) (v := 0) dX12_span_24 (by decide) ?_
      refine g_istore_n (pc := 25) (lv1 := [(2, .int 0), (0, .ref 0), (1, .int v1)]) dX12_span_25 rfl (by decide) rfl ?_
      refine g_iconst (pc := 26) (v := (-1)) dX12_span_26 (by decide) ?_
      refine g_istore_n (pc := 27) (lv1 := [(3, .int (-1)), (2, .int 0), (0, .ref 0), (1, .int v1)]) dX12_span_27 rfl (by decide) rfl ?_
      refine g_iconst (pc := 28) (v := 0) dX12_span_28 (by decide) ?_
      refine g_istore (pc := 29) (lv1 := [(4, .int 0), (3, .int (-1)), (2, .int 0), (0, .ref 0), (1, .int v1)]) dX12_span_29 (by decide) rfl ?_
      refine g_iconst (pc := 31) (v := 0) dX12_span_31 (by decide) ?_
      refine g_istore (pc := 32) (lv1 := [(5, .int 0), (4, .int 0), (3, .int (-1)), (2, .int 0), (0, .ref 0), (1, .int v1)]) dX12_span_32 (by decide) rfl ?_
      exact g_lv [4, 5, 3, 2, 1, 0] rfl (tX12_span_L34 hE n n v1 0 (-1) 0 0 σ50 h)
    · have h := g_ift c52 h
      refine g_iconst (pc := 22) (v := (-1)) dX12_span_22 (by decide) ?_
      cases h
      exact g_iret (pc := 23) rfl rfl rfl rfl dX12_span_23
def fX12_isScript (v1 : Int32) (σ : gM) : Option (Int32 × gM) := g_bI (fX12_isIn v1.toInt64 0 (((σ.1 0 12) - 1).toInt64) σ) (fun r7 σ6 => if r7 &&& 1 = r7 then (some (r7, σ6)) else none)
set_option maxRecDepth 100000 in
theorem kX12_isScript (hE : gEM l dC dI ad ca X)  (v1 : Int32) (σ : gM) {r0 : Int32} {σ' : gM} (h : fX12_isScript v1 σ = some (r0, σ')) : g_C l dC dI ad ca shM X yX12_isScript cX12_isScript 2 (some .boolean) (gR 1) [.ref 0, .int v1] σ (some (.int r0)) σ' := by
  refine g_entry (by decide +kernel) (Nat.le_of_ble_eq_true rfl) ?_
  refine g_lvE (lv1 := [(0, .ref 0), (1, .int v1)]) rfl ?_
  unfold fX12_isScript at h
  refine g_iload_n (pc := 0) dX12_isScript_0 rfl 1 rfl ?_
  refine g_i2l (pc := 1) dX12_isScript_1 ?_
  refine g_lconst (pc := 2) (v := 0) dX12_isScript_2 (by decide) ?_
  refine g_aload_n (pc := 3) dX12_isScript_3 rfl 0 rfl ?_
  refine g_getI (pc := 4) wfX12_188 rfl rfl dX12_isScript_4 ?_
  refine g_iconst (pc := 7) (v := 1) dX12_isScript_7 (by decide) ?_
  refine g_isub (pc := 8) dX12_isScript_8 ?_
  refine g_i2l (pc := 9) dX12_isScript_9 ?_
  obtain ⟨r7, σ6, h5, h⟩ := g_bId h
  refine g_callSi (pc := 10) (st := []) hE.1 wsX12_117 (kX12_isIn hE v1.toInt64 0 (((σ.1 0 12) - 1).toInt64) σ h5) rfl (gR_ok (by decide) (by decide)) (Nat.le_of_ble_eq_true rfl) rfl dX12_isScript_10 ?_
  obtain ⟨c8, h⟩ := g_gd h
  cases h
  exact g_iret (pc := 13) rfl (g_nb c8) rfl rfl dX12_isScript_13
def fX12_step_b43 (σ : gM) : Option (Int32 × gM) := some ((-1000000), σ)
set_option maxRecDepth 100000 in
theorem tX12_step_b43 (hE : gEM l dC dI ad ca X) {r0 : Int32} {σ' : gM}  (σ : gM) (h : fX12_step_b43 σ = some (r0, σ')) : g_G l dC dI ad ca shM X cX12_step 4 RX12 (some .int) (gR 2) (some (.int r0)) σ' 43 [] [] σ := by
  unfold fX12_step_b43 at h
  refine g_ldcw (pc := 43) wkX12_393 dX12_step_43 ?_
  cases h
  exact g_iret (pc := 46) rfl rfl rfl rfl dX12_step_46
def fX12_step (v1 : Int32) (v2 : Int32) (v3 : Int32) (σ : gM) : Option (Int32 × gM) := g_let (g_put σ 0 0 0) (fun σ17 => g_bI (fX12_isScript v1 σ17) (fun r21 σ20 => if r21 = 0 then (fX12_step_b43 σ20) else (if ¬ (v1 < 0 ∨ 5 ≤ v1.toNatClampNeg) then (g_bI (fX12_isIn v2.toInt64 0 (((σ20.1 7 v1.toNatClampNeg) - 1).toInt64) σ20) (fun r26 σ25 => if r26 = 0 then (fX12_step_b43 σ25) else (g_bI (fX12_isIn v3.toInt64 0 4 σ25) (fun r30 σ29 => if r30 = 0 then (fX12_step_b43 σ29) else (if ¬ (((5 * ((16 * v1) + v2)) + v3) < 0 ∨ 400 ≤ ((5 * ((16 * v1) + v2)) + v3).toNatClampNeg) then (some (σ29.1 6 (((5 * ((16 * v1) + v2)) + v3).toNatClampNeg), σ29)) else none))))) else none)))
set_option maxRecDepth 100000 in
theorem kX12_step (hE : gEM l dC dI ad ca X)  (v1 : Int32) (v2 : Int32) (v3 : Int32) (σ : gM) {r0 : Int32} {σ' : gM} (h : fX12_step v1 v2 v3 σ = some (r0, σ')) : g_C l dC dI ad ca shM X yX12_step cX12_step 4 (some .int) (gR 2) [.ref 0, .int v1, .int v2, .int v3] σ (some (.int r0)) σ' := by
  refine g_entry (by decide +kernel) (Nat.le_of_ble_eq_true rfl) ?_
  refine g_lvE (lv1 := [(0, .ref 0), (1, .int v1), (2, .int v2), (3, .int v3)]) rfl ?_
  unfold fX12_step at h
  refine g_aload_n (pc := 0) dX12_step_0 rfl 0 rfl ?_
  refine g_iconst (pc := 1) (v := 0) dX12_step_1 (by decide) ?_
  obtain ⟨σ17, e18, h⟩ := g_ltd h
  refine g_putI (pc := 2) wfX12_57 rfl rfl rfl rfl e18 dX12_step_2 ?_
  refine g_aload_n (pc := 5) dX12_step_5 rfl 0 rfl ?_
  refine g_iload_n (pc := 6) dX12_step_6 rfl 1 rfl ?_
  obtain ⟨r21, σ20, h19, h⟩ := g_bId h
  refine g_callVi (pc := 7) (st := []) hE.1 wvX12_403 rfl rfl (kX12_isScript hE v1 σ17 h19) rfl (gR_ok (by decide) (by decide)) (Nat.le_of_ble_eq_true rfl) rfl dX12_step_7 ?_
  refine g_if_eq (pc := 10) (tgt := 43) dX12_step_10 (by decide) (fun c22 => ?_) (fun c22 => ?_)
  · have h := g_ift c22 h
    exact g_lv [] rfl (tX12_step_b43 hE σ20 h)
  · have h := g_iff c22 h
    refine g_iload_n (pc := 13) dX12_step_13 rfl 2 rfl ?_
    refine g_i2l (pc := 14) dX12_step_14 ?_
    refine g_lconst (pc := 15) (v := 0) dX12_step_15 (by decide) ?_
    refine g_aload_n (pc := 16) dX12_step_16 rfl 0 rfl ?_
    refine g_getR (pc := 17) wfX12_29 rfl rfl dX12_step_17 ?_
    refine g_iload_n (pc := 20) dX12_step_20 rfl 1 rfl ?_
    obtain ⟨c23, h⟩ := g_gd h
    refine g_iald (pc := 21) rfl c23 rfl dX12_step_21 ?_
    refine g_iconst (pc := 22) (v := 1) dX12_step_22 (by decide) ?_
    refine g_isub (pc := 23) dX12_step_23 ?_
    refine g_i2l (pc := 24) dX12_step_24 ?_
    obtain ⟨r26, σ25, h24, h⟩ := g_bId h
    refine g_callSi (pc := 25) (st := []) hE.1 wsX12_117 (kX12_isIn hE v2.toInt64 0 (((σ20.1 7 v1.toNatClampNeg) - 1).toInt64) σ20 h24) rfl (gR_ok (by decide) (by decide)) (Nat.le_of_ble_eq_true rfl) rfl dX12_step_25 ?_
    refine g_if_eq (pc := 28) (tgt := 43) dX12_step_28 (by decide) (fun c27 => ?_) (fun c27 => ?_)
    · have h := g_ift c27 h
      exact g_lv [] rfl (tX12_step_b43 hE σ25 h)
    · have h := g_iff c27 h
      refine g_iload_n (pc := 31) dX12_step_31 rfl 3 rfl ?_
      refine g_i2l (pc := 32) dX12_step_32 ?_
      refine g_lconst (pc := 33) (v := 0) dX12_step_33 (by decide) ?_
      refine g_ldc2 (pc := 34) wkX12_406 dX12_step_34 ?_
      obtain ⟨r30, σ29, h28, h⟩ := g_bId h
      refine g_callSi (pc := 37) (st := []) hE.1 wsX12_117 (kX12_isIn hE v3.toInt64 0 4 σ25 h28) rfl (gR_ok (by decide) (by decide)) (Nat.le_of_ble_eq_true rfl) rfl dX12_step_37 ?_
      refine g_if_ne (pc := 40) (tgt := 47) dX12_step_40 (by decide) (fun c31 => ?_) (fun c31 => ?_)
      · have h := g_iff c31 h
        refine g_aload_n (pc := 47) dX12_step_47 rfl 0 rfl ?_
        refine g_getR (pc := 48) wfX12_26 rfl rfl dX12_step_48 ?_
        refine g_iconst (pc := 51) (v := 5) dX12_step_51 (by decide) ?_
        refine g_bipush (pc := 52) (v := 16) dX12_step_52 (by decide) ?_
        refine g_iload_n (pc := 54) dX12_step_54 rfl 1 rfl ?_
        refine g_imul (pc := 55) dX12_step_55 ?_
        refine g_iload_n (pc := 56) dX12_step_56 rfl 2 rfl ?_
        refine g_iadd (pc := 57) dX12_step_57 ?_
        refine g_imul (pc := 58) dX12_step_58 ?_
        refine g_iload_n (pc := 59) dX12_step_59 rfl 3 rfl ?_
        refine g_iadd (pc := 60) dX12_step_60 ?_
        obtain ⟨c32, h⟩ := g_gd h
        refine g_iald (pc := 61) rfl c32 rfl dX12_step_61 ?_
        cases h
        exact g_iret (pc := 62) rfl rfl rfl rfl dX12_step_62
      · have h := g_ift c31 h
        exact g_lv [] rfl (tX12_step_b43 hE σ29 h)
def fX12_run_b30 (n : Nat) (σ : gM) : Option (Int32 × gM) := some ((-1000000), σ)
set_option maxRecDepth 100000 in
theorem tX12_run_b30 (hE : gEM l dC dI ad ca X) {r0 : Int32} {σ' : gM} (n : Nat)  (σ : gM) (h : fX12_run_b30 n σ = some (r0, σ')) : g_G l dC dI ad ca shM X cX12_run 6 RX12 (some .int) (gR 7) (some (.int r0)) σ' 30 [] [] σ := by
  unfold fX12_run_b30 at h
  refine g_ldcw (pc := 30) wkX12_393 dX12_run_30 ?_
  cases h
  exact g_iret (pc := 33) rfl rfl rfl rfl dX12_run_33
def fX12_run_b137 (n : Nat) (K52 : Int32 → Int32 → Int32 → Int32 → gM → Option (Int32 × gM)) (v1 : Int32) (v2 : Int32) (v3 : Int32) (s0 : Int32) (σ : gM) : Option (Int32 × gM) := if s0 = 0 then (K52 v1 v2 v3 s0 σ) else (K52 v1 v2 (v3 + 1) s0 σ)
set_option maxRecDepth 100000 in
theorem tX12_run_b137 (hE : gEM l dC dI ad ca X) {r0 : Int32} {σ' : gM} (n : Nat) (K52 : Int32 → Int32 → Int32 → Int32 → gM → Option (Int32 × gM)) (hK52 : ∀ (v1 : Int32) (v2 : Int32) (v3 : Int32) (v4 : Int32) (σ : gM), K52 v1 v2 v3 v4 σ = some (r0, σ') → g_G l dC dI ad ca shM X cX12_run 6 RX12 (some .int) (gR 7) (some (.int r0)) σ' 52 [(0, .ref 0), (1, .int v1), (2, .int v2), (3, .int v3), (4, .int v4)] [] σ) (v1 : Int32) (v2 : Int32) (v3 : Int32) (s0 : Int32)  (σ : gM) (h : fX12_run_b137 n K52 v1 v2 v3 s0 σ = some (r0, σ')) : g_G l dC dI ad ca shM X cX12_run 6 RX12 (some .int) (gR 7) (some (.int r0)) σ' 137 [(0, .ref 0), (1, .int v1), (2, .int v2), (3, .int v3)] [.int s0] σ := by
  unfold fX12_run_b137 at h
  refine g_istore (pc := 137) (lv1 := [(4, .int s0), (0, .ref 0), (1, .int v1), (2, .int v2), (3, .int v3)]) dX12_run_137 (by decide) rfl ?_
  refine g_iload (pc := 139) dX12_run_139 0 rfl ?_
  refine g_if_eq (pc := 141) (tgt := 147) dX12_run_141 (by decide) (fun c36 => ?_) (fun c36 => ?_)
  · have h := g_ift c36 h
    refine g_goto (pc := 147) (tgt := 52) dX12_run_147 (by decide) ?_
    exact g_lv [1, 2, 3, 4, 0] rfl (hK52 v1 v2 v3 s0 σ h)
  · have h := g_iff c36 h
    refine g_iinc (pc := 144) (v := v3 + 1) (lv1 := [(3, .int (v3 + 1)), (4, .int s0), (0, .ref 0), (1, .int v1), (2, .int v2)]) dX12_run_144 4 rfl rfl (by decide) rfl ?_
    refine g_goto (pc := 147) (tgt := 52) dX12_run_147 (by decide) ?_
    exact g_lv [2, 3, 4, 0, 1] rfl (hK52 v1 v2 (v3 + 1) s0 σ h)
def fX12_run_b150 (n : Nat) (v1 : Int32) (v2 : Int32) (v3 : Int32) (σ : gM) : Option (Int32 × gM) := if v2 = 1 then (g_bI (fX12_costs 11 σ) (fun r42 σ41 => g_bI (fX12_costs 10 σ41) (fun r45 σ44 => some (r42 - r45, σ44)))) else (if ¬ (v1 < 0 ∨ 5 ≤ v1.toNatClampNeg) then (if v3 = (σ.1 7 v1.toNatClampNeg) then (some ((-1), σ)) else (some (v3, σ))) else none)
set_option maxRecDepth 100000 in
theorem tX12_run_b150 (hE : gEM l dC dI ad ca X) {r0 : Int32} {σ' : gM} (n : Nat) (v1 : Int32) (v2 : Int32) (v3 : Int32)  (σ : gM) (h : fX12_run_b150 n v1 v2 v3 σ = some (r0, σ')) : g_G l dC dI ad ca shM X cX12_run 6 RX12 (some .int) (gR 7) (some (.int r0)) σ' 150 [(0, .ref 0), (1, .int v1), (2, .int v2), (3, .int v3)] [] σ := by
  unfold fX12_run_b150 at h
  refine g_iload_n (pc := 150) dX12_run_150 rfl 2 rfl ?_
  refine g_iconst (pc := 151) (v := 1) dX12_run_151 (by decide) ?_
  refine g_icmp_ne (pc := 152) (tgt := 173) dX12_run_152 (by decide) (fun c37 => ?_) (fun c37 => ?_)
  · have h := g_iff c37 h
    refine g_iload_n (pc := 173) dX12_run_173 rfl 3 rfl ?_
    refine g_aload_n (pc := 174) dX12_run_174 rfl 0 rfl ?_
    refine g_getR (pc := 175) wfX12_29 rfl rfl dX12_run_175 ?_
    refine g_iload_n (pc := 178) dX12_run_178 rfl 1 rfl ?_
    obtain ⟨c38, h⟩ := g_gd h
    refine g_iald (pc := 179) rfl c38 rfl dX12_run_179 ?_
    refine g_icmp_ne (pc := 180) (tgt := 187) dX12_run_180 (by decide) (fun c39 => ?_) (fun c39 => ?_)
    · have h := g_iff c39 h
      refine g_iload_n (pc := 187) dX12_run_187 rfl 3 rfl ?_
      cases h
      exact g_iret (pc := 188) rfl rfl rfl rfl dX12_run_188
    · have h := g_ift c39 h
      refine g_iconst (pc := 183) (v := (-1)) dX12_run_183 (by decide) ?_
      refine g_goto (pc := 184) (tgt := 188) dX12_run_184 (by decide) ?_
      cases h
      exact g_iret (pc := 188) rfl rfl rfl rfl dX12_run_188
  · have h := g_ift c37 h
    refine g_aload_n (pc := 155) dX12_run_155 rfl 0 rfl ?_
    refine g_getR (pc := 156) wfX12_41 rfl rfl dX12_run_156 ?_
    obtain ⟨r42, σ41, h40, h⟩ := g_bId h
    refine g_callSi (pc := 159) (st := []) hE.1 wsX12_359 (kX12_costs hE 11 rfl σ h40) rfl (gR_ok (by decide) (by decide)) (Nat.le_of_ble_eq_true rfl) rfl dX12_run_159 ?_
    refine g_aload_n (pc := 162) dX12_run_162 rfl 0 rfl ?_
    refine g_getR (pc := 163) wfX12_38 rfl rfl dX12_run_163 ?_
    obtain ⟨r45, σ44, h43, h⟩ := g_bId h
    refine g_callSi (pc := 166) (st := [.int r42]) hE.1 wsX12_359 (kX12_costs hE 10 rfl σ41 h43) rfl (gR_ok (by decide) (by decide)) (Nat.le_of_ble_eq_true rfl) rfl dX12_run_166 ?_
    refine g_isub (pc := 169) dX12_run_169 ?_
    refine g_goto (pc := 170) (tgt := 188) dX12_run_170 (by decide) ?_
    cases h
    exact g_iret (pc := 188) rfl rfl rfl rfl dX12_run_188
def fX12_run_b52 (n : Nat) (K52 : Int32 → Int32 → Int32 → Int32 → gM → Option (Int32 × gM)) (v1 : Int32) (v2 : Int32) (v3 : Int32) (v4 : Int32) (σ : gM) : Option (Int32 × gM) := if v4 = 0 then (fX12_run_b150 n v1 v2 v3 σ) else (if ¬ (v1 < 0 ∨ 5 ≤ v1.toNatClampNeg) then (if (σ.1 7 v1.toNatClampNeg) ≤ v3 then (fX12_run_b150 n v1 v2 v3 σ) else (if ¬ ((5 * ((16 * v1) + v3)) < 0 ∨ 400 ≤ (5 * ((16 * v1) + v3)).toNatClampNeg) then (if ¬ (((5 * ((16 * v1) + v3)) + 1) < 0 ∨ 400 ≤ ((5 * ((16 * v1) + v3)) + 1).toNatClampNeg) then (if ¬ (((5 * ((16 * v1) + v3)) + 2) < 0 ∨ 400 ≤ ((5 * ((16 * v1) + v3)) + 2).toNatClampNeg) then (if ¬ (((5 * ((16 * v1) + v3)) + 3) < 0 ∨ 400 ≤ ((5 * ((16 * v1) + v3)) + 3).toNatClampNeg) then (if ¬ (((5 * ((16 * v1) + v3)) + 4) < 0 ∨ 400 ≤ ((5 * ((16 * v1) + v3)) + 4).toNatClampNeg) then (g_bI (fX12_does n 11 (σ.1 6 ((5 * ((16 * v1) + v3)).toNatClampNeg)) (σ.1 6 (((5 * ((16 * v1) + v3)) + 1).toNatClampNeg)) (σ.1 6 (((5 * ((16 * v1) + v3)) + 2).toNatClampNeg)) (σ.1 6 (((5 * ((16 * v1) + v3)) + 3).toNatClampNeg)) (σ.1 6 (((5 * ((16 * v1) + v3)) + 4).toNatClampNeg)) σ) (fun r56 σ55 => if r56 = (-1) then (fX12_run_b137 n K52 v1 v2 v3 1 σ55) else (fX12_run_b137 n K52 v1 v2 v3 0 σ55))) else none) else none) else none) else none) else none)) else none)
set_option maxRecDepth 100000 in
theorem tX12_run_b52 (hE : gEM l dC dI ad ca X) {r0 : Int32} {σ' : gM} (n : Nat) (K52 : Int32 → Int32 → Int32 → Int32 → gM → Option (Int32 × gM)) (hK52 : ∀ (v1 : Int32) (v2 : Int32) (v3 : Int32) (v4 : Int32) (σ : gM), K52 v1 v2 v3 v4 σ = some (r0, σ') → g_G l dC dI ad ca shM X cX12_run 6 RX12 (some .int) (gR 7) (some (.int r0)) σ' 52 [(0, .ref 0), (1, .int v1), (2, .int v2), (3, .int v3), (4, .int v4)] [] σ) (v1 : Int32) (v2 : Int32) (v3 : Int32) (v4 : Int32)  (σ : gM) (h : fX12_run_b52 n K52 v1 v2 v3 v4 σ = some (r0, σ')) : g_G l dC dI ad ca shM X cX12_run 6 RX12 (some .int) (gR 7) (some (.int r0)) σ' 52 [(0, .ref 0), (1, .int v1), (2, .int v2), (3, .int v3), (4, .int v4)] [] σ := by
  unfold fX12_run_b52 at h
  refine g_iload (pc := 52) dX12_run_52 4 rfl ?_
  refine g_if_eq (pc := 54) (tgt := 150) dX12_run_54 (by decide) (fun c46 => ?_) (fun c46 => ?_)
  · have h := g_ift c46 h
    exact g_lv [0, 1, 2, 3] rfl (tX12_run_b150 hE n v1 v2 v3 σ h)
  · have h := g_iff c46 h
    refine g_iload_n (pc := 57) dX12_run_57 rfl 3 rfl ?_
    refine g_aload_n (pc := 58) dX12_run_58 rfl 0 rfl ?_
    refine g_getR (pc := 59) wfX12_29 rfl rfl dX12_run_59 ?_
    refine g_iload_n (pc := 62) dX12_run_62 rfl 1 rfl ?_
    obtain ⟨c47, h⟩ := g_gd h
    refine g_iald (pc := 63) rfl c47 rfl dX12_run_63 ?_
    refine g_icmp_ge (pc := 64) (tgt := 150) dX12_run_64 (by decide) (fun c48 => ?_) (fun c48 => ?_)
    · have h := g_ift c48 h
      exact g_lv [0, 1, 2, 3] rfl (tX12_run_b150 hE n v1 v2 v3 σ h)
    · have h := g_iff c48 h
      refine g_iconst (pc := 67) (v := 5) dX12_run_67 (by decide) ?_
      refine g_bipush (pc := 68) (v := 16) dX12_run_68 (by decide) ?_
      refine g_iload_n (pc := 70) dX12_run_70 rfl 1 rfl ?_
      refine g_imul (pc := 71) dX12_run_71 ?_
      refine g_iload_n (pc := 72) dX12_run_72 rfl 3 rfl ?_
      refine g_iadd (pc := 73) dX12_run_73 ?_
      refine g_imul (pc := 74) dX12_run_74 ?_
      refine g_istore (pc := 75) (lv1 := [(5, .int (5 * ((16 * v1) + v3))), (0, .ref 0), (1, .int v1), (2, .int v2), (3, .int v3), (4, .int v4)]) dX12_run_75 (by decide) rfl ?_
      refine g_aload_n (pc := 77) dX12_run_77 rfl 1 rfl ?_
      refine g_aload_n (pc := 78) dX12_run_78 rfl 1 rfl ?_
      refine g_getR (pc := 79) wfX12_41 rfl rfl dX12_run_79 ?_
      refine g_aload_n (pc := 82) dX12_run_82 rfl 1 rfl ?_
      refine g_getR (pc := 83) wfX12_26 rfl rfl dX12_run_83 ?_
      refine g_iload (pc := 86) dX12_run_86 0 rfl ?_
      obtain ⟨c49, h⟩ := g_gd h
      refine g_iald (pc := 88) rfl c49 rfl dX12_run_88 ?_
      refine g_aload_n (pc := 89) dX12_run_89 rfl 1 rfl ?_
      refine g_getR (pc := 90) wfX12_26 rfl rfl dX12_run_90 ?_
      refine g_iload (pc := 93) dX12_run_93 0 rfl ?_
      refine g_iconst (pc := 95) (v := 1) dX12_run_95 (by decide) ?_
      refine g_iadd (pc := 96) dX12_run_96 ?_
      obtain ⟨c50, h⟩ := g_gd h
      refine g_iald (pc := 97) rfl c50 rfl dX12_run_97 ?_
      refine g_aload_n (pc := 98) dX12_run_98 rfl 1 rfl ?_
      refine g_getR (pc := 99) wfX12_26 rfl rfl dX12_run_99 ?_
      refine g_iload (pc := 102) dX12_run_102 0 rfl ?_
      refine g_iconst (pc := 104) (v := 2) dX12_run_104 (by decide) ?_
      refine g_iadd (pc := 105) dX12_run_105 ?_
      obtain ⟨c51, h⟩ := g_gd h
      refine g_iald (pc := 106) rfl c51 rfl dX12_run_106 ?_
      refine g_aload_n (pc := 107) dX12_run_107 rfl 1 rfl ?_
      refine g_getR (pc := 108) wfX12_26 rfl rfl dX12_run_108 ?_
      refine g_iload (pc := 111) dX12_run_111 0 rfl ?_
      refine g_iconst (pc := 113) (v := 3) dX12_run_113 (by decide) ?_
      refine g_iadd (pc := 114) dX12_run_114 ?_
      obtain ⟨c52, h⟩ := g_gd h
      refine g_iald (pc := 115) rfl c52 rfl dX12_run_115 ?_
      refine g_aload_n (pc := 116) dX12_run_116 rfl 1 rfl ?_
      refine g_getR (pc := 117) wfX12_26 rfl rfl dX12_run_117 ?_
      refine g_iload (pc := 120) dX12_run_120 0 rfl ?_
      refine g_iconst (pc := 122) (v := 4) dX12_run_122 (by decide) ?_
      refine g_iadd (pc := 123) dX12_run_123 ?_
      obtain ⟨c53, h⟩ := g_gd h
      refine g_iald (pc := 124) rfl c53 rfl dX12_run_124 ?_
      obtain ⟨r56, σ55, h54, h⟩ := g_bId h
      refine g_callVi (pc := 125) (st := []) hE.1 wvX12_353 rfl rfl (kX12_does hE n 11 rfl (σ.1 6 ((5 * ((16 * v1) + v3)).toNatClampNeg)) (σ.1 6 (((5 * ((16 * v1) + v3)) + 1).toNatClampNeg)) (σ.1 6 (((5 * ((16 * v1) + v3)) + 2).toNatClampNeg)) (σ.1 6 (((5 * ((16 * v1) + v3)) + 3).toNatClampNeg)) (σ.1 6 (((5 * ((16 * v1) + v3)) + 4).toNatClampNeg)) σ h54) rfl (gR_ok (by decide) (by decide)) (Nat.le_of_ble_eq_true rfl) rfl dX12_run_125 ?_
      refine g_iconst (pc := 128) (v := (-1)) dX12_run_128 (by decide) ?_
      refine g_icmp_ne (pc := 129) (tgt := 136) dX12_run_129 (by decide) (fun c57 => ?_) (fun c57 => ?_)
      · have h := g_iff c57 h
        refine g_iconst (pc := 136) (v := 0) dX12_run_136 (by decide) ?_
        exact g_lv [1, 2, 3, 4] rfl (tX12_run_b137 hE n K52 hK52 v1 v2 v3 0 σ55 h)
      · have h := g_ift c57 h
        refine g_iconst (pc := 132) (v := 1) dX12_run_132 (by decide) ?_
        refine g_goto (pc := 133) (tgt := 137) dX12_run_133 (by decide) ?_
        exact g_lv [1, 2, 3, 4] rfl (tX12_run_b137 hE n K52 hK52 v1 v2 v3 1 σ55 h)
def fX12_run_L52 (n : Nat) : Nat → Int32 → Int32 → Int32 → Int32 → gM → Option (Int32 × gM)
  | 0 => fun _ _ _ _ _ => none
  | k + 1 => fX12_run_b52 n (fX12_run_L52 n k)
theorem tX12_run_L52 (hE : gEM l dC dI ad ca X) {r0 : Int32} {σ' : gM} (n : Nat)  : ∀ (k : Nat) (v1 : Int32) (v2 : Int32) (v3 : Int32) (v4 : Int32) (σ : gM), fX12_run_L52 n k v1 v2 v3 v4 σ = some (r0, σ') → g_G l dC dI ad ca shM X cX12_run 6 RX12 (some .int) (gR 7) (some (.int r0)) σ' 52 [(0, .ref 0), (1, .int v1), (2, .int v2), (3, .int v3), (4, .int v4)] [] σ := by
  intro k
  induction k with
  | zero => intro v1 v2 v3 v4 σ h; cases h
  | succ k ih => intro v1 v2 v3 v4 σ h; exact tX12_run_b52 hE n (fX12_run_L52 n k) ih v1 v2 v3 v4 σ h
def fX12_run (n : Nat) (v1 : Int32) (v2 : Int32) (σ : gM) : Option (Int32 × gM) := g_let (g_put σ 0 0 0) (fun σ58 => g_bI (fX12_isScript v1 σ58) (fun r62 σ61 => if r62 = 0 then (fX12_run_b30 n σ61) else (if (σ61.1 0 14) = 0 then (fX12_run_b30 n σ61) else (g_bI (fX12_isIn v2.toInt64 0 1 σ61) (fun r67 σ66 => if r67 = 0 then (fX12_run_b30 n σ66) else (g_bV (fX12_copyRow n 10 616 11 616 0 0 σ66) (fun σ70 => fX12_run_L52 n n v1 v2 0 1 σ70)))))))
set_option maxRecDepth 100000 in
theorem kX12_run (hE : gEM l dC dI ad ca X) (n : Nat)  (v1 : Int32) (v2 : Int32) (σ : gM) {r0 : Int32} {σ' : gM} (h : fX12_run n v1 v2 σ = some (r0, σ')) : g_C l dC dI ad ca shM X yX12_run cX12_run 6 (some .int) (gR 7) [.ref 0, .int v1, .int v2] σ (some (.int r0)) σ' := by
  refine g_entry (by decide +kernel) (Nat.le_of_ble_eq_true rfl) ?_
  refine g_lvE (lv1 := [(0, .ref 0), (1, .int v1), (2, .int v2)]) rfl ?_
  unfold fX12_run at h
  refine g_aload_n (pc := 0) dX12_run_0 rfl 0 rfl ?_
  refine g_iconst (pc := 1) (v := 0) dX12_run_1 (by decide) ?_
  obtain ⟨σ58, e59, h⟩ := g_ltd h
  refine g_putI (pc := 2) wfX12_57 rfl rfl rfl rfl e59 dX12_run_2 ?_
  refine g_aload_n (pc := 5) dX12_run_5 rfl 0 rfl ?_
  refine g_iload_n (pc := 6) dX12_run_6 rfl 1 rfl ?_
  obtain ⟨r62, σ61, h60, h⟩ := g_bId h
  refine g_callVi (pc := 7) (st := []) hE.1 wvX12_403 rfl rfl (kX12_isScript hE v1 σ58 h60) rfl (gR_ok (by decide) (by decide)) (Nat.le_of_ble_eq_true rfl) rfl dX12_run_7 ?_
  refine g_if_eq (pc := 10) (tgt := 30) dX12_run_10 (by decide) (fun c63 => ?_) (fun c63 => ?_)
  · have h := g_ift c63 h
    exact g_lv [] rfl (tX12_run_b30 hE n σ61 h)
  · have h := g_iff c63 h
    refine g_aload_n (pc := 13) dX12_run_13 rfl 0 rfl ?_
    refine g_getI (pc := 14) wfX12_153 rfl rfl dX12_run_14 ?_
    refine g_if_eq (pc := 17) (tgt := 30) dX12_run_17 (by decide) (fun c64 => ?_) (fun c64 => ?_)
    · have h := g_ift c64 h
      exact g_lv [] rfl (tX12_run_b30 hE n σ61 h)
    · have h := g_iff c64 h
      refine g_iload_n (pc := 20) dX12_run_20 rfl 2 rfl ?_
      refine g_i2l (pc := 21) dX12_run_21 ?_
      refine g_lconst (pc := 22) (v := 0) dX12_run_22 (by decide) ?_
      refine g_lconst (pc := 23) (v := 1) dX12_run_23 (by decide) ?_
      obtain ⟨r67, σ66, h65, h⟩ := g_bId h
      refine g_callSi (pc := 24) (st := []) hE.1 wsX12_117 (kX12_isIn hE v2.toInt64 0 1 σ61 h65) rfl (gR_ok (by decide) (by decide)) (Nat.le_of_ble_eq_true rfl) rfl dX12_run_24 ?_
      refine g_if_ne (pc := 27) (tgt := 34) dX12_run_27 (by decide) (fun c68 => ?_) (fun c68 => ?_)
      · have h := g_iff c68 h
        refine g_aload_n (pc := 34) dX12_run_34 rfl 0 rfl ?_
        refine g_getR (pc := 35) wfX12_38 rfl rfl dX12_run_35 ?_
        refine g_iconst (pc := 38) (v := 0) dX12_run_38 (by decide) ?_
        refine g_aload_n (pc := 39) dX12_run_39 rfl 0 rfl ?_
        refine g_getR (pc := 40) wfX12_41 rfl rfl dX12_run_40 ?_
        refine g_iconst (pc := 43) (v := 0) dX12_run_43 (by decide) ?_
        obtain ⟨σ70, h69, h⟩ := g_bVd h
        refine g_callSv (pc := 44) (st := []) hE.1 wsX12_349 (kX12_copyRow hE n 10 616 rfl 11 616 rfl 0 0 σ66 h69) rfl (gR_ok (by decide) (by decide)) (Nat.le_of_ble_eq_true rfl) rfl dX12_run_44 ?_
        refine g_iconst (pc := 47) (v := 0) dX12_run_47 (by decide) ?_
        refine g_istore_n (pc := 48) (lv1 := [(3, .int 0), (0, .ref 0), (1, .int v1), (2, .int v2)]) dX12_run_48 rfl (by decide) rfl ?_
        refine g_iconst (pc := 49) (v := 1) dX12_run_49 (by decide) ?_
        refine g_istore (pc := 50) (lv1 := [(4, .int 1), (3, .int 0), (0, .ref 0), (1, .int v1), (2, .int v2)]) dX12_run_50 (by decide) rfl ?_
        exact g_lv [2, 3, 4, 1, 0] rfl (tX12_run_L52 hE n n v1 v2 0 1 σ70 h)
      · have h := g_ift c68 h
        exact g_lv [] rfl (tX12_run_b30 hE n σ66 h)
def fX12_perform_b106 (n : Nat) (K26 : Int32 → Int32 → Int32 → gM → Option (Int32 × gM)) (v1 : Int32) (v2 : Int32) (s0 : Int32) (σ : gM) : Option (Int32 × gM) := if s0 = 0 then (K26 v1 v2 s0 σ) else (K26 v1 (v2 + 1) s0 σ)
set_option maxRecDepth 100000 in
theorem tX12_perform_b106 (hE : gEM l dC dI ad ca X) {r0 : Int32} {σ' : gM} (n : Nat) (K26 : Int32 → Int32 → Int32 → gM → Option (Int32 × gM)) (hK26 : ∀ (v1 : Int32) (v2 : Int32) (v3 : Int32) (σ : gM), K26 v1 v2 v3 σ = some (r0, σ') → g_G l dC dI ad ca shM X cX12_perform 5 RX12 (some .int) (gR 8) (some (.int r0)) σ' 26 [(0, .ref 0), (1, .int v1), (2, .int v2), (3, .int v3)] [] σ) (v1 : Int32) (v2 : Int32) (s0 : Int32)  (σ : gM) (h : fX12_perform_b106 n K26 v1 v2 s0 σ = some (r0, σ')) : g_G l dC dI ad ca shM X cX12_perform 5 RX12 (some .int) (gR 8) (some (.int r0)) σ' 106 [(0, .ref 0), (1, .int v1), (2, .int v2)] [.int s0] σ := by
  unfold fX12_perform_b106 at h
  refine g_istore_n (pc := 106) (lv1 := [(3, .int s0), (0, .ref 0), (1, .int v1), (2, .int v2)]) dX12_perform_106 rfl (by decide) rfl ?_
  refine g_iload_n (pc := 107) dX12_perform_107 rfl 0 rfl ?_
  refine g_if_eq (pc := 108) (tgt := 114) dX12_perform_108 (by decide) (fun c21 => ?_) (fun c21 => ?_)
  · have h := g_ift c21 h
    refine g_goto (pc := 114) (tgt := 26) dX12_perform_114 (by decide) ?_
    exact g_lv [1, 2, 3, 0] rfl (hK26 v1 v2 s0 σ h)
  · have h := g_iff c21 h
    refine g_iinc (pc := 111) (v := v2 + 1) (lv1 := [(2, .int (v2 + 1)), (3, .int s0), (0, .ref 0), (1, .int v1)]) dX12_perform_111 3 rfl rfl (by decide) rfl ?_
    refine g_goto (pc := 114) (tgt := 26) dX12_perform_114 (by decide) ?_
    exact g_lv [2, 3, 0, 1] rfl (hK26 v1 (v2 + 1) s0 σ h)
def fX12_perform_b117 (n : Nat) (v2 : Int32) (σ : gM) : Option (Int32 × gM) := some (v2, σ)
set_option maxRecDepth 100000 in
theorem tX12_perform_b117 (hE : gEM l dC dI ad ca X) {r0 : Int32} {σ' : gM} (n : Nat) (v2 : Int32)  (σ : gM) (h : fX12_perform_b117 n v2 σ = some (r0, σ')) : g_G l dC dI ad ca shM X cX12_perform 5 RX12 (some .int) (gR 8) (some (.int r0)) σ' 117 [(2, .int v2)] [] σ := by
  unfold fX12_perform_b117 at h
  refine g_iload_n (pc := 117) dX12_perform_117 rfl 0 rfl ?_
  cases h
  exact g_iret (pc := 118) rfl rfl rfl rfl dX12_perform_118
def fX12_perform_b26 (n : Nat) (K26 : Int32 → Int32 → Int32 → gM → Option (Int32 × gM)) (v1 : Int32) (v2 : Int32) (v3 : Int32) (σ : gM) : Option (Int32 × gM) := if v3 = 0 then (fX12_perform_b117 n v2 σ) else (if ¬ (v1 < 0 ∨ 5 ≤ v1.toNatClampNeg) then (if (σ.1 7 v1.toNatClampNeg) ≤ v2 then (fX12_perform_b117 n v2 σ) else (if ¬ ((5 * ((16 * v1) + v2)) < 0 ∨ 400 ≤ (5 * ((16 * v1) + v2)).toNatClampNeg) then (if ¬ (((5 * ((16 * v1) + v2)) + 1) < 0 ∨ 400 ≤ ((5 * ((16 * v1) + v2)) + 1).toNatClampNeg) then (if ¬ (((5 * ((16 * v1) + v2)) + 2) < 0 ∨ 400 ≤ ((5 * ((16 * v1) + v2)) + 2).toNatClampNeg) then (if ¬ (((5 * ((16 * v1) + v2)) + 3) < 0 ∨ 400 ≤ ((5 * ((16 * v1) + v2)) + 3).toNatClampNeg) then (if ¬ (((5 * ((16 * v1) + v2)) + 4) < 0 ∨ 400 ≤ ((5 * ((16 * v1) + v2)) + 4).toNatClampNeg) then (g_bI (fX12_tries_ n (σ.1 6 ((5 * ((16 * v1) + v2)).toNatClampNeg)) (σ.1 6 (((5 * ((16 * v1) + v2)) + 1).toNatClampNeg)) (σ.1 6 (((5 * ((16 * v1) + v2)) + 2).toNatClampNeg)) (σ.1 6 (((5 * ((16 * v1) + v2)) + 3).toNatClampNeg)) (σ.1 6 (((5 * ((16 * v1) + v2)) + 4).toNatClampNeg)) σ) (fun r32 σ31 => if r32 = (-1) then (fX12_perform_b106 n K26 v1 v2 1 σ31) else (fX12_perform_b106 n K26 v1 v2 0 σ31))) else none) else none) else none) else none) else none)) else none)
set_option maxRecDepth 100000 in
theorem tX12_perform_b26 (hE : gEM l dC dI ad ca X) {r0 : Int32} {σ' : gM} (n : Nat) (K26 : Int32 → Int32 → Int32 → gM → Option (Int32 × gM)) (hK26 : ∀ (v1 : Int32) (v2 : Int32) (v3 : Int32) (σ : gM), K26 v1 v2 v3 σ = some (r0, σ') → g_G l dC dI ad ca shM X cX12_perform 5 RX12 (some .int) (gR 8) (some (.int r0)) σ' 26 [(0, .ref 0), (1, .int v1), (2, .int v2), (3, .int v3)] [] σ) (v1 : Int32) (v2 : Int32) (v3 : Int32)  (σ : gM) (h : fX12_perform_b26 n K26 v1 v2 v3 σ = some (r0, σ')) : g_G l dC dI ad ca shM X cX12_perform 5 RX12 (some .int) (gR 8) (some (.int r0)) σ' 26 [(0, .ref 0), (1, .int v1), (2, .int v2), (3, .int v3)] [] σ := by
  unfold fX12_perform_b26 at h
  refine g_iload_n (pc := 26) dX12_perform_26 rfl 3 rfl ?_
  refine g_if_eq (pc := 27) (tgt := 117) dX12_perform_27 (by decide) (fun c22 => ?_) (fun c22 => ?_)
  · have h := g_ift c22 h
    exact g_lv [2] rfl (tX12_perform_b117 hE n v2 σ h)
  · have h := g_iff c22 h
    refine g_iload_n (pc := 30) dX12_perform_30 rfl 2 rfl ?_
    refine g_aload_n (pc := 31) dX12_perform_31 rfl 0 rfl ?_
    refine g_getR (pc := 32) wfX12_29 rfl rfl dX12_perform_32 ?_
    refine g_iload_n (pc := 35) dX12_perform_35 rfl 1 rfl ?_
    obtain ⟨c23, h⟩ := g_gd h
    refine g_iald (pc := 36) rfl c23 rfl dX12_perform_36 ?_
    refine g_icmp_ge (pc := 37) (tgt := 117) dX12_perform_37 (by decide) (fun c24 => ?_) (fun c24 => ?_)
    · have h := g_ift c24 h
      exact g_lv [2] rfl (tX12_perform_b117 hE n v2 σ h)
    · have h := g_iff c24 h
      refine g_iconst (pc := 40) (v := 5) dX12_perform_40 (by decide) ?_
      refine g_bipush (pc := 41) (v := 16) dX12_perform_41 (by decide) ?_
      refine g_iload_n (pc := 43) dX12_perform_43 rfl 1 rfl ?_
      refine g_imul (pc := 44) dX12_perform_44 ?_
      refine g_iload_n (pc := 45) dX12_perform_45 rfl 2 rfl ?_
      refine g_iadd (pc := 46) dX12_perform_46 ?_
      refine g_imul (pc := 47) dX12_perform_47 ?_
      refine g_istore (pc := 48) (lv1 := [(4, .int (5 * ((16 * v1) + v2))), (0, .ref 0), (1, .int v1), (2, .int v2), (3, .int v3)]) dX12_perform_48 (by decide) rfl ?_
      refine g_aload_n (pc := 50) dX12_perform_50 rfl 1 rfl ?_
      refine g_aload_n (pc := 51) dX12_perform_51 rfl 1 rfl ?_
      refine g_getR (pc := 52) wfX12_26 rfl rfl dX12_perform_52 ?_
      refine g_iload (pc := 55) dX12_perform_55 0 rfl ?_
      obtain ⟨c25, h⟩ := g_gd h
      refine g_iald (pc := 57) rfl c25 rfl dX12_perform_57 ?_
      refine g_aload_n (pc := 58) dX12_perform_58 rfl 1 rfl ?_
      refine g_getR (pc := 59) wfX12_26 rfl rfl dX12_perform_59 ?_
      refine g_iload (pc := 62) dX12_perform_62 0 rfl ?_
      refine g_iconst (pc := 64) (v := 1) dX12_perform_64 (by decide) ?_
      refine g_iadd (pc := 65) dX12_perform_65 ?_
      obtain ⟨c26, h⟩ := g_gd h
      refine g_iald (pc := 66) rfl c26 rfl dX12_perform_66 ?_
      refine g_aload_n (pc := 67) dX12_perform_67 rfl 1 rfl ?_
      refine g_getR (pc := 68) wfX12_26 rfl rfl dX12_perform_68 ?_
      refine g_iload (pc := 71) dX12_perform_71 0 rfl ?_
      refine g_iconst (pc := 73) (v := 2) dX12_perform_73 (by decide) ?_
      refine g_iadd (pc := 74) dX12_perform_74 ?_
      obtain ⟨c27, h⟩ := g_gd h
      refine g_iald (pc := 75) rfl c27 rfl dX12_perform_75 ?_
      refine g_aload_n (pc := 76) dX12_perform_76 rfl 1 rfl ?_
      refine g_getR (pc := 77) wfX12_26 rfl rfl dX12_perform_77 ?_
      refine g_iload (pc := 80) dX12_perform_80 0 rfl ?_
      refine g_iconst (pc := 82) (v := 3) dX12_perform_82 (by decide) ?_
      refine g_iadd (pc := 83) dX12_perform_83 ?_
      obtain ⟨c28, h⟩ := g_gd h
      refine g_iald (pc := 84) rfl c28 rfl dX12_perform_84 ?_
      refine g_aload_n (pc := 85) dX12_perform_85 rfl 1 rfl ?_
      refine g_getR (pc := 86) wfX12_26 rfl rfl dX12_perform_86 ?_
      refine g_iload (pc := 89) dX12_perform_89 0 rfl ?_
      refine g_iconst (pc := 91) (v := 4) dX12_perform_91 (by decide) ?_
      refine g_iadd (pc := 92) dX12_perform_92 ?_
      obtain ⟨c29, h⟩ := g_gd h
      refine g_iald (pc := 93) rfl c29 rfl dX12_perform_93 ?_
      obtain ⟨r32, σ31, h30, h⟩ := g_bId h
      refine g_callVi (pc := 94) (st := []) hE.1 wvX12_366 rfl rfl (kX12_tries_ hE n (σ.1 6 ((5 * ((16 * v1) + v2)).toNatClampNeg)) (σ.1 6 (((5 * ((16 * v1) + v2)) + 1).toNatClampNeg)) (σ.1 6 (((5 * ((16 * v1) + v2)) + 2).toNatClampNeg)) (σ.1 6 (((5 * ((16 * v1) + v2)) + 3).toNatClampNeg)) (σ.1 6 (((5 * ((16 * v1) + v2)) + 4).toNatClampNeg)) σ h30) rfl (gR_ok (by decide) (by decide)) (Nat.le_of_ble_eq_true rfl) rfl dX12_perform_94 ?_
      refine g_iconst (pc := 97) (v := (-1)) dX12_perform_97 (by decide) ?_
      refine g_icmp_ne (pc := 98) (tgt := 105) dX12_perform_98 (by decide) (fun c33 => ?_) (fun c33 => ?_)
      · have h := g_iff c33 h
        refine g_iconst (pc := 105) (v := 0) dX12_perform_105 (by decide) ?_
        exact g_lv [1, 2, 3] rfl (tX12_perform_b106 hE n K26 hK26 v1 v2 0 σ31 h)
      · have h := g_ift c33 h
        refine g_iconst (pc := 101) (v := 1) dX12_perform_101 (by decide) ?_
        refine g_goto (pc := 102) (tgt := 106) dX12_perform_102 (by decide) ?_
        exact g_lv [1, 2, 3] rfl (tX12_perform_b106 hE n K26 hK26 v1 v2 1 σ31 h)
def fX12_perform_L26 (n : Nat) : Nat → Int32 → Int32 → Int32 → gM → Option (Int32 × gM)
  | 0 => fun _ _ _ _ => none
  | k + 1 => fX12_perform_b26 n (fX12_perform_L26 n k)
theorem tX12_perform_L26 (hE : gEM l dC dI ad ca X) {r0 : Int32} {σ' : gM} (n : Nat)  : ∀ (k : Nat) (v1 : Int32) (v2 : Int32) (v3 : Int32) (σ : gM), fX12_perform_L26 n k v1 v2 v3 σ = some (r0, σ') → g_G l dC dI ad ca shM X cX12_perform 5 RX12 (some .int) (gR 8) (some (.int r0)) σ' 26 [(0, .ref 0), (1, .int v1), (2, .int v2), (3, .int v3)] [] σ := by
  intro k
  induction k with
  | zero => intro v1 v2 v3 σ h; cases h
  | succ k ih => intro v1 v2 v3 σ h; exact tX12_perform_b26 hE n (fX12_perform_L26 n k) ih v1 v2 v3 σ h
def fX12_perform (n : Nat) (v1 : Int32) (σ : gM) : Option (Int32 × gM) := g_let (g_put σ 0 0 0) (fun σ34 => g_bI (fX12_isScript v1 σ34) (fun r38 σ37 => if r38 = 0 then (some ((-1), σ37)) else (if (σ37.1 0 14) = 0 then (some ((-1), σ37)) else (fX12_perform_L26 n n v1 0 1 σ37))))
set_option maxRecDepth 100000 in
theorem kX12_perform (hE : gEM l dC dI ad ca X) (n : Nat)  (v1 : Int32) (σ : gM) {r0 : Int32} {σ' : gM} (h : fX12_perform n v1 σ = some (r0, σ')) : g_C l dC dI ad ca shM X yX12_perform cX12_perform 5 (some .int) (gR 8) [.ref 0, .int v1] σ (some (.int r0)) σ' := by
  refine g_entry (by decide +kernel) (Nat.le_of_ble_eq_true rfl) ?_
  refine g_lvE (lv1 := [(0, .ref 0), (1, .int v1)]) rfl ?_
  unfold fX12_perform at h
  refine g_aload_n (pc := 0) dX12_perform_0 rfl 0 rfl ?_
  refine g_iconst (pc := 1) (v := 0) dX12_perform_1 (by decide) ?_
  obtain ⟨σ34, e35, h⟩ := g_ltd h
  refine g_putI (pc := 2) wfX12_57 rfl rfl rfl rfl e35 dX12_perform_2 ?_
  refine g_aload_n (pc := 5) dX12_perform_5 rfl 0 rfl ?_
  refine g_iload_n (pc := 6) dX12_perform_6 rfl 1 rfl ?_
  obtain ⟨r38, σ37, h36, h⟩ := g_bId h
  refine g_callVi (pc := 7) (st := []) hE.1 wvX12_403 rfl rfl (kX12_isScript hE v1 σ34 h36) rfl (gR_ok (by decide) (by decide)) (Nat.le_of_ble_eq_true rfl) rfl dX12_perform_7 ?_
  refine g_if_eq (pc := 10) (tgt := 20) dX12_perform_10 (by decide) (fun c39 => ?_) (fun c39 => ?_)
  · have h := g_ift c39 h
    refine g_iconst (pc := 20) (v := (-1)) dX12_perform_20 (by decide) ?_
    cases h
    exact g_iret (pc := 21) rfl rfl rfl rfl dX12_perform_21
  · have h := g_iff c39 h
    refine g_aload_n (pc := 13) dX12_perform_13 rfl 0 rfl ?_
    refine g_getI (pc := 14) wfX12_153 rfl rfl dX12_perform_14 ?_
    refine g_if_ne (pc := 17) (tgt := 22) dX12_perform_17 (by decide) (fun c40 => ?_) (fun c40 => ?_)
    · have h := g_iff c40 h
      refine g_iconst (pc := 22) (v := 0) dX12_perform_22 (by decide) ?_
      refine g_istore_n (pc := 23) (lv1 := [(2, .int 0), (0, .ref 0), (1, .int v1)]) dX12_perform_23 rfl (by decide) rfl ?_
      refine g_iconst (pc := 24) (v := 1) dX12_perform_24 (by decide) ?_
      refine g_istore_n (pc := 25) (lv1 := [(3, .int 1), (2, .int 0), (0, .ref 0), (1, .int v1)]) dX12_perform_25 rfl (by decide) rfl ?_
      exact g_lv [2, 3, 1, 0] rfl (tX12_perform_L26 hE n n v1 0 1 σ37 h)
    · have h := g_ift c40 h
      refine g_iconst (pc := 20) (v := (-1)) dX12_perform_20 (by decide) ?_
      cases h
      exact g_iret (pc := 21) rfl rfl rfl rfl dX12_perform_21
def fX12_most (n : Nat) (v1 : Int32) (σ : gM) : Option (Int32 × gM) := g_let (g_put σ 0 0 0) (fun σ22 => if (σ22.1 0 14) = 0 then (some ((-1000000), σ22)) else (if v1 = 0 then (some (σ22.1 10 427, σ22)) else (if v1 = 1 then (some (σ22.1 10 428, σ22)) else (if v1 = 2 then (some (σ22.1 10 429, σ22)) else (if v1 = 3 then (some (σ22.1 10 430, σ22)) else (if v1 = 4 then (some (σ22.1 10 431, σ22)) else (if v1 = 5 then (some (σ22.1 10 426, σ22)) else (if v1 = 6 then (some (σ22.1 10 425, σ22)) else (if v1 = 7 then (g_bI (fX12_lostBits n σ22) (fun r35 σ34 => some (r35, σ34))) else (if v1 = 8 then (if ¬ (((432 + v1) - 8) < 0 ∨ 616 ≤ ((432 + v1) - 8).toNatClampNeg) then (some (σ22.1 10 (((432 + v1) - 8).toNatClampNeg), σ22)) else none) else (if v1 = 9 then (if ¬ (((432 + v1) - 8) < 0 ∨ 616 ≤ ((432 + v1) - 8).toNatClampNeg) then (some (σ22.1 10 (((432 + v1) - 8).toNatClampNeg), σ22)) else none) else (if v1 = 10 then (if ¬ (((432 + v1) - 8) < 0 ∨ 616 ≤ ((432 + v1) - 8).toNatClampNeg) then (some (σ22.1 10 (((432 + v1) - 8).toNatClampNeg), σ22)) else none) else (some ((-1000000), σ22))))))))))))))
set_option maxRecDepth 100000 in
theorem kX12_most (hE : gEM l dC dI ad ca X) (n : Nat)  (v1 : Int32) (σ : gM) {r0 : Int32} {σ' : gM} (h : fX12_most n v1 σ = some (r0, σ')) : g_C l dC dI ad ca shM X yX12_most cX12_most 2 (some .int) (gR 1) [.ref 0, .int v1] σ (some (.int r0)) σ' := by
  refine g_entry (by decide +kernel) (Nat.le_of_ble_eq_true rfl) ?_
  refine g_lvE (lv1 := [(0, .ref 0), (1, .int v1)]) rfl ?_
  unfold fX12_most at h
  refine g_aload_n (pc := 0) dX12_most_0 rfl 0 rfl ?_
  refine g_iconst (pc := 1) (v := 0) dX12_most_1 (by decide) ?_
  obtain ⟨σ22, e23, h⟩ := g_ltd h
  refine g_putI (pc := 2) wfX12_57 rfl rfl rfl rfl e23 dX12_most_2 ?_
  refine g_aload_n (pc := 5) dX12_most_5 rfl 0 rfl ?_
  refine g_getI (pc := 6) wfX12_153 rfl rfl dX12_most_6 ?_
  refine g_if_ne (pc := 9) (tgt := 16) dX12_most_9 (by decide) (fun c24 => ?_) (fun c24 => ?_)
  · have h := g_iff c24 h
    refine g_iload_n (pc := 16) dX12_most_16 rfl 1 rfl ?_
    by_cases c25 : v1 = 0
    · have h := g_ift c25 h
      refine g_tabIn (pc := 17) (tgt := 76) (off := 59) dX12_most_17 (by rw [c25]; decide) (by rw [c25]; decide) (by rw [c25]; decide) (by decide) ?_
      refine g_aload_n (pc := 76) dX12_most_76 rfl 0 rfl ?_
      refine g_getR (pc := 77) wfX12_38 rfl rfl dX12_most_77 ?_
      refine g_sipush (pc := 80) (v := 427) dX12_most_80 (by decide) ?_
      refine g_iald (pc := 83) rfl (by decide) (j := 427) (by decide) dX12_most_83 ?_
      cases h
      exact g_iret (pc := 84) rfl rfl rfl rfl dX12_most_84
    have h := g_iff c25 h
    by_cases c26 : v1 = 1
    · have h := g_ift c26 h
      refine g_tabIn (pc := 17) (tgt := 85) (off := 68) dX12_most_17 (by rw [c26]; decide) (by rw [c26]; decide) (by rw [c26]; decide) (by decide) ?_
      refine g_aload_n (pc := 85) dX12_most_85 rfl 0 rfl ?_
      refine g_getR (pc := 86) wfX12_38 rfl rfl dX12_most_86 ?_
      refine g_sipush (pc := 89) (v := 428) dX12_most_89 (by decide) ?_
      refine g_iald (pc := 92) rfl (by decide) (j := 428) (by decide) dX12_most_92 ?_
      cases h
      exact g_iret (pc := 93) rfl rfl rfl rfl dX12_most_93
    have h := g_iff c26 h
    by_cases c27 : v1 = 2
    · have h := g_ift c27 h
      refine g_tabIn (pc := 17) (tgt := 94) (off := 77) dX12_most_17 (by rw [c27]; decide) (by rw [c27]; decide) (by rw [c27]; decide) (by decide) ?_
      refine g_aload_n (pc := 94) dX12_most_94 rfl 0 rfl ?_
      refine g_getR (pc := 95) wfX12_38 rfl rfl dX12_most_95 ?_
      refine g_sipush (pc := 98) (v := 429) dX12_most_98 (by decide) ?_
      refine g_iald (pc := 101) rfl (by decide) (j := 429) (by decide) dX12_most_101 ?_
      cases h
      exact g_iret (pc := 102) rfl rfl rfl rfl dX12_most_102
    have h := g_iff c27 h
    by_cases c28 : v1 = 3
    · have h := g_ift c28 h
      refine g_tabIn (pc := 17) (tgt := 103) (off := 86) dX12_most_17 (by rw [c28]; decide) (by rw [c28]; decide) (by rw [c28]; decide) (by decide) ?_
      refine g_aload_n (pc := 103) dX12_most_103 rfl 0 rfl ?_
      refine g_getR (pc := 104) wfX12_38 rfl rfl dX12_most_104 ?_
      refine g_sipush (pc := 107) (v := 430) dX12_most_107 (by decide) ?_
      refine g_iald (pc := 110) rfl (by decide) (j := 430) (by decide) dX12_most_110 ?_
      cases h
      exact g_iret (pc := 111) rfl rfl rfl rfl dX12_most_111
    have h := g_iff c28 h
    by_cases c29 : v1 = 4
    · have h := g_ift c29 h
      refine g_tabIn (pc := 17) (tgt := 112) (off := 95) dX12_most_17 (by rw [c29]; decide) (by rw [c29]; decide) (by rw [c29]; decide) (by decide) ?_
      refine g_aload_n (pc := 112) dX12_most_112 rfl 0 rfl ?_
      refine g_getR (pc := 113) wfX12_38 rfl rfl dX12_most_113 ?_
      refine g_sipush (pc := 116) (v := 431) dX12_most_116 (by decide) ?_
      refine g_iald (pc := 119) rfl (by decide) (j := 431) (by decide) dX12_most_119 ?_
      cases h
      exact g_iret (pc := 120) rfl rfl rfl rfl dX12_most_120
    have h := g_iff c29 h
    by_cases c30 : v1 = 5
    · have h := g_ift c30 h
      refine g_tabIn (pc := 17) (tgt := 121) (off := 104) dX12_most_17 (by rw [c30]; decide) (by rw [c30]; decide) (by rw [c30]; decide) (by decide) ?_
      refine g_aload_n (pc := 121) dX12_most_121 rfl 0 rfl ?_
      refine g_getR (pc := 122) wfX12_38 rfl rfl dX12_most_122 ?_
      refine g_sipush (pc := 125) (v := 426) dX12_most_125 (by decide) ?_
      refine g_iald (pc := 128) rfl (by decide) (j := 426) (by decide) dX12_most_128 ?_
      cases h
      exact g_iret (pc := 129) rfl rfl rfl rfl dX12_most_129
    have h := g_iff c30 h
    by_cases c31 : v1 = 6
    · have h := g_ift c31 h
      refine g_tabIn (pc := 17) (tgt := 130) (off := 113) dX12_most_17 (by rw [c31]; decide) (by rw [c31]; decide) (by rw [c31]; decide) (by decide) ?_
      refine g_aload_n (pc := 130) dX12_most_130 rfl 0 rfl ?_
      refine g_getR (pc := 131) wfX12_38 rfl rfl dX12_most_131 ?_
      refine g_sipush (pc := 134) (v := 425) dX12_most_134 (by decide) ?_
      refine g_iald (pc := 137) rfl (by decide) (j := 425) (by decide) dX12_most_137 ?_
      cases h
      exact g_iret (pc := 138) rfl rfl rfl rfl dX12_most_138
    have h := g_iff c31 h
    by_cases c32 : v1 = 7
    · have h := g_ift c32 h
      refine g_tabIn (pc := 17) (tgt := 139) (off := 122) dX12_most_17 (by rw [c32]; decide) (by rw [c32]; decide) (by rw [c32]; decide) (by decide) ?_
      refine g_aload_n (pc := 139) dX12_most_139 rfl 0 rfl ?_
      obtain ⟨r35, σ34, h33, h⟩ := g_bId h
      refine g_callVi (pc := 140) (st := []) hE.1 wvX12_394 rfl rfl (kX12_lostBits hE n σ22 h33) rfl (gR_ok (by decide) (by decide)) (Nat.le_of_ble_eq_true rfl) rfl dX12_most_140 ?_
      cases h
      exact g_iret (pc := 143) rfl rfl rfl rfl dX12_most_143
    have h := g_iff c32 h
    by_cases c36 : v1 = 8
    · have h := g_ift c36 h
      refine g_tabIn (pc := 17) (tgt := 144) (off := 127) dX12_most_17 (by rw [c36]; decide) (by rw [c36]; decide) (by rw [c36]; decide) (by decide) ?_
      refine g_aload_n (pc := 144) dX12_most_144 rfl 0 rfl ?_
      refine g_getR (pc := 145) wfX12_38 rfl rfl dX12_most_145 ?_
      refine g_sipush (pc := 148) (v := 432) dX12_most_148 (by decide) ?_
      refine g_iload_n (pc := 151) dX12_most_151 rfl 1 rfl ?_
      refine g_iadd (pc := 152) dX12_most_152 ?_
      refine g_bipush (pc := 153) (v := 8) dX12_most_153 (by decide) ?_
      refine g_isub (pc := 155) dX12_most_155 ?_
      obtain ⟨c37, h⟩ := g_gd h
      refine g_iald (pc := 156) rfl c37 rfl dX12_most_156 ?_
      cases h
      exact g_iret (pc := 157) rfl rfl rfl rfl dX12_most_157
    have h := g_iff c36 h
    by_cases c38 : v1 = 9
    · have h := g_ift c38 h
      refine g_tabIn (pc := 17) (tgt := 144) (off := 127) dX12_most_17 (by rw [c38]; decide) (by rw [c38]; decide) (by rw [c38]; decide) (by decide) ?_
      refine g_aload_n (pc := 144) dX12_most_144 rfl 0 rfl ?_
      refine g_getR (pc := 145) wfX12_38 rfl rfl dX12_most_145 ?_
      refine g_sipush (pc := 148) (v := 432) dX12_most_148 (by decide) ?_
      refine g_iload_n (pc := 151) dX12_most_151 rfl 1 rfl ?_
      refine g_iadd (pc := 152) dX12_most_152 ?_
      refine g_bipush (pc := 153) (v := 8) dX12_most_153 (by decide) ?_
      refine g_isub (pc := 155) dX12_most_155 ?_
      obtain ⟨c39, h⟩ := g_gd h
      refine g_iald (pc := 156) rfl c39 rfl dX12_most_156 ?_
      cases h
      exact g_iret (pc := 157) rfl rfl rfl rfl dX12_most_157
    have h := g_iff c38 h
    by_cases c40 : v1 = 10
    · have h := g_ift c40 h
      refine g_tabIn (pc := 17) (tgt := 144) (off := 127) dX12_most_17 (by rw [c40]; decide) (by rw [c40]; decide) (by rw [c40]; decide) (by decide) ?_
      refine g_aload_n (pc := 144) dX12_most_144 rfl 0 rfl ?_
      refine g_getR (pc := 145) wfX12_38 rfl rfl dX12_most_145 ?_
      refine g_sipush (pc := 148) (v := 432) dX12_most_148 (by decide) ?_
      refine g_iload_n (pc := 151) dX12_most_151 rfl 1 rfl ?_
      refine g_iadd (pc := 152) dX12_most_152 ?_
      refine g_bipush (pc := 153) (v := 8) dX12_most_153 (by decide) ?_
      refine g_isub (pc := 155) dX12_most_155 ?_
      obtain ⟨c41, h⟩ := g_gd h
      refine g_iald (pc := 156) rfl c41 rfl dX12_most_156 ?_
      cases h
      exact g_iret (pc := 157) rfl rfl rfl rfl dX12_most_157
    have h := g_iff c40 h
    have u42 : (v1).toInt < 0 ∨ 10 < (v1).toInt := by
      have ec25 := g_toInt c25
      have ec26 := g_toInt c26
      have ec27 := g_toInt c27
      have ec28 := g_toInt c28
      have ec29 := g_toInt c29
      have ec30 := g_toInt c30
      have ec31 := g_toInt c31
      have ec32 := g_toInt c32
      have ec36 := g_toInt c36
      have ec38 := g_toInt c38
      have ec40 := g_toInt c40
      rw [show (0 : Int32).toInt = 0 from by decide] at ec25
      rw [show (1 : Int32).toInt = 1 from by decide] at ec26
      rw [show (2 : Int32).toInt = 2 from by decide] at ec27
      rw [show (3 : Int32).toInt = 3 from by decide] at ec28
      rw [show (4 : Int32).toInt = 4 from by decide] at ec29
      rw [show (5 : Int32).toInt = 5 from by decide] at ec30
      rw [show (6 : Int32).toInt = 6 from by decide] at ec31
      rw [show (7 : Int32).toInt = 7 from by decide] at ec32
      rw [show (8 : Int32).toInt = 8 from by decide] at ec36
      rw [show (9 : Int32).toInt = 9 from by decide] at ec38
      rw [show (10 : Int32).toInt = 10 from by decide] at ec40
      omega
    refine g_tabOut (pc := 17) (tgt := 158) dX12_most_17 u42 (by decide) ?_
    refine g_ldcw (pc := 158) wkX12_393 dX12_most_158 ?_
    cases h
    exact g_iret (pc := 161) rfl rfl rfl rfl dX12_most_161
  · have h := g_ift c24 h
    refine g_ldcw (pc := 12) wkX12_393 dX12_most_12 ?_
    cases h
    exact g_iret (pc := 15) rfl rfl rfl rfl dX12_most_15
def fX12_count (v1 : Int32) (σ : gM) : Option (Int32 × gM) := g_let (g_put σ 0 0 0) (fun σ9 => if v1 = 0 then (some (σ9.1 0 14, σ9)) else (if v1 = 1 then (some (σ9.1 0 12, σ9)) else (if v1 = 2 then (some (σ9.1 0 2, σ9)) else (if v1 = 3 then (some (σ9.1 10 435, σ9)) else (if v1 = 4 then (some (σ9.1 0 22, σ9)) else (some ((-1000000), σ9)))))))
set_option maxRecDepth 100000 in
theorem kX12_count (hE : gEM l dC dI ad ca X)  (v1 : Int32) (σ : gM) {r0 : Int32} {σ' : gM} (h : fX12_count v1 σ = some (r0, σ')) : g_C l dC dI ad ca shM X yX12_count cX12_count 2 (some .int) (gR 0) [.ref 0, .int v1] σ (some (.int r0)) σ' := by
  refine g_entry (by decide +kernel) (Nat.le_of_ble_eq_true rfl) ?_
  refine g_lvE (lv1 := [(0, .ref 0), (1, .int v1)]) rfl ?_
  unfold fX12_count at h
  refine g_aload_n (pc := 0) dX12_count_0 rfl 0 rfl ?_
  refine g_iconst (pc := 1) (v := 0) dX12_count_1 (by decide) ?_
  obtain ⟨σ9, e10, h⟩ := g_ltd h
  refine g_putI (pc := 2) wfX12_57 rfl rfl rfl rfl e10 dX12_count_2 ?_
  refine g_iload_n (pc := 5) dX12_count_5 rfl 1 rfl ?_
  by_cases c11 : v1 = 0
  · have h := g_ift c11 h
    refine g_tabIn (pc := 6) (tgt := 40) (off := 34) dX12_count_6 (by rw [c11]; decide) (by rw [c11]; decide) (by rw [c11]; decide) (by decide) ?_
    refine g_aload_n (pc := 40) dX12_count_40 rfl 0 rfl ?_
    refine g_getI (pc := 41) wfX12_153 rfl rfl dX12_count_41 ?_
    cases h
    exact g_iret (pc := 44) rfl rfl rfl rfl dX12_count_44
  have h := g_iff c11 h
  by_cases c12 : v1 = 1
  · have h := g_ift c12 h
    refine g_tabIn (pc := 6) (tgt := 45) (off := 39) dX12_count_6 (by rw [c12]; decide) (by rw [c12]; decide) (by rw [c12]; decide) (by decide) ?_
    refine g_aload_n (pc := 45) dX12_count_45 rfl 0 rfl ?_
    refine g_getI (pc := 46) wfX12_188 rfl rfl dX12_count_46 ?_
    cases h
    exact g_iret (pc := 49) rfl rfl rfl rfl dX12_count_49
  have h := g_iff c12 h
  by_cases c13 : v1 = 2
  · have h := g_ift c13 h
    refine g_tabIn (pc := 6) (tgt := 50) (off := 44) dX12_count_6 (by rw [c13]; decide) (by rw [c13]; decide) (by rw [c13]; decide) (by decide) ?_
    refine g_aload_n (pc := 50) dX12_count_50 rfl 0 rfl ?_
    refine g_getI (pc := 51) wfX12_61 rfl rfl dX12_count_51 ?_
    cases h
    exact g_iret (pc := 54) rfl rfl rfl rfl dX12_count_54
  have h := g_iff c13 h
  by_cases c14 : v1 = 3
  · have h := g_ift c14 h
    refine g_tabIn (pc := 6) (tgt := 55) (off := 49) dX12_count_6 (by rw [c14]; decide) (by rw [c14]; decide) (by rw [c14]; decide) (by decide) ?_
    refine g_aload_n (pc := 55) dX12_count_55 rfl 0 rfl ?_
    refine g_getR (pc := 56) wfX12_38 rfl rfl dX12_count_56 ?_
    refine g_sipush (pc := 59) (v := 435) dX12_count_59 (by decide) ?_
    refine g_iald (pc := 62) rfl (by decide) (j := 435) (by decide) dX12_count_62 ?_
    cases h
    exact g_iret (pc := 63) rfl rfl rfl rfl dX12_count_63
  have h := g_iff c14 h
  by_cases c15 : v1 = 4
  · have h := g_ift c15 h
    refine g_tabIn (pc := 6) (tgt := 64) (off := 58) dX12_count_6 (by rw [c15]; decide) (by rw [c15]; decide) (by rw [c15]; decide) (by decide) ?_
    refine g_aload_n (pc := 64) dX12_count_64 rfl 0 rfl ?_
    refine g_getI (pc := 65) wfX12_181 rfl rfl dX12_count_65 ?_
    cases h
    exact g_iret (pc := 68) rfl rfl rfl rfl dX12_count_68
  have h := g_iff c15 h
  have u16 : (v1).toInt < 0 ∨ 4 < (v1).toInt := by
    have ec11 := g_toInt c11
    have ec12 := g_toInt c12
    have ec13 := g_toInt c13
    have ec14 := g_toInt c14
    have ec15 := g_toInt c15
    rw [show (0 : Int32).toInt = 0 from by decide] at ec11
    rw [show (1 : Int32).toInt = 1 from by decide] at ec12
    rw [show (2 : Int32).toInt = 2 from by decide] at ec13
    rw [show (3 : Int32).toInt = 3 from by decide] at ec14
    rw [show (4 : Int32).toInt = 4 from by decide] at ec15
    omega
  refine g_tabOut (pc := 6) (tgt := 69) dX12_count_6 u16 (by decide) ?_
  refine g_ldcw (pc := 69) wkX12_393 dX12_count_69 ?_
  cases h
  exact g_iret (pc := 72) rfl rfl rfl rfl dX12_count_72
end WKM4
