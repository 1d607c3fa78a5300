section WKX5
variable {l : Launch} {dC : Nat → ClassId} {dI : Nat → Nat → Nat} {ad : Nat → Nat} {ca : Nat → ClassId} {X : (Nat → Prop) → State → Heap → Prop}

def fX11_rule (v1 : Int32) (σ : gM) : Option (Int32 × gM) := g_bI (fX6_present σ) (fun r21 σ20 => if r21 = 0 then (some ((-1), σ20)) else (if v1 = 0 then (some (σ20.1 5 0, σ20)) else (if v1 = 1 then (some (σ20.1 5 1, σ20)) else (if v1 = 2 then (some (σ20.1 5 2, σ20)) else (if v1 = 3 then (some (σ20.1 5 3, σ20)) else (if v1 = 4 then (g_bI (fX9_get 0 136 σ20) (fun r30 σ29 => some (r30, σ29))) else (if v1 = 5 then (some (σ20.1 5 5, σ20)) else (if v1 = 6 then (g_bI (fX6_addresses σ20) (fun r35 σ34 => some (r35, σ34))) else (some ((-1), σ20))))))))))
set_option maxRecDepth 100000 in
theorem kX11_rule (hE : gEX l dC dI ad ca X)  (v1 : Int32) (σ : gM) {r0 : Int32} {σ' : gM} (h : fX11_rule v1 σ = some (r0, σ')) : g_C l dC dI ad ca shX X yX11_rule cX11_rule 2 (some .int) (gR 1) [.ref 0, .int v1] σ (some (.int r0)) σ' := by
  refine g_entry (by decide +kernel) (Nat.le_of_ble_eq_true rfl) ?_
  refine g_lvE (lv1 := [(0, .ref 0), (1, .int v1)]) rfl ?_
  unfold fX11_rule at h
  refine g_aload_n (pc := 0) dX11_rule_0 rfl 0 rfl ?_
  refine g_getR (pc := 1) wfX11_19 rfl rfl dX11_rule_1 ?_
  obtain ⟨r21, σ20, h19, h⟩ := g_bId h
  refine g_callVi (pc := 4) (st := []) hE.1 wvX11_181 rfl rfl (kX6_present hE σ h19) rfl (gR_ok (by decide) (by decide)) (Nat.le_of_ble_eq_true rfl) rfl dX11_rule_4 ?_
  refine g_if_ne (pc := 7) (tgt := 12) dX11_rule_7 (by decide) (fun c22 => ?_) (fun c22 => ?_)
  · have h := g_iff c22 h
    refine g_iload_n (pc := 12) dX11_rule_12 rfl 1 rfl ?_
    by_cases c23 : v1 = 0
    · have h := g_ift c23 h
      refine g_tabIn (pc := 13) (tgt := 56) (off := 43) dX11_rule_13 (by rw [c23]; decide) (by rw [c23]; decide) (by rw [c23]; decide) (by decide) ?_
      refine g_aload_n (pc := 56) dX11_rule_56 rfl 0 rfl ?_
      refine g_getR (pc := 57) wfX11_19 rfl rfl dX11_rule_57 ?_
      refine g_getI (pc := 60) wfX11_185 rfl rfl dX11_rule_60 ?_
      cases h
      exact g_iret (pc := 63) rfl rfl rfl rfl dX11_rule_63
    have h := g_iff c23 h
    by_cases c24 : v1 = 1
    · have h := g_ift c24 h
      refine g_tabIn (pc := 13) (tgt := 64) (off := 51) dX11_rule_13 (by rw [c24]; decide) (by rw [c24]; decide) (by rw [c24]; decide) (by decide) ?_
      refine g_aload_n (pc := 64) dX11_rule_64 rfl 0 rfl ?_
      refine g_getR (pc := 65) wfX11_19 rfl rfl dX11_rule_65 ?_
      refine g_getI (pc := 68) wfX11_188 rfl rfl dX11_rule_68 ?_
      cases h
      exact g_iret (pc := 71) rfl rfl rfl rfl dX11_rule_71
    have h := g_iff c24 h
    by_cases c25 : v1 = 2
    · have h := g_ift c25 h
      refine g_tabIn (pc := 13) (tgt := 72) (off := 59) dX11_rule_13 (by rw [c25]; decide) (by rw [c25]; decide) (by rw [c25]; decide) (by decide) ?_
      refine g_aload_n (pc := 72) dX11_rule_72 rfl 0 rfl ?_
      refine g_getR (pc := 73) wfX11_19 rfl rfl dX11_rule_73 ?_
      refine g_getI (pc := 76) wfX11_191 rfl rfl dX11_rule_76 ?_
      cases h
      exact g_iret (pc := 79) rfl rfl rfl rfl dX11_rule_79
    have h := g_iff c25 h
    by_cases c26 : v1 = 3
    · have h := g_ift c26 h
      refine g_tabIn (pc := 13) (tgt := 80) (off := 67) dX11_rule_13 (by rw [c26]; decide) (by rw [c26]; decide) (by rw [c26]; decide) (by decide) ?_
      refine g_aload_n (pc := 80) dX11_rule_80 rfl 0 rfl ?_
      refine g_getR (pc := 81) wfX11_19 rfl rfl dX11_rule_81 ?_
      refine g_getI (pc := 84) wfX11_132 rfl rfl dX11_rule_84 ?_
      cases h
      exact g_iret (pc := 87) rfl rfl rfl rfl dX11_rule_87
    have h := g_iff c26 h
    by_cases c27 : v1 = 4
    · have h := g_ift c27 h
      refine g_tabIn (pc := 13) (tgt := 88) (off := 75) dX11_rule_13 (by rw [c27]; decide) (by rw [c27]; decide) (by rw [c27]; decide) (by decide) ?_
      refine g_aload_n (pc := 88) dX11_rule_88 rfl 0 rfl ?_
      refine g_getR (pc := 89) wfX11_35 rfl rfl dX11_rule_89 ?_
      refine g_getR (pc := 92) wfX11_137 (sX_shelf (i := 0) (by decide)) rfl dX11_rule_92 ?_
      refine g_sipush (pc := 95) (v := 136) dX11_rule_95 (by decide) ?_
      obtain ⟨r30, σ29, h28, h⟩ := g_bId h
      refine g_callVi (pc := 98) (st := []) hE.1 wvX11_194 (sX_state (i := 0) (by decide)) rfl (kX9_get hE 0 (by decide) 136 σ20 h28) rfl (gR_ok (by decide) (by decide)) (Nat.le_of_ble_eq_true rfl) rfl dX11_rule_98 ?_
      cases h
      exact g_iret (pc := 101) rfl rfl rfl rfl dX11_rule_101
    have h := g_iff c27 h
    by_cases c31 : v1 = 5
    · have h := g_ift c31 h
      refine g_tabIn (pc := 13) (tgt := 102) (off := 89) dX11_rule_13 (by rw [c31]; decide) (by rw [c31]; decide) (by rw [c31]; decide) (by decide) ?_
      refine g_aload_n (pc := 102) dX11_rule_102 rfl 0 rfl ?_
      refine g_getR (pc := 103) wfX11_19 rfl rfl dX11_rule_103 ?_
      refine g_getI (pc := 106) wfX11_197 rfl rfl dX11_rule_106 ?_
      cases h
      exact g_iret (pc := 109) rfl rfl rfl rfl dX11_rule_109
    have h := g_iff c31 h
    by_cases c32 : v1 = 6
    · have h := g_ift c32 h
      refine g_tabIn (pc := 13) (tgt := 110) (off := 97) dX11_rule_13 (by rw [c32]; decide) (by rw [c32]; decide) (by rw [c32]; decide) (by decide) ?_
      refine g_aload_n (pc := 110) dX11_rule_110 rfl 0 rfl ?_
      refine g_getR (pc := 111) wfX11_19 rfl rfl dX11_rule_111 ?_
      obtain ⟨r35, σ34, h33, h⟩ := g_bId h
      refine g_callVi (pc := 114) (st := []) hE.1 wvX11_170 rfl rfl (kX6_addresses hE σ20 h33) rfl (gR_ok (by decide) (by decide)) (Nat.le_of_ble_eq_true rfl) rfl dX11_rule_114 ?_
      cases h
      exact g_iret (pc := 117) rfl rfl rfl rfl dX11_rule_117
    have h := g_iff c32 h
    have u36 : (v1).toInt < 0 ∨ 6 < (v1).toInt := by
      have ec23 := g_toInt c23
      have ec24 := g_toInt c24
      have ec25 := g_toInt c25
      have ec26 := g_toInt c26
      have ec27 := g_toInt c27
      have ec31 := g_toInt c31
      have ec32 := g_toInt c32
      rw [show (0 : Int32).toInt = 0 from by decide] at ec23
      rw [show (1 : Int32).toInt = 1 from by decide] at ec24
      rw [show (2 : Int32).toInt = 2 from by decide] at ec25
      rw [show (3 : Int32).toInt = 3 from by decide] at ec26
      rw [show (4 : Int32).toInt = 4 from by decide] at ec27
      rw [show (5 : Int32).toInt = 5 from by decide] at ec31
      rw [show (6 : Int32).toInt = 6 from by decide] at ec32
      omega
    refine g_tabOut (pc := 13) (tgt := 118) dX11_rule_13 u36 (by decide) ?_
    refine g_iconst (pc := 118) (v := (-1)) dX11_rule_118 (by decide) ?_
    cases h
    exact g_iret (pc := 119) rfl rfl rfl rfl dX11_rule_119
  · have h := g_ift c22 h
    refine g_iconst (pc := 10) (v := (-1)) dX11_rule_10 (by decide) ?_
    cases h
    exact g_iret (pc := 11) rfl rfl rfl rfl dX11_rule_11
def fX11_times (v1 : Int32) (v2 : Int32) (σ : gM) : Option (Int32 × gM) := g_bI (fX6_present σ) (fun r18 σ17 => if r18 = 0 then (some ((-1), σ17)) else (g_bI (fX11_isByte v1 σ17) (fun r22 σ21 => if r22 = 0 then (some ((-1), σ21)) else (g_bI (fX11_isByte v2 σ21) (fun r26 σ25 => if r26 = 0 then (some ((-1), σ25)) else (g_bI (fX1_product v1 v2 σ25) (fun r30 σ29 => some (r30, σ29))))))))
set_option maxRecDepth 100000 in
theorem kX11_times (hE : gEX l dC dI ad ca X)  (v1 : Int32) (v2 : Int32) (σ : gM) {r0 : Int32} {σ' : gM} (h : fX11_times v1 v2 σ = some (r0, σ')) : g_C l dC dI ad ca shX X yX11_times cX11_times 3 (some .int) (gR 2) [.ref 0, .int v1, .int v2] σ (some (.int r0)) σ' := by
  refine g_entry (by decide +kernel) (Nat.le_of_ble_eq_true rfl) ?_
  refine g_lvE (lv1 := [(0, .ref 0), (1, .int v1), (2, .int v2)]) rfl ?_
  unfold fX11_times at h
  refine g_aload_n (pc := 0) dX11_times_0 rfl 0 rfl ?_
  refine g_getR (pc := 1) wfX11_19 rfl rfl dX11_times_1 ?_
  obtain ⟨r18, σ17, h16, h⟩ := g_bId h
  refine g_callVi (pc := 4) (st := []) hE.1 wvX11_181 rfl rfl (kX6_present hE σ h16) rfl (gR_ok (by decide) (by decide)) (Nat.le_of_ble_eq_true rfl) rfl dX11_times_4 ?_
  refine g_if_eq (pc := 7) (tgt := 36) dX11_times_7 (by decide) (fun c19 => ?_) (fun c19 => ?_)
  · have h := g_ift c19 h
    refine g_iconst (pc := 36) (v := (-1)) dX11_times_36 (by decide) ?_
    cases h
    exact g_iret (pc := 37) rfl rfl rfl rfl dX11_times_37
  · have h := g_iff c19 h
    refine g_iload_n (pc := 10) dX11_times_10 rfl 1 rfl ?_
    obtain ⟨r22, σ21, h20, h⟩ := g_bId h
    refine g_callSi (pc := 11) (st := []) hE.1 wsX11_200 (kX11_isByte hE v1 σ17 h20) rfl (gR_ok (by decide) (by decide)) (Nat.le_of_ble_eq_true rfl) rfl dX11_times_11 ?_
    refine g_if_eq (pc := 14) (tgt := 36) dX11_times_14 (by decide) (fun c23 => ?_) (fun c23 => ?_)
    · have h := g_ift c23 h
      refine g_iconst (pc := 36) (v := (-1)) dX11_times_36 (by decide) ?_
      cases h
      exact g_iret (pc := 37) rfl rfl rfl rfl dX11_times_37
    · have h := g_iff c23 h
      refine g_iload_n (pc := 17) dX11_times_17 rfl 2 rfl ?_
      obtain ⟨r26, σ25, h24, h⟩ := g_bId h
      refine g_callSi (pc := 18) (st := []) hE.1 wsX11_200 (kX11_isByte hE v2 σ21 h24) rfl (gR_ok (by decide) (by decide)) (Nat.le_of_ble_eq_true rfl) rfl dX11_times_18 ?_
      refine g_if_eq (pc := 21) (tgt := 36) dX11_times_21 (by decide) (fun c27 => ?_) (fun c27 => ?_)
      · have h := g_ift c27 h
        refine g_iconst (pc := 36) (v := (-1)) dX11_times_36 (by decide) ?_
        cases h
        exact g_iret (pc := 37) rfl rfl rfl rfl dX11_times_37
      · have h := g_iff c27 h
        refine g_aload_n (pc := 24) dX11_times_24 rfl 0 rfl ?_
        refine g_getR (pc := 25) wfX11_26 rfl rfl dX11_times_25 ?_
        refine g_iload_n (pc := 28) dX11_times_28 rfl 1 rfl ?_
        refine g_iload_n (pc := 29) dX11_times_29 rfl 2 rfl ?_
        obtain ⟨r30, σ29, h28, h⟩ := g_bId h
        refine g_callVi (pc := 30) (st := []) hE.1 wvX11_203 rfl rfl (kX1_product hE v1 v2 σ25 h28) rfl (gR_ok (by decide) (by decide)) (Nat.le_of_ble_eq_true rfl) rfl dX11_times_30 ?_
        refine g_goto (pc := 33) (tgt := 37) dX11_times_33 (by decide) ?_
        cases h
        exact g_iret (pc := 37) rfl rfl rfl rfl dX11_times_37
def fX11_over (v1 : Int32) (v2 : Int32) (σ : gM) : Option (Int32 × gM) := g_bI (fX6_present σ) (fun r19 σ18 => if r19 = 0 then (some ((-1), σ18)) else (g_bI (fX11_isByte v1 σ18) (fun r23 σ22 => if r23 = 0 then (some ((-1), σ22)) else (g_bI (fX11_isByte v2 σ22) (fun r27 σ26 => if r27 = 0 then (some ((-1), σ26)) else (if v2 = 0 then (some ((-1), σ26)) else (g_bI (fX1_quotient v1 v2 σ26) (fun r32 σ31 => some (r32, σ31)))))))))
set_option maxRecDepth 100000 in
theorem kX11_over (hE : gEX l dC dI ad ca X)  (v1 : Int32) (v2 : Int32) (σ : gM) {r0 : Int32} {σ' : gM} (h : fX11_over v1 v2 σ = some (r0, σ')) : g_C l dC dI ad ca shX X yX11_over cX11_over 3 (some .int) (gR 2) [.ref 0, .int v1, .int v2] σ (some (.int r0)) σ' := by
  refine g_entry (by decide +kernel) (Nat.le_of_ble_eq_true rfl) ?_
  refine g_lvE (lv1 := [(0, .ref 0), (1, .int v1), (2, .int v2)]) rfl ?_
  unfold fX11_over at h
  refine g_aload_n (pc := 0) dX11_over_0 rfl 0 rfl ?_
  refine g_getR (pc := 1) wfX11_19 rfl rfl dX11_over_1 ?_
  obtain ⟨r19, σ18, h17, h⟩ := g_bId h
  refine g_callVi (pc := 4) (st := []) hE.1 wvX11_181 rfl rfl (kX6_present hE σ h17) rfl (gR_ok (by decide) (by decide)) (Nat.le_of_ble_eq_true rfl) rfl dX11_over_4 ?_
  refine g_if_eq (pc := 7) (tgt := 40) dX11_over_7 (by decide) (fun c20 => ?_) (fun c20 => ?_)
  · have h := g_ift c20 h
    refine g_iconst (pc := 40) (v := (-1)) dX11_over_40 (by decide) ?_
    cases h
    exact g_iret (pc := 41) rfl rfl rfl rfl dX11_over_41
  · have h := g_iff c20 h
    refine g_iload_n (pc := 10) dX11_over_10 rfl 1 rfl ?_
    obtain ⟨r23, σ22, h21, h⟩ := g_bId h
    refine g_callSi (pc := 11) (st := []) hE.1 wsX11_200 (kX11_isByte hE v1 σ18 h21) rfl (gR_ok (by decide) (by decide)) (Nat.le_of_ble_eq_true rfl) rfl dX11_over_11 ?_
    refine g_if_eq (pc := 14) (tgt := 40) dX11_over_14 (by decide) (fun c24 => ?_) (fun c24 => ?_)
    · have h := g_ift c24 h
      refine g_iconst (pc := 40) (v := (-1)) dX11_over_40 (by decide) ?_
      cases h
      exact g_iret (pc := 41) rfl rfl rfl rfl dX11_over_41
    · have h := g_iff c24 h
      refine g_iload_n (pc := 17) dX11_over_17 rfl 2 rfl ?_
      obtain ⟨r27, σ26, h25, h⟩ := g_bId h
      refine g_callSi (pc := 18) (st := []) hE.1 wsX11_200 (kX11_isByte hE v2 σ22 h25) rfl (gR_ok (by decide) (by decide)) (Nat.le_of_ble_eq_true rfl) rfl dX11_over_18 ?_
      refine g_if_eq (pc := 21) (tgt := 40) dX11_over_21 (by decide) (fun c28 => ?_) (fun c28 => ?_)
      · have h := g_ift c28 h
        refine g_iconst (pc := 40) (v := (-1)) dX11_over_40 (by decide) ?_
        cases h
        exact g_iret (pc := 41) rfl rfl rfl rfl dX11_over_41
      · have h := g_iff c28 h
        refine g_iload_n (pc := 24) dX11_over_24 rfl 2 rfl ?_
        refine g_if_eq (pc := 25) (tgt := 40) dX11_over_25 (by decide) (fun c29 => ?_) (fun c29 => ?_)
        · have h := g_ift c29 h
          refine g_iconst (pc := 40) (v := (-1)) dX11_over_40 (by decide) ?_
          cases h
          exact g_iret (pc := 41) rfl rfl rfl rfl dX11_over_41
        · have h := g_iff c29 h
          refine g_aload_n (pc := 28) dX11_over_28 rfl 0 rfl ?_
          refine g_getR (pc := 29) wfX11_26 rfl rfl dX11_over_29 ?_
          refine g_iload_n (pc := 32) dX11_over_32 rfl 1 rfl ?_
          refine g_iload_n (pc := 33) dX11_over_33 rfl 2 rfl ?_
          obtain ⟨r32, σ31, h30, h⟩ := g_bId h
          refine g_callVi (pc := 34) (st := []) hE.1 wvX11_207 rfl rfl (kX1_quotient hE v1 v2 σ26 h30) rfl (gR_ok (by decide) (by decide)) (Nat.le_of_ble_eq_true rfl) rfl dX11_over_34 ?_
          refine g_goto (pc := 37) (tgt := 41) dX11_over_37 (by decide) ?_
          cases h
          exact g_iret (pc := 41) rfl rfl rfl rfl dX11_over_41
def fX11_power (v1 : Int32) (σ : gM) : Option (Int32 × gM) := g_bI (fX6_present σ) (fun r12 σ11 => if r12 = 0 then (some ((-1), σ11)) else (if v1 < 0 then (some ((-1), σ11)) else (if 999 < v1 then (some ((-1), σ11)) else (g_bI (fX1_powerOfTwo v1 σ11) (fun r18 σ17 => some (r18, σ17))))))
set_option maxRecDepth 100000 in
theorem kX11_power (hE : gEX l dC dI ad ca X)  (v1 : Int32) (σ : gM) {r0 : Int32} {σ' : gM} (h : fX11_power v1 σ = some (r0, σ')) : g_C l dC dI ad ca shX X yX11_power cX11_power 2 (some .int) (gR 2) [.ref 0, .int v1] σ (some (.int r0)) σ' := by
  refine g_entry (by decide +kernel) (Nat.le_of_ble_eq_true rfl) ?_
  refine g_lvE (lv1 := [(0, .ref 0), (1, .int v1)]) rfl ?_
  unfold fX11_power at h
  refine g_aload_n (pc := 0) dX11_power_0 rfl 0 rfl ?_
  refine g_getR (pc := 1) wfX11_19 rfl rfl dX11_power_1 ?_
  obtain ⟨r12, σ11, h10, h⟩ := g_bId h
  refine g_callVi (pc := 4) (st := []) hE.1 wvX11_181 rfl rfl (kX6_present hE σ h10) rfl (gR_ok (by decide) (by decide)) (Nat.le_of_ble_eq_true rfl) rfl dX11_power_4 ?_
  refine g_if_eq (pc := 7) (tgt := 32) dX11_power_7 (by decide) (fun c13 => ?_) (fun c13 => ?_)
  · have h := g_ift c13 h
    refine g_iconst (pc := 32) (v := (-1)) dX11_power_32 (by decide) ?_
    cases h
    exact g_iret (pc := 33) rfl rfl rfl rfl dX11_power_33
  · have h := g_iff c13 h
    refine g_iload_n (pc := 10) dX11_power_10 rfl 1 rfl ?_
    refine g_if_lt (pc := 11) (tgt := 32) dX11_power_11 (by decide) (fun c14 => ?_) (fun c14 => ?_)
    · have h := g_ift c14 h
      refine g_iconst (pc := 32) (v := (-1)) dX11_power_32 (by decide) ?_
      cases h
      exact g_iret (pc := 33) rfl rfl rfl rfl dX11_power_33
    · have h := g_iff c14 h
      refine g_iload_n (pc := 14) dX11_power_14 rfl 1 rfl ?_
      refine g_sipush (pc := 15) (v := 999) dX11_power_15 (by decide) ?_
      refine g_icmp_gt (pc := 18) (tgt := 32) dX11_power_18 (by decide) (fun c15 => ?_) (fun c15 => ?_)
      · have h := g_ift c15 h
        refine g_iconst (pc := 32) (v := (-1)) dX11_power_32 (by decide) ?_
        cases h
        exact g_iret (pc := 33) rfl rfl rfl rfl dX11_power_33
      · have h := g_iff c15 h
        refine g_aload_n (pc := 21) dX11_power_21 rfl 0 rfl ?_
        refine g_getR (pc := 22) wfX11_26 rfl rfl dX11_power_22 ?_
        refine g_iload_n (pc := 25) dX11_power_25 rfl 1 rfl ?_
        obtain ⟨r18, σ17, h16, h⟩ := g_bId h
        refine g_callVi (pc := 26) (st := []) hE.1 wvX11_210 rfl rfl (kX1_powerOfTwo hE v1 σ11 h16) rfl (gR_ok (by decide) (by decide)) (Nat.le_of_ble_eq_true rfl) rfl dX11_power_26 ?_
        refine g_goto (pc := 29) (tgt := 33) dX11_power_29 (by decide) ?_
        cases h
        exact g_iret (pc := 33) rfl rfl rfl rfl dX11_power_33
def fX11_logOf (v1 : Int32) (σ : gM) : Option (Int32 × gM) := g_bI (fX6_present σ) (fun r15 σ14 => if r15 = 0 then (some ((-1), σ14)) else (g_bI (fX11_isByte v1 σ14) (fun r19 σ18 => if r19 = 0 then (some ((-1), σ18)) else (if v1 = 0 then (some ((-1), σ18)) else (g_bI (fX1_logarithm v1 σ18) (fun r24 σ23 => some (r24, σ23)))))))
set_option maxRecDepth 100000 in
theorem kX11_logOf (hE : gEX l dC dI ad ca X)  (v1 : Int32) (σ : gM) {r0 : Int32} {σ' : gM} (h : fX11_logOf v1 σ = some (r0, σ')) : g_C l dC dI ad ca shX X yX11_logOf cX11_logOf 2 (some .int) (gR 1) [.ref 0, .int v1] σ (some (.int r0)) σ' := by
  refine g_entry (by decide +kernel) (Nat.le_of_ble_eq_true rfl) ?_
  refine g_lvE (lv1 := [(0, .ref 0), (1, .int v1)]) rfl ?_
  unfold fX11_logOf at h
  refine g_aload_n (pc := 0) dX11_logOf_0 rfl 0 rfl ?_
  refine g_getR (pc := 1) wfX11_19 rfl rfl dX11_logOf_1 ?_
  obtain ⟨r15, σ14, h13, h⟩ := g_bId h
  refine g_callVi (pc := 4) (st := []) hE.1 wvX11_181 rfl rfl (kX6_present hE σ h13) rfl (gR_ok (by decide) (by decide)) (Nat.le_of_ble_eq_true rfl) rfl dX11_logOf_4 ?_
  refine g_if_eq (pc := 7) (tgt := 32) dX11_logOf_7 (by decide) (fun c16 => ?_) (fun c16 => ?_)
  · have h := g_ift c16 h
    refine g_iconst (pc := 32) (v := (-1)) dX11_logOf_32 (by decide) ?_
    cases h
    exact g_iret (pc := 33) rfl rfl rfl rfl dX11_logOf_33
  · have h := g_iff c16 h
    refine g_iload_n (pc := 10) dX11_logOf_10 rfl 1 rfl ?_
    obtain ⟨r19, σ18, h17, h⟩ := g_bId h
    refine g_callSi (pc := 11) (st := []) hE.1 wsX11_200 (kX11_isByte hE v1 σ14 h17) rfl (gR_ok (by decide) (by decide)) (Nat.le_of_ble_eq_true rfl) rfl dX11_logOf_11 ?_
    refine g_if_eq (pc := 14) (tgt := 32) dX11_logOf_14 (by decide) (fun c20 => ?_) (fun c20 => ?_)
    · have h := g_ift c20 h
      refine g_iconst (pc := 32) (v := (-1)) dX11_logOf_32 (by decide) ?_
      cases h
      exact g_iret (pc := 33) rfl rfl rfl rfl dX11_logOf_33
    · have h := g_iff c20 h
      refine g_iload_n (pc := 17) dX11_logOf_17 rfl 1 rfl ?_
      refine g_if_eq (pc := 18) (tgt := 32) dX11_logOf_18 (by decide) (fun c21 => ?_) (fun c21 => ?_)
      · have h := g_ift c21 h
        refine g_iconst (pc := 32) (v := (-1)) dX11_logOf_32 (by decide) ?_
        cases h
        exact g_iret (pc := 33) rfl rfl rfl rfl dX11_logOf_33
      · have h := g_iff c21 h
        refine g_aload_n (pc := 21) dX11_logOf_21 rfl 0 rfl ?_
        refine g_getR (pc := 22) wfX11_26 rfl rfl dX11_logOf_22 ?_
        refine g_iload_n (pc := 25) dX11_logOf_25 rfl 1 rfl ?_
        obtain ⟨r24, σ23, h22, h⟩ := g_bId h
        refine g_callVi (pc := 26) (st := []) hE.1 wvX11_213 rfl rfl (kX1_logarithm hE v1 σ18 h22) rfl (gR_ok (by decide) (by decide)) (Nat.le_of_ble_eq_true rfl) rfl dX11_logOf_26 ?_
        refine g_goto (pc := 29) (tgt := 33) dX11_logOf_29 (by decide) ?_
        cases h
        exact g_iret (pc := 33) rfl rfl rfl rfl dX11_logOf_33
def fX11_place (v1 : Int32) (v2 : Int32) (σ : gM) : Option (Int32 × gM) := g_bI (fX6_isAddress v1 σ) (fun r30 σ29 => if r30 = 0 then (some ((-1), σ29)) else (if v2 = 0 then (g_bI (fX6_partOf v1 σ29) (fun r35 σ34 => g_bI (fX6_stripeOf v1 σ34) (fun r38 σ37 => g_bI (fX6_diskOf r35 r38 σ37) (fun r41 σ40 => some (r41, σ40))))) else (if v2 = 1 then (g_bI (fX6_stripeOf v1 σ29) (fun r45 σ44 => some (r45, σ44))) else (if v2 = 2 then (g_bI (fX6_byteOf v1 σ29) (fun r49 σ48 => some (r49, σ48))) else (if v2 = 3 then (g_bI (fX6_partOf v1 σ29) (fun r53 σ52 => some (r53, σ52))) else (some ((-1), σ29)))))))
set_option maxRecDepth 100000 in
theorem kX11_place (hE : gEX l dC dI ad ca X)  (v1 : Int32) (v2 : Int32) (σ : gM) {r0 : Int32} {σ' : gM} (h : fX11_place v1 v2 σ = some (r0, σ')) : g_C l dC dI ad ca shX X yX11_place cX11_place 3 (some .int) (gR 2) [.ref 0, .int v1, .int v2] σ (some (.int r0)) σ' := by
  refine g_entry (by decide +kernel) (Nat.le_of_ble_eq_true rfl) ?_
  refine g_lvE (lv1 := [(0, .ref 0), (1, .int v1), (2, .int v2)]) rfl ?_
  unfold fX11_place at h
  refine g_aload_n (pc := 0) dX11_place_0 rfl 0 rfl ?_
  refine g_getR (pc := 1) wfX11_19 rfl rfl dX11_place_1 ?_
  refine g_iload_n (pc := 4) dX11_place_4 rfl 1 rfl ?_
  obtain ⟨r30, σ29, h28, h⟩ := g_bId h
  refine g_callVi (pc := 5) (st := []) hE.1 wvX11_153 rfl rfl (kX6_isAddress hE v1 σ h28) rfl (gR_ok (by decide) (by decide)) (Nat.le_of_ble_eq_true rfl) rfl dX11_place_5 ?_
  refine g_if_ne (pc := 8) (tgt := 13) dX11_place_8 (by decide) (fun c31 => ?_) (fun c31 => ?_)
  · have h := g_iff c31 h
    refine g_iload_n (pc := 13) dX11_place_13 rfl 2 rfl ?_
    by_cases c32 : v2 = 0
    · have h := g_ift c32 h
      refine g_tabIn (pc := 14) (tgt := 44) (off := 30) dX11_place_14 (by rw [c32]; decide) (by rw [c32]; decide) (by rw [c32]; decide) (by decide) ?_
      refine g_aload_n (pc := 44) dX11_place_44 rfl 0 rfl ?_
      refine g_getR (pc := 45) wfX11_19 rfl rfl dX11_place_45 ?_
      refine g_aload_n (pc := 48) dX11_place_48 rfl 0 rfl ?_
      refine g_getR (pc := 49) wfX11_19 rfl rfl dX11_place_49 ?_
      refine g_iload_n (pc := 52) dX11_place_52 rfl 1 rfl ?_
      obtain ⟨r35, σ34, h33, h⟩ := g_bId h
      refine g_callVi (pc := 53) (st := [.ref 5]) hE.1 wvX11_216 rfl rfl (kX6_partOf hE v1 σ29 h33) rfl (gR_ok (by decide) (by decide)) (Nat.le_of_ble_eq_true rfl) rfl dX11_place_53 ?_
      refine g_aload_n (pc := 56) dX11_place_56 rfl 0 rfl ?_
      refine g_getR (pc := 57) wfX11_19 rfl rfl dX11_place_57 ?_
      refine g_iload_n (pc := 60) dX11_place_60 rfl 1 rfl ?_
      obtain ⟨r38, σ37, h36, h⟩ := g_bId h
      refine g_callVi (pc := 61) (st := [.int r35, .ref 5]) hE.1 wvX11_219 rfl rfl (kX6_stripeOf hE v1 σ34 h36) rfl (gR_ok (by decide) (by decide)) (Nat.le_of_ble_eq_true rfl) rfl dX11_place_61 ?_
      obtain ⟨r41, σ40, h39, h⟩ := g_bId h
      refine g_callVi (pc := 64) (st := []) hE.1 wvX11_222 rfl rfl (kX6_diskOf hE r35 r38 σ37 h39) rfl (gR_ok (by decide) (by decide)) (Nat.le_of_ble_eq_true rfl) rfl dX11_place_64 ?_
      cases h
      exact g_iret (pc := 67) rfl rfl rfl rfl dX11_place_67
    have h := g_iff c32 h
    by_cases c42 : v2 = 1
    · have h := g_ift c42 h
      refine g_tabIn (pc := 14) (tgt := 68) (off := 54) dX11_place_14 (by rw [c42]; decide) (by rw [c42]; decide) (by rw [c42]; decide) (by decide) ?_
      refine g_aload_n (pc := 68) dX11_place_68 rfl 0 rfl ?_
      refine g_getR (pc := 69) wfX11_19 rfl rfl dX11_place_69 ?_
      refine g_iload_n (pc := 72) dX11_place_72 rfl 1 rfl ?_
      obtain ⟨r45, σ44, h43, h⟩ := g_bId h
      refine g_callVi (pc := 73) (st := []) hE.1 wvX11_219 rfl rfl (kX6_stripeOf hE v1 σ29 h43) rfl (gR_ok (by decide) (by decide)) (Nat.le_of_ble_eq_true rfl) rfl dX11_place_73 ?_
      cases h
      exact g_iret (pc := 76) rfl rfl rfl rfl dX11_place_76
    have h := g_iff c42 h
    by_cases c46 : v2 = 2
    · have h := g_ift c46 h
      refine g_tabIn (pc := 14) (tgt := 77) (off := 63) dX11_place_14 (by rw [c46]; decide) (by rw [c46]; decide) (by rw [c46]; decide) (by decide) ?_
      refine g_aload_n (pc := 77) dX11_place_77 rfl 0 rfl ?_
      refine g_getR (pc := 78) wfX11_19 rfl rfl dX11_place_78 ?_
      refine g_iload_n (pc := 81) dX11_place_81 rfl 1 rfl ?_
      obtain ⟨r49, σ48, h47, h⟩ := g_bId h
      refine g_callVi (pc := 82) (st := []) hE.1 wvX11_225 rfl rfl (kX6_byteOf hE v1 σ29 h47) rfl (gR_ok (by decide) (by decide)) (Nat.le_of_ble_eq_true rfl) rfl dX11_place_82 ?_
      cases h
      exact g_iret (pc := 85) rfl rfl rfl rfl dX11_place_85
    have h := g_iff c46 h
    by_cases c50 : v2 = 3
    · have h := g_ift c50 h
      refine g_tabIn (pc := 14) (tgt := 86) (off := 72) dX11_place_14 (by rw [c50]; decide) (by rw [c50]; decide) (by rw [c50]; decide) (by decide) ?_
      refine g_aload_n (pc := 86) dX11_place_86 rfl 0 rfl ?_
      refine g_getR (pc := 87) wfX11_19 rfl rfl dX11_place_87 ?_
      refine g_iload_n (pc := 90) dX11_place_90 rfl 1 rfl ?_
      obtain ⟨r53, σ52, h51, h⟩ := g_bId h
      refine g_callVi (pc := 91) (st := []) hE.1 wvX11_216 rfl rfl (kX6_partOf hE v1 σ29 h51) rfl (gR_ok (by decide) (by decide)) (Nat.le_of_ble_eq_true rfl) rfl dX11_place_91 ?_
      cases h
      exact g_iret (pc := 94) rfl rfl rfl rfl dX11_place_94
    have h := g_iff c50 h
    have u54 : (v2).toInt < 0 ∨ 3 < (v2).toInt := by
      have ec32 := g_toInt c32
      have ec42 := g_toInt c42
      have ec46 := g_toInt c46
      have ec50 := g_toInt c50
      rw [show (0 : Int32).toInt = 0 from by decide] at ec32
      rw [show (1 : Int32).toInt = 1 from by decide] at ec42
      rw [show (2 : Int32).toInt = 2 from by decide] at ec46
      rw [show (3 : Int32).toInt = 3 from by decide] at ec50
      omega
    refine g_tabOut (pc := 14) (tgt := 95) dX11_place_14 u54 (by decide) ?_
    refine g_iconst (pc := 95) (v := (-1)) dX11_place_95 (by decide) ?_
    cases h
    exact g_iret (pc := 96) rfl rfl rfl rfl dX11_place_96
  · have h := g_ift c31 h
    refine g_iconst (pc := 11) (v := (-1)) dX11_place_11 (by decide) ?_
    cases h
    exact g_iret (pc := 12) rfl rfl rfl rfl dX11_place_12
def fX11_part (v1 : Int32) (v2 : Int32) (σ : gM) : Option (Int32 × gM) := g_bI (fX6_isDisk v1 σ) (fun r14 σ13 => if r14 = 0 then (some ((-1), σ13)) else (g_bI (fX6_isStripe v2 σ13) (fun r18 σ17 => if r18 = 0 then (some ((-1), σ17)) else (g_bI (fX6_partOn v1 v2 σ17) (fun r22 σ21 => some (r22, σ21))))))
set_option maxRecDepth 100000 in
theorem kX11_part (hE : gEX l dC dI ad ca X)  (v1 : Int32) (v2 : Int32) (σ : gM) {r0 : Int32} {σ' : gM} (h : fX11_part v1 v2 σ = some (r0, σ')) : g_C l dC dI ad ca shX X yX11_part cX11_part 3 (some .int) (gR 2) [.ref 0, .int v1, .int v2] σ (some (.int r0)) σ' := by
  refine g_entry (by decide +kernel) (Nat.le_of_ble_eq_true rfl) ?_
  refine g_lvE (lv1 := [(0, .ref 0), (1, .int v1), (2, .int v2)]) rfl ?_
  unfold fX11_part at h
  refine g_aload_n (pc := 0) dX11_part_0 rfl 0 rfl ?_
  refine g_getR (pc := 1) wfX11_19 rfl rfl dX11_part_1 ?_
  refine g_iload_n (pc := 4) dX11_part_4 rfl 1 rfl ?_
  obtain ⟨r14, σ13, h12, h⟩ := g_bId h
  refine g_callVi (pc := 5) (st := []) hE.1 wvX11_228 rfl rfl (kX6_isDisk hE v1 σ h12) rfl (gR_ok (by decide) (by decide)) (Nat.le_of_ble_eq_true rfl) rfl dX11_part_5 ?_
  refine g_if_eq (pc := 8) (tgt := 34) dX11_part_8 (by decide) (fun c15 => ?_) (fun c15 => ?_)
  · have h := g_ift c15 h
    refine g_iconst (pc := 34) (v := (-1)) dX11_part_34 (by decide) ?_
    cases h
    exact g_iret (pc := 35) rfl rfl rfl rfl dX11_part_35
  · have h := g_iff c15 h
    refine g_aload_n (pc := 11) dX11_part_11 rfl 0 rfl ?_
    refine g_getR (pc := 12) wfX11_19 rfl rfl dX11_part_12 ?_
    refine g_iload_n (pc := 15) dX11_part_15 rfl 2 rfl ?_
    obtain ⟨r18, σ17, h16, h⟩ := g_bId h
    refine g_callVi (pc := 16) (st := []) hE.1 wvX11_231 rfl rfl (kX6_isStripe hE v2 σ13 h16) rfl (gR_ok (by decide) (by decide)) (Nat.le_of_ble_eq_true rfl) rfl dX11_part_16 ?_
    refine g_if_eq (pc := 19) (tgt := 34) dX11_part_19 (by decide) (fun c19 => ?_) (fun c19 => ?_)
    · have h := g_ift c19 h
      refine g_iconst (pc := 34) (v := (-1)) dX11_part_34 (by decide) ?_
      cases h
      exact g_iret (pc := 35) rfl rfl rfl rfl dX11_part_35
    · have h := g_iff c19 h
      refine g_aload_n (pc := 22) dX11_part_22 rfl 0 rfl ?_
      refine g_getR (pc := 23) wfX11_19 rfl rfl dX11_part_23 ?_
      refine g_iload_n (pc := 26) dX11_part_26 rfl 1 rfl ?_
      refine g_iload_n (pc := 27) dX11_part_27 rfl 2 rfl ?_
      obtain ⟨r22, σ21, h20, h⟩ := g_bId h
      refine g_callVi (pc := 28) (st := []) hE.1 wvX11_234 rfl rfl (kX6_partOn hE v1 v2 σ17 h20) rfl (gR_ok (by decide) (by decide)) (Nat.le_of_ble_eq_true rfl) rfl dX11_part_28 ?_
      refine g_goto (pc := 31) (tgt := 35) dX11_part_31 (by decide) ?_
      cases h
      exact g_iret (pc := 35) rfl rfl rfl rfl dX11_part_35
def fX11_read (n : Nat) (v1 : Int32) (σ : gM) : Option (Int32 × gM) := g_bI (fX6_isAddress v1 σ) (fun r10 σ9 => if r10 = 0 then (none) else (g_bI (fX8_byteRead n 0 v1 σ9) (fun r14 σ13 => some (r14, σ13))))
set_option maxRecDepth 100000 in
theorem kX11_read (hE : gEX l dC dI ad ca X) (n : Nat)  (v1 : Int32) (σ : gM) {r0 : Int32} {σ' : gM} (h : fX11_read n v1 σ = some (r0, σ')) : g_C l dC dI ad ca shX X yX11_read cX11_read 2 (some .int) (gR 5) [.ref 0, .int v1] σ (some (.int r0)) σ' := by
  refine g_entry (by decide +kernel) (Nat.le_of_ble_eq_true rfl) ?_
  refine g_lvE (lv1 := [(0, .ref 0), (1, .int v1)]) rfl ?_
  unfold fX11_read at h
  refine g_aload_n (pc := 0) dX11_read_0 rfl 0 rfl ?_
  refine g_getR (pc := 1) wfX11_19 rfl rfl dX11_read_1 ?_
  refine g_iload_n (pc := 4) dX11_read_4 rfl 1 rfl ?_
  obtain ⟨r10, σ9, h8, h⟩ := g_bId h
  refine g_callVi (pc := 5) (st := []) hE.1 wvX11_153 rfl rfl (kX6_isAddress hE v1 σ h8) rfl (gR_ok (by decide) (by decide)) (Nat.le_of_ble_eq_true rfl) rfl dX11_read_5 ?_
  refine g_if_ne (pc := 8) (tgt := 21) dX11_read_8 (by decide) (fun c11 => ?_) (fun c11 => ?_)
  · have h := g_iff c11 h
    refine g_aload_n (pc := 21) dX11_read_21 rfl 0 rfl ?_
    refine g_getR (pc := 22) wfX11_35 rfl rfl dX11_read_22 ?_
    refine g_iload_n (pc := 25) dX11_read_25 rfl 1 rfl ?_
    obtain ⟨r14, σ13, h12, h⟩ := g_bId h
    refine g_callVi (pc := 26) (st := []) hE.1 wvX11_244 (sX_shelf (i := 0) (by decide)) rfl (kX8_byteRead hE n 0 (by decide) v1 σ9 h12) rfl (gR_ok (by decide) (by decide)) (Nat.le_of_ble_eq_true rfl) rfl dX11_read_26 ?_
    cases h
    exact g_iret (pc := 29) rfl rfl rfl rfl dX11_read_29
  · have h := g_ift c11 h
    cases h
def fX11_cell (v1 : Int32) (v2 : Int32) (v3 : Int32) (σ : gM) : Option (Int32 × gM) := g_bI (fX6_isCell v1 v2 v3 σ) (fun r14 σ13 => if r14 = 0 then (some ((-1), σ13)) else (g_bI (fX8_isThere 0 v1 v2 σ13) (fun r18 σ17 => if r18 = 0 then (some ((-1000000), σ17)) else (g_bI (fX9_byteAt 0 v1 v2 v3 σ17) (fun r22 σ21 => some (r22, σ21))))))
set_option maxRecDepth 100000 in
theorem kX11_cell (hE : gEX l dC dI ad ca X)  (v1 : Int32) (v2 : Int32) (v3 : Int32) (σ : gM) {r0 : Int32} {σ' : gM} (h : fX11_cell v1 v2 v3 σ = some (r0, σ')) : g_C l dC dI ad ca shX X yX11_cell cX11_cell 4 (some .int) (gR 2) [.ref 0, .int v1, .int v2, .int v3] σ (some (.int r0)) σ' := by
  refine g_entry (by decide +kernel) (Nat.le_of_ble_eq_true rfl) ?_
  refine g_lvE (lv1 := [(0, .ref 0), (1, .int v1), (2, .int v2), (3, .int v3)]) rfl ?_
  unfold fX11_cell at h
  refine g_aload_n (pc := 0) dX11_cell_0 rfl 0 rfl ?_
  refine g_getR (pc := 1) wfX11_19 rfl rfl dX11_cell_1 ?_
  refine g_iload_n (pc := 4) dX11_cell_4 rfl 1 rfl ?_
  refine g_iload_n (pc := 5) dX11_cell_5 rfl 2 rfl ?_
  refine g_iload_n (pc := 6) dX11_cell_6 rfl 3 rfl ?_
  obtain ⟨r14, σ13, h12, h⟩ := g_bId h
  refine g_callVi (pc := 7) (st := []) hE.1 wvX11_247 rfl rfl (kX6_isCell hE v1 v2 v3 σ h12) rfl (gR_ok (by decide) (by decide)) (Nat.le_of_ble_eq_true rfl) rfl dX11_cell_7 ?_
  refine g_if_ne (pc := 10) (tgt := 15) dX11_cell_10 (by decide) (fun c15 => ?_) (fun c15 => ?_)
  · have h := g_iff c15 h
    refine g_aload_n (pc := 15) dX11_cell_15 rfl 0 rfl ?_
    refine g_getR (pc := 16) wfX11_35 rfl rfl dX11_cell_16 ?_
    refine g_iload_n (pc := 19) dX11_cell_19 rfl 1 rfl ?_
    refine g_iload_n (pc := 20) dX11_cell_20 rfl 2 rfl ?_
    obtain ⟨r18, σ17, h16, h⟩ := g_bId h
    refine g_callVi (pc := 21) (st := []) hE.1 wvX11_251 (sX_shelf (i := 0) (by decide)) rfl (kX8_isThere hE 0 (by decide) v1 v2 σ13 h16) rfl (gR_ok (by decide) (by decide)) (Nat.le_of_ble_eq_true rfl) rfl dX11_cell_21 ?_
    refine g_if_eq (pc := 24) (tgt := 43) dX11_cell_24 (by decide) (fun c19 => ?_) (fun c19 => ?_)
    · have h := g_ift c19 h
      refine g_ldcw (pc := 43) wkX11_259 dX11_cell_43 ?_
      cases h
      exact g_iret (pc := 46) rfl rfl rfl rfl dX11_cell_46
    · have h := g_iff c19 h
      refine g_aload_n (pc := 27) dX11_cell_27 rfl 0 rfl ?_
      refine g_getR (pc := 28) wfX11_35 rfl rfl dX11_cell_28 ?_
      refine g_getR (pc := 31) wfX11_137 (sX_shelf (i := 0) (by decide)) rfl dX11_cell_31 ?_
      refine g_iload_n (pc := 34) dX11_cell_34 rfl 1 rfl ?_
      refine g_iload_n (pc := 35) dX11_cell_35 rfl 2 rfl ?_
      refine g_iload_n (pc := 36) dX11_cell_36 rfl 3 rfl ?_
      obtain ⟨r22, σ21, h20, h⟩ := g_bId h
      refine g_callVi (pc := 37) (st := []) hE.1 wvX11_255 (sX_state (i := 0) (by decide)) rfl (kX9_byteAt hE 0 (by decide) v1 v2 v3 σ17 h20) rfl (gR_ok (by decide) (by decide)) (Nat.le_of_ble_eq_true rfl) rfl dX11_cell_37 ?_
      refine g_goto (pc := 40) (tgt := 46) dX11_cell_40 (by decide) ?_
      cases h
      exact g_iret (pc := 46) rfl rfl rfl rfl dX11_cell_46
  · have h := g_ift c15 h
    refine g_iconst (pc := 13) (v := (-1)) dX11_cell_13 (by decide) ?_
    cases h
    exact g_iret (pc := 14) rfl rfl rfl rfl dX11_cell_14
def fX11_disk (v1 : Int32) (v2 : Int32) (σ : gM) : Option (Int32 × gM) := g_bI (fX6_isDisk v1 σ) (fun r28 σ27 => if r28 = 0 then (some ((-1), σ27)) else (if v2 = 0 then (g_bI (fX9_get 0 (96 + v1) σ27) (fun r33 σ32 => some (r33, σ32))) else (if v2 = 1 then (g_bI (fX9_get 0 (104 + v1) σ27) (fun r37 σ36 => some (r37, σ36))) else (if v2 = 2 then (g_bI (fX9_get 0 (112 + v1) σ27) (fun r41 σ40 => some (r41, σ40))) else (if v2 = 3 then (g_bI (fX9_get 0 (120 + v1) σ27) (fun r45 σ44 => some (r45, σ44))) else (if v2 = 4 then (g_bI (fX9_get 0 (128 + v1) σ27) (fun r49 σ48 => some (r49, σ48))) else (some ((-1), σ27))))))))
set_option maxRecDepth 100000 in
theorem kX11_disk (hE : gEX l dC dI ad ca X)  (v1 : Int32) (v2 : Int32) (σ : gM) {r0 : Int32} {σ' : gM} (h : fX11_disk v1 v2 σ = some (r0, σ')) : g_C l dC dI ad ca shX X yX11_disk cX11_disk 3 (some .int) (gR 1) [.ref 0, .int v1, .int v2] σ (some (.int r0)) σ' := by
  refine g_entry (by decide +kernel) (Nat.le_of_ble_eq_true rfl) ?_
  refine g_lvE (lv1 := [(0, .ref 0), (1, .int v1), (2, .int v2)]) rfl ?_
  unfold fX11_disk at h
  refine g_aload_n (pc := 0) dX11_disk_0 rfl 0 rfl ?_
  refine g_getR (pc := 1) wfX11_19 rfl rfl dX11_disk_1 ?_
  refine g_iload_n (pc := 4) dX11_disk_4 rfl 1 rfl ?_
  obtain ⟨r28, σ27, h26, h⟩ := g_bId h
  refine g_callVi (pc := 5) (st := []) hE.1 wvX11_228 rfl rfl (kX6_isDisk hE v1 σ h26) rfl (gR_ok (by decide) (by decide)) (Nat.le_of_ble_eq_true rfl) rfl dX11_disk_5 ?_
  refine g_if_ne (pc := 8) (tgt := 13) dX11_disk_8 (by decide) (fun c29 => ?_) (fun c29 => ?_)
  · have h := g_iff c29 h
    refine g_iload_n (pc := 13) dX11_disk_13 rfl 2 rfl ?_
    by_cases c30 : v2 = 0
    · have h := g_ift c30 h
      refine g_tabIn (pc := 14) (tgt := 48) (off := 34) dX11_disk_14 (by rw [c30]; decide) (by rw [c30]; decide) (by rw [c30]; decide) (by decide) ?_
      refine g_aload_n (pc := 48) dX11_disk_48 rfl 0 rfl ?_
      refine g_getR (pc := 49) wfX11_35 rfl rfl dX11_disk_49 ?_
      refine g_getR (pc := 52) wfX11_137 (sX_shelf (i := 0) (by decide)) rfl dX11_disk_52 ?_
      refine g_bipush (pc := 55) (v := 96) dX11_disk_55 (by decide) ?_
      refine g_iload_n (pc := 57) dX11_disk_57 rfl 1 rfl ?_
      refine g_iadd (pc := 58) dX11_disk_58 ?_
      obtain ⟨r33, σ32, h31, h⟩ := g_bId h
      refine g_callVi (pc := 59) (st := []) hE.1 wvX11_194 (sX_state (i := 0) (by decide)) rfl (kX9_get hE 0 (by decide) (96 + v1) σ27 h31) rfl (gR_ok (by decide) (by decide)) (Nat.le_of_ble_eq_true rfl) rfl dX11_disk_59 ?_
      cases h
      exact g_iret (pc := 62) rfl rfl rfl rfl dX11_disk_62
    have h := g_iff c30 h
    by_cases c34 : v2 = 1
    · have h := g_ift c34 h
      refine g_tabIn (pc := 14) (tgt := 63) (off := 49) dX11_disk_14 (by rw [c34]; decide) (by rw [c34]; decide) (by rw [c34]; decide) (by decide) ?_
      refine g_aload_n (pc := 63) dX11_disk_63 rfl 0 rfl ?_
      refine g_getR (pc := 64) wfX11_35 rfl rfl dX11_disk_64 ?_
      refine g_getR (pc := 67) wfX11_137 (sX_shelf (i := 0) (by decide)) rfl dX11_disk_67 ?_
      refine g_bipush (pc := 70) (v := 104) dX11_disk_70 (by decide) ?_
      refine g_iload_n (pc := 72) dX11_disk_72 rfl 1 rfl ?_
      refine g_iadd (pc := 73) dX11_disk_73 ?_
      obtain ⟨r37, σ36, h35, h⟩ := g_bId h
      refine g_callVi (pc := 74) (st := []) hE.1 wvX11_194 (sX_state (i := 0) (by decide)) rfl (kX9_get hE 0 (by decide) (104 + v1) σ27 h35) rfl (gR_ok (by decide) (by decide)) (Nat.le_of_ble_eq_true rfl) rfl dX11_disk_74 ?_
      cases h
      exact g_iret (pc := 77) rfl rfl rfl rfl dX11_disk_77
    have h := g_iff c34 h
    by_cases c38 : v2 = 2
    · have h := g_ift c38 h
      refine g_tabIn (pc := 14) (tgt := 78) (off := 64) dX11_disk_14 (by rw [c38]; decide) (by rw [c38]; decide) (by rw [c38]; decide) (by decide) ?_
      refine g_aload_n (pc := 78) dX11_disk_78 rfl 0 rfl ?_
      refine g_getR (pc := 79) wfX11_35 rfl rfl dX11_disk_79 ?_
      refine g_getR (pc := 82) wfX11_137 (sX_shelf (i := 0) (by decide)) rfl dX11_disk_82 ?_
      refine g_bipush (pc := 85) (v := 112) dX11_disk_85 (by decide) ?_
      refine g_iload_n (pc := 87) dX11_disk_87 rfl 1 rfl ?_
      refine g_iadd (pc := 88) dX11_disk_88 ?_
      obtain ⟨r41, σ40, h39, h⟩ := g_bId h
      refine g_callVi (pc := 89) (st := []) hE.1 wvX11_194 (sX_state (i := 0) (by decide)) rfl (kX9_get hE 0 (by decide) (112 + v1) σ27 h39) rfl (gR_ok (by decide) (by decide)) (Nat.le_of_ble_eq_true rfl) rfl dX11_disk_89 ?_
      cases h
      exact g_iret (pc := 92) rfl rfl rfl rfl dX11_disk_92
    have h := g_iff c38 h
    by_cases c42 : v2 = 3
    · have h := g_ift c42 h
      refine g_tabIn (pc := 14) (tgt := 93) (off := 79) dX11_disk_14 (by rw [c42]; decide) (by rw [c42]; decide) (by rw [c42]; decide) (by decide) ?_
      refine g_aload_n (pc := 93) dX11_disk_93 rfl 0 rfl ?_
      refine g_getR (pc := 94) wfX11_35 rfl rfl dX11_disk_94 ?_
      refine g_getR (pc := 97) wfX11_137 (sX_shelf (i := 0) (by decide)) rfl dX11_disk_97 ?_
      refine g_bipush (pc := 100) (v := 120) dX11_disk_100 (by decide) ?_
      refine g_iload_n (pc := 102) dX11_disk_102 rfl 1 rfl ?_
      refine g_iadd (pc := 103) dX11_disk_103 ?_
      obtain ⟨r45, σ44, h43, h⟩ := g_bId h
      refine g_callVi (pc := 104) (st := []) hE.1 wvX11_194 (sX_state (i := 0) (by decide)) rfl (kX9_get hE 0 (by decide) (120 + v1) σ27 h43) rfl (gR_ok (by decide) (by decide)) (Nat.le_of_ble_eq_true rfl) rfl dX11_disk_104 ?_
      cases h
      exact g_iret (pc := 107) rfl rfl rfl rfl dX11_disk_107
    have h := g_iff c42 h
    by_cases c46 : v2 = 4
    · have h := g_ift c46 h
      refine g_tabIn (pc := 14) (tgt := 108) (off := 94) dX11_disk_14 (by rw [c46]; decide) (by rw [c46]; decide) (by rw [c46]; decide) (by decide) ?_
      refine g_aload_n (pc := 108) dX11_disk_108 rfl 0 rfl ?_
      refine g_getR (pc := 109) wfX11_35 rfl rfl dX11_disk_109 ?_
      refine g_getR (pc := 112) wfX11_137 (sX_shelf (i := 0) (by decide)) rfl dX11_disk_112 ?_
      refine g_sipush (pc := 115) (v := 128) dX11_disk_115 (by decide) ?_
      refine g_iload_n (pc := 118) dX11_disk_118 rfl 1 rfl ?_
      refine g_iadd (pc := 119) dX11_disk_119 ?_
      obtain ⟨r49, σ48, h47, h⟩ := g_bId h
      refine g_callVi (pc := 120) (st := []) hE.1 wvX11_194 (sX_state (i := 0) (by decide)) rfl (kX9_get hE 0 (by decide) (128 + v1) σ27 h47) rfl (gR_ok (by decide) (by decide)) (Nat.le_of_ble_eq_true rfl) rfl dX11_disk_120 ?_
      cases h
      exact g_iret (pc := 123) rfl rfl rfl rfl dX11_disk_123
    have h := g_iff c46 h
    have u50 : (v2).toInt < 0 ∨ 4 < (v2).toInt := by
      have ec30 := g_toInt c30
      have ec34 := g_toInt c34
      have ec38 := g_toInt c38
      have ec42 := g_toInt c42
      have ec46 := g_toInt c46
      rw [show (0 : Int32).toInt = 0 from by decide] at ec30
      rw [show (1 : Int32).toInt = 1 from by decide] at ec34
      rw [show (2 : Int32).toInt = 2 from by decide] at ec38
      rw [show (3 : Int32).toInt = 3 from by decide] at ec42
      rw [show (4 : Int32).toInt = 4 from by decide] at ec46
      omega
    refine g_tabOut (pc := 14) (tgt := 124) dX11_disk_14 u50 (by decide) ?_
    refine g_iconst (pc := 124) (v := (-1)) dX11_disk_124 (by decide) ?_
    cases h
    exact g_iret (pc := 125) rfl rfl rfl rfl dX11_disk_125
  · have h := g_ift c29 h
    refine g_iconst (pc := 11) (v := (-1)) dX11_disk_11 (by decide) ?_
    cases h
    exact g_iret (pc := 12) rfl rfl rfl rfl dX11_disk_12
def fX11_attempt_b87 (n : Nat) (v6 : Int32) (v7 : Int32) (s0 : Int32) (s1 : Int32) (σ : gM) : Option (Int32 × gM) := g_bI (fX9_costEver n 0 σ) (fun r23 σ22 => g_bV (fX3_add 0 s1 s0 (r23 - v6) σ22) (fun σ25 => some (v7, σ25)))
set_option maxRecDepth 100000 in
theorem tX11_attempt_b87 (hE : gEX l dC dI ad ca X) {r0 : Int32} {σ' : gM} (n : Nat) (v6 : Int32) (v7 : Int32) (s0 : Int32) (s1 : Int32)  (σ : gM) (h : fX11_attempt_b87 n v6 v7 s0 s1 σ = some (r0, σ')) : g_G l dC dI ad ca shX X cX11_attempt 8 RX11 (some .int) (gR 6) (some (.int r0)) σ' 87 [(0, .ref 0), (6, .int v6), (7, .int v7)] [.int s0, .int s1, .ref (25 + 2 * 0)] σ := by
  unfold fX11_attempt_b87 at h
  refine g_aload_n (pc := 87) dX11_attempt_87 rfl 0 rfl ?_
  refine g_getR (pc := 88) wfX11_35 rfl rfl dX11_attempt_88 ?_
  refine g_getR (pc := 91) wfX11_137 (sX_shelf (i := 0) (by decide)) rfl dX11_attempt_91 ?_
  obtain ⟨r23, σ22, h21, h⟩ := g_bId h
  refine g_callVi (pc := 94) (st := [.int s0, .int s1, .ref (25 + 2 * 0)]) hE.1 wvX11_276 (sX_state (i := 0) (by decide)) rfl (kX9_costEver hE n 0 (by decide) σ h21) rfl (gR_ok (by decide) (by decide)) (Nat.le_of_ble_eq_true rfl) rfl dX11_attempt_94 ?_
  refine g_iload (pc := 97) dX11_attempt_97 1 rfl ?_
  refine g_isub (pc := 99) dX11_attempt_99 ?_
  obtain ⟨σ25, h24, h⟩ := g_bVd h
  refine g_callVv (pc := 100) (st := []) hE.1 wvX11_285 (sX_log (i := 0) (by decide)) rfl (kX3_add hE 0 (by decide) s1 s0 (r23 - v6) σ22 h24) rfl (gR_ok (by decide) (by decide)) (Nat.le_of_ble_eq_true rfl) rfl dX11_attempt_100 ?_
  refine g_iload (pc := 103) dX11_attempt_103 2 rfl ?_
  cases h
  exact g_iret (pc := 105) rfl rfl rfl rfl dX11_attempt_105
def fX11_attempt (n : Nat) (v1 : Int32) (v2 : Int32) (v3 : Int32) (v4 : Int32) (v5 : Int32) (σ : gM) : Option (Int32 × gM) := g_bI (fX8_refusal n 0 v1 v2 v3 v4 v5 σ) (fun r28 σ27 => g_let (g_put σ27 0 14 r28) (fun σ29 => if (σ29.1 0 14) = (-1) then (g_bV (fX2_keep 0 σ29) (fun σ33 => g_bI (fX9_costEver n 0 σ33) (fun r36 σ35 => g_bI (fX8_carryOut n 0 v1 v2 v3 v4 v5 σ35) (fun r39 σ38 => if v1 = 7 then (fX11_attempt_b87 n r36 r39 r39 v1 σ38) else (fX11_attempt_b87 n r36 r39 v2 v1 σ38))))) else (some ((-1), σ29))))
set_option maxRecDepth 100000 in
theorem kX11_attempt (hE : gEX l dC dI ad ca X) (n : Nat)  (v1 : Int32) (v2 : Int32) (v3 : Int32) (v4 : Int32) (v5 : Int32) (σ : gM) {r0 : Int32} {σ' : gM} (h : fX11_attempt n v1 v2 v3 v4 v5 σ = some (r0, σ')) : g_C l dC dI ad ca shX X yX11_attempt cX11_attempt 8 (some .int) (gR 6) [.ref 0, .int v1, .int v2, .int v3, .int v4, .int v5] σ (some (.int r0)) σ' := by
  refine g_entry (by decide +kernel) (Nat.le_of_ble_eq_true rfl) ?_
  refine g_lvE (lv1 := [(0, .ref 0), (1, .int v1), (2, .int v2), (3, .int v3), (4, .int v4), (5, .int v5)]) rfl ?_
  unfold fX11_attempt at h
  refine g_aload_n (pc := 0) dX11_attempt_0 rfl 0 rfl ?_
  refine g_aload_n (pc := 1) dX11_attempt_1 rfl 0 rfl ?_
  refine g_getR (pc := 2) wfX11_35 rfl rfl dX11_attempt_2 ?_
  refine g_iload_n (pc := 5) dX11_attempt_5 rfl 1 rfl ?_
  refine g_iload_n (pc := 6) dX11_attempt_6 rfl 2 rfl ?_
  refine g_iload_n (pc := 7) dX11_attempt_7 rfl 3 rfl ?_
  refine g_iload (pc := 8) dX11_attempt_8 4 rfl ?_
  refine g_iload (pc := 10) dX11_attempt_10 5 rfl ?_
  obtain ⟨r28, σ27, h26, h⟩ := g_bId h
  refine g_callVi (pc := 12) (st := [.ref 0]) hE.1 wvX11_279 (sX_shelf (i := 0) (by decide)) rfl (kX8_refusal hE n 0 (by decide) v1 v2 v3 v4 v5 σ h26) rfl (gR_ok (by decide) (by decide)) (Nat.le_of_ble_eq_true rfl) rfl dX11_attempt_12 ?_
  obtain ⟨σ29, e30, h⟩ := g_ltd h
  refine g_putI (pc := 15) wfX11_92 rfl rfl rfl rfl e30 dX11_attempt_15 ?_
  refine g_aload_n (pc := 18) dX11_attempt_18 rfl 0 rfl ?_
  refine g_getI (pc := 19) wfX11_92 rfl rfl dX11_attempt_19 ?_
  refine g_iconst (pc := 22) (v := (-1)) dX11_attempt_22 (by decide) ?_
  refine g_icmp_eq (pc := 23) (tgt := 28) dX11_attempt_23 (by decide) (fun c31 => ?_) (fun c31 => ?_)
  · have h := g_ift c31 h
    refine g_aload_n (pc := 28) dX11_attempt_28 rfl 0 rfl ?_
    refine g_getR (pc := 29) wfX11_67 rfl rfl dX11_attempt_29 ?_
    refine g_aload_n (pc := 32) dX11_attempt_32 rfl 0 rfl ?_
    refine g_getR (pc := 33) wfX11_35 rfl rfl dX11_attempt_33 ?_
    refine g_getR (pc := 36) wfX11_137 (sX_shelf (i := 0) (by decide)) rfl dX11_attempt_36 ?_
    obtain ⟨σ33, h32, h⟩ := g_bVd h
    refine g_callVv (pc := 39) (st := []) hE.1 wvX11_281 rfl rfl (kX2_keep hE 0 (by decide) σ29 h32) rfl (gR_ok (by decide) (by decide)) (Nat.le_of_ble_eq_true rfl) rfl dX11_attempt_39 ?_
    refine g_aload_n (pc := 42) dX11_attempt_42 rfl 0 rfl ?_
    refine g_getR (pc := 43) wfX11_35 rfl rfl dX11_attempt_43 ?_
    refine g_getR (pc := 46) wfX11_137 (sX_shelf (i := 0) (by decide)) rfl dX11_attempt_46 ?_
    obtain ⟨r36, σ35, h34, h⟩ := g_bId h
    refine g_callVi (pc := 49) (st := []) hE.1 wvX11_276 (sX_state (i := 0) (by decide)) rfl (kX9_costEver hE n 0 (by decide) σ33 h34) rfl (gR_ok (by decide) (by decide)) (Nat.le_of_ble_eq_true rfl) rfl dX11_attempt_49 ?_
    refine g_istore (pc := 52) (lv1 := [(6, .int r36), (0, .ref 0), (1, .int v1), (2, .int v2), (3, .int v3), (4, .int v4), (5, .int v5)]) dX11_attempt_52 (by decide) rfl ?_
    refine g_aload_n (pc := 54) dX11_attempt_54 rfl 1 rfl ?_
    refine g_getR (pc := 55) wfX11_35 rfl rfl dX11_attempt_55 ?_
    refine g_iload_n (pc := 58) dX11_attempt_58 rfl 2 rfl ?_
    refine g_iload_n (pc := 59) dX11_attempt_59 rfl 3 rfl ?_
    refine g_iload_n (pc := 60) dX11_attempt_60 rfl 4 rfl ?_
    refine g_iload (pc := 61) dX11_attempt_61 5 rfl ?_
    refine g_iload (pc := 63) dX11_attempt_63 6 rfl ?_
    obtain ⟨r39, σ38, h37, h⟩ := g_bId h
    refine g_callVi (pc := 65) (st := []) hE.1 wvX11_159 (sX_shelf (i := 0) (by decide)) rfl (kX8_carryOut hE n 0 (by decide) v1 v2 v3 v4 v5 σ35 h37) rfl (gR_ok (by decide) (by decide)) (Nat.le_of_ble_eq_true rfl) rfl dX11_attempt_65 ?_
    refine g_istore (pc := 68) (lv1 := [(7, .int r39), (6, .int r36), (0, .ref 0), (1, .int v1), (2, .int v2), (3, .int v3), (4, .int v4), (5, .int v5)]) dX11_attempt_68 (by decide) rfl ?_
    refine g_aload_n (pc := 70) dX11_attempt_70 rfl 2 rfl ?_
    refine g_getR (pc := 71) wfX11_57 rfl rfl dX11_attempt_71 ?_
    refine g_iload_n (pc := 74) dX11_attempt_74 rfl 3 rfl ?_
    refine g_iload_n (pc := 75) dX11_attempt_75 rfl 3 rfl ?_
    refine g_bipush (pc := 76) (v := 7) dX11_attempt_76 (by decide) ?_
    refine g_icmp_ne (pc := 78) (tgt := 86) dX11_attempt_78 (by decide) (fun c40 => ?_) (fun c40 => ?_)
    · have h := g_iff c40 h
      refine g_iload_n (pc := 86) dX11_attempt_86 rfl 4 rfl ?_
      exact g_lv [2, 1, 0] rfl (tX11_attempt_b87 hE n r36 r39 v2 v1 σ38 h)
    · have h := g_ift c40 h
      refine g_iload (pc := 81) dX11_attempt_81 0 rfl ?_
      refine g_goto (pc := 83) (tgt := 87) dX11_attempt_83 (by decide) ?_
      exact g_lv [2, 1, 0] rfl (tX11_attempt_b87 hE n r36 r39 r39 v1 σ38 h)
  · have h := g_iff c31 h
    refine g_iconst (pc := 26) (v := (-1)) dX11_attempt_26 (by decide) ?_
    cases h
    exact g_iret (pc := 27) rfl rfl rfl rfl dX11_attempt_27
def fX11_counted_b32 (v1 : Int32) (σ : gM) : Option (Int32 × gM) := some (v1, σ)
set_option maxRecDepth 100000 in
theorem tX11_counted_b32 (hE : gEX l dC dI ad ca X) {r0 : Int32} {σ' : gM} (v1 : Int32)  (σ : gM) (h : fX11_counted_b32 v1 σ = some (r0, σ')) : g_G l dC dI ad ca shX X cX11_counted 2 RX11 (some .int) (gR 0) (some (.int r0)) σ' 32 [(1, .int v1)] [] σ := by
  unfold fX11_counted_b32 at h
  refine g_iload_n (pc := 32) dX11_counted_32 rfl 0 rfl ?_
  cases h
  exact g_iret (pc := 33) rfl rfl rfl rfl dX11_counted_33
def fX11_counted (v1 : Int32) (σ : gM) : Option (Int32 × gM) := if (σ.1 0 14) < 0 then (fX11_counted_b32 v1 σ) else (if 4 ≤ (σ.1 0 14) then (fX11_counted_b32 v1 σ) else (if ¬ ((σ.1 0 14) < 0 ∨ 4 ≤ (σ.1 0 14).toNatClampNeg) then (if ¬ ((σ.1 0 14) < 0 ∨ 4 ≤ (σ.1 0 14).toNatClampNeg) then (g_let (g_put σ 34 ((σ.1 0 14).toNatClampNeg) ((σ.1 34 ((σ.1 0 14).toNatClampNeg)) + 1)) (fun σ11 => fX11_counted_b32 v1 σ11)) else none) else none))
set_option maxRecDepth 100000 in
theorem kX11_counted (hE : gEX l dC dI ad ca X)  (v1 : Int32) (σ : gM) {r0 : Int32} {σ' : gM} (h : fX11_counted v1 σ = some (r0, σ')) : g_C l dC dI ad ca shX X yX11_counted cX11_counted 2 (some .int) (gR 0) [.ref 0, .int v1] σ (some (.int r0)) σ' := by
  refine g_entry (by decide +kernel) (Nat.le_of_ble_eq_true rfl) ?_
  refine g_lvE (lv1 := [(0, .ref 0), (1, .int v1)]) rfl ?_
  unfold fX11_counted at h
  refine g_aload_n (pc := 0) dX11_counted_0 rfl 0 rfl ?_
  refine g_getI (pc := 1) wfX11_92 rfl rfl dX11_counted_1 ?_
  refine g_if_lt (pc := 4) (tgt := 32) dX11_counted_4 (by decide) (fun c7 => ?_) (fun c7 => ?_)
  · have h := g_ift c7 h
    exact g_lv [1] rfl (tX11_counted_b32 hE v1 σ h)
  · have h := g_iff c7 h
    refine g_aload_n (pc := 7) dX11_counted_7 rfl 0 rfl ?_
    refine g_getI (pc := 8) wfX11_92 rfl rfl dX11_counted_8 ?_
    refine g_aload_n (pc := 11) dX11_counted_11 rfl 0 rfl ?_
    refine g_getR (pc := 12) wfX11_84 rfl rfl dX11_counted_12 ?_
    refine g_alen (pc := 15) rfl dX11_counted_15 ?_
    refine g_icmp_ge (pc := 16) (tgt := 32) dX11_counted_16 (by decide) (fun c8 => ?_) (fun c8 => ?_)
    · have h := g_ift c8 h
      exact g_lv [1] rfl (tX11_counted_b32 hE v1 σ h)
    · have h := g_iff c8 h
      refine g_aload_n (pc := 19) dX11_counted_19 rfl 0 rfl ?_
      refine g_getR (pc := 20) wfX11_84 rfl rfl dX11_counted_20 ?_
      refine g_aload_n (pc := 23) dX11_counted_23 rfl 0 rfl ?_
      refine g_getI (pc := 24) wfX11_92 rfl rfl dX11_counted_24 ?_
      refine g_dup2 (pc := 27) dX11_counted_27 rfl rfl ?_
      obtain ⟨c9, h⟩ := g_gd h
      refine g_iald (pc := 28) rfl c9 rfl dX11_counted_28 ?_
      refine g_iconst (pc := 29) (v := 1) dX11_counted_29 (by decide) ?_
      refine g_iadd (pc := 30) dX11_counted_30 ?_
      obtain ⟨c10, h⟩ := g_gd h
      obtain ⟨σ11, e12, h⟩ := g_ltd h
      refine g_iast (pc := 31) rfl c10 rfl e12 dX11_counted_31 ?_
      exact g_lv [1] rfl (tX11_counted_b32 hE v1 σ11 h)
def fX11_write (n : Nat) (v1 : Int32) (v2 : Int32) (σ : gM) : Option (Int32 × gM) := g_bI (fX11_attempt n 0 v1 v2 0 0 σ) (fun r9 σ8 => g_bI (fX11_counted r9 σ8) (fun r12 σ11 => some (r12, σ11)))
set_option maxRecDepth 100000 in
theorem kX11_write (hE : gEX l dC dI ad ca X) (n : Nat)  (v1 : Int32) (v2 : Int32) (σ : gM) {r0 : Int32} {σ' : gM} (h : fX11_write n v1 v2 σ = some (r0, σ')) : g_C l dC dI ad ca shX X yX11_write cX11_write 3 (some .int) (gR 7) [.ref 0, .int v1, .int v2] σ (some (.int r0)) σ' := by
  refine g_entry (by decide +kernel) (Nat.le_of_ble_eq_true rfl) ?_
  refine g_lvE (lv1 := [(0, .ref 0), (1, .int v1), (2, .int v2)]) rfl ?_
  unfold fX11_write at h
  refine g_aload_n (pc := 0) dX11_write_0 rfl 0 rfl ?_
  refine g_aload_n (pc := 1) dX11_write_1 rfl 0 rfl ?_
  refine g_iconst (pc := 2) (v := 0) dX11_write_2 (by decide) ?_
  refine g_iload_n (pc := 3) dX11_write_3 rfl 1 rfl ?_
  refine g_iload_n (pc := 4) dX11_write_4 rfl 2 rfl ?_
  refine g_iconst (pc := 5) (v := 0) dX11_write_5 (by decide) ?_
  refine g_iconst (pc := 6) (v := 0) dX11_write_6 (by decide) ?_
  obtain ⟨r9, σ8, h7, h⟩ := g_bId h
  refine g_callVi (pc := 7) (st := [.ref 0]) hE.1 wvX11_260 rfl rfl (kX11_attempt hE n 0 v1 v2 0 0 σ h7) rfl (gR_ok (by decide) (by decide)) (Nat.le_of_ble_eq_true rfl) rfl dX11_write_7 ?_
  obtain ⟨r12, σ11, h10, h⟩ := g_bId h
  refine g_callVi (pc := 10) (st := []) hE.1 wvX11_263 rfl rfl (kX11_counted hE r9 σ8 h10) rfl (gR_ok (by decide) (by decide)) (Nat.le_of_ble_eq_true rfl) rfl dX11_write_10 ?_
  cases h
  exact g_iret (pc := 13) rfl rfl rfl rfl dX11_write_13
def fX11_lose (n : Nat) (v1 : Int32) (σ : gM) : Option (Int32 × gM) := g_bI (fX11_attempt n 1 v1 0 0 0 σ) (fun r9 σ8 => g_bI (fX11_counted r9 σ8) (fun r12 σ11 => some (r12, σ11)))
set_option maxRecDepth 100000 in
theorem kX11_lose (hE : gEX l dC dI ad ca X) (n : Nat)  (v1 : Int32) (σ : gM) {r0 : Int32} {σ' : gM} (h : fX11_lose n v1 σ = some (r0, σ')) : g_C l dC dI ad ca shX X yX11_lose cX11_lose 2 (some .int) (gR 7) [.ref 0, .int v1] σ (some (.int r0)) σ' := by
  refine g_entry (by decide +kernel) (Nat.le_of_ble_eq_true rfl) ?_
  refine g_lvE (lv1 := [(0, .ref 0), (1, .int v1)]) rfl ?_
  unfold fX11_lose at h
  refine g_aload_n (pc := 0) dX11_lose_0 rfl 0 rfl ?_
  refine g_aload_n (pc := 1) dX11_lose_1 rfl 0 rfl ?_
  refine g_iconst (pc := 2) (v := 1) dX11_lose_2 (by decide) ?_
  refine g_iload_n (pc := 3) dX11_lose_3 rfl 1 rfl ?_
  refine g_iconst (pc := 4) (v := 0) dX11_lose_4 (by decide) ?_
  refine g_iconst (pc := 5) (v := 0) dX11_lose_5 (by decide) ?_
  refine g_iconst (pc := 6) (v := 0) dX11_lose_6 (by decide) ?_
  obtain ⟨r9, σ8, h7, h⟩ := g_bId h
  refine g_callVi (pc := 7) (st := [.ref 0]) hE.1 wvX11_260 rfl rfl (kX11_attempt hE n 1 v1 0 0 0 σ h7) rfl (gR_ok (by decide) (by decide)) (Nat.le_of_ble_eq_true rfl) rfl dX11_lose_7 ?_
  obtain ⟨r12, σ11, h10, h⟩ := g_bId h
  refine g_callVi (pc := 10) (st := []) hE.1 wvX11_263 rfl rfl (kX11_counted hE r9 σ8 h10) rfl (gR_ok (by decide) (by decide)) (Nat.le_of_ble_eq_true rfl) rfl dX11_lose_10 ?_
  cases h
  exact g_iret (pc := 13) rfl rfl rfl rfl dX11_lose_13
def fX11_replace (n : Nat) (v1 : Int32) (σ : gM) : Option (Int32 × gM) := g_bI (fX11_attempt n 2 v1 0 0 0 σ) (fun r9 σ8 => g_bI (fX11_counted r9 σ8) (fun r12 σ11 => some (r12, σ11)))
set_option maxRecDepth 100000 in
theorem kX11_replace (hE : gEX l dC dI ad ca X) (n : Nat)  (v1 : Int32) (σ : gM) {r0 : Int32} {σ' : gM} (h : fX11_replace n v1 σ = some (r0, σ')) : g_C l dC dI ad ca shX X yX11_replace cX11_replace 2 (some .int) (gR 7) [.ref 0, .int v1] σ (some (.int r0)) σ' := by
  refine g_entry (by decide +kernel) (Nat.le_of_ble_eq_true rfl) ?_
  refine g_lvE (lv1 := [(0, .ref 0), (1, .int v1)]) rfl ?_
  unfold fX11_replace at h
  refine g_aload_n (pc := 0) dX11_replace_0 rfl 0 rfl ?_
  refine g_aload_n (pc := 1) dX11_replace_1 rfl 0 rfl ?_
  refine g_iconst (pc := 2) (v := 2) dX11_replace_2 (by decide) ?_
  refine g_iload_n (pc := 3) dX11_replace_3 rfl 1 rfl ?_
  refine g_iconst (pc := 4) (v := 0) dX11_replace_4 (by decide) ?_
  refine g_iconst (pc := 5) (v := 0) dX11_replace_5 (by decide) ?_
  refine g_iconst (pc := 6) (v := 0) dX11_replace_6 (by decide) ?_
  obtain ⟨r9, σ8, h7, h⟩ := g_bId h
  refine g_callVi (pc := 7) (st := [.ref 0]) hE.1 wvX11_260 rfl rfl (kX11_attempt hE n 2 v1 0 0 0 σ h7) rfl (gR_ok (by decide) (by decide)) (Nat.le_of_ble_eq_true rfl) rfl dX11_replace_7 ?_
  obtain ⟨r12, σ11, h10, h⟩ := g_bId h
  refine g_callVi (pc := 10) (st := []) hE.1 wvX11_263 rfl rfl (kX11_counted hE r9 σ8 h10) rfl (gR_ok (by decide) (by decide)) (Nat.le_of_ble_eq_true rfl) rfl dX11_replace_10 ?_
  cases h
  exact g_iret (pc := 13) rfl rfl rfl rfl dX11_replace_13
def fX11_rebuild (n : Nat) (v1 : Int32) (v2 : Int32) (σ : gM) : Option (Int32 × gM) := g_bI (fX11_attempt n 3 v1 v2 0 0 σ) (fun r9 σ8 => g_bI (fX11_counted r9 σ8) (fun r12 σ11 => some (r12, σ11)))
set_option maxRecDepth 100000 in
theorem kX11_rebuild (hE : gEX l dC dI ad ca X) (n : Nat)  (v1 : Int32) (v2 : Int32) (σ : gM) {r0 : Int32} {σ' : gM} (h : fX11_rebuild n v1 v2 σ = some (r0, σ')) : g_C l dC dI ad ca shX X yX11_rebuild cX11_rebuild 3 (some .int) (gR 7) [.ref 0, .int v1, .int v2] σ (some (.int r0)) σ' := by
  refine g_entry (by decide +kernel) (Nat.le_of_ble_eq_true rfl) ?_
  refine g_lvE (lv1 := [(0, .ref 0), (1, .int v1), (2, .int v2)]) rfl ?_
  unfold fX11_rebuild at h
  refine g_aload_n (pc := 0) dX11_rebuild_0 rfl 0 rfl ?_
  refine g_aload_n (pc := 1) dX11_rebuild_1 rfl 0 rfl ?_
  refine g_iconst (pc := 2) (v := 3) dX11_rebuild_2 (by decide) ?_
  refine g_iload_n (pc := 3) dX11_rebuild_3 rfl 1 rfl ?_
  refine g_iload_n (pc := 4) dX11_rebuild_4 rfl 2 rfl ?_
  refine g_iconst (pc := 5) (v := 0) dX11_rebuild_5 (by decide) ?_
  refine g_iconst (pc := 6) (v := 0) dX11_rebuild_6 (by decide) ?_
  obtain ⟨r9, σ8, h7, h⟩ := g_bId h
  refine g_callVi (pc := 7) (st := [.ref 0]) hE.1 wvX11_260 rfl rfl (kX11_attempt hE n 3 v1 v2 0 0 σ h7) rfl (gR_ok (by decide) (by decide)) (Nat.le_of_ble_eq_true rfl) rfl dX11_rebuild_7 ?_
  obtain ⟨r12, σ11, h10, h⟩ := g_bId h
  refine g_callVi (pc := 10) (st := []) hE.1 wvX11_263 rfl rfl (kX11_counted hE r9 σ8 h10) rfl (gR_ok (by decide) (by decide)) (Nat.le_of_ble_eq_true rfl) rfl dX11_rebuild_10 ?_
  cases h
  exact g_iret (pc := 13) rfl rfl rfl rfl dX11_rebuild_13
def fX11_scrub (n : Nat) (v1 : Int32) (σ : gM) : Option (Int32 × gM) := g_bI (fX11_attempt n 4 v1 0 0 0 σ) (fun r9 σ8 => g_bI (fX11_counted r9 σ8) (fun r12 σ11 => some (r12, σ11)))
set_option maxRecDepth 100000 in
theorem kX11_scrub (hE : gEX l dC dI ad ca X) (n : Nat)  (v1 : Int32) (σ : gM) {r0 : Int32} {σ' : gM} (h : fX11_scrub n v1 σ = some (r0, σ')) : g_C l dC dI ad ca shX X yX11_scrub cX11_scrub 2 (some .int) (gR 7) [.ref 0, .int v1] σ (some (.int r0)) σ' := by
  refine g_entry (by decide +kernel) (Nat.le_of_ble_eq_true rfl) ?_
  refine g_lvE (lv1 := [(0, .ref 0), (1, .int v1)]) rfl ?_
  unfold fX11_scrub at h
  refine g_aload_n (pc := 0) dX11_scrub_0 rfl 0 rfl ?_
  refine g_aload_n (pc := 1) dX11_scrub_1 rfl 0 rfl ?_
  refine g_iconst (pc := 2) (v := 4) dX11_scrub_2 (by decide) ?_
  refine g_iload_n (pc := 3) dX11_scrub_3 rfl 1 rfl ?_
  refine g_iconst (pc := 4) (v := 0) dX11_scrub_4 (by decide) ?_
  refine g_iconst (pc := 5) (v := 0) dX11_scrub_5 (by decide) ?_
  refine g_iconst (pc := 6) (v := 0) dX11_scrub_6 (by decide) ?_
  obtain ⟨r9, σ8, h7, h⟩ := g_bId h
  refine g_callVi (pc := 7) (st := [.ref 0]) hE.1 wvX11_260 rfl rfl (kX11_attempt hE n 4 v1 0 0 0 σ h7) rfl (gR_ok (by decide) (by decide)) (Nat.le_of_ble_eq_true rfl) rfl dX11_scrub_7 ?_
  obtain ⟨r12, σ11, h10, h⟩ := g_bId h
  refine g_callVi (pc := 10) (st := []) hE.1 wvX11_263 rfl rfl (kX11_counted hE r9 σ8 h10) rfl (gR_ok (by decide) (by decide)) (Nat.le_of_ble_eq_true rfl) rfl dX11_scrub_10 ?_
  cases h
  exact g_iret (pc := 13) rfl rfl rfl rfl dX11_scrub_13
def fX11_spoil (n : Nat) (v1 : Int32) (v2 : Int32) (v3 : Int32) (v4 : Int32) (σ : gM) : Option (Int32 × gM) := g_bI (fX11_attempt n 5 v1 v2 v3 v4 σ) (fun r9 σ8 => g_bI (fX11_counted r9 σ8) (fun r12 σ11 => some (r12, σ11)))
set_option maxRecDepth 100000 in
theorem kX11_spoil (hE : gEX l dC dI ad ca X) (n : Nat)  (v1 : Int32) (v2 : Int32) (v3 : Int32) (v4 : Int32) (σ : gM) {r0 : Int32} {σ' : gM} (h : fX11_spoil n v1 v2 v3 v4 σ = some (r0, σ')) : g_C l dC dI ad ca shX X yX11_spoil cX11_spoil 5 (some .int) (gR 7) [.ref 0, .int v1, .int v2, .int v3, .int v4] σ (some (.int r0)) σ' := by
  refine g_entry (by decide +kernel) (Nat.le_of_ble_eq_true rfl) ?_
  refine g_lvE (lv1 := [(0, .ref 0), (1, .int v1), (2, .int v2), (3, .int v3), (4, .int v4)]) rfl ?_
  unfold fX11_spoil at h
  refine g_aload_n (pc := 0) dX11_spoil_0 rfl 0 rfl ?_
  refine g_aload_n (pc := 1) dX11_spoil_1 rfl 0 rfl ?_
  refine g_iconst (pc := 2) (v := 5) dX11_spoil_2 (by decide) ?_
  refine g_iload_n (pc := 3) dX11_spoil_3 rfl 1 rfl ?_
  refine g_iload_n (pc := 4) dX11_spoil_4 rfl 2 rfl ?_
  refine g_iload_n (pc := 5) dX11_spoil_5 rfl 3 rfl ?_
  refine g_iload (pc := 6) dX11_spoil_6 4 rfl ?_
  obtain ⟨r9, σ8, h7, h⟩ := g_bId h
  refine g_callVi (pc := 8) (st := [.ref 0]) hE.1 wvX11_260 rfl rfl (kX11_attempt hE n 5 v1 v2 v3 v4 σ h7) rfl (gR_ok (by decide) (by decide)) (Nat.le_of_ble_eq_true rfl) rfl dX11_spoil_8 ?_
  obtain ⟨r12, σ11, h10, h⟩ := g_bId h
  refine g_callVi (pc := 11) (st := []) hE.1 wvX11_263 rfl rfl (kX11_counted hE r9 σ8 h10) rfl (gR_ok (by decide) (by decide)) (Nat.le_of_ble_eq_true rfl) rfl dX11_spoil_11 ?_
  cases h
  exact g_iret (pc := 14) rfl rfl rfl rfl dX11_spoil_14
def fX11_tear (n : Nat) (v1 : Int32) (v2 : Int32) (v3 : Int32) (σ : gM) : Option (Int32 × gM) := g_bI (fX11_attempt n 6 v1 v2 v3 0 σ) (fun r9 σ8 => g_bI (fX11_counted r9 σ8) (fun r12 σ11 => some (r12, σ11)))
set_option maxRecDepth 100000 in
theorem kX11_tear (hE : gEX l dC dI ad ca X) (n : Nat)  (v1 : Int32) (v2 : Int32) (v3 : Int32) (σ : gM) {r0 : Int32} {σ' : gM} (h : fX11_tear n v1 v2 v3 σ = some (r0, σ')) : g_C l dC dI ad ca shX X yX11_tear cX11_tear 4 (some .int) (gR 7) [.ref 0, .int v1, .int v2, .int v3] σ (some (.int r0)) σ' := by
  refine g_entry (by decide +kernel) (Nat.le_of_ble_eq_true rfl) ?_
  refine g_lvE (lv1 := [(0, .ref 0), (1, .int v1), (2, .int v2), (3, .int v3)]) rfl ?_
  unfold fX11_tear at h
  refine g_aload_n (pc := 0) dX11_tear_0 rfl 0 rfl ?_
  refine g_aload_n (pc := 1) dX11_tear_1 rfl 0 rfl ?_
  refine g_bipush (pc := 2) (v := 6) dX11_tear_2 (by decide) ?_
  refine g_iload_n (pc := 4) dX11_tear_4 rfl 1 rfl ?_
  refine g_iload_n (pc := 5) dX11_tear_5 rfl 2 rfl ?_
  refine g_iload_n (pc := 6) dX11_tear_6 rfl 3 rfl ?_
  refine g_iconst (pc := 7) (v := 0) dX11_tear_7 (by decide) ?_
  obtain ⟨r9, σ8, h7, h⟩ := g_bId h
  refine g_callVi (pc := 8) (st := [.ref 0]) hE.1 wvX11_260 rfl rfl (kX11_attempt hE n 6 v1 v2 v3 0 σ h7) rfl (gR_ok (by decide) (by decide)) (Nat.le_of_ble_eq_true rfl) rfl dX11_tear_8 ?_
  obtain ⟨r12, σ11, h10, h⟩ := g_bId h
  refine g_callVi (pc := 11) (st := []) hE.1 wvX11_263 rfl rfl (kX11_counted hE r9 σ8 h10) rfl (gR_ok (by decide) (by decide)) (Nat.le_of_ble_eq_true rfl) rfl dX11_tear_11 ?_
  cases h
  exact g_iret (pc := 14) rfl rfl rfl rfl dX11_tear_14
def fX11_clean (n : Nat) (σ : gM) : Option (Int32 × gM) := g_bI (fX11_attempt n 7 0 0 0 0 σ) (fun r9 σ8 => g_bI (fX11_counted r9 σ8) (fun r12 σ11 => some (r12, σ11)))
set_option maxRecDepth 100000 in
theorem kX11_clean (hE : gEX l dC dI ad ca X) (n : Nat)  (σ : gM) {r0 : Int32} {σ' : gM} (h : fX11_clean n σ = some (r0, σ')) : g_C l dC dI ad ca shX X yX11_clean cX11_clean 1 (some .int) (gR 7) [.ref 0] σ (some (.int r0)) σ' := by
  refine g_entry (by decide +kernel) (Nat.le_of_ble_eq_true rfl) ?_
  refine g_lvE (lv1 := [(0, .ref 0)]) rfl ?_
  unfold fX11_clean at h
  refine g_aload_n (pc := 0) dX11_clean_0 rfl 0 rfl ?_
  refine g_aload_n (pc := 1) dX11_clean_1 rfl 0 rfl ?_
  refine g_bipush (pc := 2) (v := 7) dX11_clean_2 (by decide) ?_
  refine g_iconst (pc := 4) (v := 0) dX11_clean_4 (by decide) ?_
  refine g_iconst (pc := 5) (v := 0) dX11_clean_5 (by decide) ?_
  refine g_iconst (pc := 6) (v := 0) dX11_clean_6 (by decide) ?_
  refine g_iconst (pc := 7) (v := 0) dX11_clean_7 (by decide) ?_
  obtain ⟨r9, σ8, h7, h⟩ := g_bId h
  refine g_callVi (pc := 8) (st := [.ref 0]) hE.1 wvX11_260 rfl rfl (kX11_attempt hE n 7 0 0 0 0 σ h7) rfl (gR_ok (by decide) (by decide)) (Nat.le_of_ble_eq_true rfl) rfl dX11_clean_8 ?_
  obtain ⟨r12, σ11, h10, h⟩ := g_bId h
  refine g_callVi (pc := 11) (st := []) hE.1 wvX11_263 rfl rfl (kX11_counted hE r9 σ8 h10) rfl (gR_ok (by decide) (by decide)) (Nat.le_of_ble_eq_true rfl) rfl dX11_clean_11 ?_
  cases h
  exact g_iret (pc := 14) rfl rfl rfl rfl dX11_clean_14
def fX11_full (n : Nat) (v1 : Int32) (v2 : Int32) (v3 : Int32) (v4 : Int32) (σ : gM) : Option (Int32 × gM) := g_bI (fX11_attempt n 8 v1 v2 v3 v4 σ) (fun r9 σ8 => g_bI (fX11_counted r9 σ8) (fun r12 σ11 => some (r12, σ11)))
set_option maxRecDepth 100000 in
theorem kX11_full (hE : gEX l dC dI ad ca X) (n : Nat)  (v1 : Int32) (v2 : Int32) (v3 : Int32) (v4 : Int32) (σ : gM) {r0 : Int32} {σ' : gM} (h : fX11_full n v1 v2 v3 v4 σ = some (r0, σ')) : g_C l dC dI ad ca shX X yX11_full cX11_full 5 (some .int) (gR 7) [.ref 0, .int v1, .int v2, .int v3, .int v4] σ (some (.int r0)) σ' := by
  refine g_entry (by decide +kernel) (Nat.le_of_ble_eq_true rfl) ?_
  refine g_lvE (lv1 := [(0, .ref 0), (1, .int v1), (2, .int v2), (3, .int v3), (4, .int v4)]) rfl ?_
  unfold fX11_full at h
  refine g_aload_n (pc := 0) dX11_full_0 rfl 0 rfl ?_
  refine g_aload_n (pc := 1) dX11_full_1 rfl 0 rfl ?_
  refine g_bipush (pc := 2) (v := 8) dX11_full_2 (by decide) ?_
  refine g_iload_n (pc := 4) dX11_full_4 rfl 1 rfl ?_
  refine g_iload_n (pc := 5) dX11_full_5 rfl 2 rfl ?_
  refine g_iload_n (pc := 6) dX11_full_6 rfl 3 rfl ?_
  refine g_iload (pc := 7) dX11_full_7 4 rfl ?_
  obtain ⟨r9, σ8, h7, h⟩ := g_bId h
  refine g_callVi (pc := 9) (st := [.ref 0]) hE.1 wvX11_260 rfl rfl (kX11_attempt hE n 8 v1 v2 v3 v4 σ h7) rfl (gR_ok (by decide) (by decide)) (Nat.le_of_ble_eq_true rfl) rfl dX11_full_9 ?_
  obtain ⟨r12, σ11, h10, h⟩ := g_bId h
  refine g_callVi (pc := 12) (st := []) hE.1 wvX11_263 rfl rfl (kX11_counted hE r9 σ8 h10) rfl (gR_ok (by decide) (by decide)) (Nat.le_of_ble_eq_true rfl) rfl dX11_full_12 ?_
  cases h
  exact g_iret (pc := 15) rfl rfl rfl rfl dX11_full_15
def fX11_years_b110 (n : Nat) (K34 : Int32 → Int32 → gM → Option (Int32 × gM)) (v1 : Int32) (v4 : Int32) (σ : gM) : Option (Int32 × gM) := K34 v1 (v4 + 1) σ
set_option maxRecDepth 100000 in
theorem tX11_years_b110 (hE : gEX l dC dI ad ca X) {r0 : Int32} {σ' : gM} (n : Nat) (K34 : Int32 → Int32 → gM → Option (Int32 × gM)) (hK34 : ∀ (v1 : Int32) (v4 : Int32) (σ : gM), K34 v1 v4 σ = some (r0, σ') → g_G l dC dI ad ca shX X cX11_years 6 RX11 (some .int) (gR 7) (some (.int r0)) σ' 34 [(0, .ref 0), (1, .int v1), (4, .int v4)] [] σ) (v1 : Int32) (v4 : Int32)  (σ : gM) (h : fX11_years_b110 n K34 v1 v4 σ = some (r0, σ')) : g_G l dC dI ad ca shX X cX11_years 6 RX11 (some .int) (gR 7) (some (.int r0)) σ' 110 [(0, .ref 0), (1, .int v1), (4, .int v4)] [] σ := by
  unfold fX11_years_b110 at h
  refine g_iinc (pc := 110) (v := v4 + 1) (lv1 := [(4, .int (v4 + 1)), (0, .ref 0), (1, .int v1)]) dX11_years_110 2 rfl rfl (by decide) rfl ?_
  refine g_goto (pc := 113) (tgt := 34) dX11_years_113 (by decide) ?_
  exact g_lv [1, 2, 0] rfl (hK34 v1 (v4 + 1) σ h)
def fX11_years_b34 (n : Nat) (K34 : Int32 → Int32 → gM → Option (Int32 × gM)) (v1 : Int32) (v4 : Int32) (σ : gM) : Option (Int32 × gM) := if v1 ≤ v4 then (g_bI (fX9_costEver n 0 σ) (fun r38 σ37 => some (r38, σ37))) else (g_bI (fX0_year σ) (fun r41 σ40 => g_bI (fX0_number 0 σ40) (fun r44 σ43 => g_bI (fX0_number 1 σ43) (fun r47 σ46 => g_bI (fX0_number 2 σ46) (fun r50 σ49 => g_bI (fX0_number 3 σ49) (fun r53 σ52 => g_bI (fX11_attempt n r41 r44 r47 r50 r53 σ52) (fun r56 σ55 => if r41 = 6 then (g_bI (fX11_attempt n 7 0 0 0 0 σ55) (fun r60 σ59 => fX11_years_b110 n K34 v1 v4 σ59)) else (fX11_years_b110 n K34 v1 v4 σ55))))))))
set_option maxRecDepth 100000 in
theorem tX11_years_b34 (hE : gEX l dC dI ad ca X) {r0 : Int32} {σ' : gM} (n : Nat) (K34 : Int32 → Int32 → gM → Option (Int32 × gM)) (hK34 : ∀ (v1 : Int32) (v4 : Int32) (σ : gM), K34 v1 v4 σ = some (r0, σ') → g_G l dC dI ad ca shX X cX11_years 6 RX11 (some .int) (gR 7) (some (.int r0)) σ' 34 [(0, .ref 0), (1, .int v1), (4, .int v4)] [] σ) (v1 : Int32) (v4 : Int32)  (σ : gM) (h : fX11_years_b34 n K34 v1 v4 σ = some (r0, σ')) : g_G l dC dI ad ca shX X cX11_years 6 RX11 (some .int) (gR 7) (some (.int r0)) σ' 34 [(0, .ref 0), (1, .int v1), (4, .int v4)] [] σ := by
  unfold fX11_years_b34 at h
  refine g_iload (pc := 34) dX11_years_34 2 rfl ?_
  refine g_iload_n (pc := 36) dX11_years_36 rfl 1 rfl ?_
  refine g_icmp_ge (pc := 37) (tgt := 116) dX11_years_37 (by decide) (fun c35 => ?_) (fun c35 => ?_)
  · have h := g_ift c35 h
    refine g_aload_n (pc := 116) dX11_years_116 rfl 0 rfl ?_
    refine g_getR (pc := 117) wfX11_35 rfl rfl dX11_years_117 ?_
    refine g_getR (pc := 120) wfX11_137 (sX_shelf (i := 0) (by decide)) rfl dX11_years_120 ?_
    obtain ⟨r38, σ37, h36, h⟩ := g_bId h
    refine g_callVi (pc := 123) (st := []) hE.1 wvX11_276 (sX_state (i := 0) (by decide)) rfl (kX9_costEver hE n 0 (by decide) σ h36) rfl (gR_ok (by decide) (by decide)) (Nat.le_of_ble_eq_true rfl) rfl dX11_years_123 ?_
    cases h
    exact g_iret (pc := 126) rfl rfl rfl rfl dX11_years_126
  · have h := g_iff c35 h
    refine g_aload_n (pc := 40) dX11_years_40 rfl 0 rfl ?_
    refine g_getR (pc := 41) wfX11_74 rfl rfl dX11_years_41 ?_
    refine g_aload_n (pc := 44) dX11_years_44 rfl 0 rfl ?_
    refine g_getR (pc := 45) wfX11_19 rfl rfl dX11_years_45 ?_
    obtain ⟨r41, σ40, h39, h⟩ := g_bId h
    refine g_callVi (pc := 48) (st := []) hE.1 wvX11_269 rfl rfl (kX0_year hE σ h39) rfl (gR_ok (by decide) (by decide)) (Nat.le_of_ble_eq_true rfl) rfl dX11_years_48 ?_
    refine g_istore (pc := 51) (lv1 := [(5, .int r41), (0, .ref 0), (1, .int v1), (4, .int v4)]) dX11_years_51 (by decide) rfl ?_
    refine g_aload_n (pc := 53) dX11_years_53 rfl 1 rfl ?_
    refine g_iload (pc := 54) dX11_years_54 0 rfl ?_
    refine g_aload_n (pc := 56) dX11_years_56 rfl 1 rfl ?_
    refine g_getR (pc := 57) wfX11_74 rfl rfl dX11_years_57 ?_
    refine g_iconst (pc := 60) (v := 0) dX11_years_60 (by decide) ?_
    obtain ⟨r44, σ43, h42, h⟩ := g_bId h
    refine g_callVi (pc := 61) (st := [.int r41, .ref 0]) hE.1 wvX11_273 rfl rfl (kX0_number hE 0 σ40 h42) rfl (gR_ok (by decide) (by decide)) (Nat.le_of_ble_eq_true rfl) rfl dX11_years_61 ?_
    refine g_aload_n (pc := 64) dX11_years_64 rfl 1 rfl ?_
    refine g_getR (pc := 65) wfX11_74 rfl rfl dX11_years_65 ?_
    refine g_iconst (pc := 68) (v := 1) dX11_years_68 (by decide) ?_
    obtain ⟨r47, σ46, h45, h⟩ := g_bId h
    refine g_callVi (pc := 69) (st := [.int r44, .int r41, .ref 0]) hE.1 wvX11_273 rfl rfl (kX0_number hE 1 σ43 h45) rfl (gR_ok (by decide) (by decide)) (Nat.le_of_ble_eq_true rfl) rfl dX11_years_69 ?_
    refine g_aload_n (pc := 72) dX11_years_72 rfl 1 rfl ?_
    refine g_getR (pc := 73) wfX11_74 rfl rfl dX11_years_73 ?_
    refine g_iconst (pc := 76) (v := 2) dX11_years_76 (by decide) ?_
    obtain ⟨r50, σ49, h48, h⟩ := g_bId h
    refine g_callVi (pc := 77) (st := [.int r47, .int r44, .int r41, .ref 0]) hE.1 wvX11_273 rfl rfl (kX0_number hE 2 σ46 h48) rfl (gR_ok (by decide) (by decide)) (Nat.le_of_ble_eq_true rfl) rfl dX11_years_77 ?_
    refine g_aload_n (pc := 80) dX11_years_80 rfl 1 rfl ?_
    refine g_getR (pc := 81) wfX11_74 rfl rfl dX11_years_81 ?_
    refine g_iconst (pc := 84) (v := 3) dX11_years_84 (by decide) ?_
    obtain ⟨r53, σ52, h51, h⟩ := g_bId h
    refine g_callVi (pc := 85) (st := [.int r50, .int r47, .int r44, .int r41, .ref 0]) hE.1 wvX11_273 rfl rfl (kX0_number hE 3 σ49 h51) rfl (gR_ok (by decide) (by decide)) (Nat.le_of_ble_eq_true rfl) rfl dX11_years_85 ?_
    obtain ⟨r56, σ55, h54, h⟩ := g_bId h
    refine g_callVi (pc := 88) (st := []) hE.1 wvX11_260 rfl rfl (kX11_attempt hE n r41 r44 r47 r50 r53 σ52 h54) rfl (gR_ok (by decide) (by decide)) (Nat.le_of_ble_eq_true rfl) rfl dX11_years_88 ?_
    refine g_pop (pc := 91) dX11_years_91 rfl ?_
    refine g_iload (pc := 92) dX11_years_92 0 rfl ?_
    refine g_bipush (pc := 94) (v := 6) dX11_years_94 (by decide) ?_
    refine g_icmp_ne (pc := 96) (tgt := 110) dX11_years_96 (by decide) (fun c57 => ?_) (fun c57 => ?_)
    · have h := g_iff c57 h
      exact g_lv [1, 2, 3] rfl (tX11_years_b110 hE n K34 hK34 v1 v4 σ55 h)
    · have h := g_ift c57 h
      refine g_aload_n (pc := 99) dX11_years_99 rfl 1 rfl ?_
      refine g_bipush (pc := 100) (v := 7) dX11_years_100 (by decide) ?_
      refine g_iconst (pc := 102) (v := 0) dX11_years_102 (by decide) ?_
      refine g_iconst (pc := 103) (v := 0) dX11_years_103 (by decide) ?_
      refine g_iconst (pc := 104) (v := 0) dX11_years_104 (by decide) ?_
      refine g_iconst (pc := 105) (v := 0) dX11_years_105 (by decide) ?_
      obtain ⟨r60, σ59, h58, h⟩ := g_bId h
      refine g_callVi (pc := 106) (st := []) hE.1 wvX11_260 rfl rfl (kX11_attempt hE n 7 0 0 0 0 σ55 h58) rfl (gR_ok (by decide) (by decide)) (Nat.le_of_ble_eq_true rfl) rfl dX11_years_106 ?_
      refine g_pop (pc := 109) dX11_years_109 rfl ?_
      exact g_lv [1, 2, 3] rfl (tX11_years_b110 hE n K34 hK34 v1 v4 σ59 h)
def fX11_years_L34 (n : Nat) : Nat → Int32 → Int32 → gM → Option (Int32 × gM)
  | 0 => fun _ _ _ => none
  | k + 1 => fX11_years_b34 n (fX11_years_L34 n k)
theorem tX11_years_L34 (hE : gEX l dC dI ad ca X) {r0 : Int32} {σ' : gM} (n : Nat)  : ∀ (k : Nat) (v1 : Int32) (v4 : Int32) (σ : gM), fX11_years_L34 n k v1 v4 σ = some (r0, σ') → g_G l dC dI ad ca shX X cX11_years 6 RX11 (some .int) (gR 7) (some (.int r0)) σ' 34 [(0, .ref 0), (1, .int v1), (4, .int v4)] [] σ := by
  intro k
  induction k with
  | zero => intro v1 v4 σ h; cases h
  | succ k ih => intro v1 v4 σ h; exact tX11_years_b34 hE n (fX11_years_L34 n k) ih v1 v4 σ h
def fX11_years (n : Nat) (v1 : Int32) (v2 : Int64) (σ : gM) : Option (Int32 × gM) := g_bI (fX6_present σ) (fun r63 σ62 => if r63 = 0 then (some ((-1), σ62)) else (if v1 < 1 then (some ((-1), σ62)) else (if v1 ≤ 40 then (g_bV (fX0_start v2 σ62) (fun σ68 => fX11_years_L34 n n v1 0 σ68)) else (some ((-1), σ62)))))
set_option maxRecDepth 100000 in
theorem kX11_years (hE : gEX l dC dI ad ca X) (n : Nat)  (v1 : Int32) (v2 : Int64) (σ : gM) {r0 : Int32} {σ' : gM} (h : fX11_years n v1 v2 σ = some (r0, σ')) : g_C l dC dI ad ca shX X yX11_years cX11_years 6 (some .int) (gR 7) [.ref 0, .int v1, .long v2] σ (some (.int r0)) σ' := by
  refine g_entry (by decide +kernel) (Nat.le_of_ble_eq_true rfl) ?_
  refine g_lvE (lv1 := [(0, .ref 0), (1, .int v1), (2, .long v2)]) rfl ?_
  unfold fX11_years at h
  refine g_aload_n (pc := 0) dX11_years_0 rfl 0 rfl ?_
  refine g_getR (pc := 1) wfX11_19 rfl rfl dX11_years_1 ?_
  obtain ⟨r63, σ62, h61, h⟩ := g_bId h
  refine g_callVi (pc := 4) (st := []) hE.1 wvX11_181 rfl rfl (kX6_present hE σ h61) rfl (gR_ok (by decide) (by decide)) (Nat.le_of_ble_eq_true rfl) rfl dX11_years_4 ?_
  refine g_if_eq (pc := 7) (tgt := 21) dX11_years_7 (by decide) (fun c64 => ?_) (fun c64 => ?_)
  · have h := g_ift c64 h
    refine g_iconst (pc := 21) (v := (-1)) dX11_years_21 (by decide) ?_
    cases h
    exact g_iret (pc := 22) rfl rfl rfl rfl dX11_years_22
  · have h := g_iff c64 h
    refine g_iload_n (pc := 10) dX11_years_10 rfl 1 rfl ?_
    refine g_iconst (pc := 11) (v := 1) dX11_years_11 (by decide) ?_
    refine g_icmp_lt (pc := 12) (tgt := 21) dX11_years_12 (by decide) (fun c65 => ?_) (fun c65 => ?_)
    · have h := g_ift c65 h
      refine g_iconst (pc := 21) (v := (-1)) dX11_years_21 (by decide) ?_
      cases h
      exact g_iret (pc := 22) rfl rfl rfl rfl dX11_years_22
    · have h := g_iff c65 h
      refine g_iload_n (pc := 15) dX11_years_15 rfl 1 rfl ?_
      refine g_bipush (pc := 16) (v := 40) dX11_years_16 (by decide) ?_
      refine g_icmp_le (pc := 18) (tgt := 23) dX11_years_18 (by decide) (fun c66 => ?_) (fun c66 => ?_)
      · have h := g_ift c66 h
        refine g_aload_n (pc := 23) dX11_years_23 rfl 0 rfl ?_
        refine g_getR (pc := 24) wfX11_74 rfl rfl dX11_years_24 ?_
        refine g_lload_n (pc := 27) dX11_years_27 rfl 2 rfl ?_
        obtain ⟨σ68, h67, h⟩ := g_bVd h
        refine g_callVv (pc := 28) (st := []) hE.1 wvX11_266 rfl rfl (kX0_start hE v2 σ62 h67) rfl (gR_ok (by decide) (by decide)) (Nat.le_of_ble_eq_true rfl) rfl dX11_years_28 ?_
        refine g_iconst (pc := 31) (v := 0) dX11_years_31 (by decide) ?_
        refine g_istore (pc := 32) (lv1 := [(4, .int 0), (0, .ref 0), (1, .int v1), (2, .long v2)]) dX11_years_32 (by decide) rfl ?_
        exact g_lv [1, 2, 0] rfl (tX11_years_L34 hE n n v1 0 σ68 h)
      · have h := g_iff c66 h
        refine g_iconst (pc := 21) (v := (-1)) dX11_years_21 (by decide) ?_
        cases h
        exact g_iret (pc := 22) rfl rfl rfl rfl dX11_years_22
def fX11_status (v1 : Int32) (σ : gM) : Option (Int32 × gM) := if v1 < 0 then (some ((-1), σ)) else (if 4 ≤ v1 then (some ((-1), σ)) else (if ¬ (v1 < 0 ∨ 4 ≤ v1.toNatClampNeg) then (some (σ.1 34 v1.toNatClampNeg, σ)) else none))
set_option maxRecDepth 100000 in
theorem kX11_status (hE : gEX l dC dI ad ca X)  (v1 : Int32) (σ : gM) {r0 : Int32} {σ' : gM} (h : fX11_status v1 σ = some (r0, σ')) : g_C l dC dI ad ca shX X yX11_status cX11_status 2 (some .int) (gR 0) [.ref 0, .int v1] σ (some (.int r0)) σ' := by
  refine g_entry (by decide +kernel) (Nat.le_of_ble_eq_true rfl) ?_
  refine g_lvE (lv1 := [(0, .ref 0), (1, .int v1)]) rfl ?_
  unfold fX11_status at h
  refine g_iload_n (pc := 0) dX11_status_0 rfl 1 rfl ?_
  refine g_if_lt (pc := 1) (tgt := 22) dX11_status_1 (by decide) (fun c4 => ?_) (fun c4 => ?_)
  · have h := g_ift c4 h
    refine g_iconst (pc := 22) (v := (-1)) dX11_status_22 (by decide) ?_
    cases h
    exact g_iret (pc := 23) rfl rfl rfl rfl dX11_status_23
  · have h := g_iff c4 h
    refine g_iload_n (pc := 4) dX11_status_4 rfl 1 rfl ?_
    refine g_aload_n (pc := 5) dX11_status_5 rfl 0 rfl ?_
    refine g_getR (pc := 6) wfX11_84 rfl rfl dX11_status_6 ?_
    refine g_alen (pc := 9) rfl dX11_status_9 ?_
    refine g_icmp_ge (pc := 10) (tgt := 22) dX11_status_10 (by decide) (fun c5 => ?_) (fun c5 => ?_)
    · have h := g_ift c5 h
      refine g_iconst (pc := 22) (v := (-1)) dX11_status_22 (by decide) ?_
      cases h
      exact g_iret (pc := 23) rfl rfl rfl rfl dX11_status_23
    · have h := g_iff c5 h
      refine g_aload_n (pc := 13) dX11_status_13 rfl 0 rfl ?_
      refine g_getR (pc := 14) wfX11_84 rfl rfl dX11_status_14 ?_
      refine g_iload_n (pc := 17) dX11_status_17 rfl 1 rfl ?_
      obtain ⟨c6, h⟩ := g_gd h
      refine g_iald (pc := 18) rfl c6 rfl dX11_status_18 ?_
      refine g_goto (pc := 19) (tgt := 23) dX11_status_19 (by decide) ?_
      cases h
      exact g_iret (pc := 23) rfl rfl rfl rfl dX11_status_23
def fX11_undo (σ : gM) : Option (Int32 × gM) := g_bI (fX2_size σ) (fun r14 σ13 => if r14 = 0 then (some ((-1), σ13)) else (g_bV (fX2_bringBack 0 σ13) (fun σ17 => g_bV (fX3_drop 0 σ17) (fun σ19 => g_bI (fX2_size σ19) (fun r22 σ21 => some (r22, σ21))))))
set_option maxRecDepth 100000 in
theorem kX11_undo (hE : gEX l dC dI ad ca X)  (σ : gM) {r0 : Int32} {σ' : gM} (h : fX11_undo σ = some (r0, σ')) : g_C l dC dI ad ca shX X yX11_undo cX11_undo 1 (some .int) (gR 3) [.ref 0] σ (some (.int r0)) σ' := by
  refine g_entry (by decide +kernel) (Nat.le_of_ble_eq_true rfl) ?_
  refine g_lvE (lv1 := [(0, .ref 0)]) rfl ?_
  unfold fX11_undo at h
  refine g_aload_n (pc := 0) dX11_undo_0 rfl 0 rfl ?_
  refine g_getR (pc := 1) wfX11_67 rfl rfl dX11_undo_1 ?_
  obtain ⟨r14, σ13, h12, h⟩ := g_bId h
  refine g_callVi (pc := 4) (st := []) hE.1 wvX11_289 rfl rfl (kX2_size hE σ h12) rfl (gR_ok (by decide) (by decide)) (Nat.le_of_ble_eq_true rfl) rfl dX11_undo_4 ?_
  refine g_if_ne (pc := 7) (tgt := 12) dX11_undo_7 (by decide) (fun c15 => ?_) (fun c15 => ?_)
  · have h := g_iff c15 h
    refine g_aload_n (pc := 12) dX11_undo_12 rfl 0 rfl ?_
    refine g_getR (pc := 13) wfX11_67 rfl rfl dX11_undo_13 ?_
    refine g_aload_n (pc := 16) dX11_undo_16 rfl 0 rfl ?_
    refine g_getR (pc := 17) wfX11_35 rfl rfl dX11_undo_17 ?_
    refine g_getR (pc := 20) wfX11_137 (sX_shelf (i := 0) (by decide)) rfl dX11_undo_20 ?_
    obtain ⟨σ17, h16, h⟩ := g_bVd h
    refine g_callVv (pc := 23) (st := []) hE.1 wvX11_290 rfl rfl (kX2_bringBack hE 0 (by decide) σ13 h16) rfl (gR_ok (by decide) (by decide)) (Nat.le_of_ble_eq_true rfl) rfl dX11_undo_23 ?_
    refine g_aload_n (pc := 26) dX11_undo_26 rfl 0 rfl ?_
    refine g_getR (pc := 27) wfX11_57 rfl rfl dX11_undo_27 ?_
    obtain ⟨σ19, h18, h⟩ := g_bVd h
    refine g_callVv (pc := 30) (st := []) hE.1 wvX11_293 (sX_log (i := 0) (by decide)) rfl (kX3_drop hE 0 (by decide) σ17 h18) rfl (gR_ok (by decide) (by decide)) (Nat.le_of_ble_eq_true rfl) rfl dX11_undo_30 ?_
    refine g_aload_n (pc := 33) dX11_undo_33 rfl 0 rfl ?_
    refine g_getR (pc := 34) wfX11_67 rfl rfl dX11_undo_34 ?_
    obtain ⟨r22, σ21, h20, h⟩ := g_bId h
    refine g_callVi (pc := 37) (st := []) hE.1 wvX11_289 rfl rfl (kX2_size hE σ19 h20) rfl (gR_ok (by decide) (by decide)) (Nat.le_of_ble_eq_true rfl) rfl dX11_undo_37 ?_
    cases h
    exact g_iret (pc := 40) rfl rfl rfl rfl dX11_undo_40
  · have h := g_ift c15 h
    refine g_iconst (pc := 10) (v := (-1)) dX11_undo_10 (by decide) ?_
    cases h
    exact g_iret (pc := 11) rfl rfl rfl rfl dX11_undo_11
def fX11_log (v1 : Int32) (v2 : Int32) (σ : gM) : Option (Int32 × gM) := g_bI (fX3_tell 0 v1 v2 σ) (fun r6 σ5 => some (r6, σ5))
set_option maxRecDepth 100000 in
theorem kX11_log (hE : gEX l dC dI ad ca X)  (v1 : Int32) (v2 : Int32) (σ : gM) {r0 : Int32} {σ' : gM} (h : fX11_log v1 v2 σ = some (r0, σ')) : g_C l dC dI ad ca shX X yX11_log cX11_log 3 (some .int) (gR 3) [.ref 0, .int v1, .int v2] σ (some (.int r0)) σ' := by
  refine g_entry (by decide +kernel) (Nat.le_of_ble_eq_true rfl) ?_
  refine g_lvE (lv1 := [(0, .ref 0), (1, .int v1), (2, .int v2)]) rfl ?_
  unfold fX11_log at h
  refine g_aload_n (pc := 0) dX11_log_0 rfl 0 rfl ?_
  refine g_getR (pc := 1) wfX11_57 rfl rfl dX11_log_1 ?_
  refine g_iload_n (pc := 4) dX11_log_4 rfl 1 rfl ?_
  refine g_iload_n (pc := 5) dX11_log_5 rfl 2 rfl ?_
  obtain ⟨r6, σ5, h4, h⟩ := g_bId h
  refine g_callVi (pc := 6) (st := []) hE.1 wvX11_296 (sX_log (i := 0) (by decide)) rfl (kX3_tell hE 0 (by decide) v1 v2 σ h4) rfl (gR_ok (by decide) (by decide)) (Nat.le_of_ble_eq_true rfl) rfl dX11_log_6 ?_
  cases h
  exact g_iret (pc := 9) rfl rfl rfl rfl dX11_log_9
def fX11_cost (n : Nat) (v1 : Int32) (v2 : Int32) (σ : gM) : Option (Int32 × gM) := g_bI (fX6_isAddress v1 σ) (fun r10 σ9 => if r10 = 0 then (some ((-1), σ9)) else (g_bI (fX4_costOf n v1 v2 σ9) (fun r14 σ13 => some (r14, σ13))))
set_option maxRecDepth 100000 in
theorem kX11_cost (hE : gEX l dC dI ad ca X) (n : Nat)  (v1 : Int32) (v2 : Int32) (σ : gM) {r0 : Int32} {σ' : gM} (h : fX11_cost n v1 v2 σ = some (r0, σ')) : g_C l dC dI ad ca shX X yX11_cost cX11_cost 3 (some .int) (gR 4) [.ref 0, .int v1, .int v2] σ (some (.int r0)) σ' := by
  refine g_entry (by decide +kernel) (Nat.le_of_ble_eq_true rfl) ?_
  refine g_lvE (lv1 := [(0, .ref 0), (1, .int v1), (2, .int v2)]) rfl ?_
  unfold fX11_cost at h
  refine g_aload_n (pc := 0) dX11_cost_0 rfl 0 rfl ?_
  refine g_getR (pc := 1) wfX11_19 rfl rfl dX11_cost_1 ?_
  refine g_iload_n (pc := 4) dX11_cost_4 rfl 1 rfl ?_
  obtain ⟨r10, σ9, h8, h⟩ := g_bId h
  refine g_callVi (pc := 5) (st := []) hE.1 wvX11_153 rfl rfl (kX6_isAddress hE v1 σ h8) rfl (gR_ok (by decide) (by decide)) (Nat.le_of_ble_eq_true rfl) rfl dX11_cost_5 ?_
  refine g_if_eq (pc := 8) (tgt := 23) dX11_cost_8 (by decide) (fun c11 => ?_) (fun c11 => ?_)
  · have h := g_ift c11 h
    refine g_iconst (pc := 23) (v := (-1)) dX11_cost_23 (by decide) ?_
    cases h
    exact g_iret (pc := 24) rfl rfl rfl rfl dX11_cost_24
  · have h := g_iff c11 h
    refine g_aload_n (pc := 11) dX11_cost_11 rfl 0 rfl ?_
    refine g_getR (pc := 12) wfX11_50 rfl rfl dX11_cost_12 ?_
    refine g_iload_n (pc := 15) dX11_cost_15 rfl 1 rfl ?_
    refine g_iload_n (pc := 16) dX11_cost_16 rfl 2 rfl ?_
    obtain ⟨r14, σ13, h12, h⟩ := g_bId h
    refine g_callVi (pc := 17) (st := []) hE.1 wvX11_299 rfl rfl (kX4_costOf hE n v1 v2 σ9 h12) rfl (gR_ok (by decide) (by decide)) (Nat.le_of_ble_eq_true rfl) rfl dX11_cost_17 ?_
    refine g_goto (pc := 20) (tgt := 24) dX11_cost_20 (by decide) ?_
    cases h
    exact g_iret (pc := 24) rfl rfl rfl rfl dX11_cost_24
def fX11_told_b51 (n : Nat) (v1 : Int32) (v2 : Int32) (v3 : Int32) (v4 : Int32) (v5 : Int32) (σ : gM) : Option (Int32 × gM) := g_bI (fX4_toldOf n v1 v2 v3 v4 v5 σ) (fun r20 σ19 => some (r20, σ19))
set_option maxRecDepth 100000 in
theorem tX11_told_b51 (hE : gEX l dC dI ad ca X) {r0 : Int32} {σ' : gM} (n : Nat) (v1 : Int32) (v2 : Int32) (v3 : Int32) (v4 : Int32) (v5 : Int32)  (σ : gM) (h : fX11_told_b51 n v1 v2 v3 v4 v5 σ = some (r0, σ')) : g_G l dC dI ad ca shX X cX11_told 6 RX11 (some .int) (gR 5) (some (.int r0)) σ' 51 [(0, .ref 0), (1, .int v1), (2, .int v2), (3, .int v3), (4, .int v4), (5, .int v5)] [] σ := by
  unfold fX11_told_b51 at h
  refine g_aload_n (pc := 51) dX11_told_51 rfl 0 rfl ?_
  refine g_getR (pc := 52) wfX11_50 rfl rfl dX11_told_52 ?_
  refine g_iload_n (pc := 55) dX11_told_55 rfl 1 rfl ?_
  refine g_iload_n (pc := 56) dX11_told_56 rfl 2 rfl ?_
  refine g_iload_n (pc := 57) dX11_told_57 rfl 3 rfl ?_
  refine g_iload (pc := 58) dX11_told_58 4 rfl ?_
  refine g_iload (pc := 60) dX11_told_60 5 rfl ?_
  obtain ⟨r20, σ19, h18, h⟩ := g_bId h
  refine g_callVi (pc := 62) (st := []) hE.1 wvX11_302 rfl rfl (kX4_toldOf hE n v1 v2 v3 v4 v5 σ h18) rfl (gR_ok (by decide) (by decide)) (Nat.le_of_ble_eq_true rfl) rfl dX11_told_62 ?_
  refine g_goto (pc := 65) (tgt := 69) dX11_told_65 (by decide) ?_
  cases h
  exact g_iret (pc := 69) rfl rfl rfl rfl dX11_told_69
def fX11_told (n : Nat) (v1 : Int32) (v2 : Int32) (v3 : Int32) (v4 : Int32) (v5 : Int32) (σ : gM) : Option (Int32 × gM) := g_bI (fX6_isCell v1 v2 v3 σ) (fun r23 σ22 => if r23 = 0 then (some ((-1), σ22)) else (g_bI (fX6_isDisk v4 σ22) (fun r27 σ26 => if r27 = 0 then (some ((-1), σ26)) else (g_bI (fX6_isDisk v5 σ26) (fun r31 σ30 => if r31 = 0 then (some ((-1), σ30)) else (if v4 = v1 then (fX11_told_b51 n v1 v2 v3 v4 v5 σ30) else (if v5 = v1 then (fX11_told_b51 n v1 v2 v3 v4 v5 σ30) else (some ((-1), σ30)))))))))
set_option maxRecDepth 100000 in
theorem kX11_told (hE : gEX l dC dI ad ca X) (n : Nat)  (v1 : Int32) (v2 : Int32) (v3 : Int32) (v4 : Int32) (v5 : Int32) (σ : gM) {r0 : Int32} {σ' : gM} (h : fX11_told n v1 v2 v3 v4 v5 σ = some (r0, σ')) : g_C l dC dI ad ca shX X yX11_told cX11_told 6 (some .int) (gR 5) [.ref 0, .int v1, .int v2, .int v3, .int v4, .int v5] σ (some (.int r0)) σ' := by
  refine g_entry (by decide +kernel) (Nat.le_of_ble_eq_true rfl) ?_
  refine g_lvE (lv1 := [(0, .ref 0), (1, .int v1), (2, .int v2), (3, .int v3), (4, .int v4), (5, .int v5)]) rfl ?_
  unfold fX11_told at h
  refine g_aload_n (pc := 0) dX11_told_0 rfl 0 rfl ?_
  refine g_getR (pc := 1) wfX11_19 rfl rfl dX11_told_1 ?_
  refine g_iload_n (pc := 4) dX11_told_4 rfl 1 rfl ?_
  refine g_iload_n (pc := 5) dX11_told_5 rfl 2 rfl ?_
  refine g_iload_n (pc := 6) dX11_told_6 rfl 3 rfl ?_
  obtain ⟨r23, σ22, h21, h⟩ := g_bId h
  refine g_callVi (pc := 7) (st := []) hE.1 wvX11_247 rfl rfl (kX6_isCell hE v1 v2 v3 σ h21) rfl (gR_ok (by decide) (by decide)) (Nat.le_of_ble_eq_true rfl) rfl dX11_told_7 ?_
  refine g_if_eq (pc := 10) (tgt := 37) dX11_told_10 (by decide) (fun c24 => ?_) (fun c24 => ?_)
  · have h := g_ift c24 h
    refine g_iconst (pc := 37) (v := (-1)) dX11_told_37 (by decide) ?_
    cases h
    exact g_iret (pc := 38) rfl rfl rfl rfl dX11_told_38
  · have h := g_iff c24 h
    refine g_aload_n (pc := 13) dX11_told_13 rfl 0 rfl ?_
    refine g_getR (pc := 14) wfX11_19 rfl rfl dX11_told_14 ?_
    refine g_iload (pc := 17) dX11_told_17 4 rfl ?_
    obtain ⟨r27, σ26, h25, h⟩ := g_bId h
    refine g_callVi (pc := 19) (st := []) hE.1 wvX11_228 rfl rfl (kX6_isDisk hE v4 σ22 h25) rfl (gR_ok (by decide) (by decide)) (Nat.le_of_ble_eq_true rfl) rfl dX11_told_19 ?_
    refine g_if_eq (pc := 22) (tgt := 37) dX11_told_22 (by decide) (fun c28 => ?_) (fun c28 => ?_)
    · have h := g_ift c28 h
      refine g_iconst (pc := 37) (v := (-1)) dX11_told_37 (by decide) ?_
      cases h
      exact g_iret (pc := 38) rfl rfl rfl rfl dX11_told_38
    · have h := g_iff c28 h
      refine g_aload_n (pc := 25) dX11_told_25 rfl 0 rfl ?_
      refine g_getR (pc := 26) wfX11_19 rfl rfl dX11_told_26 ?_
      refine g_iload (pc := 29) dX11_told_29 5 rfl ?_
      obtain ⟨r31, σ30, h29, h⟩ := g_bId h
      refine g_callVi (pc := 31) (st := []) hE.1 wvX11_228 rfl rfl (kX6_isDisk hE v5 σ26 h29) rfl (gR_ok (by decide) (by decide)) (Nat.le_of_ble_eq_true rfl) rfl dX11_told_31 ?_
      refine g_if_ne (pc := 34) (tgt := 39) dX11_told_34 (by decide) (fun c32 => ?_) (fun c32 => ?_)
      · have h := g_iff c32 h
        refine g_iload (pc := 39) dX11_told_39 4 rfl ?_
        refine g_iload_n (pc := 41) dX11_told_41 rfl 1 rfl ?_
        refine g_icmp_eq (pc := 42) (tgt := 51) dX11_told_42 (by decide) (fun c33 => ?_) (fun c33 => ?_)
        · have h := g_ift c33 h
          exact g_lv [0, 1, 2, 3, 4, 5] rfl (tX11_told_b51 hE n v1 v2 v3 v4 v5 σ30 h)
        · have h := g_iff c33 h
          refine g_iload (pc := 45) dX11_told_45 5 rfl ?_
          refine g_iload_n (pc := 47) dX11_told_47 rfl 1 rfl ?_
          refine g_icmp_ne (pc := 48) (tgt := 68) dX11_told_48 (by decide) (fun c34 => ?_) (fun c34 => ?_)
          · have h := g_iff c34 h
            refine g_iconst (pc := 68) (v := (-1)) dX11_told_68 (by decide) ?_
            cases h
            exact g_iret (pc := 69) rfl rfl rfl rfl dX11_told_69
          · have h := g_ift c34 h
            exact g_lv [0, 1, 2, 3, 4, 5] rfl (tX11_told_b51 hE n v1 v2 v3 v4 v5 σ30 h)
      · have h := g_ift c32 h
        refine g_iconst (pc := 37) (v := (-1)) dX11_told_37 (by decide) ?_
        cases h
        exact g_iret (pc := 38) rfl rfl rfl rfl dX11_told_38
def fX11_who_b34 (n : Nat) (σ : gM) : Option (Int32 × gM) := some ((-1000000), σ)
set_option maxRecDepth 100000 in
theorem tX11_who_b34 (hE : gEX l dC dI ad ca X) {r0 : Int32} {σ' : gM} (n : Nat)  (σ : gM) (h : fX11_who_b34 n σ = some (r0, σ')) : g_G l dC dI ad ca shX X cX11_who 3 RX11 (some .int) (gR 4) (some (.int r0)) σ' 34 [] [] σ := by
  unfold fX11_who_b34 at h
  refine g_ldcw (pc := 34) wkX11_259 dX11_who_34 ?_
  cases h
  exact g_iret (pc := 37) rfl rfl rfl rfl dX11_who_37
def fX11_who (n : Nat) (v1 : Int32) (v2 : Int32) (σ : gM) : Option (Int32 × gM) := g_bI (fX6_isStripe v1 σ) (fun r14 σ13 => if r14 = 0 then (fX11_who_b34 n σ13) else (g_bI (fX6_isByteOfChunk v2 σ13) (fun r18 σ17 => if r18 = 0 then (fX11_who_b34 n σ17) else (g_bI (fX4_wrongDisk n v1 v2 σ17) (fun r22 σ21 => some (r22, σ21))))))
set_option maxRecDepth 100000 in
theorem kX11_who (hE : gEX l dC dI ad ca X) (n : Nat)  (v1 : Int32) (v2 : Int32) (σ : gM) {r0 : Int32} {σ' : gM} (h : fX11_who n v1 v2 σ = some (r0, σ')) : g_C l dC dI ad ca shX X yX11_who cX11_who 3 (some .int) (gR 4) [.ref 0, .int v1, .int v2] σ (some (.int r0)) σ' := by
  refine g_entry (by decide +kernel) (Nat.le_of_ble_eq_true rfl) ?_
  refine g_lvE (lv1 := [(0, .ref 0), (1, .int v1), (2, .int v2)]) rfl ?_
  unfold fX11_who at h
  refine g_aload_n (pc := 0) dX11_who_0 rfl 0 rfl ?_
  refine g_getR (pc := 1) wfX11_19 rfl rfl dX11_who_1 ?_
  refine g_iload_n (pc := 4) dX11_who_4 rfl 1 rfl ?_
  obtain ⟨r14, σ13, h12, h⟩ := g_bId h
  refine g_callVi (pc := 5) (st := []) hE.1 wvX11_231 rfl rfl (kX6_isStripe hE v1 σ h12) rfl (gR_ok (by decide) (by decide)) (Nat.le_of_ble_eq_true rfl) rfl dX11_who_5 ?_
  refine g_if_eq (pc := 8) (tgt := 34) dX11_who_8 (by decide) (fun c15 => ?_) (fun c15 => ?_)
  · have h := g_ift c15 h
    exact g_lv [] rfl (tX11_who_b34 hE n σ13 h)
  · have h := g_iff c15 h
    refine g_aload_n (pc := 11) dX11_who_11 rfl 0 rfl ?_
    refine g_getR (pc := 12) wfX11_19 rfl rfl dX11_who_12 ?_
    refine g_iload_n (pc := 15) dX11_who_15 rfl 2 rfl ?_
    obtain ⟨r18, σ17, h16, h⟩ := g_bId h
    refine g_callVi (pc := 16) (st := []) hE.1 wvX11_305 rfl rfl (kX6_isByteOfChunk hE v2 σ13 h16) rfl (gR_ok (by decide) (by decide)) (Nat.le_of_ble_eq_true rfl) rfl dX11_who_16 ?_
    refine g_if_eq (pc := 19) (tgt := 34) dX11_who_19 (by decide) (fun c19 => ?_) (fun c19 => ?_)
    · have h := g_ift c19 h
      exact g_lv [] rfl (tX11_who_b34 hE n σ17 h)
    · have h := g_iff c19 h
      refine g_aload_n (pc := 22) dX11_who_22 rfl 0 rfl ?_
      refine g_getR (pc := 23) wfX11_50 rfl rfl dX11_who_23 ?_
      refine g_iload_n (pc := 26) dX11_who_26 rfl 1 rfl ?_
      refine g_iload_n (pc := 27) dX11_who_27 rfl 2 rfl ?_
      obtain ⟨r22, σ21, h20, h⟩ := g_bId h
      refine g_callVi (pc := 28) (st := []) hE.1 wvX11_308 rfl rfl (kX4_wrongDisk hE n v1 v2 σ17 h20) rfl (gR_ok (by decide) (by decide)) (Nat.le_of_ble_eq_true rfl) rfl dX11_who_28 ?_
      refine g_goto (pc := 31) (tgt := 37) dX11_who_31 (by decide) ?_
      cases h
      exact g_iret (pc := 37) rfl rfl rfl rfl dX11_who_37
def fX11_more (n : Nat) (σ : gM) : Option (Int32 × gM) := g_bI (fX6_present σ) (fun r10 σ9 => if r10 = 0 then (some ((-1), σ9)) else (g_bI (fX4_losable n σ9) (fun r14 σ13 => some (r14, σ13))))
set_option maxRecDepth 100000 in
theorem kX11_more (hE : gEX l dC dI ad ca X) (n : Nat)  (σ : gM) {r0 : Int32} {σ' : gM} (h : fX11_more n σ = some (r0, σ')) : g_C l dC dI ad ca shX X yX11_more cX11_more 1 (some .int) (gR 4) [.ref 0] σ (some (.int r0)) σ' := by
  refine g_entry (by decide +kernel) (Nat.le_of_ble_eq_true rfl) ?_
  refine g_lvE (lv1 := [(0, .ref 0)]) rfl ?_
  unfold fX11_more at h
  refine g_aload_n (pc := 0) dX11_more_0 rfl 0 rfl ?_
  refine g_getR (pc := 1) wfX11_19 rfl rfl dX11_more_1 ?_
  obtain ⟨r10, σ9, h8, h⟩ := g_bId h
  refine g_callVi (pc := 4) (st := []) hE.1 wvX11_181 rfl rfl (kX6_present hE σ h8) rfl (gR_ok (by decide) (by decide)) (Nat.le_of_ble_eq_true rfl) rfl dX11_more_4 ?_
  refine g_if_eq (pc := 7) (tgt := 20) dX11_more_7 (by decide) (fun c11 => ?_) (fun c11 => ?_)
  · have h := g_ift c11 h
    refine g_iconst (pc := 20) (v := (-1)) dX11_more_20 (by decide) ?_
    cases h
    exact g_iret (pc := 21) rfl rfl rfl rfl dX11_more_21
  · have h := g_iff c11 h
    refine g_aload_n (pc := 10) dX11_more_10 rfl 0 rfl ?_
    refine g_getR (pc := 11) wfX11_50 rfl rfl dX11_more_11 ?_
    obtain ⟨r14, σ13, h12, h⟩ := g_bId h
    refine g_callVi (pc := 14) (st := []) hE.1 wvX11_311 rfl rfl (kX4_losable hE n σ9 h12) rfl (gR_ok (by decide) (by decide)) (Nat.le_of_ble_eq_true rfl) rfl dX11_more_14 ?_
    refine g_goto (pc := 17) (tgt := 21) dX11_more_17 (by decide) ?_
    cases h
    exact g_iret (pc := 21) rfl rfl rfl rfl dX11_more_21
def fX11_left (n : Nat) (v1 : Int32) (σ : gM) : Option (Int32 × gM) := g_bI (fX6_present σ) (fun r15 σ14 => if r15 = 0 then (some ((-1), σ14)) else (if v1 = 0 then (g_bI (fX4_stripesLeft n σ14) (fun r24 σ23 => some (r24, σ23))) else (if v1 = 1 then (g_bI (fX4_readsLeft n σ14) (fun r21 σ20 => some (r21, σ20))) else (some ((-1), σ14)))))
set_option maxRecDepth 100000 in
theorem kX11_left (hE : gEX l dC dI ad ca X) (n : Nat)  (v1 : Int32) (σ : gM) {r0 : Int32} {σ' : gM} (h : fX11_left n v1 σ = some (r0, σ')) : g_C l dC dI ad ca shX X yX11_left cX11_left 2 (some .int) (gR 4) [.ref 0, .int v1] σ (some (.int r0)) σ' := by
  refine g_entry (by decide +kernel) (Nat.le_of_ble_eq_true rfl) ?_
  refine g_lvE (lv1 := [(0, .ref 0), (1, .int v1)]) rfl ?_
  unfold fX11_left at h
  refine g_aload_n (pc := 0) dX11_left_0 rfl 0 rfl ?_
  refine g_getR (pc := 1) wfX11_19 rfl rfl dX11_left_1 ?_
  obtain ⟨r15, σ14, h13, h⟩ := g_bId h
  refine g_callVi (pc := 4) (st := []) hE.1 wvX11_181 rfl rfl (kX6_present hE σ h13) rfl (gR_ok (by decide) (by decide)) (Nat.le_of_ble_eq_true rfl) rfl dX11_left_4 ?_
  refine g_if_ne (pc := 7) (tgt := 12) dX11_left_7 (by decide) (fun c16 => ?_) (fun c16 => ?_)
  · have h := g_iff c16 h
    refine g_iload_n (pc := 12) dX11_left_12 rfl 1 rfl ?_
    refine g_if_ne (pc := 13) (tgt := 24) dX11_left_13 (by decide) (fun c17 => ?_) (fun c17 => ?_)
    · have h := g_iff c17 h
      refine g_iload_n (pc := 24) dX11_left_24 rfl 1 rfl ?_
      refine g_iconst (pc := 25) (v := 1) dX11_left_25 (by decide) ?_
      refine g_icmp_ne (pc := 26) (tgt := 39) dX11_left_26 (by decide) (fun c18 => ?_) (fun c18 => ?_)
      · have h := g_iff c18 h
        refine g_iconst (pc := 39) (v := (-1)) dX11_left_39 (by decide) ?_
        cases h
        exact g_iret (pc := 40) rfl rfl rfl rfl dX11_left_40
      · have h := g_ift c18 h
        refine g_aload_n (pc := 29) dX11_left_29 rfl 0 rfl ?_
        refine g_getR (pc := 30) wfX11_50 rfl rfl dX11_left_30 ?_
        obtain ⟨r21, σ20, h19, h⟩ := g_bId h
        refine g_callVi (pc := 33) (st := []) hE.1 wvX11_317 rfl rfl (kX4_readsLeft hE n σ14 h19) rfl (gR_ok (by decide) (by decide)) (Nat.le_of_ble_eq_true rfl) rfl dX11_left_33 ?_
        refine g_goto (pc := 36) (tgt := 40) dX11_left_36 (by decide) ?_
        cases h
        exact g_iret (pc := 40) rfl rfl rfl rfl dX11_left_40
    · have h := g_ift c17 h
      refine g_aload_n (pc := 16) dX11_left_16 rfl 0 rfl ?_
      refine g_getR (pc := 17) wfX11_50 rfl rfl dX11_left_17 ?_
      obtain ⟨r24, σ23, h22, h⟩ := g_bId h
      refine g_callVi (pc := 20) (st := []) hE.1 wvX11_314 rfl rfl (kX4_stripesLeft hE n σ14 h22) rfl (gR_ok (by decide) (by decide)) (Nat.le_of_ble_eq_true rfl) rfl dX11_left_20 ?_
      cases h
      exact g_iret (pc := 23) rfl rfl rfl rfl dX11_left_23
  · have h := g_ift c16 h
    refine g_iconst (pc := 10) (v := (-1)) dX11_left_10 (by decide) ?_
    cases h
    exact g_iret (pc := 11) rfl rfl rfl rfl dX11_left_11
def fX11_fit (n : Nat) (σ : gM) : Option (Int32 × gM) := g_bI (fX6_present σ) (fun r10 σ9 => if r10 = 0 then (some ((-1), σ9)) else (g_bI (fX4_fitStripes n σ9) (fun r14 σ13 => some (r14, σ13))))
set_option maxRecDepth 100000 in
theorem kX11_fit (hE : gEX l dC dI ad ca X) (n : Nat)  (σ : gM) {r0 : Int32} {σ' : gM} (h : fX11_fit n σ = some (r0, σ')) : g_C l dC dI ad ca shX X yX11_fit cX11_fit 1 (some .int) (gR 5) [.ref 0] σ (some (.int r0)) σ' := by
  refine g_entry (by decide +kernel) (Nat.le_of_ble_eq_true rfl) ?_
  refine g_lvE (lv1 := [(0, .ref 0)]) rfl ?_
  unfold fX11_fit at h
  refine g_aload_n (pc := 0) dX11_fit_0 rfl 0 rfl ?_
  refine g_getR (pc := 1) wfX11_19 rfl rfl dX11_fit_1 ?_
  obtain ⟨r10, σ9, h8, h⟩ := g_bId h
  refine g_callVi (pc := 4) (st := []) hE.1 wvX11_181 rfl rfl (kX6_present hE σ h8) rfl (gR_ok (by decide) (by decide)) (Nat.le_of_ble_eq_true rfl) rfl dX11_fit_4 ?_
  refine g_if_eq (pc := 7) (tgt := 20) dX11_fit_7 (by decide) (fun c11 => ?_) (fun c11 => ?_)
  · have h := g_ift c11 h
    refine g_iconst (pc := 20) (v := (-1)) dX11_fit_20 (by decide) ?_
    cases h
    exact g_iret (pc := 21) rfl rfl rfl rfl dX11_fit_21
  · have h := g_iff c11 h
    refine g_aload_n (pc := 10) dX11_fit_10 rfl 0 rfl ?_
    refine g_getR (pc := 11) wfX11_50 rfl rfl dX11_fit_11 ?_
    obtain ⟨r14, σ13, h12, h⟩ := g_bId h
    refine g_callVi (pc := 14) (st := []) hE.1 wvX11_320 rfl rfl (kX4_fitStripes hE n σ9 h12) rfl (gR_ok (by decide) (by decide)) (Nat.le_of_ble_eq_true rfl) rfl dX11_fit_14 ?_
    refine g_goto (pc := 17) (tgt := 21) dX11_fit_17 (by decide) ?_
    cases h
    exact g_iret (pc := 21) rfl rfl rfl rfl dX11_fit_21
def fX11_checked (n : Nat) (v1 : Int32) (σ : gM) : Option (Int32 × gM) := g_bI (fX6_isAddress v1 σ) (fun r10 σ9 => if r10 = 0 then (some ((-1), σ9)) else (g_bI (fX4_byteIfScrubbed n v1 σ9) (fun r14 σ13 => some (r14, σ13))))
set_option maxRecDepth 100000 in
theorem kX11_checked (hE : gEX l dC dI ad ca X) (n : Nat)  (v1 : Int32) (σ : gM) {r0 : Int32} {σ' : gM} (h : fX11_checked n v1 σ = some (r0, σ')) : g_C l dC dI ad ca shX X yX11_checked cX11_checked 2 (some .int) (gR 6) [.ref 0, .int v1] σ (some (.int r0)) σ' := by
  refine g_entry (by decide +kernel) (Nat.le_of_ble_eq_true rfl) ?_
  refine g_lvE (lv1 := [(0, .ref 0), (1, .int v1)]) rfl ?_
  unfold fX11_checked at h
  refine g_aload_n (pc := 0) dX11_checked_0 rfl 0 rfl ?_
  refine g_getR (pc := 1) wfX11_19 rfl rfl dX11_checked_1 ?_
  refine g_iload_n (pc := 4) dX11_checked_4 rfl 1 rfl ?_
  obtain ⟨r10, σ9, h8, h⟩ := g_bId h
  refine g_callVi (pc := 5) (st := []) hE.1 wvX11_153 rfl rfl (kX6_isAddress hE v1 σ h8) rfl (gR_ok (by decide) (by decide)) (Nat.le_of_ble_eq_true rfl) rfl dX11_checked_5 ?_
  refine g_if_eq (pc := 8) (tgt := 22) dX11_checked_8 (by decide) (fun c11 => ?_) (fun c11 => ?_)
  · have h := g_ift c11 h
    refine g_iconst (pc := 22) (v := (-1)) dX11_checked_22 (by decide) ?_
    cases h
    exact g_iret (pc := 23) rfl rfl rfl rfl dX11_checked_23
  · have h := g_iff c11 h
    refine g_aload_n (pc := 11) dX11_checked_11 rfl 0 rfl ?_
    refine g_getR (pc := 12) wfX11_50 rfl rfl dX11_checked_12 ?_
    refine g_iload_n (pc := 15) dX11_checked_15 rfl 1 rfl ?_
    obtain ⟨r14, σ13, h12, h⟩ := g_bId h
    refine g_callVi (pc := 16) (st := []) hE.1 wvX11_323 rfl rfl (kX4_byteIfScrubbed hE n v1 σ9 h12) rfl (gR_ok (by decide) (by decide)) (Nat.le_of_ble_eq_true rfl) rfl dX11_checked_16 ?_
    refine g_goto (pc := 19) (tgt := 23) dX11_checked_19 (by decide) ?_
    cases h
    exact g_iret (pc := 23) rfl rfl rfl rfl dX11_checked_23
def fX11_equal (n : Nat) (σ : gM) : Option (Int32 × gM) := if (σ.1 0 15) = 0 then (some ((-1), σ)) else (g_bI (fX4_sameAs n 2 σ) (fun r8 σ7 => some (r8, σ7)))
set_option maxRecDepth 100000 in
theorem kX11_equal (hE : gEX l dC dI ad ca X) (n : Nat)  (σ : gM) {r0 : Int32} {σ' : gM} (h : fX11_equal n σ = some (r0, σ')) : g_C l dC dI ad ca shX X yX11_equal cX11_equal 1 (some .int) (gR 6) [.ref 0] σ (some (.int r0)) σ' := by
  refine g_entry (by decide +kernel) (Nat.le_of_ble_eq_true rfl) ?_
  refine g_lvE (lv1 := [(0, .ref 0)]) rfl ?_
  unfold fX11_equal at h
  refine g_aload_n (pc := 0) dX11_equal_0 rfl 0 rfl ?_
  refine g_getI (pc := 1) wfX11_95 rfl rfl dX11_equal_1 ?_
  refine g_if_eq (pc := 4) (tgt := 21) dX11_equal_4 (by decide) (fun c5 => ?_) (fun c5 => ?_)
  · have h := g_ift c5 h
    refine g_iconst (pc := 21) (v := (-1)) dX11_equal_21 (by decide) ?_
    cases h
    exact g_iret (pc := 22) rfl rfl rfl rfl dX11_equal_22
  · have h := g_iff c5 h
    refine g_aload_n (pc := 7) dX11_equal_7 rfl 0 rfl ?_
    refine g_getR (pc := 8) wfX11_50 rfl rfl dX11_equal_8 ?_
    refine g_aload_n (pc := 11) dX11_equal_11 rfl 0 rfl ?_
    refine g_getR (pc := 12) wfX11_42 rfl rfl dX11_equal_12 ?_
    obtain ⟨r8, σ7, h6, h⟩ := g_bId h
    refine g_callVi (pc := 15) (st := []) hE.1 wvX11_326 rfl rfl (kX4_sameAs hE n 2 (by decide) σ h6) rfl (gR_ok (by decide) (by decide)) (Nat.le_of_ble_eq_true rfl) rfl dX11_equal_15 ?_
    refine g_goto (pc := 18) (tgt := 22) dX11_equal_18 (by decide) ?_
    cases h
    exact g_iret (pc := 22) rfl rfl rfl rfl dX11_equal_22
def fX11_span (n : Nat) (v1 : Int32) (σ : gM) : Option (Int32 × gM) := g_bI (fX6_present σ) (fun r12 σ11 => if r12 = 0 then (some ((-1), σ11)) else (if v1 < 0 then (some ((-1), σ11)) else (if v1 ≤ 1 then (g_bI (fX4_longestHidden n v1 σ11) (fun r18 σ17 => some (r18, σ17))) else (some ((-1), σ11)))))
set_option maxRecDepth 100000 in
theorem kX11_span (hE : gEX l dC dI ad ca X) (n : Nat)  (v1 : Int32) (σ : gM) {r0 : Int32} {σ' : gM} (h : fX11_span n v1 σ = some (r0, σ')) : g_C l dC dI ad ca shX X yX11_span cX11_span 2 (some .int) (gR 3) [.ref 0, .int v1] σ (some (.int r0)) σ' := by
  refine g_entry (by decide +kernel) (Nat.le_of_ble_eq_true rfl) ?_
  refine g_lvE (lv1 := [(0, .ref 0), (1, .int v1)]) rfl ?_
  unfold fX11_span at h
  refine g_aload_n (pc := 0) dX11_span_0 rfl 0 rfl ?_
  refine g_getR (pc := 1) wfX11_19 rfl rfl dX11_span_1 ?_
  obtain ⟨r12, σ11, h10, h⟩ := g_bId h
  refine g_callVi (pc := 4) (st := []) hE.1 wvX11_181 rfl rfl (kX6_present hE σ h10) rfl (gR_ok (by decide) (by decide)) (Nat.le_of_ble_eq_true rfl) rfl dX11_span_4 ?_
  refine g_if_eq (pc := 7) (tgt := 19) dX11_span_7 (by decide) (fun c13 => ?_) (fun c13 => ?_)
  · have h := g_ift c13 h
    refine g_iconst (pc := 19) (v := (-1)) dX11_span_19 (by decide) ?_
    cases h
    exact g_iret (pc := 20) rfl rfl rfl rfl dX11_span_20
  · have h := g_iff c13 h
    refine g_iload_n (pc := 10) dX11_span_10 rfl 1 rfl ?_
    refine g_if_lt (pc := 11) (tgt := 19) dX11_span_11 (by decide) (fun c14 => ?_) (fun c14 => ?_)
    · have h := g_ift c14 h
      refine g_iconst (pc := 19) (v := (-1)) dX11_span_19 (by decide) ?_
      cases h
      exact g_iret (pc := 20) rfl rfl rfl rfl dX11_span_20
    · have h := g_iff c14 h
      refine g_iload_n (pc := 14) dX11_span_14 rfl 1 rfl ?_
      refine g_iconst (pc := 15) (v := 1) dX11_span_15 (by decide) ?_
      refine g_icmp_le (pc := 16) (tgt := 21) dX11_span_16 (by decide) (fun c15 => ?_) (fun c15 => ?_)
      · have h := g_ift c15 h
        refine g_aload_n (pc := 21) dX11_span_21 rfl 0 rfl ?_
        refine g_getR (pc := 22) wfX11_50 rfl rfl dX11_span_22 ?_
        refine g_iload_n (pc := 25) dX11_span_25 rfl 1 rfl ?_
        obtain ⟨r18, σ17, h16, h⟩ := g_bId h
        refine g_callVi (pc := 26) (st := []) hE.1 wvX11_330 rfl rfl (kX4_longestHidden hE n v1 σ11 h16) rfl (gR_ok (by decide) (by decide)) (Nat.le_of_ble_eq_true rfl) rfl dX11_span_26 ?_
        cases h
        exact g_iret (pc := 29) rfl rfl rfl rfl dX11_span_29
      · have h := g_iff c15 h
        refine g_iconst (pc := 19) (v := (-1)) dX11_span_19 (by decide) ?_
        cases h
        exact g_iret (pc := 20) rfl rfl rfl rfl dX11_span_20
def fX11_risk (n : Nat) (σ : gM) : Option (Int32 × gM) := g_bI (fX6_present σ) (fun r10 σ9 => if r10 = 0 then (some ((-1), σ9)) else (g_bI (fX4_losableCouples n σ9) (fun r14 σ13 => some (r14, σ13))))
set_option maxRecDepth 100000 in
theorem kX11_risk (hE : gEX l dC dI ad ca X) (n : Nat)  (σ : gM) {r0 : Int32} {σ' : gM} (h : fX11_risk n σ = some (r0, σ')) : g_C l dC dI ad ca shX X yX11_risk cX11_risk 1 (some .int) (gR 3) [.ref 0] σ (some (.int r0)) σ' := by
  refine g_entry (by decide +kernel) (Nat.le_of_ble_eq_true rfl) ?_
  refine g_lvE (lv1 := [(0, .ref 0)]) rfl ?_
  unfold fX11_risk at h
  refine g_aload_n (pc := 0) dX11_risk_0 rfl 0 rfl ?_
  refine g_getR (pc := 1) wfX11_19 rfl rfl dX11_risk_1 ?_
  obtain ⟨r10, σ9, h8, h⟩ := g_bId h
  refine g_callVi (pc := 4) (st := []) hE.1 wvX11_181 rfl rfl (kX6_present hE σ h8) rfl (gR_ok (by decide) (by decide)) (Nat.le_of_ble_eq_true rfl) rfl dX11_risk_4 ?_
  refine g_if_eq (pc := 7) (tgt := 20) dX11_risk_7 (by decide) (fun c11 => ?_) (fun c11 => ?_)
  · have h := g_ift c11 h
    refine g_iconst (pc := 20) (v := (-1)) dX11_risk_20 (by decide) ?_
    cases h
    exact g_iret (pc := 21) rfl rfl rfl rfl dX11_risk_21
  · have h := g_iff c11 h
    refine g_aload_n (pc := 10) dX11_risk_10 rfl 0 rfl ?_
    refine g_getR (pc := 11) wfX11_50 rfl rfl dX11_risk_11 ?_
    obtain ⟨r14, σ13, h12, h⟩ := g_bId h
    refine g_callVi (pc := 14) (st := []) hE.1 wvX11_333 rfl rfl (kX4_losableCouples hE n σ9 h12) rfl (gR_ok (by decide) (by decide)) (Nat.le_of_ble_eq_true rfl) rfl dX11_risk_14 ?_
    refine g_goto (pc := 17) (tgt := 21) dX11_risk_17 (by decide) ?_
    cases h
    exact g_iret (pc := 21) rfl rfl rfl rfl dX11_risk_21
def fX11_first (n : Nat) (v1 : Int32) (σ : gM) : Option (Int32 × gM) := g_bI (fX6_present σ) (fun r10 σ9 => if r10 = 0 then (some ((-1), σ9)) else (g_bI (fX4_nearestWhole n v1 σ9) (fun r14 σ13 => some (r14, σ13))))
set_option maxRecDepth 100000 in
theorem kX11_first (hE : gEX l dC dI ad ca X) (n : Nat)  (v1 : Int32) (σ : gM) {r0 : Int32} {σ' : gM} (h : fX11_first n v1 σ = some (r0, σ')) : g_C l dC dI ad ca shX X yX11_first cX11_first 2 (some .int) (gR 4) [.ref 0, .int v1] σ (some (.int r0)) σ' := by
  refine g_entry (by decide +kernel) (Nat.le_of_ble_eq_true rfl) ?_
  refine g_lvE (lv1 := [(0, .ref 0), (1, .int v1)]) rfl ?_
  unfold fX11_first at h
  refine g_aload_n (pc := 0) dX11_first_0 rfl 0 rfl ?_
  refine g_getR (pc := 1) wfX11_19 rfl rfl dX11_first_1 ?_
  obtain ⟨r10, σ9, h8, h⟩ := g_bId h
  refine g_callVi (pc := 4) (st := []) hE.1 wvX11_181 rfl rfl (kX6_present hE σ h8) rfl (gR_ok (by decide) (by decide)) (Nat.le_of_ble_eq_true rfl) rfl dX11_first_4 ?_
  refine g_if_eq (pc := 7) (tgt := 21) dX11_first_7 (by decide) (fun c11 => ?_) (fun c11 => ?_)
  · have h := g_ift c11 h
    refine g_iconst (pc := 21) (v := (-1)) dX11_first_21 (by decide) ?_
    cases h
    exact g_iret (pc := 22) rfl rfl rfl rfl dX11_first_22
  · have h := g_iff c11 h
    refine g_aload_n (pc := 10) dX11_first_10 rfl 0 rfl ?_
    refine g_getR (pc := 11) wfX11_50 rfl rfl dX11_first_11 ?_
    refine g_iload_n (pc := 14) dX11_first_14 rfl 1 rfl ?_
    obtain ⟨r14, σ13, h12, h⟩ := g_bId h
    refine g_callVi (pc := 15) (st := []) hE.1 wvX11_336 rfl rfl (kX4_nearestWhole hE n v1 σ9 h12) rfl (gR_ok (by decide) (by decide)) (Nat.le_of_ble_eq_true rfl) rfl dX11_first_15 ?_
    refine g_goto (pc := 18) (tgt := 22) dX11_first_18 (by decide) ?_
    cases h
    exact g_iret (pc := 22) rfl rfl rfl rfl dX11_first_22
def fX11_votes (n : Nat) (v1 : Int32) (v2 : Int32) (σ : gM) : Option (Int32 × gM) := g_bI (fX6_isAddress v1 σ) (fun r14 σ13 => if r14 = 0 then (some ((-1), σ13)) else (g_bI (fX11_isByte v2 σ13) (fun r18 σ17 => if r18 = 0 then (some ((-1), σ17)) else (g_bI (fX4_votesFor n v1 v2 σ17) (fun r22 σ21 => some (r22, σ21))))))
set_option maxRecDepth 100000 in
theorem kX11_votes (hE : gEX l dC dI ad ca X) (n : Nat)  (v1 : Int32) (v2 : Int32) (σ : gM) {r0 : Int32} {σ' : gM} (h : fX11_votes n v1 v2 σ = some (r0, σ')) : g_C l dC dI ad ca shX X yX11_votes cX11_votes 3 (some .int) (gR 5) [.ref 0, .int v1, .int v2] σ (some (.int r0)) σ' := by
  refine g_entry (by decide +kernel) (Nat.le_of_ble_eq_true rfl) ?_
  refine g_lvE (lv1 := [(0, .ref 0), (1, .int v1), (2, .int v2)]) rfl ?_
  unfold fX11_votes at h
  refine g_aload_n (pc := 0) dX11_votes_0 rfl 0 rfl ?_
  refine g_getR (pc := 1) wfX11_19 rfl rfl dX11_votes_1 ?_
  refine g_iload_n (pc := 4) dX11_votes_4 rfl 1 rfl ?_
  obtain ⟨r14, σ13, h12, h⟩ := g_bId h
  refine g_callVi (pc := 5) (st := []) hE.1 wvX11_153 rfl rfl (kX6_isAddress hE v1 σ h12) rfl (gR_ok (by decide) (by decide)) (Nat.le_of_ble_eq_true rfl) rfl dX11_votes_5 ?_
  refine g_if_eq (pc := 8) (tgt := 30) dX11_votes_8 (by decide) (fun c15 => ?_) (fun c15 => ?_)
  · have h := g_ift c15 h
    refine g_iconst (pc := 30) (v := (-1)) dX11_votes_30 (by decide) ?_
    cases h
    exact g_iret (pc := 31) rfl rfl rfl rfl dX11_votes_31
  · have h := g_iff c15 h
    refine g_iload_n (pc := 11) dX11_votes_11 rfl 2 rfl ?_
    obtain ⟨r18, σ17, h16, h⟩ := g_bId h
    refine g_callSi (pc := 12) (st := []) hE.1 wsX11_200 (kX11_isByte hE v2 σ13 h16) rfl (gR_ok (by decide) (by decide)) (Nat.le_of_ble_eq_true rfl) rfl dX11_votes_12 ?_
    refine g_if_eq (pc := 15) (tgt := 30) dX11_votes_15 (by decide) (fun c19 => ?_) (fun c19 => ?_)
    · have h := g_ift c19 h
      refine g_iconst (pc := 30) (v := (-1)) dX11_votes_30 (by decide) ?_
      cases h
      exact g_iret (pc := 31) rfl rfl rfl rfl dX11_votes_31
    · have h := g_iff c19 h
      refine g_aload_n (pc := 18) dX11_votes_18 rfl 0 rfl ?_
      refine g_getR (pc := 19) wfX11_50 rfl rfl dX11_votes_19 ?_
      refine g_iload_n (pc := 22) dX11_votes_22 rfl 1 rfl ?_
      refine g_iload_n (pc := 23) dX11_votes_23 rfl 2 rfl ?_
      obtain ⟨r22, σ21, h20, h⟩ := g_bId h
      refine g_callVi (pc := 24) (st := []) hE.1 wvX11_339 rfl rfl (kX4_votesFor hE n v1 v2 σ17 h20) rfl (gR_ok (by decide) (by decide)) (Nat.le_of_ble_eq_true rfl) rfl dX11_votes_24 ?_
      refine g_goto (pc := 27) (tgt := 31) dX11_votes_27 (by decide) ?_
      cases h
      exact g_iret (pc := 31) rfl rfl rfl rfl dX11_votes_31
def fX11_isScript (v1 : Int32) (σ : gM) : Option (Int32 × gM) := if v1 < 0 then (some (0, σ)) else (if (σ.1 0 13) ≤ v1 then (some (0, σ)) else (if 4 ≤ v1 then (some (0, σ)) else (if ¬ (v1 < 0 ∨ 4 ≤ v1.toNatClampNeg) then (some (1, σ)) else none)))
set_option maxRecDepth 100000 in
theorem kX11_isScript (hE : gEX l dC dI ad ca X)  (v1 : Int32) (σ : gM) {r0 : Int32} {σ' : gM} (h : fX11_isScript v1 σ = some (r0, σ')) : g_C l dC dI ad ca shX X yX11_isScript cX11_isScript 2 (some .boolean) (gR 0) [.ref 0, .int v1] σ (some (.int r0)) σ' := by
  refine g_entry (by decide +kernel) (Nat.le_of_ble_eq_true rfl) ?_
  refine g_lvE (lv1 := [(0, .ref 0), (1, .int v1)]) rfl ?_
  unfold fX11_isScript at h
  refine g_iload_n (pc := 0) dX11_isScript_0 rfl 1 rfl ?_
  refine g_if_lt (pc := 1) (tgt := 34) dX11_isScript_1 (by decide) (fun c5 => ?_) (fun c5 => ?_)
  · have h := g_ift c5 h
    refine g_iconst (pc := 34) (v := 0) dX11_isScript_34 (by decide) ?_
    cases h
    exact g_iret (pc := 35) rfl (by decide) rfl rfl dX11_isScript_35
  · have h := g_iff c5 h
    refine g_iload_n (pc := 4) dX11_isScript_4 rfl 1 rfl ?_
    refine g_aload_n (pc := 5) dX11_isScript_5 rfl 0 rfl ?_
    refine g_getI (pc := 6) wfX11_88 rfl rfl dX11_isScript_6 ?_
    refine g_icmp_ge (pc := 9) (tgt := 34) dX11_isScript_9 (by decide) (fun c6 => ?_) (fun c6 => ?_)
    · have h := g_ift c6 h
      refine g_iconst (pc := 34) (v := 0) dX11_isScript_34 (by decide) ?_
      cases h
      exact g_iret (pc := 35) rfl (by decide) rfl rfl dX11_isScript_35
    · have h := g_iff c6 h
      refine g_iload_n (pc := 12) dX11_isScript_12 rfl 1 rfl ?_
      refine g_aload_n (pc := 13) dX11_isScript_13 rfl 0 rfl ?_
      refine g_getR (pc := 14) wfX11_80 rfl rfl dX11_isScript_14 ?_
      refine g_alenQ (pc := 17) (qs := [35, 38, 41, 44]) rfl dX11_isScript_17 ?_
      refine g_icmp_ge (pc := 18) (tgt := 34) dX11_isScript_18 (by decide) (fun c7 => ?_) (fun c7 => ?_)
      · have h := g_ift c7 h
        refine g_iconst (pc := 34) (v := 0) dX11_isScript_34 (by decide) ?_
        cases h
        exact g_iret (pc := 35) rfl (by decide) rfl rfl dX11_isScript_35
      · have h := g_iff c7 h
        refine g_aload_n (pc := 21) dX11_isScript_21 rfl 0 rfl ?_
        refine g_getR (pc := 22) wfX11_80 rfl rfl dX11_isScript_22 ?_
        refine g_iload_n (pc := 25) dX11_isScript_25 rfl 1 rfl ?_
        obtain ⟨c8, h⟩ := g_gd h
        refine g_aald (pc := 26) (qs := [35, 38, 41, 44]) rfl c8 (sX_pick c8) dX11_isScript_26 ?_
        refine g_ifnull (pc := 27) dX11_isScript_27 ?_
        refine g_iconst (pc := 30) (v := 1) dX11_isScript_30 (by decide) ?_
        refine g_goto (pc := 31) (tgt := 35) dX11_isScript_31 (by decide) ?_
        cases h
        exact g_iret (pc := 35) rfl (by decide) rfl rfl dX11_isScript_35
def fX11_step (v1 : Int32) (v2 : Int32) (v3 : Int32) (σ : gM) : Option (Int32 × gM) := g_bI (fX11_isScript v1 σ) (fun r11 σ10 => if r11 = 0 then (some ((-1000000), σ10)) else (if ¬ (v1 < 0 ∨ 4 ≤ v1.toNatClampNeg) then (g_bI (fX7_tell v1.toNatClampNeg v2 v3 σ10) (fun r16 σ15 => some (r16, σ15))) else none))
set_option maxRecDepth 100000 in
theorem kX11_step (hE : gEX l dC dI ad ca X)  (v1 : Int32) (v2 : Int32) (v3 : Int32) (σ : gM) {r0 : Int32} {σ' : gM} (h : fX11_step v1 v2 v3 σ = some (r0, σ')) : g_C l dC dI ad ca shX X yX11_step cX11_step 4 (some .int) (gR 2) [.ref 0, .int v1, .int v2, .int v3] σ (some (.int r0)) σ' := by
  refine g_entry (by decide +kernel) (Nat.le_of_ble_eq_true rfl) ?_
  refine g_lvE (lv1 := [(0, .ref 0), (1, .int v1), (2, .int v2), (3, .int v3)]) rfl ?_
  unfold fX11_step at h
  refine g_aload_n (pc := 0) dX11_step_0 rfl 0 rfl ?_
  refine g_iload_n (pc := 1) dX11_step_1 rfl 1 rfl ?_
  obtain ⟨r11, σ10, h9, h⟩ := g_bId h
  refine g_callVi (pc := 2) (st := []) hE.1 wvX11_342 rfl rfl (kX11_isScript hE v1 σ h9) rfl (gR_ok (by decide) (by decide)) (Nat.le_of_ble_eq_true rfl) rfl dX11_step_2 ?_
  refine g_if_eq (pc := 5) (tgt := 22) dX11_step_5 (by decide) (fun c12 => ?_) (fun c12 => ?_)
  · have h := g_ift c12 h
    refine g_ldcw (pc := 22) wkX11_259 dX11_step_22 ?_
    cases h
    exact g_iret (pc := 25) rfl rfl rfl rfl dX11_step_25
  · have h := g_iff c12 h
    refine g_aload_n (pc := 8) dX11_step_8 rfl 0 rfl ?_
    refine g_getR (pc := 9) wfX11_80 rfl rfl dX11_step_9 ?_
    refine g_iload_n (pc := 12) dX11_step_12 rfl 1 rfl ?_
    obtain ⟨c13, h⟩ := g_gd h
    refine g_aald (pc := 13) (qs := [35, 38, 41, 44]) rfl c13 (sX_pick c13) dX11_step_13 ?_
    refine g_iload_n (pc := 14) dX11_step_14 rfl 2 rfl ?_
    refine g_iload_n (pc := 15) dX11_step_15 rfl 3 rfl ?_
    obtain ⟨r16, σ15, h14, h⟩ := g_bId h
    refine g_callVi (pc := 16) (st := []) hE.1 wvX11_345 (sX_script (i := v1.toNatClampNeg) (g_in5 c13)) rfl (kX7_tell hE v1.toNatClampNeg (g_in5 c13) v2 v3 σ10 h14) rfl (gR_ok (by decide) (by decide)) (Nat.le_of_ble_eq_true rfl) rfl dX11_step_16 ?_
    refine g_goto (pc := 19) (tgt := 25) dX11_step_19 (by decide) ?_
    cases h
    exact g_iret (pc := 25) rfl rfl rfl rfl dX11_step_25
def fX11_run_b27 (n : Nat) (σ : gM) : Option (Int32 × gM) := some ((-1000000), σ)
set_option maxRecDepth 100000 in
theorem tX11_run_b27 (hE : gEX l dC dI ad ca X) {r0 : Int32} {σ' : gM} (n : Nat)  (σ : gM) (h : fX11_run_b27 n σ = some (r0, σ')) : g_G l dC dI ad ca shX X cX11_run 4 RX11 (some .int) (gR 7) (some (.int r0)) σ' 27 [] [] σ := by
  unfold fX11_run_b27 at h
  refine g_ldcw (pc := 27) wkX11_259 dX11_run_27 ?_
  cases h
  exact g_iret (pc := 30) rfl rfl rfl rfl dX11_run_30
def fX11_run (n : Nat) (v1 : Int32) (v2 : Int32) (σ : gM) : Option (Int32 × gM) := g_bI (fX11_isScript v1 σ) (fun r31 σ30 => if r31 = 0 then (fX11_run_b27 n σ30) else (g_bI (fX6_present σ30) (fun r35 σ34 => if r35 = 0 then (fX11_run_b27 n σ34) else (if v2 < 0 then (fX11_run_b27 n σ34) else (if v2 ≤ 1 then (g_bV (fX9_copy 1 0 σ34) (fun σ40 => if ¬ (v1 < 0 ∨ 4 ≤ v1.toNatClampNeg) then (g_bI (fX8_doneOf n 1 v1.toNatClampNeg σ40) (fun r44 σ43 => if v2 = 1 then (g_bI (fX9_costEver n 1 σ43) (fun r53 σ52 => g_bI (fX9_costEver n 0 σ52) (fun r56 σ55 => some (r53 - r56, σ55)))) else (if ¬ (v1 < 0 ∨ 4 ≤ v1.toNatClampNeg) then (g_bI (fX7_size v1.toNatClampNeg σ43) (fun r49 σ48 => if r44 = r49 then (some ((-1), σ48)) else (some (r44, σ48)))) else none))) else none)) else (fX11_run_b27 n σ34))))))
set_option maxRecDepth 100000 in
theorem kX11_run (hE : gEX l dC dI ad ca X) (n : Nat)  (v1 : Int32) (v2 : Int32) (σ : gM) {r0 : Int32} {σ' : gM} (h : fX11_run n v1 v2 σ = some (r0, σ')) : g_C l dC dI ad ca shX X yX11_run cX11_run 4 (some .int) (gR 7) [.ref 0, .int v1, .int v2] σ (some (.int r0)) σ' := by
  refine g_entry (by decide +kernel) (Nat.le_of_ble_eq_true rfl) ?_
  refine g_lvE (lv1 := [(0, .ref 0), (1, .int v1), (2, .int v2)]) rfl ?_
  unfold fX11_run at h
  refine g_aload_n (pc := 0) dX11_run_0 rfl 0 rfl ?_
  refine g_iload_n (pc := 1) dX11_run_1 rfl 1 rfl ?_
  obtain ⟨r31, σ30, h29, h⟩ := g_bId h
  refine g_callVi (pc := 2) (st := []) hE.1 wvX11_342 rfl rfl (kX11_isScript hE v1 σ h29) rfl (gR_ok (by decide) (by decide)) (Nat.le_of_ble_eq_true rfl) rfl dX11_run_2 ?_
  refine g_if_eq (pc := 5) (tgt := 27) dX11_run_5 (by decide) (fun c32 => ?_) (fun c32 => ?_)
  · have h := g_ift c32 h
    exact g_lv [] rfl (tX11_run_b27 hE n σ30 h)
  · have h := g_iff c32 h
    refine g_aload_n (pc := 8) dX11_run_8 rfl 0 rfl ?_
    refine g_getR (pc := 9) wfX11_19 rfl rfl dX11_run_9 ?_
    obtain ⟨r35, σ34, h33, h⟩ := g_bId h
    refine g_callVi (pc := 12) (st := []) hE.1 wvX11_181 rfl rfl (kX6_present hE σ30 h33) rfl (gR_ok (by decide) (by decide)) (Nat.le_of_ble_eq_true rfl) rfl dX11_run_12 ?_
    refine g_if_eq (pc := 15) (tgt := 27) dX11_run_15 (by decide) (fun c36 => ?_) (fun c36 => ?_)
    · have h := g_ift c36 h
      exact g_lv [] rfl (tX11_run_b27 hE n σ34 h)
    · have h := g_iff c36 h
      refine g_iload_n (pc := 18) dX11_run_18 rfl 2 rfl ?_
      refine g_if_lt (pc := 19) (tgt := 27) dX11_run_19 (by decide) (fun c37 => ?_) (fun c37 => ?_)
      · have h := g_ift c37 h
        exact g_lv [] rfl (tX11_run_b27 hE n σ34 h)
      · have h := g_iff c37 h
        refine g_iload_n (pc := 22) dX11_run_22 rfl 2 rfl ?_
        refine g_iconst (pc := 23) (v := 1) dX11_run_23 (by decide) ?_
        refine g_icmp_le (pc := 24) (tgt := 31) dX11_run_24 (by decide) (fun c38 => ?_) (fun c38 => ?_)
        · have h := g_ift c38 h
          refine g_aload_n (pc := 31) dX11_run_31 rfl 0 rfl ?_
          refine g_getR (pc := 32) wfX11_39 rfl rfl dX11_run_32 ?_
          refine g_getR (pc := 35) wfX11_137 (sX_shelf (i := 1) (by decide)) rfl dX11_run_35 ?_
          refine g_aload_n (pc := 38) dX11_run_38 rfl 0 rfl ?_
          refine g_getR (pc := 39) wfX11_35 rfl rfl dX11_run_39 ?_
          refine g_getR (pc := 42) wfX11_137 (sX_shelf (i := 0) (by decide)) rfl dX11_run_42 ?_
          obtain ⟨σ40, h39, h⟩ := g_bVd h
          refine g_callVv (pc := 45) (st := []) hE.1 wvX11_346 (sX_state (i := 1) (by decide)) rfl (kX9_copy hE 1 (by decide) 0 (by decide) σ34 h39) rfl (gR_ok (by decide) (by decide)) (Nat.le_of_ble_eq_true rfl) rfl dX11_run_45 ?_
          refine g_aload_n (pc := 48) dX11_run_48 rfl 0 rfl ?_
          refine g_getR (pc := 49) wfX11_39 rfl rfl dX11_run_49 ?_
          refine g_aload_n (pc := 52) dX11_run_52 rfl 0 rfl ?_
          refine g_getR (pc := 53) wfX11_80 rfl rfl dX11_run_53 ?_
          refine g_iload_n (pc := 56) dX11_run_56 rfl 1 rfl ?_
          obtain ⟨c41, h⟩ := g_gd h
          refine g_aald (pc := 57) (qs := [35, 38, 41, 44]) rfl c41 (sX_pick c41) dX11_run_57 ?_
          obtain ⟨r44, σ43, h42, h⟩ := g_bId h
          refine g_callVi (pc := 58) (st := []) hE.1 wvX11_348 (sX_shelf (i := 1) (by decide)) rfl (kX8_doneOf hE n 1 (by decide) v1.toNatClampNeg (g_in5 c41) σ40 h42) rfl (gR_ok (by decide) (by decide)) (Nat.le_of_ble_eq_true rfl) rfl dX11_run_58 ?_
          refine g_istore_n (pc := 61) (lv1 := [(3, .int r44), (0, .ref 0), (1, .int v1), (2, .int v2)]) dX11_run_61 rfl (by decide) rfl ?_
          refine g_iload_n (pc := 62) dX11_run_62 rfl 3 rfl ?_
          refine g_iconst (pc := 63) (v := 1) dX11_run_63 (by decide) ?_
          refine g_icmp_ne (pc := 64) (tgt := 89) dX11_run_64 (by decide) (fun c45 => ?_) (fun c45 => ?_)
          · have h := g_iff c45 h
            refine g_iload_n (pc := 89) dX11_run_89 rfl 0 rfl ?_
            refine g_aload_n (pc := 90) dX11_run_90 rfl 1 rfl ?_
            refine g_getR (pc := 91) wfX11_80 rfl rfl dX11_run_91 ?_
            refine g_iload_n (pc := 94) dX11_run_94 rfl 2 rfl ?_
            obtain ⟨c46, h⟩ := g_gd h
            refine g_aald (pc := 95) (qs := [35, 38, 41, 44]) rfl c46 (sX_pick c46) dX11_run_95 ?_
            obtain ⟨r49, σ48, h47, h⟩ := g_bId h
            refine g_callVi (pc := 96) (st := [.int r44]) hE.1 wvX11_352 (sX_script (i := v1.toNatClampNeg) (g_in5 c46)) rfl (kX7_size hE v1.toNatClampNeg (g_in5 c46) σ43 h47) rfl (gR_ok (by decide) (by decide)) (Nat.le_of_ble_eq_true rfl) rfl dX11_run_96 ?_
            refine g_icmp_ne (pc := 99) (tgt := 106) dX11_run_99 (by decide) (fun c50 => ?_) (fun c50 => ?_)
            · have h := g_iff c50 h
              refine g_iload_n (pc := 106) dX11_run_106 rfl 0 rfl ?_
              cases h
              exact g_iret (pc := 107) rfl rfl rfl rfl dX11_run_107
            · have h := g_ift c50 h
              refine g_iconst (pc := 102) (v := (-1)) dX11_run_102 (by decide) ?_
              refine g_goto (pc := 103) (tgt := 107) dX11_run_103 (by decide) ?_
              cases h
              exact g_iret (pc := 107) rfl rfl rfl rfl dX11_run_107
          · have h := g_ift c45 h
            refine g_aload_n (pc := 67) dX11_run_67 rfl 1 rfl ?_
            refine g_getR (pc := 68) wfX11_39 rfl rfl dX11_run_68 ?_
            refine g_getR (pc := 71) wfX11_137 (sX_shelf (i := 1) (by decide)) rfl dX11_run_71 ?_
            obtain ⟨r53, σ52, h51, h⟩ := g_bId h
            refine g_callVi (pc := 74) (st := []) hE.1 wvX11_276 (sX_state (i := 1) (by decide)) rfl (kX9_costEver hE n 1 (by decide) σ43 h51) rfl (gR_ok (by decide) (by decide)) (Nat.le_of_ble_eq_true rfl) rfl dX11_run_74 ?_
            refine g_aload_n (pc := 77) dX11_run_77 rfl 1 rfl ?_
            refine g_getR (pc := 78) wfX11_35 rfl rfl dX11_run_78 ?_
            refine g_getR (pc := 81) wfX11_137 (sX_shelf (i := 0) (by decide)) rfl dX11_run_81 ?_
            obtain ⟨r56, σ55, h54, h⟩ := g_bId h
            refine g_callVi (pc := 84) (st := [.int r53]) hE.1 wvX11_276 (sX_state (i := 0) (by decide)) rfl (kX9_costEver hE n 0 (by decide) σ52 h54) rfl (gR_ok (by decide) (by decide)) (Nat.le_of_ble_eq_true rfl) rfl dX11_run_84 ?_
            refine g_isub (pc := 87) dX11_run_87 ?_
            cases h
            exact g_iret (pc := 88) rfl rfl rfl rfl dX11_run_88
        · have h := g_iff c38 h
          exact g_lv [] rfl (tX11_run_b27 hE n σ34 h)
def fX11_perform_b29 (n : Nat) (K29 : Nat → Int32 → gM → Option (Int32 × gM)) (w2 : Nat) (v3 : Int32) (σ : gM) : Option (Int32 × gM) := g_bI (fX7_size w2 σ) (fun r38 σ37 => if r38 ≤ v3 then (g_bI (fX7_size w2 σ37) (fun r42 σ41 => some (r42, σ41))) else (g_bI (fX7_sort w2 v3 σ37) (fun r45 σ44 => g_bI (fX7_number w2 v3 0 σ44) (fun r48 σ47 => g_bI (fX7_number w2 v3 1 σ47) (fun r51 σ50 => g_bI (fX7_number w2 v3 2 σ50) (fun r54 σ53 => g_bI (fX7_number w2 v3 3 σ53) (fun r57 σ56 => g_bI (fX11_attempt n r45 r48 r51 r54 r57 σ56) (fun r60 σ59 => if (σ59.1 0 14) = (-1) then (K29 w2 (v3 + 1) σ59) else (some (v3, σ59))))))))))
set_option maxRecDepth 100000 in
theorem tX11_perform_b29 (hE : gEX l dC dI ad ca X) {r0 : Int32} {σ' : gM} (n : Nat) (K29 : Nat → Int32 → gM → Option (Int32 × gM)) (hK29 : ∀ (w2 : Nat) (v3 : Int32) (hw2 : w2 < 5) (σ : gM), K29 w2 v3 σ = some (r0, σ') → g_G l dC dI ad ca shX X cX11_perform 4 RX11 (some .int) (gR 7) (some (.int r0)) σ' 29 [(0, .ref 0), (2, .ref (35 + 3 * w2)), (3, .int v3)] [] σ) (w2 : Nat) (v3 : Int32) (hw2 : w2 < 5)  (σ : gM) (h : fX11_perform_b29 n K29 w2 v3 σ = some (r0, σ')) : g_G l dC dI ad ca shX X cX11_perform 4 RX11 (some .int) (gR 7) (some (.int r0)) σ' 29 [(0, .ref 0), (2, .ref (35 + 3 * w2)), (3, .int v3)] [] σ := by
  unfold fX11_perform_b29 at h
  refine g_iload_n (pc := 29) dX11_perform_29 rfl 2 rfl ?_
  refine g_aload_n (pc := 30) dX11_perform_30 rfl 1 rfl ?_
  obtain ⟨r38, σ37, h36, h⟩ := g_bId h
  refine g_callVi (pc := 31) (st := [.int v3]) hE.1 wvX11_352 (sX_script (i := w2) hw2) rfl (kX7_size hE w2 hw2 σ h36) rfl (gR_ok (by decide) (by decide)) (Nat.le_of_ble_eq_true rfl) rfl dX11_perform_31 ?_
  refine g_icmp_ge (pc := 34) (tgt := 87) dX11_perform_34 (by decide) (fun c39 => ?_) (fun c39 => ?_)
  · have h := g_ift c39 h
    refine g_aload_n (pc := 87) dX11_perform_87 rfl 1 rfl ?_
    obtain ⟨r42, σ41, h40, h⟩ := g_bId h
    refine g_callVi (pc := 88) (st := []) hE.1 wvX11_352 (sX_script (i := w2) hw2) rfl (kX7_size hE w2 hw2 σ37 h40) rfl (gR_ok (by decide) (by decide)) (Nat.le_of_ble_eq_true rfl) rfl dX11_perform_88 ?_
    cases h
    exact g_iret (pc := 91) rfl rfl rfl rfl dX11_perform_91
  · have h := g_iff c39 h
    refine g_aload_n (pc := 37) dX11_perform_37 rfl 0 rfl ?_
    refine g_aload_n (pc := 38) dX11_perform_38 rfl 1 rfl ?_
    refine g_iload_n (pc := 39) dX11_perform_39 rfl 2 rfl ?_
    obtain ⟨r45, σ44, h43, h⟩ := g_bId h
    refine g_callVi (pc := 40) (st := [.ref 0]) hE.1 wvX11_353 (sX_script (i := w2) hw2) rfl (kX7_sort hE w2 hw2 v3 σ37 h43) rfl (gR_ok (by decide) (by decide)) (Nat.le_of_ble_eq_true rfl) rfl dX11_perform_40 ?_
    refine g_aload_n (pc := 43) dX11_perform_43 rfl 1 rfl ?_
    refine g_iload_n (pc := 44) dX11_perform_44 rfl 2 rfl ?_
    refine g_iconst (pc := 45) (v := 0) dX11_perform_45 (by decide) ?_
    obtain ⟨r48, σ47, h46, h⟩ := g_bId h
    refine g_callVi (pc := 46) (st := [.int r45, .ref 0]) hE.1 wvX11_356 (sX_script (i := w2) hw2) rfl (kX7_number hE w2 hw2 v3 0 σ44 h46) rfl (gR_ok (by decide) (by decide)) (Nat.le_of_ble_eq_true rfl) rfl dX11_perform_46 ?_
    refine g_aload_n (pc := 49) dX11_perform_49 rfl 1 rfl ?_
    refine g_iload_n (pc := 50) dX11_perform_50 rfl 2 rfl ?_
    refine g_iconst (pc := 51) (v := 1) dX11_perform_51 (by decide) ?_
    obtain ⟨r51, σ50, h49, h⟩ := g_bId h
    refine g_callVi (pc := 52) (st := [.int r48, .int r45, .ref 0]) hE.1 wvX11_356 (sX_script (i := w2) hw2) rfl (kX7_number hE w2 hw2 v3 1 σ47 h49) rfl (gR_ok (by decide) (by decide)) (Nat.le_of_ble_eq_true rfl) rfl dX11_perform_52 ?_
    refine g_aload_n (pc := 55) dX11_perform_55 rfl 1 rfl ?_
    refine g_iload_n (pc := 56) dX11_perform_56 rfl 2 rfl ?_
    refine g_iconst (pc := 57) (v := 2) dX11_perform_57 (by decide) ?_
    obtain ⟨r54, σ53, h52, h⟩ := g_bId h
    refine g_callVi (pc := 58) (st := [.int r51, .int r48, .int r45, .ref 0]) hE.1 wvX11_356 (sX_script (i := w2) hw2) rfl (kX7_number hE w2 hw2 v3 2 σ50 h52) rfl (gR_ok (by decide) (by decide)) (Nat.le_of_ble_eq_true rfl) rfl dX11_perform_58 ?_
    refine g_aload_n (pc := 61) dX11_perform_61 rfl 1 rfl ?_
    refine g_iload_n (pc := 62) dX11_perform_62 rfl 2 rfl ?_
    refine g_iconst (pc := 63) (v := 3) dX11_perform_63 (by decide) ?_
    obtain ⟨r57, σ56, h55, h⟩ := g_bId h
    refine g_callVi (pc := 64) (st := [.int r54, .int r51, .int r48, .int r45, .ref 0]) hE.1 wvX11_356 (sX_script (i := w2) hw2) rfl (kX7_number hE w2 hw2 v3 3 σ53 h55) rfl (gR_ok (by decide) (by decide)) (Nat.le_of_ble_eq_true rfl) rfl dX11_perform_64 ?_
    obtain ⟨r60, σ59, h58, h⟩ := g_bId h
    refine g_callVi (pc := 67) (st := []) hE.1 wvX11_260 rfl rfl (kX11_attempt hE n r45 r48 r51 r54 r57 σ56 h58) rfl (gR_ok (by decide) (by decide)) (Nat.le_of_ble_eq_true rfl) rfl dX11_perform_67 ?_
    refine g_pop (pc := 70) dX11_perform_70 rfl ?_
    refine g_aload_n (pc := 71) dX11_perform_71 rfl 0 rfl ?_
    refine g_getI (pc := 72) wfX11_92 rfl rfl dX11_perform_72 ?_
    refine g_iconst (pc := 75) (v := (-1)) dX11_perform_75 (by decide) ?_
    refine g_icmp_eq (pc := 76) (tgt := 81) dX11_perform_76 (by decide) (fun c61 => ?_) (fun c61 => ?_)
    · have h := g_ift c61 h
      refine g_iinc (pc := 81) (v := v3 + 1) (lv1 := [(3, .int (v3 + 1)), (0, .ref 0), (2, .ref (35 + 3 * w2))]) dX11_perform_81 2 rfl rfl (by decide) rfl ?_
      refine g_goto (pc := 84) (tgt := 29) dX11_perform_84 (by decide) ?_
      exact g_lv [1, 2, 0] rfl (hK29 w2 (v3 + 1) hw2 σ59 h)
    · have h := g_iff c61 h
      refine g_iload_n (pc := 79) dX11_perform_79 rfl 2 rfl ?_
      cases h
      exact g_iret (pc := 80) rfl rfl rfl rfl dX11_perform_80
def fX11_perform_L29 (n : Nat) : Nat → Nat → Int32 → gM → Option (Int32 × gM)
  | 0 => fun _ _ _ => none
  | k + 1 => fX11_perform_b29 n (fX11_perform_L29 n k)
theorem tX11_perform_L29 (hE : gEX l dC dI ad ca X) {r0 : Int32} {σ' : gM} (n : Nat)  : ∀ (k : Nat) (w2 : Nat) (v3 : Int32) (hw2 : w2 < 5) (σ : gM), fX11_perform_L29 n k w2 v3 σ = some (r0, σ') → g_G l dC dI ad ca shX X cX11_perform 4 RX11 (some .int) (gR 7) (some (.int r0)) σ' 29 [(0, .ref 0), (2, .ref (35 + 3 * w2)), (3, .int v3)] [] σ := by
  intro k
  induction k with
  | zero => intro w2 v3 hw2 σ h; cases h
  | succ k ih => intro w2 v3 hw2 σ h; exact tX11_perform_b29 hE n (fX11_perform_L29 n k) ih w2 v3 hw2 σ h
def fX11_perform (n : Nat) (v1 : Int32) (σ : gM) : Option (Int32 × gM) := g_bI (fX11_isScript v1 σ) (fun r64 σ63 => if r64 = 0 then (some ((-1), σ63)) else (g_bI (fX6_present σ63) (fun r68 σ67 => if r68 = 0 then (some ((-1), σ67)) else (if ¬ (v1 < 0 ∨ 4 ≤ v1.toNatClampNeg) then (fX11_perform_L29 n n v1.toNatClampNeg 0 σ67) else none))))
set_option maxRecDepth 100000 in
theorem kX11_perform (hE : gEX l dC dI ad ca X) (n : Nat)  (v1 : Int32) (σ : gM) {r0 : Int32} {σ' : gM} (h : fX11_perform n v1 σ = some (r0, σ')) : g_C l dC dI ad ca shX X yX11_perform cX11_perform 4 (some .int) (gR 7) [.ref 0, .int v1] σ (some (.int r0)) σ' := by
  refine g_entry (by decide +kernel) (Nat.le_of_ble_eq_true rfl) ?_
  refine g_lvE (lv1 := [(0, .ref 0), (1, .int v1)]) rfl ?_
  unfold fX11_perform at h
  refine g_aload_n (pc := 0) dX11_perform_0 rfl 0 rfl ?_
  refine g_iload_n (pc := 1) dX11_perform_1 rfl 1 rfl ?_
  obtain ⟨r64, σ63, h62, h⟩ := g_bId h
  refine g_callVi (pc := 2) (st := []) hE.1 wvX11_342 rfl rfl (kX11_isScript hE v1 σ h62) rfl (gR_ok (by decide) (by decide)) (Nat.le_of_ble_eq_true rfl) rfl dX11_perform_2 ?_
  refine g_if_eq (pc := 5) (tgt := 18) dX11_perform_5 (by decide) (fun c65 => ?_) (fun c65 => ?_)
  · have h := g_ift c65 h
    refine g_iconst (pc := 18) (v := (-1)) dX11_perform_18 (by decide) ?_
    cases h
    exact g_iret (pc := 19) rfl rfl rfl rfl dX11_perform_19
  · have h := g_iff c65 h
    refine g_aload_n (pc := 8) dX11_perform_8 rfl 0 rfl ?_
    refine g_getR (pc := 9) wfX11_19 rfl rfl dX11_perform_9 ?_
    obtain ⟨r68, σ67, h66, h⟩ := g_bId h
    refine g_callVi (pc := 12) (st := []) hE.1 wvX11_181 rfl rfl (kX6_present hE σ63 h66) rfl (gR_ok (by decide) (by decide)) (Nat.le_of_ble_eq_true rfl) rfl dX11_perform_12 ?_
    refine g_if_ne (pc := 15) (tgt := 20) dX11_perform_15 (by decide) (fun c69 => ?_) (fun c69 => ?_)
    · have h := g_iff c69 h
      refine g_aload_n (pc := 20) dX11_perform_20 rfl 0 rfl ?_
      refine g_getR (pc := 21) wfX11_80 rfl rfl dX11_perform_21 ?_
      refine g_iload_n (pc := 24) dX11_perform_24 rfl 1 rfl ?_
      obtain ⟨c70, h⟩ := g_gd h
      refine g_aald (pc := 25) (qs := [35, 38, 41, 44]) rfl c70 (sX_pick c70) dX11_perform_25 ?_
      refine g_astore_n (pc := 26) (lv1 := [(2, .ref (35 + 3 * v1.toNatClampNeg)), (0, .ref 0), (1, .int v1)]) dX11_perform_26 rfl (by decide) rfl ?_
      refine g_iconst (pc := 27) (v := 0) dX11_perform_27 (by decide) ?_
      refine g_istore_n (pc := 28) (lv1 := [(3, .int 0), (2, .ref (35 + 3 * v1.toNatClampNeg)), (0, .ref 0), (1, .int v1)]) dX11_perform_28 rfl (by decide) rfl ?_
      exact g_lv [2, 1, 0] rfl (tX11_perform_L29 hE n n v1.toNatClampNeg 0 (g_in5 c70) σ67 h)
    · have h := g_ift c69 h
      refine g_iconst (pc := 18) (v := (-1)) dX11_perform_18 (by decide) ?_
      cases h
      exact g_iret (pc := 19) rfl rfl rfl rfl dX11_perform_19
def fX11_most (n : Nat) (v1 : Int32) (σ : gM) : Option (Int32 × gM) := g_bI (fX6_present σ) (fun r52 σ51 => if r52 = 0 then (some ((-1000000), σ51)) else (if v1 = 0 then (g_bI (fX9_sumOfDisks n 0 112 σ51) (fun r57 σ56 => some (r57, σ56))) else (if v1 = 1 then (g_bI (fX9_sumOfDisks n 0 120 σ51) (fun r61 σ60 => some (r61, σ60))) else (if v1 = 2 then (g_bI (fX9_sumOfDisks n 0 128 σ51) (fun r65 σ64 => some (r65, σ64))) else (if v1 = 3 then (g_bI (fX9_get 0 137 σ51) (fun r69 σ68 => some (r69, σ68))) else (if v1 = 4 then (g_bI (fX9_get 0 138 σ51) (fun r73 σ72 => some (r73, σ72))) else (if v1 = 5 then (g_bI (fX9_get 0 139 σ51) (fun r77 σ76 => some (r77, σ76))) else (if v1 = 6 then (g_bI (fX9_get 0 140 σ51) (fun r81 σ80 => some (r81, σ80))) else (if v1 = 7 then (g_bI (fX8_notWhole n 0 σ51) (fun r85 σ84 => some (r85, σ84))) else (if v1 = 8 then (g_bI (fX9_get 0 141 σ51) (fun r89 σ88 => some (r89, σ88))) else (if v1 = 9 then (g_bI (fX9_get 0 142 σ51) (fun r93 σ92 => some (r93, σ92))) else (if v1 = 10 then (g_bI (fX9_get 0 143 σ51) (fun r97 σ96 => some (r97, σ96))) else (some ((-1000000), σ51))))))))))))))
set_option maxRecDepth 100000 in
theorem kX11_most (hE : gEX l dC dI ad ca X) (n : Nat)  (v1 : Int32) (σ : gM) {r0 : Int32} {σ' : gM} (h : fX11_most n v1 σ = some (r0, σ')) : g_C l dC dI ad ca shX X yX11_most cX11_most 3 (some .int) (gR 2) [.ref 0, .int v1] σ (some (.int r0)) σ' := by
  refine g_entry (by decide +kernel) (Nat.le_of_ble_eq_true rfl) ?_
  refine g_lvE (lv1 := [(0, .ref 0), (1, .int v1)]) rfl ?_
  unfold fX11_most at h
  refine g_aload_n (pc := 0) dX11_most_0 rfl 0 rfl ?_
  refine g_getR (pc := 1) wfX11_19 rfl rfl dX11_most_1 ?_
  obtain ⟨r52, σ51, h50, h⟩ := g_bId h
  refine g_callVi (pc := 4) (st := []) hE.1 wvX11_181 rfl rfl (kX6_present hE σ h50) rfl (gR_ok (by decide) (by decide)) (Nat.le_of_ble_eq_true rfl) rfl dX11_most_4 ?_
  refine g_if_ne (pc := 7) (tgt := 14) dX11_most_7 (by decide) (fun c53 => ?_) (fun c53 => ?_)
  · have h := g_iff c53 h
    refine g_aload_n (pc := 14) dX11_most_14 rfl 0 rfl ?_
    refine g_getR (pc := 15) wfX11_35 rfl rfl dX11_most_15 ?_
    refine g_getR (pc := 18) wfX11_137 (sX_shelf (i := 0) (by decide)) rfl dX11_most_18 ?_
    refine g_astore_n (pc := 21) (lv1 := [(2, .ref (10 + 5 * 0)), (0, .ref 0), (1, .int v1)]) dX11_most_21 rfl (by decide) rfl ?_
    refine g_iload_n (pc := 22) dX11_most_22 rfl 2 rfl ?_
    by_cases c54 : v1 = 0
    · have h := g_ift c54 h
      refine g_tabIn (pc := 23) (tgt := 80) (off := 57) dX11_most_23 (by rw [c54]; decide) (by rw [c54]; decide) (by rw [c54]; decide) (by decide) ?_
      refine g_aload_n (pc := 80) dX11_most_80 rfl 0 rfl ?_
      refine g_bipush (pc := 81) (v := 112) dX11_most_81 (by decide) ?_
      obtain ⟨r57, σ56, h55, h⟩ := g_bId h
      refine g_callVi (pc := 83) (st := []) hE.1 wvX11_358 (sX_state (i := 0) (by decide)) rfl (kX9_sumOfDisks hE n 0 (by decide) 112 σ51 h55) rfl (gR_ok (by decide) (by decide)) (Nat.le_of_ble_eq_true rfl) rfl dX11_most_83 ?_
      cases h
      exact g_iret (pc := 86) rfl rfl rfl rfl dX11_most_86
    have h := g_iff c54 h
    by_cases c58 : v1 = 1
    · have h := g_ift c58 h
      refine g_tabIn (pc := 23) (tgt := 87) (off := 64) dX11_most_23 (by rw [c58]; decide) (by rw [c58]; decide) (by rw [c58]; decide) (by decide) ?_
      refine g_aload_n (pc := 87) dX11_most_87 rfl 0 rfl ?_
      refine g_bipush (pc := 88) (v := 120) dX11_most_88 (by decide) ?_
      obtain ⟨r61, σ60, h59, h⟩ := g_bId h
      refine g_callVi (pc := 90) (st := []) hE.1 wvX11_358 (sX_state (i := 0) (by decide)) rfl (kX9_sumOfDisks hE n 0 (by decide) 120 σ51 h59) rfl (gR_ok (by decide) (by decide)) (Nat.le_of_ble_eq_true rfl) rfl dX11_most_90 ?_
      cases h
      exact g_iret (pc := 93) rfl rfl rfl rfl dX11_most_93
    have h := g_iff c58 h
    by_cases c62 : v1 = 2
    · have h := g_ift c62 h
      refine g_tabIn (pc := 23) (tgt := 94) (off := 71) dX11_most_23 (by rw [c62]; decide) (by rw [c62]; decide) (by rw [c62]; decide) (by decide) ?_
      refine g_aload_n (pc := 94) dX11_most_94 rfl 0 rfl ?_
      refine g_sipush (pc := 95) (v := 128) dX11_most_95 (by decide) ?_
      obtain ⟨r65, σ64, h63, h⟩ := g_bId h
      refine g_callVi (pc := 98) (st := []) hE.1 wvX11_358 (sX_state (i := 0) (by decide)) rfl (kX9_sumOfDisks hE n 0 (by decide) 128 σ51 h63) rfl (gR_ok (by decide) (by decide)) (Nat.le_of_ble_eq_true rfl) rfl dX11_most_98 ?_
      cases h
      exact g_iret (pc := 101) rfl rfl rfl rfl dX11_most_101
    have h := g_iff c62 h
    by_cases c66 : v1 = 3
    · have h := g_ift c66 h
      refine g_tabIn (pc := 23) (tgt := 102) (off := 79) dX11_most_23 (by rw [c66]; decide) (by rw [c66]; decide) (by rw [c66]; decide) (by decide) ?_
      refine g_aload_n (pc := 102) dX11_most_102 rfl 0 rfl ?_
      refine g_sipush (pc := 103) (v := 137) dX11_most_103 (by decide) ?_
      obtain ⟨r69, σ68, h67, h⟩ := g_bId h
      refine g_callVi (pc := 106) (st := []) hE.1 wvX11_194 (sX_state (i := 0) (by decide)) rfl (kX9_get hE 0 (by decide) 137 σ51 h67) rfl (gR_ok (by decide) (by decide)) (Nat.le_of_ble_eq_true rfl) rfl dX11_most_106 ?_
      cases h
      exact g_iret (pc := 109) rfl rfl rfl rfl dX11_most_109
    have h := g_iff c66 h
    by_cases c70 : v1 = 4
    · have h := g_ift c70 h
      refine g_tabIn (pc := 23) (tgt := 110) (off := 87) dX11_most_23 (by rw [c70]; decide) (by rw [c70]; decide) (by rw [c70]; decide) (by decide) ?_
      refine g_aload_n (pc := 110) dX11_most_110 rfl 0 rfl ?_
      refine g_sipush (pc := 111) (v := 138) dX11_most_111 (by decide) ?_
      obtain ⟨r73, σ72, h71, h⟩ := g_bId h
      refine g_callVi (pc := 114) (st := []) hE.1 wvX11_194 (sX_state (i := 0) (by decide)) rfl (kX9_get hE 0 (by decide) 138 σ51 h71) rfl (gR_ok (by decide) (by decide)) (Nat.le_of_ble_eq_true rfl) rfl dX11_most_114 ?_
      cases h
      exact g_iret (pc := 117) rfl rfl rfl rfl dX11_most_117
    have h := g_iff c70 h
    by_cases c74 : v1 = 5
    · have h := g_ift c74 h
      refine g_tabIn (pc := 23) (tgt := 118) (off := 95) dX11_most_23 (by rw [c74]; decide) (by rw [c74]; decide) (by rw [c74]; decide) (by decide) ?_
      refine g_aload_n (pc := 118) dX11_most_118 rfl 0 rfl ?_
      refine g_sipush (pc := 119) (v := 139) dX11_most_119 (by decide) ?_
      obtain ⟨r77, σ76, h75, h⟩ := g_bId h
      refine g_callVi (pc := 122) (st := []) hE.1 wvX11_194 (sX_state (i := 0) (by decide)) rfl (kX9_get hE 0 (by decide) 139 σ51 h75) rfl (gR_ok (by decide) (by decide)) (Nat.le_of_ble_eq_true rfl) rfl dX11_most_122 ?_
      cases h
      exact g_iret (pc := 125) rfl rfl rfl rfl dX11_most_125
    have h := g_iff c74 h
    by_cases c78 : v1 = 6
    · have h := g_ift c78 h
      refine g_tabIn (pc := 23) (tgt := 126) (off := 103) dX11_most_23 (by rw [c78]; decide) (by rw [c78]; decide) (by rw [c78]; decide) (by decide) ?_
      refine g_aload_n (pc := 126) dX11_most_126 rfl 0 rfl ?_
      refine g_sipush (pc := 127) (v := 140) dX11_most_127 (by decide) ?_
      obtain ⟨r81, σ80, h79, h⟩ := g_bId h
      refine g_callVi (pc := 130) (st := []) hE.1 wvX11_194 (sX_state (i := 0) (by decide)) rfl (kX9_get hE 0 (by decide) 140 σ51 h79) rfl (gR_ok (by decide) (by decide)) (Nat.le_of_ble_eq_true rfl) rfl dX11_most_130 ?_
      cases h
      exact g_iret (pc := 133) rfl rfl rfl rfl dX11_most_133
    have h := g_iff c78 h
    by_cases c82 : v1 = 7
    · have h := g_ift c82 h
      refine g_tabIn (pc := 23) (tgt := 134) (off := 111) dX11_most_23 (by rw [c82]; decide) (by rw [c82]; decide) (by rw [c82]; decide) (by decide) ?_
      refine g_aload_n (pc := 134) dX11_most_134 rfl 1 rfl ?_
      refine g_getR (pc := 135) wfX11_35 rfl rfl dX11_most_135 ?_
      obtain ⟨r85, σ84, h83, h⟩ := g_bId h
      refine g_callVi (pc := 138) (st := []) hE.1 wvX11_361 (sX_shelf (i := 0) (by decide)) rfl (kX8_notWhole hE n 0 (by decide) σ51 h83) rfl (gR_ok (by decide) (by decide)) (Nat.le_of_ble_eq_true rfl) rfl dX11_most_138 ?_
      cases h
      exact g_iret (pc := 141) rfl rfl rfl rfl dX11_most_141
    have h := g_iff c82 h
    by_cases c86 : v1 = 8
    · have h := g_ift c86 h
      refine g_tabIn (pc := 23) (tgt := 142) (off := 119) dX11_most_23 (by rw [c86]; decide) (by rw [c86]; decide) (by rw [c86]; decide) (by decide) ?_
      refine g_aload_n (pc := 142) dX11_most_142 rfl 0 rfl ?_
      refine g_sipush (pc := 143) (v := 141) dX11_most_143 (by decide) ?_
      obtain ⟨r89, σ88, h87, h⟩ := g_bId h
      refine g_callVi (pc := 146) (st := []) hE.1 wvX11_194 (sX_state (i := 0) (by decide)) rfl (kX9_get hE 0 (by decide) 141 σ51 h87) rfl (gR_ok (by decide) (by decide)) (Nat.le_of_ble_eq_true rfl) rfl dX11_most_146 ?_
      cases h
      exact g_iret (pc := 149) rfl rfl rfl rfl dX11_most_149
    have h := g_iff c86 h
    by_cases c90 : v1 = 9
    · have h := g_ift c90 h
      refine g_tabIn (pc := 23) (tgt := 150) (off := 127) dX11_most_23 (by rw [c90]; decide) (by rw [c90]; decide) (by rw [c90]; decide) (by decide) ?_
      refine g_aload_n (pc := 150) dX11_most_150 rfl 0 rfl ?_
      refine g_sipush (pc := 151) (v := 142) dX11_most_151 (by decide) ?_
      obtain ⟨r93, σ92, h91, h⟩ := g_bId h
      refine g_callVi (pc := 154) (st := []) hE.1 wvX11_194 (sX_state (i := 0) (by decide)) rfl (kX9_get hE 0 (by decide) 142 σ51 h91) rfl (gR_ok (by decide) (by decide)) (Nat.le_of_ble_eq_true rfl) rfl dX11_most_154 ?_
      cases h
      exact g_iret (pc := 157) rfl rfl rfl rfl dX11_most_157
    have h := g_iff c90 h
    by_cases c94 : v1 = 10
    · have h := g_ift c94 h
      refine g_tabIn (pc := 23) (tgt := 158) (off := 135) dX11_most_23 (by rw [c94]; decide) (by rw [c94]; decide) (by rw [c94]; decide) (by decide) ?_
      refine g_aload_n (pc := 158) dX11_most_158 rfl 0 rfl ?_
      refine g_sipush (pc := 159) (v := 143) dX11_most_159 (by decide) ?_
      obtain ⟨r97, σ96, h95, h⟩ := g_bId h
      refine g_callVi (pc := 162) (st := []) hE.1 wvX11_194 (sX_state (i := 0) (by decide)) rfl (kX9_get hE 0 (by decide) 143 σ51 h95) rfl (gR_ok (by decide) (by decide)) (Nat.le_of_ble_eq_true rfl) rfl dX11_most_162 ?_
      cases h
      exact g_iret (pc := 165) rfl rfl rfl rfl dX11_most_165
    have h := g_iff c94 h
    have u98 : (v1).toInt < 0 ∨ 10 < (v1).toInt := by
      have ec54 := g_toInt c54
      have ec58 := g_toInt c58
      have ec62 := g_toInt c62
      have ec66 := g_toInt c66
      have ec70 := g_toInt c70
      have ec74 := g_toInt c74
      have ec78 := g_toInt c78
      have ec82 := g_toInt c82
      have ec86 := g_toInt c86
      have ec90 := g_toInt c90
      have ec94 := g_toInt c94
      rw [show (0 : Int32).toInt = 0 from by decide] at ec54
      rw [show (1 : Int32).toInt = 1 from by decide] at ec58
      rw [show (2 : Int32).toInt = 2 from by decide] at ec62
      rw [show (3 : Int32).toInt = 3 from by decide] at ec66
      rw [show (4 : Int32).toInt = 4 from by decide] at ec70
      rw [show (5 : Int32).toInt = 5 from by decide] at ec74
      rw [show (6 : Int32).toInt = 6 from by decide] at ec78
      rw [show (7 : Int32).toInt = 7 from by decide] at ec82
      rw [show (8 : Int32).toInt = 8 from by decide] at ec86
      rw [show (9 : Int32).toInt = 9 from by decide] at ec90
      rw [show (10 : Int32).toInt = 10 from by decide] at ec94
      omega
    refine g_tabOut (pc := 23) (tgt := 166) dX11_most_23 u98 (by decide) ?_
    refine g_ldcw (pc := 166) wkX11_259 dX11_most_166 ?_
    cases h
    exact g_iret (pc := 169) rfl rfl rfl rfl dX11_most_169
  · have h := g_ift c53 h
    refine g_ldcw (pc := 10) wkX11_259 dX11_most_10 ?_
    cases h
    exact g_iret (pc := 13) rfl rfl rfl rfl dX11_most_13
def fX11_image (n : Nat) (σ : gM) : Option (Int32 × gM) := g_bI (fX6_present σ) (fun r16 σ15 => if r16 = 0 then (some ((-1), σ15)) else (g_bV (fX9_copy 2 0 σ15) (fun σ19 => g_bV (fX3_copy 1 0 σ19) (fun σ21 => g_let (g_put σ21 0 15 1) (fun σ22 => g_bI (fX9_costEver n 0 σ22) (fun r26 σ25 => some (r26, σ25)))))))
set_option maxRecDepth 100000 in
theorem kX11_image (hE : gEX l dC dI ad ca X) (n : Nat)  (σ : gM) {r0 : Int32} {σ' : gM} (h : fX11_image n σ = some (r0, σ')) : g_C l dC dI ad ca shX X yX11_image cX11_image 1 (some .int) (gR 3) [.ref 0] σ (some (.int r0)) σ' := by
  refine g_entry (by decide +kernel) (Nat.le_of_ble_eq_true rfl) ?_
  refine g_lvE (lv1 := [(0, .ref 0)]) rfl ?_
  unfold fX11_image at h
  refine g_aload_n (pc := 0) dX11_image_0 rfl 0 rfl ?_
  refine g_getR (pc := 1) wfX11_19 rfl rfl dX11_image_1 ?_
  obtain ⟨r16, σ15, h14, h⟩ := g_bId h
  refine g_callVi (pc := 4) (st := []) hE.1 wvX11_181 rfl rfl (kX6_present hE σ h14) rfl (gR_ok (by decide) (by decide)) (Nat.le_of_ble_eq_true rfl) rfl dX11_image_4 ?_
  refine g_if_ne (pc := 7) (tgt := 12) dX11_image_7 (by decide) (fun c17 => ?_) (fun c17 => ?_)
  · have h := g_iff c17 h
    refine g_aload_n (pc := 12) dX11_image_12 rfl 0 rfl ?_
    refine g_getR (pc := 13) wfX11_42 rfl rfl dX11_image_13 ?_
    refine g_getR (pc := 16) wfX11_137 (sX_shelf (i := 2) (by decide)) rfl dX11_image_16 ?_
    refine g_aload_n (pc := 19) dX11_image_19 rfl 0 rfl ?_
    refine g_getR (pc := 20) wfX11_35 rfl rfl dX11_image_20 ?_
    refine g_getR (pc := 23) wfX11_137 (sX_shelf (i := 0) (by decide)) rfl dX11_image_23 ?_
    obtain ⟨σ19, h18, h⟩ := g_bVd h
    refine g_callVv (pc := 26) (st := []) hE.1 wvX11_346 (sX_state (i := 2) (by decide)) rfl (kX9_copy hE 2 (by decide) 0 (by decide) σ15 h18) rfl (gR_ok (by decide) (by decide)) (Nat.le_of_ble_eq_true rfl) rfl dX11_image_26 ?_
    refine g_aload_n (pc := 29) dX11_image_29 rfl 0 rfl ?_
    refine g_getR (pc := 30) wfX11_61 rfl rfl dX11_image_30 ?_
    refine g_aload_n (pc := 33) dX11_image_33 rfl 0 rfl ?_
    refine g_getR (pc := 34) wfX11_57 rfl rfl dX11_image_34 ?_
    obtain ⟨σ21, h20, h⟩ := g_bVd h
    refine g_callVv (pc := 37) (st := []) hE.1 wvX11_364 (sX_log (i := 1) (by decide)) rfl (kX3_copy hE 1 (by decide) 0 (by decide) σ19 h20) rfl (gR_ok (by decide) (by decide)) (Nat.le_of_ble_eq_true rfl) rfl dX11_image_37 ?_
    refine g_aload_n (pc := 40) dX11_image_40 rfl 0 rfl ?_
    refine g_iconst (pc := 41) (v := 1) dX11_image_41 (by decide) ?_
    obtain ⟨σ22, e23, h⟩ := g_ltd h
    refine g_putI (pc := 42) wfX11_95 rfl rfl (by decide) (by decide) e23 dX11_image_42 ?_
    refine g_aload_n (pc := 45) dX11_image_45 rfl 0 rfl ?_
    refine g_getR (pc := 46) wfX11_35 rfl rfl dX11_image_46 ?_
    refine g_getR (pc := 49) wfX11_137 (sX_shelf (i := 0) (by decide)) rfl dX11_image_49 ?_
    obtain ⟨r26, σ25, h24, h⟩ := g_bId h
    refine g_callVi (pc := 52) (st := []) hE.1 wvX11_276 (sX_state (i := 0) (by decide)) rfl (kX9_costEver hE n 0 (by decide) σ22 h24) rfl (gR_ok (by decide) (by decide)) (Nat.le_of_ble_eq_true rfl) rfl dX11_image_52 ?_
    cases h
    exact g_iret (pc := 55) rfl rfl rfl rfl dX11_image_55
  · have h := g_ift c17 h
    refine g_iconst (pc := 10) (v := (-1)) dX11_image_10 (by decide) ?_
    cases h
    exact g_iret (pc := 11) rfl rfl rfl rfl dX11_image_11
def fX11_back (n : Nat) (σ : gM) : Option (Int32 × gM) := if (σ.1 0 15) = 0 then (some ((-1), σ)) else (g_bV (fX9_copy 0 2 σ) (fun σ13 => g_bV (fX3_copy 0 1 σ13) (fun σ15 => g_bV (fX2_forget σ15) (fun σ17 => g_bI (fX9_costEver n 0 σ17) (fun r20 σ19 => some (r20, σ19))))))
set_option maxRecDepth 100000 in
theorem kX11_back (hE : gEX l dC dI ad ca X) (n : Nat)  (σ : gM) {r0 : Int32} {σ' : gM} (h : fX11_back n σ = some (r0, σ')) : g_C l dC dI ad ca shX X yX11_back cX11_back 1 (some .int) (gR 3) [.ref 0] σ (some (.int r0)) σ' := by
  refine g_entry (by decide +kernel) (Nat.le_of_ble_eq_true rfl) ?_
  refine g_lvE (lv1 := [(0, .ref 0)]) rfl ?_
  unfold fX11_back at h
  refine g_aload_n (pc := 0) dX11_back_0 rfl 0 rfl ?_
  refine g_getI (pc := 1) wfX11_95 rfl rfl dX11_back_1 ?_
  refine g_if_ne (pc := 4) (tgt := 9) dX11_back_4 (by decide) (fun c11 => ?_) (fun c11 => ?_)
  · have h := g_iff c11 h
    refine g_aload_n (pc := 9) dX11_back_9 rfl 0 rfl ?_
    refine g_getR (pc := 10) wfX11_35 rfl rfl dX11_back_10 ?_
    refine g_getR (pc := 13) wfX11_137 (sX_shelf (i := 0) (by decide)) rfl dX11_back_13 ?_
    refine g_aload_n (pc := 16) dX11_back_16 rfl 0 rfl ?_
    refine g_getR (pc := 17) wfX11_42 rfl rfl dX11_back_17 ?_
    refine g_getR (pc := 20) wfX11_137 (sX_shelf (i := 2) (by decide)) rfl dX11_back_20 ?_
    obtain ⟨σ13, h12, h⟩ := g_bVd h
    refine g_callVv (pc := 23) (st := []) hE.1 wvX11_346 (sX_state (i := 0) (by decide)) rfl (kX9_copy hE 0 (by decide) 2 (by decide) σ h12) rfl (gR_ok (by decide) (by decide)) (Nat.le_of_ble_eq_true rfl) rfl dX11_back_23 ?_
    refine g_aload_n (pc := 26) dX11_back_26 rfl 0 rfl ?_
    refine g_getR (pc := 27) wfX11_57 rfl rfl dX11_back_27 ?_
    refine g_aload_n (pc := 30) dX11_back_30 rfl 0 rfl ?_
    refine g_getR (pc := 31) wfX11_61 rfl rfl dX11_back_31 ?_
    obtain ⟨σ15, h14, h⟩ := g_bVd h
    refine g_callVv (pc := 34) (st := []) hE.1 wvX11_364 (sX_log (i := 0) (by decide)) rfl (kX3_copy hE 0 (by decide) 1 (by decide) σ13 h14) rfl (gR_ok (by decide) (by decide)) (Nat.le_of_ble_eq_true rfl) rfl dX11_back_34 ?_
    refine g_aload_n (pc := 37) dX11_back_37 rfl 0 rfl ?_
    refine g_getR (pc := 38) wfX11_67 rfl rfl dX11_back_38 ?_
    obtain ⟨σ17, h16, h⟩ := g_bVd h
    refine g_callVv (pc := 41) (st := []) hE.1 wvX11_166 rfl rfl (kX2_forget hE σ15 h16) rfl (gR_ok (by decide) (by decide)) (Nat.le_of_ble_eq_true rfl) rfl dX11_back_41 ?_
    refine g_aload_n (pc := 44) dX11_back_44 rfl 0 rfl ?_
    refine g_getR (pc := 45) wfX11_35 rfl rfl dX11_back_45 ?_
    refine g_getR (pc := 48) wfX11_137 (sX_shelf (i := 0) (by decide)) rfl dX11_back_48 ?_
    obtain ⟨r20, σ19, h18, h⟩ := g_bId h
    refine g_callVi (pc := 51) (st := []) hE.1 wvX11_276 (sX_state (i := 0) (by decide)) rfl (kX9_costEver hE n 0 (by decide) σ17 h18) rfl (gR_ok (by decide) (by decide)) (Nat.le_of_ble_eq_true rfl) rfl dX11_back_51 ?_
    cases h
    exact g_iret (pc := 54) rfl rfl rfl rfl dX11_back_54
  · have h := g_ift c11 h
    refine g_iconst (pc := 7) (v := (-1)) dX11_back_7 (by decide) ?_
    cases h
    exact g_iret (pc := 8) rfl rfl rfl rfl dX11_back_8
def fX11_count (v1 : Int32) (σ : gM) : Option (Int32 × gM) := if v1 = 0 then (g_bI (fX6_addresses σ) (fun r22 σ21 => some (r22, σ21))) else (if v1 = 1 then (some (σ.1 0 13, σ)) else (if v1 = 2 then (g_bI (fX10_size σ) (fun r27 σ26 => some (r27, σ26))) else (if v1 = 3 then (g_bI (fX3_length 0 σ) (fun r31 σ30 => some (r31, σ30))) else (if v1 = 4 then (g_bI (fX2_size σ) (fun r35 σ34 => some (r35, σ34))) else (some ((-1000000), σ))))))
set_option maxRecDepth 100000 in
theorem kX11_count (hE : gEX l dC dI ad ca X)  (v1 : Int32) (σ : gM) {r0 : Int32} {σ' : gM} (h : fX11_count v1 σ = some (r0, σ')) : g_C l dC dI ad ca shX X yX11_count cX11_count 2 (some .int) (gR 2) [.ref 0, .int v1] σ (some (.int r0)) σ' := by
  refine g_entry (by decide +kernel) (Nat.le_of_ble_eq_true rfl) ?_
  refine g_lvE (lv1 := [(0, .ref 0), (1, .int v1)]) rfl ?_
  unfold fX11_count at h
  refine g_iload_n (pc := 0) dX11_count_0 rfl 1 rfl ?_
  by_cases c19 : v1 = 0
  · have h := g_ift c19 h
    refine g_tabIn (pc := 1) (tgt := 36) (off := 35) dX11_count_1 (by rw [c19]; decide) (by rw [c19]; decide) (by rw [c19]; decide) (by decide) ?_
    refine g_aload_n (pc := 36) dX11_count_36 rfl 0 rfl ?_
    refine g_getR (pc := 37) wfX11_19 rfl rfl dX11_count_37 ?_
    obtain ⟨r22, σ21, h20, h⟩ := g_bId h
    refine g_callVi (pc := 40) (st := []) hE.1 wvX11_170 rfl rfl (kX6_addresses hE σ h20) rfl (gR_ok (by decide) (by decide)) (Nat.le_of_ble_eq_true rfl) rfl dX11_count_40 ?_
    cases h
    exact g_iret (pc := 43) rfl rfl rfl rfl dX11_count_43
  have h := g_iff c19 h
  by_cases c23 : v1 = 1
  · have h := g_ift c23 h
    refine g_tabIn (pc := 1) (tgt := 44) (off := 43) dX11_count_1 (by rw [c23]; decide) (by rw [c23]; decide) (by rw [c23]; decide) (by decide) ?_
    refine g_aload_n (pc := 44) dX11_count_44 rfl 0 rfl ?_
    refine g_getI (pc := 45) wfX11_88 rfl rfl dX11_count_45 ?_
    cases h
    exact g_iret (pc := 48) rfl rfl rfl rfl dX11_count_48
  have h := g_iff c23 h
  by_cases c24 : v1 = 2
  · have h := g_ift c24 h
    refine g_tabIn (pc := 1) (tgt := 49) (off := 48) dX11_count_1 (by rw [c24]; decide) (by rw [c24]; decide) (by rw [c24]; decide) (by decide) ?_
    refine g_aload_n (pc := 49) dX11_count_49 rfl 0 rfl ?_
    refine g_getR (pc := 50) wfX11_10 rfl rfl dX11_count_50 ?_
    obtain ⟨r27, σ26, h25, h⟩ := g_bId h
    refine g_callVi (pc := 53) (st := []) hE.1 wvX11_104 rfl rfl (kX10_size hE σ h25) rfl (gR_ok (by decide) (by decide)) (Nat.le_of_ble_eq_true rfl) rfl dX11_count_53 ?_
    cases h
    exact g_iret (pc := 56) rfl rfl rfl rfl dX11_count_56
  have h := g_iff c24 h
  by_cases c28 : v1 = 3
  · have h := g_ift c28 h
    refine g_tabIn (pc := 1) (tgt := 57) (off := 56) dX11_count_1 (by rw [c28]; decide) (by rw [c28]; decide) (by rw [c28]; decide) (by decide) ?_
    refine g_aload_n (pc := 57) dX11_count_57 rfl 0 rfl ?_
    refine g_getR (pc := 58) wfX11_57 rfl rfl dX11_count_58 ?_
    obtain ⟨r31, σ30, h29, h⟩ := g_bId h
    refine g_callVi (pc := 61) (st := []) hE.1 wvX11_367 (sX_log (i := 0) (by decide)) rfl (kX3_length hE 0 (by decide) σ h29) rfl (gR_ok (by decide) (by decide)) (Nat.le_of_ble_eq_true rfl) rfl dX11_count_61 ?_
    cases h
    exact g_iret (pc := 64) rfl rfl rfl rfl dX11_count_64
  have h := g_iff c28 h
  by_cases c32 : v1 = 4
  · have h := g_ift c32 h
    refine g_tabIn (pc := 1) (tgt := 65) (off := 64) dX11_count_1 (by rw [c32]; decide) (by rw [c32]; decide) (by rw [c32]; decide) (by decide) ?_
    refine g_aload_n (pc := 65) dX11_count_65 rfl 0 rfl ?_
    refine g_getR (pc := 66) wfX11_67 rfl rfl dX11_count_66 ?_
    obtain ⟨r35, σ34, h33, h⟩ := g_bId h
    refine g_callVi (pc := 69) (st := []) hE.1 wvX11_289 rfl rfl (kX2_size hE σ h33) rfl (gR_ok (by decide) (by decide)) (Nat.le_of_ble_eq_true rfl) rfl dX11_count_69 ?_
    cases h
    exact g_iret (pc := 72) rfl rfl rfl rfl dX11_count_72
  have h := g_iff c32 h
  have u36 : (v1).toInt < 0 ∨ 4 < (v1).toInt := by
    have ec19 := g_toInt c19
    have ec23 := g_toInt c23
    have ec24 := g_toInt c24
    have ec28 := g_toInt c28
    have ec32 := g_toInt c32
    rw [show (0 : Int32).toInt = 0 from by decide] at ec19
    rw [show (1 : Int32).toInt = 1 from by decide] at ec23
    rw [show (2 : Int32).toInt = 2 from by decide] at ec24
    rw [show (3 : Int32).toInt = 3 from by decide] at ec28
    rw [show (4 : Int32).toInt = 4 from by decide] at ec32
    omega
  refine g_tabOut (pc := 1) (tgt := 73) dX11_count_1 u36 (by decide) ?_
  refine g_ldcw (pc := 73) wkX11_259 dX11_count_73 ?_
  cases h
  exact g_iret (pc := 76) rfl rfl rfl rfl dX11_count_76
end WKX5
