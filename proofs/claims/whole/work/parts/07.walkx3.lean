section WKX3
variable {l : Launch} {dC : Nat → ClassId} {dI : Nat → Nat → Nat} {ad : Nat → Nat} {ca : Nat → ClassId} {X : (Nat → Prop) → State → Heap → Prop}

def fX6_present (σ : gM) : Option (Int32 × gM) := if (σ.1 5 5) ≤ 0 then (some (0, σ)) else (some (1, σ))
set_option maxRecDepth 100000 in
theorem kX6_present (hE : gEX l dC dI ad ca X)  (σ : gM) {r0 : Int32} {σ' : gM} (h : fX6_present σ = some (r0, σ')) : g_C l dC dI ad ca shX X yX6_present cX6_present 1 (some .boolean) (gR 0) [.ref 5] σ (some (.int r0)) σ' := by
  refine g_entry (by decide +kernel) (Nat.le_of_ble_eq_true rfl) ?_
  refine g_lvE (lv1 := [(0, .ref 5)]) rfl ?_
  unfold fX6_present at h
  refine g_aload_n (pc := 0) dX6_present_0 rfl 0 rfl ?_
  refine g_getI (pc := 1) wfX6_25 rfl rfl dX6_present_1 ?_
  refine g_if_le (pc := 4) (tgt := 11) dX6_present_4 (by decide) (fun c2 => ?_) (fun c2 => ?_)
  · have h := g_ift c2 h
    refine g_iconst (pc := 11) (v := 0) dX6_present_11 (by decide) ?_
    cases h
    exact g_iret (pc := 12) rfl (by decide) rfl rfl dX6_present_12
  · have h := g_iff c2 h
    refine g_iconst (pc := 7) (v := 1) dX6_present_7 (by decide) ?_
    refine g_goto (pc := 8) (tgt := 12) dX6_present_8 (by decide) ?_
    cases h
    exact g_iret (pc := 12) rfl (by decide) rfl rfl dX6_present_12
def fX6_isAddress (v1 : Int32) (σ : gM) : Option (Int32 × gM) := if v1 < 0 then (some (0, σ)) else (g_bI (fX6_addresses σ) (fun r9 σ8 => if r9 ≤ v1 then (some (0, σ8)) else (some (1, σ8))))
set_option maxRecDepth 100000 in
theorem kX6_isAddress (hE : gEX l dC dI ad ca X)  (v1 : Int32) (σ : gM) {r0 : Int32} {σ' : gM} (h : fX6_isAddress v1 σ = some (r0, σ')) : g_C l dC dI ad ca shX X yX6_isAddress cX6_isAddress 2 (some .boolean) (gR 1) [.ref 5, .int v1] σ (some (.int r0)) σ' := by
  refine g_entry (by decide +kernel) (Nat.le_of_ble_eq_true rfl) ?_
  refine g_lvE (lv1 := [(0, .ref 5), (1, .int v1)]) rfl ?_
  unfold fX6_isAddress at h
  refine g_iload_n (pc := 0) dX6_isAddress_0 rfl 1 rfl ?_
  refine g_if_lt (pc := 1) (tgt := 16) dX6_isAddress_1 (by decide) (fun c6 => ?_) (fun c6 => ?_)
  · have h := g_ift c6 h
    refine g_iconst (pc := 16) (v := 0) dX6_isAddress_16 (by decide) ?_
    cases h
    exact g_iret (pc := 17) rfl (by decide) rfl rfl dX6_isAddress_17
  · have h := g_iff c6 h
    refine g_iload_n (pc := 4) dX6_isAddress_4 rfl 1 rfl ?_
    refine g_aload_n (pc := 5) dX6_isAddress_5 rfl 0 rfl ?_
    obtain ⟨r9, σ8, h7, h⟩ := g_bId h
    refine g_callVi (pc := 6) (st := [.int v1]) hE.1 wvX6_46 rfl rfl (kX6_addresses hE σ h7) rfl (gR_ok (by decide) (by decide)) (Nat.le_of_ble_eq_true rfl) rfl dX6_isAddress_6 ?_
    refine g_icmp_ge (pc := 9) (tgt := 16) dX6_isAddress_9 (by decide) (fun c10 => ?_) (fun c10 => ?_)
    · have h := g_ift c10 h
      refine g_iconst (pc := 16) (v := 0) dX6_isAddress_16 (by decide) ?_
      cases h
      exact g_iret (pc := 17) rfl (by decide) rfl rfl dX6_isAddress_17
    · have h := g_iff c10 h
      refine g_iconst (pc := 12) (v := 1) dX6_isAddress_12 (by decide) ?_
      refine g_goto (pc := 13) (tgt := 17) dX6_isAddress_13 (by decide) ?_
      cases h
      exact g_iret (pc := 17) rfl (by decide) rfl rfl dX6_isAddress_17
def fX6_isDisk (v1 : Int32) (σ : gM) : Option (Int32 × gM) := if v1 < 0 then (some (0, σ)) else (if (σ.1 5 5) ≤ v1 then (some (0, σ)) else (some (1, σ)))
set_option maxRecDepth 100000 in
theorem kX6_isDisk (hE : gEX l dC dI ad ca X)  (v1 : Int32) (σ : gM) {r0 : Int32} {σ' : gM} (h : fX6_isDisk v1 σ = some (r0, σ')) : g_C l dC dI ad ca shX X yX6_isDisk cX6_isDisk 2 (some .boolean) (gR 0) [.ref 5, .int v1] σ (some (.int r0)) σ' := by
  refine g_entry (by decide +kernel) (Nat.le_of_ble_eq_true rfl) ?_
  refine g_lvE (lv1 := [(0, .ref 5), (1, .int v1)]) rfl ?_
  unfold fX6_isDisk at h
  refine g_iload_n (pc := 0) dX6_isDisk_0 rfl 1 rfl ?_
  refine g_if_lt (pc := 1) (tgt := 16) dX6_isDisk_1 (by decide) (fun c3 => ?_) (fun c3 => ?_)
  · have h := g_ift c3 h
    refine g_iconst (pc := 16) (v := 0) dX6_isDisk_16 (by decide) ?_
    cases h
    exact g_iret (pc := 17) rfl (by decide) rfl rfl dX6_isDisk_17
  · have h := g_iff c3 h
    refine g_iload_n (pc := 4) dX6_isDisk_4 rfl 1 rfl ?_
    refine g_aload_n (pc := 5) dX6_isDisk_5 rfl 0 rfl ?_
    refine g_getI (pc := 6) wfX6_25 rfl rfl dX6_isDisk_6 ?_
    refine g_icmp_ge (pc := 9) (tgt := 16) dX6_isDisk_9 (by decide) (fun c4 => ?_) (fun c4 => ?_)
    · have h := g_ift c4 h
      refine g_iconst (pc := 16) (v := 0) dX6_isDisk_16 (by decide) ?_
      cases h
      exact g_iret (pc := 17) rfl (by decide) rfl rfl dX6_isDisk_17
    · have h := g_iff c4 h
      refine g_iconst (pc := 12) (v := 1) dX6_isDisk_12 (by decide) ?_
      refine g_goto (pc := 13) (tgt := 17) dX6_isDisk_13 (by decide) ?_
      cases h
      exact g_iret (pc := 17) rfl (by decide) rfl rfl dX6_isDisk_17
def fX6_isStripe (v1 : Int32) (σ : gM) : Option (Int32 × gM) := if v1 < 0 then (some (0, σ)) else (if (σ.1 5 1) ≤ v1 then (some (0, σ)) else (some (1, σ)))
set_option maxRecDepth 100000 in
theorem kX6_isStripe (hE : gEX l dC dI ad ca X)  (v1 : Int32) (σ : gM) {r0 : Int32} {σ' : gM} (h : fX6_isStripe v1 σ = some (r0, σ')) : g_C l dC dI ad ca shX X yX6_isStripe cX6_isStripe 2 (some .boolean) (gR 0) [.ref 5, .int v1] σ (some (.int r0)) σ' := by
  refine g_entry (by decide +kernel) (Nat.le_of_ble_eq_true rfl) ?_
  refine g_lvE (lv1 := [(0, .ref 5), (1, .int v1)]) rfl ?_
  unfold fX6_isStripe at h
  refine g_iload_n (pc := 0) dX6_isStripe_0 rfl 1 rfl ?_
  refine g_if_lt (pc := 1) (tgt := 16) dX6_isStripe_1 (by decide) (fun c3 => ?_) (fun c3 => ?_)
  · have h := g_ift c3 h
    refine g_iconst (pc := 16) (v := 0) dX6_isStripe_16 (by decide) ?_
    cases h
    exact g_iret (pc := 17) rfl (by decide) rfl rfl dX6_isStripe_17
  · have h := g_iff c3 h
    refine g_iload_n (pc := 4) dX6_isStripe_4 rfl 1 rfl ?_
    refine g_aload_n (pc := 5) dX6_isStripe_5 rfl 0 rfl ?_
    refine g_getI (pc := 6) wfX6_13 rfl rfl dX6_isStripe_6 ?_
    refine g_icmp_ge (pc := 9) (tgt := 16) dX6_isStripe_9 (by decide) (fun c4 => ?_) (fun c4 => ?_)
    · have h := g_ift c4 h
      refine g_iconst (pc := 16) (v := 0) dX6_isStripe_16 (by decide) ?_
      cases h
      exact g_iret (pc := 17) rfl (by decide) rfl rfl dX6_isStripe_17
    · have h := g_iff c4 h
      refine g_iconst (pc := 12) (v := 1) dX6_isStripe_12 (by decide) ?_
      refine g_goto (pc := 13) (tgt := 17) dX6_isStripe_13 (by decide) ?_
      cases h
      exact g_iret (pc := 17) rfl (by decide) rfl rfl dX6_isStripe_17
def fX6_isByteOfChunk (v1 : Int32) (σ : gM) : Option (Int32 × gM) := if v1 < 0 then (some (0, σ)) else (if (σ.1 5 2) ≤ v1 then (some (0, σ)) else (some (1, σ)))
set_option maxRecDepth 100000 in
theorem kX6_isByteOfChunk (hE : gEX l dC dI ad ca X)  (v1 : Int32) (σ : gM) {r0 : Int32} {σ' : gM} (h : fX6_isByteOfChunk v1 σ = some (r0, σ')) : g_C l dC dI ad ca shX X yX6_isByteOfChunk cX6_isByteOfChunk 2 (some .boolean) (gR 0) [.ref 5, .int v1] σ (some (.int r0)) σ' := by
  refine g_entry (by decide +kernel) (Nat.le_of_ble_eq_true rfl) ?_
  refine g_lvE (lv1 := [(0, .ref 5), (1, .int v1)]) rfl ?_
  unfold fX6_isByteOfChunk at h
  refine g_iload_n (pc := 0) dX6_isByteOfChunk_0 rfl 1 rfl ?_
  refine g_if_lt (pc := 1) (tgt := 16) dX6_isByteOfChunk_1 (by decide) (fun c3 => ?_) (fun c3 => ?_)
  · have h := g_ift c3 h
    refine g_iconst (pc := 16) (v := 0) dX6_isByteOfChunk_16 (by decide) ?_
    cases h
    exact g_iret (pc := 17) rfl (by decide) rfl rfl dX6_isByteOfChunk_17
  · have h := g_iff c3 h
    refine g_iload_n (pc := 4) dX6_isByteOfChunk_4 rfl 1 rfl ?_
    refine g_aload_n (pc := 5) dX6_isByteOfChunk_5 rfl 0 rfl ?_
    refine g_getI (pc := 6) wfX6_16 rfl rfl dX6_isByteOfChunk_6 ?_
    refine g_icmp_ge (pc := 9) (tgt := 16) dX6_isByteOfChunk_9 (by decide) (fun c4 => ?_) (fun c4 => ?_)
    · have h := g_ift c4 h
      refine g_iconst (pc := 16) (v := 0) dX6_isByteOfChunk_16 (by decide) ?_
      cases h
      exact g_iret (pc := 17) rfl (by decide) rfl rfl dX6_isByteOfChunk_17
    · have h := g_iff c4 h
      refine g_iconst (pc := 12) (v := 1) dX6_isByteOfChunk_12 (by decide) ?_
      refine g_goto (pc := 13) (tgt := 17) dX6_isByteOfChunk_13 (by decide) ?_
      cases h
      exact g_iret (pc := 17) rfl (by decide) rfl rfl dX6_isByteOfChunk_17
def fX6_isCell (v1 : Int32) (v2 : Int32) (v3 : Int32) (σ : gM) : Option (Int32 × gM) := g_bI (fX6_isDisk v1 σ) (fun r15 σ14 => if r15 = 0 then (some (0, σ14)) else (g_bI (fX6_isStripe v2 σ14) (fun r19 σ18 => if r19 = 0 then (some (0, σ18)) else (g_bI (fX6_isByteOfChunk v3 σ18) (fun r23 σ22 => if r23 = 0 then (some (0, σ22)) else (some (1, σ22)))))))
set_option maxRecDepth 100000 in
theorem kX6_isCell (hE : gEX l dC dI ad ca X)  (v1 : Int32) (v2 : Int32) (v3 : Int32) (σ : gM) {r0 : Int32} {σ' : gM} (h : fX6_isCell v1 v2 v3 σ = some (r0, σ')) : g_C l dC dI ad ca shX X yX6_isCell cX6_isCell 4 (some .boolean) (gR 1) [.ref 5, .int v1, .int v2, .int v3] σ (some (.int r0)) σ' := by
  refine g_entry (by decide +kernel) (Nat.le_of_ble_eq_true rfl) ?_
  refine g_lvE (lv1 := [(0, .ref 5), (1, .int v1), (2, .int v2), (3, .int v3)]) rfl ?_
  unfold fX6_isCell at h
  refine g_aload_n (pc := 0) dX6_isCell_0 rfl 0 rfl ?_
  refine g_iload_n (pc := 1) dX6_isCell_1 rfl 1 rfl ?_
  obtain ⟨r15, σ14, h13, h⟩ := g_bId h
  refine g_callVi (pc := 2) (st := []) hE.1 wvX6_50 rfl rfl (kX6_isDisk hE v1 σ h13) rfl (gR_ok (by decide) (by decide)) (Nat.le_of_ble_eq_true rfl) rfl dX6_isCell_2 ?_
  refine g_if_eq (pc := 5) (tgt := 28) dX6_isCell_5 (by decide) (fun c16 => ?_) (fun c16 => ?_)
  · have h := g_ift c16 h
    refine g_iconst (pc := 28) (v := 0) dX6_isCell_28 (by decide) ?_
    cases h
    exact g_iret (pc := 29) rfl (by decide) rfl rfl dX6_isCell_29
  · have h := g_iff c16 h
    refine g_aload_n (pc := 8) dX6_isCell_8 rfl 0 rfl ?_
    refine g_iload_n (pc := 9) dX6_isCell_9 rfl 2 rfl ?_
    obtain ⟨r19, σ18, h17, h⟩ := g_bId h
    refine g_callVi (pc := 10) (st := []) hE.1 wvX6_54 rfl rfl (kX6_isStripe hE v2 σ14 h17) rfl (gR_ok (by decide) (by decide)) (Nat.le_of_ble_eq_true rfl) rfl dX6_isCell_10 ?_
    refine g_if_eq (pc := 13) (tgt := 28) dX6_isCell_13 (by decide) (fun c20 => ?_) (fun c20 => ?_)
    · have h := g_ift c20 h
      refine g_iconst (pc := 28) (v := 0) dX6_isCell_28 (by decide) ?_
      cases h
      exact g_iret (pc := 29) rfl (by decide) rfl rfl dX6_isCell_29
    · have h := g_iff c20 h
      refine g_aload_n (pc := 16) dX6_isCell_16 rfl 0 rfl ?_
      refine g_iload_n (pc := 17) dX6_isCell_17 rfl 3 rfl ?_
      obtain ⟨r23, σ22, h21, h⟩ := g_bId h
      refine g_callVi (pc := 18) (st := []) hE.1 wvX6_57 rfl rfl (kX6_isByteOfChunk hE v3 σ18 h21) rfl (gR_ok (by decide) (by decide)) (Nat.le_of_ble_eq_true rfl) rfl dX6_isCell_18 ?_
      refine g_if_eq (pc := 21) (tgt := 28) dX6_isCell_21 (by decide) (fun c24 => ?_) (fun c24 => ?_)
      · have h := g_ift c24 h
        refine g_iconst (pc := 28) (v := 0) dX6_isCell_28 (by decide) ?_
        cases h
        exact g_iret (pc := 29) rfl (by decide) rfl rfl dX6_isCell_29
      · have h := g_iff c24 h
        refine g_iconst (pc := 24) (v := 1) dX6_isCell_24 (by decide) ?_
        refine g_goto (pc := 25) (tgt := 29) dX6_isCell_25 (by decide) ?_
        cases h
        exact g_iret (pc := 29) rfl (by decide) rfl rfl dX6_isCell_29
def fX7_numbersOf (v0 : Int32) (σ : gM) : Option (Int32 × gM) := if v0 < 0 then (some (0, σ)) else (if 9 ≤ v0 then (some (0, σ)) else (if ¬ (v0 < 0 ∨ 9 ≤ v0.toNatClampNeg) then (some (([2, 1, 1, 2, 1, 4, 3, 0, 4] : List Int32).getD v0.toNatClampNeg 0, σ)) else none))
set_option maxRecDepth 100000 in
theorem kX7_numbersOf (hE : gEX l dC dI ad ca X)  (v0 : Int32) (σ : gM) {r0 : Int32} {σ' : gM} (h : fX7_numbersOf v0 σ = some (r0, σ')) : g_C l dC dI ad ca shX X yX7_numbersOf cX7_numbersOf 1 (some .int) (gR 0) [.int v0] σ (some (.int r0)) σ' := by
  refine g_entry (by decide +kernel) (Nat.le_of_ble_eq_true rfl) ?_
  refine g_lvE (lv1 := [(0, .int v0)]) rfl ?_
  unfold fX7_numbersOf at h
  refine g_iload_n (pc := 0) dX7_numbersOf_0 rfl 0 rfl ?_
  refine g_if_lt (pc := 1) (tgt := 20) dX7_numbersOf_1 (by decide) (fun c4 => ?_) (fun c4 => ?_)
  · have h := g_ift c4 h
    refine g_iconst (pc := 20) (v := 0) dX7_numbersOf_20 (by decide) ?_
    cases h
    exact g_iret (pc := 21) rfl rfl rfl rfl dX7_numbersOf_21
  · have h := g_iff c4 h
    refine g_iload_n (pc := 4) dX7_numbersOf_4 rfl 0 rfl ?_
    refine g_gets (pc := 5) (xzA hE 3 rfl) wgX7_22 dX7_numbersOf_5 ?_
    refine g_tlen (pc := 8) (xtA hE 3 rfl) dX7_numbersOf_8 ?_
    refine g_icmp_ge (pc := 9) (tgt := 20) dX7_numbersOf_9 (by decide) (fun c5 => ?_) (fun c5 => ?_)
    · have h := g_ift c5 h
      refine g_iconst (pc := 20) (v := 0) dX7_numbersOf_20 (by decide) ?_
      cases h
      exact g_iret (pc := 21) rfl rfl rfl rfl dX7_numbersOf_21
    · have h := g_iff c5 h
      refine g_gets (pc := 12) (xzA hE 3 rfl) wgX7_22 dX7_numbersOf_12 ?_
      refine g_iload_n (pc := 15) dX7_numbersOf_15 rfl 0 rfl ?_
      obtain ⟨c6, h⟩ := g_gd h
      refine g_ti (pc := 16) (xtA hE 3 rfl) c6 rfl dX7_numbersOf_16 ?_
      refine g_goto (pc := 17) (tgt := 21) dX7_numbersOf_17 (by decide) ?_
      cases h
      exact g_iret (pc := 21) rfl rfl rfl rfl dX7_numbersOf_21
def fX7_size (i : Nat) (σ : gM) : Option (Int32 × gM) := some (σ.1 (35 + 3 * i) 2, σ)
set_option maxRecDepth 100000 in
theorem kX7_size (hE : gEX l dC dI ad ca X) (i : Nat) (hi : i < 5)  (σ : gM) {r0 : Int32} {σ' : gM} (h : fX7_size i σ = some (r0, σ')) : g_C l dC dI ad ca shX X yX7_size cX7_size 1 (some .int) (gR 0) [.ref (35 + 3 * i)] σ (some (.int r0)) σ' := by
  refine g_entry (by decide +kernel) (Nat.le_of_ble_eq_true rfl) ?_
  refine g_lvE (lv1 := [(0, .ref (35 + 3 * i))]) rfl ?_
  unfold fX7_size at h
  refine g_aload_n (pc := 0) dX7_size_0 rfl 0 rfl ?_
  refine g_getI (pc := 1) wfX7_18 (sX_script (i := i) hi) rfl dX7_size_1 ?_
  cases h
  exact g_iret (pc := 4) rfl rfl rfl rfl dX7_size_4
def fX7_clear (i : Nat) (σ : gM) : Option (gM) := g_let (g_put σ (35 + 3 * i) 2 0) (fun σ3 => some σ3)
set_option maxRecDepth 100000 in
theorem kX7_clear (hE : gEX l dC dI ad ca X) (i : Nat) (hi : i < 5)  (σ : gM) {σ' : gM} (h : fX7_clear i σ = some σ') : g_C l dC dI ad ca shX X yX7_clear cX7_clear 1 none (gR 0) [.ref (35 + 3 * i)] σ none σ' := by
  refine g_entry (by decide +kernel) (Nat.le_of_ble_eq_true rfl) ?_
  refine g_lvE (lv1 := [(0, .ref (35 + 3 * i))]) rfl ?_
  unfold fX7_clear at h
  refine g_aload_n (pc := 0) dX7_clear_0 rfl 0 rfl ?_
  refine g_iconst (pc := 1) (v := 0) dX7_clear_1 (by decide) ?_
  obtain ⟨σ3, e4, h⟩ := g_ltd h
  refine g_putI (pc := 2) wfX7_18 (sX_script (i := i) hi) rfl rfl rfl e4 dX7_clear_2 ?_
  cases h
  exact g_vret (pc := 5) rfl rfl rfl dX7_clear_5
def fX7_add (i : Nat) (v1 : Int32) (σ : gM) : Option (gM) := if (σ.1 (35 + 3 * i) 2) < 0 then (some σ) else (if 16 ≤ (σ.1 (35 + 3 * i) 2) then (some σ) else (if ¬ ((σ.1 (35 + 3 * i) 2) < 0 ∨ 16 ≤ (σ.1 (35 + 3 * i) 2).toNatClampNeg) then (g_let (g_put σ (36 + 3 * i) ((σ.1 (35 + 3 * i) 2).toNatClampNeg) v1) (fun σ11 => g_let (g_put σ11 (35 + 3 * i) 2 ((σ11.1 (35 + 3 * i) 2) + 1)) (fun σ13 => some σ13))) else none))
set_option maxRecDepth 100000 in
theorem kX7_add (hE : gEX l dC dI ad ca X) (i : Nat) (hi : i < 5)  (v1 : Int32) (σ : gM) {σ' : gM} (h : fX7_add i v1 σ = some σ') : g_C l dC dI ad ca shX X yX7_add cX7_add 2 none (gR 0) [.ref (35 + 3 * i), .int v1] σ none σ' := by
  refine g_entry (by decide +kernel) (Nat.le_of_ble_eq_true rfl) ?_
  refine g_lvE (lv1 := [(0, .ref (35 + 3 * i)), (1, .int v1)]) rfl ?_
  unfold fX7_add at h
  refine g_aload_n (pc := 0) dX7_add_0 rfl 0 rfl ?_
  refine g_getI (pc := 1) wfX7_18 (sX_script (i := i) hi) rfl dX7_add_1 ?_
  refine g_if_lt (pc := 4) (tgt := 36) dX7_add_4 (by decide) (fun c8 => ?_) (fun c8 => ?_)
  · have h := g_ift c8 h
    cases h
    exact g_vret (pc := 36) rfl rfl rfl dX7_add_36
  · have h := g_iff c8 h
    refine g_aload_n (pc := 7) dX7_add_7 rfl 0 rfl ?_
    refine g_getI (pc := 8) wfX7_18 (sX_script (i := i) hi) rfl dX7_add_8 ?_
    refine g_bipush (pc := 11) (v := 16) dX7_add_11 (by decide) ?_
    refine g_icmp_ge (pc := 13) (tgt := 36) dX7_add_13 (by decide) (fun c9 => ?_) (fun c9 => ?_)
    · have h := g_ift c9 h
      cases h
      exact g_vret (pc := 36) rfl rfl rfl dX7_add_36
    · have h := g_iff c9 h
      refine g_aload_n (pc := 16) dX7_add_16 rfl 0 rfl ?_
      refine g_getR (pc := 17) wfX7_11 (sX_script (i := i) hi) rfl dX7_add_17 ?_
      refine g_aload_n (pc := 20) dX7_add_20 rfl 0 rfl ?_
      refine g_getI (pc := 21) wfX7_18 (sX_script (i := i) hi) rfl dX7_add_21 ?_
      refine g_iload_n (pc := 24) dX7_add_24 rfl 1 rfl ?_
      obtain ⟨c10, h⟩ := g_gd h
      obtain ⟨σ11, e12, h⟩ := g_ltd h
      refine g_iast (pc := 25) (sX_sorts (i := i) hi) c10 rfl e12 dX7_add_25 ?_
      refine g_aload_n (pc := 26) dX7_add_26 rfl 0 rfl ?_
      refine g_dup (pc := 27) dX7_add_27 rfl ?_
      refine g_getI (pc := 28) wfX7_18 (sX_script (i := i) hi) rfl dX7_add_28 ?_
      refine g_iconst (pc := 31) (v := 1) dX7_add_31 (by decide) ?_
      refine g_iadd (pc := 32) dX7_add_32 ?_
      obtain ⟨σ13, e14, h⟩ := g_ltd h
      refine g_putI (pc := 33) wfX7_18 (sX_script (i := i) hi) rfl rfl rfl e14 dX7_add_33 ?_
      cases h
      exact g_vret (pc := 36) rfl rfl rfl dX7_add_36
def fX7_isStep (i : Nat) (v1 : Int32) (σ : gM) : Option (Int32 × gM) := if v1 < 0 then (some (0, σ)) else (if (σ.1 (35 + 3 * i) 2) ≤ v1 then (some (0, σ)) else (if 16 ≤ v1 then (some (0, σ)) else (some (1, σ))))
set_option maxRecDepth 100000 in
theorem kX7_isStep (hE : gEX l dC dI ad ca X) (i : Nat) (hi : i < 5)  (v1 : Int32) (σ : gM) {r0 : Int32} {σ' : gM} (h : fX7_isStep i v1 σ = some (r0, σ')) : g_C l dC dI ad ca shX X yX7_isStep cX7_isStep 2 (some .boolean) (gR 0) [.ref (35 + 3 * i), .int v1] σ (some (.int r0)) σ' := by
  refine g_entry (by decide +kernel) (Nat.le_of_ble_eq_true rfl) ?_
  refine g_lvE (lv1 := [(0, .ref (35 + 3 * i)), (1, .int v1)]) rfl ?_
  unfold fX7_isStep at h
  refine g_iload_n (pc := 0) dX7_isStep_0 rfl 1 rfl ?_
  refine g_if_lt (pc := 1) (tgt := 22) dX7_isStep_1 (by decide) (fun c4 => ?_) (fun c4 => ?_)
  · have h := g_ift c4 h
    refine g_iconst (pc := 22) (v := 0) dX7_isStep_22 (by decide) ?_
    cases h
    exact g_iret (pc := 23) rfl (by decide) rfl rfl dX7_isStep_23
  · have h := g_iff c4 h
    refine g_iload_n (pc := 4) dX7_isStep_4 rfl 1 rfl ?_
    refine g_aload_n (pc := 5) dX7_isStep_5 rfl 0 rfl ?_
    refine g_getI (pc := 6) wfX7_18 (sX_script (i := i) hi) rfl dX7_isStep_6 ?_
    refine g_icmp_ge (pc := 9) (tgt := 22) dX7_isStep_9 (by decide) (fun c5 => ?_) (fun c5 => ?_)
    · have h := g_ift c5 h
      refine g_iconst (pc := 22) (v := 0) dX7_isStep_22 (by decide) ?_
      cases h
      exact g_iret (pc := 23) rfl (by decide) rfl rfl dX7_isStep_23
    · have h := g_iff c5 h
      refine g_iload_n (pc := 12) dX7_isStep_12 rfl 1 rfl ?_
      refine g_bipush (pc := 13) (v := 16) dX7_isStep_13 (by decide) ?_
      refine g_icmp_ge (pc := 15) (tgt := 22) dX7_isStep_15 (by decide) (fun c6 => ?_) (fun c6 => ?_)
      · have h := g_ift c6 h
        refine g_iconst (pc := 22) (v := 0) dX7_isStep_22 (by decide) ?_
        cases h
        exact g_iret (pc := 23) rfl (by decide) rfl rfl dX7_isStep_23
      · have h := g_iff c6 h
        refine g_iconst (pc := 18) (v := 1) dX7_isStep_18 (by decide) ?_
        refine g_goto (pc := 19) (tgt := 23) dX7_isStep_19 (by decide) ?_
        cases h
        exact g_iret (pc := 23) rfl (by decide) rfl rfl dX7_isStep_23
def fX7_put (i : Nat) (v1 : Int32) (v2 : Int32) (v3 : Int32) (σ : gM) : Option (gM) := g_bI (fX7_isStep i v1 σ) (fun r12 σ11 => if r12 = 0 then (some σ11) else (if v2 < 0 then (some σ11) else (if 4 ≤ v2 then (some σ11) else (if ¬ (((4 * v1) + v2) < 0 ∨ 64 ≤ ((4 * v1) + v2).toNatClampNeg) then (g_let (g_put σ11 (37 + 3 * i) (((4 * v1) + v2).toNatClampNeg) v3) (fun σ17 => some σ17)) else none))))
set_option maxRecDepth 100000 in
theorem kX7_put (hE : gEX l dC dI ad ca X) (i : Nat) (hi : i < 5)  (v1 : Int32) (v2 : Int32) (v3 : Int32) (σ : gM) {σ' : gM} (h : fX7_put i v1 v2 v3 σ = some σ') : g_C l dC dI ad ca shX X yX7_put cX7_put 4 none (gR 1) [.ref (35 + 3 * i), .int v1, .int v2, .int v3] σ none σ' := by
  refine g_entry (by decide +kernel) (Nat.le_of_ble_eq_true rfl) ?_
  refine g_lvE (lv1 := [(0, .ref (35 + 3 * i)), (1, .int v1), (2, .int v2), (3, .int v3)]) rfl ?_
  unfold fX7_put at h
  refine g_aload_n (pc := 0) dX7_put_0 rfl 0 rfl ?_
  refine g_iload_n (pc := 1) dX7_put_1 rfl 1 rfl ?_
  obtain ⟨r12, σ11, h10, h⟩ := g_bId h
  refine g_callVi (pc := 2) (st := []) hE.1 wvX7_25 (sX_script (i := i) hi) rfl (kX7_isStep hE i hi v1 σ h10) rfl (gR_ok (by decide) (by decide)) (Nat.le_of_ble_eq_true rfl) rfl dX7_put_2 ?_
  refine g_if_eq (pc := 5) (tgt := 28) dX7_put_5 (by decide) (fun c13 => ?_) (fun c13 => ?_)
  · have h := g_ift c13 h
    cases h
    exact g_vret (pc := 28) rfl rfl rfl dX7_put_28
  · have h := g_iff c13 h
    refine g_iload_n (pc := 8) dX7_put_8 rfl 2 rfl ?_
    refine g_if_lt (pc := 9) (tgt := 28) dX7_put_9 (by decide) (fun c14 => ?_) (fun c14 => ?_)
    · have h := g_ift c14 h
      cases h
      exact g_vret (pc := 28) rfl rfl rfl dX7_put_28
    · have h := g_iff c14 h
      refine g_iload_n (pc := 12) dX7_put_12 rfl 2 rfl ?_
      refine g_iconst (pc := 13) (v := 4) dX7_put_13 (by decide) ?_
      refine g_icmp_ge (pc := 14) (tgt := 28) dX7_put_14 (by decide) (fun c15 => ?_) (fun c15 => ?_)
      · have h := g_ift c15 h
        cases h
        exact g_vret (pc := 28) rfl rfl rfl dX7_put_28
      · have h := g_iff c15 h
        refine g_aload_n (pc := 17) dX7_put_17 rfl 0 rfl ?_
        refine g_getR (pc := 18) wfX7_15 (sX_script (i := i) hi) rfl dX7_put_18 ?_
        refine g_iconst (pc := 21) (v := 4) dX7_put_21 (by decide) ?_
        refine g_iload_n (pc := 22) dX7_put_22 rfl 1 rfl ?_
        refine g_imul (pc := 23) dX7_put_23 ?_
        refine g_iload_n (pc := 24) dX7_put_24 rfl 2 rfl ?_
        refine g_iadd (pc := 25) dX7_put_25 ?_
        refine g_iload_n (pc := 26) dX7_put_26 rfl 3 rfl ?_
        obtain ⟨c16, h⟩ := g_gd h
        obtain ⟨σ17, e18, h⟩ := g_ltd h
        refine g_iast (pc := 27) (sX_nums (i := i) hi) c16 rfl e18 dX7_put_27 ?_
        cases h
        exact g_vret (pc := 28) rfl rfl rfl dX7_put_28
def fX7_sort (i : Nat) (v1 : Int32) (σ : gM) : Option (Int32 × gM) := g_bI (fX7_isStep i v1 σ) (fun r8 σ7 => if r8 = 0 then (some ((-1), σ7)) else (if ¬ (v1 < 0 ∨ 16 ≤ v1.toNatClampNeg) then (some (σ7.1 (36 + 3 * i) v1.toNatClampNeg, σ7)) else none))
set_option maxRecDepth 100000 in
theorem kX7_sort (hE : gEX l dC dI ad ca X) (i : Nat) (hi : i < 5)  (v1 : Int32) (σ : gM) {r0 : Int32} {σ' : gM} (h : fX7_sort i v1 σ = some (r0, σ')) : g_C l dC dI ad ca shX X yX7_sort cX7_sort 2 (some .int) (gR 1) [.ref (35 + 3 * i), .int v1] σ (some (.int r0)) σ' := by
  refine g_entry (by decide +kernel) (Nat.le_of_ble_eq_true rfl) ?_
  refine g_lvE (lv1 := [(0, .ref (35 + 3 * i)), (1, .int v1)]) rfl ?_
  unfold fX7_sort at h
  refine g_aload_n (pc := 0) dX7_sort_0 rfl 0 rfl ?_
  refine g_iload_n (pc := 1) dX7_sort_1 rfl 1 rfl ?_
  obtain ⟨r8, σ7, h6, h⟩ := g_bId h
  refine g_callVi (pc := 2) (st := []) hE.1 wvX7_25 (sX_script (i := i) hi) rfl (kX7_isStep hE i hi v1 σ h6) rfl (gR_ok (by decide) (by decide)) (Nat.le_of_ble_eq_true rfl) rfl dX7_sort_2 ?_
  refine g_if_eq (pc := 5) (tgt := 17) dX7_sort_5 (by decide) (fun c9 => ?_) (fun c9 => ?_)
  · have h := g_ift c9 h
    refine g_iconst (pc := 17) (v := (-1)) dX7_sort_17 (by decide) ?_
    cases h
    exact g_iret (pc := 18) rfl rfl rfl rfl dX7_sort_18
  · have h := g_iff c9 h
    refine g_aload_n (pc := 8) dX7_sort_8 rfl 0 rfl ?_
    refine g_getR (pc := 9) wfX7_11 (sX_script (i := i) hi) rfl dX7_sort_9 ?_
    refine g_iload_n (pc := 12) dX7_sort_12 rfl 1 rfl ?_
    obtain ⟨c10, h⟩ := g_gd h
    refine g_iald (pc := 13) (sX_sorts (i := i) hi) c10 rfl dX7_sort_13 ?_
    refine g_goto (pc := 14) (tgt := 18) dX7_sort_14 (by decide) ?_
    cases h
    exact g_iret (pc := 18) rfl rfl rfl rfl dX7_sort_18
def fX7_number (i : Nat) (v1 : Int32) (v2 : Int32) (σ : gM) : Option (Int32 × gM) := g_bI (fX7_isStep i v1 σ) (fun r10 σ9 => if r10 = 0 then (some (0, σ9)) else (if v2 < 0 then (some (0, σ9)) else (if 4 ≤ v2 then (some (0, σ9)) else (if ¬ (((4 * v1) + v2) < 0 ∨ 64 ≤ ((4 * v1) + v2).toNatClampNeg) then (some (σ9.1 (37 + 3 * i) (((4 * v1) + v2).toNatClampNeg), σ9)) else none))))
set_option maxRecDepth 100000 in
theorem kX7_number (hE : gEX l dC dI ad ca X) (i : Nat) (hi : i < 5)  (v1 : Int32) (v2 : Int32) (σ : gM) {r0 : Int32} {σ' : gM} (h : fX7_number i v1 v2 σ = some (r0, σ')) : g_C l dC dI ad ca shX X yX7_number cX7_number 3 (some .int) (gR 1) [.ref (35 + 3 * i), .int v1, .int v2] σ (some (.int r0)) σ' := by
  refine g_entry (by decide +kernel) (Nat.le_of_ble_eq_true rfl) ?_
  refine g_lvE (lv1 := [(0, .ref (35 + 3 * i)), (1, .int v1), (2, .int v2)]) rfl ?_
  unfold fX7_number at h
  refine g_aload_n (pc := 0) dX7_number_0 rfl 0 rfl ?_
  refine g_iload_n (pc := 1) dX7_number_1 rfl 1 rfl ?_
  obtain ⟨r10, σ9, h8, h⟩ := g_bId h
  refine g_callVi (pc := 2) (st := []) hE.1 wvX7_25 (sX_script (i := i) hi) rfl (kX7_isStep hE i hi v1 σ h8) rfl (gR_ok (by decide) (by decide)) (Nat.le_of_ble_eq_true rfl) rfl dX7_number_2 ?_
  refine g_if_eq (pc := 5) (tgt := 30) dX7_number_5 (by decide) (fun c11 => ?_) (fun c11 => ?_)
  · have h := g_ift c11 h
    refine g_iconst (pc := 30) (v := 0) dX7_number_30 (by decide) ?_
    cases h
    exact g_iret (pc := 31) rfl rfl rfl rfl dX7_number_31
  · have h := g_iff c11 h
    refine g_iload_n (pc := 8) dX7_number_8 rfl 2 rfl ?_
    refine g_if_lt (pc := 9) (tgt := 30) dX7_number_9 (by decide) (fun c12 => ?_) (fun c12 => ?_)
    · have h := g_ift c12 h
      refine g_iconst (pc := 30) (v := 0) dX7_number_30 (by decide) ?_
      cases h
      exact g_iret (pc := 31) rfl rfl rfl rfl dX7_number_31
    · have h := g_iff c12 h
      refine g_iload_n (pc := 12) dX7_number_12 rfl 2 rfl ?_
      refine g_iconst (pc := 13) (v := 4) dX7_number_13 (by decide) ?_
      refine g_icmp_ge (pc := 14) (tgt := 30) dX7_number_14 (by decide) (fun c13 => ?_) (fun c13 => ?_)
      · have h := g_ift c13 h
        refine g_iconst (pc := 30) (v := 0) dX7_number_30 (by decide) ?_
        cases h
        exact g_iret (pc := 31) rfl rfl rfl rfl dX7_number_31
      · have h := g_iff c13 h
        refine g_aload_n (pc := 17) dX7_number_17 rfl 0 rfl ?_
        refine g_getR (pc := 18) wfX7_15 (sX_script (i := i) hi) rfl dX7_number_18 ?_
        refine g_iconst (pc := 21) (v := 4) dX7_number_21 (by decide) ?_
        refine g_iload_n (pc := 22) dX7_number_22 rfl 1 rfl ?_
        refine g_imul (pc := 23) dX7_number_23 ?_
        refine g_iload_n (pc := 24) dX7_number_24 rfl 2 rfl ?_
        refine g_iadd (pc := 25) dX7_number_25 ?_
        obtain ⟨c14, h⟩ := g_gd h
        refine g_iald (pc := 26) (sX_nums (i := i) hi) c14 rfl dX7_number_26 ?_
        refine g_goto (pc := 27) (tgt := 31) dX7_number_27 (by decide) ?_
        cases h
        exact g_iret (pc := 31) rfl rfl rfl rfl dX7_number_31
def fX7_tell_b17 (i : Nat) (σ : gM) : Option (Int32 × gM) := some ((-1000000), σ)
set_option maxRecDepth 100000 in
theorem tX7_tell_b17 (hE : gEX l dC dI ad ca X) {r0 : Int32} {σ' : gM} (i : Nat) (hi : i < 5)  (σ : gM) (h : fX7_tell_b17 i σ = some (r0, σ')) : g_G l dC dI ad ca shX X cX7_tell 3 RX7 (some .int) (gR 1) (some (.int r0)) σ' 17 [] [] σ := by
  unfold fX7_tell_b17 at h
  refine g_ldc (pc := 17) wkX7_29 dX7_tell_17 ?_
  cases h
  exact g_iret (pc := 19) rfl rfl rfl rfl dX7_tell_19
def fX7_tell (i : Nat) (v1 : Int32) (v2 : Int32) (σ : gM) : Option (Int32 × gM) := g_bI (fX7_isStep i v1 σ) (fun r17 σ16 => if r17 = 0 then (fX7_tell_b17 i σ16) else (if v2 < 0 then (fX7_tell_b17 i σ16) else (if v2 ≤ 4 then (if v2 = 0 then (if ¬ (v1 < 0 ∨ 16 ≤ v1.toNatClampNeg) then (some (σ16.1 (36 + 3 * i) v1.toNatClampNeg, σ16)) else none) else (if ¬ (v1 < 0 ∨ 16 ≤ v1.toNatClampNeg) then (g_bI (fX7_numbersOf (σ16.1 (36 + 3 * i) v1.toNatClampNeg) σ16) (fun r25 σ24 => if r25 < v2 then (some ((-1), σ24)) else (if ¬ ((((4 * v1) + v2) - 1) < 0 ∨ 64 ≤ (((4 * v1) + v2) - 1).toNatClampNeg) then (some (σ24.1 (37 + 3 * i) ((((4 * v1) + v2) - 1).toNatClampNeg), σ24)) else none))) else none)) else (fX7_tell_b17 i σ16))))
set_option maxRecDepth 100000 in
theorem kX7_tell (hE : gEX l dC dI ad ca X) (i : Nat) (hi : i < 5)  (v1 : Int32) (v2 : Int32) (σ : gM) {r0 : Int32} {σ' : gM} (h : fX7_tell i v1 v2 σ = some (r0, σ')) : g_C l dC dI ad ca shX X yX7_tell cX7_tell 3 (some .int) (gR 1) [.ref (35 + 3 * i), .int v1, .int v2] σ (some (.int r0)) σ' := by
  refine g_entry (by decide +kernel) (Nat.le_of_ble_eq_true rfl) ?_
  refine g_lvE (lv1 := [(0, .ref (35 + 3 * i)), (1, .int v1), (2, .int v2)]) rfl ?_
  unfold fX7_tell at h
  refine g_aload_n (pc := 0) dX7_tell_0 rfl 0 rfl ?_
  refine g_iload_n (pc := 1) dX7_tell_1 rfl 1 rfl ?_
  obtain ⟨r17, σ16, h15, h⟩ := g_bId h
  refine g_callVi (pc := 2) (st := []) hE.1 wvX7_25 (sX_script (i := i) hi) rfl (kX7_isStep hE i hi v1 σ h15) rfl (gR_ok (by decide) (by decide)) (Nat.le_of_ble_eq_true rfl) rfl dX7_tell_2 ?_
  refine g_if_eq (pc := 5) (tgt := 17) dX7_tell_5 (by decide) (fun c18 => ?_) (fun c18 => ?_)
  · have h := g_ift c18 h
    exact g_lv [] rfl (tX7_tell_b17 hE i hi σ16 h)
  · have h := g_iff c18 h
    refine g_iload_n (pc := 8) dX7_tell_8 rfl 2 rfl ?_
    refine g_if_lt (pc := 9) (tgt := 17) dX7_tell_9 (by decide) (fun c19 => ?_) (fun c19 => ?_)
    · have h := g_ift c19 h
      exact g_lv [] rfl (tX7_tell_b17 hE i hi σ16 h)
    · have h := g_iff c19 h
      refine g_iload_n (pc := 12) dX7_tell_12 rfl 2 rfl ?_
      refine g_iconst (pc := 13) (v := 4) dX7_tell_13 (by decide) ?_
      refine g_icmp_le (pc := 14) (tgt := 20) dX7_tell_14 (by decide) (fun c20 => ?_) (fun c20 => ?_)
      · have h := g_ift c20 h
        refine g_iload_n (pc := 20) dX7_tell_20 rfl 2 rfl ?_
        refine g_if_ne (pc := 21) (tgt := 31) dX7_tell_21 (by decide) (fun c21 => ?_) (fun c21 => ?_)
        · have h := g_iff c21 h
          refine g_iload_n (pc := 31) dX7_tell_31 rfl 2 rfl ?_
          refine g_aload_n (pc := 32) dX7_tell_32 rfl 0 rfl ?_
          refine g_getR (pc := 33) wfX7_11 (sX_script (i := i) hi) rfl dX7_tell_33 ?_
          refine g_iload_n (pc := 36) dX7_tell_36 rfl 1 rfl ?_
          obtain ⟨c22, h⟩ := g_gd h
          refine g_iald (pc := 37) (sX_sorts (i := i) hi) c22 rfl dX7_tell_37 ?_
          obtain ⟨r25, σ24, h23, h⟩ := g_bId h
          refine g_callSi (pc := 38) (st := [.int v2]) hE.1 wsX7_30 (kX7_numbersOf hE (σ16.1 (36 + 3 * i) v1.toNatClampNeg) σ16 h23) rfl (gR_ok (by decide) (by decide)) (Nat.le_of_ble_eq_true rfl) rfl dX7_tell_38 ?_
          refine g_icmp_gt (pc := 41) (tgt := 59) dX7_tell_41 (by decide) (fun c26 => ?_) (fun c26 => ?_)
          · have h := g_ift c26 h
            refine g_iconst (pc := 59) (v := (-1)) dX7_tell_59 (by decide) ?_
            cases h
            exact g_iret (pc := 60) rfl rfl rfl rfl dX7_tell_60
          · have h := g_iff c26 h
            refine g_aload_n (pc := 44) dX7_tell_44 rfl 0 rfl ?_
            refine g_getR (pc := 45) wfX7_15 (sX_script (i := i) hi) rfl dX7_tell_45 ?_
            refine g_iconst (pc := 48) (v := 4) dX7_tell_48 (by decide) ?_
            refine g_iload_n (pc := 49) dX7_tell_49 rfl 1 rfl ?_
            refine g_imul (pc := 50) dX7_tell_50 ?_
            refine g_iload_n (pc := 51) dX7_tell_51 rfl 2 rfl ?_
            refine g_iadd (pc := 52) dX7_tell_52 ?_
            refine g_iconst (pc := 53) (v := 1) dX7_tell_53 (by decide) ?_
            refine g_isub (pc := 54) dX7_tell_54 ?_
            obtain ⟨c27, h⟩ := g_gd h
            refine g_iald (pc := 55) (sX_nums (i := i) hi) c27 rfl dX7_tell_55 ?_
            refine g_goto (pc := 56) (tgt := 60) dX7_tell_56 (by decide) ?_
            cases h
            exact g_iret (pc := 60) rfl rfl rfl rfl dX7_tell_60
        · have h := g_ift c21 h
          refine g_aload_n (pc := 24) dX7_tell_24 rfl 0 rfl ?_
          refine g_getR (pc := 25) wfX7_11 (sX_script (i := i) hi) rfl dX7_tell_25 ?_
          refine g_iload_n (pc := 28) dX7_tell_28 rfl 1 rfl ?_
          obtain ⟨c28, h⟩ := g_gd h
          refine g_iald (pc := 29) (sX_sorts (i := i) hi) c28 rfl dX7_tell_29 ?_
          cases h
          exact g_iret (pc := 30) rfl rfl rfl rfl dX7_tell_30
      · have h := g_iff c20 h
        exact g_lv [] rfl (tX7_tell_b17 hE i hi σ16 h)
def fX7_copy (i : Nat) (j : Nat) (σ : gM) : Option (gM) := if ¬ (0 : Int32) < 0 then (if ¬ (0 : Int32) < 0 then (if ¬ (16 : Int32) < 0 then (if (0 : Int32).toNatClampNeg + (16 : Int32).toNatClampNeg ≤ 16 then (if (0 : Int32).toNatClampNeg + (16 : Int32).toNatClampNeg ≤ 16 then (g_let (g_row σ (36 + 3 * i) (va_cpy (σ.1 (36 + 3 * j)) (σ.1 (36 + 3 * i)) (0 : Int32).toNatClampNeg (0 : Int32).toNatClampNeg (16 : Int32).toNatClampNeg)) (fun σ22 => if ¬ (0 : Int32) < 0 then (if ¬ (0 : Int32) < 0 then (if ¬ (64 : Int32) < 0 then (if (0 : Int32).toNatClampNeg + (64 : Int32).toNatClampNeg ≤ 64 then (if (0 : Int32).toNatClampNeg + (64 : Int32).toNatClampNeg ≤ 64 then (g_let (g_row σ22 (37 + 3 * i) (va_cpy (σ22.1 (37 + 3 * j)) (σ22.1 (37 + 3 * i)) (0 : Int32).toNatClampNeg (0 : Int32).toNatClampNeg (64 : Int32).toNatClampNeg)) (fun σ29 => g_let (g_put σ29 (35 + 3 * i) 2 (σ29.1 (35 + 3 * j) 2)) (fun σ31 => some σ31))) else none) else none) else none) else none) else none)) else none) else none) else none) else none) else none
set_option maxRecDepth 100000 in
theorem kX7_copy (hE : gEX l dC dI ad ca X) (i : Nat) (hi : i < 5) (j : Nat) (hj : j < 5)  (σ : gM) {σ' : gM} (h : fX7_copy i j σ = some σ') : g_C l dC dI ad ca shX X yX7_copy cX7_copy 2 none (gR 1) [.ref (35 + 3 * i), .ref (35 + 3 * j)] σ none σ' := by
  refine g_entry (by decide +kernel) (Nat.le_of_ble_eq_true rfl) ?_
  refine g_lvE (lv1 := [(0, .ref (35 + 3 * i)), (1, .ref (35 + 3 * j))]) rfl ?_
  unfold fX7_copy at h
  refine g_aload_n (pc := 0) dX7_copy_0 rfl 1 rfl ?_
  refine g_getR (pc := 1) wfX7_11 (sX_script (i := j) hj) rfl dX7_copy_1 ?_
  refine g_iconst (pc := 4) (v := 0) dX7_copy_4 (by decide) ?_
  refine g_aload_n (pc := 5) dX7_copy_5 rfl 0 rfl ?_
  refine g_getR (pc := 6) wfX7_11 (sX_script (i := i) hi) rfl dX7_copy_6 ?_
  refine g_iconst (pc := 9) (v := 0) dX7_copy_9 (by decide) ?_
  refine g_bipush (pc := 10) (v := 16) dX7_copy_10 (by decide) ?_
  obtain ⟨c17, h⟩ := g_gd h
  obtain ⟨c18, h⟩ := g_gd h
  obtain ⟨c19, h⟩ := g_gd h
  obtain ⟨c20, h⟩ := g_gd h
  obtain ⟨c21, h⟩ := g_gd h
  obtain ⟨σ22, e23, h⟩ := g_ltd h
  refine g_copy (pc := 12) (st := []) waX7_34 (sX_sorts (i := j) hj) (sX_sorts (i := i) hi) c17 c18 c19 c20 c21 ⟨by decide, by decide⟩ e23 dX7_copy_12 ?_
  refine g_aload_n (pc := 15) dX7_copy_15 rfl 1 rfl ?_
  refine g_getR (pc := 16) wfX7_15 (sX_script (i := j) hj) rfl dX7_copy_16 ?_
  refine g_iconst (pc := 19) (v := 0) dX7_copy_19 (by decide) ?_
  refine g_aload_n (pc := 20) dX7_copy_20 rfl 0 rfl ?_
  refine g_getR (pc := 21) wfX7_15 (sX_script (i := i) hi) rfl dX7_copy_21 ?_
  refine g_iconst (pc := 24) (v := 0) dX7_copy_24 (by decide) ?_
  refine g_bipush (pc := 25) (v := 64) dX7_copy_25 (by decide) ?_
  obtain ⟨c24, h⟩ := g_gd h
  obtain ⟨c25, h⟩ := g_gd h
  obtain ⟨c26, h⟩ := g_gd h
  obtain ⟨c27, h⟩ := g_gd h
  obtain ⟨c28, h⟩ := g_gd h
  obtain ⟨σ29, e30, h⟩ := g_ltd h
  refine g_copy (pc := 27) (st := []) waX7_34 (sX_nums (i := j) hj) (sX_nums (i := i) hi) c24 c25 c26 c27 c28 ⟨by decide, by decide⟩ e30 dX7_copy_27 ?_
  refine g_aload_n (pc := 30) dX7_copy_30 rfl 0 rfl ?_
  refine g_aload_n (pc := 31) dX7_copy_31 rfl 1 rfl ?_
  refine g_getI (pc := 32) wfX7_18 (sX_script (i := j) hj) rfl dX7_copy_32 ?_
  obtain ⟨σ31, e32, h⟩ := g_ltd h
  refine g_putI (pc := 35) wfX7_18 (sX_script (i := i) hi) rfl rfl rfl e32 dX7_copy_35 ?_
  cases h
  exact g_vret (pc := 38) rfl rfl rfl dX7_copy_38
def fX9_add (i : Nat) (v1 : Int32) (v2 : Int32) (σ : gM) : Option (gM) := if v1 < 0 then (some σ) else (if 144 ≤ v1 then (some σ) else (if ¬ (v1 < 0 ∨ 144 ≤ v1.toNatClampNeg) then (if ¬ (v1 < 0 ∨ 144 ≤ v1.toNatClampNeg) then (g_let (g_put σ (11 + 5 * i) v1.toNatClampNeg ((σ.1 (11 + 5 * i) v1.toNatClampNeg) + v2)) (fun σ11 => some σ11)) else none) else none))
set_option maxRecDepth 100000 in
theorem kX9_add (hE : gEX l dC dI ad ca X) (i : Nat) (hi : i < 3)  (v1 : Int32) (v2 : Int32) (σ : gM) {σ' : gM} (h : fX9_add i v1 v2 σ = some σ') : g_C l dC dI ad ca shX X yX9_add cX9_add 3 none (gR 0) [.ref (10 + 5 * i), .int v1, .int v2] σ none σ' := by
  refine g_entry (by decide +kernel) (Nat.le_of_ble_eq_true rfl) ?_
  refine g_lvE (lv1 := [(0, .ref (10 + 5 * i)), (1, .int v1), (2, .int v2)]) rfl ?_
  unfold fX9_add at h
  refine g_iload_n (pc := 0) dX9_add_0 rfl 1 rfl ?_
  refine g_if_lt (pc := 1) (tgt := 21) dX9_add_1 (by decide) (fun c7 => ?_) (fun c7 => ?_)
  · have h := g_ift c7 h
    cases h
    exact g_vret (pc := 21) rfl rfl rfl dX9_add_21
  · have h := g_iff c7 h
    refine g_iload_n (pc := 4) dX9_add_4 rfl 1 rfl ?_
    refine g_sipush (pc := 5) (v := 144) dX9_add_5 (by decide) ?_
    refine g_icmp_ge (pc := 8) (tgt := 21) dX9_add_8 (by decide) (fun c8 => ?_) (fun c8 => ?_)
    · have h := g_ift c8 h
      cases h
      exact g_vret (pc := 21) rfl rfl rfl dX9_add_21
    · have h := g_iff c8 h
      refine g_aload_n (pc := 11) dX9_add_11 rfl 0 rfl ?_
      refine g_getR (pc := 12) wfX9_11 (sX_state (i := i) hi) rfl dX9_add_12 ?_
      refine g_iload_n (pc := 15) dX9_add_15 rfl 1 rfl ?_
      refine g_dup2 (pc := 16) dX9_add_16 rfl rfl ?_
      obtain ⟨c9, h⟩ := g_gd h
      refine g_iald (pc := 17) (sX_slots (i := i) hi) c9 rfl dX9_add_17 ?_
      refine g_iload_n (pc := 18) dX9_add_18 rfl 2 rfl ?_
      refine g_iadd (pc := 19) dX9_add_19 ?_
      obtain ⟨c10, h⟩ := g_gd h
      obtain ⟨σ11, e12, h⟩ := g_ltd h
      refine g_iast (pc := 20) (sX_slots (i := i) hi) c10 rfl e12 dX9_add_20 ?_
      cases h
      exact g_vret (pc := 21) rfl rfl rfl dX9_add_21
def fX8_countReads_b41 (n : Nat) (i : Nat) (K2 : Int32 → Int32 → Int32 → gM → Option (gM)) (v1 : Int32) (v2 : Int32) (v3 : Int32) (σ : gM) : Option (gM) := K2 v1 v2 (v3 + 1) σ
set_option maxRecDepth 100000 in
theorem tX8_countReads_b41 (hE : gEX l dC dI ad ca X) {σ' : gM} (n : Nat) (i : Nat) (hi : i < 3) (K2 : Int32 → Int32 → Int32 → gM → Option (gM)) (hK2 : ∀ (v1 : Int32) (v2 : Int32) (v3 : Int32) (σ : gM), K2 v1 v2 v3 σ = some σ' → g_G l dC dI ad ca shX X cX8_countReads 4 RX8 none (gR 2) none σ' 2 [(0, .ref (9 + 5 * i)), (1, .int v1), (2, .int v2), (3, .int v3)] [] σ) (v1 : Int32) (v2 : Int32) (v3 : Int32)  (σ : gM) (h : fX8_countReads_b41 n i K2 v1 v2 v3 σ = some σ') : g_G l dC dI ad ca shX X cX8_countReads 4 RX8 none (gR 2) none σ' 41 [(0, .ref (9 + 5 * i)), (1, .int v1), (2, .int v2), (3, .int v3)] [] σ := by
  unfold fX8_countReads_b41 at h
  refine g_iinc (pc := 41) (v := v3 + 1) (lv1 := [(3, .int (v3 + 1)), (0, .ref (9 + 5 * i)), (1, .int v1), (2, .int v2)]) dX8_countReads_41 3 rfl rfl (by decide) rfl ?_
  refine g_goto (pc := 44) (tgt := 2) dX8_countReads_44 (by decide) ?_
  exact g_lv [1, 2, 3, 0] rfl (hK2 v1 v2 (v3 + 1) σ h)
def fX8_countReads_b2 (n : Nat) (i : Nat) (K2 : Int32 → Int32 → Int32 → gM → Option (gM)) (v1 : Int32) (v2 : Int32) (v3 : Int32) (σ : gM) : Option (gM) := if (σ.1 5 5) ≤ v3 then (some σ) else (if ((v2 >>> (v3 &&& 31)) &&& 1) = 0 then (fX8_countReads_b41 n i K2 v1 v2 v3 σ) else (g_bI (fX6_diskOf v3 v1 σ) (fun r12 σ11 => g_bV (fX9_add i (112 + r12) 1 σ11) (fun σ14 => fX8_countReads_b41 n i K2 v1 v2 v3 σ14))))
set_option maxRecDepth 100000 in
theorem tX8_countReads_b2 (hE : gEX l dC dI ad ca X) {σ' : gM} (n : Nat) (i : Nat) (hi : i < 3) (K2 : Int32 → Int32 → Int32 → gM → Option (gM)) (hK2 : ∀ (v1 : Int32) (v2 : Int32) (v3 : Int32) (σ : gM), K2 v1 v2 v3 σ = some σ' → g_G l dC dI ad ca shX X cX8_countReads 4 RX8 none (gR 2) none σ' 2 [(0, .ref (9 + 5 * i)), (1, .int v1), (2, .int v2), (3, .int v3)] [] σ) (v1 : Int32) (v2 : Int32) (v3 : Int32)  (σ : gM) (h : fX8_countReads_b2 n i K2 v1 v2 v3 σ = some σ') : g_G l dC dI ad ca shX X cX8_countReads 4 RX8 none (gR 2) none σ' 2 [(0, .ref (9 + 5 * i)), (1, .int v1), (2, .int v2), (3, .int v3)] [] σ := by
  unfold fX8_countReads_b2 at h
  refine g_iload_n (pc := 2) dX8_countReads_2 rfl 3 rfl ?_
  refine g_aload_n (pc := 3) dX8_countReads_3 rfl 0 rfl ?_
  refine g_getR (pc := 4) wfX8_18 (sX_shelf (i := i) hi) rfl dX8_countReads_4 ?_
  refine g_getI (pc := 7) wfX8_35 rfl rfl dX8_countReads_7 ?_
  refine g_icmp_ge (pc := 10) (tgt := 47) dX8_countReads_10 (by decide) (fun c8 => ?_) (fun c8 => ?_)
  · have h := g_ift c8 h
    cases h
    exact g_vret (pc := 47) rfl rfl rfl dX8_countReads_47
  · have h := g_iff c8 h
    refine g_iload_n (pc := 13) dX8_countReads_13 rfl 2 rfl ?_
    refine g_iload_n (pc := 14) dX8_countReads_14 rfl 3 rfl ?_
    refine g_ishr (pc := 15) dX8_countReads_15 ?_
    refine g_iconst (pc := 16) (v := 1) dX8_countReads_16 (by decide) ?_
    refine g_iand (pc := 17) dX8_countReads_17 ?_
    refine g_if_eq (pc := 18) (tgt := 41) dX8_countReads_18 (by decide) (fun c9 => ?_) (fun c9 => ?_)
    · have h := g_ift c9 h
      exact g_lv [0, 1, 2, 3] rfl (tX8_countReads_b41 hE n i hi K2 hK2 v1 v2 v3 σ h)
    · have h := g_iff c9 h
      refine g_aload_n (pc := 21) dX8_countReads_21 rfl 0 rfl ?_
      refine g_getR (pc := 22) wfX8_12 (sX_shelf (i := i) hi) rfl dX8_countReads_22 ?_
      refine g_bipush (pc := 25) (v := 112) dX8_countReads_25 (by decide) ?_
      refine g_aload_n (pc := 27) dX8_countReads_27 rfl 0 rfl ?_
      refine g_getR (pc := 28) wfX8_18 (sX_shelf (i := i) hi) rfl dX8_countReads_28 ?_
      refine g_iload_n (pc := 31) dX8_countReads_31 rfl 3 rfl ?_
      refine g_iload_n (pc := 32) dX8_countReads_32 rfl 1 rfl ?_
      obtain ⟨r12, σ11, h10, h⟩ := g_bId h
      refine g_callVi (pc := 33) (st := [.int 112, .ref (10 + 5 * i)]) hE.1 wvX8_41 rfl rfl (kX6_diskOf hE v3 v1 σ h10) rfl (gR_ok (by decide) (by decide)) (Nat.le_of_ble_eq_true rfl) rfl dX8_countReads_33 ?_
      refine g_iadd (pc := 36) dX8_countReads_36 ?_
      refine g_iconst (pc := 37) (v := 1) dX8_countReads_37 (by decide) ?_
      obtain ⟨σ14, h13, h⟩ := g_bVd h
      refine g_callVv (pc := 38) (st := []) hE.1 wvX8_97 (sX_state (i := i) hi) rfl (kX9_add hE i hi (112 + r12) 1 σ11 h13) rfl (gR_ok (by decide) (by decide)) (Nat.le_of_ble_eq_true rfl) rfl dX8_countReads_38 ?_
      exact g_lv [0, 1, 2, 3] rfl (tX8_countReads_b41 hE n i hi K2 hK2 v1 v2 v3 σ14 h)
def fX8_countReads_L2 (n : Nat) (i : Nat) : Nat → Int32 → Int32 → Int32 → gM → Option (gM)
  | 0 => fun _ _ _ _ => none
  | k + 1 => fX8_countReads_b2 n i (fX8_countReads_L2 n i k)
theorem tX8_countReads_L2 (hE : gEX l dC dI ad ca X) {σ' : gM} (n : Nat) (i : Nat) (hi : i < 3)  : ∀ (k : Nat) (v1 : Int32) (v2 : Int32) (v3 : Int32) (σ : gM), fX8_countReads_L2 n i k v1 v2 v3 σ = some σ' → g_G l dC dI ad ca shX X cX8_countReads 4 RX8 none (gR 2) none σ' 2 [(0, .ref (9 + 5 * i)), (1, .int v1), (2, .int v2), (3, .int v3)] [] σ := by
  intro k
  induction k with
  | zero => intro v1 v2 v3 σ h; cases h
  | succ k ih => intro v1 v2 v3 σ h; exact tX8_countReads_b2 hE n i hi (fX8_countReads_L2 n i k) ih v1 v2 v3 σ h
def fX8_countReads (n : Nat) (i : Nat) (v1 : Int32) (v2 : Int32) (σ : gM) : Option (gM) := fX8_countReads_L2 n i n v1 v2 0 σ
set_option maxRecDepth 100000 in
theorem kX8_countReads (hE : gEX l dC dI ad ca X) (n : Nat) (i : Nat) (hi : i < 3)  (v1 : Int32) (v2 : Int32) (σ : gM) {σ' : gM} (h : fX8_countReads n i v1 v2 σ = some σ') : g_C l dC dI ad ca shX X yX8_countReads cX8_countReads 4 none (gR 2) [.ref (9 + 5 * i), .int v1, .int v2] σ none σ' := by
  refine g_entry (by decide +kernel) (Nat.le_of_ble_eq_true rfl) ?_
  refine g_lvE (lv1 := [(0, .ref (9 + 5 * i)), (1, .int v1), (2, .int v2)]) rfl ?_
  unfold fX8_countReads at h
  refine g_iconst (pc := 0) (v := 0) dX8_countReads_0 (by decide) ?_
  refine g_istore_n (pc := 1) (lv1 := [(3, .int 0), (0, .ref (9 + 5 * i)), (1, .int v1), (2, .int v2)]) dX8_countReads_1 rfl (by decide) rfl ?_
  exact g_lv [1, 2, 3, 0] rfl (tX8_countReads_L2 hE n i hi n v1 v2 0 σ h)
def fX9_putByte (i : Nat) (v1 : Int32) (v2 : Int32) (v3 : Int32) (v4 : Int32) (σ : gM) : Option (gM) := if ((v1 * 12) + v2) < 0 then (some σ) else (if 96 ≤ ((v1 * 12) + v2) then (some σ) else (if v3 < 0 then (some σ) else (if 4 ≤ v3 then (some σ) else (if ¬ (((v1 * 12) + v2) < 0 ∨ 144 ≤ ((v1 * 12) + v2).toNatClampNeg) then (if ¬ (((v1 * 12) + v2) < 0 ∨ 144 ≤ ((v1 * 12) + v2).toNatClampNeg) then (g_let (g_put σ (11 + 5 * i) (((v1 * 12) + v2).toNatClampNeg) (((σ.1 (11 + 5 * i) (((v1 * 12) + v2).toNatClampNeg)) &&& ((255 <<< ((8 * v3) &&& 31)) ^^^ (-1))) ||| ((v4 &&& 255) <<< ((8 * v3) &&& 31)))) (fun σ15 => some σ15)) else none) else none))))
set_option maxRecDepth 100000 in
theorem kX9_putByte (hE : gEX l dC dI ad ca X) (i : Nat) (hi : i < 3)  (v1 : Int32) (v2 : Int32) (v3 : Int32) (v4 : Int32) (σ : gM) {σ' : gM} (h : fX9_putByte i v1 v2 v3 v4 σ = some σ') : g_C l dC dI ad ca shX X yX9_putByte cX9_putByte 6 none (gR 0) [.ref (10 + 5 * i), .int v1, .int v2, .int v3, .int v4] σ none σ' := by
  refine g_entry (by decide +kernel) (Nat.le_of_ble_eq_true rfl) ?_
  refine g_lvE (lv1 := [(0, .ref (10 + 5 * i)), (1, .int v1), (2, .int v2), (3, .int v3), (4, .int v4)]) rfl ?_
  unfold fX9_putByte at h
  refine g_iload_n (pc := 0) dX9_putByte_0 rfl 1 rfl ?_
  refine g_bipush (pc := 1) (v := 12) dX9_putByte_1 (by decide) ?_
  refine g_imul (pc := 3) dX9_putByte_3 ?_
  refine g_iload_n (pc := 4) dX9_putByte_4 rfl 2 rfl ?_
  refine g_iadd (pc := 5) dX9_putByte_5 ?_
  refine g_istore (pc := 6) (lv1 := [(5, .int ((v1 * 12) + v2)), (0, .ref (10 + 5 * i)), (1, .int v1), (2, .int v2), (3, .int v3), (4, .int v4)]) dX9_putByte_6 (by decide) rfl ?_
  refine g_iload (pc := 8) dX9_putByte_8 0 rfl ?_
  refine g_if_lt (pc := 10) (tgt := 66) dX9_putByte_10 (by decide) (fun c9 => ?_) (fun c9 => ?_)
  · have h := g_ift c9 h
    cases h
    exact g_vret (pc := 66) rfl rfl rfl dX9_putByte_66
  · have h := g_iff c9 h
    refine g_iload (pc := 13) dX9_putByte_13 0 rfl ?_
    refine g_bipush (pc := 15) (v := 96) dX9_putByte_15 (by decide) ?_
    refine g_icmp_ge (pc := 17) (tgt := 66) dX9_putByte_17 (by decide) (fun c10 => ?_) (fun c10 => ?_)
    · have h := g_ift c10 h
      cases h
      exact g_vret (pc := 66) rfl rfl rfl dX9_putByte_66
    · have h := g_iff c10 h
      refine g_iload_n (pc := 20) dX9_putByte_20 rfl 4 rfl ?_
      refine g_if_lt (pc := 21) (tgt := 66) dX9_putByte_21 (by decide) (fun c11 => ?_) (fun c11 => ?_)
      · have h := g_ift c11 h
        cases h
        exact g_vret (pc := 66) rfl rfl rfl dX9_putByte_66
      · have h := g_iff c11 h
        refine g_iload_n (pc := 24) dX9_putByte_24 rfl 4 rfl ?_
        refine g_iconst (pc := 25) (v := 4) dX9_putByte_25 (by decide) ?_
        refine g_icmp_ge (pc := 26) (tgt := 66) dX9_putByte_26 (by decide) (fun c12 => ?_) (fun c12 => ?_)
        · have h := g_ift c12 h
          cases h
          exact g_vret (pc := 66) rfl rfl rfl dX9_putByte_66
        · have h := g_iff c12 h
          refine g_aload_n (pc := 29) dX9_putByte_29 rfl 1 rfl ?_
          refine g_getR (pc := 30) wfX9_11 (sX_state (i := i) hi) rfl dX9_putByte_30 ?_
          refine g_iload (pc := 33) dX9_putByte_33 0 rfl ?_
          refine g_aload_n (pc := 35) dX9_putByte_35 rfl 1 rfl ?_
          refine g_getR (pc := 36) wfX9_11 (sX_state (i := i) hi) rfl dX9_putByte_36 ?_
          refine g_iload (pc := 39) dX9_putByte_39 0 rfl ?_
          obtain ⟨c13, h⟩ := g_gd h
          refine g_iald (pc := 41) (sX_slots (i := i) hi) c13 rfl dX9_putByte_41 ?_
          refine g_sipush (pc := 42) (v := 255) dX9_putByte_42 (by decide) ?_
          refine g_bipush (pc := 45) (v := 8) dX9_putByte_45 (by decide) ?_
          refine g_iload_n (pc := 47) dX9_putByte_47 rfl 4 rfl ?_
          refine g_imul (pc := 48) dX9_putByte_48 ?_
          refine g_ishl (pc := 49) dX9_putByte_49 ?_
          refine g_iconst (pc := 50) (v := (-1)) dX9_putByte_50 (by decide) ?_
          refine g_ixor (pc := 51) dX9_putByte_51 ?_
          refine g_iand (pc := 52) dX9_putByte_52 ?_
          refine g_iload (pc := 53) dX9_putByte_53 5 rfl ?_
          refine g_sipush (pc := 55) (v := 255) dX9_putByte_55 (by decide) ?_
          refine g_iand (pc := 58) dX9_putByte_58 ?_
          refine g_bipush (pc := 59) (v := 8) dX9_putByte_59 (by decide) ?_
          refine g_iload_n (pc := 61) dX9_putByte_61 rfl 4 rfl ?_
          refine g_imul (pc := 62) dX9_putByte_62 ?_
          refine g_ishl (pc := 63) dX9_putByte_63 ?_
          refine g_ior (pc := 64) dX9_putByte_64 ?_
          obtain ⟨c14, h⟩ := g_gd h
          obtain ⟨σ15, e16, h⟩ := g_ltd h
          refine g_iast (pc := 65) (sX_slots (i := i) hi) c14 rfl e16 dX9_putByte_65 ?_
          cases h
          exact g_vret (pc := 66) rfl rfl rfl dX9_putByte_66
def fX8_store_b69 (n : Nat) (i : Nat) (K3 : Int32 → Int32 → Int32 → Int32 → gM → Option (gM)) (v1 : Int32) (v2 : Int32) (v3 : Int32) (v4 : Int32) (σ : gM) : Option (gM) := K3 v1 v2 v3 (v4 + 1) σ
set_option maxRecDepth 100000 in
theorem tX8_store_b69 (hE : gEX l dC dI ad ca X) {σ' : gM} (n : Nat) (i : Nat) (hi : i < 3) (K3 : Int32 → Int32 → Int32 → Int32 → gM → Option (gM)) (hK3 : ∀ (v1 : Int32) (v2 : Int32) (v3 : Int32) (v4 : Int32) (σ : gM), K3 v1 v2 v3 v4 σ = some σ' → g_G l dC dI ad ca shX X cX8_store 6 RX8 none (gR 2) none σ' 3 [(0, .ref (9 + 5 * i)), (1, .int v1), (2, .int v2), (3, .int v3), (4, .int v4)] [] σ) (v1 : Int32) (v2 : Int32) (v3 : Int32) (v4 : Int32)  (σ : gM) (h : fX8_store_b69 n i K3 v1 v2 v3 v4 σ = some σ') : g_G l dC dI ad ca shX X cX8_store 6 RX8 none (gR 2) none σ' 69 [(0, .ref (9 + 5 * i)), (1, .int v1), (2, .int v2), (3, .int v3), (4, .int v4)] [] σ := by
  unfold fX8_store_b69 at h
  refine g_iinc (pc := 69) (v := v4 + 1) (lv1 := [(4, .int (v4 + 1)), (0, .ref (9 + 5 * i)), (1, .int v1), (2, .int v2), (3, .int v3)]) dX8_store_69 4 rfl rfl (by decide) rfl ?_
  refine g_goto (pc := 72) (tgt := 3) dX8_store_72 (by decide) ?_
  exact g_lv [1, 2, 3, 4, 0] rfl (hK3 v1 v2 v3 (v4 + 1) σ h)
def fX8_store_b3 (n : Nat) (i : Nat) (K3 : Int32 → Int32 → Int32 → Int32 → gM → Option (gM)) (v1 : Int32) (v2 : Int32) (v3 : Int32) (v4 : Int32) (σ : gM) : Option (gM) := if (σ.1 5 5) ≤ v4 then (some σ) else (if ((v3 >>> (v4 &&& 31)) &&& 1) = 0 then (fX8_store_b69 n i K3 v1 v2 v3 v4 σ) else (g_bI (fX6_diskOf v4 v1 σ) (fun r17 σ16 => g_bI (fX5_get i v4 σ16) (fun r20 σ19 => g_bV (fX9_putByte i r17 v1 v2 r20 σ19) (fun σ22 => g_bV (fX9_add i (120 + r17) 1 σ22) (fun σ24 => fX8_store_b69 n i K3 v1 v2 v3 v4 σ24))))))
set_option maxRecDepth 100000 in
theorem tX8_store_b3 (hE : gEX l dC dI ad ca X) {σ' : gM} (n : Nat) (i : Nat) (hi : i < 3) (K3 : Int32 → Int32 → Int32 → Int32 → gM → Option (gM)) (hK3 : ∀ (v1 : Int32) (v2 : Int32) (v3 : Int32) (v4 : Int32) (σ : gM), K3 v1 v2 v3 v4 σ = some σ' → g_G l dC dI ad ca shX X cX8_store 6 RX8 none (gR 2) none σ' 3 [(0, .ref (9 + 5 * i)), (1, .int v1), (2, .int v2), (3, .int v3), (4, .int v4)] [] σ) (v1 : Int32) (v2 : Int32) (v3 : Int32) (v4 : Int32)  (σ : gM) (h : fX8_store_b3 n i K3 v1 v2 v3 v4 σ = some σ') : g_G l dC dI ad ca shX X cX8_store 6 RX8 none (gR 2) none σ' 3 [(0, .ref (9 + 5 * i)), (1, .int v1), (2, .int v2), (3, .int v3), (4, .int v4)] [] σ := by
  unfold fX8_store_b3 at h
  refine g_iload (pc := 3) dX8_store_3 4 rfl ?_
  refine g_aload_n (pc := 5) dX8_store_5 rfl 0 rfl ?_
  refine g_getR (pc := 6) wfX8_18 (sX_shelf (i := i) hi) rfl dX8_store_6 ?_
  refine g_getI (pc := 9) wfX8_35 rfl rfl dX8_store_9 ?_
  refine g_icmp_ge (pc := 12) (tgt := 75) dX8_store_12 (by decide) (fun c13 => ?_) (fun c13 => ?_)
  · have h := g_ift c13 h
    cases h
    exact g_vret (pc := 75) rfl rfl rfl dX8_store_75
  · have h := g_iff c13 h
    refine g_iload_n (pc := 15) dX8_store_15 rfl 3 rfl ?_
    refine g_iload (pc := 16) dX8_store_16 4 rfl ?_
    refine g_ishr (pc := 18) dX8_store_18 ?_
    refine g_iconst (pc := 19) (v := 1) dX8_store_19 (by decide) ?_
    refine g_iand (pc := 20) dX8_store_20 ?_
    refine g_if_eq (pc := 21) (tgt := 69) dX8_store_21 (by decide) (fun c14 => ?_) (fun c14 => ?_)
    · have h := g_ift c14 h
      exact g_lv [0, 1, 2, 3, 4] rfl (tX8_store_b69 hE n i hi K3 hK3 v1 v2 v3 v4 σ h)
    · have h := g_iff c14 h
      refine g_aload_n (pc := 24) dX8_store_24 rfl 0 rfl ?_
      refine g_getR (pc := 25) wfX8_18 (sX_shelf (i := i) hi) rfl dX8_store_25 ?_
      refine g_iload (pc := 28) dX8_store_28 4 rfl ?_
      refine g_iload_n (pc := 30) dX8_store_30 rfl 1 rfl ?_
      obtain ⟨r17, σ16, h15, h⟩ := g_bId h
      refine g_callVi (pc := 31) (st := []) hE.1 wvX8_41 rfl rfl (kX6_diskOf hE v4 v1 σ h15) rfl (gR_ok (by decide) (by decide)) (Nat.le_of_ble_eq_true rfl) rfl dX8_store_31 ?_
      refine g_istore (pc := 34) (lv1 := [(5, .int r17), (0, .ref (9 + 5 * i)), (1, .int v1), (2, .int v2), (3, .int v3), (4, .int v4)]) dX8_store_34 (by decide) rfl ?_
      refine g_aload_n (pc := 36) dX8_store_36 rfl 1 rfl ?_
      refine g_getR (pc := 37) wfX8_12 (sX_shelf (i := i) hi) rfl dX8_store_37 ?_
      refine g_iload (pc := 40) dX8_store_40 0 rfl ?_
      refine g_iload_n (pc := 42) dX8_store_42 rfl 2 rfl ?_
      refine g_iload_n (pc := 43) dX8_store_43 rfl 3 rfl ?_
      refine g_aload_n (pc := 44) dX8_store_44 rfl 1 rfl ?_
      refine g_getR (pc := 45) wfX8_27 (sX_shelf (i := i) hi) rfl dX8_store_45 ?_
      refine g_iload (pc := 48) dX8_store_48 5 rfl ?_
      obtain ⟨r20, σ19, h18, h⟩ := g_bId h
      refine g_callVi (pc := 50) (st := [.int v2, .int v1, .int r17, .ref (10 + 5 * i)]) hE.1 wvX8_77 (sX_row (i := i) hi) rfl (kX5_get hE i hi v4 σ16 h18) rfl (gR_ok (by decide) (by decide)) (Nat.le_of_ble_eq_true rfl) rfl dX8_store_50 ?_
      obtain ⟨σ22, h21, h⟩ := g_bVd h
      refine g_callVv (pc := 53) (st := []) hE.1 wvX8_101 (sX_state (i := i) hi) rfl (kX9_putByte hE i hi r17 v1 v2 r20 σ19 h21) rfl (gR_ok (by decide) (by decide)) (Nat.le_of_ble_eq_true rfl) rfl dX8_store_53 ?_
      refine g_aload_n (pc := 56) dX8_store_56 rfl 1 rfl ?_
      refine g_getR (pc := 57) wfX8_12 (sX_shelf (i := i) hi) rfl dX8_store_57 ?_
      refine g_bipush (pc := 60) (v := 120) dX8_store_60 (by decide) ?_
      refine g_iload (pc := 62) dX8_store_62 0 rfl ?_
      refine g_iadd (pc := 64) dX8_store_64 ?_
      refine g_iconst (pc := 65) (v := 1) dX8_store_65 (by decide) ?_
      obtain ⟨σ24, h23, h⟩ := g_bVd h
      refine g_callVv (pc := 66) (st := []) hE.1 wvX8_97 (sX_state (i := i) hi) rfl (kX9_add hE i hi (120 + r17) 1 σ22 h23) rfl (gR_ok (by decide) (by decide)) (Nat.le_of_ble_eq_true rfl) rfl dX8_store_66 ?_
      exact g_lv [1, 2, 3, 4, 5] rfl (tX8_store_b69 hE n i hi K3 hK3 v1 v2 v3 v4 σ24 h)
def fX8_store_L3 (n : Nat) (i : Nat) : Nat → Int32 → Int32 → Int32 → Int32 → gM → Option (gM)
  | 0 => fun _ _ _ _ _ => none
  | k + 1 => fX8_store_b3 n i (fX8_store_L3 n i k)
theorem tX8_store_L3 (hE : gEX l dC dI ad ca X) {σ' : gM} (n : Nat) (i : Nat) (hi : i < 3)  : ∀ (k : Nat) (v1 : Int32) (v2 : Int32) (v3 : Int32) (v4 : Int32) (σ : gM), fX8_store_L3 n i k v1 v2 v3 v4 σ = some σ' → g_G l dC dI ad ca shX X cX8_store 6 RX8 none (gR 2) none σ' 3 [(0, .ref (9 + 5 * i)), (1, .int v1), (2, .int v2), (3, .int v3), (4, .int v4)] [] σ := by
  intro k
  induction k with
  | zero => intro v1 v2 v3 v4 σ h; cases h
  | succ k ih => intro v1 v2 v3 v4 σ h; exact tX8_store_b3 hE n i hi (fX8_store_L3 n i k) ih v1 v2 v3 v4 σ h
def fX8_store (n : Nat) (i : Nat) (v1 : Int32) (v2 : Int32) (v3 : Int32) (σ : gM) : Option (gM) := fX8_store_L3 n i n v1 v2 v3 0 σ
set_option maxRecDepth 100000 in
theorem kX8_store (hE : gEX l dC dI ad ca X) (n : Nat) (i : Nat) (hi : i < 3)  (v1 : Int32) (v2 : Int32) (v3 : Int32) (σ : gM) {σ' : gM} (h : fX8_store n i v1 v2 v3 σ = some σ') : g_C l dC dI ad ca shX X yX8_store cX8_store 6 none (gR 2) [.ref (9 + 5 * i), .int v1, .int v2, .int v3] σ none σ' := by
  refine g_entry (by decide +kernel) (Nat.le_of_ble_eq_true rfl) ?_
  refine g_lvE (lv1 := [(0, .ref (9 + 5 * i)), (1, .int v1), (2, .int v2), (3, .int v3)]) rfl ?_
  unfold fX8_store at h
  refine g_iconst (pc := 0) (v := 0) dX8_store_0 (by decide) ?_
  refine g_istore (pc := 1) (lv1 := [(4, .int 0), (0, .ref (9 + 5 * i)), (1, .int v1), (2, .int v2), (3, .int v3)]) dX8_store_1 (by decide) rfl ?_
  exact g_lv [1, 2, 3, 4, 0] rfl (tX8_store_L3 hE n i hi n v1 v2 v3 0 σ h)
def fX11_isByte (v0 : Int32) (σ : gM) : Option (Int32 × gM) := if v0 < 0 then (some (0, σ)) else (if 255 < v0 then (some (0, σ)) else (some (1, σ)))
set_option maxRecDepth 100000 in
theorem kX11_isByte (hE : gEX l dC dI ad ca X)  (v0 : Int32) (σ : gM) {r0 : Int32} {σ' : gM} (h : fX11_isByte v0 σ = some (r0, σ')) : g_C l dC dI ad ca shX X yX11_isByte cX11_isByte 1 (some .boolean) (gR 0) [.int v0] σ (some (.int r0)) σ' := by
  refine g_entry (by decide +kernel) (Nat.le_of_ble_eq_true rfl) ?_
  refine g_lvE (lv1 := [(0, .int v0)]) rfl ?_
  unfold fX11_isByte at h
  refine g_iload_n (pc := 0) dX11_isByte_0 rfl 0 rfl ?_
  refine g_if_lt (pc := 1) (tgt := 15) dX11_isByte_1 (by decide) (fun c3 => ?_) (fun c3 => ?_)
  · have h := g_ift c3 h
    refine g_iconst (pc := 15) (v := 0) dX11_isByte_15 (by decide) ?_
    cases h
    exact g_iret (pc := 16) rfl (by decide) rfl rfl dX11_isByte_16
  · have h := g_iff c3 h
    refine g_iload_n (pc := 4) dX11_isByte_4 rfl 0 rfl ?_
    refine g_sipush (pc := 5) (v := 255) dX11_isByte_5 (by decide) ?_
    refine g_icmp_gt (pc := 8) (tgt := 15) dX11_isByte_8 (by decide) (fun c4 => ?_) (fun c4 => ?_)
    · have h := g_ift c4 h
      refine g_iconst (pc := 15) (v := 0) dX11_isByte_15 (by decide) ?_
      cases h
      exact g_iret (pc := 16) rfl (by decide) rfl rfl dX11_isByte_16
    · have h := g_iff c4 h
      refine g_iconst (pc := 11) (v := 1) dX11_isByte_11 (by decide) ?_
      refine g_goto (pc := 12) (tgt := 16) dX11_isByte_12 (by decide) ?_
      cases h
      exact g_iret (pc := 16) rfl (by decide) rfl rfl dX11_isByte_16
def fX8_refusalOfWrite (i : Nat) (v1 : Int32) (v2 : Int32) (σ : gM) : Option (Int32 × gM) := g_bI (fX6_isAddress v1 σ) (fun r11 σ10 => if r11 = 0 then (some (0, σ10)) else (g_bI (fX11_isByte v2 σ10) (fun r15 σ14 => if r15 = 0 then (some (1, σ14)) else (some ((-1), σ14)))))
set_option maxRecDepth 100000 in
theorem kX8_refusalOfWrite (hE : gEX l dC dI ad ca X) (i : Nat) (hi : i < 3)  (v1 : Int32) (v2 : Int32) (σ : gM) {r0 : Int32} {σ' : gM} (h : fX8_refusalOfWrite i v1 v2 σ = some (r0, σ')) : g_C l dC dI ad ca shX X yX8_refusalOfWrite cX8_refusalOfWrite 3 (some .int) (gR 2) [.ref (9 + 5 * i), .int v1, .int v2] σ (some (.int r0)) σ' := by
  refine g_entry (by decide +kernel) (Nat.le_of_ble_eq_true rfl) ?_
  refine g_lvE (lv1 := [(0, .ref (9 + 5 * i)), (1, .int v1), (2, .int v2)]) rfl ?_
  unfold fX8_refusalOfWrite at h
  refine g_aload_n (pc := 0) dX8_refusalOfWrite_0 rfl 0 rfl ?_
  refine g_getR (pc := 1) wfX8_18 (sX_shelf (i := i) hi) rfl dX8_refusalOfWrite_1 ?_
  refine g_iload_n (pc := 4) dX8_refusalOfWrite_4 rfl 1 rfl ?_
  obtain ⟨r11, σ10, h9, h⟩ := g_bId h
  refine g_callVi (pc := 5) (st := []) hE.1 wvX8_133 rfl rfl (kX6_isAddress hE v1 σ h9) rfl (gR_ok (by decide) (by decide)) (Nat.le_of_ble_eq_true rfl) rfl dX8_refusalOfWrite_5 ?_
  refine g_if_ne (pc := 8) (tgt := 13) dX8_refusalOfWrite_8 (by decide) (fun c12 => ?_) (fun c12 => ?_)
  · have h := g_iff c12 h
    refine g_iload_n (pc := 13) dX8_refusalOfWrite_13 rfl 2 rfl ?_
    obtain ⟨r15, σ14, h13, h⟩ := g_bId h
    refine g_callNi (pc := 14) (st := []) hE.1 wnX8_137 (xnA hE) (kX11_isByte hE v2 σ10 h13) rfl (gR_ok (by decide) (by decide)) (Nat.le_of_ble_eq_true rfl) rfl dX8_refusalOfWrite_14 ?_
    refine g_if_eq (pc := 17) (tgt := 24) dX8_refusalOfWrite_17 (by decide) (fun c16 => ?_) (fun c16 => ?_)
    · have h := g_ift c16 h
      refine g_iconst (pc := 24) (v := 1) dX8_refusalOfWrite_24 (by decide) ?_
      cases h
      exact g_iret (pc := 25) rfl rfl rfl rfl dX8_refusalOfWrite_25
    · have h := g_iff c16 h
      refine g_iconst (pc := 20) (v := (-1)) dX8_refusalOfWrite_20 (by decide) ?_
      refine g_goto (pc := 21) (tgt := 25) dX8_refusalOfWrite_21 (by decide) ?_
      cases h
      exact g_iret (pc := 25) rfl rfl rfl rfl dX8_refusalOfWrite_25
  · have h := g_ift c12 h
    refine g_iconst (pc := 11) (v := 0) dX8_refusalOfWrite_11 (by decide) ?_
    cases h
    exact g_iret (pc := 12) rfl rfl rfl rfl dX8_refusalOfWrite_12
def fX8_refusalOfLoss (n : Nat) (i : Nat) (v1 : Int32) (σ : gM) : Option (Int32 × gM) := g_bI (fX6_isDisk v1 σ) (fun r15 σ14 => if r15 = 0 then (some (0, σ14)) else (g_bI (fX8_stands i v1 1 σ14) (fun r19 σ18 => if r19 = 0 then (g_bI (fX8_canLose n i v1 σ18) (fun r23 σ22 => if r23 = 0 then (some (3, σ22)) else (some ((-1), σ22)))) else (some (2, σ18)))))
set_option maxRecDepth 100000 in
theorem kX8_refusalOfLoss (hE : gEX l dC dI ad ca X) (n : Nat) (i : Nat) (hi : i < 3)  (v1 : Int32) (σ : gM) {r0 : Int32} {σ' : gM} (h : fX8_refusalOfLoss n i v1 σ = some (r0, σ')) : g_C l dC dI ad ca shX X yX8_refusalOfLoss cX8_refusalOfLoss 2 (some .int) (gR 3) [.ref (9 + 5 * i), .int v1] σ (some (.int r0)) σ' := by
  refine g_entry (by decide +kernel) (Nat.le_of_ble_eq_true rfl) ?_
  refine g_lvE (lv1 := [(0, .ref (9 + 5 * i)), (1, .int v1)]) rfl ?_
  unfold fX8_refusalOfLoss at h
  refine g_aload_n (pc := 0) dX8_refusalOfLoss_0 rfl 0 rfl ?_
  refine g_getR (pc := 1) wfX8_18 (sX_shelf (i := i) hi) rfl dX8_refusalOfLoss_1 ?_
  refine g_iload_n (pc := 4) dX8_refusalOfLoss_4 rfl 1 rfl ?_
  obtain ⟨r15, σ14, h13, h⟩ := g_bId h
  refine g_callVi (pc := 5) (st := []) hE.1 wvX8_140 rfl rfl (kX6_isDisk hE v1 σ h13) rfl (gR_ok (by decide) (by decide)) (Nat.le_of_ble_eq_true rfl) rfl dX8_refusalOfLoss_5 ?_
  refine g_if_ne (pc := 8) (tgt := 13) dX8_refusalOfLoss_8 (by decide) (fun c16 => ?_) (fun c16 => ?_)
  · have h := g_iff c16 h
    refine g_aload_n (pc := 13) dX8_refusalOfLoss_13 rfl 0 rfl ?_
    refine g_iload_n (pc := 14) dX8_refusalOfLoss_14 rfl 1 rfl ?_
    refine g_iconst (pc := 15) (v := 1) dX8_refusalOfLoss_15 (by decide) ?_
    obtain ⟨r19, σ18, h17, h⟩ := g_bId h
    refine g_callVi (pc := 16) (st := []) hE.1 wvX8_49 (sX_shelf (i := i) hi) rfl (kX8_stands hE i hi v1 1 σ14 h17) rfl (gR_ok (by decide) (by decide)) (Nat.le_of_ble_eq_true rfl) rfl dX8_refusalOfLoss_16 ?_
    refine g_if_eq (pc := 19) (tgt := 24) dX8_refusalOfLoss_19 (by decide) (fun c20 => ?_) (fun c20 => ?_)
    · have h := g_ift c20 h
      refine g_aload_n (pc := 24) dX8_refusalOfLoss_24 rfl 0 rfl ?_
      refine g_iload_n (pc := 25) dX8_refusalOfLoss_25 rfl 1 rfl ?_
      obtain ⟨r23, σ22, h21, h⟩ := g_bId h
      refine g_callVi (pc := 26) (st := []) hE.1 wvX8_143 (sX_shelf (i := i) hi) rfl (kX8_canLose hE n i hi v1 σ18 h21) rfl (gR_ok (by decide) (by decide)) (Nat.le_of_ble_eq_true rfl) rfl dX8_refusalOfLoss_26 ?_
      refine g_if_eq (pc := 29) (tgt := 36) dX8_refusalOfLoss_29 (by decide) (fun c24 => ?_) (fun c24 => ?_)
      · have h := g_ift c24 h
        refine g_iconst (pc := 36) (v := 3) dX8_refusalOfLoss_36 (by decide) ?_
        cases h
        exact g_iret (pc := 37) rfl rfl rfl rfl dX8_refusalOfLoss_37
      · have h := g_iff c24 h
        refine g_iconst (pc := 32) (v := (-1)) dX8_refusalOfLoss_32 (by decide) ?_
        refine g_goto (pc := 33) (tgt := 37) dX8_refusalOfLoss_33 (by decide) ?_
        cases h
        exact g_iret (pc := 37) rfl rfl rfl rfl dX8_refusalOfLoss_37
    · have h := g_iff c20 h
      refine g_iconst (pc := 22) (v := 2) dX8_refusalOfLoss_22 (by decide) ?_
      cases h
      exact g_iret (pc := 23) rfl rfl rfl rfl dX8_refusalOfLoss_23
  · have h := g_ift c16 h
    refine g_iconst (pc := 11) (v := 0) dX8_refusalOfLoss_11 (by decide) ?_
    cases h
    exact g_iret (pc := 12) rfl rfl rfl rfl dX8_refusalOfLoss_12
def fX8_refusalOfReplacing (i : Nat) (v1 : Int32) (σ : gM) : Option (Int32 × gM) := g_bI (fX6_isDisk v1 σ) (fun r15 σ14 => if r15 = 0 then (some (0, σ14)) else (g_bI (fX8_stands i v1 1 σ14) (fun r19 σ18 => if r19 = 0 then (some (2, σ18)) else (g_bI (fX9_get i 136 σ18) (fun r23 σ22 => if r23 ≤ 0 then (some (3, σ22)) else (some ((-1), σ22)))))))
set_option maxRecDepth 100000 in
theorem kX8_refusalOfReplacing (hE : gEX l dC dI ad ca X) (i : Nat) (hi : i < 3)  (v1 : Int32) (σ : gM) {r0 : Int32} {σ' : gM} (h : fX8_refusalOfReplacing i v1 σ = some (r0, σ')) : g_C l dC dI ad ca shX X yX8_refusalOfReplacing cX8_refusalOfReplacing 2 (some .int) (gR 2) [.ref (9 + 5 * i), .int v1] σ (some (.int r0)) σ' := by
  refine g_entry (by decide +kernel) (Nat.le_of_ble_eq_true rfl) ?_
  refine g_lvE (lv1 := [(0, .ref (9 + 5 * i)), (1, .int v1)]) rfl ?_
  unfold fX8_refusalOfReplacing at h
  refine g_aload_n (pc := 0) dX8_refusalOfReplacing_0 rfl 0 rfl ?_
  refine g_getR (pc := 1) wfX8_18 (sX_shelf (i := i) hi) rfl dX8_refusalOfReplacing_1 ?_
  refine g_iload_n (pc := 4) dX8_refusalOfReplacing_4 rfl 1 rfl ?_
  obtain ⟨r15, σ14, h13, h⟩ := g_bId h
  refine g_callVi (pc := 5) (st := []) hE.1 wvX8_140 rfl rfl (kX6_isDisk hE v1 σ h13) rfl (gR_ok (by decide) (by decide)) (Nat.le_of_ble_eq_true rfl) rfl dX8_refusalOfReplacing_5 ?_
  refine g_if_ne (pc := 8) (tgt := 13) dX8_refusalOfReplacing_8 (by decide) (fun c16 => ?_) (fun c16 => ?_)
  · have h := g_iff c16 h
    refine g_aload_n (pc := 13) dX8_refusalOfReplacing_13 rfl 0 rfl ?_
    refine g_iload_n (pc := 14) dX8_refusalOfReplacing_14 rfl 1 rfl ?_
    refine g_iconst (pc := 15) (v := 1) dX8_refusalOfReplacing_15 (by decide) ?_
    obtain ⟨r19, σ18, h17, h⟩ := g_bId h
    refine g_callVi (pc := 16) (st := []) hE.1 wvX8_49 (sX_shelf (i := i) hi) rfl (kX8_stands hE i hi v1 1 σ14 h17) rfl (gR_ok (by decide) (by decide)) (Nat.le_of_ble_eq_true rfl) rfl dX8_refusalOfReplacing_16 ?_
    refine g_if_ne (pc := 19) (tgt := 24) dX8_refusalOfReplacing_19 (by decide) (fun c20 => ?_) (fun c20 => ?_)
    · have h := g_iff c20 h
      refine g_aload_n (pc := 24) dX8_refusalOfReplacing_24 rfl 0 rfl ?_
      refine g_getR (pc := 25) wfX8_12 (sX_shelf (i := i) hi) rfl dX8_refusalOfReplacing_25 ?_
      refine g_sipush (pc := 28) (v := 136) dX8_refusalOfReplacing_28 (by decide) ?_
      obtain ⟨r23, σ22, h21, h⟩ := g_bId h
      refine g_callVi (pc := 31) (st := []) hE.1 wvX8_31 (sX_state (i := i) hi) rfl (kX9_get hE i hi 136 σ18 h21) rfl (gR_ok (by decide) (by decide)) (Nat.le_of_ble_eq_true rfl) rfl dX8_refusalOfReplacing_31 ?_
      refine g_if_le (pc := 34) (tgt := 41) dX8_refusalOfReplacing_34 (by decide) (fun c24 => ?_) (fun c24 => ?_)
      · have h := g_ift c24 h
        refine g_iconst (pc := 41) (v := 3) dX8_refusalOfReplacing_41 (by decide) ?_
        cases h
        exact g_iret (pc := 42) rfl rfl rfl rfl dX8_refusalOfReplacing_42
      · have h := g_iff c24 h
        refine g_iconst (pc := 37) (v := (-1)) dX8_refusalOfReplacing_37 (by decide) ?_
        refine g_goto (pc := 38) (tgt := 42) dX8_refusalOfReplacing_38 (by decide) ?_
        cases h
        exact g_iret (pc := 42) rfl rfl rfl rfl dX8_refusalOfReplacing_42
    · have h := g_ift c20 h
      refine g_iconst (pc := 22) (v := 2) dX8_refusalOfReplacing_22 (by decide) ?_
      cases h
      exact g_iret (pc := 23) rfl rfl rfl rfl dX8_refusalOfReplacing_23
  · have h := g_ift c16 h
    refine g_iconst (pc := 11) (v := 0) dX8_refusalOfReplacing_11 (by decide) ?_
    cases h
    exact g_iret (pc := 12) rfl rfl rfl rfl dX8_refusalOfReplacing_12
def fX8_refusalOfRebuilding (i : Nat) (v1 : Int32) (v2 : Int32) (σ : gM) : Option (Int32 × gM) := g_bI (fX6_isDisk v1 σ) (fun r13 σ12 => if r13 = 0 then (some (0, σ12)) else (if v2 < 1 then (some (1, σ12)) else (if v2 ≤ 12 then (g_bI (fX8_stands i v1 2 σ12) (fun r19 σ18 => if r19 = 0 then (some (2, σ18)) else (some ((-1), σ18)))) else (some (1, σ12)))))
set_option maxRecDepth 100000 in
theorem kX8_refusalOfRebuilding (hE : gEX l dC dI ad ca X) (i : Nat) (hi : i < 3)  (v1 : Int32) (v2 : Int32) (σ : gM) {r0 : Int32} {σ' : gM} (h : fX8_refusalOfRebuilding i v1 v2 σ = some (r0, σ')) : g_C l dC dI ad ca shX X yX8_refusalOfRebuilding cX8_refusalOfRebuilding 3 (some .int) (gR 2) [.ref (9 + 5 * i), .int v1, .int v2] σ (some (.int r0)) σ' := by
  refine g_entry (by decide +kernel) (Nat.le_of_ble_eq_true rfl) ?_
  refine g_lvE (lv1 := [(0, .ref (9 + 5 * i)), (1, .int v1), (2, .int v2)]) rfl ?_
  unfold fX8_refusalOfRebuilding at h
  refine g_aload_n (pc := 0) dX8_refusalOfRebuilding_0 rfl 0 rfl ?_
  refine g_getR (pc := 1) wfX8_18 (sX_shelf (i := i) hi) rfl dX8_refusalOfRebuilding_1 ?_
  refine g_iload_n (pc := 4) dX8_refusalOfRebuilding_4 rfl 1 rfl ?_
  obtain ⟨r13, σ12, h11, h⟩ := g_bId h
  refine g_callVi (pc := 5) (st := []) hE.1 wvX8_140 rfl rfl (kX6_isDisk hE v1 σ h11) rfl (gR_ok (by decide) (by decide)) (Nat.le_of_ble_eq_true rfl) rfl dX8_refusalOfRebuilding_5 ?_
  refine g_if_ne (pc := 8) (tgt := 13) dX8_refusalOfRebuilding_8 (by decide) (fun c14 => ?_) (fun c14 => ?_)
  · have h := g_iff c14 h
    refine g_iload_n (pc := 13) dX8_refusalOfRebuilding_13 rfl 2 rfl ?_
    refine g_iconst (pc := 14) (v := 1) dX8_refusalOfRebuilding_14 (by decide) ?_
    refine g_icmp_lt (pc := 15) (tgt := 24) dX8_refusalOfRebuilding_15 (by decide) (fun c15 => ?_) (fun c15 => ?_)
    · have h := g_ift c15 h
      refine g_iconst (pc := 24) (v := 1) dX8_refusalOfRebuilding_24 (by decide) ?_
      cases h
      exact g_iret (pc := 25) rfl rfl rfl rfl dX8_refusalOfRebuilding_25
    · have h := g_iff c15 h
      refine g_iload_n (pc := 18) dX8_refusalOfRebuilding_18 rfl 2 rfl ?_
      refine g_bipush (pc := 19) (v := 12) dX8_refusalOfRebuilding_19 (by decide) ?_
      refine g_icmp_le (pc := 21) (tgt := 26) dX8_refusalOfRebuilding_21 (by decide) (fun c16 => ?_) (fun c16 => ?_)
      · have h := g_ift c16 h
        refine g_aload_n (pc := 26) dX8_refusalOfRebuilding_26 rfl 0 rfl ?_
        refine g_iload_n (pc := 27) dX8_refusalOfRebuilding_27 rfl 1 rfl ?_
        refine g_iconst (pc := 28) (v := 2) dX8_refusalOfRebuilding_28 (by decide) ?_
        obtain ⟨r19, σ18, h17, h⟩ := g_bId h
        refine g_callVi (pc := 29) (st := []) hE.1 wvX8_49 (sX_shelf (i := i) hi) rfl (kX8_stands hE i hi v1 2 σ12 h17) rfl (gR_ok (by decide) (by decide)) (Nat.le_of_ble_eq_true rfl) rfl dX8_refusalOfRebuilding_29 ?_
        refine g_if_eq (pc := 32) (tgt := 39) dX8_refusalOfRebuilding_32 (by decide) (fun c20 => ?_) (fun c20 => ?_)
        · have h := g_ift c20 h
          refine g_iconst (pc := 39) (v := 2) dX8_refusalOfRebuilding_39 (by decide) ?_
          cases h
          exact g_iret (pc := 40) rfl rfl rfl rfl dX8_refusalOfRebuilding_40
        · have h := g_iff c20 h
          refine g_iconst (pc := 35) (v := (-1)) dX8_refusalOfRebuilding_35 (by decide) ?_
          refine g_goto (pc := 36) (tgt := 40) dX8_refusalOfRebuilding_36 (by decide) ?_
          cases h
          exact g_iret (pc := 40) rfl rfl rfl rfl dX8_refusalOfRebuilding_40
      · have h := g_iff c16 h
        refine g_iconst (pc := 24) (v := 1) dX8_refusalOfRebuilding_24 (by decide) ?_
        cases h
        exact g_iret (pc := 25) rfl rfl rfl rfl dX8_refusalOfRebuilding_25
  · have h := g_ift c14 h
    refine g_iconst (pc := 11) (v := 0) dX8_refusalOfRebuilding_11 (by decide) ?_
    cases h
    exact g_iret (pc := 12) rfl rfl rfl rfl dX8_refusalOfRebuilding_12
def fX8_refusalOfScrubbing_b23 (i : Nat) (σ : gM) : Option (Int32 × gM) := some (1, σ)
set_option maxRecDepth 100000 in
theorem tX8_refusalOfScrubbing_b23 (hE : gEX l dC dI ad ca X) {r0 : Int32} {σ' : gM} (i : Nat) (hi : i < 3)  (σ : gM) (h : fX8_refusalOfScrubbing_b23 i σ = some (r0, σ')) : g_G l dC dI ad ca shX X cX8_refusalOfScrubbing 2 RX8 (some .int) (gR 1) (some (.int r0)) σ' 23 [] [] σ := by
  unfold fX8_refusalOfScrubbing_b23 at h
  refine g_iconst (pc := 23) (v := 1) dX8_refusalOfScrubbing_23 (by decide) ?_
  refine g_goto (pc := 24) (tgt := 28) dX8_refusalOfScrubbing_24 (by decide) ?_
  cases h
  exact g_iret (pc := 28) rfl rfl rfl rfl dX8_refusalOfScrubbing_28
def fX8_refusalOfScrubbing (i : Nat) (v1 : Int32) (σ : gM) : Option (Int32 × gM) := g_bI (fX6_present σ) (fun r9 σ8 => if r9 = 0 then (some (0, σ8)) else (if v1 < 1 then (fX8_refusalOfScrubbing_b23 i σ8) else (if v1 ≤ 12 then (some ((-1), σ8)) else (fX8_refusalOfScrubbing_b23 i σ8))))
set_option maxRecDepth 100000 in
theorem kX8_refusalOfScrubbing (hE : gEX l dC dI ad ca X) (i : Nat) (hi : i < 3)  (v1 : Int32) (σ : gM) {r0 : Int32} {σ' : gM} (h : fX8_refusalOfScrubbing i v1 σ = some (r0, σ')) : g_C l dC dI ad ca shX X yX8_refusalOfScrubbing cX8_refusalOfScrubbing 2 (some .int) (gR 1) [.ref (9 + 5 * i), .int v1] σ (some (.int r0)) σ' := by
  refine g_entry (by decide +kernel) (Nat.le_of_ble_eq_true rfl) ?_
  refine g_lvE (lv1 := [(0, .ref (9 + 5 * i)), (1, .int v1)]) rfl ?_
  unfold fX8_refusalOfScrubbing at h
  refine g_aload_n (pc := 0) dX8_refusalOfScrubbing_0 rfl 0 rfl ?_
  refine g_getR (pc := 1) wfX8_18 (sX_shelf (i := i) hi) rfl dX8_refusalOfScrubbing_1 ?_
  obtain ⟨r9, σ8, h7, h⟩ := g_bId h
  refine g_callVi (pc := 4) (st := []) hE.1 wvX8_146 rfl rfl (kX6_present hE σ h7) rfl (gR_ok (by decide) (by decide)) (Nat.le_of_ble_eq_true rfl) rfl dX8_refusalOfScrubbing_4 ?_
  refine g_if_ne (pc := 7) (tgt := 12) dX8_refusalOfScrubbing_7 (by decide) (fun c10 => ?_) (fun c10 => ?_)
  · have h := g_iff c10 h
    refine g_iload_n (pc := 12) dX8_refusalOfScrubbing_12 rfl 1 rfl ?_
    refine g_iconst (pc := 13) (v := 1) dX8_refusalOfScrubbing_13 (by decide) ?_
    refine g_icmp_lt (pc := 14) (tgt := 23) dX8_refusalOfScrubbing_14 (by decide) (fun c11 => ?_) (fun c11 => ?_)
    · have h := g_ift c11 h
      exact g_lv [] rfl (tX8_refusalOfScrubbing_b23 hE i hi σ8 h)
    · have h := g_iff c11 h
      refine g_iload_n (pc := 17) dX8_refusalOfScrubbing_17 rfl 1 rfl ?_
      refine g_bipush (pc := 18) (v := 12) dX8_refusalOfScrubbing_18 (by decide) ?_
      refine g_icmp_le (pc := 20) (tgt := 27) dX8_refusalOfScrubbing_20 (by decide) (fun c12 => ?_) (fun c12 => ?_)
      · have h := g_ift c12 h
        refine g_iconst (pc := 27) (v := (-1)) dX8_refusalOfScrubbing_27 (by decide) ?_
        cases h
        exact g_iret (pc := 28) rfl rfl rfl rfl dX8_refusalOfScrubbing_28
      · have h := g_iff c12 h
        exact g_lv [] rfl (tX8_refusalOfScrubbing_b23 hE i hi σ8 h)
  · have h := g_ift c10 h
    refine g_iconst (pc := 10) (v := 0) dX8_refusalOfScrubbing_10 (by decide) ?_
    cases h
    exact g_iret (pc := 11) rfl rfl rfl rfl dX8_refusalOfScrubbing_11
def fX8_refusalOfSpoiling (i : Nat) (v1 : Int32) (v2 : Int32) (v3 : Int32) (v4 : Int32) (σ : gM) : Option (Int32 × gM) := g_bI (fX6_isCell v1 v2 v3 σ) (fun r16 σ15 => if r16 = 0 then (some (0, σ15)) else (g_bI (fX11_isByte v4 σ15) (fun r20 σ19 => if r20 = 0 then (some (1, σ19)) else (if v4 = 0 then (some (1, σ19)) else (g_bI (fX8_isThere i v1 v2 σ19) (fun r25 σ24 => if r25 = 0 then (some (2, σ24)) else (some ((-1), σ24))))))))
set_option maxRecDepth 100000 in
theorem kX8_refusalOfSpoiling (hE : gEX l dC dI ad ca X) (i : Nat) (hi : i < 3)  (v1 : Int32) (v2 : Int32) (v3 : Int32) (v4 : Int32) (σ : gM) {r0 : Int32} {σ' : gM} (h : fX8_refusalOfSpoiling i v1 v2 v3 v4 σ = some (r0, σ')) : g_C l dC dI ad ca shX X yX8_refusalOfSpoiling cX8_refusalOfSpoiling 5 (some .int) (gR 2) [.ref (9 + 5 * i), .int v1, .int v2, .int v3, .int v4] σ (some (.int r0)) σ' := by
  refine g_entry (by decide +kernel) (Nat.le_of_ble_eq_true rfl) ?_
  refine g_lvE (lv1 := [(0, .ref (9 + 5 * i)), (1, .int v1), (2, .int v2), (3, .int v3), (4, .int v4)]) rfl ?_
  unfold fX8_refusalOfSpoiling at h
  refine g_aload_n (pc := 0) dX8_refusalOfSpoiling_0 rfl 0 rfl ?_
  refine g_getR (pc := 1) wfX8_18 (sX_shelf (i := i) hi) rfl dX8_refusalOfSpoiling_1 ?_
  refine g_iload_n (pc := 4) dX8_refusalOfSpoiling_4 rfl 1 rfl ?_
  refine g_iload_n (pc := 5) dX8_refusalOfSpoiling_5 rfl 2 rfl ?_
  refine g_iload_n (pc := 6) dX8_refusalOfSpoiling_6 rfl 3 rfl ?_
  obtain ⟨r16, σ15, h14, h⟩ := g_bId h
  refine g_callVi (pc := 7) (st := []) hE.1 wvX8_150 rfl rfl (kX6_isCell hE v1 v2 v3 σ h14) rfl (gR_ok (by decide) (by decide)) (Nat.le_of_ble_eq_true rfl) rfl dX8_refusalOfSpoiling_7 ?_
  refine g_if_ne (pc := 10) (tgt := 15) dX8_refusalOfSpoiling_10 (by decide) (fun c17 => ?_) (fun c17 => ?_)
  · have h := g_iff c17 h
    refine g_iload (pc := 15) dX8_refusalOfSpoiling_15 4 rfl ?_
    obtain ⟨r20, σ19, h18, h⟩ := g_bId h
    refine g_callNi (pc := 17) (st := []) hE.1 wnX8_137 (xnA hE) (kX11_isByte hE v4 σ15 h18) rfl (gR_ok (by decide) (by decide)) (Nat.le_of_ble_eq_true rfl) rfl dX8_refusalOfSpoiling_17 ?_
    refine g_if_eq (pc := 20) (tgt := 28) dX8_refusalOfSpoiling_20 (by decide) (fun c21 => ?_) (fun c21 => ?_)
    · have h := g_ift c21 h
      refine g_iconst (pc := 28) (v := 1) dX8_refusalOfSpoiling_28 (by decide) ?_
      cases h
      exact g_iret (pc := 29) rfl rfl rfl rfl dX8_refusalOfSpoiling_29
    · have h := g_iff c21 h
      refine g_iload (pc := 23) dX8_refusalOfSpoiling_23 4 rfl ?_
      refine g_if_ne (pc := 25) (tgt := 30) dX8_refusalOfSpoiling_25 (by decide) (fun c22 => ?_) (fun c22 => ?_)
      · have h := g_iff c22 h
        refine g_aload_n (pc := 30) dX8_refusalOfSpoiling_30 rfl 0 rfl ?_
        refine g_iload_n (pc := 31) dX8_refusalOfSpoiling_31 rfl 1 rfl ?_
        refine g_iload_n (pc := 32) dX8_refusalOfSpoiling_32 rfl 2 rfl ?_
        obtain ⟨r25, σ24, h23, h⟩ := g_bId h
        refine g_callVi (pc := 33) (st := []) hE.1 wvX8_45 (sX_shelf (i := i) hi) rfl (kX8_isThere hE i hi v1 v2 σ19 h23) rfl (gR_ok (by decide) (by decide)) (Nat.le_of_ble_eq_true rfl) rfl dX8_refusalOfSpoiling_33 ?_
        refine g_if_eq (pc := 36) (tgt := 43) dX8_refusalOfSpoiling_36 (by decide) (fun c26 => ?_) (fun c26 => ?_)
        · have h := g_ift c26 h
          refine g_iconst (pc := 43) (v := 2) dX8_refusalOfSpoiling_43 (by decide) ?_
          cases h
          exact g_iret (pc := 44) rfl rfl rfl rfl dX8_refusalOfSpoiling_44
        · have h := g_iff c26 h
          refine g_iconst (pc := 39) (v := (-1)) dX8_refusalOfSpoiling_39 (by decide) ?_
          refine g_goto (pc := 40) (tgt := 44) dX8_refusalOfSpoiling_40 (by decide) ?_
          cases h
          exact g_iret (pc := 44) rfl rfl rfl rfl dX8_refusalOfSpoiling_44
      · have h := g_ift c22 h
        refine g_iconst (pc := 28) (v := 1) dX8_refusalOfSpoiling_28 (by decide) ?_
        cases h
        exact g_iret (pc := 29) rfl rfl rfl rfl dX8_refusalOfSpoiling_29
  · have h := g_ift c17 h
    refine g_iconst (pc := 13) (v := 0) dX8_refusalOfSpoiling_13 (by decide) ?_
    cases h
    exact g_iret (pc := 14) rfl rfl rfl rfl dX8_refusalOfSpoiling_14
def fX8_refusalOfTearing (n : Nat) (i : Nat) (v1 : Int32) (v2 : Int32) (v3 : Int32) (σ : gM) : Option (Int32 × gM) := g_bI (fX6_isAddress v1 σ) (fun r26 σ25 => if r26 = 0 then (some (0, σ25)) else (g_bI (fX11_isByte v2 σ25) (fun r30 σ29 => if r30 = 0 then (some (1, σ29)) else (if v3 < 0 then (some (1, σ29)) else (if v3 ≤ 2 then (g_bI (fX6_partOf v1 σ29) (fun r36 σ35 => g_bI (fX8_writeBits i 0 r36 σ35) (fun r39 σ38 => g_bI (fX6_stripeOf v1 σ38) (fun r42 σ41 => g_bI (fX8_missing n i r42 σ41) (fun r45 σ44 => if (r45 &&& r39) = 0 then (some ((-1), σ44)) else (some (2, σ44))))))) else (some (1, σ29)))))))
set_option maxRecDepth 100000 in
theorem kX8_refusalOfTearing (hE : gEX l dC dI ad ca X) (n : Nat) (i : Nat) (hi : i < 3)  (v1 : Int32) (v2 : Int32) (v3 : Int32) (σ : gM) {r0 : Int32} {σ' : gM} (h : fX8_refusalOfTearing n i v1 v2 v3 σ = some (r0, σ')) : g_C l dC dI ad ca shX X yX8_refusalOfTearing cX8_refusalOfTearing 5 (some .int) (gR 3) [.ref (9 + 5 * i), .int v1, .int v2, .int v3] σ (some (.int r0)) σ' := by
  refine g_entry (by decide +kernel) (Nat.le_of_ble_eq_true rfl) ?_
  refine g_lvE (lv1 := [(0, .ref (9 + 5 * i)), (1, .int v1), (2, .int v2), (3, .int v3)]) rfl ?_
  unfold fX8_refusalOfTearing at h
  refine g_aload_n (pc := 0) dX8_refusalOfTearing_0 rfl 0 rfl ?_
  refine g_getR (pc := 1) wfX8_18 (sX_shelf (i := i) hi) rfl dX8_refusalOfTearing_1 ?_
  refine g_iload_n (pc := 4) dX8_refusalOfTearing_4 rfl 1 rfl ?_
  obtain ⟨r26, σ25, h24, h⟩ := g_bId h
  refine g_callVi (pc := 5) (st := []) hE.1 wvX8_133 rfl rfl (kX6_isAddress hE v1 σ h24) rfl (gR_ok (by decide) (by decide)) (Nat.le_of_ble_eq_true rfl) rfl dX8_refusalOfTearing_5 ?_
  refine g_if_ne (pc := 8) (tgt := 13) dX8_refusalOfTearing_8 (by decide) (fun c27 => ?_) (fun c27 => ?_)
  · have h := g_iff c27 h
    refine g_iload_n (pc := 13) dX8_refusalOfTearing_13 rfl 2 rfl ?_
    obtain ⟨r30, σ29, h28, h⟩ := g_bId h
    refine g_callNi (pc := 14) (st := []) hE.1 wnX8_137 (xnA hE) (kX11_isByte hE v2 σ25 h28) rfl (gR_ok (by decide) (by decide)) (Nat.le_of_ble_eq_true rfl) rfl dX8_refusalOfTearing_14 ?_
    refine g_if_eq (pc := 17) (tgt := 29) dX8_refusalOfTearing_17 (by decide) (fun c31 => ?_) (fun c31 => ?_)
    · have h := g_ift c31 h
      refine g_iconst (pc := 29) (v := 1) dX8_refusalOfTearing_29 (by decide) ?_
      cases h
      exact g_iret (pc := 30) rfl rfl rfl rfl dX8_refusalOfTearing_30
    · have h := g_iff c31 h
      refine g_iload_n (pc := 20) dX8_refusalOfTearing_20 rfl 3 rfl ?_
      refine g_if_lt (pc := 21) (tgt := 29) dX8_refusalOfTearing_21 (by decide) (fun c32 => ?_) (fun c32 => ?_)
      · have h := g_ift c32 h
        refine g_iconst (pc := 29) (v := 1) dX8_refusalOfTearing_29 (by decide) ?_
        cases h
        exact g_iret (pc := 30) rfl rfl rfl rfl dX8_refusalOfTearing_30
      · have h := g_iff c32 h
        refine g_iload_n (pc := 24) dX8_refusalOfTearing_24 rfl 3 rfl ?_
        refine g_iconst (pc := 25) (v := 2) dX8_refusalOfTearing_25 (by decide) ?_
        refine g_icmp_le (pc := 26) (tgt := 31) dX8_refusalOfTearing_26 (by decide) (fun c33 => ?_) (fun c33 => ?_)
        · have h := g_ift c33 h
          refine g_aload_n (pc := 31) dX8_refusalOfTearing_31 rfl 0 rfl ?_
          refine g_iconst (pc := 32) (v := 0) dX8_refusalOfTearing_32 (by decide) ?_
          refine g_aload_n (pc := 33) dX8_refusalOfTearing_33 rfl 0 rfl ?_
          refine g_getR (pc := 34) wfX8_18 (sX_shelf (i := i) hi) rfl dX8_refusalOfTearing_34 ?_
          refine g_iload_n (pc := 37) dX8_refusalOfTearing_37 rfl 1 rfl ?_
          obtain ⟨r36, σ35, h34, h⟩ := g_bId h
          refine g_callVi (pc := 38) (st := [.int 0, .ref (9 + 5 * i)]) hE.1 wvX8_74 rfl rfl (kX6_partOf hE v1 σ29 h34) rfl (gR_ok (by decide) (by decide)) (Nat.le_of_ble_eq_true rfl) rfl dX8_refusalOfTearing_38 ?_
          obtain ⟨r39, σ38, h37, h⟩ := g_bId h
          refine g_callVi (pc := 41) (st := []) hE.1 wvX8_85 (sX_shelf (i := i) hi) rfl (kX8_writeBits hE i hi 0 r36 σ35 h37) rfl (gR_ok (by decide) (by decide)) (Nat.le_of_ble_eq_true rfl) rfl dX8_refusalOfTearing_41 ?_
          refine g_istore (pc := 44) (lv1 := [(4, .int r39), (0, .ref (9 + 5 * i)), (1, .int v1), (2, .int v2), (3, .int v3)]) dX8_refusalOfTearing_44 (by decide) rfl ?_
          refine g_aload_n (pc := 46) dX8_refusalOfTearing_46 rfl 1 rfl ?_
          refine g_aload_n (pc := 47) dX8_refusalOfTearing_47 rfl 1 rfl ?_
          refine g_getR (pc := 48) wfX8_18 (sX_shelf (i := i) hi) rfl dX8_refusalOfTearing_48 ?_
          refine g_iload_n (pc := 51) dX8_refusalOfTearing_51 rfl 2 rfl ?_
          obtain ⟨r42, σ41, h40, h⟩ := g_bId h
          refine g_callVi (pc := 52) (st := [.ref (9 + 5 * i)]) hE.1 wvX8_61 rfl rfl (kX6_stripeOf hE v1 σ38 h40) rfl (gR_ok (by decide) (by decide)) (Nat.le_of_ble_eq_true rfl) rfl dX8_refusalOfTearing_52 ?_
          obtain ⟨r45, σ44, h43, h⟩ := g_bId h
          refine g_callVi (pc := 55) (st := []) hE.1 wvX8_67 (sX_shelf (i := i) hi) rfl (kX8_missing hE n i hi r42 σ41 h43) rfl (gR_ok (by decide) (by decide)) (Nat.le_of_ble_eq_true rfl) rfl dX8_refusalOfTearing_55 ?_
          refine g_iload (pc := 58) dX8_refusalOfTearing_58 0 rfl ?_
          refine g_iand (pc := 60) dX8_refusalOfTearing_60 ?_
          refine g_if_ne (pc := 61) (tgt := 68) dX8_refusalOfTearing_61 (by decide) (fun c46 => ?_) (fun c46 => ?_)
          · have h := g_iff c46 h
            refine g_iconst (pc := 68) (v := 2) dX8_refusalOfTearing_68 (by decide) ?_
            cases h
            exact g_iret (pc := 69) rfl rfl rfl rfl dX8_refusalOfTearing_69
          · have h := g_ift c46 h
            refine g_iconst (pc := 64) (v := (-1)) dX8_refusalOfTearing_64 (by decide) ?_
            refine g_goto (pc := 65) (tgt := 69) dX8_refusalOfTearing_65 (by decide) ?_
            cases h
            exact g_iret (pc := 69) rfl rfl rfl rfl dX8_refusalOfTearing_69
        · have h := g_iff c33 h
          refine g_iconst (pc := 29) (v := 1) dX8_refusalOfTearing_29 (by decide) ?_
          cases h
          exact g_iret (pc := 30) rfl rfl rfl rfl dX8_refusalOfTearing_30
  · have h := g_ift c27 h
    refine g_iconst (pc := 11) (v := 0) dX8_refusalOfTearing_11 (by decide) ?_
    cases h
    exact g_iret (pc := 12) rfl rfl rfl rfl dX8_refusalOfTearing_12
def fX8_refusalOfCleaning_b43 (n : Nat) (i : Nat) (K14 : Int32 → gM → Option (Int32 × gM)) (v1 : Int32) (σ : gM) : Option (Int32 × gM) := K14 (v1 + 1) σ
set_option maxRecDepth 100000 in
theorem tX8_refusalOfCleaning_b43 (hE : gEX l dC dI ad ca X) {r0 : Int32} {σ' : gM} (n : Nat) (i : Nat) (hi : i < 3) (K14 : Int32 → gM → Option (Int32 × gM)) (hK14 : ∀ (v1 : Int32) (σ : gM), K14 v1 σ = some (r0, σ') → g_G l dC dI ad ca shX X cX8_refusalOfCleaning 2 RX8 (some .int) (gR 3) (some (.int r0)) σ' 14 [(0, .ref (9 + 5 * i)), (1, .int v1)] [] σ) (v1 : Int32)  (σ : gM) (h : fX8_refusalOfCleaning_b43 n i K14 v1 σ = some (r0, σ')) : g_G l dC dI ad ca shX X cX8_refusalOfCleaning 2 RX8 (some .int) (gR 3) (some (.int r0)) σ' 43 [(0, .ref (9 + 5 * i)), (1, .int v1)] [] σ := by
  unfold fX8_refusalOfCleaning_b43 at h
  refine g_iinc (pc := 43) (v := v1 + 1) (lv1 := [(1, .int (v1 + 1)), (0, .ref (9 + 5 * i))]) dX8_refusalOfCleaning_43 1 rfl rfl (by decide) rfl ?_
  refine g_goto (pc := 46) (tgt := 14) dX8_refusalOfCleaning_46 (by decide) ?_
  exact g_lv [1, 0] rfl (hK14 (v1 + 1) σ h)
def fX8_refusalOfCleaning_b14 (n : Nat) (i : Nat) (K14 : Int32 → gM → Option (Int32 × gM)) (v1 : Int32) (σ : gM) : Option (Int32 × gM) := if (σ.1 5 1) ≤ v1 then (some (2, σ)) else (g_bI (fX8_isDirty i v1 σ) (fun r17 σ16 => if r17 = 0 then (fX8_refusalOfCleaning_b43 n i K14 v1 σ16) else (g_bI (fX8_missing n i v1 σ16) (fun r21 σ20 => if r21 = 0 then (some ((-1), σ20)) else (fX8_refusalOfCleaning_b43 n i K14 v1 σ20)))))
set_option maxRecDepth 100000 in
theorem tX8_refusalOfCleaning_b14 (hE : gEX l dC dI ad ca X) {r0 : Int32} {σ' : gM} (n : Nat) (i : Nat) (hi : i < 3) (K14 : Int32 → gM → Option (Int32 × gM)) (hK14 : ∀ (v1 : Int32) (σ : gM), K14 v1 σ = some (r0, σ') → g_G l dC dI ad ca shX X cX8_refusalOfCleaning 2 RX8 (some .int) (gR 3) (some (.int r0)) σ' 14 [(0, .ref (9 + 5 * i)), (1, .int v1)] [] σ) (v1 : Int32)  (σ : gM) (h : fX8_refusalOfCleaning_b14 n i K14 v1 σ = some (r0, σ')) : g_G l dC dI ad ca shX X cX8_refusalOfCleaning 2 RX8 (some .int) (gR 3) (some (.int r0)) σ' 14 [(0, .ref (9 + 5 * i)), (1, .int v1)] [] σ := by
  unfold fX8_refusalOfCleaning_b14 at h
  refine g_iload_n (pc := 14) dX8_refusalOfCleaning_14 rfl 1 rfl ?_
  refine g_aload_n (pc := 15) dX8_refusalOfCleaning_15 rfl 0 rfl ?_
  refine g_getR (pc := 16) wfX8_18 (sX_shelf (i := i) hi) rfl dX8_refusalOfCleaning_16 ?_
  refine g_getI (pc := 19) wfX8_154 rfl rfl dX8_refusalOfCleaning_19 ?_
  refine g_icmp_ge (pc := 22) (tgt := 49) dX8_refusalOfCleaning_22 (by decide) (fun c14 => ?_) (fun c14 => ?_)
  · have h := g_ift c14 h
    refine g_iconst (pc := 49) (v := 2) dX8_refusalOfCleaning_49 (by decide) ?_
    cases h
    exact g_iret (pc := 50) rfl rfl rfl rfl dX8_refusalOfCleaning_50
  · have h := g_iff c14 h
    refine g_aload_n (pc := 25) dX8_refusalOfCleaning_25 rfl 0 rfl ?_
    refine g_iload_n (pc := 26) dX8_refusalOfCleaning_26 rfl 1 rfl ?_
    obtain ⟨r17, σ16, h15, h⟩ := g_bId h
    refine g_callVi (pc := 27) (st := []) hE.1 wvX8_157 (sX_shelf (i := i) hi) rfl (kX8_isDirty hE i hi v1 σ h15) rfl (gR_ok (by decide) (by decide)) (Nat.le_of_ble_eq_true rfl) rfl dX8_refusalOfCleaning_27 ?_
    refine g_if_eq (pc := 30) (tgt := 43) dX8_refusalOfCleaning_30 (by decide) (fun c18 => ?_) (fun c18 => ?_)
    · have h := g_ift c18 h
      exact g_lv [0, 1] rfl (tX8_refusalOfCleaning_b43 hE n i hi K14 hK14 v1 σ16 h)
    · have h := g_iff c18 h
      refine g_aload_n (pc := 33) dX8_refusalOfCleaning_33 rfl 0 rfl ?_
      refine g_iload_n (pc := 34) dX8_refusalOfCleaning_34 rfl 1 rfl ?_
      obtain ⟨r21, σ20, h19, h⟩ := g_bId h
      refine g_callVi (pc := 35) (st := []) hE.1 wvX8_67 (sX_shelf (i := i) hi) rfl (kX8_missing hE n i hi v1 σ16 h19) rfl (gR_ok (by decide) (by decide)) (Nat.le_of_ble_eq_true rfl) rfl dX8_refusalOfCleaning_35 ?_
      refine g_if_ne (pc := 38) (tgt := 43) dX8_refusalOfCleaning_38 (by decide) (fun c22 => ?_) (fun c22 => ?_)
      · have h := g_iff c22 h
        exact g_lv [0, 1] rfl (tX8_refusalOfCleaning_b43 hE n i hi K14 hK14 v1 σ20 h)
      · have h := g_ift c22 h
        refine g_iconst (pc := 41) (v := (-1)) dX8_refusalOfCleaning_41 (by decide) ?_
        cases h
        exact g_iret (pc := 42) rfl rfl rfl rfl dX8_refusalOfCleaning_42
def fX8_refusalOfCleaning_L14 (n : Nat) (i : Nat) : Nat → Int32 → gM → Option (Int32 × gM)
  | 0 => fun _ _ => none
  | k + 1 => fX8_refusalOfCleaning_b14 n i (fX8_refusalOfCleaning_L14 n i k)
theorem tX8_refusalOfCleaning_L14 (hE : gEX l dC dI ad ca X) {r0 : Int32} {σ' : gM} (n : Nat) (i : Nat) (hi : i < 3)  : ∀ (k : Nat) (v1 : Int32) (σ : gM), fX8_refusalOfCleaning_L14 n i k v1 σ = some (r0, σ') → g_G l dC dI ad ca shX X cX8_refusalOfCleaning 2 RX8 (some .int) (gR 3) (some (.int r0)) σ' 14 [(0, .ref (9 + 5 * i)), (1, .int v1)] [] σ := by
  intro k
  induction k with
  | zero => intro v1 σ h; cases h
  | succ k ih => intro v1 σ h; exact tX8_refusalOfCleaning_b14 hE n i hi (fX8_refusalOfCleaning_L14 n i k) ih v1 σ h
def fX8_refusalOfCleaning (n : Nat) (i : Nat) (σ : gM) : Option (Int32 × gM) := g_bI (fX6_present σ) (fun r25 σ24 => if r25 = 0 then (some (0, σ24)) else (fX8_refusalOfCleaning_L14 n i n 0 σ24))
set_option maxRecDepth 100000 in
theorem kX8_refusalOfCleaning (hE : gEX l dC dI ad ca X) (n : Nat) (i : Nat) (hi : i < 3)  (σ : gM) {r0 : Int32} {σ' : gM} (h : fX8_refusalOfCleaning n i σ = some (r0, σ')) : g_C l dC dI ad ca shX X yX8_refusalOfCleaning cX8_refusalOfCleaning 2 (some .int) (gR 3) [.ref (9 + 5 * i)] σ (some (.int r0)) σ' := by
  refine g_entry (by decide +kernel) (Nat.le_of_ble_eq_true rfl) ?_
  refine g_lvE (lv1 := [(0, .ref (9 + 5 * i))]) rfl ?_
  unfold fX8_refusalOfCleaning at h
  refine g_aload_n (pc := 0) dX8_refusalOfCleaning_0 rfl 0 rfl ?_
  refine g_getR (pc := 1) wfX8_18 (sX_shelf (i := i) hi) rfl dX8_refusalOfCleaning_1 ?_
  obtain ⟨r25, σ24, h23, h⟩ := g_bId h
  refine g_callVi (pc := 4) (st := []) hE.1 wvX8_146 rfl rfl (kX6_present hE σ h23) rfl (gR_ok (by decide) (by decide)) (Nat.le_of_ble_eq_true rfl) rfl dX8_refusalOfCleaning_4 ?_
  refine g_if_ne (pc := 7) (tgt := 12) dX8_refusalOfCleaning_7 (by decide) (fun c26 => ?_) (fun c26 => ?_)
  · have h := g_iff c26 h
    refine g_iconst (pc := 12) (v := 0) dX8_refusalOfCleaning_12 (by decide) ?_
    refine g_istore_n (pc := 13) (lv1 := [(1, .int 0), (0, .ref (9 + 5 * i))]) dX8_refusalOfCleaning_13 rfl (by decide) rfl ?_
    exact g_lv [1, 0] rfl (tX8_refusalOfCleaning_L14 hE n i hi n 0 σ24 h)
  · have h := g_ift c26 h
    refine g_iconst (pc := 10) (v := 0) dX8_refusalOfCleaning_10 (by decide) ?_
    cases h
    exact g_iret (pc := 11) rfl rfl rfl rfl dX8_refusalOfCleaning_11
def fX8_refusalOfFull (i : Nat) (v1 : Int32) (v2 : Int32) (v3 : Int32) (v4 : Int32) (σ : gM) : Option (Int32 × gM) := g_bI (fX6_isStripe v1 σ) (fun r19 σ18 => if r19 = 0 then (some (0, σ18)) else (g_bI (fX6_isByteOfChunk v2 σ18) (fun r23 σ22 => if r23 = 0 then (some (0, σ22)) else (g_bI (fX11_isByte v3 σ22) (fun r27 σ26 => if r27 = 0 then (some (1, σ26)) else (g_bI (fX11_isByte v4 σ26) (fun r31 σ30 => if r31 = 0 then (some (1, σ30)) else (some ((-1), σ30)))))))))
set_option maxRecDepth 100000 in
theorem kX8_refusalOfFull (hE : gEX l dC dI ad ca X) (i : Nat) (hi : i < 3)  (v1 : Int32) (v2 : Int32) (v3 : Int32) (v4 : Int32) (σ : gM) {r0 : Int32} {σ' : gM} (h : fX8_refusalOfFull i v1 v2 v3 v4 σ = some (r0, σ')) : g_C l dC dI ad ca shX X yX8_refusalOfFull cX8_refusalOfFull 5 (some .int) (gR 1) [.ref (9 + 5 * i), .int v1, .int v2, .int v3, .int v4] σ (some (.int r0)) σ' := by
  refine g_entry (by decide +kernel) (Nat.le_of_ble_eq_true rfl) ?_
  refine g_lvE (lv1 := [(0, .ref (9 + 5 * i)), (1, .int v1), (2, .int v2), (3, .int v3), (4, .int v4)]) rfl ?_
  unfold fX8_refusalOfFull at h
  refine g_aload_n (pc := 0) dX8_refusalOfFull_0 rfl 0 rfl ?_
  refine g_getR (pc := 1) wfX8_18 (sX_shelf (i := i) hi) rfl dX8_refusalOfFull_1 ?_
  refine g_iload_n (pc := 4) dX8_refusalOfFull_4 rfl 1 rfl ?_
  obtain ⟨r19, σ18, h17, h⟩ := g_bId h
  refine g_callVi (pc := 5) (st := []) hE.1 wvX8_160 rfl rfl (kX6_isStripe hE v1 σ h17) rfl (gR_ok (by decide) (by decide)) (Nat.le_of_ble_eq_true rfl) rfl dX8_refusalOfFull_5 ?_
  refine g_if_eq (pc := 8) (tgt := 22) dX8_refusalOfFull_8 (by decide) (fun c20 => ?_) (fun c20 => ?_)
  · have h := g_ift c20 h
    refine g_iconst (pc := 22) (v := 0) dX8_refusalOfFull_22 (by decide) ?_
    cases h
    exact g_iret (pc := 23) rfl rfl rfl rfl dX8_refusalOfFull_23
  · have h := g_iff c20 h
    refine g_aload_n (pc := 11) dX8_refusalOfFull_11 rfl 0 rfl ?_
    refine g_getR (pc := 12) wfX8_18 (sX_shelf (i := i) hi) rfl dX8_refusalOfFull_12 ?_
    refine g_iload_n (pc := 15) dX8_refusalOfFull_15 rfl 2 rfl ?_
    obtain ⟨r23, σ22, h21, h⟩ := g_bId h
    refine g_callVi (pc := 16) (st := []) hE.1 wvX8_163 rfl rfl (kX6_isByteOfChunk hE v2 σ18 h21) rfl (gR_ok (by decide) (by decide)) (Nat.le_of_ble_eq_true rfl) rfl dX8_refusalOfFull_16 ?_
    refine g_if_ne (pc := 19) (tgt := 24) dX8_refusalOfFull_19 (by decide) (fun c24 => ?_) (fun c24 => ?_)
    · have h := g_iff c24 h
      refine g_iload_n (pc := 24) dX8_refusalOfFull_24 rfl 3 rfl ?_
      obtain ⟨r27, σ26, h25, h⟩ := g_bId h
      refine g_callNi (pc := 25) (st := []) hE.1 wnX8_137 (xnA hE) (kX11_isByte hE v3 σ22 h25) rfl (gR_ok (by decide) (by decide)) (Nat.le_of_ble_eq_true rfl) rfl dX8_refusalOfFull_25 ?_
      refine g_if_eq (pc := 28) (tgt := 43) dX8_refusalOfFull_28 (by decide) (fun c28 => ?_) (fun c28 => ?_)
      · have h := g_ift c28 h
        refine g_iconst (pc := 43) (v := 1) dX8_refusalOfFull_43 (by decide) ?_
        cases h
        exact g_iret (pc := 44) rfl rfl rfl rfl dX8_refusalOfFull_44
      · have h := g_iff c28 h
        refine g_iload (pc := 31) dX8_refusalOfFull_31 4 rfl ?_
        obtain ⟨r31, σ30, h29, h⟩ := g_bId h
        refine g_callNi (pc := 33) (st := []) hE.1 wnX8_137 (xnA hE) (kX11_isByte hE v4 σ26 h29) rfl (gR_ok (by decide) (by decide)) (Nat.le_of_ble_eq_true rfl) rfl dX8_refusalOfFull_33 ?_
        refine g_if_eq (pc := 36) (tgt := 43) dX8_refusalOfFull_36 (by decide) (fun c32 => ?_) (fun c32 => ?_)
        · have h := g_ift c32 h
          refine g_iconst (pc := 43) (v := 1) dX8_refusalOfFull_43 (by decide) ?_
          cases h
          exact g_iret (pc := 44) rfl rfl rfl rfl dX8_refusalOfFull_44
        · have h := g_iff c32 h
          refine g_iconst (pc := 39) (v := (-1)) dX8_refusalOfFull_39 (by decide) ?_
          refine g_goto (pc := 40) (tgt := 44) dX8_refusalOfFull_40 (by decide) ?_
          cases h
          exact g_iret (pc := 44) rfl rfl rfl rfl dX8_refusalOfFull_44
    · have h := g_ift c24 h
      refine g_iconst (pc := 22) (v := 0) dX8_refusalOfFull_22 (by decide) ?_
      cases h
      exact g_iret (pc := 23) rfl rfl rfl rfl dX8_refusalOfFull_23
def fX8_refusal (n : Nat) (i : Nat) (v1 : Int32) (v2 : Int32) (v3 : Int32) (v4 : Int32) (v5 : Int32) (σ : gM) : Option (Int32 × gM) := if v1 = 0 then (g_bI (fX8_refusalOfWrite i v2 v3 σ) (fun r41 σ40 => some (r41, σ40))) else (if v1 = 1 then (g_bI (fX8_refusalOfLoss n i v2 σ) (fun r45 σ44 => some (r45, σ44))) else (if v1 = 2 then (g_bI (fX8_refusalOfReplacing i v2 σ) (fun r49 σ48 => some (r49, σ48))) else (if v1 = 3 then (g_bI (fX8_refusalOfRebuilding i v2 v3 σ) (fun r53 σ52 => some (r53, σ52))) else (if v1 = 4 then (g_bI (fX8_refusalOfScrubbing i v2 σ) (fun r57 σ56 => some (r57, σ56))) else (if v1 = 5 then (g_bI (fX8_refusalOfSpoiling i v2 v3 v4 v5 σ) (fun r61 σ60 => some (r61, σ60))) else (if v1 = 6 then (g_bI (fX8_refusalOfTearing n i v2 v3 v4 σ) (fun r65 σ64 => some (r65, σ64))) else (if v1 = 7 then (g_bI (fX8_refusalOfCleaning n i σ) (fun r69 σ68 => some (r69, σ68))) else (if v1 = 8 then (g_bI (fX8_refusalOfFull i v2 v3 v4 v5 σ) (fun r73 σ72 => some (r73, σ72))) else (some (0, σ))))))))))
set_option maxRecDepth 100000 in
theorem kX8_refusal (hE : gEX l dC dI ad ca X) (n : Nat) (i : Nat) (hi : i < 3)  (v1 : Int32) (v2 : Int32) (v3 : Int32) (v4 : Int32) (v5 : Int32) (σ : gM) {r0 : Int32} {σ' : gM} (h : fX8_refusal n i v1 v2 v3 v4 v5 σ = some (r0, σ')) : g_C l dC dI ad ca shX X yX8_refusal cX8_refusal 6 (some .int) (gR 4) [.ref (9 + 5 * i), .int v1, .int v2, .int v3, .int v4, .int v5] σ (some (.int r0)) σ' := by
  refine g_entry (by decide +kernel) (Nat.le_of_ble_eq_true rfl) ?_
  refine g_lvE (lv1 := [(0, .ref (9 + 5 * i)), (1, .int v1), (2, .int v2), (3, .int v3), (4, .int v4), (5, .int v5)]) rfl ?_
  unfold fX8_refusal at h
  refine g_iload_n (pc := 0) dX8_refusal_0 rfl 1 rfl ?_
  by_cases c38 : v1 = 0
  · have h := g_ift c38 h
    refine g_tabIn (pc := 1) (tgt := 52) (off := 51) dX8_refusal_1 (by rw [c38]; decide) (by rw [c38]; decide) (by rw [c38]; decide) (by decide) ?_
    refine g_aload_n (pc := 52) dX8_refusal_52 rfl 0 rfl ?_
    refine g_iload_n (pc := 53) dX8_refusal_53 rfl 2 rfl ?_
    refine g_iload_n (pc := 54) dX8_refusal_54 rfl 3 rfl ?_
    obtain ⟨r41, σ40, h39, h⟩ := g_bId h
    refine g_callVi (pc := 55) (st := []) hE.1 wvX8_105 (sX_shelf (i := i) hi) rfl (kX8_refusalOfWrite hE i hi v2 v3 σ h39) rfl (gR_ok (by decide) (by decide)) (Nat.le_of_ble_eq_true rfl) rfl dX8_refusal_55 ?_
    cases h
    exact g_iret (pc := 58) rfl rfl rfl rfl dX8_refusal_58
  have h := g_iff c38 h
  by_cases c42 : v1 = 1
  · have h := g_ift c42 h
    refine g_tabIn (pc := 1) (tgt := 59) (off := 58) dX8_refusal_1 (by rw [c42]; decide) (by rw [c42]; decide) (by rw [c42]; decide) (by decide) ?_
    refine g_aload_n (pc := 59) dX8_refusal_59 rfl 0 rfl ?_
    refine g_iload_n (pc := 60) dX8_refusal_60 rfl 2 rfl ?_
    obtain ⟨r45, σ44, h43, h⟩ := g_bId h
    refine g_callVi (pc := 61) (st := []) hE.1 wvX8_108 (sX_shelf (i := i) hi) rfl (kX8_refusalOfLoss hE n i hi v2 σ h43) rfl (gR_ok (by decide) (by decide)) (Nat.le_of_ble_eq_true rfl) rfl dX8_refusal_61 ?_
    cases h
    exact g_iret (pc := 64) rfl rfl rfl rfl dX8_refusal_64
  have h := g_iff c42 h
  by_cases c46 : v1 = 2
  · have h := g_ift c46 h
    refine g_tabIn (pc := 1) (tgt := 65) (off := 64) dX8_refusal_1 (by rw [c46]; decide) (by rw [c46]; decide) (by rw [c46]; decide) (by decide) ?_
    refine g_aload_n (pc := 65) dX8_refusal_65 rfl 0 rfl ?_
    refine g_iload_n (pc := 66) dX8_refusal_66 rfl 2 rfl ?_
    obtain ⟨r49, σ48, h47, h⟩ := g_bId h
    refine g_callVi (pc := 67) (st := []) hE.1 wvX8_111 (sX_shelf (i := i) hi) rfl (kX8_refusalOfReplacing hE i hi v2 σ h47) rfl (gR_ok (by decide) (by decide)) (Nat.le_of_ble_eq_true rfl) rfl dX8_refusal_67 ?_
    cases h
    exact g_iret (pc := 70) rfl rfl rfl rfl dX8_refusal_70
  have h := g_iff c46 h
  by_cases c50 : v1 = 3
  · have h := g_ift c50 h
    refine g_tabIn (pc := 1) (tgt := 71) (off := 70) dX8_refusal_1 (by rw [c50]; decide) (by rw [c50]; decide) (by rw [c50]; decide) (by decide) ?_
    refine g_aload_n (pc := 71) dX8_refusal_71 rfl 0 rfl ?_
    refine g_iload_n (pc := 72) dX8_refusal_72 rfl 2 rfl ?_
    refine g_iload_n (pc := 73) dX8_refusal_73 rfl 3 rfl ?_
    obtain ⟨r53, σ52, h51, h⟩ := g_bId h
    refine g_callVi (pc := 74) (st := []) hE.1 wvX8_114 (sX_shelf (i := i) hi) rfl (kX8_refusalOfRebuilding hE i hi v2 v3 σ h51) rfl (gR_ok (by decide) (by decide)) (Nat.le_of_ble_eq_true rfl) rfl dX8_refusal_74 ?_
    cases h
    exact g_iret (pc := 77) rfl rfl rfl rfl dX8_refusal_77
  have h := g_iff c50 h
  by_cases c54 : v1 = 4
  · have h := g_ift c54 h
    refine g_tabIn (pc := 1) (tgt := 78) (off := 77) dX8_refusal_1 (by rw [c54]; decide) (by rw [c54]; decide) (by rw [c54]; decide) (by decide) ?_
    refine g_aload_n (pc := 78) dX8_refusal_78 rfl 0 rfl ?_
    refine g_iload_n (pc := 79) dX8_refusal_79 rfl 2 rfl ?_
    obtain ⟨r57, σ56, h55, h⟩ := g_bId h
    refine g_callVi (pc := 80) (st := []) hE.1 wvX8_117 (sX_shelf (i := i) hi) rfl (kX8_refusalOfScrubbing hE i hi v2 σ h55) rfl (gR_ok (by decide) (by decide)) (Nat.le_of_ble_eq_true rfl) rfl dX8_refusal_80 ?_
    cases h
    exact g_iret (pc := 83) rfl rfl rfl rfl dX8_refusal_83
  have h := g_iff c54 h
  by_cases c58 : v1 = 5
  · have h := g_ift c58 h
    refine g_tabIn (pc := 1) (tgt := 84) (off := 83) dX8_refusal_1 (by rw [c58]; decide) (by rw [c58]; decide) (by rw [c58]; decide) (by decide) ?_
    refine g_aload_n (pc := 84) dX8_refusal_84 rfl 0 rfl ?_
    refine g_iload_n (pc := 85) dX8_refusal_85 rfl 2 rfl ?_
    refine g_iload_n (pc := 86) dX8_refusal_86 rfl 3 rfl ?_
    refine g_iload (pc := 87) dX8_refusal_87 4 rfl ?_
    refine g_iload (pc := 89) dX8_refusal_89 5 rfl ?_
    obtain ⟨r61, σ60, h59, h⟩ := g_bId h
    refine g_callVi (pc := 91) (st := []) hE.1 wvX8_120 (sX_shelf (i := i) hi) rfl (kX8_refusalOfSpoiling hE i hi v2 v3 v4 v5 σ h59) rfl (gR_ok (by decide) (by decide)) (Nat.le_of_ble_eq_true rfl) rfl dX8_refusal_91 ?_
    cases h
    exact g_iret (pc := 94) rfl rfl rfl rfl dX8_refusal_94
  have h := g_iff c58 h
  by_cases c62 : v1 = 6
  · have h := g_ift c62 h
    refine g_tabIn (pc := 1) (tgt := 95) (off := 94) dX8_refusal_1 (by rw [c62]; decide) (by rw [c62]; decide) (by rw [c62]; decide) (by decide) ?_
    refine g_aload_n (pc := 95) dX8_refusal_95 rfl 0 rfl ?_
    refine g_iload_n (pc := 96) dX8_refusal_96 rfl 2 rfl ?_
    refine g_iload_n (pc := 97) dX8_refusal_97 rfl 3 rfl ?_
    refine g_iload (pc := 98) dX8_refusal_98 4 rfl ?_
    obtain ⟨r65, σ64, h63, h⟩ := g_bId h
    refine g_callVi (pc := 100) (st := []) hE.1 wvX8_124 (sX_shelf (i := i) hi) rfl (kX8_refusalOfTearing hE n i hi v2 v3 v4 σ h63) rfl (gR_ok (by decide) (by decide)) (Nat.le_of_ble_eq_true rfl) rfl dX8_refusal_100 ?_
    cases h
    exact g_iret (pc := 103) rfl rfl rfl rfl dX8_refusal_103
  have h := g_iff c62 h
  by_cases c66 : v1 = 7
  · have h := g_ift c66 h
    refine g_tabIn (pc := 1) (tgt := 104) (off := 103) dX8_refusal_1 (by rw [c66]; decide) (by rw [c66]; decide) (by rw [c66]; decide) (by decide) ?_
    refine g_aload_n (pc := 104) dX8_refusal_104 rfl 0 rfl ?_
    obtain ⟨r69, σ68, h67, h⟩ := g_bId h
    refine g_callVi (pc := 105) (st := []) hE.1 wvX8_127 (sX_shelf (i := i) hi) rfl (kX8_refusalOfCleaning hE n i hi σ h67) rfl (gR_ok (by decide) (by decide)) (Nat.le_of_ble_eq_true rfl) rfl dX8_refusal_105 ?_
    cases h
    exact g_iret (pc := 108) rfl rfl rfl rfl dX8_refusal_108
  have h := g_iff c66 h
  by_cases c70 : v1 = 8
  · have h := g_ift c70 h
    refine g_tabIn (pc := 1) (tgt := 109) (off := 108) dX8_refusal_1 (by rw [c70]; decide) (by rw [c70]; decide) (by rw [c70]; decide) (by decide) ?_
    refine g_aload_n (pc := 109) dX8_refusal_109 rfl 0 rfl ?_
    refine g_iload_n (pc := 110) dX8_refusal_110 rfl 2 rfl ?_
    refine g_iload_n (pc := 111) dX8_refusal_111 rfl 3 rfl ?_
    refine g_iload (pc := 112) dX8_refusal_112 4 rfl ?_
    refine g_iload (pc := 114) dX8_refusal_114 5 rfl ?_
    obtain ⟨r73, σ72, h71, h⟩ := g_bId h
    refine g_callVi (pc := 116) (st := []) hE.1 wvX8_130 (sX_shelf (i := i) hi) rfl (kX8_refusalOfFull hE i hi v2 v3 v4 v5 σ h71) rfl (gR_ok (by decide) (by decide)) (Nat.le_of_ble_eq_true rfl) rfl dX8_refusal_116 ?_
    cases h
    exact g_iret (pc := 119) rfl rfl rfl rfl dX8_refusal_119
  have h := g_iff c70 h
  have u74 : (v1).toInt < 0 ∨ 8 < (v1).toInt := by
    have ec38 := g_toInt c38
    have ec42 := g_toInt c42
    have ec46 := g_toInt c46
    have ec50 := g_toInt c50
    have ec54 := g_toInt c54
    have ec58 := g_toInt c58
    have ec62 := g_toInt c62
    have ec66 := g_toInt c66
    have ec70 := g_toInt c70
    rw [show (0 : Int32).toInt = 0 from by decide] at ec38
    rw [show (1 : Int32).toInt = 1 from by decide] at ec42
    rw [show (2 : Int32).toInt = 2 from by decide] at ec46
    rw [show (3 : Int32).toInt = 3 from by decide] at ec50
    rw [show (4 : Int32).toInt = 4 from by decide] at ec54
    rw [show (5 : Int32).toInt = 5 from by decide] at ec58
    rw [show (6 : Int32).toInt = 6 from by decide] at ec62
    rw [show (7 : Int32).toInt = 7 from by decide] at ec66
    rw [show (8 : Int32).toInt = 8 from by decide] at ec70
    omega
  refine g_tabOut (pc := 1) (tgt := 120) dX8_refusal_1 u74 (by decide) ?_
  refine g_iconst (pc := 120) (v := 0) dX8_refusal_120 (by decide) ?_
  cases h
  exact g_iret (pc := 121) rfl rfl rfl rfl dX8_refusal_121
def fX8_doWrite_b108 (n : Nat) (i : Nat) (v3 : Int32) (v4 : Int32) (v5 : Int32) (v6 : Int32) (v7 : Int32) (v8 : Int32) (σ : gM) : Option (Int32 × gM) := g_bI (fX8_readBits i v7 v6 v4 σ) (fun r40 σ39 => g_bV (fX8_countReads n i v3 r40 σ39) (fun σ42 => g_bI (fX8_writeBits i v6 v4 σ42) (fun r45 σ44 => g_bV (fX8_store n i v3 v5 r45 σ44) (fun σ47 => some (v8, σ47)))))
set_option maxRecDepth 100000 in
theorem tX8_doWrite_b108 (hE : gEX l dC dI ad ca X) {r0 : Int32} {σ' : gM} (n : Nat) (i : Nat) (hi : i < 3) (v3 : Int32) (v4 : Int32) (v5 : Int32) (v6 : Int32) (v7 : Int32) (v8 : Int32)  (σ : gM) (h : fX8_doWrite_b108 n i v3 v4 v5 v6 v7 v8 σ = some (r0, σ')) : g_G l dC dI ad ca shX X cX8_doWrite 9 RX8 (some .int) (gR 4) (some (.int r0)) σ' 108 [(0, .ref (9 + 5 * i)), (3, .int v3), (4, .int v4), (5, .int v5), (6, .int v6), (7, .int v7), (8, .int v8)] [] σ := by
  unfold fX8_doWrite_b108 at h
  refine g_aload_n (pc := 108) dX8_doWrite_108 rfl 0 rfl ?_
  refine g_iload_n (pc := 109) dX8_doWrite_109 rfl 1 rfl ?_
  refine g_aload_n (pc := 110) dX8_doWrite_110 rfl 0 rfl ?_
  refine g_iload (pc := 111) dX8_doWrite_111 5 rfl ?_
  refine g_iload (pc := 113) dX8_doWrite_113 4 rfl ?_
  refine g_iload (pc := 115) dX8_doWrite_115 2 rfl ?_
  obtain ⟨r40, σ39, h38, h⟩ := g_bId h
  refine g_callVi (pc := 117) (st := [.int v3, .ref (9 + 5 * i)]) hE.1 wvX8_81 (sX_shelf (i := i) hi) rfl (kX8_readBits hE i hi v7 v6 v4 σ h38) rfl (gR_ok (by decide) (by decide)) (Nat.le_of_ble_eq_true rfl) rfl dX8_doWrite_117 ?_
  obtain ⟨σ42, h41, h⟩ := g_bVd h
  refine g_callVv (pc := 120) (st := []) hE.1 wvX8_205 (sX_shelf (i := i) hi) rfl (kX8_countReads hE n i hi v3 r40 σ39 h41) rfl (gR_ok (by decide) (by decide)) (Nat.le_of_ble_eq_true rfl) rfl dX8_doWrite_120 ?_
  refine g_aload_n (pc := 123) dX8_doWrite_123 rfl 0 rfl ?_
  refine g_iload_n (pc := 124) dX8_doWrite_124 rfl 1 rfl ?_
  refine g_iload (pc := 125) dX8_doWrite_125 3 rfl ?_
  refine g_aload_n (pc := 127) dX8_doWrite_127 rfl 0 rfl ?_
  refine g_iload (pc := 128) dX8_doWrite_128 4 rfl ?_
  refine g_iload (pc := 130) dX8_doWrite_130 2 rfl ?_
  obtain ⟨r45, σ44, h43, h⟩ := g_bId h
  refine g_callVi (pc := 132) (st := [.int v5, .int v3, .ref (9 + 5 * i)]) hE.1 wvX8_85 (sX_shelf (i := i) hi) rfl (kX8_writeBits hE i hi v6 v4 σ42 h43) rfl (gR_ok (by decide) (by decide)) (Nat.le_of_ble_eq_true rfl) rfl dX8_doWrite_132 ?_
  obtain ⟨σ47, h46, h⟩ := g_bVd h
  refine g_callVv (pc := 135) (st := []) hE.1 wvX8_208 (sX_shelf (i := i) hi) rfl (kX8_store hE n i hi v3 v5 r45 σ44 h46) rfl (gR_ok (by decide) (by decide)) (Nat.le_of_ble_eq_true rfl) rfl dX8_doWrite_135 ?_
  refine g_iload (pc := 138) dX8_doWrite_138 6 rfl ?_
  cases h
  exact g_iret (pc := 140) rfl rfl rfl rfl dX8_doWrite_140
def fX8_doWrite (n : Nat) (i : Nat) (v1 : Int32) (v2 : Int32) (σ : gM) : Option (Int32 × gM) := g_bI (fX6_stripeOf v1 σ) (fun r50 σ49 => g_bI (fX6_partOf v1 σ49) (fun r53 σ52 => g_bI (fX6_byteOf v1 σ52) (fun r56 σ55 => g_bI (fX8_missing n i r50 σ55) (fun r59 σ58 => g_bI (fX8_wayOf i r59 r53 σ58) (fun r62 σ61 => g_bV (fX5_gather n i i r50 r56 r59 σ61) (fun σ64 => g_bI (fX5_get i r53 σ64) (fun r67 σ66 => if r62 = 0 then (g_bV (fX5_change i r53 v2 σ66) (fun σ74 => fX8_doWrite_b108 n i r50 r53 r56 r59 r62 r67 σ74)) else (g_bV (fX5_set i r53 v2 σ66) (fun σ70 => g_bV (fX5_reckonSums n i σ70) (fun σ72 => fX8_doWrite_b108 n i r50 r53 r56 r59 r62 r67 σ72))))))))))
set_option maxRecDepth 100000 in
theorem kX8_doWrite (hE : gEX l dC dI ad ca X) (n : Nat) (i : Nat) (hi : i < 3)  (v1 : Int32) (v2 : Int32) (σ : gM) {r0 : Int32} {σ' : gM} (h : fX8_doWrite n i v1 v2 σ = some (r0, σ')) : g_C l dC dI ad ca shX X yX8_doWrite cX8_doWrite 9 (some .int) (gR 4) [.ref (9 + 5 * i), .int v1, .int v2] σ (some (.int r0)) σ' := by
  refine g_entry (by decide +kernel) (Nat.le_of_ble_eq_true rfl) ?_
  refine g_lvE (lv1 := [(0, .ref (9 + 5 * i)), (1, .int v1), (2, .int v2)]) rfl ?_
  unfold fX8_doWrite at h
  refine g_aload_n (pc := 0) dX8_doWrite_0 rfl 0 rfl ?_
  refine g_getR (pc := 1) wfX8_18 (sX_shelf (i := i) hi) rfl dX8_doWrite_1 ?_
  refine g_iload_n (pc := 4) dX8_doWrite_4 rfl 1 rfl ?_
  obtain ⟨r50, σ49, h48, h⟩ := g_bId h
  refine g_callVi (pc := 5) (st := []) hE.1 wvX8_61 rfl rfl (kX6_stripeOf hE v1 σ h48) rfl (gR_ok (by decide) (by decide)) (Nat.le_of_ble_eq_true rfl) rfl dX8_doWrite_5 ?_
  refine g_istore_n (pc := 8) (lv1 := [(3, .int r50), (0, .ref (9 + 5 * i)), (1, .int v1), (2, .int v2)]) dX8_doWrite_8 rfl (by decide) rfl ?_
  refine g_aload_n (pc := 9) dX8_doWrite_9 rfl 1 rfl ?_
  refine g_getR (pc := 10) wfX8_18 (sX_shelf (i := i) hi) rfl dX8_doWrite_10 ?_
  refine g_iload_n (pc := 13) dX8_doWrite_13 rfl 2 rfl ?_
  obtain ⟨r53, σ52, h51, h⟩ := g_bId h
  refine g_callVi (pc := 14) (st := []) hE.1 wvX8_74 rfl rfl (kX6_partOf hE v1 σ49 h51) rfl (gR_ok (by decide) (by decide)) (Nat.le_of_ble_eq_true rfl) rfl dX8_doWrite_14 ?_
  refine g_istore (pc := 17) (lv1 := [(4, .int r53), (3, .int r50), (0, .ref (9 + 5 * i)), (1, .int v1), (2, .int v2)]) dX8_doWrite_17 (by decide) rfl ?_
  refine g_aload_n (pc := 19) dX8_doWrite_19 rfl 2 rfl ?_
  refine g_getR (pc := 20) wfX8_18 (sX_shelf (i := i) hi) rfl dX8_doWrite_20 ?_
  refine g_iload_n (pc := 23) dX8_doWrite_23 rfl 3 rfl ?_
  obtain ⟨r56, σ55, h54, h⟩ := g_bId h
  refine g_callVi (pc := 24) (st := []) hE.1 wvX8_64 rfl rfl (kX6_byteOf hE v1 σ52 h54) rfl (gR_ok (by decide) (by decide)) (Nat.le_of_ble_eq_true rfl) rfl dX8_doWrite_24 ?_
  refine g_istore (pc := 27) (lv1 := [(5, .int r56), (4, .int r53), (3, .int r50), (0, .ref (9 + 5 * i)), (1, .int v1), (2, .int v2)]) dX8_doWrite_27 (by decide) rfl ?_
  refine g_aload_n (pc := 29) dX8_doWrite_29 rfl 3 rfl ?_
  refine g_iload_n (pc := 30) dX8_doWrite_30 rfl 2 rfl ?_
  obtain ⟨r59, σ58, h57, h⟩ := g_bId h
  refine g_callVi (pc := 31) (st := []) hE.1 wvX8_67 (sX_shelf (i := i) hi) rfl (kX8_missing hE n i hi r50 σ55 h57) rfl (gR_ok (by decide) (by decide)) (Nat.le_of_ble_eq_true rfl) rfl dX8_doWrite_31 ?_
  refine g_istore (pc := 34) (lv1 := [(6, .int r59), (5, .int r56), (4, .int r53), (3, .int r50), (0, .ref (9 + 5 * i)), (1, .int v1), (2, .int v2)]) dX8_doWrite_34 (by decide) rfl ?_
  refine g_aload_n (pc := 36) dX8_doWrite_36 rfl 4 rfl ?_
  refine g_iload (pc := 37) dX8_doWrite_37 0 rfl ?_
  refine g_iload (pc := 39) dX8_doWrite_39 2 rfl ?_
  obtain ⟨r62, σ61, h60, h⟩ := g_bId h
  refine g_callVi (pc := 41) (st := []) hE.1 wvX8_193 (sX_shelf (i := i) hi) rfl (kX8_wayOf hE i hi r59 r53 σ58 h60) rfl (gR_ok (by decide) (by decide)) (Nat.le_of_ble_eq_true rfl) rfl dX8_doWrite_41 ?_
  refine g_istore (pc := 44) (lv1 := [(7, .int r62), (6, .int r59), (5, .int r56), (4, .int r53), (3, .int r50), (0, .ref (9 + 5 * i)), (1, .int v1), (2, .int v2)]) dX8_doWrite_44 (by decide) rfl ?_
  refine g_aload_n (pc := 46) dX8_doWrite_46 rfl 5 rfl ?_
  refine g_getR (pc := 47) wfX8_27 (sX_shelf (i := i) hi) rfl dX8_doWrite_47 ?_
  refine g_aload_n (pc := 50) dX8_doWrite_50 rfl 5 rfl ?_
  refine g_getR (pc := 51) wfX8_12 (sX_shelf (i := i) hi) rfl dX8_doWrite_51 ?_
  refine g_iload_n (pc := 54) dX8_doWrite_54 rfl 4 rfl ?_
  refine g_iload (pc := 55) dX8_doWrite_55 2 rfl ?_
  refine g_iload (pc := 57) dX8_doWrite_57 1 rfl ?_
  obtain ⟨σ64, h63, h⟩ := g_bVd h
  refine g_callVv (pc := 59) (st := []) hE.1 wvX8_70 (sX_row (i := i) hi) rfl (kX5_gather hE n i hi i hi r50 r56 r59 σ61 h63) rfl (gR_ok (by decide) (by decide)) (Nat.le_of_ble_eq_true rfl) rfl dX8_doWrite_59 ?_
  refine g_aload_n (pc := 62) dX8_doWrite_62 rfl 5 rfl ?_
  refine g_getR (pc := 63) wfX8_27 (sX_shelf (i := i) hi) rfl dX8_doWrite_63 ?_
  refine g_iload (pc := 66) dX8_doWrite_66 3 rfl ?_
  obtain ⟨r67, σ66, h65, h⟩ := g_bId h
  refine g_callVi (pc := 68) (st := []) hE.1 wvX8_77 (sX_row (i := i) hi) rfl (kX5_get hE i hi r53 σ64 h65) rfl (gR_ok (by decide) (by decide)) (Nat.le_of_ble_eq_true rfl) rfl dX8_doWrite_68 ?_
  refine g_istore (pc := 71) (lv1 := [(8, .int r67), (7, .int r62), (6, .int r59), (5, .int r56), (4, .int r53), (3, .int r50), (0, .ref (9 + 5 * i)), (1, .int v1), (2, .int v2)]) dX8_doWrite_71 (by decide) rfl ?_
  refine g_iload (pc := 73) dX8_doWrite_73 1 rfl ?_
  refine g_if_ne (pc := 75) (tgt := 91) dX8_doWrite_75 (by decide) (fun c68 => ?_) (fun c68 => ?_)
  · have h := g_iff c68 h
    refine g_aload_n (pc := 91) dX8_doWrite_91 rfl 6 rfl ?_
    refine g_getR (pc := 92) wfX8_27 (sX_shelf (i := i) hi) rfl dX8_doWrite_92 ?_
    refine g_iload (pc := 95) dX8_doWrite_95 4 rfl ?_
    refine g_iload_n (pc := 97) dX8_doWrite_97 rfl 8 rfl ?_
    obtain ⟨σ70, h69, h⟩ := g_bVd h
    refine g_callVv (pc := 98) (st := []) hE.1 wvX8_199 (sX_row (i := i) hi) rfl (kX5_set hE i hi r53 v2 σ66 h69) rfl (gR_ok (by decide) (by decide)) (Nat.le_of_ble_eq_true rfl) rfl dX8_doWrite_98 ?_
    refine g_aload_n (pc := 101) dX8_doWrite_101 rfl 6 rfl ?_
    refine g_getR (pc := 102) wfX8_27 (sX_shelf (i := i) hi) rfl dX8_doWrite_102 ?_
    obtain ⟨σ72, h71, h⟩ := g_bVd h
    refine g_callVv (pc := 105) (st := []) hE.1 wvX8_202 (sX_row (i := i) hi) rfl (kX5_reckonSums hE n i hi σ70 h71) rfl (gR_ok (by decide) (by decide)) (Nat.le_of_ble_eq_true rfl) rfl dX8_doWrite_105 ?_
    exact g_lv [6, 5, 4, 3, 2, 1, 0] rfl (tX8_doWrite_b108 hE n i hi r50 r53 r56 r59 r62 r67 σ72 h)
  · have h := g_ift c68 h
    refine g_aload_n (pc := 78) dX8_doWrite_78 rfl 6 rfl ?_
    refine g_getR (pc := 79) wfX8_27 (sX_shelf (i := i) hi) rfl dX8_doWrite_79 ?_
    refine g_iload (pc := 82) dX8_doWrite_82 4 rfl ?_
    refine g_iload_n (pc := 84) dX8_doWrite_84 rfl 8 rfl ?_
    obtain ⟨σ74, h73, h⟩ := g_bVd h
    refine g_callVv (pc := 85) (st := []) hE.1 wvX8_196 (sX_row (i := i) hi) rfl (kX5_change hE i hi r53 v2 σ66 h73) rfl (gR_ok (by decide) (by decide)) (Nat.le_of_ble_eq_true rfl) rfl dX8_doWrite_85 ?_
    refine g_goto (pc := 88) (tgt := 108) dX8_doWrite_88 (by decide) ?_
    exact g_lv [6, 5, 4, 3, 2, 1, 0] rfl (tX8_doWrite_b108 hE n i hi r50 r53 r56 r59 r62 r67 σ74 h)
def fX9_set (i : Nat) (v1 : Int32) (v2 : Int32) (σ : gM) : Option (gM) := if v1 < 0 then (some σ) else (if 144 ≤ v1 then (some σ) else (if ¬ (v1 < 0 ∨ 144 ≤ v1.toNatClampNeg) then (g_let (g_put σ (11 + 5 * i) v1.toNatClampNeg v2) (fun σ9 => some σ9)) else none))
set_option maxRecDepth 100000 in
theorem kX9_set (hE : gEX l dC dI ad ca X) (i : Nat) (hi : i < 3)  (v1 : Int32) (v2 : Int32) (σ : gM) {σ' : gM} (h : fX9_set i v1 v2 σ = some σ') : g_C l dC dI ad ca shX X yX9_set cX9_set 3 none (gR 0) [.ref (10 + 5 * i), .int v1, .int v2] σ none σ' := by
  refine g_entry (by decide +kernel) (Nat.le_of_ble_eq_true rfl) ?_
  refine g_lvE (lv1 := [(0, .ref (10 + 5 * i)), (1, .int v1), (2, .int v2)]) rfl ?_
  unfold fX9_set at h
  refine g_iload_n (pc := 0) dX9_set_0 rfl 1 rfl ?_
  refine g_if_lt (pc := 1) (tgt := 18) dX9_set_1 (by decide) (fun c6 => ?_) (fun c6 => ?_)
  · have h := g_ift c6 h
    cases h
    exact g_vret (pc := 18) rfl rfl rfl dX9_set_18
  · have h := g_iff c6 h
    refine g_iload_n (pc := 4) dX9_set_4 rfl 1 rfl ?_
    refine g_sipush (pc := 5) (v := 144) dX9_set_5 (by decide) ?_
    refine g_icmp_ge (pc := 8) (tgt := 18) dX9_set_8 (by decide) (fun c7 => ?_) (fun c7 => ?_)
    · have h := g_ift c7 h
      cases h
      exact g_vret (pc := 18) rfl rfl rfl dX9_set_18
    · have h := g_iff c7 h
      refine g_aload_n (pc := 11) dX9_set_11 rfl 0 rfl ?_
      refine g_getR (pc := 12) wfX9_11 (sX_state (i := i) hi) rfl dX9_set_12 ?_
      refine g_iload_n (pc := 15) dX9_set_15 rfl 1 rfl ?_
      refine g_iload_n (pc := 16) dX9_set_16 rfl 2 rfl ?_
      obtain ⟨c8, h⟩ := g_gd h
      obtain ⟨σ9, e10, h⟩ := g_ltd h
      refine g_iast (pc := 17) (sX_slots (i := i) hi) c8 rfl e10 dX9_set_17 ?_
      cases h
      exact g_vret (pc := 18) rfl rfl rfl dX9_set_18
def fX8_doLose (n : Nat) (i : Nat) (v1 : Int32) (σ : gM) : Option (Int32 × gM) := g_bV (fX9_set i (96 + v1) 1 σ) (fun σ12 => g_bV (fX9_set i (104 + v1) 0 σ12) (fun σ14 => g_bI (fX8_notWhole n i σ14) (fun r17 σ16 => g_bI (fJ6_bitCount_0f7a4 r17 σ16) (fun r20 σ19 => some (r20, σ19)))))
set_option maxRecDepth 100000 in
theorem kX8_doLose (hE : gEX l dC dI ad ca X) (n : Nat) (i : Nat) (hi : i < 3)  (v1 : Int32) (σ : gM) {r0 : Int32} {σ' : gM} (h : fX8_doLose n i v1 σ = some (r0, σ')) : g_C l dC dI ad ca shX X yX8_doLose cX8_doLose 2 (some .int) (gR 2) [.ref (9 + 5 * i), .int v1] σ (some (.int r0)) σ' := by
  refine g_entry (by decide +kernel) (Nat.le_of_ble_eq_true rfl) ?_
  refine g_lvE (lv1 := [(0, .ref (9 + 5 * i)), (1, .int v1)]) rfl ?_
  unfold fX8_doLose at h
  refine g_aload_n (pc := 0) dX8_doLose_0 rfl 0 rfl ?_
  refine g_getR (pc := 1) wfX8_12 (sX_shelf (i := i) hi) rfl dX8_doLose_1 ?_
  refine g_bipush (pc := 4) (v := 96) dX8_doLose_4 (by decide) ?_
  refine g_iload_n (pc := 6) dX8_doLose_6 rfl 1 rfl ?_
  refine g_iadd (pc := 7) dX8_doLose_7 ?_
  refine g_iconst (pc := 8) (v := 1) dX8_doLose_8 (by decide) ?_
  obtain ⟨σ12, h11, h⟩ := g_bVd h
  refine g_callVv (pc := 9) (st := []) hE.1 wvX8_212 (sX_state (i := i) hi) rfl (kX9_set hE i hi (96 + v1) 1 σ h11) rfl (gR_ok (by decide) (by decide)) (Nat.le_of_ble_eq_true rfl) rfl dX8_doLose_9 ?_
  refine g_aload_n (pc := 12) dX8_doLose_12 rfl 0 rfl ?_
  refine g_getR (pc := 13) wfX8_12 (sX_shelf (i := i) hi) rfl dX8_doLose_13 ?_
  refine g_bipush (pc := 16) (v := 104) dX8_doLose_16 (by decide) ?_
  refine g_iload_n (pc := 18) dX8_doLose_18 rfl 1 rfl ?_
  refine g_iadd (pc := 19) dX8_doLose_19 ?_
  refine g_iconst (pc := 20) (v := 0) dX8_doLose_20 (by decide) ?_
  obtain ⟨σ14, h13, h⟩ := g_bVd h
  refine g_callVv (pc := 21) (st := []) hE.1 wvX8_212 (sX_state (i := i) hi) rfl (kX9_set hE i hi (104 + v1) 0 σ12 h13) rfl (gR_ok (by decide) (by decide)) (Nat.le_of_ble_eq_true rfl) rfl dX8_doLose_21 ?_
  refine g_aload_n (pc := 24) dX8_doLose_24 rfl 0 rfl ?_
  obtain ⟨r17, σ16, h15, h⟩ := g_bId h
  refine g_callVi (pc := 25) (st := []) hE.1 wvX8_52 (sX_shelf (i := i) hi) rfl (kX8_notWhole hE n i hi σ14 h15) rfl (gR_ok (by decide) (by decide)) (Nat.le_of_ble_eq_true rfl) rfl dX8_doLose_25 ?_
  obtain ⟨r20, σ19, h18, h⟩ := g_bId h
  refine g_callSi (pc := 28) (st := []) hE.1 wsX8_56 (kJ6_bitCount_0f7a4 hE r17 σ16 h18) rfl (gR_ok (by decide) (by decide)) (Nat.le_of_ble_eq_true rfl) rfl dX8_doLose_28 ?_
  cases h
  exact g_iret (pc := 31) rfl rfl rfl rfl dX8_doLose_31
def fX8_doReplace (i : Nat) (v1 : Int32) (σ : gM) : Option (Int32 × gM) := g_bV (fX9_set i (96 + v1) 2 σ) (fun σ9 => g_bV (fX9_add i 136 (-1) σ9) (fun σ11 => g_bI (fX9_get i 136 σ11) (fun r14 σ13 => some (r14, σ13))))
set_option maxRecDepth 100000 in
theorem kX8_doReplace (hE : gEX l dC dI ad ca X) (i : Nat) (hi : i < 3)  (v1 : Int32) (σ : gM) {r0 : Int32} {σ' : gM} (h : fX8_doReplace i v1 σ = some (r0, σ')) : g_C l dC dI ad ca shX X yX8_doReplace cX8_doReplace 2 (some .int) (gR 1) [.ref (9 + 5 * i), .int v1] σ (some (.int r0)) σ' := by
  refine g_entry (by decide +kernel) (Nat.le_of_ble_eq_true rfl) ?_
  refine g_lvE (lv1 := [(0, .ref (9 + 5 * i)), (1, .int v1)]) rfl ?_
  unfold fX8_doReplace at h
  refine g_aload_n (pc := 0) dX8_doReplace_0 rfl 0 rfl ?_
  refine g_getR (pc := 1) wfX8_12 (sX_shelf (i := i) hi) rfl dX8_doReplace_1 ?_
  refine g_bipush (pc := 4) (v := 96) dX8_doReplace_4 (by decide) ?_
  refine g_iload_n (pc := 6) dX8_doReplace_6 rfl 1 rfl ?_
  refine g_iadd (pc := 7) dX8_doReplace_7 ?_
  refine g_iconst (pc := 8) (v := 2) dX8_doReplace_8 (by decide) ?_
  obtain ⟨σ9, h8, h⟩ := g_bVd h
  refine g_callVv (pc := 9) (st := []) hE.1 wvX8_212 (sX_state (i := i) hi) rfl (kX9_set hE i hi (96 + v1) 2 σ h8) rfl (gR_ok (by decide) (by decide)) (Nat.le_of_ble_eq_true rfl) rfl dX8_doReplace_9 ?_
  refine g_aload_n (pc := 12) dX8_doReplace_12 rfl 0 rfl ?_
  refine g_getR (pc := 13) wfX8_12 (sX_shelf (i := i) hi) rfl dX8_doReplace_13 ?_
  refine g_sipush (pc := 16) (v := 136) dX8_doReplace_16 (by decide) ?_
  refine g_iconst (pc := 19) (v := (-1)) dX8_doReplace_19 (by decide) ?_
  obtain ⟨σ11, h10, h⟩ := g_bVd h
  refine g_callVv (pc := 20) (st := []) hE.1 wvX8_97 (sX_state (i := i) hi) rfl (kX9_add hE i hi 136 (-1) σ9 h10) rfl (gR_ok (by decide) (by decide)) (Nat.le_of_ble_eq_true rfl) rfl dX8_doReplace_20 ?_
  refine g_aload_n (pc := 23) dX8_doReplace_23 rfl 0 rfl ?_
  refine g_getR (pc := 24) wfX8_12 (sX_shelf (i := i) hi) rfl dX8_doReplace_24 ?_
  refine g_sipush (pc := 27) (v := 136) dX8_doReplace_27 (by decide) ?_
  obtain ⟨r14, σ13, h12, h⟩ := g_bId h
  refine g_callVi (pc := 30) (st := []) hE.1 wvX8_31 (sX_state (i := i) hi) rfl (kX9_get hE i hi 136 σ11 h12) rfl (gR_ok (by decide) (by decide)) (Nat.le_of_ble_eq_true rfl) rfl dX8_doReplace_30 ?_
  cases h
  exact g_iret (pc := 33) rfl rfl rfl rfl dX8_doReplace_33
def fX8_doRebuild_b48 (n : Nat) (i : Nat) (K30 : Int32 → Int32 → Int32 → gM → Option (Int32 × gM)) (K48 : Int32 → Int32 → Int32 → Int32 → Int32 → gM → Option (Int32 × gM)) (v1 : Int32) (v4 : Int32) (v5 : Int32) (v6 : Int32) (v7 : Int32) (σ : gM) : Option (Int32 × gM) := if (σ.1 5 2) ≤ v7 then (K30 v1 v4 (v5 + 1) σ) else (g_bV (fX5_gather n i i v5 v7 v6 σ) (fun σ25 => g_bV (fX8_countReads n i v5 ((σ25.1 5 9) &&& (v6 ^^^ (-1))) σ25) (fun σ27 => g_bI (fX6_partOn v1 v5 σ27) (fun r30 σ29 => g_bV (fX8_store n i v5 v7 (1 <<< (r30 &&& 31)) σ29) (fun σ32 => K48 v1 v4 v5 v6 (v7 + 1) σ32)))))
set_option maxRecDepth 100000 in
theorem tX8_doRebuild_b48 (hE : gEX l dC dI ad ca X) {r0 : Int32} {σ' : gM} (n : Nat) (i : Nat) (hi : i < 3) (K30 : Int32 → Int32 → Int32 → gM → Option (Int32 × gM)) (hK30 : ∀ (v1 : Int32) (v4 : Int32) (v5 : Int32) (σ : gM), K30 v1 v4 v5 σ = some (r0, σ') → g_G l dC dI ad ca shX X cX8_doRebuild 8 RX8 (some .int) (gR 4) (some (.int r0)) σ' 30 [(0, .ref (9 + 5 * i)), (1, .int v1), (4, .int v4), (5, .int v5)] [] σ) (K48 : Int32 → Int32 → Int32 → Int32 → Int32 → gM → Option (Int32 × gM)) (hK48 : ∀ (v1 : Int32) (v4 : Int32) (v5 : Int32) (v6 : Int32) (v7 : Int32) (σ : gM), K48 v1 v4 v5 v6 v7 σ = some (r0, σ') → g_G l dC dI ad ca shX X cX8_doRebuild 8 RX8 (some .int) (gR 4) (some (.int r0)) σ' 48 [(0, .ref (9 + 5 * i)), (1, .int v1), (4, .int v4), (5, .int v5), (6, .int v6), (7, .int v7)] [] σ) (v1 : Int32) (v4 : Int32) (v5 : Int32) (v6 : Int32) (v7 : Int32)  (σ : gM) (h : fX8_doRebuild_b48 n i K30 K48 v1 v4 v5 v6 v7 σ = some (r0, σ')) : g_G l dC dI ad ca shX X cX8_doRebuild 8 RX8 (some .int) (gR 4) (some (.int r0)) σ' 48 [(0, .ref (9 + 5 * i)), (1, .int v1), (4, .int v4), (5, .int v5), (6, .int v6), (7, .int v7)] [] σ := by
  unfold fX8_doRebuild_b48 at h
  refine g_iload (pc := 48) dX8_doRebuild_48 5 rfl ?_
  refine g_aload_n (pc := 50) dX8_doRebuild_50 rfl 0 rfl ?_
  refine g_getR (pc := 51) wfX8_18 (sX_shelf (i := i) hi) rfl dX8_doRebuild_51 ?_
  refine g_getI (pc := 54) wfX8_218 rfl rfl dX8_doRebuild_54 ?_
  refine g_icmp_ge (pc := 57) (tgt := 121) dX8_doRebuild_57 (by decide) (fun c23 => ?_) (fun c23 => ?_)
  · have h := g_ift c23 h
    refine g_iinc (pc := 121) (v := v5 + 1) (lv1 := [(5, .int (v5 + 1)), (0, .ref (9 + 5 * i)), (1, .int v1), (4, .int v4), (6, .int v6), (7, .int v7)]) dX8_doRebuild_121 3 rfl rfl (by decide) rfl ?_
    refine g_goto (pc := 124) (tgt := 30) dX8_doRebuild_124 (by decide) ?_
    exact g_lv [1, 2, 3, 0] rfl (hK30 v1 v4 (v5 + 1) σ h)
  · have h := g_iff c23 h
    refine g_aload_n (pc := 60) dX8_doRebuild_60 rfl 0 rfl ?_
    refine g_getR (pc := 61) wfX8_27 (sX_shelf (i := i) hi) rfl dX8_doRebuild_61 ?_
    refine g_aload_n (pc := 64) dX8_doRebuild_64 rfl 0 rfl ?_
    refine g_getR (pc := 65) wfX8_12 (sX_shelf (i := i) hi) rfl dX8_doRebuild_65 ?_
    refine g_iload (pc := 68) dX8_doRebuild_68 3 rfl ?_
    refine g_iload (pc := 70) dX8_doRebuild_70 5 rfl ?_
    refine g_iload (pc := 72) dX8_doRebuild_72 4 rfl ?_
    obtain ⟨σ25, h24, h⟩ := g_bVd h
    refine g_callVv (pc := 74) (st := []) hE.1 wvX8_70 (sX_row (i := i) hi) rfl (kX5_gather hE n i hi i hi v5 v7 v6 σ h24) rfl (gR_ok (by decide) (by decide)) (Nat.le_of_ble_eq_true rfl) rfl dX8_doRebuild_74 ?_
    refine g_aload_n (pc := 77) dX8_doRebuild_77 rfl 0 rfl ?_
    refine g_iload (pc := 78) dX8_doRebuild_78 3 rfl ?_
    refine g_aload_n (pc := 80) dX8_doRebuild_80 rfl 0 rfl ?_
    refine g_getR (pc := 81) wfX8_18 (sX_shelf (i := i) hi) rfl dX8_doRebuild_81 ?_
    refine g_getI (pc := 84) wfX8_88 rfl rfl dX8_doRebuild_84 ?_
    refine g_iload (pc := 87) dX8_doRebuild_87 4 rfl ?_
    refine g_iconst (pc := 89) (v := (-1)) dX8_doRebuild_89 (by decide) ?_
    refine g_ixor (pc := 90) dX8_doRebuild_90 ?_
    refine g_iand (pc := 91) dX8_doRebuild_91 ?_
    obtain ⟨σ27, h26, h⟩ := g_bVd h
    refine g_callVv (pc := 92) (st := []) hE.1 wvX8_205 (sX_shelf (i := i) hi) rfl (kX8_countReads hE n i hi v5 ((σ25.1 5 9) &&& (v6 ^^^ (-1))) σ25 h26) rfl (gR_ok (by decide) (by decide)) (Nat.le_of_ble_eq_true rfl) rfl dX8_doRebuild_92 ?_
    refine g_aload_n (pc := 95) dX8_doRebuild_95 rfl 0 rfl ?_
    refine g_iload (pc := 96) dX8_doRebuild_96 3 rfl ?_
    refine g_iload (pc := 98) dX8_doRebuild_98 5 rfl ?_
    refine g_iconst (pc := 100) (v := 1) dX8_doRebuild_100 (by decide) ?_
    refine g_aload_n (pc := 101) dX8_doRebuild_101 rfl 0 rfl ?_
    refine g_getR (pc := 102) wfX8_18 (sX_shelf (i := i) hi) rfl dX8_doRebuild_102 ?_
    refine g_iload_n (pc := 105) dX8_doRebuild_105 rfl 1 rfl ?_
    refine g_iload (pc := 106) dX8_doRebuild_106 3 rfl ?_
    obtain ⟨r30, σ29, h28, h⟩ := g_bId h
    refine g_callVi (pc := 108) (st := [.int 1, .int v7, .int v5, .ref (9 + 5 * i)]) hE.1 wvX8_221 rfl rfl (kX6_partOn hE v1 v5 σ27 h28) rfl (gR_ok (by decide) (by decide)) (Nat.le_of_ble_eq_true rfl) rfl dX8_doRebuild_108 ?_
    refine g_ishl (pc := 111) dX8_doRebuild_111 ?_
    obtain ⟨σ32, h31, h⟩ := g_bVd h
    refine g_callVv (pc := 112) (st := []) hE.1 wvX8_208 (sX_shelf (i := i) hi) rfl (kX8_store hE n i hi v5 v7 (1 <<< (r30 &&& 31)) σ29 h31) rfl (gR_ok (by decide) (by decide)) (Nat.le_of_ble_eq_true rfl) rfl dX8_doRebuild_112 ?_
    refine g_iinc (pc := 115) (v := v7 + 1) (lv1 := [(7, .int (v7 + 1)), (0, .ref (9 + 5 * i)), (1, .int v1), (4, .int v4), (5, .int v5), (6, .int v6)]) dX8_doRebuild_115 5 rfl rfl (by decide) rfl ?_
    refine g_goto (pc := 118) (tgt := 48) dX8_doRebuild_118 (by decide) ?_
    exact g_lv [1, 2, 3, 4, 5, 0] rfl (hK48 v1 v4 v5 v6 (v7 + 1) σ32 h)
def fX8_doRebuild_L48 (n : Nat) (i : Nat) (K30 : Int32 → Int32 → Int32 → gM → Option (Int32 × gM)) : Nat → Int32 → Int32 → Int32 → Int32 → Int32 → gM → Option (Int32 × gM)
  | 0 => fun _ _ _ _ _ _ => none
  | k + 1 => fX8_doRebuild_b48 n i K30 (fX8_doRebuild_L48 n i K30 k)
theorem tX8_doRebuild_L48 (hE : gEX l dC dI ad ca X) {r0 : Int32} {σ' : gM} (n : Nat) (i : Nat) (hi : i < 3) (K30 : Int32 → Int32 → Int32 → gM → Option (Int32 × gM)) (hK30 : ∀ (v1 : Int32) (v4 : Int32) (v5 : Int32) (σ : gM), K30 v1 v4 v5 σ = some (r0, σ') → g_G l dC dI ad ca shX X cX8_doRebuild 8 RX8 (some .int) (gR 4) (some (.int r0)) σ' 30 [(0, .ref (9 + 5 * i)), (1, .int v1), (4, .int v4), (5, .int v5)] [] σ)  : ∀ (k : Nat) (v1 : Int32) (v4 : Int32) (v5 : Int32) (v6 : Int32) (v7 : Int32) (σ : gM), fX8_doRebuild_L48 n i K30 k v1 v4 v5 v6 v7 σ = some (r0, σ') → g_G l dC dI ad ca shX X cX8_doRebuild 8 RX8 (some .int) (gR 4) (some (.int r0)) σ' 48 [(0, .ref (9 + 5 * i)), (1, .int v1), (4, .int v4), (5, .int v5), (6, .int v6), (7, .int v7)] [] σ := by
  intro k
  induction k with
  | zero => intro v1 v4 v5 v6 v7 σ h; cases h
  | succ k ih => intro v1 v4 v5 v6 v7 σ h; exact tX8_doRebuild_b48 hE n i hi K30 hK30 (fX8_doRebuild_L48 n i K30 k) ih v1 v4 v5 v6 v7 σ h
def fX8_doRebuild_b164 (n : Nat) (i : Nat) (v4 : Int32) (σ : gM) : Option (Int32 × gM) := some (v4, σ)
set_option maxRecDepth 100000 in
theorem tX8_doRebuild_b164 (hE : gEX l dC dI ad ca X) {r0 : Int32} {σ' : gM} (n : Nat) (i : Nat) (hi : i < 3) (v4 : Int32)  (σ : gM) (h : fX8_doRebuild_b164 n i v4 σ = some (r0, σ')) : g_G l dC dI ad ca shX X cX8_doRebuild 8 RX8 (some .int) (gR 4) (some (.int r0)) σ' 164 [(4, .int v4)] [] σ := by
  unfold fX8_doRebuild_b164 at h
  refine g_iload (pc := 164) dX8_doRebuild_164 0 rfl ?_
  cases h
  exact g_iret (pc := 166) rfl rfl rfl rfl dX8_doRebuild_166
def fX8_doRebuild_b30 (n : Nat) (i : Nat) (K30 : Int32 → Int32 → Int32 → gM → Option (Int32 × gM)) (v1 : Int32) (v4 : Int32) (v5 : Int32) (σ : gM) : Option (Int32 × gM) := if v4 ≤ v5 then (g_bV (fX9_set i (104 + v1) v4 σ) (fun σ35 => if v4 = (σ35.1 5 1) then (g_bV (fX9_set i (96 + v1) 0 σ35) (fun σ38 => fX8_doRebuild_b164 n i v4 σ38)) else (fX8_doRebuild_b164 n i v4 σ35))) else (g_bI (fX8_missing n i v5 σ) (fun r41 σ40 => fX8_doRebuild_L48 n i K30 n v1 v4 v5 r41 0 σ40))
set_option maxRecDepth 100000 in
theorem tX8_doRebuild_b30 (hE : gEX l dC dI ad ca X) {r0 : Int32} {σ' : gM} (n : Nat) (i : Nat) (hi : i < 3) (K30 : Int32 → Int32 → Int32 → gM → Option (Int32 × gM)) (hK30 : ∀ (v1 : Int32) (v4 : Int32) (v5 : Int32) (σ : gM), K30 v1 v4 v5 σ = some (r0, σ') → g_G l dC dI ad ca shX X cX8_doRebuild 8 RX8 (some .int) (gR 4) (some (.int r0)) σ' 30 [(0, .ref (9 + 5 * i)), (1, .int v1), (4, .int v4), (5, .int v5)] [] σ) (v1 : Int32) (v4 : Int32) (v5 : Int32)  (σ : gM) (h : fX8_doRebuild_b30 n i K30 v1 v4 v5 σ = some (r0, σ')) : g_G l dC dI ad ca shX X cX8_doRebuild 8 RX8 (some .int) (gR 4) (some (.int r0)) σ' 30 [(0, .ref (9 + 5 * i)), (1, .int v1), (4, .int v4), (5, .int v5)] [] σ := by
  unfold fX8_doRebuild_b30 at h
  refine g_iload (pc := 30) dX8_doRebuild_30 3 rfl ?_
  refine g_iload (pc := 32) dX8_doRebuild_32 2 rfl ?_
  refine g_icmp_ge (pc := 34) (tgt := 127) dX8_doRebuild_34 (by decide) (fun c33 => ?_) (fun c33 => ?_)
  · have h := g_ift c33 h
    refine g_aload_n (pc := 127) dX8_doRebuild_127 rfl 0 rfl ?_
    refine g_getR (pc := 128) wfX8_12 (sX_shelf (i := i) hi) rfl dX8_doRebuild_128 ?_
    refine g_bipush (pc := 131) (v := 104) dX8_doRebuild_131 (by decide) ?_
    refine g_iload_n (pc := 133) dX8_doRebuild_133 rfl 1 rfl ?_
    refine g_iadd (pc := 134) dX8_doRebuild_134 ?_
    refine g_iload (pc := 135) dX8_doRebuild_135 2 rfl ?_
    obtain ⟨σ35, h34, h⟩ := g_bVd h
    refine g_callVv (pc := 137) (st := []) hE.1 wvX8_212 (sX_state (i := i) hi) rfl (kX9_set hE i hi (104 + v1) v4 σ h34) rfl (gR_ok (by decide) (by decide)) (Nat.le_of_ble_eq_true rfl) rfl dX8_doRebuild_137 ?_
    refine g_iload (pc := 140) dX8_doRebuild_140 2 rfl ?_
    refine g_aload_n (pc := 142) dX8_doRebuild_142 rfl 0 rfl ?_
    refine g_getR (pc := 143) wfX8_18 (sX_shelf (i := i) hi) rfl dX8_doRebuild_143 ?_
    refine g_getI (pc := 146) wfX8_154 rfl rfl dX8_doRebuild_146 ?_
    refine g_icmp_ne (pc := 149) (tgt := 164) dX8_doRebuild_149 (by decide) (fun c36 => ?_) (fun c36 => ?_)
    · have h := g_iff c36 h
      exact g_lv [2] rfl (tX8_doRebuild_b164 hE n i hi v4 σ35 h)
    · have h := g_ift c36 h
      refine g_aload_n (pc := 152) dX8_doRebuild_152 rfl 0 rfl ?_
      refine g_getR (pc := 153) wfX8_12 (sX_shelf (i := i) hi) rfl dX8_doRebuild_153 ?_
      refine g_bipush (pc := 156) (v := 96) dX8_doRebuild_156 (by decide) ?_
      refine g_iload_n (pc := 158) dX8_doRebuild_158 rfl 1 rfl ?_
      refine g_iadd (pc := 159) dX8_doRebuild_159 ?_
      refine g_iconst (pc := 160) (v := 0) dX8_doRebuild_160 (by decide) ?_
      obtain ⟨σ38, h37, h⟩ := g_bVd h
      refine g_callVv (pc := 161) (st := []) hE.1 wvX8_212 (sX_state (i := i) hi) rfl (kX9_set hE i hi (96 + v1) 0 σ35 h37) rfl (gR_ok (by decide) (by decide)) (Nat.le_of_ble_eq_true rfl) rfl dX8_doRebuild_161 ?_
      exact g_lv [2] rfl (tX8_doRebuild_b164 hE n i hi v4 σ38 h)
  · have h := g_iff c33 h
    refine g_aload_n (pc := 37) dX8_doRebuild_37 rfl 0 rfl ?_
    refine g_iload (pc := 38) dX8_doRebuild_38 3 rfl ?_
    obtain ⟨r41, σ40, h39, h⟩ := g_bId h
    refine g_callVi (pc := 40) (st := []) hE.1 wvX8_67 (sX_shelf (i := i) hi) rfl (kX8_missing hE n i hi v5 σ h39) rfl (gR_ok (by decide) (by decide)) (Nat.le_of_ble_eq_true rfl) rfl dX8_doRebuild_40 ?_
    refine g_istore (pc := 43) (lv1 := [(6, .int r41), (0, .ref (9 + 5 * i)), (1, .int v1), (4, .int v4), (5, .int v5)]) dX8_doRebuild_43 (by decide) rfl ?_
    refine g_iconst (pc := 45) (v := 0) dX8_doRebuild_45 (by decide) ?_
    refine g_istore (pc := 46) (lv1 := [(7, .int 0), (6, .int r41), (0, .ref (9 + 5 * i)), (1, .int v1), (4, .int v4), (5, .int v5)]) dX8_doRebuild_46 (by decide) rfl ?_
    exact g_lv [2, 3, 4, 5, 1, 0] rfl (tX8_doRebuild_L48 hE n i hi K30 hK30 n v1 v4 v5 r41 0 σ40 h)
def fX8_doRebuild_L30 (n : Nat) (i : Nat) : Nat → Int32 → Int32 → Int32 → gM → Option (Int32 × gM)
  | 0 => fun _ _ _ _ => none
  | k + 1 => fX8_doRebuild_b30 n i (fX8_doRebuild_L30 n i k)
theorem tX8_doRebuild_L30 (hE : gEX l dC dI ad ca X) {r0 : Int32} {σ' : gM} (n : Nat) (i : Nat) (hi : i < 3)  : ∀ (k : Nat) (v1 : Int32) (v4 : Int32) (v5 : Int32) (σ : gM), fX8_doRebuild_L30 n i k v1 v4 v5 σ = some (r0, σ') → g_G l dC dI ad ca shX X cX8_doRebuild 8 RX8 (some .int) (gR 4) (some (.int r0)) σ' 30 [(0, .ref (9 + 5 * i)), (1, .int v1), (4, .int v4), (5, .int v5)] [] σ := by
  intro k
  induction k with
  | zero => intro v1 v4 v5 σ h; cases h
  | succ k ih => intro v1 v4 v5 σ h; exact tX8_doRebuild_b30 hE n i hi (fX8_doRebuild_L30 n i k) ih v1 v4 v5 σ h
def fX8_doRebuild (n : Nat) (i : Nat) (v1 : Int32) (v2 : Int32) (σ : gM) : Option (Int32 × gM) := g_bI (fX9_get i (104 + v1) σ) (fun r44 σ43 => fX8_doRebuild_L30 n i n v1 (if (σ43.1 5 1) < (r44 + v2) then (σ43.1 5 1) else (r44 + v2)) r44 σ43)
set_option maxRecDepth 100000 in
theorem kX8_doRebuild (hE : gEX l dC dI ad ca X) (n : Nat) (i : Nat) (hi : i < 3)  (v1 : Int32) (v2 : Int32) (σ : gM) {r0 : Int32} {σ' : gM} (h : fX8_doRebuild n i v1 v2 σ = some (r0, σ')) : g_C l dC dI ad ca shX X yX8_doRebuild cX8_doRebuild 8 (some .int) (gR 4) [.ref (9 + 5 * i), .int v1, .int v2] σ (some (.int r0)) σ' := by
  refine g_entry (by decide +kernel) (Nat.le_of_ble_eq_true rfl) ?_
  refine g_lvE (lv1 := [(0, .ref (9 + 5 * i)), (1, .int v1), (2, .int v2)]) rfl ?_
  unfold fX8_doRebuild at h
  refine g_aload_n (pc := 0) dX8_doRebuild_0 rfl 0 rfl ?_
  refine g_getR (pc := 1) wfX8_12 (sX_shelf (i := i) hi) rfl dX8_doRebuild_1 ?_
  refine g_bipush (pc := 4) (v := 104) dX8_doRebuild_4 (by decide) ?_
  refine g_iload_n (pc := 6) dX8_doRebuild_6 rfl 1 rfl ?_
  refine g_iadd (pc := 7) dX8_doRebuild_7 ?_
  obtain ⟨r44, σ43, h42, h⟩ := g_bId h
  refine g_callVi (pc := 8) (st := []) hE.1 wvX8_31 (sX_state (i := i) hi) rfl (kX9_get hE i hi (104 + v1) σ h42) rfl (gR_ok (by decide) (by decide)) (Nat.le_of_ble_eq_true rfl) rfl dX8_doRebuild_8 ?_
  refine g_istore_n (pc := 11) (lv1 := [(3, .int r44), (0, .ref (9 + 5 * i)), (1, .int v1), (2, .int v2)]) dX8_doRebuild_11 rfl (by decide) rfl ?_
  refine g_iload_n (pc := 12) dX8_doRebuild_12 rfl 0 rfl ?_
  refine g_iload_n (pc := 13) dX8_doRebuild_13 rfl 3 rfl ?_
  refine g_iadd (pc := 14) dX8_doRebuild_14 ?_
  refine g_aload_n (pc := 15) dX8_doRebuild_15 rfl 1 rfl ?_
  refine g_getR (pc := 16) wfX8_18 (sX_shelf (i := i) hi) rfl dX8_doRebuild_16 ?_
  refine g_getI (pc := 19) wfX8_154 rfl rfl dX8_doRebuild_19 ?_
  refine g_min (pc := 22) (st := []) wmX8_213 ⟨by decide, by decide⟩ dX8_doRebuild_22 ?_
  refine g_istore (pc := 25) (lv1 := [(4, .int (if (σ43.1 5 1) < (r44 + v2) then (σ43.1 5 1) else (r44 + v2))), (3, .int r44), (0, .ref (9 + 5 * i)), (1, .int v1), (2, .int v2)]) dX8_doRebuild_25 (by decide) rfl ?_
  refine g_iload_n (pc := 27) dX8_doRebuild_27 rfl 1 rfl ?_
  refine g_istore (pc := 28) (lv1 := [(5, .int r44), (4, .int (if (σ43.1 5 1) < (r44 + v2) then (σ43.1 5 1) else (r44 + v2))), (3, .int r44), (0, .ref (9 + 5 * i)), (1, .int v1), (2, .int v2)]) dX8_doRebuild_28 (by decide) rfl ?_
  exact g_lv [3, 4, 1, 0] rfl (tX8_doRebuild_L30 hE n i hi n v1 (if (σ43.1 5 1) < (r44 + v2) then (σ43.1 5 1) else (r44 + v2)) r44 σ43 h)
def fX8_noteMended (i : Nat) (v1 : Int32) (v2 : Int32) (v3 : Int32) (σ : gM) : Option (gM) := g_bV (fX9_add i (128 + v1) 1 σ) (fun σ10 => g_bV (fX9_set i 141 v1 σ10) (fun σ12 => g_bV (fX9_set i 142 v2 σ12) (fun σ14 => g_bV (fX9_set i 143 v3 σ14) (fun σ16 => some σ16))))
set_option maxRecDepth 100000 in
theorem kX8_noteMended (hE : gEX l dC dI ad ca X) (i : Nat) (hi : i < 3)  (v1 : Int32) (v2 : Int32) (v3 : Int32) (σ : gM) {σ' : gM} (h : fX8_noteMended i v1 v2 v3 σ = some σ') : g_C l dC dI ad ca shX X yX8_noteMended cX8_noteMended 4 none (gR 1) [.ref (9 + 5 * i), .int v1, .int v2, .int v3] σ none σ' := by
  refine g_entry (by decide +kernel) (Nat.le_of_ble_eq_true rfl) ?_
  refine g_lvE (lv1 := [(0, .ref (9 + 5 * i)), (1, .int v1), (2, .int v2), (3, .int v3)]) rfl ?_
  unfold fX8_noteMended at h
  refine g_aload_n (pc := 0) dX8_noteMended_0 rfl 0 rfl ?_
  refine g_getR (pc := 1) wfX8_12 (sX_shelf (i := i) hi) rfl dX8_noteMended_1 ?_
  refine g_sipush (pc := 4) (v := 128) dX8_noteMended_4 (by decide) ?_
  refine g_iload_n (pc := 7) dX8_noteMended_7 rfl 1 rfl ?_
  refine g_iadd (pc := 8) dX8_noteMended_8 ?_
  refine g_iconst (pc := 9) (v := 1) dX8_noteMended_9 (by decide) ?_
  obtain ⟨σ10, h9, h⟩ := g_bVd h
  refine g_callVv (pc := 10) (st := []) hE.1 wvX8_97 (sX_state (i := i) hi) rfl (kX9_add hE i hi (128 + v1) 1 σ h9) rfl (gR_ok (by decide) (by decide)) (Nat.le_of_ble_eq_true rfl) rfl dX8_noteMended_10 ?_
  refine g_aload_n (pc := 13) dX8_noteMended_13 rfl 0 rfl ?_
  refine g_getR (pc := 14) wfX8_12 (sX_shelf (i := i) hi) rfl dX8_noteMended_14 ?_
  refine g_sipush (pc := 17) (v := 141) dX8_noteMended_17 (by decide) ?_
  refine g_iload_n (pc := 20) dX8_noteMended_20 rfl 1 rfl ?_
  obtain ⟨σ12, h11, h⟩ := g_bVd h
  refine g_callVv (pc := 21) (st := []) hE.1 wvX8_212 (sX_state (i := i) hi) rfl (kX9_set hE i hi 141 v1 σ10 h11) rfl (gR_ok (by decide) (by decide)) (Nat.le_of_ble_eq_true rfl) rfl dX8_noteMended_21 ?_
  refine g_aload_n (pc := 24) dX8_noteMended_24 rfl 0 rfl ?_
  refine g_getR (pc := 25) wfX8_12 (sX_shelf (i := i) hi) rfl dX8_noteMended_25 ?_
  refine g_sipush (pc := 28) (v := 142) dX8_noteMended_28 (by decide) ?_
  refine g_iload_n (pc := 31) dX8_noteMended_31 rfl 2 rfl ?_
  obtain ⟨σ14, h13, h⟩ := g_bVd h
  refine g_callVv (pc := 32) (st := []) hE.1 wvX8_212 (sX_state (i := i) hi) rfl (kX9_set hE i hi 142 v2 σ12 h13) rfl (gR_ok (by decide) (by decide)) (Nat.le_of_ble_eq_true rfl) rfl dX8_noteMended_32 ?_
  refine g_aload_n (pc := 35) dX8_noteMended_35 rfl 0 rfl ?_
  refine g_getR (pc := 36) wfX8_12 (sX_shelf (i := i) hi) rfl dX8_noteMended_36 ?_
  refine g_sipush (pc := 39) (v := 143) dX8_noteMended_39 (by decide) ?_
  refine g_iload_n (pc := 42) dX8_noteMended_42 rfl 3 rfl ?_
  obtain ⟨σ16, h15, h⟩ := g_bVd h
  refine g_callVv (pc := 43) (st := []) hE.1 wvX8_212 (sX_state (i := i) hi) rfl (kX9_set hE i hi 143 v3 σ14 h15) rfl (gR_ok (by decide) (by decide)) (Nat.le_of_ble_eq_true rfl) rfl dX8_noteMended_43 ?_
  cases h
  exact g_vret (pc := 46) rfl rfl rfl dX8_noteMended_46
def fX8_scrubStripe_b115 (n : Nat) (i : Nat) (K4 : Int32 → Int32 → Int32 → gM → Option (Int32 × gM)) (v1 : Int32) (v2 : Int32) (v3 : Int32) (σ : gM) : Option (Int32 × gM) := K4 v1 v2 (v3 + 1) σ
set_option maxRecDepth 100000 in
theorem tX8_scrubStripe_b115 (hE : gEX l dC dI ad ca X) {r0 : Int32} {σ' : gM} (n : Nat) (i : Nat) (hi : i < 3) (K4 : Int32 → Int32 → Int32 → gM → Option (Int32 × gM)) (hK4 : ∀ (v1 : Int32) (v2 : Int32) (v3 : Int32) (σ : gM), K4 v1 v2 v3 σ = some (r0, σ') → g_G l dC dI ad ca shX X cX8_scrubStripe 5 RX8 (some .int) (gR 3) (some (.int r0)) σ' 4 [(0, .ref (9 + 5 * i)), (1, .int v1), (2, .int v2), (3, .int v3)] [] σ) (v1 : Int32) (v2 : Int32) (v3 : Int32)  (σ : gM) (h : fX8_scrubStripe_b115 n i K4 v1 v2 v3 σ = some (r0, σ')) : g_G l dC dI ad ca shX X cX8_scrubStripe 5 RX8 (some .int) (gR 3) (some (.int r0)) σ' 115 [(0, .ref (9 + 5 * i)), (1, .int v1), (2, .int v2), (3, .int v3)] [] σ := by
  unfold fX8_scrubStripe_b115 at h
  refine g_iinc (pc := 115) (v := v3 + 1) (lv1 := [(3, .int (v3 + 1)), (0, .ref (9 + 5 * i)), (1, .int v1), (2, .int v2)]) dX8_scrubStripe_115 3 rfl rfl (by decide) rfl ?_
  refine g_goto (pc := 118) (tgt := 4) dX8_scrubStripe_118 (by decide) ?_
  exact g_lv [1, 2, 3, 0] rfl (hK4 v1 v2 (v3 + 1) σ h)
def fX8_scrubStripe_b4 (n : Nat) (i : Nat) (K4 : Int32 → Int32 → Int32 → gM → Option (Int32 × gM)) (v1 : Int32) (v2 : Int32) (v3 : Int32) (σ : gM) : Option (Int32 × gM) := if (σ.1 5 2) ≤ v3 then (some (v2, σ)) else (g_bV (fX5_load n i i v1 v3 0 σ) (fun σ24 => g_bV (fX8_countReads n i v1 (σ24.1 5 9) σ24) (fun σ26 => g_bI (fX5_wrongPart n i σ26) (fun r29 σ28 => if r29 = (-2) then (g_bV (fX9_add i 137 1 σ28) (fun σ42 => fX8_scrubStripe_b115 n i K4 v1 v2 v3 σ42)) else (if r29 = (-1) then (fX8_scrubStripe_b115 n i K4 v1 v2 v3 σ28) else (g_bV (fX5_mend n i r29 σ28) (fun σ33 => g_bV (fX8_store n i v1 v3 (1 <<< (r29 &&& 31)) σ33) (fun σ35 => g_bI (fX6_diskOf r29 v1 σ35) (fun r38 σ37 => g_bV (fX8_noteMended i r38 v1 v3 σ37) (fun σ40 => fX8_scrubStripe_b115 n i K4 v1 (v2 + 1) v3 σ40))))))))))
set_option maxRecDepth 100000 in
theorem tX8_scrubStripe_b4 (hE : gEX l dC dI ad ca X) {r0 : Int32} {σ' : gM} (n : Nat) (i : Nat) (hi : i < 3) (K4 : Int32 → Int32 → Int32 → gM → Option (Int32 × gM)) (hK4 : ∀ (v1 : Int32) (v2 : Int32) (v3 : Int32) (σ : gM), K4 v1 v2 v3 σ = some (r0, σ') → g_G l dC dI ad ca shX X cX8_scrubStripe 5 RX8 (some .int) (gR 3) (some (.int r0)) σ' 4 [(0, .ref (9 + 5 * i)), (1, .int v1), (2, .int v2), (3, .int v3)] [] σ) (v1 : Int32) (v2 : Int32) (v3 : Int32)  (σ : gM) (h : fX8_scrubStripe_b4 n i K4 v1 v2 v3 σ = some (r0, σ')) : g_G l dC dI ad ca shX X cX8_scrubStripe 5 RX8 (some .int) (gR 3) (some (.int r0)) σ' 4 [(0, .ref (9 + 5 * i)), (1, .int v1), (2, .int v2), (3, .int v3)] [] σ := by
  unfold fX8_scrubStripe_b4 at h
  refine g_iload_n (pc := 4) dX8_scrubStripe_4 rfl 3 rfl ?_
  refine g_aload_n (pc := 5) dX8_scrubStripe_5 rfl 0 rfl ?_
  refine g_getR (pc := 6) wfX8_18 (sX_shelf (i := i) hi) rfl dX8_scrubStripe_6 ?_
  refine g_getI (pc := 9) wfX8_218 rfl rfl dX8_scrubStripe_9 ?_
  refine g_icmp_ge (pc := 12) (tgt := 121) dX8_scrubStripe_12 (by decide) (fun c22 => ?_) (fun c22 => ?_)
  · have h := g_ift c22 h
    refine g_iload_n (pc := 121) dX8_scrubStripe_121 rfl 2 rfl ?_
    cases h
    exact g_iret (pc := 122) rfl rfl rfl rfl dX8_scrubStripe_122
  · have h := g_iff c22 h
    refine g_aload_n (pc := 15) dX8_scrubStripe_15 rfl 0 rfl ?_
    refine g_getR (pc := 16) wfX8_27 (sX_shelf (i := i) hi) rfl dX8_scrubStripe_16 ?_
    refine g_aload_n (pc := 19) dX8_scrubStripe_19 rfl 0 rfl ?_
    refine g_getR (pc := 20) wfX8_12 (sX_shelf (i := i) hi) rfl dX8_scrubStripe_20 ?_
    refine g_iload_n (pc := 23) dX8_scrubStripe_23 rfl 1 rfl ?_
    refine g_iload_n (pc := 24) dX8_scrubStripe_24 rfl 3 rfl ?_
    refine g_iconst (pc := 25) (v := 0) dX8_scrubStripe_25 (by decide) ?_
    obtain ⟨σ24, h23, h⟩ := g_bVd h
    refine g_callVv (pc := 26) (st := []) hE.1 wvX8_227 (sX_row (i := i) hi) rfl (kX5_load hE n i hi i hi v1 v3 0 σ h23) rfl (gR_ok (by decide) (by decide)) (Nat.le_of_ble_eq_true rfl) rfl dX8_scrubStripe_26 ?_
    refine g_aload_n (pc := 29) dX8_scrubStripe_29 rfl 0 rfl ?_
    refine g_iload_n (pc := 30) dX8_scrubStripe_30 rfl 1 rfl ?_
    refine g_aload_n (pc := 31) dX8_scrubStripe_31 rfl 0 rfl ?_
    refine g_getR (pc := 32) wfX8_18 (sX_shelf (i := i) hi) rfl dX8_scrubStripe_32 ?_
    refine g_getI (pc := 35) wfX8_88 rfl rfl dX8_scrubStripe_35 ?_
    obtain ⟨σ26, h25, h⟩ := g_bVd h
    refine g_callVv (pc := 38) (st := []) hE.1 wvX8_205 (sX_shelf (i := i) hi) rfl (kX8_countReads hE n i hi v1 (σ24.1 5 9) σ24 h25) rfl (gR_ok (by decide) (by decide)) (Nat.le_of_ble_eq_true rfl) rfl dX8_scrubStripe_38 ?_
    refine g_aload_n (pc := 41) dX8_scrubStripe_41 rfl 0 rfl ?_
    refine g_getR (pc := 42) wfX8_27 (sX_shelf (i := i) hi) rfl dX8_scrubStripe_42 ?_
    obtain ⟨r29, σ28, h27, h⟩ := g_bId h
    refine g_callVi (pc := 45) (st := []) hE.1 wvX8_230 (sX_row (i := i) hi) rfl (kX5_wrongPart hE n i hi σ26 h27) rfl (gR_ok (by decide) (by decide)) (Nat.le_of_ble_eq_true rfl) rfl dX8_scrubStripe_45 ?_
    refine g_istore (pc := 48) (lv1 := [(4, .int r29), (0, .ref (9 + 5 * i)), (1, .int v1), (2, .int v2), (3, .int v3)]) dX8_scrubStripe_48 (by decide) rfl ?_
    refine g_iload (pc := 50) dX8_scrubStripe_50 0 rfl ?_
    refine g_bipush (pc := 52) (v := (-2)) dX8_scrubStripe_52 (by decide) ?_
    refine g_icmp_ne (pc := 54) (tgt := 71) dX8_scrubStripe_54 (by decide) (fun c30 => ?_) (fun c30 => ?_)
    · have h := g_iff c30 h
      refine g_iload (pc := 71) dX8_scrubStripe_71 0 rfl ?_
      refine g_iconst (pc := 73) (v := (-1)) dX8_scrubStripe_73 (by decide) ?_
      refine g_icmp_eq (pc := 74) (tgt := 115) dX8_scrubStripe_74 (by decide) (fun c31 => ?_) (fun c31 => ?_)
      · have h := g_ift c31 h
        exact g_lv [1, 2, 3, 4] rfl (tX8_scrubStripe_b115 hE n i hi K4 hK4 v1 v2 v3 σ28 h)
      · have h := g_iff c31 h
        refine g_aload_n (pc := 77) dX8_scrubStripe_77 rfl 1 rfl ?_
        refine g_getR (pc := 78) wfX8_27 (sX_shelf (i := i) hi) rfl dX8_scrubStripe_78 ?_
        refine g_iload (pc := 81) dX8_scrubStripe_81 0 rfl ?_
        obtain ⟨σ33, h32, h⟩ := g_bVd h
        refine g_callVv (pc := 83) (st := []) hE.1 wvX8_233 (sX_row (i := i) hi) rfl (kX5_mend hE n i hi r29 σ28 h32) rfl (gR_ok (by decide) (by decide)) (Nat.le_of_ble_eq_true rfl) rfl dX8_scrubStripe_83 ?_
        refine g_aload_n (pc := 86) dX8_scrubStripe_86 rfl 1 rfl ?_
        refine g_iload_n (pc := 87) dX8_scrubStripe_87 rfl 2 rfl ?_
        refine g_iload_n (pc := 88) dX8_scrubStripe_88 rfl 4 rfl ?_
        refine g_iconst (pc := 89) (v := 1) dX8_scrubStripe_89 (by decide) ?_
        refine g_iload (pc := 90) dX8_scrubStripe_90 0 rfl ?_
        refine g_ishl (pc := 92) dX8_scrubStripe_92 ?_
        obtain ⟨σ35, h34, h⟩ := g_bVd h
        refine g_callVv (pc := 93) (st := []) hE.1 wvX8_208 (sX_shelf (i := i) hi) rfl (kX8_store hE n i hi v1 v3 (1 <<< (r29 &&& 31)) σ33 h34) rfl (gR_ok (by decide) (by decide)) (Nat.le_of_ble_eq_true rfl) rfl dX8_scrubStripe_93 ?_
        refine g_aload_n (pc := 96) dX8_scrubStripe_96 rfl 1 rfl ?_
        refine g_aload_n (pc := 97) dX8_scrubStripe_97 rfl 1 rfl ?_
        refine g_getR (pc := 98) wfX8_18 (sX_shelf (i := i) hi) rfl dX8_scrubStripe_98 ?_
        refine g_iload (pc := 101) dX8_scrubStripe_101 0 rfl ?_
        refine g_iload_n (pc := 103) dX8_scrubStripe_103 rfl 2 rfl ?_
        obtain ⟨r38, σ37, h36, h⟩ := g_bId h
        refine g_callVi (pc := 104) (st := [.ref (9 + 5 * i)]) hE.1 wvX8_41 rfl rfl (kX6_diskOf hE r29 v1 σ35 h36) rfl (gR_ok (by decide) (by decide)) (Nat.le_of_ble_eq_true rfl) rfl dX8_scrubStripe_104 ?_
        refine g_iload_n (pc := 107) dX8_scrubStripe_107 rfl 2 rfl ?_
        refine g_iload_n (pc := 108) dX8_scrubStripe_108 rfl 4 rfl ?_
        obtain ⟨σ40, h39, h⟩ := g_bVd h
        refine g_callVv (pc := 109) (st := []) hE.1 wvX8_237 (sX_shelf (i := i) hi) rfl (kX8_noteMended hE i hi r38 v1 v3 σ37 h39) rfl (gR_ok (by decide) (by decide)) (Nat.le_of_ble_eq_true rfl) rfl dX8_scrubStripe_109 ?_
        refine g_iinc (pc := 112) (v := v2 + 1) (lv1 := [(2, .int (v2 + 1)), (4, .int r29), (0, .ref (9 + 5 * i)), (1, .int v1), (3, .int v3)]) dX8_scrubStripe_112 3 rfl rfl (by decide) rfl ?_
        exact g_lv [2, 3, 0, 4] rfl (tX8_scrubStripe_b115 hE n i hi K4 hK4 v1 (v2 + 1) v3 σ40 h)
    · have h := g_ift c30 h
      refine g_aload_n (pc := 57) dX8_scrubStripe_57 rfl 1 rfl ?_
      refine g_getR (pc := 58) wfX8_12 (sX_shelf (i := i) hi) rfl dX8_scrubStripe_58 ?_
      refine g_sipush (pc := 61) (v := 137) dX8_scrubStripe_61 (by decide) ?_
      refine g_iconst (pc := 64) (v := 1) dX8_scrubStripe_64 (by decide) ?_
      obtain ⟨σ42, h41, h⟩ := g_bVd h
      refine g_callVv (pc := 65) (st := []) hE.1 wvX8_97 (sX_state (i := i) hi) rfl (kX9_add hE i hi 137 1 σ28 h41) rfl (gR_ok (by decide) (by decide)) (Nat.le_of_ble_eq_true rfl) rfl dX8_scrubStripe_65 ?_
      refine g_goto (pc := 68) (tgt := 115) dX8_scrubStripe_68 (by decide) ?_
      exact g_lv [1, 2, 3, 4] rfl (tX8_scrubStripe_b115 hE n i hi K4 hK4 v1 v2 v3 σ42 h)
def fX8_scrubStripe_L4 (n : Nat) (i : Nat) : Nat → Int32 → Int32 → Int32 → gM → Option (Int32 × gM)
  | 0 => fun _ _ _ _ => none
  | k + 1 => fX8_scrubStripe_b4 n i (fX8_scrubStripe_L4 n i k)
theorem tX8_scrubStripe_L4 (hE : gEX l dC dI ad ca X) {r0 : Int32} {σ' : gM} (n : Nat) (i : Nat) (hi : i < 3)  : ∀ (k : Nat) (v1 : Int32) (v2 : Int32) (v3 : Int32) (σ : gM), fX8_scrubStripe_L4 n i k v1 v2 v3 σ = some (r0, σ') → g_G l dC dI ad ca shX X cX8_scrubStripe 5 RX8 (some .int) (gR 3) (some (.int r0)) σ' 4 [(0, .ref (9 + 5 * i)), (1, .int v1), (2, .int v2), (3, .int v3)] [] σ := by
  intro k
  induction k with
  | zero => intro v1 v2 v3 σ h; cases h
  | succ k ih => intro v1 v2 v3 σ h; exact tX8_scrubStripe_b4 hE n i hi (fX8_scrubStripe_L4 n i k) ih v1 v2 v3 σ h
def fX8_scrubStripe (n : Nat) (i : Nat) (v1 : Int32) (σ : gM) : Option (Int32 × gM) := fX8_scrubStripe_L4 n i n v1 0 0 σ
set_option maxRecDepth 100000 in
theorem kX8_scrubStripe (hE : gEX l dC dI ad ca X) (n : Nat) (i : Nat) (hi : i < 3)  (v1 : Int32) (σ : gM) {r0 : Int32} {σ' : gM} (h : fX8_scrubStripe n i v1 σ = some (r0, σ')) : g_C l dC dI ad ca shX X yX8_scrubStripe cX8_scrubStripe 5 (some .int) (gR 3) [.ref (9 + 5 * i), .int v1] σ (some (.int r0)) σ' := by
  refine g_entry (by decide +kernel) (Nat.le_of_ble_eq_true rfl) ?_
  refine g_lvE (lv1 := [(0, .ref (9 + 5 * i)), (1, .int v1)]) rfl ?_
  unfold fX8_scrubStripe at h
  refine g_iconst (pc := 0) (v := 0) dX8_scrubStripe_0 (by decide) ?_
  refine g_istore_n (pc := 1) (lv1 := [(2, .int 0), (0, .ref (9 + 5 * i)), (1, .int v1)]) dX8_scrubStripe_1 rfl (by decide) rfl ?_
  refine g_iconst (pc := 2) (v := 0) dX8_scrubStripe_2 (by decide) ?_
  refine g_istore_n (pc := 3) (lv1 := [(3, .int 0), (2, .int 0), (0, .ref (9 + 5 * i)), (1, .int v1)]) dX8_scrubStripe_3 rfl (by decide) rfl ?_
  exact g_lv [2, 3, 1, 0] rfl (tX8_scrubStripe_L4 hE n i hi n v1 0 0 σ h)
def fX8_doScrub_b94 (n : Nat) (i : Nat) (K4 : Int32 → Int32 → Int32 → gM → Option (Int32 × gM)) (v1 : Int32) (v2 : Int32) (v3 : Int32) (σ : gM) : Option (Int32 × gM) := K4 v1 v2 (v3 + 1) σ
set_option maxRecDepth 100000 in
theorem tX8_doScrub_b94 (hE : gEX l dC dI ad ca X) {r0 : Int32} {σ' : gM} (n : Nat) (i : Nat) (hi : i < 3) (K4 : Int32 → Int32 → Int32 → gM → Option (Int32 × gM)) (hK4 : ∀ (v1 : Int32) (v2 : Int32) (v3 : Int32) (σ : gM), K4 v1 v2 v3 σ = some (r0, σ') → g_G l dC dI ad ca shX X cX8_doScrub 5 RX8 (some .int) (gR 4) (some (.int r0)) σ' 4 [(0, .ref (9 + 5 * i)), (1, .int v1), (2, .int v2), (3, .int v3)] [] σ) (v1 : Int32) (v2 : Int32) (v3 : Int32)  (σ : gM) (h : fX8_doScrub_b94 n i K4 v1 v2 v3 σ = some (r0, σ')) : g_G l dC dI ad ca shX X cX8_doScrub 5 RX8 (some .int) (gR 4) (some (.int r0)) σ' 94 [(0, .ref (9 + 5 * i)), (1, .int v1), (2, .int v2), (3, .int v3)] [] σ := by
  unfold fX8_doScrub_b94 at h
  refine g_iinc (pc := 94) (v := v3 + 1) (lv1 := [(3, .int (v3 + 1)), (0, .ref (9 + 5 * i)), (1, .int v1), (2, .int v2)]) dX8_doScrub_94 3 rfl rfl (by decide) rfl ?_
  refine g_goto (pc := 97) (tgt := 4) dX8_doScrub_97 (by decide) ?_
  exact g_lv [1, 2, 3, 0] rfl (hK4 v1 v2 (v3 + 1) σ h)
def fX8_doScrub_b71 (n : Nat) (i : Nat) (K4 : Int32 → Int32 → Int32 → gM → Option (Int32 × gM)) (v1 : Int32) (v2 : Int32) (v3 : Int32) (σ : gM) : Option (Int32 × gM) := g_bV (fX9_add i 138 1 σ) (fun σ22 => fX8_doScrub_b94 n i K4 v1 v2 v3 σ22)
set_option maxRecDepth 100000 in
theorem tX8_doScrub_b71 (hE : gEX l dC dI ad ca X) {r0 : Int32} {σ' : gM} (n : Nat) (i : Nat) (hi : i < 3) (K4 : Int32 → Int32 → Int32 → gM → Option (Int32 × gM)) (hK4 : ∀ (v1 : Int32) (v2 : Int32) (v3 : Int32) (σ : gM), K4 v1 v2 v3 σ = some (r0, σ') → g_G l dC dI ad ca shX X cX8_doScrub 5 RX8 (some .int) (gR 4) (some (.int r0)) σ' 4 [(0, .ref (9 + 5 * i)), (1, .int v1), (2, .int v2), (3, .int v3)] [] σ) (v1 : Int32) (v2 : Int32) (v3 : Int32)  (σ : gM) (h : fX8_doScrub_b71 n i K4 v1 v2 v3 σ = some (r0, σ')) : g_G l dC dI ad ca shX X cX8_doScrub 5 RX8 (some .int) (gR 4) (some (.int r0)) σ' 71 [(0, .ref (9 + 5 * i)), (1, .int v1), (2, .int v2), (3, .int v3)] [] σ := by
  unfold fX8_doScrub_b71 at h
  refine g_aload_n (pc := 71) dX8_doScrub_71 rfl 0 rfl ?_
  refine g_getR (pc := 72) wfX8_12 (sX_shelf (i := i) hi) rfl dX8_doScrub_72 ?_
  refine g_sipush (pc := 75) (v := 138) dX8_doScrub_75 (by decide) ?_
  refine g_iconst (pc := 78) (v := 1) dX8_doScrub_78 (by decide) ?_
  obtain ⟨σ22, h21, h⟩ := g_bVd h
  refine g_callVv (pc := 79) (st := []) hE.1 wvX8_97 (sX_state (i := i) hi) rfl (kX9_add hE i hi 138 1 σ h21) rfl (gR_ok (by decide) (by decide)) (Nat.le_of_ble_eq_true rfl) rfl dX8_doScrub_79 ?_
  refine g_goto (pc := 82) (tgt := 94) dX8_doScrub_82 (by decide) ?_
  exact g_lv [0, 1, 2, 3] rfl (tX8_doScrub_b94 hE n i hi K4 hK4 v1 v2 v3 σ22 h)
def fX8_doScrub_b50 (n : Nat) (i : Nat) (K4 : Int32 → Int32 → Int32 → gM → Option (Int32 × gM)) (v1 : Int32) (v2 : Int32) (v3 : Int32) (v4 : Int32) (s0 : Int32) (s1 : Int32) (σ : gM) : Option (Int32 × gM) := g_bV (fX9_set i s1 s0 σ) (fun σ24 => g_bI (fX8_isDirty i v4 σ24) (fun r27 σ26 => if r27 = 0 then (g_bI (fX8_missing n i v4 σ26) (fun r31 σ30 => if r31 = 0 then (g_bI (fX8_scrubStripe n i v4 σ30) (fun r35 σ34 => fX8_doScrub_b94 n i K4 v1 (v2 + r35) v3 σ34)) else (fX8_doScrub_b71 n i K4 v1 v2 v3 σ30))) else (fX8_doScrub_b71 n i K4 v1 v2 v3 σ26)))
set_option maxRecDepth 100000 in
theorem tX8_doScrub_b50 (hE : gEX l dC dI ad ca X) {r0 : Int32} {σ' : gM} (n : Nat) (i : Nat) (hi : i < 3) (K4 : Int32 → Int32 → Int32 → gM → Option (Int32 × gM)) (hK4 : ∀ (v1 : Int32) (v2 : Int32) (v3 : Int32) (σ : gM), K4 v1 v2 v3 σ = some (r0, σ') → g_G l dC dI ad ca shX X cX8_doScrub 5 RX8 (some .int) (gR 4) (some (.int r0)) σ' 4 [(0, .ref (9 + 5 * i)), (1, .int v1), (2, .int v2), (3, .int v3)] [] σ) (v1 : Int32) (v2 : Int32) (v3 : Int32) (v4 : Int32) (s0 : Int32) (s1 : Int32)  (σ : gM) (h : fX8_doScrub_b50 n i K4 v1 v2 v3 v4 s0 s1 σ = some (r0, σ')) : g_G l dC dI ad ca shX X cX8_doScrub 5 RX8 (some .int) (gR 4) (some (.int r0)) σ' 50 [(0, .ref (9 + 5 * i)), (1, .int v1), (2, .int v2), (3, .int v3), (4, .int v4)] [.int s0, .int s1, .ref (10 + 5 * i)] σ := by
  unfold fX8_doScrub_b50 at h
  obtain ⟨σ24, h23, h⟩ := g_bVd h
  refine g_callVv (pc := 50) (st := []) hE.1 wvX8_212 (sX_state (i := i) hi) rfl (kX9_set hE i hi s1 s0 σ h23) rfl (gR_ok (by decide) (by decide)) (Nat.le_of_ble_eq_true rfl) rfl dX8_doScrub_50 ?_
  refine g_aload_n (pc := 53) dX8_doScrub_53 rfl 0 rfl ?_
  refine g_iload (pc := 54) dX8_doScrub_54 4 rfl ?_
  obtain ⟨r27, σ26, h25, h⟩ := g_bId h
  refine g_callVi (pc := 56) (st := []) hE.1 wvX8_157 (sX_shelf (i := i) hi) rfl (kX8_isDirty hE i hi v4 σ24 h25) rfl (gR_ok (by decide) (by decide)) (Nat.le_of_ble_eq_true rfl) rfl dX8_doScrub_56 ?_
  refine g_if_ne (pc := 59) (tgt := 71) dX8_doScrub_59 (by decide) (fun c28 => ?_) (fun c28 => ?_)
  · have h := g_iff c28 h
    exact g_lv [0, 1, 2, 3] rfl (tX8_doScrub_b71 hE n i hi K4 hK4 v1 v2 v3 σ26 h)
  · have h := g_ift c28 h
    refine g_aload_n (pc := 62) dX8_doScrub_62 rfl 0 rfl ?_
    refine g_iload (pc := 63) dX8_doScrub_63 4 rfl ?_
    obtain ⟨r31, σ30, h29, h⟩ := g_bId h
    refine g_callVi (pc := 65) (st := []) hE.1 wvX8_67 (sX_shelf (i := i) hi) rfl (kX8_missing hE n i hi v4 σ26 h29) rfl (gR_ok (by decide) (by decide)) (Nat.le_of_ble_eq_true rfl) rfl dX8_doScrub_65 ?_
    refine g_if_eq (pc := 68) (tgt := 85) dX8_doScrub_68 (by decide) (fun c32 => ?_) (fun c32 => ?_)
    · have h := g_ift c32 h
      refine g_iload_n (pc := 85) dX8_doScrub_85 rfl 2 rfl ?_
      refine g_aload_n (pc := 86) dX8_doScrub_86 rfl 0 rfl ?_
      refine g_iload (pc := 87) dX8_doScrub_87 4 rfl ?_
      obtain ⟨r35, σ34, h33, h⟩ := g_bId h
      refine g_callVi (pc := 89) (st := [.int v2]) hE.1 wvX8_224 (sX_shelf (i := i) hi) rfl (kX8_scrubStripe hE n i hi v4 σ30 h33) rfl (gR_ok (by decide) (by decide)) (Nat.le_of_ble_eq_true rfl) rfl dX8_doScrub_89 ?_
      refine g_iadd (pc := 92) dX8_doScrub_92 ?_
      refine g_istore_n (pc := 93) (lv1 := [(2, .int (v2 + r35)), (0, .ref (9 + 5 * i)), (1, .int v1), (3, .int v3), (4, .int v4)]) dX8_doScrub_93 rfl (by decide) rfl ?_
      exact g_lv [1, 2, 0, 3] rfl (tX8_doScrub_b94 hE n i hi K4 hK4 v1 (v2 + r35) v3 σ34 h)
    · have h := g_iff c32 h
      exact g_lv [0, 1, 2, 3] rfl (tX8_doScrub_b71 hE n i hi K4 hK4 v1 v2 v3 σ30 h)
def fX8_doScrub_b4 (n : Nat) (i : Nat) (K4 : Int32 → Int32 → Int32 → gM → Option (Int32 × gM)) (v1 : Int32) (v2 : Int32) (v3 : Int32) (σ : gM) : Option (Int32 × gM) := if v1 ≤ v3 then (some (v2, σ)) else (g_bI (fX9_get i 139 σ) (fun r39 σ38 => if (σ38.1 5 1) ≤ (r39 + 1) then (fX8_doScrub_b50 n i K4 v1 v2 v3 r39 0 139 σ38) else (fX8_doScrub_b50 n i K4 v1 v2 v3 r39 (r39 + 1) 139 σ38)))
set_option maxRecDepth 100000 in
theorem tX8_doScrub_b4 (hE : gEX l dC dI ad ca X) {r0 : Int32} {σ' : gM} (n : Nat) (i : Nat) (hi : i < 3) (K4 : Int32 → Int32 → Int32 → gM → Option (Int32 × gM)) (hK4 : ∀ (v1 : Int32) (v2 : Int32) (v3 : Int32) (σ : gM), K4 v1 v2 v3 σ = some (r0, σ') → g_G l dC dI ad ca shX X cX8_doScrub 5 RX8 (some .int) (gR 4) (some (.int r0)) σ' 4 [(0, .ref (9 + 5 * i)), (1, .int v1), (2, .int v2), (3, .int v3)] [] σ) (v1 : Int32) (v2 : Int32) (v3 : Int32)  (σ : gM) (h : fX8_doScrub_b4 n i K4 v1 v2 v3 σ = some (r0, σ')) : g_G l dC dI ad ca shX X cX8_doScrub 5 RX8 (some .int) (gR 4) (some (.int r0)) σ' 4 [(0, .ref (9 + 5 * i)), (1, .int v1), (2, .int v2), (3, .int v3)] [] σ := by
  unfold fX8_doScrub_b4 at h
  refine g_iload_n (pc := 4) dX8_doScrub_4 rfl 3 rfl ?_
  refine g_iload_n (pc := 5) dX8_doScrub_5 rfl 1 rfl ?_
  refine g_icmp_ge (pc := 6) (tgt := 100) dX8_doScrub_6 (by decide) (fun c36 => ?_) (fun c36 => ?_)
  · have h := g_ift c36 h
    refine g_iload_n (pc := 100) dX8_doScrub_100 rfl 2 rfl ?_
    cases h
    exact g_iret (pc := 101) rfl rfl rfl rfl dX8_doScrub_101
  · have h := g_iff c36 h
    refine g_aload_n (pc := 9) dX8_doScrub_9 rfl 0 rfl ?_
    refine g_getR (pc := 10) wfX8_12 (sX_shelf (i := i) hi) rfl dX8_doScrub_10 ?_
    refine g_sipush (pc := 13) (v := 139) dX8_doScrub_13 (by decide) ?_
    obtain ⟨r39, σ38, h37, h⟩ := g_bId h
    refine g_callVi (pc := 16) (st := []) hE.1 wvX8_31 (sX_state (i := i) hi) rfl (kX9_get hE i hi 139 σ h37) rfl (gR_ok (by decide) (by decide)) (Nat.le_of_ble_eq_true rfl) rfl dX8_doScrub_16 ?_
    refine g_istore (pc := 19) (lv1 := [(4, .int r39), (0, .ref (9 + 5 * i)), (1, .int v1), (2, .int v2), (3, .int v3)]) dX8_doScrub_19 (by decide) rfl ?_
    refine g_aload_n (pc := 21) dX8_doScrub_21 rfl 1 rfl ?_
    refine g_getR (pc := 22) wfX8_12 (sX_shelf (i := i) hi) rfl dX8_doScrub_22 ?_
    refine g_sipush (pc := 25) (v := 139) dX8_doScrub_25 (by decide) ?_
    refine g_iload (pc := 28) dX8_doScrub_28 0 rfl ?_
    refine g_iconst (pc := 30) (v := 1) dX8_doScrub_30 (by decide) ?_
    refine g_iadd (pc := 31) dX8_doScrub_31 ?_
    refine g_aload_n (pc := 32) dX8_doScrub_32 rfl 1 rfl ?_
    refine g_getR (pc := 33) wfX8_18 (sX_shelf (i := i) hi) rfl dX8_doScrub_33 ?_
    refine g_getI (pc := 36) wfX8_154 rfl rfl dX8_doScrub_36 ?_
    refine g_icmp_ge (pc := 39) (tgt := 49) dX8_doScrub_39 (by decide) (fun c40 => ?_) (fun c40 => ?_)
    · have h := g_ift c40 h
      refine g_iconst (pc := 49) (v := 0) dX8_doScrub_49 (by decide) ?_
      exact g_lv [1, 2, 3, 4, 0] rfl (tX8_doScrub_b50 hE n i hi K4 hK4 v1 v2 v3 r39 0 139 σ38 h)
    · have h := g_iff c40 h
      refine g_iload (pc := 42) dX8_doScrub_42 0 rfl ?_
      refine g_iconst (pc := 44) (v := 1) dX8_doScrub_44 (by decide) ?_
      refine g_iadd (pc := 45) dX8_doScrub_45 ?_
      refine g_goto (pc := 46) (tgt := 50) dX8_doScrub_46 (by decide) ?_
      exact g_lv [1, 2, 3, 4, 0] rfl (tX8_doScrub_b50 hE n i hi K4 hK4 v1 v2 v3 r39 (r39 + 1) 139 σ38 h)
def fX8_doScrub_L4 (n : Nat) (i : Nat) : Nat → Int32 → Int32 → Int32 → gM → Option (Int32 × gM)
  | 0 => fun _ _ _ _ => none
  | k + 1 => fX8_doScrub_b4 n i (fX8_doScrub_L4 n i k)
theorem tX8_doScrub_L4 (hE : gEX l dC dI ad ca X) {r0 : Int32} {σ' : gM} (n : Nat) (i : Nat) (hi : i < 3)  : ∀ (k : Nat) (v1 : Int32) (v2 : Int32) (v3 : Int32) (σ : gM), fX8_doScrub_L4 n i k v1 v2 v3 σ = some (r0, σ') → g_G l dC dI ad ca shX X cX8_doScrub 5 RX8 (some .int) (gR 4) (some (.int r0)) σ' 4 [(0, .ref (9 + 5 * i)), (1, .int v1), (2, .int v2), (3, .int v3)] [] σ := by
  intro k
  induction k with
  | zero => intro v1 v2 v3 σ h; cases h
  | succ k ih => intro v1 v2 v3 σ h; exact tX8_doScrub_b4 hE n i hi (fX8_doScrub_L4 n i k) ih v1 v2 v3 σ h
def fX8_doScrub (n : Nat) (i : Nat) (v1 : Int32) (σ : gM) : Option (Int32 × gM) := fX8_doScrub_L4 n i n v1 0 0 σ
set_option maxRecDepth 100000 in
theorem kX8_doScrub (hE : gEX l dC dI ad ca X) (n : Nat) (i : Nat) (hi : i < 3)  (v1 : Int32) (σ : gM) {r0 : Int32} {σ' : gM} (h : fX8_doScrub n i v1 σ = some (r0, σ')) : g_C l dC dI ad ca shX X yX8_doScrub cX8_doScrub 5 (some .int) (gR 4) [.ref (9 + 5 * i), .int v1] σ (some (.int r0)) σ' := by
  refine g_entry (by decide +kernel) (Nat.le_of_ble_eq_true rfl) ?_
  refine g_lvE (lv1 := [(0, .ref (9 + 5 * i)), (1, .int v1)]) rfl ?_
  unfold fX8_doScrub at h
  refine g_iconst (pc := 0) (v := 0) dX8_doScrub_0 (by decide) ?_
  refine g_istore_n (pc := 1) (lv1 := [(2, .int 0), (0, .ref (9 + 5 * i)), (1, .int v1)]) dX8_doScrub_1 rfl (by decide) rfl ?_
  refine g_iconst (pc := 2) (v := 0) dX8_doScrub_2 (by decide) ?_
  refine g_istore_n (pc := 3) (lv1 := [(3, .int 0), (2, .int 0), (0, .ref (9 + 5 * i)), (1, .int v1)]) dX8_doScrub_3 rfl (by decide) rfl ?_
  exact g_lv [2, 3, 1, 0] rfl (tX8_doScrub_L4 hE n i hi n v1 0 0 σ h)
def fX8_doSpoil (i : Nat) (v1 : Int32) (v2 : Int32) (v3 : Int32) (v4 : Int32) (σ : gM) : Option (Int32 × gM) := g_bI (fX9_byteAt i v1 v2 v3 σ) (fun r8 σ7 => g_bV (fX9_putByte i v1 v2 v3 (r8 ^^^ v4) σ7) (fun σ10 => some (r8 ^^^ v4, σ10)))
set_option maxRecDepth 100000 in
theorem kX8_doSpoil (hE : gEX l dC dI ad ca X) (i : Nat) (hi : i < 3)  (v1 : Int32) (v2 : Int32) (v3 : Int32) (v4 : Int32) (σ : gM) {r0 : Int32} {σ' : gM} (h : fX8_doSpoil i v1 v2 v3 v4 σ = some (r0, σ')) : g_C l dC dI ad ca shX X yX8_doSpoil cX8_doSpoil 6 (some .int) (gR 1) [.ref (9 + 5 * i), .int v1, .int v2, .int v3, .int v4] σ (some (.int r0)) σ' := by
  refine g_entry (by decide +kernel) (Nat.le_of_ble_eq_true rfl) ?_
  refine g_lvE (lv1 := [(0, .ref (9 + 5 * i)), (1, .int v1), (2, .int v2), (3, .int v3), (4, .int v4)]) rfl ?_
  unfold fX8_doSpoil at h
  refine g_aload_n (pc := 0) dX8_doSpoil_0 rfl 0 rfl ?_
  refine g_getR (pc := 1) wfX8_12 (sX_shelf (i := i) hi) rfl dX8_doSpoil_1 ?_
  refine g_iload_n (pc := 4) dX8_doSpoil_4 rfl 1 rfl ?_
  refine g_iload_n (pc := 5) dX8_doSpoil_5 rfl 2 rfl ?_
  refine g_iload_n (pc := 6) dX8_doSpoil_6 rfl 3 rfl ?_
  obtain ⟨r8, σ7, h6, h⟩ := g_bId h
  refine g_callVi (pc := 7) (st := []) hE.1 wvX8_240 (sX_state (i := i) hi) rfl (kX9_byteAt hE i hi v1 v2 v3 σ h6) rfl (gR_ok (by decide) (by decide)) (Nat.le_of_ble_eq_true rfl) rfl dX8_doSpoil_7 ?_
  refine g_iload (pc := 10) dX8_doSpoil_10 4 rfl ?_
  refine g_ixor (pc := 12) dX8_doSpoil_12 ?_
  refine g_istore (pc := 13) (lv1 := [(5, .int (r8 ^^^ v4)), (0, .ref (9 + 5 * i)), (1, .int v1), (2, .int v2), (3, .int v3), (4, .int v4)]) dX8_doSpoil_13 (by decide) rfl ?_
  refine g_aload_n (pc := 15) dX8_doSpoil_15 rfl 1 rfl ?_
  refine g_getR (pc := 16) wfX8_12 (sX_shelf (i := i) hi) rfl dX8_doSpoil_16 ?_
  refine g_iload_n (pc := 19) dX8_doSpoil_19 rfl 2 rfl ?_
  refine g_iload_n (pc := 20) dX8_doSpoil_20 rfl 3 rfl ?_
  refine g_iload_n (pc := 21) dX8_doSpoil_21 rfl 4 rfl ?_
  refine g_iload (pc := 22) dX8_doSpoil_22 0 rfl ?_
  obtain ⟨σ10, h9, h⟩ := g_bVd h
  refine g_callVv (pc := 24) (st := []) hE.1 wvX8_101 (sX_state (i := i) hi) rfl (kX9_putByte hE i hi v1 v2 v3 (r8 ^^^ v4) σ7 h9) rfl (gR_ok (by decide) (by decide)) (Nat.le_of_ble_eq_true rfl) rfl dX8_doSpoil_24 ?_
  refine g_iload (pc := 27) dX8_doSpoil_27 0 rfl ?_
  cases h
  exact g_iret (pc := 29) rfl rfl rfl rfl dX8_doSpoil_29
def fX8_doTear_b117 (n : Nat) (i : Nat) (v4 : Int32) (σ : gM) : Option (Int32 × gM) := g_bI (fX9_get i 140 σ) (fun r39 σ38 => g_bV (fX9_set i 140 (r39 ||| (1 <<< (v4 &&& 31))) σ38) (fun σ41 => g_bI (fX9_get i 140 σ41) (fun r44 σ43 => g_bI (fJ6_bitCount_0f7a4 r44 σ43) (fun r47 σ46 => some (r47, σ46)))))
set_option maxRecDepth 100000 in
theorem tX8_doTear_b117 (hE : gEX l dC dI ad ca X) {r0 : Int32} {σ' : gM} (n : Nat) (i : Nat) (hi : i < 3) (v4 : Int32)  (σ : gM) (h : fX8_doTear_b117 n i v4 σ = some (r0, σ')) : g_G l dC dI ad ca shX X cX8_doTear 8 RX8 (some .int) (gR 4) (some (.int r0)) σ' 117 [(0, .ref (9 + 5 * i)), (4, .int v4)] [] σ := by
  unfold fX8_doTear_b117 at h
  refine g_aload_n (pc := 117) dX8_doTear_117 rfl 0 rfl ?_
  refine g_getR (pc := 118) wfX8_12 (sX_shelf (i := i) hi) rfl dX8_doTear_118 ?_
  refine g_sipush (pc := 121) (v := 140) dX8_doTear_121 (by decide) ?_
  refine g_aload_n (pc := 124) dX8_doTear_124 rfl 0 rfl ?_
  refine g_getR (pc := 125) wfX8_12 (sX_shelf (i := i) hi) rfl dX8_doTear_125 ?_
  refine g_sipush (pc := 128) (v := 140) dX8_doTear_128 (by decide) ?_
  obtain ⟨r39, σ38, h37, h⟩ := g_bId h
  refine g_callVi (pc := 131) (st := [.int 140, .ref (10 + 5 * i)]) hE.1 wvX8_31 (sX_state (i := i) hi) rfl (kX9_get hE i hi 140 σ h37) rfl (gR_ok (by decide) (by decide)) (Nat.le_of_ble_eq_true rfl) rfl dX8_doTear_131 ?_
  refine g_iconst (pc := 134) (v := 1) dX8_doTear_134 (by decide) ?_
  refine g_iload (pc := 135) dX8_doTear_135 1 rfl ?_
  refine g_ishl (pc := 137) dX8_doTear_137 ?_
  refine g_ior (pc := 138) dX8_doTear_138 ?_
  obtain ⟨σ41, h40, h⟩ := g_bVd h
  refine g_callVv (pc := 139) (st := []) hE.1 wvX8_212 (sX_state (i := i) hi) rfl (kX9_set hE i hi 140 (r39 ||| (1 <<< (v4 &&& 31))) σ38 h40) rfl (gR_ok (by decide) (by decide)) (Nat.le_of_ble_eq_true rfl) rfl dX8_doTear_139 ?_
  refine g_aload_n (pc := 142) dX8_doTear_142 rfl 0 rfl ?_
  refine g_getR (pc := 143) wfX8_12 (sX_shelf (i := i) hi) rfl dX8_doTear_143 ?_
  refine g_sipush (pc := 146) (v := 140) dX8_doTear_146 (by decide) ?_
  obtain ⟨r44, σ43, h42, h⟩ := g_bId h
  refine g_callVi (pc := 149) (st := []) hE.1 wvX8_31 (sX_state (i := i) hi) rfl (kX9_get hE i hi 140 σ41 h42) rfl (gR_ok (by decide) (by decide)) (Nat.le_of_ble_eq_true rfl) rfl dX8_doTear_149 ?_
  obtain ⟨r47, σ46, h45, h⟩ := g_bId h
  refine g_callSi (pc := 152) (st := []) hE.1 wsX8_56 (kJ6_bitCount_0f7a4 hE r44 σ43 h45) rfl (gR_ok (by decide) (by decide)) (Nat.le_of_ble_eq_true rfl) rfl dX8_doTear_152 ?_
  cases h
  exact g_iret (pc := 155) rfl rfl rfl rfl dX8_doTear_155
def fX8_doTear_b114 (n : Nat) (i : Nat) (v4 : Int32) (s0 : Int32) (s1 : Int32) (s2 : Int32) (σ : gM) : Option (Int32 × gM) := g_bV (fX8_store n i s2 s1 s0 σ) (fun σ49 => fX8_doTear_b117 n i v4 σ49)
set_option maxRecDepth 100000 in
theorem tX8_doTear_b114 (hE : gEX l dC dI ad ca X) {r0 : Int32} {σ' : gM} (n : Nat) (i : Nat) (hi : i < 3) (v4 : Int32) (s0 : Int32) (s1 : Int32) (s2 : Int32)  (σ : gM) (h : fX8_doTear_b114 n i v4 s0 s1 s2 σ = some (r0, σ')) : g_G l dC dI ad ca shX X cX8_doTear 8 RX8 (some .int) (gR 4) (some (.int r0)) σ' 114 [(0, .ref (9 + 5 * i)), (4, .int v4)] [.int s0, .int s1, .int s2, .ref (9 + 5 * i)] σ := by
  unfold fX8_doTear_b114 at h
  obtain ⟨σ49, h48, h⟩ := g_bVd h
  refine g_callVv (pc := 114) (st := []) hE.1 wvX8_208 (sX_shelf (i := i) hi) rfl (kX8_store hE n i hi s2 s1 s0 σ h48) rfl (gR_ok (by decide) (by decide)) (Nat.le_of_ble_eq_true rfl) rfl dX8_doTear_114 ?_
  exact g_lv [0, 1] rfl (tX8_doTear_b117 hE n i hi v4 σ49 h)
def fX8_doTear (n : Nat) (i : Nat) (v1 : Int32) (v2 : Int32) (v3 : Int32) (σ : gM) : Option (Int32 × gM) := g_bI (fX6_stripeOf v1 σ) (fun r52 σ51 => g_bI (fX6_partOf v1 σ51) (fun r55 σ54 => g_bI (fX6_byteOf v1 σ54) (fun r58 σ57 => g_bI (fX8_missing n i r52 σ57) (fun r61 σ60 => g_bV (fX5_gather n i i r52 r58 r61 σ60) (fun σ63 => g_bV (fX5_change i r55 v2 σ63) (fun σ65 => g_bI (fX8_writeBits i r61 r55 σ65) (fun r68 σ67 => g_bV (fX8_countReads n i r52 r68 σ67) (fun σ70 => if v3 ≤ 0 then (fX8_doTear_b117 n i r52 σ70) else (if v3 = 1 then (fX8_doTear_b114 n i r52 (1 <<< (r55 &&& 31)) r58 r52 σ70) else (fX8_doTear_b114 n i r52 ((1 <<< (r55 &&& 31)) ||| (1 <<< ((σ70.1 5 6) &&& 31))) r58 r52 σ70))))))))))
set_option maxRecDepth 100000 in
theorem kX8_doTear (hE : gEX l dC dI ad ca X) (n : Nat) (i : Nat) (hi : i < 3)  (v1 : Int32) (v2 : Int32) (v3 : Int32) (σ : gM) {r0 : Int32} {σ' : gM} (h : fX8_doTear n i v1 v2 v3 σ = some (r0, σ')) : g_C l dC dI ad ca shX X yX8_doTear cX8_doTear 8 (some .int) (gR 4) [.ref (9 + 5 * i), .int v1, .int v2, .int v3] σ (some (.int r0)) σ' := by
  refine g_entry (by decide +kernel) (Nat.le_of_ble_eq_true rfl) ?_
  refine g_lvE (lv1 := [(0, .ref (9 + 5 * i)), (1, .int v1), (2, .int v2), (3, .int v3)]) rfl ?_
  unfold fX8_doTear at h
  refine g_aload_n (pc := 0) dX8_doTear_0 rfl 0 rfl ?_
  refine g_getR (pc := 1) wfX8_18 (sX_shelf (i := i) hi) rfl dX8_doTear_1 ?_
  refine g_iload_n (pc := 4) dX8_doTear_4 rfl 1 rfl ?_
  obtain ⟨r52, σ51, h50, h⟩ := g_bId h
  refine g_callVi (pc := 5) (st := []) hE.1 wvX8_61 rfl rfl (kX6_stripeOf hE v1 σ h50) rfl (gR_ok (by decide) (by decide)) (Nat.le_of_ble_eq_true rfl) rfl dX8_doTear_5 ?_
  refine g_istore (pc := 8) (lv1 := [(4, .int r52), (0, .ref (9 + 5 * i)), (1, .int v1), (2, .int v2), (3, .int v3)]) dX8_doTear_8 (by decide) rfl ?_
  refine g_aload_n (pc := 10) dX8_doTear_10 rfl 1 rfl ?_
  refine g_getR (pc := 11) wfX8_18 (sX_shelf (i := i) hi) rfl dX8_doTear_11 ?_
  refine g_iload_n (pc := 14) dX8_doTear_14 rfl 2 rfl ?_
  obtain ⟨r55, σ54, h53, h⟩ := g_bId h
  refine g_callVi (pc := 15) (st := []) hE.1 wvX8_74 rfl rfl (kX6_partOf hE v1 σ51 h53) rfl (gR_ok (by decide) (by decide)) (Nat.le_of_ble_eq_true rfl) rfl dX8_doTear_15 ?_
  refine g_istore (pc := 18) (lv1 := [(5, .int r55), (4, .int r52), (0, .ref (9 + 5 * i)), (1, .int v1), (2, .int v2), (3, .int v3)]) dX8_doTear_18 (by decide) rfl ?_
  refine g_aload_n (pc := 20) dX8_doTear_20 rfl 2 rfl ?_
  refine g_getR (pc := 21) wfX8_18 (sX_shelf (i := i) hi) rfl dX8_doTear_21 ?_
  refine g_iload_n (pc := 24) dX8_doTear_24 rfl 3 rfl ?_
  obtain ⟨r58, σ57, h56, h⟩ := g_bId h
  refine g_callVi (pc := 25) (st := []) hE.1 wvX8_64 rfl rfl (kX6_byteOf hE v1 σ54 h56) rfl (gR_ok (by decide) (by decide)) (Nat.le_of_ble_eq_true rfl) rfl dX8_doTear_25 ?_
  refine g_istore (pc := 28) (lv1 := [(6, .int r58), (5, .int r55), (4, .int r52), (0, .ref (9 + 5 * i)), (1, .int v1), (2, .int v2), (3, .int v3)]) dX8_doTear_28 (by decide) rfl ?_
  refine g_aload_n (pc := 30) dX8_doTear_30 rfl 3 rfl ?_
  refine g_iload (pc := 31) dX8_doTear_31 2 rfl ?_
  obtain ⟨r61, σ60, h59, h⟩ := g_bId h
  refine g_callVi (pc := 33) (st := []) hE.1 wvX8_67 (sX_shelf (i := i) hi) rfl (kX8_missing hE n i hi r52 σ57 h59) rfl (gR_ok (by decide) (by decide)) (Nat.le_of_ble_eq_true rfl) rfl dX8_doTear_33 ?_
  refine g_istore (pc := 36) (lv1 := [(7, .int r61), (6, .int r58), (5, .int r55), (4, .int r52), (0, .ref (9 + 5 * i)), (1, .int v1), (2, .int v2), (3, .int v3)]) dX8_doTear_36 (by decide) rfl ?_
  refine g_aload_n (pc := 38) dX8_doTear_38 rfl 4 rfl ?_
  refine g_getR (pc := 39) wfX8_27 (sX_shelf (i := i) hi) rfl dX8_doTear_39 ?_
  refine g_aload_n (pc := 42) dX8_doTear_42 rfl 4 rfl ?_
  refine g_getR (pc := 43) wfX8_12 (sX_shelf (i := i) hi) rfl dX8_doTear_43 ?_
  refine g_iload (pc := 46) dX8_doTear_46 3 rfl ?_
  refine g_iload (pc := 48) dX8_doTear_48 1 rfl ?_
  refine g_iload (pc := 50) dX8_doTear_50 0 rfl ?_
  obtain ⟨σ63, h62, h⟩ := g_bVd h
  refine g_callVv (pc := 52) (st := []) hE.1 wvX8_70 (sX_row (i := i) hi) rfl (kX5_gather hE n i hi i hi r52 r58 r61 σ60 h62) rfl (gR_ok (by decide) (by decide)) (Nat.le_of_ble_eq_true rfl) rfl dX8_doTear_52 ?_
  refine g_aload_n (pc := 55) dX8_doTear_55 rfl 4 rfl ?_
  refine g_getR (pc := 56) wfX8_27 (sX_shelf (i := i) hi) rfl dX8_doTear_56 ?_
  refine g_iload (pc := 59) dX8_doTear_59 2 rfl ?_
  refine g_iload_n (pc := 61) dX8_doTear_61 rfl 6 rfl ?_
  obtain ⟨σ65, h64, h⟩ := g_bVd h
  refine g_callVv (pc := 62) (st := []) hE.1 wvX8_196 (sX_row (i := i) hi) rfl (kX5_change hE i hi r55 v2 σ63 h64) rfl (gR_ok (by decide) (by decide)) (Nat.le_of_ble_eq_true rfl) rfl dX8_doTear_62 ?_
  refine g_aload_n (pc := 65) dX8_doTear_65 rfl 4 rfl ?_
  refine g_iload (pc := 66) dX8_doTear_66 3 rfl ?_
  refine g_aload_n (pc := 68) dX8_doTear_68 rfl 4 rfl ?_
  refine g_iload (pc := 69) dX8_doTear_69 0 rfl ?_
  refine g_iload (pc := 71) dX8_doTear_71 2 rfl ?_
  obtain ⟨r68, σ67, h66, h⟩ := g_bId h
  refine g_callVi (pc := 73) (st := [.int r52, .ref (9 + 5 * i)]) hE.1 wvX8_85 (sX_shelf (i := i) hi) rfl (kX8_writeBits hE i hi r61 r55 σ65 h66) rfl (gR_ok (by decide) (by decide)) (Nat.le_of_ble_eq_true rfl) rfl dX8_doTear_73 ?_
  obtain ⟨σ70, h69, h⟩ := g_bVd h
  refine g_callVv (pc := 76) (st := []) hE.1 wvX8_205 (sX_shelf (i := i) hi) rfl (kX8_countReads hE n i hi r52 r68 σ67 h69) rfl (gR_ok (by decide) (by decide)) (Nat.le_of_ble_eq_true rfl) rfl dX8_doTear_76 ?_
  refine g_iload_n (pc := 79) dX8_doTear_79 rfl 7 rfl ?_
  refine g_if_le (pc := 80) (tgt := 117) dX8_doTear_80 (by decide) (fun c71 => ?_) (fun c71 => ?_)
  · have h := g_ift c71 h
    exact g_lv [4, 3] rfl (tX8_doTear_b117 hE n i hi r52 σ70 h)
  · have h := g_iff c71 h
    refine g_aload_n (pc := 83) dX8_doTear_83 rfl 4 rfl ?_
    refine g_iload (pc := 84) dX8_doTear_84 3 rfl ?_
    refine g_iload (pc := 86) dX8_doTear_86 1 rfl ?_
    refine g_iload_n (pc := 88) dX8_doTear_88 rfl 7 rfl ?_
    refine g_iconst (pc := 89) (v := 1) dX8_doTear_89 (by decide) ?_
    refine g_icmp_ne (pc := 90) (tgt := 100) dX8_doTear_90 (by decide) (fun c72 => ?_) (fun c72 => ?_)
    · have h := g_iff c72 h
      refine g_iconst (pc := 100) (v := 1) dX8_doTear_100 (by decide) ?_
      refine g_iload (pc := 101) dX8_doTear_101 2 rfl ?_
      refine g_ishl (pc := 103) dX8_doTear_103 ?_
      refine g_iconst (pc := 104) (v := 1) dX8_doTear_104 (by decide) ?_
      refine g_aload_n (pc := 105) dX8_doTear_105 rfl 4 rfl ?_
      refine g_getR (pc := 106) wfX8_18 (sX_shelf (i := i) hi) rfl dX8_doTear_106 ?_
      refine g_getI (pc := 109) wfX8_91 rfl rfl dX8_doTear_109 ?_
      refine g_ishl (pc := 112) dX8_doTear_112 ?_
      refine g_ior (pc := 113) dX8_doTear_113 ?_
      exact g_lv [4, 3] rfl (tX8_doTear_b114 hE n i hi r52 ((1 <<< (r55 &&& 31)) ||| (1 <<< ((σ70.1 5 6) &&& 31))) r58 r52 σ70 h)
    · have h := g_ift c72 h
      refine g_iconst (pc := 93) (v := 1) dX8_doTear_93 (by decide) ?_
      refine g_iload (pc := 94) dX8_doTear_94 2 rfl ?_
      refine g_ishl (pc := 96) dX8_doTear_96 ?_
      refine g_goto (pc := 97) (tgt := 114) dX8_doTear_97 (by decide) ?_
      exact g_lv [4, 3] rfl (tX8_doTear_b114 hE n i hi r52 (1 <<< (r55 &&& 31)) r58 r52 σ70 h)
def fX8_cleanStripe_b2 (n : Nat) (i : Nat) (K2 : Int32 → Int32 → gM → Option (gM)) (v1 : Int32) (v2 : Int32) (σ : gM) : Option (gM) := if (σ.1 5 2) ≤ v2 then (g_bI (fX9_get i 140 σ) (fun r18 σ17 => g_bV (fX9_set i 140 (r18 &&& ((1 <<< (v1 &&& 31)) ^^^ (-1))) σ17) (fun σ20 => some σ20))) else (g_bV (fX5_load n i i v1 v2 0 σ) (fun σ22 => g_bV (fX5_reckonSums n i σ22) (fun σ24 => g_bV (fX8_countReads n i v1 (σ24.1 5 8) σ24) (fun σ26 => g_bV (fX8_store n i v1 v2 ((1 <<< ((σ26.1 5 6) &&& 31)) ||| (1 <<< ((σ26.1 5 7) &&& 31))) σ26) (fun σ28 => K2 v1 (v2 + 1) σ28)))))
set_option maxRecDepth 100000 in
theorem tX8_cleanStripe_b2 (hE : gEX l dC dI ad ca X) {σ' : gM} (n : Nat) (i : Nat) (hi : i < 3) (K2 : Int32 → Int32 → gM → Option (gM)) (hK2 : ∀ (v1 : Int32) (v2 : Int32) (σ : gM), K2 v1 v2 σ = some σ' → g_G l dC dI ad ca shX X cX8_cleanStripe 3 RX8 none (gR 3) none σ' 2 [(0, .ref (9 + 5 * i)), (1, .int v1), (2, .int v2)] [] σ) (v1 : Int32) (v2 : Int32)  (σ : gM) (h : fX8_cleanStripe_b2 n i K2 v1 v2 σ = some σ') : g_G l dC dI ad ca shX X cX8_cleanStripe 3 RX8 none (gR 3) none σ' 2 [(0, .ref (9 + 5 * i)), (1, .int v1), (2, .int v2)] [] σ := by
  unfold fX8_cleanStripe_b2 at h
  refine g_iload_n (pc := 2) dX8_cleanStripe_2 rfl 2 rfl ?_
  refine g_aload_n (pc := 3) dX8_cleanStripe_3 rfl 0 rfl ?_
  refine g_getR (pc := 4) wfX8_18 (sX_shelf (i := i) hi) rfl dX8_cleanStripe_4 ?_
  refine g_getI (pc := 7) wfX8_218 rfl rfl dX8_cleanStripe_7 ?_
  refine g_icmp_ge (pc := 10) (tgt := 77) dX8_cleanStripe_10 (by decide) (fun c15 => ?_) (fun c15 => ?_)
  · have h := g_ift c15 h
    refine g_aload_n (pc := 77) dX8_cleanStripe_77 rfl 0 rfl ?_
    refine g_getR (pc := 78) wfX8_12 (sX_shelf (i := i) hi) rfl dX8_cleanStripe_78 ?_
    refine g_sipush (pc := 81) (v := 140) dX8_cleanStripe_81 (by decide) ?_
    refine g_aload_n (pc := 84) dX8_cleanStripe_84 rfl 0 rfl ?_
    refine g_getR (pc := 85) wfX8_12 (sX_shelf (i := i) hi) rfl dX8_cleanStripe_85 ?_
    refine g_sipush (pc := 88) (v := 140) dX8_cleanStripe_88 (by decide) ?_
    obtain ⟨r18, σ17, h16, h⟩ := g_bId h
    refine g_callVi (pc := 91) (st := [.int 140, .ref (10 + 5 * i)]) hE.1 wvX8_31 (sX_state (i := i) hi) rfl (kX9_get hE i hi 140 σ h16) rfl (gR_ok (by decide) (by decide)) (Nat.le_of_ble_eq_true rfl) rfl dX8_cleanStripe_91 ?_
    refine g_iconst (pc := 94) (v := 1) dX8_cleanStripe_94 (by decide) ?_
    refine g_iload_n (pc := 95) dX8_cleanStripe_95 rfl 1 rfl ?_
    refine g_ishl (pc := 96) dX8_cleanStripe_96 ?_
    refine g_iconst (pc := 97) (v := (-1)) dX8_cleanStripe_97 (by decide) ?_
    refine g_ixor (pc := 98) dX8_cleanStripe_98 ?_
    refine g_iand (pc := 99) dX8_cleanStripe_99 ?_
    obtain ⟨σ20, h19, h⟩ := g_bVd h
    refine g_callVv (pc := 100) (st := []) hE.1 wvX8_212 (sX_state (i := i) hi) rfl (kX9_set hE i hi 140 (r18 &&& ((1 <<< (v1 &&& 31)) ^^^ (-1))) σ17 h19) rfl (gR_ok (by decide) (by decide)) (Nat.le_of_ble_eq_true rfl) rfl dX8_cleanStripe_100 ?_
    cases h
    exact g_vret (pc := 103) rfl rfl rfl dX8_cleanStripe_103
  · have h := g_iff c15 h
    refine g_aload_n (pc := 13) dX8_cleanStripe_13 rfl 0 rfl ?_
    refine g_getR (pc := 14) wfX8_27 (sX_shelf (i := i) hi) rfl dX8_cleanStripe_14 ?_
    refine g_aload_n (pc := 17) dX8_cleanStripe_17 rfl 0 rfl ?_
    refine g_getR (pc := 18) wfX8_12 (sX_shelf (i := i) hi) rfl dX8_cleanStripe_18 ?_
    refine g_iload_n (pc := 21) dX8_cleanStripe_21 rfl 1 rfl ?_
    refine g_iload_n (pc := 22) dX8_cleanStripe_22 rfl 2 rfl ?_
    refine g_iconst (pc := 23) (v := 0) dX8_cleanStripe_23 (by decide) ?_
    obtain ⟨σ22, h21, h⟩ := g_bVd h
    refine g_callVv (pc := 24) (st := []) hE.1 wvX8_227 (sX_row (i := i) hi) rfl (kX5_load hE n i hi i hi v1 v2 0 σ h21) rfl (gR_ok (by decide) (by decide)) (Nat.le_of_ble_eq_true rfl) rfl dX8_cleanStripe_24 ?_
    refine g_aload_n (pc := 27) dX8_cleanStripe_27 rfl 0 rfl ?_
    refine g_getR (pc := 28) wfX8_27 (sX_shelf (i := i) hi) rfl dX8_cleanStripe_28 ?_
    obtain ⟨σ24, h23, h⟩ := g_bVd h
    refine g_callVv (pc := 31) (st := []) hE.1 wvX8_202 (sX_row (i := i) hi) rfl (kX5_reckonSums hE n i hi σ22 h23) rfl (gR_ok (by decide) (by decide)) (Nat.le_of_ble_eq_true rfl) rfl dX8_cleanStripe_31 ?_
    refine g_aload_n (pc := 34) dX8_cleanStripe_34 rfl 0 rfl ?_
    refine g_iload_n (pc := 35) dX8_cleanStripe_35 rfl 1 rfl ?_
    refine g_aload_n (pc := 36) dX8_cleanStripe_36 rfl 0 rfl ?_
    refine g_getR (pc := 37) wfX8_18 (sX_shelf (i := i) hi) rfl dX8_cleanStripe_37 ?_
    refine g_getI (pc := 40) wfX8_78 rfl rfl dX8_cleanStripe_40 ?_
    obtain ⟨σ26, h25, h⟩ := g_bVd h
    refine g_callVv (pc := 43) (st := []) hE.1 wvX8_205 (sX_shelf (i := i) hi) rfl (kX8_countReads hE n i hi v1 (σ24.1 5 8) σ24 h25) rfl (gR_ok (by decide) (by decide)) (Nat.le_of_ble_eq_true rfl) rfl dX8_cleanStripe_43 ?_
    refine g_aload_n (pc := 46) dX8_cleanStripe_46 rfl 0 rfl ?_
    refine g_iload_n (pc := 47) dX8_cleanStripe_47 rfl 1 rfl ?_
    refine g_iload_n (pc := 48) dX8_cleanStripe_48 rfl 2 rfl ?_
    refine g_iconst (pc := 49) (v := 1) dX8_cleanStripe_49 (by decide) ?_
    refine g_aload_n (pc := 50) dX8_cleanStripe_50 rfl 0 rfl ?_
    refine g_getR (pc := 51) wfX8_18 (sX_shelf (i := i) hi) rfl dX8_cleanStripe_51 ?_
    refine g_getI (pc := 54) wfX8_91 rfl rfl dX8_cleanStripe_54 ?_
    refine g_ishl (pc := 57) dX8_cleanStripe_57 ?_
    refine g_iconst (pc := 58) (v := 1) dX8_cleanStripe_58 (by decide) ?_
    refine g_aload_n (pc := 59) dX8_cleanStripe_59 rfl 0 rfl ?_
    refine g_getR (pc := 60) wfX8_18 (sX_shelf (i := i) hi) rfl dX8_cleanStripe_60 ?_
    refine g_getI (pc := 63) wfX8_94 rfl rfl dX8_cleanStripe_63 ?_
    refine g_ishl (pc := 66) dX8_cleanStripe_66 ?_
    refine g_ior (pc := 67) dX8_cleanStripe_67 ?_
    obtain ⟨σ28, h27, h⟩ := g_bVd h
    refine g_callVv (pc := 68) (st := []) hE.1 wvX8_208 (sX_shelf (i := i) hi) rfl (kX8_store hE n i hi v1 v2 ((1 <<< ((σ26.1 5 6) &&& 31)) ||| (1 <<< ((σ26.1 5 7) &&& 31))) σ26 h27) rfl (gR_ok (by decide) (by decide)) (Nat.le_of_ble_eq_true rfl) rfl dX8_cleanStripe_68 ?_
    refine g_iinc (pc := 71) (v := v2 + 1) (lv1 := [(2, .int (v2 + 1)), (0, .ref (9 + 5 * i)), (1, .int v1)]) dX8_cleanStripe_71 2 rfl rfl (by decide) rfl ?_
    refine g_goto (pc := 74) (tgt := 2) dX8_cleanStripe_74 (by decide) ?_
    exact g_lv [1, 2, 0] rfl (hK2 v1 (v2 + 1) σ28 h)
def fX8_cleanStripe_L2 (n : Nat) (i : Nat) : Nat → Int32 → Int32 → gM → Option (gM)
  | 0 => fun _ _ _ => none
  | k + 1 => fX8_cleanStripe_b2 n i (fX8_cleanStripe_L2 n i k)
theorem tX8_cleanStripe_L2 (hE : gEX l dC dI ad ca X) {σ' : gM} (n : Nat) (i : Nat) (hi : i < 3)  : ∀ (k : Nat) (v1 : Int32) (v2 : Int32) (σ : gM), fX8_cleanStripe_L2 n i k v1 v2 σ = some σ' → g_G l dC dI ad ca shX X cX8_cleanStripe 3 RX8 none (gR 3) none σ' 2 [(0, .ref (9 + 5 * i)), (1, .int v1), (2, .int v2)] [] σ := by
  intro k
  induction k with
  | zero => intro v1 v2 σ h; cases h
  | succ k ih => intro v1 v2 σ h; exact tX8_cleanStripe_b2 hE n i hi (fX8_cleanStripe_L2 n i k) ih v1 v2 σ h
def fX8_cleanStripe (n : Nat) (i : Nat) (v1 : Int32) (σ : gM) : Option (gM) := fX8_cleanStripe_L2 n i n v1 0 σ
set_option maxRecDepth 100000 in
theorem kX8_cleanStripe (hE : gEX l dC dI ad ca X) (n : Nat) (i : Nat) (hi : i < 3)  (v1 : Int32) (σ : gM) {σ' : gM} (h : fX8_cleanStripe n i v1 σ = some σ') : g_C l dC dI ad ca shX X yX8_cleanStripe cX8_cleanStripe 3 none (gR 3) [.ref (9 + 5 * i), .int v1] σ none σ' := by
  refine g_entry (by decide +kernel) (Nat.le_of_ble_eq_true rfl) ?_
  refine g_lvE (lv1 := [(0, .ref (9 + 5 * i)), (1, .int v1)]) rfl ?_
  unfold fX8_cleanStripe at h
  refine g_iconst (pc := 0) (v := 0) dX8_cleanStripe_0 (by decide) ?_
  refine g_istore_n (pc := 1) (lv1 := [(2, .int 0), (0, .ref (9 + 5 * i)), (1, .int v1)]) dX8_cleanStripe_1 rfl (by decide) rfl ?_
  exact g_lv [1, 2, 0] rfl (tX8_cleanStripe_L2 hE n i hi n v1 0 σ h)
end WKX3
