section WKX4
variable {l : Launch} {dC : Nat → ClassId} {dI : Nat → Nat → Nat} {ad : Nat → Nat} {ca : Nat → ClassId} {X : (Nat → Prop) → State → Heap → Prop}

def fX8_doClean_b39 (n : Nat) (i : Nat) (K4 : Int32 → Int32 → gM → Option (Int32 × gM)) (v1 : Int32) (v2 : Int32) (σ : gM) : Option (Int32 × gM) := K4 v1 (v2 + 1) σ
set_option maxRecDepth 100000 in
theorem tX8_doClean_b39 (hE : gEX l dC dI ad ca X) {r0 : Int32} {σ' : gM} (n : Nat) (i : Nat) (hi : i < 3) (K4 : Int32 → Int32 → gM → Option (Int32 × gM)) (hK4 : ∀ (v1 : Int32) (v2 : Int32) (σ : gM), K4 v1 v2 σ = some (r0, σ') → g_G l dC dI ad ca shX X cX8_doClean 3 RX8 (some .int) (gR 4) (some (.int r0)) σ' 4 [(0, .ref (9 + 5 * i)), (1, .int v1), (2, .int v2)] [] σ) (v1 : Int32) (v2 : Int32)  (σ : gM) (h : fX8_doClean_b39 n i K4 v1 v2 σ = some (r0, σ')) : g_G l dC dI ad ca shX X cX8_doClean 3 RX8 (some .int) (gR 4) (some (.int r0)) σ' 39 [(0, .ref (9 + 5 * i)), (1, .int v1), (2, .int v2)] [] σ := by
  unfold fX8_doClean_b39 at h
  refine g_iinc (pc := 39) (v := v2 + 1) (lv1 := [(2, .int (v2 + 1)), (0, .ref (9 + 5 * i)), (1, .int v1)]) dX8_doClean_39 2 rfl rfl (by decide) rfl ?_
  refine g_goto (pc := 42) (tgt := 4) dX8_doClean_42 (by decide) ?_
  exact g_lv [1, 2, 0] rfl (hK4 v1 (v2 + 1) σ h)
def fX8_doClean_b4 (n : Nat) (i : Nat) (K4 : Int32 → Int32 → gM → Option (Int32 × gM)) (v1 : Int32) (v2 : Int32) (σ : gM) : Option (Int32 × gM) := if (σ.1 5 1) ≤ v2 then (some (v1, σ)) else (g_bI (fX8_isDirty i v2 σ) (fun r15 σ14 => if r15 = 0 then (fX8_doClean_b39 n i K4 v1 v2 σ14) else (g_bI (fX8_missing n i v2 σ14) (fun r19 σ18 => if r19 = 0 then (g_bV (fX8_cleanStripe n i v2 σ18) (fun σ22 => fX8_doClean_b39 n i K4 (v1 + 1) v2 σ22)) else (fX8_doClean_b39 n i K4 v1 v2 σ18)))))
set_option maxRecDepth 100000 in
theorem tX8_doClean_b4 (hE : gEX l dC dI ad ca X) {r0 : Int32} {σ' : gM} (n : Nat) (i : Nat) (hi : i < 3) (K4 : Int32 → Int32 → gM → Option (Int32 × gM)) (hK4 : ∀ (v1 : Int32) (v2 : Int32) (σ : gM), K4 v1 v2 σ = some (r0, σ') → g_G l dC dI ad ca shX X cX8_doClean 3 RX8 (some .int) (gR 4) (some (.int r0)) σ' 4 [(0, .ref (9 + 5 * i)), (1, .int v1), (2, .int v2)] [] σ) (v1 : Int32) (v2 : Int32)  (σ : gM) (h : fX8_doClean_b4 n i K4 v1 v2 σ = some (r0, σ')) : g_G l dC dI ad ca shX X cX8_doClean 3 RX8 (some .int) (gR 4) (some (.int r0)) σ' 4 [(0, .ref (9 + 5 * i)), (1, .int v1), (2, .int v2)] [] σ := by
  unfold fX8_doClean_b4 at h
  refine g_iload_n (pc := 4) dX8_doClean_4 rfl 2 rfl ?_
  refine g_aload_n (pc := 5) dX8_doClean_5 rfl 0 rfl ?_
  refine g_getR (pc := 6) wfX8_18 (sX_shelf (i := i) hi) rfl dX8_doClean_6 ?_
  refine g_getI (pc := 9) wfX8_154 rfl rfl dX8_doClean_9 ?_
  refine g_icmp_ge (pc := 12) (tgt := 45) dX8_doClean_12 (by decide) (fun c12 => ?_) (fun c12 => ?_)
  · have h := g_ift c12 h
    refine g_iload_n (pc := 45) dX8_doClean_45 rfl 1 rfl ?_
    cases h
    exact g_iret (pc := 46) rfl rfl rfl rfl dX8_doClean_46
  · have h := g_iff c12 h
    refine g_aload_n (pc := 15) dX8_doClean_15 rfl 0 rfl ?_
    refine g_iload_n (pc := 16) dX8_doClean_16 rfl 2 rfl ?_
    obtain ⟨r15, σ14, h13, h⟩ := g_bId h
    refine g_callVi (pc := 17) (st := []) hE.1 wvX8_157 (sX_shelf (i := i) hi) rfl (kX8_isDirty hE i hi v2 σ h13) rfl (gR_ok (by decide) (by decide)) (Nat.le_of_ble_eq_true rfl) rfl dX8_doClean_17 ?_
    refine g_if_eq (pc := 20) (tgt := 39) dX8_doClean_20 (by decide) (fun c16 => ?_) (fun c16 => ?_)
    · have h := g_ift c16 h
      exact g_lv [0, 1, 2] rfl (tX8_doClean_b39 hE n i hi K4 hK4 v1 v2 σ14 h)
    · have h := g_iff c16 h
      refine g_aload_n (pc := 23) dX8_doClean_23 rfl 0 rfl ?_
      refine g_iload_n (pc := 24) dX8_doClean_24 rfl 2 rfl ?_
      obtain ⟨r19, σ18, h17, h⟩ := g_bId h
      refine g_callVi (pc := 25) (st := []) hE.1 wvX8_67 (sX_shelf (i := i) hi) rfl (kX8_missing hE n i hi v2 σ14 h17) rfl (gR_ok (by decide) (by decide)) (Nat.le_of_ble_eq_true rfl) rfl dX8_doClean_25 ?_
      refine g_if_ne (pc := 28) (tgt := 39) dX8_doClean_28 (by decide) (fun c20 => ?_) (fun c20 => ?_)
      · have h := g_iff c20 h
        exact g_lv [0, 1, 2] rfl (tX8_doClean_b39 hE n i hi K4 hK4 v1 v2 σ18 h)
      · have h := g_ift c20 h
        refine g_aload_n (pc := 31) dX8_doClean_31 rfl 0 rfl ?_
        refine g_iload_n (pc := 32) dX8_doClean_32 rfl 2 rfl ?_
        obtain ⟨σ22, h21, h⟩ := g_bVd h
        refine g_callVv (pc := 33) (st := []) hE.1 wvX8_243 (sX_shelf (i := i) hi) rfl (kX8_cleanStripe hE n i hi v2 σ18 h21) rfl (gR_ok (by decide) (by decide)) (Nat.le_of_ble_eq_true rfl) rfl dX8_doClean_33 ?_
        refine g_iinc (pc := 36) (v := v1 + 1) (lv1 := [(1, .int (v1 + 1)), (0, .ref (9 + 5 * i)), (2, .int v2)]) dX8_doClean_36 1 rfl rfl (by decide) rfl ?_
        exact g_lv [1, 0, 2] rfl (tX8_doClean_b39 hE n i hi K4 hK4 (v1 + 1) v2 σ22 h)
def fX8_doClean_L4 (n : Nat) (i : Nat) : Nat → Int32 → Int32 → gM → Option (Int32 × gM)
  | 0 => fun _ _ _ => none
  | k + 1 => fX8_doClean_b4 n i (fX8_doClean_L4 n i k)
theorem tX8_doClean_L4 (hE : gEX l dC dI ad ca X) {r0 : Int32} {σ' : gM} (n : Nat) (i : Nat) (hi : i < 3)  : ∀ (k : Nat) (v1 : Int32) (v2 : Int32) (σ : gM), fX8_doClean_L4 n i k v1 v2 σ = some (r0, σ') → g_G l dC dI ad ca shX X cX8_doClean 3 RX8 (some .int) (gR 4) (some (.int r0)) σ' 4 [(0, .ref (9 + 5 * i)), (1, .int v1), (2, .int v2)] [] σ := by
  intro k
  induction k with
  | zero => intro v1 v2 σ h; cases h
  | succ k ih => intro v1 v2 σ h; exact tX8_doClean_b4 hE n i hi (fX8_doClean_L4 n i k) ih v1 v2 σ h
def fX8_doClean (n : Nat) (i : Nat) (σ : gM) : Option (Int32 × gM) := fX8_doClean_L4 n i n 0 0 σ
set_option maxRecDepth 100000 in
theorem kX8_doClean (hE : gEX l dC dI ad ca X) (n : Nat) (i : Nat) (hi : i < 3)  (σ : gM) {r0 : Int32} {σ' : gM} (h : fX8_doClean n i σ = some (r0, σ')) : g_C l dC dI ad ca shX X yX8_doClean cX8_doClean 3 (some .int) (gR 4) [.ref (9 + 5 * i)] σ (some (.int r0)) σ' := by
  refine g_entry (by decide +kernel) (Nat.le_of_ble_eq_true rfl) ?_
  refine g_lvE (lv1 := [(0, .ref (9 + 5 * i))]) rfl ?_
  unfold fX8_doClean at h
  refine g_iconst (pc := 0) (v := 0) dX8_doClean_0 (by decide) ?_
  refine g_istore_n (pc := 1) (lv1 := [(1, .int 0), (0, .ref (9 + 5 * i))]) dX8_doClean_1 rfl (by decide) rfl ?_
  refine g_iconst (pc := 2) (v := 0) dX8_doClean_2 (by decide) ?_
  refine g_istore_n (pc := 3) (lv1 := [(2, .int 0), (1, .int 0), (0, .ref (9 + 5 * i))]) dX8_doClean_3 rfl (by decide) rfl ?_
  exact g_lv [2, 1, 0] rfl (tX8_doClean_L4 hE n i hi n 0 0 σ h)
def fX8_doFull_b3 (n : Nat) (i : Nat) (K3 : Int32 → Int32 → Int32 → Int32 → Int32 → gM → Option (Int32 × gM)) (v1 : Int32) (v2 : Int32) (v3 : Int32) (v4 : Int32) (v5 : Int32) (σ : gM) : Option (Int32 × gM) := if (σ.1 5 0) ≤ v5 then (g_bV (fX5_reckonSums n i σ) (fun σ16 => g_bI (fX8_missing n i v1 σ16) (fun r19 σ18 => g_bV (fX8_store n i v1 v2 ((σ16.1 5 9) &&& (r19 ^^^ (-1))) σ18) (fun σ21 => g_bI (fJ6_bitCount_0f7a4 ((σ16.1 5 9) &&& (r19 ^^^ (-1))) σ21) (fun r24 σ23 => some (r24, σ23)))))) else (g_bV (fX5_set i v5 ((v3 + (v5 * v4)) &&& 255) σ) (fun σ26 => K3 v1 v2 v3 v4 (v5 + 1) σ26))
set_option maxRecDepth 100000 in
theorem tX8_doFull_b3 (hE : gEX l dC dI ad ca X) {r0 : Int32} {σ' : gM} (n : Nat) (i : Nat) (hi : i < 3) (K3 : Int32 → Int32 → Int32 → Int32 → Int32 → gM → Option (Int32 × gM)) (hK3 : ∀ (v1 : Int32) (v2 : Int32) (v3 : Int32) (v4 : Int32) (v5 : Int32) (σ : gM), K3 v1 v2 v3 v4 v5 σ = some (r0, σ') → g_G l dC dI ad ca shX X cX8_doFull 6 RX8 (some .int) (gR 3) (some (.int r0)) σ' 3 [(0, .ref (9 + 5 * i)), (1, .int v1), (2, .int v2), (3, .int v3), (4, .int v4), (5, .int v5)] [] σ) (v1 : Int32) (v2 : Int32) (v3 : Int32) (v4 : Int32) (v5 : Int32)  (σ : gM) (h : fX8_doFull_b3 n i K3 v1 v2 v3 v4 v5 σ = some (r0, σ')) : g_G l dC dI ad ca shX X cX8_doFull 6 RX8 (some .int) (gR 3) (some (.int r0)) σ' 3 [(0, .ref (9 + 5 * i)), (1, .int v1), (2, .int v2), (3, .int v3), (4, .int v4), (5, .int v5)] [] σ := by
  unfold fX8_doFull_b3 at h
  refine g_iload (pc := 3) dX8_doFull_3 5 rfl ?_
  refine g_aload_n (pc := 5) dX8_doFull_5 rfl 0 rfl ?_
  refine g_getR (pc := 6) wfX8_18 (sX_shelf (i := i) hi) rfl dX8_doFull_6 ?_
  refine g_getI (pc := 9) wfX8_246 rfl rfl dX8_doFull_9 ?_
  refine g_icmp_ge (pc := 12) (tgt := 41) dX8_doFull_12 (by decide) (fun c14 => ?_) (fun c14 => ?_)
  · have h := g_ift c14 h
    refine g_aload_n (pc := 41) dX8_doFull_41 rfl 0 rfl ?_
    refine g_getR (pc := 42) wfX8_27 (sX_shelf (i := i) hi) rfl dX8_doFull_42 ?_
    obtain ⟨σ16, h15, h⟩ := g_bVd h
    refine g_callVv (pc := 45) (st := []) hE.1 wvX8_202 (sX_row (i := i) hi) rfl (kX5_reckonSums hE n i hi σ h15) rfl (gR_ok (by decide) (by decide)) (Nat.le_of_ble_eq_true rfl) rfl dX8_doFull_45 ?_
    refine g_aload_n (pc := 48) dX8_doFull_48 rfl 0 rfl ?_
    refine g_getR (pc := 49) wfX8_18 (sX_shelf (i := i) hi) rfl dX8_doFull_49 ?_
    refine g_getI (pc := 52) wfX8_88 rfl rfl dX8_doFull_52 ?_
    refine g_aload_n (pc := 55) dX8_doFull_55 rfl 0 rfl ?_
    refine g_iload_n (pc := 56) dX8_doFull_56 rfl 1 rfl ?_
    obtain ⟨r19, σ18, h17, h⟩ := g_bId h
    refine g_callVi (pc := 57) (st := [.int (σ16.1 5 9)]) hE.1 wvX8_67 (sX_shelf (i := i) hi) rfl (kX8_missing hE n i hi v1 σ16 h17) rfl (gR_ok (by decide) (by decide)) (Nat.le_of_ble_eq_true rfl) rfl dX8_doFull_57 ?_
    refine g_iconst (pc := 60) (v := (-1)) dX8_doFull_60 (by decide) ?_
    refine g_ixor (pc := 61) dX8_doFull_61 ?_
    refine g_iand (pc := 62) dX8_doFull_62 ?_
    refine g_istore (pc := 63) (lv1 := [(5, .int ((σ16.1 5 9) &&& (r19 ^^^ (-1)))), (0, .ref (9 + 5 * i)), (1, .int v1), (2, .int v2), (3, .int v3), (4, .int v4)]) dX8_doFull_63 (by decide) rfl ?_
    refine g_aload_n (pc := 65) dX8_doFull_65 rfl 1 rfl ?_
    refine g_iload_n (pc := 66) dX8_doFull_66 rfl 2 rfl ?_
    refine g_iload_n (pc := 67) dX8_doFull_67 rfl 3 rfl ?_
    refine g_iload (pc := 68) dX8_doFull_68 0 rfl ?_
    obtain ⟨σ21, h20, h⟩ := g_bVd h
    refine g_callVv (pc := 70) (st := []) hE.1 wvX8_208 (sX_shelf (i := i) hi) rfl (kX8_store hE n i hi v1 v2 ((σ16.1 5 9) &&& (r19 ^^^ (-1))) σ18 h20) rfl (gR_ok (by decide) (by decide)) (Nat.le_of_ble_eq_true rfl) rfl dX8_doFull_70 ?_
    refine g_iload (pc := 73) dX8_doFull_73 0 rfl ?_
    obtain ⟨r24, σ23, h22, h⟩ := g_bId h
    refine g_callSi (pc := 75) (st := []) hE.1 wsX8_56 (kJ6_bitCount_0f7a4 hE ((σ16.1 5 9) &&& (r19 ^^^ (-1))) σ21 h22) rfl (gR_ok (by decide) (by decide)) (Nat.le_of_ble_eq_true rfl) rfl dX8_doFull_75 ?_
    cases h
    exact g_iret (pc := 78) rfl rfl rfl rfl dX8_doFull_78
  · have h := g_iff c14 h
    refine g_aload_n (pc := 15) dX8_doFull_15 rfl 0 rfl ?_
    refine g_getR (pc := 16) wfX8_27 (sX_shelf (i := i) hi) rfl dX8_doFull_16 ?_
    refine g_iload (pc := 19) dX8_doFull_19 5 rfl ?_
    refine g_iload_n (pc := 21) dX8_doFull_21 rfl 3 rfl ?_
    refine g_iload (pc := 22) dX8_doFull_22 5 rfl ?_
    refine g_iload (pc := 24) dX8_doFull_24 4 rfl ?_
    refine g_imul (pc := 26) dX8_doFull_26 ?_
    refine g_iadd (pc := 27) dX8_doFull_27 ?_
    refine g_sipush (pc := 28) (v := 255) dX8_doFull_28 (by decide) ?_
    refine g_iand (pc := 31) dX8_doFull_31 ?_
    obtain ⟨σ26, h25, h⟩ := g_bVd h
    refine g_callVv (pc := 32) (st := []) hE.1 wvX8_199 (sX_row (i := i) hi) rfl (kX5_set hE i hi v5 ((v3 + (v5 * v4)) &&& 255) σ h25) rfl (gR_ok (by decide) (by decide)) (Nat.le_of_ble_eq_true rfl) rfl dX8_doFull_32 ?_
    refine g_iinc (pc := 35) (v := v5 + 1) (lv1 := [(5, .int (v5 + 1)), (0, .ref (9 + 5 * i)), (1, .int v1), (2, .int v2), (3, .int v3), (4, .int v4)]) dX8_doFull_35 5 rfl rfl (by decide) rfl ?_
    refine g_goto (pc := 38) (tgt := 3) dX8_doFull_38 (by decide) ?_
    exact g_lv [1, 2, 3, 4, 5, 0] rfl (hK3 v1 v2 v3 v4 (v5 + 1) σ26 h)
def fX8_doFull_L3 (n : Nat) (i : Nat) : Nat → Int32 → Int32 → Int32 → Int32 → Int32 → gM → Option (Int32 × gM)
  | 0 => fun _ _ _ _ _ _ => none
  | k + 1 => fX8_doFull_b3 n i (fX8_doFull_L3 n i k)
theorem tX8_doFull_L3 (hE : gEX l dC dI ad ca X) {r0 : Int32} {σ' : gM} (n : Nat) (i : Nat) (hi : i < 3)  : ∀ (k : Nat) (v1 : Int32) (v2 : Int32) (v3 : Int32) (v4 : Int32) (v5 : Int32) (σ : gM), fX8_doFull_L3 n i k v1 v2 v3 v4 v5 σ = some (r0, σ') → g_G l dC dI ad ca shX X cX8_doFull 6 RX8 (some .int) (gR 3) (some (.int r0)) σ' 3 [(0, .ref (9 + 5 * i)), (1, .int v1), (2, .int v2), (3, .int v3), (4, .int v4), (5, .int v5)] [] σ := by
  intro k
  induction k with
  | zero => intro v1 v2 v3 v4 v5 σ h; cases h
  | succ k ih => intro v1 v2 v3 v4 v5 σ h; exact tX8_doFull_b3 hE n i hi (fX8_doFull_L3 n i k) ih v1 v2 v3 v4 v5 σ h
def fX8_doFull (n : Nat) (i : Nat) (v1 : Int32) (v2 : Int32) (v3 : Int32) (v4 : Int32) (σ : gM) : Option (Int32 × gM) := fX8_doFull_L3 n i n v1 v2 v3 v4 0 σ
set_option maxRecDepth 100000 in
theorem kX8_doFull (hE : gEX l dC dI ad ca X) (n : Nat) (i : Nat) (hi : i < 3)  (v1 : Int32) (v2 : Int32) (v3 : Int32) (v4 : Int32) (σ : gM) {r0 : Int32} {σ' : gM} (h : fX8_doFull n i v1 v2 v3 v4 σ = some (r0, σ')) : g_C l dC dI ad ca shX X yX8_doFull cX8_doFull 6 (some .int) (gR 3) [.ref (9 + 5 * i), .int v1, .int v2, .int v3, .int v4] σ (some (.int r0)) σ' := by
  refine g_entry (by decide +kernel) (Nat.le_of_ble_eq_true rfl) ?_
  refine g_lvE (lv1 := [(0, .ref (9 + 5 * i)), (1, .int v1), (2, .int v2), (3, .int v3), (4, .int v4)]) rfl ?_
  unfold fX8_doFull at h
  refine g_iconst (pc := 0) (v := 0) dX8_doFull_0 (by decide) ?_
  refine g_istore (pc := 1) (lv1 := [(5, .int 0), (0, .ref (9 + 5 * i)), (1, .int v1), (2, .int v2), (3, .int v3), (4, .int v4)]) dX8_doFull_1 (by decide) rfl ?_
  exact g_lv [1, 2, 3, 4, 5, 0] rfl (tX8_doFull_L3 hE n i hi n v1 v2 v3 v4 0 σ h)
def fX8_carryOut (n : Nat) (i : Nat) (v1 : Int32) (v2 : Int32) (v3 : Int32) (v4 : Int32) (v5 : Int32) (σ : gM) : Option (Int32 × gM) := if v1 = 0 then (g_bI (fX8_doWrite n i v2 v3 σ) (fun r41 σ40 => some (r41, σ40))) else (if v1 = 1 then (g_bI (fX8_doLose n i v2 σ) (fun r45 σ44 => some (r45, σ44))) else (if v1 = 2 then (g_bI (fX8_doReplace i v2 σ) (fun r49 σ48 => some (r49, σ48))) else (if v1 = 3 then (g_bI (fX8_doRebuild n i v2 v3 σ) (fun r53 σ52 => some (r53, σ52))) else (if v1 = 4 then (g_bI (fX8_doScrub n i v2 σ) (fun r57 σ56 => some (r57, σ56))) else (if v1 = 5 then (g_bI (fX8_doSpoil i v2 v3 v4 v5 σ) (fun r61 σ60 => some (r61, σ60))) else (if v1 = 6 then (g_bI (fX8_doTear n i v2 v3 v4 σ) (fun r65 σ64 => some (r65, σ64))) else (if v1 = 7 then (g_bI (fX8_doClean n i σ) (fun r69 σ68 => some (r69, σ68))) else (if v1 = 8 then (g_bI (fX8_doFull n i v2 v3 v4 v5 σ) (fun r73 σ72 => some (r73, σ72))) else (some ((-1), σ))))))))))
set_option maxRecDepth 100000 in
theorem kX8_carryOut (hE : gEX l dC dI ad ca X) (n : Nat) (i : Nat) (hi : i < 3)  (v1 : Int32) (v2 : Int32) (v3 : Int32) (v4 : Int32) (v5 : Int32) (σ : gM) {r0 : Int32} {σ' : gM} (h : fX8_carryOut n i v1 v2 v3 v4 v5 σ = some (r0, σ')) : g_C l dC dI ad ca shX X yX8_carryOut cX8_carryOut 6 (some .int) (gR 5) [.ref (9 + 5 * i), .int v1, .int v2, .int v3, .int v4, .int v5] σ (some (.int r0)) σ' := by
  refine g_entry (by decide +kernel) (Nat.le_of_ble_eq_true rfl) ?_
  refine g_lvE (lv1 := [(0, .ref (9 + 5 * i)), (1, .int v1), (2, .int v2), (3, .int v3), (4, .int v4), (5, .int v5)]) rfl ?_
  unfold fX8_carryOut at h
  refine g_iload_n (pc := 0) dX8_carryOut_0 rfl 1 rfl ?_
  by_cases c38 : v1 = 0
  · have h := g_ift c38 h
    refine g_tabIn (pc := 1) (tgt := 52) (off := 51) dX8_carryOut_1 (by rw [c38]; decide) (by rw [c38]; decide) (by rw [c38]; decide) (by decide) ?_
    refine g_aload_n (pc := 52) dX8_carryOut_52 rfl 0 rfl ?_
    refine g_iload_n (pc := 53) dX8_carryOut_53 rfl 2 rfl ?_
    refine g_iload_n (pc := 54) dX8_carryOut_54 rfl 3 rfl ?_
    obtain ⟨r41, σ40, h39, h⟩ := g_bId h
    refine g_callVi (pc := 55) (st := []) hE.1 wvX8_166 (sX_shelf (i := i) hi) rfl (kX8_doWrite hE n i hi v2 v3 σ h39) rfl (gR_ok (by decide) (by decide)) (Nat.le_of_ble_eq_true rfl) rfl dX8_carryOut_55 ?_
    cases h
    exact g_iret (pc := 58) rfl rfl rfl rfl dX8_carryOut_58
  have h := g_iff c38 h
  by_cases c42 : v1 = 1
  · have h := g_ift c42 h
    refine g_tabIn (pc := 1) (tgt := 59) (off := 58) dX8_carryOut_1 (by rw [c42]; decide) (by rw [c42]; decide) (by rw [c42]; decide) (by decide) ?_
    refine g_aload_n (pc := 59) dX8_carryOut_59 rfl 0 rfl ?_
    refine g_iload_n (pc := 60) dX8_carryOut_60 rfl 2 rfl ?_
    obtain ⟨r45, σ44, h43, h⟩ := g_bId h
    refine g_callVi (pc := 61) (st := []) hE.1 wvX8_169 (sX_shelf (i := i) hi) rfl (kX8_doLose hE n i hi v2 σ h43) rfl (gR_ok (by decide) (by decide)) (Nat.le_of_ble_eq_true rfl) rfl dX8_carryOut_61 ?_
    cases h
    exact g_iret (pc := 64) rfl rfl rfl rfl dX8_carryOut_64
  have h := g_iff c42 h
  by_cases c46 : v1 = 2
  · have h := g_ift c46 h
    refine g_tabIn (pc := 1) (tgt := 65) (off := 64) dX8_carryOut_1 (by rw [c46]; decide) (by rw [c46]; decide) (by rw [c46]; decide) (by decide) ?_
    refine g_aload_n (pc := 65) dX8_carryOut_65 rfl 0 rfl ?_
    refine g_iload_n (pc := 66) dX8_carryOut_66 rfl 2 rfl ?_
    obtain ⟨r49, σ48, h47, h⟩ := g_bId h
    refine g_callVi (pc := 67) (st := []) hE.1 wvX8_172 (sX_shelf (i := i) hi) rfl (kX8_doReplace hE i hi v2 σ h47) rfl (gR_ok (by decide) (by decide)) (Nat.le_of_ble_eq_true rfl) rfl dX8_carryOut_67 ?_
    cases h
    exact g_iret (pc := 70) rfl rfl rfl rfl dX8_carryOut_70
  have h := g_iff c46 h
  by_cases c50 : v1 = 3
  · have h := g_ift c50 h
    refine g_tabIn (pc := 1) (tgt := 71) (off := 70) dX8_carryOut_1 (by rw [c50]; decide) (by rw [c50]; decide) (by rw [c50]; decide) (by decide) ?_
    refine g_aload_n (pc := 71) dX8_carryOut_71 rfl 0 rfl ?_
    refine g_iload_n (pc := 72) dX8_carryOut_72 rfl 2 rfl ?_
    refine g_iload_n (pc := 73) dX8_carryOut_73 rfl 3 rfl ?_
    obtain ⟨r53, σ52, h51, h⟩ := g_bId h
    refine g_callVi (pc := 74) (st := []) hE.1 wvX8_175 (sX_shelf (i := i) hi) rfl (kX8_doRebuild hE n i hi v2 v3 σ h51) rfl (gR_ok (by decide) (by decide)) (Nat.le_of_ble_eq_true rfl) rfl dX8_carryOut_74 ?_
    cases h
    exact g_iret (pc := 77) rfl rfl rfl rfl dX8_carryOut_77
  have h := g_iff c50 h
  by_cases c54 : v1 = 4
  · have h := g_ift c54 h
    refine g_tabIn (pc := 1) (tgt := 78) (off := 77) dX8_carryOut_1 (by rw [c54]; decide) (by rw [c54]; decide) (by rw [c54]; decide) (by decide) ?_
    refine g_aload_n (pc := 78) dX8_carryOut_78 rfl 0 rfl ?_
    refine g_iload_n (pc := 79) dX8_carryOut_79 rfl 2 rfl ?_
    obtain ⟨r57, σ56, h55, h⟩ := g_bId h
    refine g_callVi (pc := 80) (st := []) hE.1 wvX8_178 (sX_shelf (i := i) hi) rfl (kX8_doScrub hE n i hi v2 σ h55) rfl (gR_ok (by decide) (by decide)) (Nat.le_of_ble_eq_true rfl) rfl dX8_carryOut_80 ?_
    cases h
    exact g_iret (pc := 83) rfl rfl rfl rfl dX8_carryOut_83
  have h := g_iff c54 h
  by_cases c58 : v1 = 5
  · have h := g_ift c58 h
    refine g_tabIn (pc := 1) (tgt := 84) (off := 83) dX8_carryOut_1 (by rw [c58]; decide) (by rw [c58]; decide) (by rw [c58]; decide) (by decide) ?_
    refine g_aload_n (pc := 84) dX8_carryOut_84 rfl 0 rfl ?_
    refine g_iload_n (pc := 85) dX8_carryOut_85 rfl 2 rfl ?_
    refine g_iload_n (pc := 86) dX8_carryOut_86 rfl 3 rfl ?_
    refine g_iload (pc := 87) dX8_carryOut_87 4 rfl ?_
    refine g_iload (pc := 89) dX8_carryOut_89 5 rfl ?_
    obtain ⟨r61, σ60, h59, h⟩ := g_bId h
    refine g_callVi (pc := 91) (st := []) hE.1 wvX8_181 (sX_shelf (i := i) hi) rfl (kX8_doSpoil hE i hi v2 v3 v4 v5 σ h59) rfl (gR_ok (by decide) (by decide)) (Nat.le_of_ble_eq_true rfl) rfl dX8_carryOut_91 ?_
    cases h
    exact g_iret (pc := 94) rfl rfl rfl rfl dX8_carryOut_94
  have h := g_iff c58 h
  by_cases c62 : v1 = 6
  · have h := g_ift c62 h
    refine g_tabIn (pc := 1) (tgt := 95) (off := 94) dX8_carryOut_1 (by rw [c62]; decide) (by rw [c62]; decide) (by rw [c62]; decide) (by decide) ?_
    refine g_aload_n (pc := 95) dX8_carryOut_95 rfl 0 rfl ?_
    refine g_iload_n (pc := 96) dX8_carryOut_96 rfl 2 rfl ?_
    refine g_iload_n (pc := 97) dX8_carryOut_97 rfl 3 rfl ?_
    refine g_iload (pc := 98) dX8_carryOut_98 4 rfl ?_
    obtain ⟨r65, σ64, h63, h⟩ := g_bId h
    refine g_callVi (pc := 100) (st := []) hE.1 wvX8_184 (sX_shelf (i := i) hi) rfl (kX8_doTear hE n i hi v2 v3 v4 σ h63) rfl (gR_ok (by decide) (by decide)) (Nat.le_of_ble_eq_true rfl) rfl dX8_carryOut_100 ?_
    cases h
    exact g_iret (pc := 103) rfl rfl rfl rfl dX8_carryOut_103
  have h := g_iff c62 h
  by_cases c66 : v1 = 7
  · have h := g_ift c66 h
    refine g_tabIn (pc := 1) (tgt := 104) (off := 103) dX8_carryOut_1 (by rw [c66]; decide) (by rw [c66]; decide) (by rw [c66]; decide) (by decide) ?_
    refine g_aload_n (pc := 104) dX8_carryOut_104 rfl 0 rfl ?_
    obtain ⟨r69, σ68, h67, h⟩ := g_bId h
    refine g_callVi (pc := 105) (st := []) hE.1 wvX8_187 (sX_shelf (i := i) hi) rfl (kX8_doClean hE n i hi σ h67) rfl (gR_ok (by decide) (by decide)) (Nat.le_of_ble_eq_true rfl) rfl dX8_carryOut_105 ?_
    cases h
    exact g_iret (pc := 108) rfl rfl rfl rfl dX8_carryOut_108
  have h := g_iff c66 h
  by_cases c70 : v1 = 8
  · have h := g_ift c70 h
    refine g_tabIn (pc := 1) (tgt := 109) (off := 108) dX8_carryOut_1 (by rw [c70]; decide) (by rw [c70]; decide) (by rw [c70]; decide) (by decide) ?_
    refine g_aload_n (pc := 109) dX8_carryOut_109 rfl 0 rfl ?_
    refine g_iload_n (pc := 110) dX8_carryOut_110 rfl 2 rfl ?_
    refine g_iload_n (pc := 111) dX8_carryOut_111 rfl 3 rfl ?_
    refine g_iload (pc := 112) dX8_carryOut_112 4 rfl ?_
    refine g_iload (pc := 114) dX8_carryOut_114 5 rfl ?_
    obtain ⟨r73, σ72, h71, h⟩ := g_bId h
    refine g_callVi (pc := 116) (st := []) hE.1 wvX8_190 (sX_shelf (i := i) hi) rfl (kX8_doFull hE n i hi v2 v3 v4 v5 σ h71) rfl (gR_ok (by decide) (by decide)) (Nat.le_of_ble_eq_true rfl) rfl dX8_carryOut_116 ?_
    cases h
    exact g_iret (pc := 119) rfl rfl rfl rfl dX8_carryOut_119
  have h := g_iff c70 h
  have u74 : (v1).toInt < 0 ∨ 8 < (v1).toInt := by
    have ec38 := g_toInt c38
    have ec42 := g_toInt c42
    have ec46 := g_toInt c46
    have ec50 := g_toInt c50
    have ec54 := g_toInt c54
    have ec58 := g_toInt c58
    have ec62 := g_toInt c62
    have ec66 := g_toInt c66
    have ec70 := g_toInt c70
    rw [show (0 : Int32).toInt = 0 from by decide] at ec38
    rw [show (1 : Int32).toInt = 1 from by decide] at ec42
    rw [show (2 : Int32).toInt = 2 from by decide] at ec46
    rw [show (3 : Int32).toInt = 3 from by decide] at ec50
    rw [show (4 : Int32).toInt = 4 from by decide] at ec54
    rw [show (5 : Int32).toInt = 5 from by decide] at ec58
    rw [show (6 : Int32).toInt = 6 from by decide] at ec62
    rw [show (7 : Int32).toInt = 7 from by decide] at ec66
    rw [show (8 : Int32).toInt = 8 from by decide] at ec70
    omega
  refine g_tabOut (pc := 1) (tgt := 120) dX8_carryOut_1 u74 (by decide) ?_
  refine g_iconst (pc := 120) (v := (-1)) dX8_carryOut_120 (by decide) ?_
  cases h
  exact g_iret (pc := 121) rfl rfl rfl rfl dX8_carryOut_121
def fX8_doneOf_b2 (n : Nat) (i : Nat) (j : Nat) (K2 : Int32 → gM → Option (Int32 × gM)) (v2 : Int32) (σ : gM) : Option (Int32 × gM) := g_bI (fX7_size j σ) (fun r35 σ34 => if r35 ≤ v2 then (g_bI (fX7_size j σ34) (fun r39 σ38 => some (r39, σ38))) else (g_bI (fX7_number j v2 0 σ34) (fun r42 σ41 => g_bI (fX7_number j v2 1 σ41) (fun r45 σ44 => g_bI (fX7_number j v2 2 σ44) (fun r48 σ47 => g_bI (fX7_number j v2 3 σ47) (fun r51 σ50 => g_bI (fX7_sort j v2 σ50) (fun r54 σ53 => g_bI (fX8_refusal n i r54 r42 r45 r48 r51 σ53) (fun r57 σ56 => if r57 = (-1) then (g_bI (fX7_sort j v2 σ56) (fun r61 σ60 => g_bI (fX8_carryOut n i r61 r42 r45 r48 r51 σ60) (fun r64 σ63 => K2 (v2 + 1) σ63))) else (some (v2, σ56))))))))))
set_option maxRecDepth 100000 in
theorem tX8_doneOf_b2 (hE : gEX l dC dI ad ca X) {r0 : Int32} {σ' : gM} (n : Nat) (i : Nat) (hi : i < 3) (j : Nat) (hj : j < 5) (K2 : Int32 → gM → Option (Int32 × gM)) (hK2 : ∀ (v2 : Int32) (σ : gM), K2 v2 σ = some (r0, σ') → g_G l dC dI ad ca shX X cX8_doneOf 7 RX8 (some .int) (gR 6) (some (.int r0)) σ' 2 [(0, .ref (9 + 5 * i)), (1, .ref (35 + 3 * j)), (2, .int v2)] [] σ) (v2 : Int32)  (σ : gM) (h : fX8_doneOf_b2 n i j K2 v2 σ = some (r0, σ')) : g_G l dC dI ad ca shX X cX8_doneOf 7 RX8 (some .int) (gR 6) (some (.int r0)) σ' 2 [(0, .ref (9 + 5 * i)), (1, .ref (35 + 3 * j)), (2, .int v2)] [] σ := by
  unfold fX8_doneOf_b2 at h
  refine g_iload_n (pc := 2) dX8_doneOf_2 rfl 2 rfl ?_
  refine g_aload_n (pc := 3) dX8_doneOf_3 rfl 1 rfl ?_
  obtain ⟨r35, σ34, h33, h⟩ := g_bId h
  refine g_callVi (pc := 4) (st := [.int v2]) hE.1 wvX8_249 (sX_script (i := j) hj) rfl (kX7_size hE j hj σ h33) rfl (gR_ok (by decide) (by decide)) (Nat.le_of_ble_eq_true rfl) rfl dX8_doneOf_4 ?_
  refine g_icmp_ge (pc := 7) (tgt := 86) dX8_doneOf_7 (by decide) (fun c36 => ?_) (fun c36 => ?_)
  · have h := g_ift c36 h
    refine g_aload_n (pc := 86) dX8_doneOf_86 rfl 1 rfl ?_
    obtain ⟨r39, σ38, h37, h⟩ := g_bId h
    refine g_callVi (pc := 87) (st := []) hE.1 wvX8_249 (sX_script (i := j) hj) rfl (kX7_size hE j hj σ34 h37) rfl (gR_ok (by decide) (by decide)) (Nat.le_of_ble_eq_true rfl) rfl dX8_doneOf_87 ?_
    cases h
    exact g_iret (pc := 90) rfl rfl rfl rfl dX8_doneOf_90
  · have h := g_iff c36 h
    refine g_aload_n (pc := 10) dX8_doneOf_10 rfl 1 rfl ?_
    refine g_iload_n (pc := 11) dX8_doneOf_11 rfl 2 rfl ?_
    refine g_iconst (pc := 12) (v := 0) dX8_doneOf_12 (by decide) ?_
    obtain ⟨r42, σ41, h40, h⟩ := g_bId h
    refine g_callVi (pc := 13) (st := []) hE.1 wvX8_254 (sX_script (i := j) hj) rfl (kX7_number hE j hj v2 0 σ34 h40) rfl (gR_ok (by decide) (by decide)) (Nat.le_of_ble_eq_true rfl) rfl dX8_doneOf_13 ?_
    refine g_istore_n (pc := 16) (lv1 := [(3, .int r42), (0, .ref (9 + 5 * i)), (1, .ref (35 + 3 * j)), (2, .int v2)]) dX8_doneOf_16 rfl (by decide) rfl ?_
    refine g_aload_n (pc := 17) dX8_doneOf_17 rfl 2 rfl ?_
    refine g_iload_n (pc := 18) dX8_doneOf_18 rfl 3 rfl ?_
    refine g_iconst (pc := 19) (v := 1) dX8_doneOf_19 (by decide) ?_
    obtain ⟨r45, σ44, h43, h⟩ := g_bId h
    refine g_callVi (pc := 20) (st := []) hE.1 wvX8_254 (sX_script (i := j) hj) rfl (kX7_number hE j hj v2 1 σ41 h43) rfl (gR_ok (by decide) (by decide)) (Nat.le_of_ble_eq_true rfl) rfl dX8_doneOf_20 ?_
    refine g_istore (pc := 23) (lv1 := [(4, .int r45), (3, .int r42), (0, .ref (9 + 5 * i)), (1, .ref (35 + 3 * j)), (2, .int v2)]) dX8_doneOf_23 (by decide) rfl ?_
    refine g_aload_n (pc := 25) dX8_doneOf_25 rfl 3 rfl ?_
    refine g_iload_n (pc := 26) dX8_doneOf_26 rfl 4 rfl ?_
    refine g_iconst (pc := 27) (v := 2) dX8_doneOf_27 (by decide) ?_
    obtain ⟨r48, σ47, h46, h⟩ := g_bId h
    refine g_callVi (pc := 28) (st := []) hE.1 wvX8_254 (sX_script (i := j) hj) rfl (kX7_number hE j hj v2 2 σ44 h46) rfl (gR_ok (by decide) (by decide)) (Nat.le_of_ble_eq_true rfl) rfl dX8_doneOf_28 ?_
    refine g_istore (pc := 31) (lv1 := [(5, .int r48), (4, .int r45), (3, .int r42), (0, .ref (9 + 5 * i)), (1, .ref (35 + 3 * j)), (2, .int v2)]) dX8_doneOf_31 (by decide) rfl ?_
    refine g_aload_n (pc := 33) dX8_doneOf_33 rfl 4 rfl ?_
    refine g_iload_n (pc := 34) dX8_doneOf_34 rfl 5 rfl ?_
    refine g_iconst (pc := 35) (v := 3) dX8_doneOf_35 (by decide) ?_
    obtain ⟨r51, σ50, h49, h⟩ := g_bId h
    refine g_callVi (pc := 36) (st := []) hE.1 wvX8_254 (sX_script (i := j) hj) rfl (kX7_number hE j hj v2 3 σ47 h49) rfl (gR_ok (by decide) (by decide)) (Nat.le_of_ble_eq_true rfl) rfl dX8_doneOf_36 ?_
    refine g_istore (pc := 39) (lv1 := [(6, .int r51), (5, .int r48), (4, .int r45), (3, .int r42), (0, .ref (9 + 5 * i)), (1, .ref (35 + 3 * j)), (2, .int v2)]) dX8_doneOf_39 (by decide) rfl ?_
    refine g_aload_n (pc := 41) dX8_doneOf_41 rfl 4 rfl ?_
    refine g_aload_n (pc := 42) dX8_doneOf_42 rfl 5 rfl ?_
    refine g_iload_n (pc := 43) dX8_doneOf_43 rfl 6 rfl ?_
    obtain ⟨r54, σ53, h52, h⟩ := g_bId h
    refine g_callVi (pc := 44) (st := [.ref (9 + 5 * i)]) hE.1 wvX8_257 (sX_script (i := j) hj) rfl (kX7_sort hE j hj v2 σ50 h52) rfl (gR_ok (by decide) (by decide)) (Nat.le_of_ble_eq_true rfl) rfl dX8_doneOf_44 ?_
    refine g_iload_n (pc := 47) dX8_doneOf_47 rfl 3 rfl ?_
    refine g_iload (pc := 48) dX8_doneOf_48 2 rfl ?_
    refine g_iload (pc := 50) dX8_doneOf_50 1 rfl ?_
    refine g_iload (pc := 52) dX8_doneOf_52 0 rfl ?_
    obtain ⟨r57, σ56, h55, h⟩ := g_bId h
    refine g_callVi (pc := 54) (st := []) hE.1 wvX8_260 (sX_shelf (i := i) hi) rfl (kX8_refusal hE n i hi r54 r42 r45 r48 r51 σ53 h55) rfl (gR_ok (by decide) (by decide)) (Nat.le_of_ble_eq_true rfl) rfl dX8_doneOf_54 ?_
    refine g_iconst (pc := 57) (v := (-1)) dX8_doneOf_57 (by decide) ?_
    refine g_icmp_eq (pc := 58) (tgt := 63) dX8_doneOf_58 (by decide) (fun c58 => ?_) (fun c58 => ?_)
    · have h := g_ift c58 h
      refine g_aload_n (pc := 63) dX8_doneOf_63 rfl 4 rfl ?_
      refine g_aload_n (pc := 64) dX8_doneOf_64 rfl 5 rfl ?_
      refine g_iload_n (pc := 65) dX8_doneOf_65 rfl 6 rfl ?_
      obtain ⟨r61, σ60, h59, h⟩ := g_bId h
      refine g_callVi (pc := 66) (st := [.ref (9 + 5 * i)]) hE.1 wvX8_257 (sX_script (i := j) hj) rfl (kX7_sort hE j hj v2 σ56 h59) rfl (gR_ok (by decide) (by decide)) (Nat.le_of_ble_eq_true rfl) rfl dX8_doneOf_66 ?_
      refine g_iload_n (pc := 69) dX8_doneOf_69 rfl 3 rfl ?_
      refine g_iload (pc := 70) dX8_doneOf_70 2 rfl ?_
      refine g_iload (pc := 72) dX8_doneOf_72 1 rfl ?_
      refine g_iload (pc := 74) dX8_doneOf_74 0 rfl ?_
      obtain ⟨r64, σ63, h62, h⟩ := g_bId h
      refine g_callVi (pc := 76) (st := []) hE.1 wvX8_264 (sX_shelf (i := i) hi) rfl (kX8_carryOut hE n i hi r61 r42 r45 r48 r51 σ60 h62) rfl (gR_ok (by decide) (by decide)) (Nat.le_of_ble_eq_true rfl) rfl dX8_doneOf_76 ?_
      refine g_pop (pc := 79) dX8_doneOf_79 rfl ?_
      refine g_iinc (pc := 80) (v := v2 + 1) (lv1 := [(2, .int (v2 + 1)), (6, .int r51), (5, .int r48), (4, .int r45), (3, .int r42), (0, .ref (9 + 5 * i)), (1, .ref (35 + 3 * j))]) dX8_doneOf_80 6 rfl rfl (by decide) rfl ?_
      refine g_goto (pc := 83) (tgt := 2) dX8_doneOf_83 (by decide) ?_
      exact g_lv [5, 6, 0] rfl (hK2 (v2 + 1) σ63 h)
    · have h := g_iff c58 h
      refine g_iload_n (pc := 61) dX8_doneOf_61 rfl 6 rfl ?_
      cases h
      exact g_iret (pc := 62) rfl rfl rfl rfl dX8_doneOf_62
def fX8_doneOf_L2 (n : Nat) (i : Nat) (j : Nat) : Nat → Int32 → gM → Option (Int32 × gM)
  | 0 => fun _ _ => none
  | k + 1 => fX8_doneOf_b2 n i j (fX8_doneOf_L2 n i j k)
theorem tX8_doneOf_L2 (hE : gEX l dC dI ad ca X) {r0 : Int32} {σ' : gM} (n : Nat) (i : Nat) (hi : i < 3) (j : Nat) (hj : j < 5)  : ∀ (k : Nat) (v2 : Int32) (σ : gM), fX8_doneOf_L2 n i j k v2 σ = some (r0, σ') → g_G l dC dI ad ca shX X cX8_doneOf 7 RX8 (some .int) (gR 6) (some (.int r0)) σ' 2 [(0, .ref (9 + 5 * i)), (1, .ref (35 + 3 * j)), (2, .int v2)] [] σ := by
  intro k
  induction k with
  | zero => intro v2 σ h; cases h
  | succ k ih => intro v2 σ h; exact tX8_doneOf_b2 hE n i hi j hj (fX8_doneOf_L2 n i j k) ih v2 σ h
def fX8_doneOf (n : Nat) (i : Nat) (j : Nat) (σ : gM) : Option (Int32 × gM) := fX8_doneOf_L2 n i j n 0 σ
set_option maxRecDepth 100000 in
theorem kX8_doneOf (hE : gEX l dC dI ad ca X) (n : Nat) (i : Nat) (hi : i < 3) (j : Nat) (hj : j < 5)  (σ : gM) {r0 : Int32} {σ' : gM} (h : fX8_doneOf n i j σ = some (r0, σ')) : g_C l dC dI ad ca shX X yX8_doneOf cX8_doneOf 7 (some .int) (gR 6) [.ref (9 + 5 * i), .ref (35 + 3 * j)] σ (some (.int r0)) σ' := by
  refine g_entry (by decide +kernel) (Nat.le_of_ble_eq_true rfl) ?_
  refine g_lvE (lv1 := [(0, .ref (9 + 5 * i)), (1, .ref (35 + 3 * j))]) rfl ?_
  unfold fX8_doneOf at h
  refine g_iconst (pc := 0) (v := 0) dX8_doneOf_0 (by decide) ?_
  refine g_istore_n (pc := 1) (lv1 := [(2, .int 0), (0, .ref (9 + 5 * i)), (1, .ref (35 + 3 * j))]) dX8_doneOf_1 rfl (by decide) rfl ?_
  exact g_lv [1, 2, 0] rfl (tX8_doneOf_L2 hE n i hi j hj n 0 σ h)
def fX9_start_b24 (n : Nat) (i : Nat) (K24 : Int32 → gM → Option (gM)) (v2 : Int32) (σ : gM) : Option (gM) := if 8 ≤ v2 then (g_let (g_put σ (11 + 5 * i) 136 (σ.1 5 4)) (fun σ18 => g_let (g_put σ18 (11 + 5 * i) 141 (-1)) (fun σ20 => g_let (g_put σ20 (11 + 5 * i) 142 (-1)) (fun σ22 => g_let (g_put σ22 (11 + 5 * i) 143 (-1)) (fun σ24 => some σ24))))) else (if ¬ ((104 + v2) < 0 ∨ 144 ≤ (104 + v2).toNatClampNeg) then (g_let (g_put σ (11 + 5 * i) ((104 + v2).toNatClampNeg) (σ.1 5 1)) (fun σ27 => K24 (v2 + 1) σ27)) else none)
set_option maxRecDepth 100000 in
theorem tX9_start_b24 (hE : gEX l dC dI ad ca X) {σ' : gM} (n : Nat) (i : Nat) (hi : i < 3) (K24 : Int32 → gM → Option (gM)) (hK24 : ∀ (v2 : Int32) (σ : gM), K24 v2 σ = some σ' → g_G l dC dI ad ca shX X cX9_start 3 RX9 none (gR 0) none σ' 24 [(0, .ref (10 + 5 * i)), (1, .ref 5), (2, .int v2)] [] σ) (v2 : Int32)  (σ : gM) (h : fX9_start_b24 n i K24 v2 σ = some σ') : g_G l dC dI ad ca shX X cX9_start 3 RX9 none (gR 0) none σ' 24 [(0, .ref (10 + 5 * i)), (1, .ref 5), (2, .int v2)] [] σ := by
  unfold fX9_start_b24 at h
  refine g_iload_n (pc := 24) dX9_start_24 rfl 2 rfl ?_
  refine g_bipush (pc := 25) (v := 8) dX9_start_25 (by decide) ?_
  refine g_icmp_ge (pc := 27) (tgt := 49) dX9_start_27 (by decide) (fun c17 => ?_) (fun c17 => ?_)
  · have h := g_ift c17 h
    refine g_aload_n (pc := 49) dX9_start_49 rfl 0 rfl ?_
    refine g_getR (pc := 50) wfX9_11 (sX_state (i := i) hi) rfl dX9_start_50 ?_
    refine g_sipush (pc := 53) (v := 136) dX9_start_53 (by decide) ?_
    refine g_aload_n (pc := 56) dX9_start_56 rfl 1 rfl ?_
    refine g_getI (pc := 57) wfX9_21 rfl rfl dX9_start_57 ?_
    obtain ⟨σ18, e19, h⟩ := g_ltd h
    refine g_iast (pc := 60) (sX_slots (i := i) hi) (by decide) (j := 136) (by decide) e19 dX9_start_60 ?_
    refine g_aload_n (pc := 61) dX9_start_61 rfl 0 rfl ?_
    refine g_getR (pc := 62) wfX9_11 (sX_state (i := i) hi) rfl dX9_start_62 ?_
    refine g_sipush (pc := 65) (v := 141) dX9_start_65 (by decide) ?_
    refine g_iconst (pc := 68) (v := (-1)) dX9_start_68 (by decide) ?_
    obtain ⟨σ20, e21, h⟩ := g_ltd h
    refine g_iast (pc := 69) (sX_slots (i := i) hi) (by decide) (j := 141) (by decide) e21 dX9_start_69 ?_
    refine g_aload_n (pc := 70) dX9_start_70 rfl 0 rfl ?_
    refine g_getR (pc := 71) wfX9_11 (sX_state (i := i) hi) rfl dX9_start_71 ?_
    refine g_sipush (pc := 74) (v := 142) dX9_start_74 (by decide) ?_
    refine g_iconst (pc := 77) (v := (-1)) dX9_start_77 (by decide) ?_
    obtain ⟨σ22, e23, h⟩ := g_ltd h
    refine g_iast (pc := 78) (sX_slots (i := i) hi) (by decide) (j := 142) (by decide) e23 dX9_start_78 ?_
    refine g_aload_n (pc := 79) dX9_start_79 rfl 0 rfl ?_
    refine g_getR (pc := 80) wfX9_11 (sX_state (i := i) hi) rfl dX9_start_80 ?_
    refine g_sipush (pc := 83) (v := 143) dX9_start_83 (by decide) ?_
    refine g_iconst (pc := 86) (v := (-1)) dX9_start_86 (by decide) ?_
    obtain ⟨σ24, e25, h⟩ := g_ltd h
    refine g_iast (pc := 87) (sX_slots (i := i) hi) (by decide) (j := 143) (by decide) e25 dX9_start_87 ?_
    cases h
    exact g_vret (pc := 88) rfl rfl rfl dX9_start_88
  · have h := g_iff c17 h
    refine g_aload_n (pc := 30) dX9_start_30 rfl 0 rfl ?_
    refine g_getR (pc := 31) wfX9_11 (sX_state (i := i) hi) rfl dX9_start_31 ?_
    refine g_bipush (pc := 34) (v := 104) dX9_start_34 (by decide) ?_
    refine g_iload_n (pc := 36) dX9_start_36 rfl 2 rfl ?_
    refine g_iadd (pc := 37) dX9_start_37 ?_
    refine g_aload_n (pc := 38) dX9_start_38 rfl 1 rfl ?_
    refine g_getI (pc := 39) wfX9_15 rfl rfl dX9_start_39 ?_
    obtain ⟨c26, h⟩ := g_gd h
    obtain ⟨σ27, e28, h⟩ := g_ltd h
    refine g_iast (pc := 42) (sX_slots (i := i) hi) c26 rfl e28 dX9_start_42 ?_
    refine g_iinc (pc := 43) (v := v2 + 1) (lv1 := [(2, .int (v2 + 1)), (0, .ref (10 + 5 * i)), (1, .ref 5)]) dX9_start_43 2 rfl rfl (by decide) rfl ?_
    refine g_goto (pc := 46) (tgt := 24) dX9_start_46 (by decide) ?_
    exact g_lv [1, 2, 0] rfl (hK24 (v2 + 1) σ27 h)
def fX9_start_L24 (n : Nat) (i : Nat) : Nat → Int32 → gM → Option (gM)
  | 0 => fun _ _ => none
  | k + 1 => fX9_start_b24 n i (fX9_start_L24 n i k)
theorem tX9_start_L24 (hE : gEX l dC dI ad ca X) {σ' : gM} (n : Nat) (i : Nat) (hi : i < 3)  : ∀ (k : Nat) (v2 : Int32) (σ : gM), fX9_start_L24 n i k v2 σ = some σ' → g_G l dC dI ad ca shX X cX9_start 3 RX9 none (gR 0) none σ' 24 [(0, .ref (10 + 5 * i)), (1, .ref 5), (2, .int v2)] [] σ := by
  intro k
  induction k with
  | zero => intro v2 σ h; cases h
  | succ k ih => intro v2 σ h; exact tX9_start_b24 hE n i hi (fX9_start_L24 n i k) ih v2 σ h
def fX9_start_b2 (n : Nat) (i : Nat) (K2 : Int32 → gM → Option (gM)) (v2 : Int32) (σ : gM) : Option (gM) := if 144 ≤ v2 then (fX9_start_L24 n i n 0 σ) else (if ¬ (v2 < 0 ∨ 144 ≤ v2.toNatClampNeg) then (g_let (g_put σ (11 + 5 * i) v2.toNatClampNeg 0) (fun σ31 => K2 (v2 + 1) σ31)) else none)
set_option maxRecDepth 100000 in
theorem tX9_start_b2 (hE : gEX l dC dI ad ca X) {σ' : gM} (n : Nat) (i : Nat) (hi : i < 3) (K2 : Int32 → gM → Option (gM)) (hK2 : ∀ (v2 : Int32) (σ : gM), K2 v2 σ = some σ' → g_G l dC dI ad ca shX X cX9_start 3 RX9 none (gR 0) none σ' 2 [(0, .ref (10 + 5 * i)), (1, .ref 5), (2, .int v2)] [] σ) (v2 : Int32)  (σ : gM) (h : fX9_start_b2 n i K2 v2 σ = some σ') : g_G l dC dI ad ca shX X cX9_start 3 RX9 none (gR 0) none σ' 2 [(0, .ref (10 + 5 * i)), (1, .ref 5), (2, .int v2)] [] σ := by
  unfold fX9_start_b2 at h
  refine g_iload_n (pc := 2) dX9_start_2 rfl 2 rfl ?_
  refine g_sipush (pc := 3) (v := 144) dX9_start_3 (by decide) ?_
  refine g_icmp_ge (pc := 6) (tgt := 22) dX9_start_6 (by decide) (fun c29 => ?_) (fun c29 => ?_)
  · have h := g_ift c29 h
    refine g_iconst (pc := 22) (v := 0) dX9_start_22 (by decide) ?_
    refine g_istore_n (pc := 23) (lv1 := [(2, .int 0), (0, .ref (10 + 5 * i)), (1, .ref 5)]) dX9_start_23 rfl (by decide) rfl ?_
    exact g_lv [1, 2, 0] rfl (tX9_start_L24 hE n i hi n 0 σ h)
  · have h := g_iff c29 h
    refine g_aload_n (pc := 9) dX9_start_9 rfl 0 rfl ?_
    refine g_getR (pc := 10) wfX9_11 (sX_state (i := i) hi) rfl dX9_start_10 ?_
    refine g_iload_n (pc := 13) dX9_start_13 rfl 2 rfl ?_
    refine g_iconst (pc := 14) (v := 0) dX9_start_14 (by decide) ?_
    obtain ⟨c30, h⟩ := g_gd h
    obtain ⟨σ31, e32, h⟩ := g_ltd h
    refine g_iast (pc := 15) (sX_slots (i := i) hi) c30 rfl e32 dX9_start_15 ?_
    refine g_iinc (pc := 16) (v := v2 + 1) (lv1 := [(2, .int (v2 + 1)), (0, .ref (10 + 5 * i)), (1, .ref 5)]) dX9_start_16 2 rfl rfl (by decide) rfl ?_
    refine g_goto (pc := 19) (tgt := 2) dX9_start_19 (by decide) ?_
    exact g_lv [1, 2, 0] rfl (hK2 (v2 + 1) σ31 h)
def fX9_start_L2 (n : Nat) (i : Nat) : Nat → Int32 → gM → Option (gM)
  | 0 => fun _ _ => none
  | k + 1 => fX9_start_b2 n i (fX9_start_L2 n i k)
theorem tX9_start_L2 (hE : gEX l dC dI ad ca X) {σ' : gM} (n : Nat) (i : Nat) (hi : i < 3)  : ∀ (k : Nat) (v2 : Int32) (σ : gM), fX9_start_L2 n i k v2 σ = some σ' → g_G l dC dI ad ca shX X cX9_start 3 RX9 none (gR 0) none σ' 2 [(0, .ref (10 + 5 * i)), (1, .ref 5), (2, .int v2)] [] σ := by
  intro k
  induction k with
  | zero => intro v2 σ h; cases h
  | succ k ih => intro v2 σ h; exact tX9_start_b2 hE n i hi (fX9_start_L2 n i k) ih v2 σ h
def fX9_start (n : Nat) (i : Nat) (σ : gM) : Option (gM) := fX9_start_L2 n i n 0 σ
set_option maxRecDepth 100000 in
theorem kX9_start (hE : gEX l dC dI ad ca X) (n : Nat) (i : Nat) (hi : i < 3)  (σ : gM) {σ' : gM} (h : fX9_start n i σ = some σ') : g_C l dC dI ad ca shX X yX9_start cX9_start 3 none (gR 0) [.ref (10 + 5 * i), .ref 5] σ none σ' := by
  refine g_entry (by decide +kernel) (Nat.le_of_ble_eq_true rfl) ?_
  refine g_lvE (lv1 := [(0, .ref (10 + 5 * i)), (1, .ref 5)]) rfl ?_
  unfold fX9_start at h
  refine g_iconst (pc := 0) (v := 0) dX9_start_0 (by decide) ?_
  refine g_istore_n (pc := 1) (lv1 := [(2, .int 0), (0, .ref (10 + 5 * i)), (1, .ref 5)]) dX9_start_1 rfl (by decide) rfl ?_
  exact g_lv [1, 2, 0] rfl (tX9_start_L2 hE n i hi n 0 σ h)
def fX9_forgetCosts_b2 (n : Nat) (i : Nat) (K2 : Int32 → gM → Option (gM)) (v1 : Int32) (σ : gM) : Option (gM) := if 8 ≤ v1 then (some σ) else (if ¬ ((112 + v1) < 0 ∨ 144 ≤ (112 + v1).toNatClampNeg) then (g_let (g_put σ (11 + 5 * i) ((112 + v1).toNatClampNeg) 0) (fun σ10 => if ¬ ((120 + v1) < 0 ∨ 144 ≤ (120 + v1).toNatClampNeg) then (g_let (g_put σ10 (11 + 5 * i) ((120 + v1).toNatClampNeg) 0) (fun σ13 => K2 (v1 + 1) σ13)) else none)) else none)
set_option maxRecDepth 100000 in
theorem tX9_forgetCosts_b2 (hE : gEX l dC dI ad ca X) {σ' : gM} (n : Nat) (i : Nat) (hi : i < 3) (K2 : Int32 → gM → Option (gM)) (hK2 : ∀ (v1 : Int32) (σ : gM), K2 v1 σ = some σ' → g_G l dC dI ad ca shX X cX9_forgetCosts 2 RX9 none (gR 0) none σ' 2 [(0, .ref (10 + 5 * i)), (1, .int v1)] [] σ) (v1 : Int32)  (σ : gM) (h : fX9_forgetCosts_b2 n i K2 v1 σ = some σ') : g_G l dC dI ad ca shX X cX9_forgetCosts 2 RX9 none (gR 0) none σ' 2 [(0, .ref (10 + 5 * i)), (1, .int v1)] [] σ := by
  unfold fX9_forgetCosts_b2 at h
  refine g_iload_n (pc := 2) dX9_forgetCosts_2 rfl 1 rfl ?_
  refine g_bipush (pc := 3) (v := 8) dX9_forgetCosts_3 (by decide) ?_
  refine g_icmp_ge (pc := 5) (tgt := 34) dX9_forgetCosts_5 (by decide) (fun c8 => ?_) (fun c8 => ?_)
  · have h := g_ift c8 h
    cases h
    exact g_vret (pc := 34) rfl rfl rfl dX9_forgetCosts_34
  · have h := g_iff c8 h
    refine g_aload_n (pc := 8) dX9_forgetCosts_8 rfl 0 rfl ?_
    refine g_getR (pc := 9) wfX9_11 (sX_state (i := i) hi) rfl dX9_forgetCosts_9 ?_
    refine g_bipush (pc := 12) (v := 112) dX9_forgetCosts_12 (by decide) ?_
    refine g_iload_n (pc := 14) dX9_forgetCosts_14 rfl 1 rfl ?_
    refine g_iadd (pc := 15) dX9_forgetCosts_15 ?_
    refine g_iconst (pc := 16) (v := 0) dX9_forgetCosts_16 (by decide) ?_
    obtain ⟨c9, h⟩ := g_gd h
    obtain ⟨σ10, e11, h⟩ := g_ltd h
    refine g_iast (pc := 17) (sX_slots (i := i) hi) c9 rfl e11 dX9_forgetCosts_17 ?_
    refine g_aload_n (pc := 18) dX9_forgetCosts_18 rfl 0 rfl ?_
    refine g_getR (pc := 19) wfX9_11 (sX_state (i := i) hi) rfl dX9_forgetCosts_19 ?_
    refine g_bipush (pc := 22) (v := 120) dX9_forgetCosts_22 (by decide) ?_
    refine g_iload_n (pc := 24) dX9_forgetCosts_24 rfl 1 rfl ?_
    refine g_iadd (pc := 25) dX9_forgetCosts_25 ?_
    refine g_iconst (pc := 26) (v := 0) dX9_forgetCosts_26 (by decide) ?_
    obtain ⟨c12, h⟩ := g_gd h
    obtain ⟨σ13, e14, h⟩ := g_ltd h
    refine g_iast (pc := 27) (sX_slots (i := i) hi) c12 rfl e14 dX9_forgetCosts_27 ?_
    refine g_iinc (pc := 28) (v := v1 + 1) (lv1 := [(1, .int (v1 + 1)), (0, .ref (10 + 5 * i))]) dX9_forgetCosts_28 1 rfl rfl (by decide) rfl ?_
    refine g_goto (pc := 31) (tgt := 2) dX9_forgetCosts_31 (by decide) ?_
    exact g_lv [1, 0] rfl (hK2 (v1 + 1) σ13 h)
def fX9_forgetCosts_L2 (n : Nat) (i : Nat) : Nat → Int32 → gM → Option (gM)
  | 0 => fun _ _ => none
  | k + 1 => fX9_forgetCosts_b2 n i (fX9_forgetCosts_L2 n i k)
theorem tX9_forgetCosts_L2 (hE : gEX l dC dI ad ca X) {σ' : gM} (n : Nat) (i : Nat) (hi : i < 3)  : ∀ (k : Nat) (v1 : Int32) (σ : gM), fX9_forgetCosts_L2 n i k v1 σ = some σ' → g_G l dC dI ad ca shX X cX9_forgetCosts 2 RX9 none (gR 0) none σ' 2 [(0, .ref (10 + 5 * i)), (1, .int v1)] [] σ := by
  intro k
  induction k with
  | zero => intro v1 σ h; cases h
  | succ k ih => intro v1 σ h; exact tX9_forgetCosts_b2 hE n i hi (fX9_forgetCosts_L2 n i k) ih v1 σ h
def fX9_forgetCosts (n : Nat) (i : Nat) (σ : gM) : Option (gM) := fX9_forgetCosts_L2 n i n 0 σ
set_option maxRecDepth 100000 in
theorem kX9_forgetCosts (hE : gEX l dC dI ad ca X) (n : Nat) (i : Nat) (hi : i < 3)  (σ : gM) {σ' : gM} (h : fX9_forgetCosts n i σ = some σ') : g_C l dC dI ad ca shX X yX9_forgetCosts cX9_forgetCosts 2 none (gR 0) [.ref (10 + 5 * i)] σ none σ' := by
  refine g_entry (by decide +kernel) (Nat.le_of_ble_eq_true rfl) ?_
  refine g_lvE (lv1 := [(0, .ref (10 + 5 * i))]) rfl ?_
  unfold fX9_forgetCosts at h
  refine g_iconst (pc := 0) (v := 0) dX9_forgetCosts_0 (by decide) ?_
  refine g_istore_n (pc := 1) (lv1 := [(1, .int 0), (0, .ref (10 + 5 * i))]) dX9_forgetCosts_1 rfl (by decide) rfl ?_
  exact g_lv [1, 0] rfl (tX9_forgetCosts_L2 hE n i hi n 0 σ h)
def fX9_sumOfDisks_b4 (n : Nat) (i : Nat) (K4 : Int32 → Int32 → Int32 → gM → Option (Int32 × gM)) (v1 : Int32) (v2 : Int32) (v3 : Int32) (σ : gM) : Option (Int32 × gM) := if 8 ≤ v3 then (some (v2, σ)) else (g_bI (fX9_get i (v1 + v3) σ) (fun r8 σ7 => K4 v1 (v2 + r8) (v3 + 1) σ7))
set_option maxRecDepth 100000 in
theorem tX9_sumOfDisks_b4 (hE : gEX l dC dI ad ca X) {r0 : Int32} {σ' : gM} (n : Nat) (i : Nat) (hi : i < 3) (K4 : Int32 → Int32 → Int32 → gM → Option (Int32 × gM)) (hK4 : ∀ (v1 : Int32) (v2 : Int32) (v3 : Int32) (σ : gM), K4 v1 v2 v3 σ = some (r0, σ') → g_G l dC dI ad ca shX X cX9_sumOfDisks 4 RX9 (some .int) (gR 1) (some (.int r0)) σ' 4 [(0, .ref (10 + 5 * i)), (1, .int v1), (2, .int v2), (3, .int v3)] [] σ) (v1 : Int32) (v2 : Int32) (v3 : Int32)  (σ : gM) (h : fX9_sumOfDisks_b4 n i K4 v1 v2 v3 σ = some (r0, σ')) : g_G l dC dI ad ca shX X cX9_sumOfDisks 4 RX9 (some .int) (gR 1) (some (.int r0)) σ' 4 [(0, .ref (10 + 5 * i)), (1, .int v1), (2, .int v2), (3, .int v3)] [] σ := by
  unfold fX9_sumOfDisks_b4 at h
  refine g_iload_n (pc := 4) dX9_sumOfDisks_4 rfl 3 rfl ?_
  refine g_bipush (pc := 5) (v := 8) dX9_sumOfDisks_5 (by decide) ?_
  refine g_icmp_ge (pc := 7) (tgt := 26) dX9_sumOfDisks_7 (by decide) (fun c5 => ?_) (fun c5 => ?_)
  · have h := g_ift c5 h
    refine g_iload_n (pc := 26) dX9_sumOfDisks_26 rfl 2 rfl ?_
    cases h
    exact g_iret (pc := 27) rfl rfl rfl rfl dX9_sumOfDisks_27
  · have h := g_iff c5 h
    refine g_iload_n (pc := 10) dX9_sumOfDisks_10 rfl 2 rfl ?_
    refine g_aload_n (pc := 11) dX9_sumOfDisks_11 rfl 0 rfl ?_
    refine g_iload_n (pc := 12) dX9_sumOfDisks_12 rfl 1 rfl ?_
    refine g_iload_n (pc := 13) dX9_sumOfDisks_13 rfl 3 rfl ?_
    refine g_iadd (pc := 14) dX9_sumOfDisks_14 ?_
    obtain ⟨r8, σ7, h6, h⟩ := g_bId h
    refine g_callVi (pc := 15) (st := [.int v2]) hE.1 wvX9_24 (sX_state (i := i) hi) rfl (kX9_get hE i hi (v1 + v3) σ h6) rfl (gR_ok (by decide) (by decide)) (Nat.le_of_ble_eq_true rfl) rfl dX9_sumOfDisks_15 ?_
    refine g_iadd (pc := 18) dX9_sumOfDisks_18 ?_
    refine g_istore_n (pc := 19) (lv1 := [(2, .int (v2 + r8)), (0, .ref (10 + 5 * i)), (1, .int v1), (3, .int v3)]) dX9_sumOfDisks_19 rfl (by decide) rfl ?_
    refine g_iinc (pc := 20) (v := v3 + 1) (lv1 := [(3, .int (v3 + 1)), (2, .int (v2 + r8)), (0, .ref (10 + 5 * i)), (1, .int v1)]) dX9_sumOfDisks_20 3 rfl rfl (by decide) rfl ?_
    refine g_goto (pc := 23) (tgt := 4) dX9_sumOfDisks_23 (by decide) ?_
    exact g_lv [2, 3, 1, 0] rfl (hK4 v1 (v2 + r8) (v3 + 1) σ7 h)
def fX9_sumOfDisks_L4 (n : Nat) (i : Nat) : Nat → Int32 → Int32 → Int32 → gM → Option (Int32 × gM)
  | 0 => fun _ _ _ _ => none
  | k + 1 => fX9_sumOfDisks_b4 n i (fX9_sumOfDisks_L4 n i k)
theorem tX9_sumOfDisks_L4 (hE : gEX l dC dI ad ca X) {r0 : Int32} {σ' : gM} (n : Nat) (i : Nat) (hi : i < 3)  : ∀ (k : Nat) (v1 : Int32) (v2 : Int32) (v3 : Int32) (σ : gM), fX9_sumOfDisks_L4 n i k v1 v2 v3 σ = some (r0, σ') → g_G l dC dI ad ca shX X cX9_sumOfDisks 4 RX9 (some .int) (gR 1) (some (.int r0)) σ' 4 [(0, .ref (10 + 5 * i)), (1, .int v1), (2, .int v2), (3, .int v3)] [] σ := by
  intro k
  induction k with
  | zero => intro v1 v2 v3 σ h; cases h
  | succ k ih => intro v1 v2 v3 σ h; exact tX9_sumOfDisks_b4 hE n i hi (fX9_sumOfDisks_L4 n i k) ih v1 v2 v3 σ h
def fX9_sumOfDisks (n : Nat) (i : Nat) (v1 : Int32) (σ : gM) : Option (Int32 × gM) := fX9_sumOfDisks_L4 n i n v1 0 0 σ
set_option maxRecDepth 100000 in
theorem kX9_sumOfDisks (hE : gEX l dC dI ad ca X) (n : Nat) (i : Nat) (hi : i < 3)  (v1 : Int32) (σ : gM) {r0 : Int32} {σ' : gM} (h : fX9_sumOfDisks n i v1 σ = some (r0, σ')) : g_C l dC dI ad ca shX X yX9_sumOfDisks cX9_sumOfDisks 4 (some .int) (gR 1) [.ref (10 + 5 * i), .int v1] σ (some (.int r0)) σ' := by
  refine g_entry (by decide +kernel) (Nat.le_of_ble_eq_true rfl) ?_
  refine g_lvE (lv1 := [(0, .ref (10 + 5 * i)), (1, .int v1)]) rfl ?_
  unfold fX9_sumOfDisks at h
  refine g_iconst (pc := 0) (v := 0) dX9_sumOfDisks_0 (by decide) ?_
  refine g_istore_n (pc := 1) (lv1 := [(2, .int 0), (0, .ref (10 + 5 * i)), (1, .int v1)]) dX9_sumOfDisks_1 rfl (by decide) rfl ?_
  refine g_iconst (pc := 2) (v := 0) dX9_sumOfDisks_2 (by decide) ?_
  refine g_istore_n (pc := 3) (lv1 := [(3, .int 0), (2, .int 0), (0, .ref (10 + 5 * i)), (1, .int v1)]) dX9_sumOfDisks_3 rfl (by decide) rfl ?_
  exact g_lv [2, 3, 1, 0] rfl (tX9_sumOfDisks_L4 hE n i hi n v1 0 0 σ h)
def fX9_costEver (n : Nat) (i : Nat) (σ : gM) : Option (Int32 × gM) := g_bI (fX9_sumOfDisks n i 112 σ) (fun r9 σ8 => g_bI (fX9_sumOfDisks n i 120 σ8) (fun r12 σ11 => some (r9 + r12, σ11)))
set_option maxRecDepth 100000 in
theorem kX9_costEver (hE : gEX l dC dI ad ca X) (n : Nat) (i : Nat) (hi : i < 3)  (σ : gM) {r0 : Int32} {σ' : gM} (h : fX9_costEver n i σ = some (r0, σ')) : g_C l dC dI ad ca shX X yX9_costEver cX9_costEver 1 (some .int) (gR 2) [.ref (10 + 5 * i)] σ (some (.int r0)) σ' := by
  refine g_entry (by decide +kernel) (Nat.le_of_ble_eq_true rfl) ?_
  refine g_lvE (lv1 := [(0, .ref (10 + 5 * i))]) rfl ?_
  unfold fX9_costEver at h
  refine g_aload_n (pc := 0) dX9_costEver_0 rfl 0 rfl ?_
  refine g_bipush (pc := 1) (v := 112) dX9_costEver_1 (by decide) ?_
  obtain ⟨r9, σ8, h7, h⟩ := g_bId h
  refine g_callVi (pc := 3) (st := []) hE.1 wvX9_28 (sX_state (i := i) hi) rfl (kX9_sumOfDisks hE n i hi 112 σ h7) rfl (gR_ok (by decide) (by decide)) (Nat.le_of_ble_eq_true rfl) rfl dX9_costEver_3 ?_
  refine g_aload_n (pc := 6) dX9_costEver_6 rfl 0 rfl ?_
  refine g_bipush (pc := 7) (v := 120) dX9_costEver_7 (by decide) ?_
  obtain ⟨r12, σ11, h10, h⟩ := g_bId h
  refine g_callVi (pc := 9) (st := [.int r9]) hE.1 wvX9_28 (sX_state (i := i) hi) rfl (kX9_sumOfDisks hE n i hi 120 σ8 h10) rfl (gR_ok (by decide) (by decide)) (Nat.le_of_ble_eq_true rfl) rfl dX9_costEver_9 ?_
  refine g_iadd (pc := 12) dX9_costEver_12 ?_
  cases h
  exact g_iret (pc := 13) rfl rfl rfl rfl dX9_costEver_13
def fX9_copy (i : Nat) (j : Nat) (σ : gM) : Option (gM) := if ¬ (0 : Int32) < 0 then (if ¬ (0 : Int32) < 0 then (if ¬ (144 : Int32) < 0 then (if (0 : Int32).toNatClampNeg + (144 : Int32).toNatClampNeg ≤ 144 then (if (0 : Int32).toNatClampNeg + (144 : Int32).toNatClampNeg ≤ 144 then (g_let (g_row σ (11 + 5 * i) (va_cpy (σ.1 (11 + 5 * j)) (σ.1 (11 + 5 * i)) (0 : Int32).toNatClampNeg (0 : Int32).toNatClampNeg (144 : Int32).toNatClampNeg)) (fun σ13 => some σ13)) else none) else none) else none) else none) else none
set_option maxRecDepth 100000 in
theorem kX9_copy (hE : gEX l dC dI ad ca X) (i : Nat) (hi : i < 3) (j : Nat) (hj : j < 3)  (σ : gM) {σ' : gM} (h : fX9_copy i j σ = some σ') : g_C l dC dI ad ca shX X yX9_copy cX9_copy 2 none (gR 1) [.ref (10 + 5 * i), .ref (10 + 5 * j)] σ none σ' := by
  refine g_entry (by decide +kernel) (Nat.le_of_ble_eq_true rfl) ?_
  refine g_lvE (lv1 := [(0, .ref (10 + 5 * i)), (1, .ref (10 + 5 * j))]) rfl ?_
  unfold fX9_copy at h
  refine g_aload_n (pc := 0) dX9_copy_0 rfl 1 rfl ?_
  refine g_getR (pc := 1) wfX9_11 (sX_state (i := j) hj) rfl dX9_copy_1 ?_
  refine g_iconst (pc := 4) (v := 0) dX9_copy_4 (by decide) ?_
  refine g_aload_n (pc := 5) dX9_copy_5 rfl 0 rfl ?_
  refine g_getR (pc := 6) wfX9_11 (sX_state (i := i) hi) rfl dX9_copy_6 ?_
  refine g_iconst (pc := 9) (v := 0) dX9_copy_9 (by decide) ?_
  refine g_sipush (pc := 10) (v := 144) dX9_copy_10 (by decide) ?_
  obtain ⟨c8, h⟩ := g_gd h
  obtain ⟨c9, h⟩ := g_gd h
  obtain ⟨c10, h⟩ := g_gd h
  obtain ⟨c11, h⟩ := g_gd h
  obtain ⟨c12, h⟩ := g_gd h
  obtain ⟨σ13, e14, h⟩ := g_ltd h
  refine g_copy (pc := 13) (st := []) waX9_31 (sX_slots (i := j) hj) (sX_slots (i := i) hi) c8 c9 c10 c11 c12 ⟨by decide, by decide⟩ e14 dX9_copy_13 ?_
  cases h
  exact g_vret (pc := 16) rfl rfl rfl dX9_copy_16
def fX10_size (σ : gM) : Option (Int32 × gM) := some (σ.1 1 1, σ)
set_option maxRecDepth 100000 in
theorem kX10_size (hE : gEX l dC dI ad ca X)  (σ : gM) {r0 : Int32} {σ' : gM} (h : fX10_size σ = some (r0, σ')) : g_C l dC dI ad ca shX X yX10_size cX10_size 1 (some .int) (gR 0) [.ref 1] σ (some (.int r0)) σ' := by
  refine g_entry (by decide +kernel) (Nat.le_of_ble_eq_true rfl) ?_
  refine g_lvE (lv1 := [(0, .ref 1)]) rfl ?_
  unfold fX10_size at h
  refine g_aload_n (pc := 0) dX10_size_0 rfl 0 rfl ?_
  refine g_getI (pc := 1) wfX10_15 rfl rfl dX10_size_1 ?_
  cases h
  exact g_iret (pc := 4) rfl rfl rfl rfl dX10_size_4
def fX10_bytesIn_b22 (n : Nat) (K5 : Int32 → Int32 → Int32 → gM → Option (Int32 × gM)) (v0 : Int32) (v1 : Int32) (v2 : Int32) (σ : gM) : Option (Int32 × gM) := K5 v0 v1 (v2 + (-8)) σ
set_option maxRecDepth 100000 in
theorem tX10_bytesIn_b22 (hE : gEX l dC dI ad ca X) {r0 : Int32} {σ' : gM} (n : Nat) (K5 : Int32 → Int32 → Int32 → gM → Option (Int32 × gM)) (hK5 : ∀ (v0 : Int32) (v1 : Int32) (v2 : Int32) (σ : gM), K5 v0 v1 v2 σ = some (r0, σ') → g_G l dC dI ad ca shX X cX10_bytesIn 3 RX10 (some .int) (gR 0) (some (.int r0)) σ' 5 [(0, .int v0), (1, .int v1), (2, .int v2)] [] σ) (v0 : Int32) (v1 : Int32) (v2 : Int32)  (σ : gM) (h : fX10_bytesIn_b22 n K5 v0 v1 v2 σ = some (r0, σ')) : g_G l dC dI ad ca shX X cX10_bytesIn 3 RX10 (some .int) (gR 0) (some (.int r0)) σ' 22 [(0, .int v0), (1, .int v1), (2, .int v2)] [] σ := by
  unfold fX10_bytesIn_b22 at h
  refine g_iinc (pc := 22) (v := v2 + (-8)) (lv1 := [(2, .int (v2 + (-8))), (0, .int v0), (1, .int v1)]) dX10_bytesIn_22 2 rfl rfl (by decide) rfl ?_
  refine g_goto (pc := 25) (tgt := 5) dX10_bytesIn_25 (by decide) ?_
  exact g_lv [1, 2, 0] rfl (hK5 v0 v1 (v2 + (-8)) σ h)
def fX10_bytesIn_b5 (n : Nat) (K5 : Int32 → Int32 → Int32 → gM → Option (Int32 × gM)) (v0 : Int32) (v1 : Int32) (v2 : Int32) (σ : gM) : Option (Int32 × gM) := if v2 < 0 then (some (v1, σ)) else (if ((g_us v0 v2) &&& 255) = 0 then (fX10_bytesIn_b22 n K5 v0 v1 v2 σ) else (fX10_bytesIn_b22 n K5 v0 (v1 + 1) v2 σ))
set_option maxRecDepth 100000 in
theorem tX10_bytesIn_b5 (hE : gEX l dC dI ad ca X) {r0 : Int32} {σ' : gM} (n : Nat) (K5 : Int32 → Int32 → Int32 → gM → Option (Int32 × gM)) (hK5 : ∀ (v0 : Int32) (v1 : Int32) (v2 : Int32) (σ : gM), K5 v0 v1 v2 σ = some (r0, σ') → g_G l dC dI ad ca shX X cX10_bytesIn 3 RX10 (some .int) (gR 0) (some (.int r0)) σ' 5 [(0, .int v0), (1, .int v1), (2, .int v2)] [] σ) (v0 : Int32) (v1 : Int32) (v2 : Int32)  (σ : gM) (h : fX10_bytesIn_b5 n K5 v0 v1 v2 σ = some (r0, σ')) : g_G l dC dI ad ca shX X cX10_bytesIn 3 RX10 (some .int) (gR 0) (some (.int r0)) σ' 5 [(0, .int v0), (1, .int v1), (2, .int v2)] [] σ := by
  unfold fX10_bytesIn_b5 at h
  refine g_iload_n (pc := 5) dX10_bytesIn_5 rfl 2 rfl ?_
  refine g_if_lt (pc := 6) (tgt := 28) dX10_bytesIn_6 (by decide) (fun c3 => ?_) (fun c3 => ?_)
  · have h := g_ift c3 h
    refine g_iload_n (pc := 28) dX10_bytesIn_28 rfl 1 rfl ?_
    cases h
    exact g_iret (pc := 29) rfl rfl rfl rfl dX10_bytesIn_29
  · have h := g_iff c3 h
    refine g_iload_n (pc := 9) dX10_bytesIn_9 rfl 0 rfl ?_
    refine g_iload_n (pc := 10) dX10_bytesIn_10 rfl 2 rfl ?_
    refine g_iushr (pc := 11) dX10_bytesIn_11 ?_
    refine g_sipush (pc := 12) (v := 255) dX10_bytesIn_12 (by decide) ?_
    refine g_iand (pc := 15) dX10_bytesIn_15 ?_
    refine g_if_eq (pc := 16) (tgt := 22) dX10_bytesIn_16 (by decide) (fun c4 => ?_) (fun c4 => ?_)
    · have h := g_ift c4 h
      exact g_lv [0, 1, 2] rfl (tX10_bytesIn_b22 hE n K5 hK5 v0 v1 v2 σ h)
    · have h := g_iff c4 h
      refine g_iinc (pc := 19) (v := v1 + 1) (lv1 := [(1, .int (v1 + 1)), (0, .int v0), (2, .int v2)]) dX10_bytesIn_19 1 rfl rfl (by decide) rfl ?_
      exact g_lv [1, 0, 2] rfl (tX10_bytesIn_b22 hE n K5 hK5 v0 (v1 + 1) v2 σ h)
def fX10_bytesIn_L5 (n : Nat) : Nat → Int32 → Int32 → Int32 → gM → Option (Int32 × gM)
  | 0 => fun _ _ _ _ => none
  | k + 1 => fX10_bytesIn_b5 n (fX10_bytesIn_L5 n k)
theorem tX10_bytesIn_L5 (hE : gEX l dC dI ad ca X) {r0 : Int32} {σ' : gM} (n : Nat)  : ∀ (k : Nat) (v0 : Int32) (v1 : Int32) (v2 : Int32) (σ : gM), fX10_bytesIn_L5 n k v0 v1 v2 σ = some (r0, σ') → g_G l dC dI ad ca shX X cX10_bytesIn 3 RX10 (some .int) (gR 0) (some (.int r0)) σ' 5 [(0, .int v0), (1, .int v1), (2, .int v2)] [] σ := by
  intro k
  induction k with
  | zero => intro v0 v1 v2 σ h; cases h
  | succ k ih => intro v0 v1 v2 σ h; exact tX10_bytesIn_b5 hE n (fX10_bytesIn_L5 n k) ih v0 v1 v2 σ h
def fX10_bytesIn (n : Nat) (v0 : Int32) (σ : gM) : Option (Int32 × gM) := fX10_bytesIn_L5 n n v0 0 24 σ
set_option maxRecDepth 100000 in
theorem kX10_bytesIn (hE : gEX l dC dI ad ca X) (n : Nat)  (v0 : Int32) (σ : gM) {r0 : Int32} {σ' : gM} (h : fX10_bytesIn n v0 σ = some (r0, σ')) : g_C l dC dI ad ca shX X yX10_bytesIn cX10_bytesIn 3 (some .int) (gR 0) [.int v0] σ (some (.int r0)) σ' := by
  refine g_entry (by decide +kernel) (Nat.le_of_ble_eq_true rfl) ?_
  refine g_lvE (lv1 := [(0, .int v0)]) rfl ?_
  unfold fX10_bytesIn at h
  refine g_iconst (pc := 0) (v := 0) dX10_bytesIn_0 (by decide) ?_
  refine g_istore_n (pc := 1) (lv1 := [(1, .int 0), (0, .int v0)]) dX10_bytesIn_1 rfl (by decide) rfl ?_
  refine g_bipush (pc := 2) (v := 24) dX10_bytesIn_2 (by decide) ?_
  refine g_istore_n (pc := 4) (lv1 := [(2, .int 24), (1, .int 0), (0, .int v0)]) dX10_bytesIn_4 rfl (by decide) rfl ?_
  exact g_lv [2, 1, 0] rfl (tX10_bytesIn_L5 hE n n v0 0 24 σ h)
def fX10_append_b56 (n : Nat) (K3 : Int32 → Int32 → gM → Option (gM)) (v1 : Int32) (v2 : Int32) (σ : gM) : Option (gM) := K3 v1 (v2 + (-8)) σ
set_option maxRecDepth 100000 in
theorem tX10_append_b56 (hE : gEX l dC dI ad ca X) {σ' : gM} (n : Nat) (K3 : Int32 → Int32 → gM → Option (gM)) (hK3 : ∀ (v1 : Int32) (v2 : Int32) (σ : gM), K3 v1 v2 σ = some σ' → g_G l dC dI ad ca shX X cX10_append 4 RX10 none (gR 0) none σ' 3 [(0, .ref 1), (1, .int v1), (2, .int v2)] [] σ) (v1 : Int32) (v2 : Int32)  (σ : gM) (h : fX10_append_b56 n K3 v1 v2 σ = some σ') : g_G l dC dI ad ca shX X cX10_append 4 RX10 none (gR 0) none σ' 56 [(0, .ref 1), (1, .int v1), (2, .int v2)] [] σ := by
  unfold fX10_append_b56 at h
  refine g_iinc (pc := 56) (v := v2 + (-8)) (lv1 := [(2, .int (v2 + (-8))), (0, .ref 1), (1, .int v1)]) dX10_append_56 2 rfl rfl (by decide) rfl ?_
  refine g_goto (pc := 59) (tgt := 3) dX10_append_59 (by decide) ?_
  exact g_lv [1, 2, 0] rfl (hK3 v1 (v2 + (-8)) σ h)
def fX10_append_b3 (n : Nat) (K3 : Int32 → Int32 → gM → Option (gM)) (v1 : Int32) (v2 : Int32) (σ : gM) : Option (gM) := if v2 < 0 then (some σ) else (if ((g_us v1 v2) &&& 255) = 0 then (fX10_append_b56 n K3 v1 v2 σ) else (if (σ.1 1 1) < 0 then (fX10_append_b56 n K3 v1 v2 σ) else (if 280 ≤ (σ.1 1 1) then (fX10_append_b56 n K3 v1 v2 σ) else (if ¬ ((σ.1 1 1) < 0 ∨ 280 ≤ (σ.1 1 1).toNatClampNeg) then (g_let (g_put σ 2 ((σ.1 1 1).toNatClampNeg) ((g_us v1 v2) &&& 255)) (fun σ15 => g_let (g_put σ15 1 1 ((σ15.1 1 1) + 1)) (fun σ17 => fX10_append_b56 n K3 v1 v2 σ17))) else none))))
set_option maxRecDepth 100000 in
theorem tX10_append_b3 (hE : gEX l dC dI ad ca X) {σ' : gM} (n : Nat) (K3 : Int32 → Int32 → gM → Option (gM)) (hK3 : ∀ (v1 : Int32) (v2 : Int32) (σ : gM), K3 v1 v2 σ = some σ' → g_G l dC dI ad ca shX X cX10_append 4 RX10 none (gR 0) none σ' 3 [(0, .ref 1), (1, .int v1), (2, .int v2)] [] σ) (v1 : Int32) (v2 : Int32)  (σ : gM) (h : fX10_append_b3 n K3 v1 v2 σ = some σ') : g_G l dC dI ad ca shX X cX10_append 4 RX10 none (gR 0) none σ' 3 [(0, .ref 1), (1, .int v1), (2, .int v2)] [] σ := by
  unfold fX10_append_b3 at h
  refine g_iload_n (pc := 3) dX10_append_3 rfl 2 rfl ?_
  refine g_if_lt (pc := 4) (tgt := 62) dX10_append_4 (by decide) (fun c10 => ?_) (fun c10 => ?_)
  · have h := g_ift c10 h
    cases h
    exact g_vret (pc := 62) rfl rfl rfl dX10_append_62
  · have h := g_iff c10 h
    refine g_iload_n (pc := 7) dX10_append_7 rfl 1 rfl ?_
    refine g_iload_n (pc := 8) dX10_append_8 rfl 2 rfl ?_
    refine g_iushr (pc := 9) dX10_append_9 ?_
    refine g_sipush (pc := 10) (v := 255) dX10_append_10 (by decide) ?_
    refine g_iand (pc := 13) dX10_append_13 ?_
    refine g_istore_n (pc := 14) (lv1 := [(3, .int ((g_us v1 v2) &&& 255)), (0, .ref 1), (1, .int v1), (2, .int v2)]) dX10_append_14 rfl (by decide) rfl ?_
    refine g_iload_n (pc := 15) dX10_append_15 rfl 0 rfl ?_
    refine g_if_eq (pc := 16) (tgt := 56) dX10_append_16 (by decide) (fun c11 => ?_) (fun c11 => ?_)
    · have h := g_ift c11 h
      exact g_lv [1, 2, 3] rfl (tX10_append_b56 hE n K3 hK3 v1 v2 σ h)
    · have h := g_iff c11 h
      refine g_aload_n (pc := 19) dX10_append_19 rfl 1 rfl ?_
      refine g_getI (pc := 20) wfX10_15 rfl rfl dX10_append_20 ?_
      refine g_if_lt (pc := 23) (tgt := 56) dX10_append_23 (by decide) (fun c12 => ?_) (fun c12 => ?_)
      · have h := g_ift c12 h
        exact g_lv [1, 2, 3] rfl (tX10_append_b56 hE n K3 hK3 v1 v2 σ h)
      · have h := g_iff c12 h
        refine g_aload_n (pc := 26) dX10_append_26 rfl 1 rfl ?_
        refine g_getI (pc := 27) wfX10_15 rfl rfl dX10_append_27 ?_
        refine g_sipush (pc := 30) (v := 280) dX10_append_30 (by decide) ?_
        refine g_icmp_ge (pc := 33) (tgt := 56) dX10_append_33 (by decide) (fun c13 => ?_) (fun c13 => ?_)
        · have h := g_ift c13 h
          exact g_lv [1, 2, 3] rfl (tX10_append_b56 hE n K3 hK3 v1 v2 σ h)
        · have h := g_iff c13 h
          refine g_aload_n (pc := 36) dX10_append_36 rfl 1 rfl ?_
          refine g_getR (pc := 37) wfX10_11 rfl rfl dX10_append_37 ?_
          refine g_aload_n (pc := 40) dX10_append_40 rfl 1 rfl ?_
          refine g_getI (pc := 41) wfX10_15 rfl rfl dX10_append_41 ?_
          refine g_iload_n (pc := 44) dX10_append_44 rfl 0 rfl ?_
          obtain ⟨c14, h⟩ := g_gd h
          obtain ⟨σ15, e16, h⟩ := g_ltd h
          refine g_iast (pc := 45) rfl c14 rfl e16 dX10_append_45 ?_
          refine g_aload_n (pc := 46) dX10_append_46 rfl 1 rfl ?_
          refine g_dup (pc := 47) dX10_append_47 rfl ?_
          refine g_getI (pc := 48) wfX10_15 rfl rfl dX10_append_48 ?_
          refine g_iconst (pc := 51) (v := 1) dX10_append_51 (by decide) ?_
          refine g_iadd (pc := 52) dX10_append_52 ?_
          obtain ⟨σ17, e18, h⟩ := g_ltd h
          refine g_putI (pc := 53) wfX10_15 rfl rfl rfl rfl e18 dX10_append_53 ?_
          exact g_lv [1, 2, 3] rfl (tX10_append_b56 hE n K3 hK3 v1 v2 σ17 h)
def fX10_append_L3 (n : Nat) : Nat → Int32 → Int32 → gM → Option (gM)
  | 0 => fun _ _ _ => none
  | k + 1 => fX10_append_b3 n (fX10_append_L3 n k)
theorem tX10_append_L3 (hE : gEX l dC dI ad ca X) {σ' : gM} (n : Nat)  : ∀ (k : Nat) (v1 : Int32) (v2 : Int32) (σ : gM), fX10_append_L3 n k v1 v2 σ = some σ' → g_G l dC dI ad ca shX X cX10_append 4 RX10 none (gR 0) none σ' 3 [(0, .ref 1), (1, .int v1), (2, .int v2)] [] σ := by
  intro k
  induction k with
  | zero => intro v1 v2 σ h; cases h
  | succ k ih => intro v1 v2 σ h; exact tX10_append_b3 hE n (fX10_append_L3 n k) ih v1 v2 σ h
def fX10_append (n : Nat) (v1 : Int32) (σ : gM) : Option (gM) := fX10_append_L3 n n v1 24 σ
set_option maxRecDepth 100000 in
theorem kX10_append (hE : gEX l dC dI ad ca X) (n : Nat)  (v1 : Int32) (σ : gM) {σ' : gM} (h : fX10_append n v1 σ = some σ') : g_C l dC dI ad ca shX X yX10_append cX10_append 4 none (gR 0) [.ref 1, .int v1] σ none σ' := by
  refine g_entry (by decide +kernel) (Nat.le_of_ble_eq_true rfl) ?_
  refine g_lvE (lv1 := [(0, .ref 1), (1, .int v1)]) rfl ?_
  unfold fX10_append at h
  refine g_bipush (pc := 0) (v := 24) dX10_append_0 (by decide) ?_
  refine g_istore_n (pc := 2) (lv1 := [(2, .int 24), (0, .ref 1), (1, .int v1)]) dX10_append_2 rfl (by decide) rfl ?_
  exact g_lv [1, 2, 0] rfl (tX10_append_L3 hE n n v1 24 σ h)
def fX10_cut (v1 : Int32) (σ : gM) : Option (Int32 × gM) := if v1 < 0 then (some (0, σ)) else (if v1 ≤ (σ.1 1 1) then (g_let (g_put σ 1 1 v1) (fun σ7 => some (1, σ7))) else (some (0, σ)))
set_option maxRecDepth 100000 in
theorem kX10_cut (hE : gEX l dC dI ad ca X)  (v1 : Int32) (σ : gM) {r0 : Int32} {σ' : gM} (h : fX10_cut v1 σ = some (r0, σ')) : g_C l dC dI ad ca shX X yX10_cut cX10_cut 2 (some .boolean) (gR 0) [.ref 1, .int v1] σ (some (.int r0)) σ' := by
  refine g_entry (by decide +kernel) (Nat.le_of_ble_eq_true rfl) ?_
  refine g_lvE (lv1 := [(0, .ref 1), (1, .int v1)]) rfl ?_
  unfold fX10_cut at h
  refine g_iload_n (pc := 0) dX10_cut_0 rfl 1 rfl ?_
  refine g_if_lt (pc := 1) (tgt := 12) dX10_cut_1 (by decide) (fun c5 => ?_) (fun c5 => ?_)
  · have h := g_ift c5 h
    refine g_iconst (pc := 12) (v := 0) dX10_cut_12 (by decide) ?_
    cases h
    exact g_iret (pc := 13) rfl (by decide) rfl rfl dX10_cut_13
  · have h := g_iff c5 h
    refine g_iload_n (pc := 4) dX10_cut_4 rfl 1 rfl ?_
    refine g_aload_n (pc := 5) dX10_cut_5 rfl 0 rfl ?_
    refine g_getI (pc := 6) wfX10_15 rfl rfl dX10_cut_6 ?_
    refine g_icmp_le (pc := 9) (tgt := 14) dX10_cut_9 (by decide) (fun c6 => ?_) (fun c6 => ?_)
    · have h := g_ift c6 h
      refine g_aload_n (pc := 14) dX10_cut_14 rfl 0 rfl ?_
      refine g_iload_n (pc := 15) dX10_cut_15 rfl 1 rfl ?_
      obtain ⟨σ7, e8, h⟩ := g_ltd h
      refine g_putI (pc := 16) wfX10_15 rfl rfl rfl rfl e8 dX10_cut_16 ?_
      refine g_iconst (pc := 19) (v := 1) dX10_cut_19 (by decide) ?_
      cases h
      exact g_iret (pc := 20) rfl (by decide) rfl rfl dX10_cut_20
    · have h := g_iff c6 h
      refine g_iconst (pc := 12) (v := 0) dX10_cut_12 (by decide) ?_
      cases h
      exact g_iret (pc := 13) rfl (by decide) rfl rfl dX10_cut_13
def fX10_byteCount (σ : gM) : Option (Int32 × gM) := some (σ.1 1 7, σ)
set_option maxRecDepth 100000 in
theorem kX10_byteCount (hE : gEX l dC dI ad ca X)  (σ : gM) {r0 : Int32} {σ' : gM} (h : fX10_byteCount σ = some (r0, σ')) : g_C l dC dI ad ca shX X yX10_byteCount cX10_byteCount 1 (some .int) (gR 0) [.ref 1] σ (some (.int r0)) σ' := by
  refine g_entry (by decide +kernel) (Nat.le_of_ble_eq_true rfl) ?_
  refine g_lvE (lv1 := [(0, .ref 1)]) rfl ?_
  unfold fX10_byteCount at h
  refine g_aload_n (pc := 0) dX10_byteCount_0 rfl 0 rfl ?_
  refine g_getI (pc := 1) wfX10_34 rfl rfl dX10_byteCount_1 ?_
  cases h
  exact g_iret (pc := 4) rfl rfl rfl rfl dX10_byteCount_4
def fX10_byteAddress (v1 : Int32) (σ : gM) : Option (Int32 × gM) := if v1 < 0 then (some ((-1), σ)) else (if (σ.1 1 7) ≤ v1 then (some ((-1), σ)) else (if 16 ≤ v1 then (some ((-1), σ)) else (if ¬ ((2 * v1) < 0 ∨ 32 ≤ (2 * v1).toNatClampNeg) then (some (σ.1 4 ((2 * v1).toNatClampNeg), σ)) else none)))
set_option maxRecDepth 100000 in
theorem kX10_byteAddress (hE : gEX l dC dI ad ca X)  (v1 : Int32) (σ : gM) {r0 : Int32} {σ' : gM} (h : fX10_byteAddress v1 σ = some (r0, σ')) : g_C l dC dI ad ca shX X yX10_byteAddress cX10_byteAddress 2 (some .int) (gR 0) [.ref 1, .int v1] σ (some (.int r0)) σ' := by
  refine g_entry (by decide +kernel) (Nat.le_of_ble_eq_true rfl) ?_
  refine g_lvE (lv1 := [(0, .ref 1), (1, .int v1)]) rfl ?_
  unfold fX10_byteAddress at h
  refine g_iload_n (pc := 0) dX10_byteAddress_0 rfl 1 rfl ?_
  refine g_if_lt (pc := 1) (tgt := 29) dX10_byteAddress_1 (by decide) (fun c5 => ?_) (fun c5 => ?_)
  · have h := g_ift c5 h
    refine g_iconst (pc := 29) (v := (-1)) dX10_byteAddress_29 (by decide) ?_
    cases h
    exact g_iret (pc := 30) rfl rfl rfl rfl dX10_byteAddress_30
  · have h := g_iff c5 h
    refine g_iload_n (pc := 4) dX10_byteAddress_4 rfl 1 rfl ?_
    refine g_aload_n (pc := 5) dX10_byteAddress_5 rfl 0 rfl ?_
    refine g_getI (pc := 6) wfX10_34 rfl rfl dX10_byteAddress_6 ?_
    refine g_icmp_ge (pc := 9) (tgt := 29) dX10_byteAddress_9 (by decide) (fun c6 => ?_) (fun c6 => ?_)
    · have h := g_ift c6 h
      refine g_iconst (pc := 29) (v := (-1)) dX10_byteAddress_29 (by decide) ?_
      cases h
      exact g_iret (pc := 30) rfl rfl rfl rfl dX10_byteAddress_30
    · have h := g_iff c6 h
      refine g_iload_n (pc := 12) dX10_byteAddress_12 rfl 1 rfl ?_
      refine g_bipush (pc := 13) (v := 16) dX10_byteAddress_13 (by decide) ?_
      refine g_icmp_ge (pc := 15) (tgt := 29) dX10_byteAddress_15 (by decide) (fun c7 => ?_) (fun c7 => ?_)
      · have h := g_ift c7 h
        refine g_iconst (pc := 29) (v := (-1)) dX10_byteAddress_29 (by decide) ?_
        cases h
        exact g_iret (pc := 30) rfl rfl rfl rfl dX10_byteAddress_30
      · have h := g_iff c7 h
        refine g_aload_n (pc := 18) dX10_byteAddress_18 rfl 0 rfl ?_
        refine g_getR (pc := 19) wfX10_31 rfl rfl dX10_byteAddress_19 ?_
        refine g_iconst (pc := 22) (v := 2) dX10_byteAddress_22 (by decide) ?_
        refine g_iload_n (pc := 23) dX10_byteAddress_23 rfl 1 rfl ?_
        refine g_imul (pc := 24) dX10_byteAddress_24 ?_
        obtain ⟨c8, h⟩ := g_gd h
        refine g_iald (pc := 25) rfl c8 rfl dX10_byteAddress_25 ?_
        refine g_goto (pc := 26) (tgt := 30) dX10_byteAddress_26 (by decide) ?_
        cases h
        exact g_iret (pc := 30) rfl rfl rfl rfl dX10_byteAddress_30
def fX10_byteValue (v1 : Int32) (σ : gM) : Option (Int32 × gM) := if v1 < 0 then (some (0, σ)) else (if (σ.1 1 7) ≤ v1 then (some (0, σ)) else (if 16 ≤ v1 then (some (0, σ)) else (if ¬ (((2 * v1) + 1) < 0 ∨ 32 ≤ ((2 * v1) + 1).toNatClampNeg) then (some (σ.1 4 (((2 * v1) + 1).toNatClampNeg), σ)) else none)))
set_option maxRecDepth 100000 in
theorem kX10_byteValue (hE : gEX l dC dI ad ca X)  (v1 : Int32) (σ : gM) {r0 : Int32} {σ' : gM} (h : fX10_byteValue v1 σ = some (r0, σ')) : g_C l dC dI ad ca shX X yX10_byteValue cX10_byteValue 2 (some .int) (gR 0) [.ref 1, .int v1] σ (some (.int r0)) σ' := by
  refine g_entry (by decide +kernel) (Nat.le_of_ble_eq_true rfl) ?_
  refine g_lvE (lv1 := [(0, .ref 1), (1, .int v1)]) rfl ?_
  unfold fX10_byteValue at h
  refine g_iload_n (pc := 0) dX10_byteValue_0 rfl 1 rfl ?_
  refine g_if_lt (pc := 1) (tgt := 31) dX10_byteValue_1 (by decide) (fun c5 => ?_) (fun c5 => ?_)
  · have h := g_ift c5 h
    refine g_iconst (pc := 31) (v := 0) dX10_byteValue_31 (by decide) ?_
    cases h
    exact g_iret (pc := 32) rfl rfl rfl rfl dX10_byteValue_32
  · have h := g_iff c5 h
    refine g_iload_n (pc := 4) dX10_byteValue_4 rfl 1 rfl ?_
    refine g_aload_n (pc := 5) dX10_byteValue_5 rfl 0 rfl ?_
    refine g_getI (pc := 6) wfX10_34 rfl rfl dX10_byteValue_6 ?_
    refine g_icmp_ge (pc := 9) (tgt := 31) dX10_byteValue_9 (by decide) (fun c6 => ?_) (fun c6 => ?_)
    · have h := g_ift c6 h
      refine g_iconst (pc := 31) (v := 0) dX10_byteValue_31 (by decide) ?_
      cases h
      exact g_iret (pc := 32) rfl rfl rfl rfl dX10_byteValue_32
    · have h := g_iff c6 h
      refine g_iload_n (pc := 12) dX10_byteValue_12 rfl 1 rfl ?_
      refine g_bipush (pc := 13) (v := 16) dX10_byteValue_13 (by decide) ?_
      refine g_icmp_ge (pc := 15) (tgt := 31) dX10_byteValue_15 (by decide) (fun c7 => ?_) (fun c7 => ?_)
      · have h := g_ift c7 h
        refine g_iconst (pc := 31) (v := 0) dX10_byteValue_31 (by decide) ?_
        cases h
        exact g_iret (pc := 32) rfl rfl rfl rfl dX10_byteValue_32
      · have h := g_iff c7 h
        refine g_aload_n (pc := 18) dX10_byteValue_18 rfl 0 rfl ?_
        refine g_getR (pc := 19) wfX10_31 rfl rfl dX10_byteValue_19 ?_
        refine g_iconst (pc := 22) (v := 2) dX10_byteValue_22 (by decide) ?_
        refine g_iload_n (pc := 23) dX10_byteValue_23 rfl 1 rfl ?_
        refine g_imul (pc := 24) dX10_byteValue_24 ?_
        refine g_iconst (pc := 25) (v := 1) dX10_byteValue_25 (by decide) ?_
        refine g_iadd (pc := 26) dX10_byteValue_26 ?_
        obtain ⟨c8, h⟩ := g_gd h
        refine g_iald (pc := 27) rfl c8 rfl dX10_byteValue_27 ?_
        refine g_goto (pc := 28) (tgt := 32) dX10_byteValue_28 (by decide) ?_
        cases h
        exact g_iret (pc := 32) rfl rfl rfl rfl dX10_byteValue_32
def fX10_script (σ : gM) : Option (gM) := some σ
set_option maxRecDepth 100000 in
theorem kX10_script (hE : gEX l dC dI ad ca X)  (σ : gM) {σ' : gM} (h : fX10_script σ = some σ') : g_C l dC dI ad ca shX X yX10_script cX10_script 1 (some (.object "StripeShelf$Script")) (gR 0) [.ref 1] σ (some (.ref (35 + 3 * 4))) σ' := by
  refine g_entry (by decide +kernel) (Nat.le_of_ble_eq_true rfl) ?_
  refine g_lvE (lv1 := [(0, .ref 1)]) rfl ?_
  unfold fX10_script at h
  refine g_aload_n (pc := 0) dX10_script_0 rfl 0 rfl ?_
  refine g_getR (pc := 1) wfX10_44 rfl rfl dX10_script_1 ?_
  cases h
  exact g_aret (pc := 4) rfl (Or.inl ⟨_, rfl⟩) rfl rfl dX10_script_4
def fX10_useDefaults_b6 (n : Nat) (K6 : Int32 → Int32 → gM → Option (gM)) (v2 : Int32) (v3 : Int32) (σ : gM) : Option (gM) := if v2 < v3 then (some σ) else (if 7 ≤ v3 then (some σ) else (if ¬ (v3 < 0 ∨ 7 ≤ v3.toNatClampNeg) then (if ¬ (v3 < 0 ∨ 7 ≤ v3.toNatClampNeg) then (g_let (g_put σ 3 v3.toNatClampNeg (([3, 4, 2, 0, 1, 0, 1] : List Int32).getD v3.toNatClampNeg 0)) (fun σ11 => K6 v2 (v3 + 1) σ11)) else none) else none))
set_option maxRecDepth 100000 in
theorem tX10_useDefaults_b6 (hE : gEX l dC dI ad ca X) {σ' : gM} (n : Nat) (K6 : Int32 → Int32 → gM → Option (gM)) (hK6 : ∀ (v2 : Int32) (v3 : Int32) (σ : gM), K6 v2 v3 σ = some σ' → g_G l dC dI ad ca shX X cX10_useDefaults 4 RX10 none (gR 1) none σ' 6 [(0, .ref 1), (2, .int v2), (3, .int v3)] [] σ) (v2 : Int32) (v3 : Int32)  (σ : gM) (h : fX10_useDefaults_b6 n K6 v2 v3 σ = some σ') : g_G l dC dI ad ca shX X cX10_useDefaults 4 RX10 none (gR 1) none σ' 6 [(0, .ref 1), (2, .int v2), (3, .int v3)] [] σ := by
  unfold fX10_useDefaults_b6 at h
  refine g_iload_n (pc := 6) dX10_useDefaults_6 rfl 2 rfl ?_
  refine g_iload_n (pc := 7) dX10_useDefaults_7 rfl 1 rfl ?_
  refine g_icmp_gt (pc := 8) (tgt := 34) dX10_useDefaults_8 (by decide) (fun c7 => ?_) (fun c7 => ?_)
  · have h := g_ift c7 h
    cases h
    exact g_vret (pc := 34) rfl rfl rfl dX10_useDefaults_34
  · have h := g_iff c7 h
    refine g_iload_n (pc := 11) dX10_useDefaults_11 rfl 2 rfl ?_
    refine g_bipush (pc := 12) (v := 7) dX10_useDefaults_12 (by decide) ?_
    refine g_icmp_ge (pc := 14) (tgt := 34) dX10_useDefaults_14 (by decide) (fun c8 => ?_) (fun c8 => ?_)
    · have h := g_ift c8 h
      cases h
      exact g_vret (pc := 34) rfl rfl rfl dX10_useDefaults_34
    · have h := g_iff c8 h
      refine g_aload_n (pc := 17) dX10_useDefaults_17 rfl 0 rfl ?_
      refine g_getR (pc := 18) wfX10_28 rfl rfl dX10_useDefaults_18 ?_
      refine g_iload_n (pc := 21) dX10_useDefaults_21 rfl 2 rfl ?_
      refine g_gets (pc := 22) (xzA hE 2 rfl) wgX10_77 dX10_useDefaults_22 ?_
      refine g_iload_n (pc := 25) dX10_useDefaults_25 rfl 2 rfl ?_
      obtain ⟨c9, h⟩ := g_gd h
      refine g_ti (pc := 26) (xtA hE 2 rfl) c9 rfl dX10_useDefaults_26 ?_
      obtain ⟨c10, h⟩ := g_gd h
      obtain ⟨σ11, e12, h⟩ := g_ltd h
      refine g_iast (pc := 27) rfl c10 rfl e12 dX10_useDefaults_27 ?_
      refine g_iinc (pc := 28) (v := v3 + 1) (lv1 := [(3, .int (v3 + 1)), (0, .ref 1), (2, .int v2)]) dX10_useDefaults_28 2 rfl rfl (by decide) rfl ?_
      refine g_goto (pc := 31) (tgt := 6) dX10_useDefaults_31 (by decide) ?_
      exact g_lv [1, 2, 0] rfl (hK6 v2 (v3 + 1) σ11 h)
def fX10_useDefaults_L6 (n : Nat) : Nat → Int32 → Int32 → gM → Option (gM)
  | 0 => fun _ _ _ => none
  | k + 1 => fX10_useDefaults_b6 n (fX10_useDefaults_L6 n k)
theorem tX10_useDefaults_L6 (hE : gEX l dC dI ad ca X) {σ' : gM} (n : Nat)  : ∀ (k : Nat) (v2 : Int32) (v3 : Int32) (σ : gM), fX10_useDefaults_L6 n k v2 v3 σ = some σ' → g_G l dC dI ad ca shX X cX10_useDefaults 4 RX10 none (gR 1) none σ' 6 [(0, .ref 1), (2, .int v2), (3, .int v3)] [] σ := by
  intro k
  induction k with
  | zero => intro v2 v3 σ h; cases h
  | succ k ih => intro v2 v3 σ h; exact tX10_useDefaults_b6 hE n (fX10_useDefaults_L6 n k) ih v2 v3 σ h
def fX10_useDefaults (n : Nat) (v1 : Int32) (v2 : Int32) (σ : gM) : Option (gM) := fX10_useDefaults_L6 n n v2 (if v1 < 0 then 0 else v1) σ
set_option maxRecDepth 100000 in
theorem kX10_useDefaults (hE : gEX l dC dI ad ca X) (n : Nat)  (v1 : Int32) (v2 : Int32) (σ : gM) {σ' : gM} (h : fX10_useDefaults n v1 v2 σ = some σ') : g_C l dC dI ad ca shX X yX10_useDefaults cX10_useDefaults 4 none (gR 1) [.ref 1, .int v1, .int v2] σ none σ' := by
  refine g_entry (by decide +kernel) (Nat.le_of_ble_eq_true rfl) ?_
  refine g_lvE (lv1 := [(0, .ref 1), (1, .int v1), (2, .int v2)]) rfl ?_
  unfold fX10_useDefaults at h
  refine g_iload_n (pc := 0) dX10_useDefaults_0 rfl 1 rfl ?_
  refine g_iconst (pc := 1) (v := 0) dX10_useDefaults_1 (by decide) ?_
  refine g_max (pc := 2) (st := []) wmX10_71 ⟨by decide, by decide⟩ dX10_useDefaults_2 ?_
  refine g_istore_n (pc := 5) (lv1 := [(3, .int (if v1 < 0 then 0 else v1)), (0, .ref 1), (1, .int v1), (2, .int v2)]) dX10_useDefaults_5 rfl (by decide) rfl ?_
  exact g_lv [1, 3, 0] rfl (tX10_useDefaults_L6 hE n n v2 (if v1 < 0 then 0 else v1) σ h)
def fX10_skipBlanks_b0 (n : Nat) (K0 : gM → Option (gM)) (σ : gM) : Option (gM) := if (σ.1 1 2) < 0 then (some σ) else (if (σ.1 1 1) ≤ (σ.1 1 2) then (some σ) else (if 280 ≤ (σ.1 1 2) then (some σ) else (if ¬ ((σ.1 1 2) < 0 ∨ 280 ≤ (σ.1 1 2).toNatClampNeg) then (if (σ.1 2 ((σ.1 1 2).toNatClampNeg)) = 32 then (g_let (g_put σ 1 2 ((σ.1 1 2) + 1)) (fun σ13 => K0 σ13)) else (some σ)) else none)))
set_option maxRecDepth 100000 in
theorem tX10_skipBlanks_b0 (hE : gEX l dC dI ad ca X) {σ' : gM} (n : Nat) (K0 : gM → Option (gM)) (hK0 : ∀ (σ : gM), K0 σ = some σ' → g_G l dC dI ad ca shX X cX10_skipBlanks 1 RX10 none (gR 0) none σ' 0 [(0, .ref 1)] [] σ)  (σ : gM) (h : fX10_skipBlanks_b0 n K0 σ = some σ') : g_G l dC dI ad ca shX X cX10_skipBlanks 1 RX10 none (gR 0) none σ' 0 [(0, .ref 1)] [] σ := by
  unfold fX10_skipBlanks_b0 at h
  refine g_aload_n (pc := 0) dX10_skipBlanks_0 rfl 0 rfl ?_
  refine g_getI (pc := 1) wfX10_19 rfl rfl dX10_skipBlanks_1 ?_
  refine g_if_lt (pc := 4) (tgt := 55) dX10_skipBlanks_4 (by decide) (fun c8 => ?_) (fun c8 => ?_)
  · have h := g_ift c8 h
    cases h
    exact g_vret (pc := 55) rfl rfl rfl dX10_skipBlanks_55
  · have h := g_iff c8 h
    refine g_aload_n (pc := 7) dX10_skipBlanks_7 rfl 0 rfl ?_
    refine g_getI (pc := 8) wfX10_19 rfl rfl dX10_skipBlanks_8 ?_
    refine g_aload_n (pc := 11) dX10_skipBlanks_11 rfl 0 rfl ?_
    refine g_getI (pc := 12) wfX10_15 rfl rfl dX10_skipBlanks_12 ?_
    refine g_icmp_ge (pc := 15) (tgt := 55) dX10_skipBlanks_15 (by decide) (fun c9 => ?_) (fun c9 => ?_)
    · have h := g_ift c9 h
      cases h
      exact g_vret (pc := 55) rfl rfl rfl dX10_skipBlanks_55
    · have h := g_iff c9 h
      refine g_aload_n (pc := 18) dX10_skipBlanks_18 rfl 0 rfl ?_
      refine g_getI (pc := 19) wfX10_19 rfl rfl dX10_skipBlanks_19 ?_
      refine g_sipush (pc := 22) (v := 280) dX10_skipBlanks_22 (by decide) ?_
      refine g_icmp_ge (pc := 25) (tgt := 55) dX10_skipBlanks_25 (by decide) (fun c10 => ?_) (fun c10 => ?_)
      · have h := g_ift c10 h
        cases h
        exact g_vret (pc := 55) rfl rfl rfl dX10_skipBlanks_55
      · have h := g_iff c10 h
        refine g_aload_n (pc := 28) dX10_skipBlanks_28 rfl 0 rfl ?_
        refine g_getR (pc := 29) wfX10_11 rfl rfl dX10_skipBlanks_29 ?_
        refine g_aload_n (pc := 32) dX10_skipBlanks_32 rfl 0 rfl ?_
        refine g_getI (pc := 33) wfX10_19 rfl rfl dX10_skipBlanks_33 ?_
        obtain ⟨c11, h⟩ := g_gd h
        refine g_iald (pc := 36) rfl c11 rfl dX10_skipBlanks_36 ?_
        refine g_bipush (pc := 37) (v := 32) dX10_skipBlanks_37 (by decide) ?_
        refine g_icmp_ne (pc := 39) (tgt := 55) dX10_skipBlanks_39 (by decide) (fun c12 => ?_) (fun c12 => ?_)
        · have h := g_iff c12 h
          cases h
          exact g_vret (pc := 55) rfl rfl rfl dX10_skipBlanks_55
        · have h := g_ift c12 h
          refine g_aload_n (pc := 42) dX10_skipBlanks_42 rfl 0 rfl ?_
          refine g_dup (pc := 43) dX10_skipBlanks_43 rfl ?_
          refine g_getI (pc := 44) wfX10_19 rfl rfl dX10_skipBlanks_44 ?_
          refine g_iconst (pc := 47) (v := 1) dX10_skipBlanks_47 (by decide) ?_
          refine g_iadd (pc := 48) dX10_skipBlanks_48 ?_
          obtain ⟨σ13, e14, h⟩ := g_ltd h
          refine g_putI (pc := 49) wfX10_19 rfl rfl rfl rfl e14 dX10_skipBlanks_49 ?_
          refine g_goto (pc := 52) (tgt := 0) dX10_skipBlanks_52 (by decide) ?_
          exact g_lv [0] rfl (hK0 σ13 h)
def fX10_skipBlanks_L0 (n : Nat) : Nat → gM → Option (gM)
  | 0 => fun _ => none
  | k + 1 => fX10_skipBlanks_b0 n (fX10_skipBlanks_L0 n k)
theorem tX10_skipBlanks_L0 (hE : gEX l dC dI ad ca X) {σ' : gM} (n : Nat)  : ∀ (k : Nat) (σ : gM), fX10_skipBlanks_L0 n k σ = some σ' → g_G l dC dI ad ca shX X cX10_skipBlanks 1 RX10 none (gR 0) none σ' 0 [(0, .ref 1)] [] σ := by
  intro k
  induction k with
  | zero => intro σ h; cases h
  | succ k ih => intro σ h; exact tX10_skipBlanks_b0 hE n (fX10_skipBlanks_L0 n k) ih σ h
def fX10_skipBlanks (n : Nat) (σ : gM) : Option (gM) := fX10_skipBlanks_L0 n n σ
set_option maxRecDepth 100000 in
theorem kX10_skipBlanks (hE : gEX l dC dI ad ca X) (n : Nat)  (σ : gM) {σ' : gM} (h : fX10_skipBlanks n σ = some σ') : g_C l dC dI ad ca shX X yX10_skipBlanks cX10_skipBlanks 1 none (gR 0) [.ref 1] σ none σ' := by
  refine g_entry (by decide +kernel) (Nat.le_of_ble_eq_true rfl) ?_
  refine g_lvE (lv1 := [(0, .ref 1)]) rfl ?_
  unfold fX10_skipBlanks at h
  exact g_lv [0] rfl (tX10_skipBlanks_L0 hE n n σ h)
def fX10_sign (σ : gM) : Option (Int32 × gM) := if (σ.1 1 2) < 0 then (some (0, σ)) else (if (σ.1 1 1) ≤ (σ.1 1 2) then (some (0, σ)) else (if 280 ≤ (σ.1 1 2) then (some (0, σ)) else (if ¬ ((σ.1 1 2) < 0 ∨ 280 ≤ (σ.1 1 2).toNatClampNeg) then (some (σ.1 2 ((σ.1 1 2).toNatClampNeg), σ)) else none)))
set_option maxRecDepth 100000 in
theorem kX10_sign (hE : gEX l dC dI ad ca X)  (σ : gM) {r0 : Int32} {σ' : gM} (h : fX10_sign σ = some (r0, σ')) : g_C l dC dI ad ca shX X yX10_sign cX10_sign 1 (some .int) (gR 0) [.ref 1] σ (some (.int r0)) σ' := by
  refine g_entry (by decide +kernel) (Nat.le_of_ble_eq_true rfl) ?_
  refine g_lvE (lv1 := [(0, .ref 1)]) rfl ?_
  unfold fX10_sign at h
  refine g_aload_n (pc := 0) dX10_sign_0 rfl 0 rfl ?_
  refine g_getI (pc := 1) wfX10_19 rfl rfl dX10_sign_1 ?_
  refine g_if_lt (pc := 4) (tgt := 40) dX10_sign_4 (by decide) (fun c5 => ?_) (fun c5 => ?_)
  · have h := g_ift c5 h
    refine g_iconst (pc := 40) (v := 0) dX10_sign_40 (by decide) ?_
    cases h
    exact g_iret (pc := 41) rfl rfl rfl rfl dX10_sign_41
  · have h := g_iff c5 h
    refine g_aload_n (pc := 7) dX10_sign_7 rfl 0 rfl ?_
    refine g_getI (pc := 8) wfX10_19 rfl rfl dX10_sign_8 ?_
    refine g_aload_n (pc := 11) dX10_sign_11 rfl 0 rfl ?_
    refine g_getI (pc := 12) wfX10_15 rfl rfl dX10_sign_12 ?_
    refine g_icmp_ge (pc := 15) (tgt := 40) dX10_sign_15 (by decide) (fun c6 => ?_) (fun c6 => ?_)
    · have h := g_ift c6 h
      refine g_iconst (pc := 40) (v := 0) dX10_sign_40 (by decide) ?_
      cases h
      exact g_iret (pc := 41) rfl rfl rfl rfl dX10_sign_41
    · have h := g_iff c6 h
      refine g_aload_n (pc := 18) dX10_sign_18 rfl 0 rfl ?_
      refine g_getI (pc := 19) wfX10_19 rfl rfl dX10_sign_19 ?_
      refine g_sipush (pc := 22) (v := 280) dX10_sign_22 (by decide) ?_
      refine g_icmp_ge (pc := 25) (tgt := 40) dX10_sign_25 (by decide) (fun c7 => ?_) (fun c7 => ?_)
      · have h := g_ift c7 h
        refine g_iconst (pc := 40) (v := 0) dX10_sign_40 (by decide) ?_
        cases h
        exact g_iret (pc := 41) rfl rfl rfl rfl dX10_sign_41
      · have h := g_iff c7 h
        refine g_aload_n (pc := 28) dX10_sign_28 rfl 0 rfl ?_
        refine g_getR (pc := 29) wfX10_11 rfl rfl dX10_sign_29 ?_
        refine g_aload_n (pc := 32) dX10_sign_32 rfl 0 rfl ?_
        refine g_getI (pc := 33) wfX10_19 rfl rfl dX10_sign_33 ?_
        obtain ⟨c8, h⟩ := g_gd h
        refine g_iald (pc := 36) rfl c8 rfl dX10_sign_36 ?_
        refine g_goto (pc := 37) (tgt := 41) dX10_sign_37 (by decide) ?_
        cases h
        exact g_iret (pc := 41) rfl rfl rfl rfl dX10_sign_41
def fX10_wrong (v1 : Int32) (σ : gM) : Option (Int32 × gM) := g_let (g_put σ 1 3 v1) (fun σ3 => some (0, σ3))
set_option maxRecDepth 100000 in
theorem kX10_wrong (hE : gEX l dC dI ad ca X)  (v1 : Int32) (σ : gM) {r0 : Int32} {σ' : gM} (h : fX10_wrong v1 σ = some (r0, σ')) : g_C l dC dI ad ca shX X yX10_wrong cX10_wrong 2 (some .boolean) (gR 0) [.ref 1, .int v1] σ (some (.int r0)) σ' := by
  refine g_entry (by decide +kernel) (Nat.le_of_ble_eq_true rfl) ?_
  refine g_lvE (lv1 := [(0, .ref 1), (1, .int v1)]) rfl ?_
  unfold fX10_wrong at h
  refine g_aload_n (pc := 0) dX10_wrong_0 rfl 0 rfl ?_
  refine g_iload_n (pc := 1) dX10_wrong_1 rfl 1 rfl ?_
  obtain ⟨σ3, e4, h⟩ := g_ltd h
  refine g_putI (pc := 2) wfX10_22 rfl rfl rfl rfl e4 dX10_wrong_2 ?_
  refine g_iconst (pc := 5) (v := 0) dX10_wrong_5 (by decide) ?_
  cases h
  exact g_iret (pc := 6) rfl (by decide) rfl rfl dX10_wrong_6
def fX10_isDigit (v0 : Int32) (σ : gM) : Option (Int32 × gM) := if v0 < 48 then (some (0, σ)) else (if 57 < v0 then (some (0, σ)) else (some (1, σ)))
set_option maxRecDepth 100000 in
theorem kX10_isDigit (hE : gEX l dC dI ad ca X)  (v0 : Int32) (σ : gM) {r0 : Int32} {σ' : gM} (h : fX10_isDigit v0 σ = some (r0, σ')) : g_C l dC dI ad ca shX X yX10_isDigit cX10_isDigit 1 (some .boolean) (gR 0) [.int v0] σ (some (.int r0)) σ' := by
  refine g_entry (by decide +kernel) (Nat.le_of_ble_eq_true rfl) ?_
  refine g_lvE (lv1 := [(0, .int v0)]) rfl ?_
  unfold fX10_isDigit at h
  refine g_iload_n (pc := 0) dX10_isDigit_0 rfl 0 rfl ?_
  refine g_bipush (pc := 1) (v := 48) dX10_isDigit_1 (by decide) ?_
  refine g_icmp_lt (pc := 3) (tgt := 16) dX10_isDigit_3 (by decide) (fun c3 => ?_) (fun c3 => ?_)
  · have h := g_ift c3 h
    refine g_iconst (pc := 16) (v := 0) dX10_isDigit_16 (by decide) ?_
    cases h
    exact g_iret (pc := 17) rfl (by decide) rfl rfl dX10_isDigit_17
  · have h := g_iff c3 h
    refine g_iload_n (pc := 6) dX10_isDigit_6 rfl 0 rfl ?_
    refine g_bipush (pc := 7) (v := 57) dX10_isDigit_7 (by decide) ?_
    refine g_icmp_gt (pc := 9) (tgt := 16) dX10_isDigit_9 (by decide) (fun c4 => ?_) (fun c4 => ?_)
    · have h := g_ift c4 h
      refine g_iconst (pc := 16) (v := 0) dX10_isDigit_16 (by decide) ?_
      cases h
      exact g_iret (pc := 17) rfl (by decide) rfl rfl dX10_isDigit_17
    · have h := g_iff c4 h
      refine g_iconst (pc := 12) (v := 1) dX10_isDigit_12 (by decide) ?_
      refine g_goto (pc := 13) (tgt := 17) dX10_isDigit_13 (by decide) ?_
      cases h
      exact g_iret (pc := 17) rfl (by decide) rfl rfl dX10_isDigit_17
def fX10_readNumber_b69 (n : Nat) (σ : gM) : Option (Int32 × gM) := g_bI (fX10_wrong (σ.1 1 2) σ) (fun r38 σ37 => if r38 &&& 1 = r38 then (some (r38, σ37)) else none)
set_option maxRecDepth 100000 in
theorem tX10_readNumber_b69 (hE : gEX l dC dI ad ca X) {r0 : Int32} {σ' : gM} (n : Nat)  (σ : gM) (h : fX10_readNumber_b69 n σ = some (r0, σ')) : g_G l dC dI ad ca shX X cX10_readNumber 5 RX10 (some .boolean) (gR 1) (some (.int r0)) σ' 69 [(0, .ref 1)] [] σ := by
  unfold fX10_readNumber_b69 at h
  refine g_aload_n (pc := 69) dX10_readNumber_69 rfl 0 rfl ?_
  refine g_aload_n (pc := 70) dX10_readNumber_70 rfl 0 rfl ?_
  refine g_getI (pc := 71) wfX10_19 rfl rfl dX10_readNumber_71 ?_
  obtain ⟨r38, σ37, h36, h⟩ := g_bId h
  refine g_callVi (pc := 74) (st := []) hE.1 wvX10_67 rfl rfl (kX10_wrong hE (σ.1 1 2) σ h36) rfl (gR_ok (by decide) (by decide)) (Nat.le_of_ble_eq_true rfl) rfl dX10_readNumber_74 ?_
  obtain ⟨c39, h⟩ := g_gd h
  cases h
  exact g_iret (pc := 77) rfl (g_nb c39) rfl rfl dX10_readNumber_77
def fX10_readNumber_b88 (n : Nat) (σ : gM) : Option (Int32 × gM) := g_bI (fX10_wrong ((σ.1 1 2) - 1) σ) (fun r42 σ41 => if r42 &&& 1 = r42 then (some (r42, σ41)) else none)
set_option maxRecDepth 100000 in
theorem tX10_readNumber_b88 (hE : gEX l dC dI ad ca X) {r0 : Int32} {σ' : gM} (n : Nat)  (σ : gM) (h : fX10_readNumber_b88 n σ = some (r0, σ')) : g_G l dC dI ad ca shX X cX10_readNumber 5 RX10 (some .boolean) (gR 1) (some (.int r0)) σ' 88 [(0, .ref 1)] [] σ := by
  unfold fX10_readNumber_b88 at h
  refine g_aload_n (pc := 88) dX10_readNumber_88 rfl 0 rfl ?_
  refine g_aload_n (pc := 89) dX10_readNumber_89 rfl 0 rfl ?_
  refine g_getI (pc := 90) wfX10_19 rfl rfl dX10_readNumber_90 ?_
  refine g_iconst (pc := 93) (v := 1) dX10_readNumber_93 (by decide) ?_
  refine g_isub (pc := 94) dX10_readNumber_94 ?_
  obtain ⟨r42, σ41, h40, h⟩ := g_bId h
  refine g_callVi (pc := 95) (st := []) hE.1 wvX10_67 rfl rfl (kX10_wrong hE ((σ.1 1 2) - 1) σ h40) rfl (gR_ok (by decide) (by decide)) (Nat.le_of_ble_eq_true rfl) rfl dX10_readNumber_95 ?_
  obtain ⟨c43, h⟩ := g_gd h
  cases h
  exact g_iret (pc := 98) rfl (g_nb c43) rfl rfl dX10_readNumber_98
def fX10_readNumber_b54 (n : Nat) (v1 : Int32) (v2 : Int32) (v3 : Int32) (v4 : Int32) (σ : gM) : Option (Int32 × gM) := if v4 = 0 then (fX10_readNumber_b69 n σ) else (g_bI (fX10_sign σ) (fun r47 σ46 => g_bI (fX10_isDigit r47 σ46) (fun r50 σ49 => if r50 = 0 then (if v3 < v1 then (fX10_readNumber_b88 n σ49) else (if v3 ≤ v2 then (g_let (g_put σ49 1 4 v3) (fun σ54 => some (1, σ54))) else (fX10_readNumber_b88 n σ49))) else (fX10_readNumber_b69 n σ49))))
set_option maxRecDepth 100000 in
theorem tX10_readNumber_b54 (hE : gEX l dC dI ad ca X) {r0 : Int32} {σ' : gM} (n : Nat) (v1 : Int32) (v2 : Int32) (v3 : Int32) (v4 : Int32)  (σ : gM) (h : fX10_readNumber_b54 n v1 v2 v3 v4 σ = some (r0, σ')) : g_G l dC dI ad ca shX X cX10_readNumber 5 RX10 (some .boolean) (gR 1) (some (.int r0)) σ' 54 [(0, .ref 1), (1, .int v1), (2, .int v2), (3, .int v3), (4, .int v4)] [] σ := by
  unfold fX10_readNumber_b54 at h
  refine g_iload (pc := 54) dX10_readNumber_54 4 rfl ?_
  refine g_if_eq (pc := 56) (tgt := 69) dX10_readNumber_56 (by decide) (fun c44 => ?_) (fun c44 => ?_)
  · have h := g_ift c44 h
    exact g_lv [0] rfl (tX10_readNumber_b69 hE n σ h)
  · have h := g_iff c44 h
    refine g_aload_n (pc := 59) dX10_readNumber_59 rfl 0 rfl ?_
    obtain ⟨r47, σ46, h45, h⟩ := g_bId h
    refine g_callVi (pc := 60) (st := []) hE.1 wvX10_56 rfl rfl (kX10_sign hE σ h45) rfl (gR_ok (by decide) (by decide)) (Nat.le_of_ble_eq_true rfl) rfl dX10_readNumber_60 ?_
    obtain ⟨r50, σ49, h48, h⟩ := g_bId h
    refine g_callSi (pc := 63) (st := []) hE.1 wsX10_119 (kX10_isDigit hE r47 σ46 h48) rfl (gR_ok (by decide) (by decide)) (Nat.le_of_ble_eq_true rfl) rfl dX10_readNumber_63 ?_
    refine g_if_eq (pc := 66) (tgt := 78) dX10_readNumber_66 (by decide) (fun c51 => ?_) (fun c51 => ?_)
    · have h := g_ift c51 h
      refine g_iload_n (pc := 78) dX10_readNumber_78 rfl 3 rfl ?_
      refine g_iload_n (pc := 79) dX10_readNumber_79 rfl 1 rfl ?_
      refine g_icmp_lt (pc := 80) (tgt := 88) dX10_readNumber_80 (by decide) (fun c52 => ?_) (fun c52 => ?_)
      · have h := g_ift c52 h
        exact g_lv [0] rfl (tX10_readNumber_b88 hE n σ49 h)
      · have h := g_iff c52 h
        refine g_iload_n (pc := 83) dX10_readNumber_83 rfl 3 rfl ?_
        refine g_iload_n (pc := 84) dX10_readNumber_84 rfl 2 rfl ?_
        refine g_icmp_le (pc := 85) (tgt := 99) dX10_readNumber_85 (by decide) (fun c53 => ?_) (fun c53 => ?_)
        · have h := g_ift c53 h
          refine g_aload_n (pc := 99) dX10_readNumber_99 rfl 0 rfl ?_
          refine g_iload_n (pc := 100) dX10_readNumber_100 rfl 3 rfl ?_
          obtain ⟨σ54, e55, h⟩ := g_ltd h
          refine g_putI (pc := 101) wfX10_25 rfl rfl rfl rfl e55 dX10_readNumber_101 ?_
          refine g_iconst (pc := 104) (v := 1) dX10_readNumber_104 (by decide) ?_
          cases h
          exact g_iret (pc := 105) rfl (by decide) rfl rfl dX10_readNumber_105
        · have h := g_iff c53 h
          exact g_lv [0] rfl (tX10_readNumber_b88 hE n σ49 h)
    · have h := g_iff c51 h
      exact g_lv [0] rfl (tX10_readNumber_b69 hE n σ49 h)
def fX10_readNumber_b9 (n : Nat) (K9 : Int32 → Int32 → Int32 → Int32 → gM → Option (Int32 × gM)) (v1 : Int32) (v2 : Int32) (v3 : Int32) (v4 : Int32) (σ : gM) : Option (Int32 × gM) := if 3 ≤ v4 then (fX10_readNumber_b54 n v1 v2 v3 v4 σ) else (g_bI (fX10_sign σ) (fun r59 σ58 => g_bI (fX10_isDigit r59 σ58) (fun r62 σ61 => if r62 = 0 then (fX10_readNumber_b54 n v1 v2 v3 v4 σ61) else (g_bI (fX10_sign σ61) (fun r66 σ65 => g_let (g_put σ65 1 2 ((σ65.1 1 2) + 1)) (fun σ67 => K9 v1 v2 (((10 * v3) + r66) - 48) (v4 + 1) σ67))))))
set_option maxRecDepth 100000 in
theorem tX10_readNumber_b9 (hE : gEX l dC dI ad ca X) {r0 : Int32} {σ' : gM} (n : Nat) (K9 : Int32 → Int32 → Int32 → Int32 → gM → Option (Int32 × gM)) (hK9 : ∀ (v1 : Int32) (v2 : Int32) (v3 : Int32) (v4 : Int32) (σ : gM), K9 v1 v2 v3 v4 σ = some (r0, σ') → g_G l dC dI ad ca shX X cX10_readNumber 5 RX10 (some .boolean) (gR 1) (some (.int r0)) σ' 9 [(0, .ref 1), (1, .int v1), (2, .int v2), (3, .int v3), (4, .int v4)] [] σ) (v1 : Int32) (v2 : Int32) (v3 : Int32) (v4 : Int32)  (σ : gM) (h : fX10_readNumber_b9 n K9 v1 v2 v3 v4 σ = some (r0, σ')) : g_G l dC dI ad ca shX X cX10_readNumber 5 RX10 (some .boolean) (gR 1) (some (.int r0)) σ' 9 [(0, .ref 1), (1, .int v1), (2, .int v2), (3, .int v3), (4, .int v4)] [] σ := by
  unfold fX10_readNumber_b9 at h
  refine g_iload (pc := 9) dX10_readNumber_9 4 rfl ?_
  refine g_iconst (pc := 11) (v := 3) dX10_readNumber_11 (by decide) ?_
  refine g_icmp_ge (pc := 12) (tgt := 54) dX10_readNumber_12 (by decide) (fun c56 => ?_) (fun c56 => ?_)
  · have h := g_ift c56 h
    exact g_lv [0, 1, 2, 3, 4] rfl (tX10_readNumber_b54 hE n v1 v2 v3 v4 σ h)
  · have h := g_iff c56 h
    refine g_aload_n (pc := 15) dX10_readNumber_15 rfl 0 rfl ?_
    obtain ⟨r59, σ58, h57, h⟩ := g_bId h
    refine g_callVi (pc := 16) (st := []) hE.1 wvX10_56 rfl rfl (kX10_sign hE σ h57) rfl (gR_ok (by decide) (by decide)) (Nat.le_of_ble_eq_true rfl) rfl dX10_readNumber_16 ?_
    obtain ⟨r62, σ61, h60, h⟩ := g_bId h
    refine g_callSi (pc := 19) (st := []) hE.1 wsX10_119 (kX10_isDigit hE r59 σ58 h60) rfl (gR_ok (by decide) (by decide)) (Nat.le_of_ble_eq_true rfl) rfl dX10_readNumber_19 ?_
    refine g_if_eq (pc := 22) (tgt := 54) dX10_readNumber_22 (by decide) (fun c63 => ?_) (fun c63 => ?_)
    · have h := g_ift c63 h
      exact g_lv [0, 1, 2, 3, 4] rfl (tX10_readNumber_b54 hE n v1 v2 v3 v4 σ61 h)
    · have h := g_iff c63 h
      refine g_bipush (pc := 25) (v := 10) dX10_readNumber_25 (by decide) ?_
      refine g_iload_n (pc := 27) dX10_readNumber_27 rfl 3 rfl ?_
      refine g_imul (pc := 28) dX10_readNumber_28 ?_
      refine g_aload_n (pc := 29) dX10_readNumber_29 rfl 0 rfl ?_
      obtain ⟨r66, σ65, h64, h⟩ := g_bId h
      refine g_callVi (pc := 30) (st := [.int (10 * v3)]) hE.1 wvX10_56 rfl rfl (kX10_sign hE σ61 h64) rfl (gR_ok (by decide) (by decide)) (Nat.le_of_ble_eq_true rfl) rfl dX10_readNumber_30 ?_
      refine g_iadd (pc := 33) dX10_readNumber_33 ?_
      refine g_bipush (pc := 34) (v := 48) dX10_readNumber_34 (by decide) ?_
      refine g_isub (pc := 36) dX10_readNumber_36 ?_
      refine g_istore_n (pc := 37) (lv1 := [(3, .int (((10 * v3) + r66) - 48)), (0, .ref 1), (1, .int v1), (2, .int v2), (4, .int v4)]) dX10_readNumber_37 rfl (by decide) rfl ?_
      refine g_iinc (pc := 38) (v := v4 + 1) (lv1 := [(4, .int (v4 + 1)), (3, .int (((10 * v3) + r66) - 48)), (0, .ref 1), (1, .int v1), (2, .int v2)]) dX10_readNumber_38 4 rfl rfl (by decide) rfl ?_
      refine g_aload_n (pc := 41) dX10_readNumber_41 rfl 2 rfl ?_
      refine g_dup (pc := 42) dX10_readNumber_42 rfl ?_
      refine g_getI (pc := 43) wfX10_19 rfl rfl dX10_readNumber_43 ?_
      refine g_iconst (pc := 46) (v := 1) dX10_readNumber_46 (by decide) ?_
      refine g_iadd (pc := 47) dX10_readNumber_47 ?_
      obtain ⟨σ67, e68, h⟩ := g_ltd h
      refine g_putI (pc := 48) wfX10_19 rfl rfl rfl rfl e68 dX10_readNumber_48 ?_
      refine g_goto (pc := 51) (tgt := 9) dX10_readNumber_51 (by decide) ?_
      exact g_lv [2, 3, 4, 1, 0] rfl (hK9 v1 v2 (((10 * v3) + r66) - 48) (v4 + 1) σ67 h)
def fX10_readNumber_L9 (n : Nat) : Nat → Int32 → Int32 → Int32 → Int32 → gM → Option (Int32 × gM)
  | 0 => fun _ _ _ _ _ => none
  | k + 1 => fX10_readNumber_b9 n (fX10_readNumber_L9 n k)
theorem tX10_readNumber_L9 (hE : gEX l dC dI ad ca X) {r0 : Int32} {σ' : gM} (n : Nat)  : ∀ (k : Nat) (v1 : Int32) (v2 : Int32) (v3 : Int32) (v4 : Int32) (σ : gM), fX10_readNumber_L9 n k v1 v2 v3 v4 σ = some (r0, σ') → g_G l dC dI ad ca shX X cX10_readNumber 5 RX10 (some .boolean) (gR 1) (some (.int r0)) σ' 9 [(0, .ref 1), (1, .int v1), (2, .int v2), (3, .int v3), (4, .int v4)] [] σ := by
  intro k
  induction k with
  | zero => intro v1 v2 v3 v4 σ h; cases h
  | succ k ih => intro v1 v2 v3 v4 σ h; exact tX10_readNumber_b9 hE n (fX10_readNumber_L9 n k) ih v1 v2 v3 v4 σ h
def fX10_readNumber (n : Nat) (v1 : Int32) (v2 : Int32) (σ : gM) : Option (Int32 × gM) := g_bV (fX10_skipBlanks n σ) (fun σ70 => fX10_readNumber_L9 n n v1 v2 0 0 σ70)
set_option maxRecDepth 100000 in
theorem kX10_readNumber (hE : gEX l dC dI ad ca X) (n : Nat)  (v1 : Int32) (v2 : Int32) (σ : gM) {r0 : Int32} {σ' : gM} (h : fX10_readNumber n v1 v2 σ = some (r0, σ')) : g_C l dC dI ad ca shX X yX10_readNumber cX10_readNumber 5 (some .boolean) (gR 1) [.ref 1, .int v1, .int v2] σ (some (.int r0)) σ' := by
  refine g_entry (by decide +kernel) (Nat.le_of_ble_eq_true rfl) ?_
  refine g_lvE (lv1 := [(0, .ref 1), (1, .int v1), (2, .int v2)]) rfl ?_
  unfold fX10_readNumber at h
  refine g_aload_n (pc := 0) dX10_readNumber_0 rfl 0 rfl ?_
  obtain ⟨σ70, h69, h⟩ := g_bVd h
  refine g_callVv (pc := 1) (st := []) hE.1 wvX10_60 rfl rfl (kX10_skipBlanks hE n σ h69) rfl (gR_ok (by decide) (by decide)) (Nat.le_of_ble_eq_true rfl) rfl dX10_readNumber_1 ?_
  refine g_iconst (pc := 4) (v := 0) dX10_readNumber_4 (by decide) ?_
  refine g_istore_n (pc := 5) (lv1 := [(3, .int 0), (0, .ref 1), (1, .int v1), (2, .int v2)]) dX10_readNumber_5 rfl (by decide) rfl ?_
  refine g_iconst (pc := 6) (v := 0) dX10_readNumber_6 (by decide) ?_
  refine g_istore (pc := 7) (lv1 := [(4, .int 0), (3, .int 0), (0, .ref 1), (1, .int v1), (2, .int v2)]) dX10_readNumber_7 (by decide) rfl ?_
  exact g_lv [2, 3, 4, 1, 0] rfl (tX10_readNumber_L9 hE n n v1 v2 0 0 σ70 h)
def fX10_readItems_b80 (n : Nat) (σ : gM) : Option (Int32 × gM) := g_bI (fX10_wrong (σ.1 1 2) σ) (fun r41 σ40 => if r41 &&& 1 = r41 then (some (r41, σ40)) else none)
set_option maxRecDepth 100000 in
theorem tX10_readItems_b80 (hE : gEX l dC dI ad ca X) {r0 : Int32} {σ' : gM} (n : Nat)  (σ : gM) (h : fX10_readItems_b80 n σ = some (r0, σ')) : g_G l dC dI ad ca shX X cX10_readItems 6 RX10 (some .boolean) (gR 6) (some (.int r0)) σ' 80 [(0, .ref 1)] [] σ := by
  unfold fX10_readItems_b80 at h
  refine g_aload_n (pc := 80) dX10_readItems_80 rfl 0 rfl ?_
  refine g_aload_n (pc := 81) dX10_readItems_81 rfl 0 rfl ?_
  refine g_getI (pc := 82) wfX10_19 rfl rfl dX10_readItems_82 ?_
  obtain ⟨r41, σ40, h39, h⟩ := g_bId h
  refine g_callVi (pc := 85) (st := []) hE.1 wvX10_67 rfl rfl (kX10_wrong hE (σ.1 1 2) σ h39) rfl (gR_ok (by decide) (by decide)) (Nat.le_of_ble_eq_true rfl) rfl dX10_readItems_85 ?_
  obtain ⟨c42, h⟩ := g_gd h
  cases h
  exact g_iret (pc := 88) rfl (g_nb c42) rfl rfl dX10_readItems_88
def fX10_readItems_b5 (n : Nat) (K5 : Int32 → Int32 → Int32 → Int32 → gM → Option (Int32 × gM)) (v1 : Int32) (v2 : Int32) (v3 : Int32) (v4 : Int32) (σ : gM) : Option (Int32 × gM) := if 280 < v4 then (g_bI (fX10_wrong (σ.1 1 2) σ) (fun r46 σ45 => if r46 &&& 1 = r46 then (some (r46, σ45)) else none)) else (g_bV (fX10_skipBlanks n σ) (fun σ49 => g_bI (fX10_sign σ49) (fun r52 σ51 => if r52 = 0 then (some (1, σ51)) else (g_bI (fX10_sign σ51) (fun r56 σ55 => if r56 = 59 then (some (1, σ55)) else (g_bI (fX10_sign σ55) (fun r60 σ59 => if (xIx 0 ((r60.toUInt32 % 65536).toInt32)) < 0 then (fX10_readItems_b80 n σ59) else (if (xIx 0 ((r60.toUInt32 % 65536).toInt32)) < v1 then (fX10_readItems_b80 n σ59) else (if v2 < (xIx 0 ((r60.toUInt32 % 65536).toInt32)) then (fX10_readItems_b80 n σ59) else (if 7 ≤ (xIx 0 ((r60.toUInt32 % 65536).toInt32)) then (fX10_readItems_b80 n σ59) else (if ((v3 >>> ((xIx 0 ((r60.toUInt32 % 65536).toInt32)) &&& 31)) &&& 1) = 0 then (g_let (g_put σ59 1 2 ((σ59.1 1 2) + 1)) (fun σ66 => if ¬ ((xIx 0 ((r60.toUInt32 % 65536).toInt32)) < 0 ∨ 7 ≤ (xIx 0 ((r60.toUInt32 % 65536).toInt32)).toNatClampNeg) then (if ¬ ((xIx 0 ((r60.toUInt32 % 65536).toInt32)) < 0 ∨ 7 ≤ (xIx 0 ((r60.toUInt32 % 65536).toInt32)).toNatClampNeg) then (g_bI (fX10_readNumber n (([2, 1, 1, 0, 0, 0, 0] : List Int32).getD ((xIx 0 ((r60.toUInt32 % 65536).toInt32)).toNatClampNeg) 0) (([6, 12, 4, 3, 9, 287, 255] : List Int32).getD ((xIx 0 ((r60.toUInt32 % 65536).toInt32)).toNatClampNeg) 0) σ66) (fun r72 σ71 => if r72 = 0 then (some (0, σ71)) else (if ¬ ((xIx 0 ((r60.toUInt32 % 65536).toInt32)) < 0 ∨ 7 ≤ (xIx 0 ((r60.toUInt32 % 65536).toInt32)).toNatClampNeg) then (g_let (g_put σ71 3 ((xIx 0 ((r60.toUInt32 % 65536).toInt32)).toNatClampNeg) (σ71.1 1 4)) (fun σ75 => K5 v1 v2 (v3 ||| (1 <<< ((xIx 0 ((r60.toUInt32 % 65536).toInt32)) &&& 31))) (v4 + 1) σ75)) else none))) else none) else none)) else (fX10_readItems_b80 n σ59))))))))))))
set_option maxRecDepth 100000 in
theorem tX10_readItems_b5 (hE : gEX l dC dI ad ca X) {r0 : Int32} {σ' : gM} (n : Nat) (K5 : Int32 → Int32 → Int32 → Int32 → gM → Option (Int32 × gM)) (hK5 : ∀ (v1 : Int32) (v2 : Int32) (v3 : Int32) (v4 : Int32) (σ : gM), K5 v1 v2 v3 v4 σ = some (r0, σ') → g_G l dC dI ad ca shX X cX10_readItems 6 RX10 (some .boolean) (gR 6) (some (.int r0)) σ' 5 [(0, .ref 1), (1, .int v1), (2, .int v2), (3, .int v3), (4, .int v4)] [] σ) (v1 : Int32) (v2 : Int32) (v3 : Int32) (v4 : Int32)  (σ : gM) (h : fX10_readItems_b5 n K5 v1 v2 v3 v4 σ = some (r0, σ')) : g_G l dC dI ad ca shX X cX10_readItems 6 RX10 (some .boolean) (gR 6) (some (.int r0)) σ' 5 [(0, .ref 1), (1, .int v1), (2, .int v2), (3, .int v3), (4, .int v4)] [] σ := by
  unfold fX10_readItems_b5 at h
  refine g_iload (pc := 5) dX10_readItems_5 4 rfl ?_
  refine g_sipush (pc := 7) (v := 280) dX10_readItems_7 (by decide) ?_
  refine g_icmp_gt (pc := 10) (tgt := 144) dX10_readItems_10 (by decide) (fun c43 => ?_) (fun c43 => ?_)
  · have h := g_ift c43 h
    refine g_aload_n (pc := 144) dX10_readItems_144 rfl 0 rfl ?_
    refine g_aload_n (pc := 145) dX10_readItems_145 rfl 0 rfl ?_
    refine g_getI (pc := 146) wfX10_19 rfl rfl dX10_readItems_146 ?_
    obtain ⟨r46, σ45, h44, h⟩ := g_bId h
    refine g_callVi (pc := 149) (st := []) hE.1 wvX10_67 rfl rfl (kX10_wrong hE (σ.1 1 2) σ h44) rfl (gR_ok (by decide) (by decide)) (Nat.le_of_ble_eq_true rfl) rfl dX10_readItems_149 ?_
    obtain ⟨c47, h⟩ := g_gd h
    cases h
    exact g_iret (pc := 152) rfl (g_nb c47) rfl rfl dX10_readItems_152
  · have h := g_iff c43 h
    refine g_aload_n (pc := 13) dX10_readItems_13 rfl 0 rfl ?_
    obtain ⟨σ49, h48, h⟩ := g_bVd h
    refine g_callVv (pc := 14) (st := []) hE.1 wvX10_60 rfl rfl (kX10_skipBlanks hE n σ h48) rfl (gR_ok (by decide) (by decide)) (Nat.le_of_ble_eq_true rfl) rfl dX10_readItems_14 ?_
    refine g_aload_n (pc := 17) dX10_readItems_17 rfl 0 rfl ?_
    obtain ⟨r52, σ51, h50, h⟩ := g_bId h
    refine g_callVi (pc := 18) (st := []) hE.1 wvX10_56 rfl rfl (kX10_sign hE σ49 h50) rfl (gR_ok (by decide) (by decide)) (Nat.le_of_ble_eq_true rfl) rfl dX10_readItems_18 ?_
    refine g_if_eq (pc := 21) (tgt := 33) dX10_readItems_21 (by decide) (fun c53 => ?_) (fun c53 => ?_)
    · have h := g_ift c53 h
      refine g_iconst (pc := 33) (v := 1) dX10_readItems_33 (by decide) ?_
      cases h
      exact g_iret (pc := 34) rfl (by decide) rfl rfl dX10_readItems_34
    · have h := g_iff c53 h
      refine g_aload_n (pc := 24) dX10_readItems_24 rfl 0 rfl ?_
      obtain ⟨r56, σ55, h54, h⟩ := g_bId h
      refine g_callVi (pc := 25) (st := []) hE.1 wvX10_56 rfl rfl (kX10_sign hE σ51 h54) rfl (gR_ok (by decide) (by decide)) (Nat.le_of_ble_eq_true rfl) rfl dX10_readItems_25 ?_
      refine g_bipush (pc := 28) (v := 59) dX10_readItems_28 (by decide) ?_
      refine g_icmp_ne (pc := 30) (tgt := 35) dX10_readItems_30 (by decide) (fun c57 => ?_) (fun c57 => ?_)
      · have h := g_iff c57 h
        refine g_ldcS (pc := 35) (xkA hE 0 rfl) dX10_readItems_35 ?_
        refine g_aload_n (pc := 37) dX10_readItems_37 rfl 0 rfl ?_
        obtain ⟨r60, σ59, h58, h⟩ := g_bId h
        refine g_callVi (pc := 38) (st := [.ref (1010 + 0)]) hE.1 wvX10_56 rfl rfl (kX10_sign hE σ55 h58) rfl (gR_ok (by decide) (by decide)) (Nat.le_of_ble_eq_true rfl) rfl dX10_readItems_38 ?_
        refine g_i2c (pc := 41) dX10_readItems_41 ?_
        refine g_callVXi (pc := 42) (st := []) hE.1 wvX10_82 (xrA hE 0 rfl) (hE.2.2.2.2 0 ((r60.toUInt32 % 65536).toInt32) σ59 (by decide)) rfl (gR_ok (by decide) (by decide)) (Nat.le_of_ble_eq_true rfl) rfl dX10_readItems_42 ?_
        refine g_istore (pc := 45) (lv1 := [(5, .int (xIx 0 ((r60.toUInt32 % 65536).toInt32))), (0, .ref 1), (1, .int v1), (2, .int v2), (3, .int v3), (4, .int v4)]) dX10_readItems_45 (by decide) rfl ?_
        refine g_iload (pc := 47) dX10_readItems_47 0 rfl ?_
        refine g_if_lt (pc := 49) (tgt := 80) dX10_readItems_49 (by decide) (fun c61 => ?_) (fun c61 => ?_)
        · have h := g_ift c61 h
          exact g_lv [1] rfl (tX10_readItems_b80 hE n σ59 h)
        · have h := g_iff c61 h
          refine g_iload (pc := 52) dX10_readItems_52 0 rfl ?_
          refine g_iload_n (pc := 54) dX10_readItems_54 rfl 2 rfl ?_
          refine g_icmp_lt (pc := 55) (tgt := 80) dX10_readItems_55 (by decide) (fun c62 => ?_) (fun c62 => ?_)
          · have h := g_ift c62 h
            exact g_lv [1] rfl (tX10_readItems_b80 hE n σ59 h)
          · have h := g_iff c62 h
            refine g_iload (pc := 58) dX10_readItems_58 0 rfl ?_
            refine g_iload_n (pc := 60) dX10_readItems_60 rfl 3 rfl ?_
            refine g_icmp_gt (pc := 61) (tgt := 80) dX10_readItems_61 (by decide) (fun c63 => ?_) (fun c63 => ?_)
            · have h := g_ift c63 h
              exact g_lv [1] rfl (tX10_readItems_b80 hE n σ59 h)
            · have h := g_iff c63 h
              refine g_iload (pc := 64) dX10_readItems_64 0 rfl ?_
              refine g_bipush (pc := 66) (v := 7) dX10_readItems_66 (by decide) ?_
              refine g_icmp_ge (pc := 68) (tgt := 80) dX10_readItems_68 (by decide) (fun c64 => ?_) (fun c64 => ?_)
              · have h := g_ift c64 h
                exact g_lv [1] rfl (tX10_readItems_b80 hE n σ59 h)
              · have h := g_iff c64 h
                refine g_iload_n (pc := 71) dX10_readItems_71 rfl 4 rfl ?_
                refine g_iload (pc := 72) dX10_readItems_72 0 rfl ?_
                refine g_ishr (pc := 74) dX10_readItems_74 ?_
                refine g_iconst (pc := 75) (v := 1) dX10_readItems_75 (by decide) ?_
                refine g_iand (pc := 76) dX10_readItems_76 ?_
                refine g_if_eq (pc := 77) (tgt := 89) dX10_readItems_77 (by decide) (fun c65 => ?_) (fun c65 => ?_)
                · have h := g_ift c65 h
                  refine g_iload_n (pc := 89) dX10_readItems_89 rfl 4 rfl ?_
                  refine g_iconst (pc := 90) (v := 1) dX10_readItems_90 (by decide) ?_
                  refine g_iload (pc := 91) dX10_readItems_91 0 rfl ?_
                  refine g_ishl (pc := 93) dX10_readItems_93 ?_
                  refine g_ior (pc := 94) dX10_readItems_94 ?_
                  refine g_istore_n (pc := 95) (lv1 := [(3, .int (v3 ||| (1 <<< ((xIx 0 ((r60.toUInt32 % 65536).toInt32)) &&& 31)))), (5, .int (xIx 0 ((r60.toUInt32 % 65536).toInt32))), (0, .ref 1), (1, .int v1), (2, .int v2), (4, .int v4)]) dX10_readItems_95 rfl (by decide) rfl ?_
                  refine g_aload_n (pc := 96) dX10_readItems_96 rfl 2 rfl ?_
                  refine g_dup (pc := 97) dX10_readItems_97 rfl ?_
                  refine g_getI (pc := 98) wfX10_19 rfl rfl dX10_readItems_98 ?_
                  refine g_iconst (pc := 101) (v := 1) dX10_readItems_101 (by decide) ?_
                  refine g_iadd (pc := 102) dX10_readItems_102 ?_
                  obtain ⟨σ66, e67, h⟩ := g_ltd h
                  refine g_putI (pc := 103) wfX10_19 rfl rfl rfl rfl e67 dX10_readItems_103 ?_
                  refine g_aload_n (pc := 106) dX10_readItems_106 rfl 2 rfl ?_
                  refine g_gets (pc := 107) (xzA hE 0 rfl) wgX10_88 dX10_readItems_107 ?_
                  refine g_iload (pc := 110) dX10_readItems_110 1 rfl ?_
                  obtain ⟨c68, h⟩ := g_gd h
                  refine g_ti (pc := 112) (xtA hE 0 rfl) c68 rfl dX10_readItems_112 ?_
                  refine g_gets (pc := 113) (xzA hE 1 rfl) wgX10_91 dX10_readItems_113 ?_
                  refine g_iload (pc := 116) dX10_readItems_116 1 rfl ?_
                  obtain ⟨c69, h⟩ := g_gd h
                  refine g_ti (pc := 118) (xtA hE 1 rfl) c69 rfl dX10_readItems_118 ?_
                  obtain ⟨r72, σ71, h70, h⟩ := g_bId h
                  refine g_callVi (pc := 119) (st := []) hE.1 wvX10_94 rfl rfl (kX10_readNumber hE n (([2, 1, 1, 0, 0, 0, 0] : List Int32).getD ((xIx 0 ((r60.toUInt32 % 65536).toInt32)).toNatClampNeg) 0) (([6, 12, 4, 3, 9, 287, 255] : List Int32).getD ((xIx 0 ((r60.toUInt32 % 65536).toInt32)).toNatClampNeg) 0) σ66 h70) rfl (gR_ok (by decide) (by decide)) (Nat.le_of_ble_eq_true rfl) rfl dX10_readItems_119 ?_
                  refine g_if_ne (pc := 122) (tgt := 127) dX10_readItems_122 (by decide) (fun c73 => ?_) (fun c73 => ?_)
                  · have h := g_iff c73 h
                    refine g_aload_n (pc := 127) dX10_readItems_127 rfl 2 rfl ?_
                    refine g_getR (pc := 128) wfX10_28 rfl rfl dX10_readItems_128 ?_
                    refine g_iload (pc := 131) dX10_readItems_131 1 rfl ?_
                    refine g_aload_n (pc := 133) dX10_readItems_133 rfl 2 rfl ?_
                    refine g_getI (pc := 134) wfX10_25 rfl rfl dX10_readItems_134 ?_
                    obtain ⟨c74, h⟩ := g_gd h
                    obtain ⟨σ75, e76, h⟩ := g_ltd h
                    refine g_iast (pc := 137) rfl c74 rfl e76 dX10_readItems_137 ?_
                    refine g_iinc (pc := 138) (v := v4 + 1) (lv1 := [(4, .int (v4 + 1)), (3, .int (v3 ||| (1 <<< ((xIx 0 ((r60.toUInt32 % 65536).toInt32)) &&& 31)))), (5, .int (xIx 0 ((r60.toUInt32 % 65536).toInt32))), (0, .ref 1), (1, .int v1), (2, .int v2)]) dX10_readItems_138 5 rfl rfl (by decide) rfl ?_
                    refine g_goto (pc := 141) (tgt := 5) dX10_readItems_141 (by decide) ?_
                    exact g_lv [3, 4, 5, 1, 0] rfl (hK5 v1 v2 (v3 ||| (1 <<< ((xIx 0 ((r60.toUInt32 % 65536).toInt32)) &&& 31))) (v4 + 1) σ75 h)
                  · have h := g_ift c73 h
                    refine g_iconst (pc := 125) (v := 0) dX10_readItems_125 (by decide) ?_
                    cases h
                    exact g_iret (pc := 126) rfl (by decide) rfl rfl dX10_readItems_126
                · have h := g_iff c65 h
                  exact g_lv [1] rfl (tX10_readItems_b80 hE n σ59 h)
      · have h := g_ift c57 h
        refine g_iconst (pc := 33) (v := 1) dX10_readItems_33 (by decide) ?_
        cases h
        exact g_iret (pc := 34) rfl (by decide) rfl rfl dX10_readItems_34
def fX10_readItems_L5 (n : Nat) : Nat → Int32 → Int32 → Int32 → Int32 → gM → Option (Int32 × gM)
  | 0 => fun _ _ _ _ _ => none
  | k + 1 => fX10_readItems_b5 n (fX10_readItems_L5 n k)
theorem tX10_readItems_L5 (hE : gEX l dC dI ad ca X) {r0 : Int32} {σ' : gM} (n : Nat)  : ∀ (k : Nat) (v1 : Int32) (v2 : Int32) (v3 : Int32) (v4 : Int32) (σ : gM), fX10_readItems_L5 n k v1 v2 v3 v4 σ = some (r0, σ') → g_G l dC dI ad ca shX X cX10_readItems 6 RX10 (some .boolean) (gR 6) (some (.int r0)) σ' 5 [(0, .ref 1), (1, .int v1), (2, .int v2), (3, .int v3), (4, .int v4)] [] σ := by
  intro k
  induction k with
  | zero => intro v1 v2 v3 v4 σ h; cases h
  | succ k ih => intro v1 v2 v3 v4 σ h; exact tX10_readItems_b5 hE n (fX10_readItems_L5 n k) ih v1 v2 v3 v4 σ h
def fX10_readItems (n : Nat) (v1 : Int32) (v2 : Int32) (σ : gM) : Option (Int32 × gM) := fX10_readItems_L5 n n v1 v2 0 0 σ
set_option maxRecDepth 100000 in
theorem kX10_readItems (hE : gEX l dC dI ad ca X) (n : Nat)  (v1 : Int32) (v2 : Int32) (σ : gM) {r0 : Int32} {σ' : gM} (h : fX10_readItems n v1 v2 σ = some (r0, σ')) : g_C l dC dI ad ca shX X yX10_readItems cX10_readItems 6 (some .boolean) (gR 6) [.ref 1, .int v1, .int v2] σ (some (.int r0)) σ' := by
  refine g_entry (by decide +kernel) (Nat.le_of_ble_eq_true rfl) ?_
  refine g_lvE (lv1 := [(0, .ref 1), (1, .int v1), (2, .int v2)]) rfl ?_
  unfold fX10_readItems at h
  refine g_iconst (pc := 0) (v := 0) dX10_readItems_0 (by decide) ?_
  refine g_istore_n (pc := 1) (lv1 := [(3, .int 0), (0, .ref 1), (1, .int v1), (2, .int v2)]) dX10_readItems_1 rfl (by decide) rfl ?_
  refine g_iconst (pc := 2) (v := 0) dX10_readItems_2 (by decide) ?_
  refine g_istore (pc := 3) (lv1 := [(4, .int 0), (3, .int 0), (0, .ref 1), (1, .int v1), (2, .int v2)]) dX10_readItems_3 (by decide) rfl ?_
  exact g_lv [2, 3, 4, 1, 0] rfl (tX10_readItems_L5 hE n n v1 v2 0 0 σ h)
def fX10_clause_b67 (n : Nat) (σ : gM) : Option (Int32 × gM) := g_bI (fX10_wrong (σ.1 1 2) σ) (fun r44 σ43 => if r44 &&& 1 = r44 then (some (r44, σ43)) else none)
set_option maxRecDepth 100000 in
theorem tX10_clause_b67 (hE : gEX l dC dI ad ca X) {r0 : Int32} {σ' : gM} (n : Nat)  (σ : gM) (h : fX10_clause_b67 n σ = some (r0, σ')) : g_G l dC dI ad ca shX X cX10_clause 1 RX10 (some .boolean) (gR 7) (some (.int r0)) σ' 67 [(0, .ref 1)] [] σ := by
  unfold fX10_clause_b67 at h
  refine g_aload_n (pc := 67) dX10_clause_67 rfl 0 rfl ?_
  refine g_aload_n (pc := 68) dX10_clause_68 rfl 0 rfl ?_
  refine g_getI (pc := 69) wfX10_19 rfl rfl dX10_clause_69 ?_
  obtain ⟨r44, σ43, h42, h⟩ := g_bId h
  refine g_callVi (pc := 72) (st := []) hE.1 wvX10_67 rfl rfl (kX10_wrong hE (σ.1 1 2) σ h42) rfl (gR_ok (by decide) (by decide)) (Nat.le_of_ble_eq_true rfl) rfl dX10_clause_72 ?_
  obtain ⟨c45, h⟩ := g_gd h
  cases h
  exact g_iret (pc := 75) rfl (g_nb c45) rfl rfl dX10_clause_75
def fX10_clause_b42 (n : Nat) (σ : gM) : Option (Int32 × gM) := g_bI (fX10_sign σ) (fun r48 σ47 => if r48 = 118 then (if (σ47.1 1 7) < 0 then (fX10_clause_b67 n σ47) else (if (σ47.1 1 7) < 16 then (g_let (g_put σ47 1 2 ((σ47.1 1 2) + 1)) (fun σ52 => g_bV (fX10_useDefaults n 5 6 σ52) (fun σ55 => g_bI (fX10_readItems n 5 6 σ55) (fun r58 σ57 => if r58 = 0 then (some (0, σ57)) else (if ¬ ((2 * (σ57.1 1 7)) < 0 ∨ 32 ≤ (2 * (σ57.1 1 7)).toNatClampNeg) then (g_let (g_put σ57 4 ((2 * (σ57.1 1 7)).toNatClampNeg) (σ57.1 3 5)) (fun σ61 => if ¬ (((2 * (σ61.1 1 7)) + 1) < 0 ∨ 32 ≤ ((2 * (σ61.1 1 7)) + 1).toNatClampNeg) then (g_let (g_put σ61 4 (((2 * (σ61.1 1 7)) + 1).toNatClampNeg) (σ61.1 3 6)) (fun σ64 => g_let (g_put σ64 1 7 ((σ64.1 1 7) + 1)) (fun σ66 => some (1, σ66)))) else none)) else none))))) else (fX10_clause_b67 n σ47))) else (fX10_clause_b67 n σ47))
set_option maxRecDepth 100000 in
theorem tX10_clause_b42 (hE : gEX l dC dI ad ca X) {r0 : Int32} {σ' : gM} (n : Nat)  (σ : gM) (h : fX10_clause_b42 n σ = some (r0, σ')) : g_G l dC dI ad ca shX X cX10_clause 1 RX10 (some .boolean) (gR 7) (some (.int r0)) σ' 42 [(0, .ref 1)] [] σ := by
  unfold fX10_clause_b42 at h
  refine g_aload_n (pc := 42) dX10_clause_42 rfl 0 rfl ?_
  obtain ⟨r48, σ47, h46, h⟩ := g_bId h
  refine g_callVi (pc := 43) (st := []) hE.1 wvX10_56 rfl rfl (kX10_sign hE σ h46) rfl (gR_ok (by decide) (by decide)) (Nat.le_of_ble_eq_true rfl) rfl dX10_clause_43 ?_
  refine g_bipush (pc := 46) (v := 118) dX10_clause_46 (by decide) ?_
  refine g_icmp_ne (pc := 48) (tgt := 67) dX10_clause_48 (by decide) (fun c49 => ?_) (fun c49 => ?_)
  · have h := g_iff c49 h
    exact g_lv [0] rfl (tX10_clause_b67 hE n σ47 h)
  · have h := g_ift c49 h
    refine g_aload_n (pc := 51) dX10_clause_51 rfl 0 rfl ?_
    refine g_getI (pc := 52) wfX10_34 rfl rfl dX10_clause_52 ?_
    refine g_if_lt (pc := 55) (tgt := 67) dX10_clause_55 (by decide) (fun c50 => ?_) (fun c50 => ?_)
    · have h := g_ift c50 h
      exact g_lv [0] rfl (tX10_clause_b67 hE n σ47 h)
    · have h := g_iff c50 h
      refine g_aload_n (pc := 58) dX10_clause_58 rfl 0 rfl ?_
      refine g_getI (pc := 59) wfX10_34 rfl rfl dX10_clause_59 ?_
      refine g_bipush (pc := 62) (v := 16) dX10_clause_62 (by decide) ?_
      refine g_icmp_lt (pc := 64) (tgt := 76) dX10_clause_64 (by decide) (fun c51 => ?_) (fun c51 => ?_)
      · have h := g_ift c51 h
        refine g_aload_n (pc := 76) dX10_clause_76 rfl 0 rfl ?_
        refine g_dup (pc := 77) dX10_clause_77 rfl ?_
        refine g_getI (pc := 78) wfX10_19 rfl rfl dX10_clause_78 ?_
        refine g_iconst (pc := 81) (v := 1) dX10_clause_81 (by decide) ?_
        refine g_iadd (pc := 82) dX10_clause_82 ?_
        obtain ⟨σ52, e53, h⟩ := g_ltd h
        refine g_putI (pc := 83) wfX10_19 rfl rfl rfl rfl e53 dX10_clause_83 ?_
        refine g_aload_n (pc := 86) dX10_clause_86 rfl 0 rfl ?_
        refine g_iconst (pc := 87) (v := 5) dX10_clause_87 (by decide) ?_
        refine g_bipush (pc := 88) (v := 6) dX10_clause_88 (by decide) ?_
        obtain ⟨σ55, h54, h⟩ := g_bVd h
        refine g_callVv (pc := 90) (st := []) hE.1 wvX10_48 rfl rfl (kX10_useDefaults hE n 5 6 σ52 h54) rfl (gR_ok (by decide) (by decide)) (Nat.le_of_ble_eq_true rfl) rfl dX10_clause_90 ?_
        refine g_aload_n (pc := 93) dX10_clause_93 rfl 0 rfl ?_
        refine g_iconst (pc := 94) (v := 5) dX10_clause_94 (by decide) ?_
        refine g_bipush (pc := 95) (v := 6) dX10_clause_95 (by decide) ?_
        obtain ⟨r58, σ57, h56, h⟩ := g_bId h
        refine g_callVi (pc := 97) (st := []) hE.1 wvX10_63 rfl rfl (kX10_readItems hE n 5 6 σ55 h56) rfl (gR_ok (by decide) (by decide)) (Nat.le_of_ble_eq_true rfl) rfl dX10_clause_97 ?_
        refine g_if_ne (pc := 100) (tgt := 105) dX10_clause_100 (by decide) (fun c59 => ?_) (fun c59 => ?_)
        · have h := g_iff c59 h
          refine g_aload_n (pc := 105) dX10_clause_105 rfl 0 rfl ?_
          refine g_getR (pc := 106) wfX10_31 rfl rfl dX10_clause_106 ?_
          refine g_iconst (pc := 109) (v := 2) dX10_clause_109 (by decide) ?_
          refine g_aload_n (pc := 110) dX10_clause_110 rfl 0 rfl ?_
          refine g_getI (pc := 111) wfX10_34 rfl rfl dX10_clause_111 ?_
          refine g_imul (pc := 114) dX10_clause_114 ?_
          refine g_aload_n (pc := 115) dX10_clause_115 rfl 0 rfl ?_
          refine g_getR (pc := 116) wfX10_28 rfl rfl dX10_clause_116 ?_
          refine g_iconst (pc := 119) (v := 5) dX10_clause_119 (by decide) ?_
          refine g_iald (pc := 120) rfl (by decide) (j := 5) (by decide) dX10_clause_120 ?_
          obtain ⟨c60, h⟩ := g_gd h
          obtain ⟨σ61, e62, h⟩ := g_ltd h
          refine g_iast (pc := 121) rfl c60 rfl e62 dX10_clause_121 ?_
          refine g_aload_n (pc := 122) dX10_clause_122 rfl 0 rfl ?_
          refine g_getR (pc := 123) wfX10_31 rfl rfl dX10_clause_123 ?_
          refine g_iconst (pc := 126) (v := 2) dX10_clause_126 (by decide) ?_
          refine g_aload_n (pc := 127) dX10_clause_127 rfl 0 rfl ?_
          refine g_getI (pc := 128) wfX10_34 rfl rfl dX10_clause_128 ?_
          refine g_imul (pc := 131) dX10_clause_131 ?_
          refine g_iconst (pc := 132) (v := 1) dX10_clause_132 (by decide) ?_
          refine g_iadd (pc := 133) dX10_clause_133 ?_
          refine g_aload_n (pc := 134) dX10_clause_134 rfl 0 rfl ?_
          refine g_getR (pc := 135) wfX10_28 rfl rfl dX10_clause_135 ?_
          refine g_bipush (pc := 138) (v := 6) dX10_clause_138 (by decide) ?_
          refine g_iald (pc := 140) rfl (by decide) (j := 6) (by decide) dX10_clause_140 ?_
          obtain ⟨c63, h⟩ := g_gd h
          obtain ⟨σ64, e65, h⟩ := g_ltd h
          refine g_iast (pc := 141) rfl c63 rfl e65 dX10_clause_141 ?_
          refine g_aload_n (pc := 142) dX10_clause_142 rfl 0 rfl ?_
          refine g_dup (pc := 143) dX10_clause_143 rfl ?_
          refine g_getI (pc := 144) wfX10_34 rfl rfl dX10_clause_144 ?_
          refine g_iconst (pc := 147) (v := 1) dX10_clause_147 (by decide) ?_
          refine g_iadd (pc := 148) dX10_clause_148 ?_
          obtain ⟨σ66, e67, h⟩ := g_ltd h
          refine g_putI (pc := 149) wfX10_34 rfl rfl rfl rfl e67 dX10_clause_149 ?_
          refine g_iconst (pc := 152) (v := 1) dX10_clause_152 (by decide) ?_
          cases h
          exact g_iret (pc := 153) rfl (by decide) rfl rfl dX10_clause_153
        · have h := g_ift c59 h
          refine g_iconst (pc := 103) (v := 0) dX10_clause_103 (by decide) ?_
          cases h
          exact g_iret (pc := 104) rfl (by decide) rfl rfl dX10_clause_104
      · have h := g_iff c51 h
        exact g_lv [0] rfl (tX10_clause_b67 hE n σ47 h)
def fX10_clause (n : Nat) (σ : gM) : Option (Int32 × gM) := g_bV (fX10_skipBlanks n σ) (fun σ69 => g_bI (fX10_sign σ69) (fun r72 σ71 => if r72 = 115 then (if (σ71.1 1 8) = 0 then (g_let (g_put σ71 1 8 1) (fun σ75 => g_let (g_put σ75 1 2 ((σ75.1 1 2) + 1)) (fun σ77 => g_bI (fX10_readItems n 0 4 σ77) (fun r81 σ80 => if r81 &&& 1 = r81 then (some (r81, σ80)) else none)))) else (fX10_clause_b42 n σ71)) else (fX10_clause_b42 n σ71)))
set_option maxRecDepth 100000 in
theorem kX10_clause (hE : gEX l dC dI ad ca X) (n : Nat)  (σ : gM) {r0 : Int32} {σ' : gM} (h : fX10_clause n σ = some (r0, σ')) : g_C l dC dI ad ca shX X yX10_clause cX10_clause 1 (some .boolean) (gR 7) [.ref 1] σ (some (.int r0)) σ' := by
  refine g_entry (by decide +kernel) (Nat.le_of_ble_eq_true rfl) ?_
  refine g_lvE (lv1 := [(0, .ref 1)]) rfl ?_
  unfold fX10_clause at h
  refine g_aload_n (pc := 0) dX10_clause_0 rfl 0 rfl ?_
  obtain ⟨σ69, h68, h⟩ := g_bVd h
  refine g_callVv (pc := 1) (st := []) hE.1 wvX10_60 rfl rfl (kX10_skipBlanks hE n σ h68) rfl (gR_ok (by decide) (by decide)) (Nat.le_of_ble_eq_true rfl) rfl dX10_clause_1 ?_
  refine g_aload_n (pc := 4) dX10_clause_4 rfl 0 rfl ?_
  obtain ⟨r72, σ71, h70, h⟩ := g_bId h
  refine g_callVi (pc := 5) (st := []) hE.1 wvX10_56 rfl rfl (kX10_sign hE σ69 h70) rfl (gR_ok (by decide) (by decide)) (Nat.le_of_ble_eq_true rfl) rfl dX10_clause_5 ?_
  refine g_bipush (pc := 8) (v := 115) dX10_clause_8 (by decide) ?_
  refine g_icmp_ne (pc := 10) (tgt := 42) dX10_clause_10 (by decide) (fun c73 => ?_) (fun c73 => ?_)
  · have h := g_iff c73 h
    exact g_lv [0] rfl (tX10_clause_b42 hE n σ71 h)
  · have h := g_ift c73 h
    refine g_aload_n (pc := 13) dX10_clause_13 rfl 0 rfl ?_
    refine g_getI (pc := 14) wfX10_37 rfl rfl dX10_clause_14 ?_
    refine g_if_ne (pc := 17) (tgt := 42) dX10_clause_17 (by decide) (fun c74 => ?_) (fun c74 => ?_)
    · have h := g_iff c74 h
      exact g_lv [0] rfl (tX10_clause_b42 hE n σ71 h)
    · have h := g_ift c74 h
      refine g_aload_n (pc := 20) dX10_clause_20 rfl 0 rfl ?_
      refine g_iconst (pc := 21) (v := 1) dX10_clause_21 (by decide) ?_
      obtain ⟨σ75, e76, h⟩ := g_ltd h
      refine g_putI (pc := 22) wfX10_37 rfl rfl (by decide) (by decide) e76 dX10_clause_22 ?_
      refine g_aload_n (pc := 25) dX10_clause_25 rfl 0 rfl ?_
      refine g_dup (pc := 26) dX10_clause_26 rfl ?_
      refine g_getI (pc := 27) wfX10_19 rfl rfl dX10_clause_27 ?_
      refine g_iconst (pc := 30) (v := 1) dX10_clause_30 (by decide) ?_
      refine g_iadd (pc := 31) dX10_clause_31 ?_
      obtain ⟨σ77, e78, h⟩ := g_ltd h
      refine g_putI (pc := 32) wfX10_19 rfl rfl rfl rfl e78 dX10_clause_32 ?_
      refine g_aload_n (pc := 35) dX10_clause_35 rfl 0 rfl ?_
      refine g_iconst (pc := 36) (v := 0) dX10_clause_36 (by decide) ?_
      refine g_iconst (pc := 37) (v := 4) dX10_clause_37 (by decide) ?_
      obtain ⟨r81, σ80, h79, h⟩ := g_bId h
      refine g_callVi (pc := 38) (st := []) hE.1 wvX10_63 rfl rfl (kX10_readItems hE n 0 4 σ77 h79) rfl (gR_ok (by decide) (by decide)) (Nat.le_of_ble_eq_true rfl) rfl dX10_clause_38 ?_
      obtain ⟨c82, h⟩ := g_gd h
      cases h
      exact g_iret (pc := 41) rfl (g_nb c82) rfl rfl dX10_clause_41
def fX10_shelfFault_b24 (n : Nat) (K24 : Int32 → gM → Option (Int32 × gM)) (v1 : Int32) (σ : gM) : Option (Int32 × gM) := if 280 < v1 then (some (σ.1 1 2, σ)) else (g_bI (fX10_clause n σ) (fun r23 σ22 => if r23 = 0 then (some (σ22.1 1 3, σ22)) else (g_bI (fX10_sign σ22) (fun r27 σ26 => if r27 = 0 then (some ((-1), σ26)) else (g_let (g_put σ26 1 2 ((σ26.1 1 2) + 1)) (fun σ29 => K24 (v1 + 1) σ29))))))
set_option maxRecDepth 100000 in
theorem tX10_shelfFault_b24 (hE : gEX l dC dI ad ca X) {r0 : Int32} {σ' : gM} (n : Nat) (K24 : Int32 → gM → Option (Int32 × gM)) (hK24 : ∀ (v1 : Int32) (σ : gM), K24 v1 σ = some (r0, σ') → g_G l dC dI ad ca shX X cX10_shelfFault 2 RX10 (some .int) (gR 8) (some (.int r0)) σ' 24 [(0, .ref 1), (1, .int v1)] [] σ) (v1 : Int32)  (σ : gM) (h : fX10_shelfFault_b24 n K24 v1 σ = some (r0, σ')) : g_G l dC dI ad ca shX X cX10_shelfFault 2 RX10 (some .int) (gR 8) (some (.int r0)) σ' 24 [(0, .ref 1), (1, .int v1)] [] σ := by
  unfold fX10_shelfFault_b24 at h
  refine g_iload_n (pc := 24) dX10_shelfFault_24 rfl 1 rfl ?_
  refine g_sipush (pc := 25) (v := 280) dX10_shelfFault_25 (by decide) ?_
  refine g_icmp_gt (pc := 28) (tgt := 68) dX10_shelfFault_28 (by decide) (fun c20 => ?_) (fun c20 => ?_)
  · have h := g_ift c20 h
    refine g_aload_n (pc := 68) dX10_shelfFault_68 rfl 0 rfl ?_
    refine g_getI (pc := 69) wfX10_19 rfl rfl dX10_shelfFault_69 ?_
    cases h
    exact g_iret (pc := 72) rfl rfl rfl rfl dX10_shelfFault_72
  · have h := g_iff c20 h
    refine g_aload_n (pc := 31) dX10_shelfFault_31 rfl 0 rfl ?_
    obtain ⟨r23, σ22, h21, h⟩ := g_bId h
    refine g_callVi (pc := 32) (st := []) hE.1 wvX10_52 rfl rfl (kX10_clause hE n σ h21) rfl (gR_ok (by decide) (by decide)) (Nat.le_of_ble_eq_true rfl) rfl dX10_shelfFault_32 ?_
    refine g_if_ne (pc := 35) (tgt := 43) dX10_shelfFault_35 (by decide) (fun c24 => ?_) (fun c24 => ?_)
    · have h := g_iff c24 h
      refine g_aload_n (pc := 43) dX10_shelfFault_43 rfl 0 rfl ?_
      obtain ⟨r27, σ26, h25, h⟩ := g_bId h
      refine g_callVi (pc := 44) (st := []) hE.1 wvX10_56 rfl rfl (kX10_sign hE σ22 h25) rfl (gR_ok (by decide) (by decide)) (Nat.le_of_ble_eq_true rfl) rfl dX10_shelfFault_44 ?_
      refine g_if_ne (pc := 47) (tgt := 52) dX10_shelfFault_47 (by decide) (fun c28 => ?_) (fun c28 => ?_)
      · have h := g_iff c28 h
        refine g_aload_n (pc := 52) dX10_shelfFault_52 rfl 0 rfl ?_
        refine g_dup (pc := 53) dX10_shelfFault_53 rfl ?_
        refine g_getI (pc := 54) wfX10_19 rfl rfl dX10_shelfFault_54 ?_
        refine g_iconst (pc := 57) (v := 1) dX10_shelfFault_57 (by decide) ?_
        refine g_iadd (pc := 58) dX10_shelfFault_58 ?_
        obtain ⟨σ29, e30, h⟩ := g_ltd h
        refine g_putI (pc := 59) wfX10_19 rfl rfl rfl rfl e30 dX10_shelfFault_59 ?_
        refine g_iinc (pc := 62) (v := v1 + 1) (lv1 := [(1, .int (v1 + 1)), (0, .ref 1)]) dX10_shelfFault_62 1 rfl rfl (by decide) rfl ?_
        refine g_goto (pc := 65) (tgt := 24) dX10_shelfFault_65 (by decide) ?_
        exact g_lv [1, 0] rfl (hK24 (v1 + 1) σ29 h)
      · have h := g_ift c28 h
        refine g_iconst (pc := 50) (v := (-1)) dX10_shelfFault_50 (by decide) ?_
        cases h
        exact g_iret (pc := 51) rfl rfl rfl rfl dX10_shelfFault_51
    · have h := g_ift c24 h
      refine g_aload_n (pc := 38) dX10_shelfFault_38 rfl 0 rfl ?_
      refine g_getI (pc := 39) wfX10_22 rfl rfl dX10_shelfFault_39 ?_
      cases h
      exact g_iret (pc := 42) rfl rfl rfl rfl dX10_shelfFault_42
def fX10_shelfFault_L24 (n : Nat) : Nat → Int32 → gM → Option (Int32 × gM)
  | 0 => fun _ _ => none
  | k + 1 => fX10_shelfFault_b24 n (fX10_shelfFault_L24 n k)
theorem tX10_shelfFault_L24 (hE : gEX l dC dI ad ca X) {r0 : Int32} {σ' : gM} (n : Nat)  : ∀ (k : Nat) (v1 : Int32) (σ : gM), fX10_shelfFault_L24 n k v1 σ = some (r0, σ') → g_G l dC dI ad ca shX X cX10_shelfFault 2 RX10 (some .int) (gR 8) (some (.int r0)) σ' 24 [(0, .ref 1), (1, .int v1)] [] σ := by
  intro k
  induction k with
  | zero => intro v1 σ h; cases h
  | succ k ih => intro v1 σ h; exact tX10_shelfFault_b24 hE n (fX10_shelfFault_L24 n k) ih v1 σ h
def fX10_shelfFault (n : Nat) (σ : gM) : Option (Int32 × gM) := g_let (g_put σ 1 2 0) (fun σ31 => g_let (g_put σ31 1 7 0) (fun σ33 => g_let (g_put σ33 1 8 0) (fun σ35 => g_bV (fX10_useDefaults n 0 6 σ35) (fun σ38 => fX10_shelfFault_L24 n n 0 σ38))))
set_option maxRecDepth 100000 in
theorem kX10_shelfFault (hE : gEX l dC dI ad ca X) (n : Nat)  (σ : gM) {r0 : Int32} {σ' : gM} (h : fX10_shelfFault n σ = some (r0, σ')) : g_C l dC dI ad ca shX X yX10_shelfFault cX10_shelfFault 2 (some .int) (gR 8) [.ref 1] σ (some (.int r0)) σ' := by
  refine g_entry (by decide +kernel) (Nat.le_of_ble_eq_true rfl) ?_
  refine g_lvE (lv1 := [(0, .ref 1)]) rfl ?_
  unfold fX10_shelfFault at h
  refine g_aload_n (pc := 0) dX10_shelfFault_0 rfl 0 rfl ?_
  refine g_iconst (pc := 1) (v := 0) dX10_shelfFault_1 (by decide) ?_
  obtain ⟨σ31, e32, h⟩ := g_ltd h
  refine g_putI (pc := 2) wfX10_19 rfl rfl rfl rfl e32 dX10_shelfFault_2 ?_
  refine g_aload_n (pc := 5) dX10_shelfFault_5 rfl 0 rfl ?_
  refine g_iconst (pc := 6) (v := 0) dX10_shelfFault_6 (by decide) ?_
  obtain ⟨σ33, e34, h⟩ := g_ltd h
  refine g_putI (pc := 7) wfX10_34 rfl rfl rfl rfl e34 dX10_shelfFault_7 ?_
  refine g_aload_n (pc := 10) dX10_shelfFault_10 rfl 0 rfl ?_
  refine g_iconst (pc := 11) (v := 0) dX10_shelfFault_11 (by decide) ?_
  obtain ⟨σ35, e36, h⟩ := g_ltd h
  refine g_putI (pc := 12) wfX10_37 rfl rfl (by decide) (by decide) e36 dX10_shelfFault_12 ?_
  refine g_aload_n (pc := 15) dX10_shelfFault_15 rfl 0 rfl ?_
  refine g_iconst (pc := 16) (v := 0) dX10_shelfFault_16 (by decide) ?_
  refine g_bipush (pc := 17) (v := 6) dX10_shelfFault_17 (by decide) ?_
  obtain ⟨σ38, h37, h⟩ := g_bVd h
  refine g_callVv (pc := 19) (st := []) hE.1 wvX10_48 rfl rfl (kX10_useDefaults hE n 0 6 σ35 h37) rfl (gR_ok (by decide) (by decide)) (Nat.le_of_ble_eq_true rfl) rfl dX10_shelfFault_19 ?_
  refine g_iconst (pc := 22) (v := 0) dX10_shelfFault_22 (by decide) ?_
  refine g_istore_n (pc := 23) (lv1 := [(1, .int 0), (0, .ref 1)]) dX10_shelfFault_23 rfl (by decide) rfl ?_
  exact g_lv [1, 0] rfl (tX10_shelfFault_L24 hE n n 0 σ38 h)
def fX10_readComma (n : Nat) (σ : gM) : Option (Int32 × gM) := g_bV (fX10_skipBlanks n σ) (fun σ14 => g_bI (fX10_sign σ14) (fun r17 σ16 => if r17 = 44 then (g_let (g_put σ16 1 2 ((σ16.1 1 2) + 1)) (fun σ19 => some (1, σ19))) else (g_bI (fX10_wrong (σ16.1 1 2) σ16) (fun r23 σ22 => if r23 &&& 1 = r23 then (some (r23, σ22)) else none))))
set_option maxRecDepth 100000 in
theorem kX10_readComma (hE : gEX l dC dI ad ca X) (n : Nat)  (σ : gM) {r0 : Int32} {σ' : gM} (h : fX10_readComma n σ = some (r0, σ')) : g_C l dC dI ad ca shX X yX10_readComma cX10_readComma 1 (some .boolean) (gR 1) [.ref 1] σ (some (.int r0)) σ' := by
  refine g_entry (by decide +kernel) (Nat.le_of_ble_eq_true rfl) ?_
  refine g_lvE (lv1 := [(0, .ref 1)]) rfl ?_
  unfold fX10_readComma at h
  refine g_aload_n (pc := 0) dX10_readComma_0 rfl 0 rfl ?_
  obtain ⟨σ14, h13, h⟩ := g_bVd h
  refine g_callVv (pc := 1) (st := []) hE.1 wvX10_60 rfl rfl (kX10_skipBlanks hE n σ h13) rfl (gR_ok (by decide) (by decide)) (Nat.le_of_ble_eq_true rfl) rfl dX10_readComma_1 ?_
  refine g_aload_n (pc := 4) dX10_readComma_4 rfl 0 rfl ?_
  obtain ⟨r17, σ16, h15, h⟩ := g_bId h
  refine g_callVi (pc := 5) (st := []) hE.1 wvX10_56 rfl rfl (kX10_sign hE σ14 h15) rfl (gR_ok (by decide) (by decide)) (Nat.le_of_ble_eq_true rfl) rfl dX10_readComma_5 ?_
  refine g_bipush (pc := 8) (v := 44) dX10_readComma_8 (by decide) ?_
  refine g_icmp_eq (pc := 10) (tgt := 22) dX10_readComma_10 (by decide) (fun c18 => ?_) (fun c18 => ?_)
  · have h := g_ift c18 h
    refine g_aload_n (pc := 22) dX10_readComma_22 rfl 0 rfl ?_
    refine g_dup (pc := 23) dX10_readComma_23 rfl ?_
    refine g_getI (pc := 24) wfX10_19 rfl rfl dX10_readComma_24 ?_
    refine g_iconst (pc := 27) (v := 1) dX10_readComma_27 (by decide) ?_
    refine g_iadd (pc := 28) dX10_readComma_28 ?_
    obtain ⟨σ19, e20, h⟩ := g_ltd h
    refine g_putI (pc := 29) wfX10_19 rfl rfl rfl rfl e20 dX10_readComma_29 ?_
    refine g_iconst (pc := 32) (v := 1) dX10_readComma_32 (by decide) ?_
    cases h
    exact g_iret (pc := 33) rfl (by decide) rfl rfl dX10_readComma_33
  · have h := g_iff c18 h
    refine g_aload_n (pc := 13) dX10_readComma_13 rfl 0 rfl ?_
    refine g_aload_n (pc := 14) dX10_readComma_14 rfl 0 rfl ?_
    refine g_getI (pc := 15) wfX10_19 rfl rfl dX10_readComma_15 ?_
    obtain ⟨r23, σ22, h21, h⟩ := g_bId h
    refine g_callVi (pc := 18) (st := []) hE.1 wvX10_67 rfl rfl (kX10_wrong hE (σ16.1 1 2) σ16 h21) rfl (gR_ok (by decide) (by decide)) (Nat.le_of_ble_eq_true rfl) rfl dX10_readComma_18 ?_
    obtain ⟨c24, h⟩ := g_gd h
    cases h
    exact g_iret (pc := 21) rfl (g_nb c24) rfl rfl dX10_readComma_21
def fX10_readStep_b80 (n : Nat) (K59 : Int32 → Int32 → Int32 → gM → Option (Int32 × gM)) (v1 : Int32) (v2 : Int32) (v3 : Int32) (σ : gM) : Option (Int32 × gM) := g_bI (fX10_readNumber n 0 999 σ) (fun r36 σ35 => if r36 = 0 then (some (0, σ35)) else (g_bV (fX7_put 4 v1 v3 (σ35.1 1 4) σ35) (fun σ39 => K59 v1 v2 (v3 + 1) σ39)))
set_option maxRecDepth 100000 in
theorem tX10_readStep_b80 (hE : gEX l dC dI ad ca X) {r0 : Int32} {σ' : gM} (n : Nat) (K59 : Int32 → Int32 → Int32 → gM → Option (Int32 × gM)) (hK59 : ∀ (v1 : Int32) (v2 : Int32) (v3 : Int32) (σ : gM), K59 v1 v2 v3 σ = some (r0, σ') → g_G l dC dI ad ca shX X cX10_readStep 4 RX10 (some .boolean) (gR 6) (some (.int r0)) σ' 59 [(0, .ref 1), (1, .int v1), (2, .int v2), (3, .int v3)] [] σ) (v1 : Int32) (v2 : Int32) (v3 : Int32)  (σ : gM) (h : fX10_readStep_b80 n K59 v1 v2 v3 σ = some (r0, σ')) : g_G l dC dI ad ca shX X cX10_readStep 4 RX10 (some .boolean) (gR 6) (some (.int r0)) σ' 80 [(0, .ref 1), (1, .int v1), (2, .int v2), (3, .int v3)] [] σ := by
  unfold fX10_readStep_b80 at h
  refine g_aload_n (pc := 80) dX10_readStep_80 rfl 0 rfl ?_
  refine g_iconst (pc := 81) (v := 0) dX10_readStep_81 (by decide) ?_
  refine g_sipush (pc := 82) (v := 999) dX10_readStep_82 (by decide) ?_
  obtain ⟨r36, σ35, h34, h⟩ := g_bId h
  refine g_callVi (pc := 85) (st := []) hE.1 wvX10_94 rfl rfl (kX10_readNumber hE n 0 999 σ h34) rfl (gR_ok (by decide) (by decide)) (Nat.le_of_ble_eq_true rfl) rfl dX10_readStep_85 ?_
  refine g_if_ne (pc := 88) (tgt := 93) dX10_readStep_88 (by decide) (fun c37 => ?_) (fun c37 => ?_)
  · have h := g_iff c37 h
    refine g_aload_n (pc := 93) dX10_readStep_93 rfl 0 rfl ?_
    refine g_getR (pc := 94) wfX10_44 rfl rfl dX10_readStep_94 ?_
    refine g_iload_n (pc := 97) dX10_readStep_97 rfl 1 rfl ?_
    refine g_iload_n (pc := 98) dX10_readStep_98 rfl 3 rfl ?_
    refine g_aload_n (pc := 99) dX10_readStep_99 rfl 0 rfl ?_
    refine g_getI (pc := 100) wfX10_25 rfl rfl dX10_readStep_100 ?_
    obtain ⟨σ39, h38, h⟩ := g_bVd h
    refine g_callVv (pc := 103) (st := []) hE.1 wvX10_115 (sX_script (i := 4) (by decide)) rfl (kX7_put hE 4 (by decide) v1 v3 (σ35.1 1 4) σ35 h38) rfl (gR_ok (by decide) (by decide)) (Nat.le_of_ble_eq_true rfl) rfl dX10_readStep_103 ?_
    refine g_iinc (pc := 106) (v := v3 + 1) (lv1 := [(3, .int (v3 + 1)), (0, .ref 1), (1, .int v1), (2, .int v2)]) dX10_readStep_106 3 rfl rfl (by decide) rfl ?_
    refine g_goto (pc := 109) (tgt := 59) dX10_readStep_109 (by decide) ?_
    exact g_lv [1, 2, 3, 0] rfl (hK59 v1 v2 (v3 + 1) σ39 h)
  · have h := g_ift c37 h
    refine g_iconst (pc := 91) (v := 0) dX10_readStep_91 (by decide) ?_
    cases h
    exact g_iret (pc := 92) rfl (by decide) rfl rfl dX10_readStep_92
def fX10_readStep_b59 (n : Nat) (K59 : Int32 → Int32 → Int32 → gM → Option (Int32 × gM)) (v1 : Int32) (v2 : Int32) (v3 : Int32) (σ : gM) : Option (Int32 × gM) := g_bI (fX7_numbersOf v2 σ) (fun r42 σ41 => if r42 ≤ v3 then (some (1, σ41)) else (if v3 ≤ 0 then (fX10_readStep_b80 n K59 v1 v2 v3 σ41) else (g_bI (fX10_readComma n σ41) (fun r47 σ46 => if r47 = 0 then (some (0, σ46)) else (fX10_readStep_b80 n K59 v1 v2 v3 σ46)))))
set_option maxRecDepth 100000 in
theorem tX10_readStep_b59 (hE : gEX l dC dI ad ca X) {r0 : Int32} {σ' : gM} (n : Nat) (K59 : Int32 → Int32 → Int32 → gM → Option (Int32 × gM)) (hK59 : ∀ (v1 : Int32) (v2 : Int32) (v3 : Int32) (σ : gM), K59 v1 v2 v3 σ = some (r0, σ') → g_G l dC dI ad ca shX X cX10_readStep 4 RX10 (some .boolean) (gR 6) (some (.int r0)) σ' 59 [(0, .ref 1), (1, .int v1), (2, .int v2), (3, .int v3)] [] σ) (v1 : Int32) (v2 : Int32) (v3 : Int32)  (σ : gM) (h : fX10_readStep_b59 n K59 v1 v2 v3 σ = some (r0, σ')) : g_G l dC dI ad ca shX X cX10_readStep 4 RX10 (some .boolean) (gR 6) (some (.int r0)) σ' 59 [(0, .ref 1), (1, .int v1), (2, .int v2), (3, .int v3)] [] σ := by
  unfold fX10_readStep_b59 at h
  refine g_iload_n (pc := 59) dX10_readStep_59 rfl 3 rfl ?_
  refine g_iload_n (pc := 60) dX10_readStep_60 rfl 2 rfl ?_
  obtain ⟨r42, σ41, h40, h⟩ := g_bId h
  refine g_callSi (pc := 61) (st := [.int v3]) hE.1 wsX10_109 (kX7_numbersOf hE v2 σ h40) rfl (gR_ok (by decide) (by decide)) (Nat.le_of_ble_eq_true rfl) rfl dX10_readStep_61 ?_
  refine g_icmp_ge (pc := 64) (tgt := 112) dX10_readStep_64 (by decide) (fun c43 => ?_) (fun c43 => ?_)
  · have h := g_ift c43 h
    refine g_iconst (pc := 112) (v := 1) dX10_readStep_112 (by decide) ?_
    cases h
    exact g_iret (pc := 113) rfl (by decide) rfl rfl dX10_readStep_113
  · have h := g_iff c43 h
    refine g_iload_n (pc := 67) dX10_readStep_67 rfl 3 rfl ?_
    refine g_if_le (pc := 68) (tgt := 80) dX10_readStep_68 (by decide) (fun c44 => ?_) (fun c44 => ?_)
    · have h := g_ift c44 h
      exact g_lv [0, 1, 2, 3] rfl (tX10_readStep_b80 hE n K59 hK59 v1 v2 v3 σ41 h)
    · have h := g_iff c44 h
      refine g_aload_n (pc := 71) dX10_readStep_71 rfl 0 rfl ?_
      obtain ⟨r47, σ46, h45, h⟩ := g_bId h
      refine g_callVi (pc := 72) (st := []) hE.1 wvX10_112 rfl rfl (kX10_readComma hE n σ41 h45) rfl (gR_ok (by decide) (by decide)) (Nat.le_of_ble_eq_true rfl) rfl dX10_readStep_72 ?_
      refine g_if_ne (pc := 75) (tgt := 80) dX10_readStep_75 (by decide) (fun c48 => ?_) (fun c48 => ?_)
      · have h := g_iff c48 h
        exact g_lv [0, 1, 2, 3] rfl (tX10_readStep_b80 hE n K59 hK59 v1 v2 v3 σ46 h)
      · have h := g_ift c48 h
        refine g_iconst (pc := 78) (v := 0) dX10_readStep_78 (by decide) ?_
        cases h
        exact g_iret (pc := 79) rfl (by decide) rfl rfl dX10_readStep_79
def fX10_readStep_L59 (n : Nat) : Nat → Int32 → Int32 → Int32 → gM → Option (Int32 × gM)
  | 0 => fun _ _ _ _ => none
  | k + 1 => fX10_readStep_b59 n (fX10_readStep_L59 n k)
theorem tX10_readStep_L59 (hE : gEX l dC dI ad ca X) {r0 : Int32} {σ' : gM} (n : Nat)  : ∀ (k : Nat) (v1 : Int32) (v2 : Int32) (v3 : Int32) (σ : gM), fX10_readStep_L59 n k v1 v2 v3 σ = some (r0, σ') → g_G l dC dI ad ca shX X cX10_readStep 4 RX10 (some .boolean) (gR 6) (some (.int r0)) σ' 59 [(0, .ref 1), (1, .int v1), (2, .int v2), (3, .int v3)] [] σ := by
  intro k
  induction k with
  | zero => intro v1 v2 v3 σ h; cases h
  | succ k ih => intro v1 v2 v3 σ h; exact tX10_readStep_b59 hE n (fX10_readStep_L59 n k) ih v1 v2 v3 σ h
def fX10_readStep_b25 (n : Nat) (v1 : Int32) (s0 : Int32) (σ : gM) : Option (Int32 × gM) := if 0 ≤ s0 then (g_let (g_put σ 1 2 ((σ.1 1 2) + 1)) (fun σ50 => g_bV (fX7_add 4 s0 σ50) (fun σ53 => fX10_readStep_L59 n n v1 s0 0 σ53))) else (g_bI (fX10_wrong (σ.1 1 2) σ) (fun r56 σ55 => if r56 &&& 1 = r56 then (some (r56, σ55)) else none))
set_option maxRecDepth 100000 in
theorem tX10_readStep_b25 (hE : gEX l dC dI ad ca X) {r0 : Int32} {σ' : gM} (n : Nat) (v1 : Int32) (s0 : Int32)  (σ : gM) (h : fX10_readStep_b25 n v1 s0 σ = some (r0, σ')) : g_G l dC dI ad ca shX X cX10_readStep 4 RX10 (some .boolean) (gR 6) (some (.int r0)) σ' 25 [(0, .ref 1), (1, .int v1)] [.int s0] σ := by
  unfold fX10_readStep_b25 at h
  refine g_istore_n (pc := 25) (lv1 := [(2, .int s0), (0, .ref 1), (1, .int v1)]) dX10_readStep_25 rfl (by decide) rfl ?_
  refine g_iload_n (pc := 26) dX10_readStep_26 rfl 0 rfl ?_
  refine g_if_ge (pc := 27) (tgt := 39) dX10_readStep_27 (by decide) (fun c49 => ?_) (fun c49 => ?_)
  · have h := g_ift c49 h
    refine g_aload_n (pc := 39) dX10_readStep_39 rfl 1 rfl ?_
    refine g_dup (pc := 40) dX10_readStep_40 rfl ?_
    refine g_getI (pc := 41) wfX10_19 rfl rfl dX10_readStep_41 ?_
    refine g_iconst (pc := 44) (v := 1) dX10_readStep_44 (by decide) ?_
    refine g_iadd (pc := 45) dX10_readStep_45 ?_
    obtain ⟨σ50, e51, h⟩ := g_ltd h
    refine g_putI (pc := 46) wfX10_19 rfl rfl rfl rfl e51 dX10_readStep_46 ?_
    refine g_aload_n (pc := 49) dX10_readStep_49 rfl 1 rfl ?_
    refine g_getR (pc := 50) wfX10_44 rfl rfl dX10_readStep_50 ?_
    refine g_iload_n (pc := 53) dX10_readStep_53 rfl 0 rfl ?_
    obtain ⟨σ53, h52, h⟩ := g_bVd h
    refine g_callVv (pc := 54) (st := []) hE.1 wvX10_105 (sX_script (i := 4) (by decide)) rfl (kX7_add hE 4 (by decide) s0 σ50 h52) rfl (gR_ok (by decide) (by decide)) (Nat.le_of_ble_eq_true rfl) rfl dX10_readStep_54 ?_
    refine g_iconst (pc := 57) (v := 0) dX10_readStep_57 (by decide) ?_
    refine g_istore_n (pc := 58) (lv1 := [(3, .int 0), (2, .int s0), (0, .ref 1), (1, .int v1)]) dX10_readStep_58 rfl (by decide) rfl ?_
    exact g_lv [2, 3, 1, 0] rfl (tX10_readStep_L59 hE n n v1 s0 0 σ53 h)
  · have h := g_iff c49 h
    refine g_aload_n (pc := 30) dX10_readStep_30 rfl 1 rfl ?_
    refine g_aload_n (pc := 31) dX10_readStep_31 rfl 1 rfl ?_
    refine g_getI (pc := 32) wfX10_19 rfl rfl dX10_readStep_32 ?_
    obtain ⟨r56, σ55, h54, h⟩ := g_bId h
    refine g_callVi (pc := 35) (st := []) hE.1 wvX10_67 rfl rfl (kX10_wrong hE (σ.1 1 2) σ h54) rfl (gR_ok (by decide) (by decide)) (Nat.le_of_ble_eq_true rfl) rfl dX10_readStep_35 ?_
    obtain ⟨c57, h⟩ := g_gd h
    cases h
    exact g_iret (pc := 38) rfl (g_nb c57) rfl rfl dX10_readStep_38
def fX10_readStep (n : Nat) (v1 : Int32) (σ : gM) : Option (Int32 × gM) := g_bV (fX10_skipBlanks n σ) (fun σ59 => g_bI (fX10_sign σ59) (fun r62 σ61 => if r62 = 0 then (fX10_readStep_b25 n v1 (-1) σ61) else (g_bI (fX10_sign σ61) (fun r66 σ65 => fX10_readStep_b25 n v1 (xIx 1 ((r66.toUInt32 % 65536).toInt32)) σ65))))
set_option maxRecDepth 100000 in
theorem kX10_readStep (hE : gEX l dC dI ad ca X) (n : Nat)  (v1 : Int32) (σ : gM) {r0 : Int32} {σ' : gM} (h : fX10_readStep n v1 σ = some (r0, σ')) : g_C l dC dI ad ca shX X yX10_readStep cX10_readStep 4 (some .boolean) (gR 6) [.ref 1, .int v1] σ (some (.int r0)) σ' := by
  refine g_entry (by decide +kernel) (Nat.le_of_ble_eq_true rfl) ?_
  refine g_lvE (lv1 := [(0, .ref 1), (1, .int v1)]) rfl ?_
  unfold fX10_readStep at h
  refine g_aload_n (pc := 0) dX10_readStep_0 rfl 0 rfl ?_
  obtain ⟨σ59, h58, h⟩ := g_bVd h
  refine g_callVv (pc := 1) (st := []) hE.1 wvX10_60 rfl rfl (kX10_skipBlanks hE n σ h58) rfl (gR_ok (by decide) (by decide)) (Nat.le_of_ble_eq_true rfl) rfl dX10_readStep_1 ?_
  refine g_aload_n (pc := 4) dX10_readStep_4 rfl 0 rfl ?_
  obtain ⟨r62, σ61, h60, h⟩ := g_bId h
  refine g_callVi (pc := 5) (st := []) hE.1 wvX10_56 rfl rfl (kX10_sign hE σ59 h60) rfl (gR_ok (by decide) (by decide)) (Nat.le_of_ble_eq_true rfl) rfl dX10_readStep_5 ?_
  refine g_if_ne (pc := 8) (tgt := 15) dX10_readStep_8 (by decide) (fun c63 => ?_) (fun c63 => ?_)
  · have h := g_iff c63 h
    refine g_ldcS (pc := 15) (xkA hE 1 rfl) dX10_readStep_15 ?_
    refine g_aload_n (pc := 17) dX10_readStep_17 rfl 0 rfl ?_
    obtain ⟨r66, σ65, h64, h⟩ := g_bId h
    refine g_callVi (pc := 18) (st := [.ref (1010 + 1)]) hE.1 wvX10_56 rfl rfl (kX10_sign hE σ61 h64) rfl (gR_ok (by decide) (by decide)) (Nat.le_of_ble_eq_true rfl) rfl dX10_readStep_18 ?_
    refine g_i2c (pc := 21) dX10_readStep_21 ?_
    refine g_callVXi (pc := 22) (st := []) hE.1 wvX10_82 (xrA hE 1 rfl) (hE.2.2.2.2 1 ((r66.toUInt32 % 65536).toInt32) σ65 (by decide)) rfl (gR_ok (by decide) (by decide)) (Nat.le_of_ble_eq_true rfl) rfl dX10_readStep_22 ?_
    exact g_lv [0, 1] rfl (tX10_readStep_b25 hE n v1 (xIx 1 ((r66.toUInt32 % 65536).toInt32)) σ65 h)
  · have h := g_ift c63 h
    refine g_iconst (pc := 11) (v := (-1)) dX10_readStep_11 (by decide) ?_
    refine g_goto (pc := 12) (tgt := 25) dX10_readStep_12 (by decide) ?_
    exact g_lv [0, 1] rfl (tX10_readStep_b25 hE n v1 (-1) σ61 h)
def fX10_scriptFault_b14 (n : Nat) (K14 : Int32 → gM → Option (Int32 × gM)) (v1 : Int32) (σ : gM) : Option (Int32 × gM) := if 16 ≤ v1 then (some ((σ.1 1 2) - 1, σ)) else (g_bI (fX10_readStep n v1 σ) (fun r25 σ24 => if r25 = 0 then (some (σ24.1 1 3, σ24)) else (g_bV (fX10_skipBlanks n σ24) (fun σ28 => g_bI (fX10_sign σ28) (fun r31 σ30 => if r31 = 0 then (some ((-1), σ30)) else (g_bI (fX10_sign σ30) (fun r35 σ34 => if r35 = 59 then (g_let (g_put σ34 1 2 ((σ34.1 1 2) + 1)) (fun σ37 => K14 (v1 + 1) σ37)) else (some (σ34.1 1 2, σ34)))))))))
set_option maxRecDepth 100000 in
theorem tX10_scriptFault_b14 (hE : gEX l dC dI ad ca X) {r0 : Int32} {σ' : gM} (n : Nat) (K14 : Int32 → gM → Option (Int32 × gM)) (hK14 : ∀ (v1 : Int32) (σ : gM), K14 v1 σ = some (r0, σ') → g_G l dC dI ad ca shX X cX10_scriptFault 2 RX10 (some .int) (gR 7) (some (.int r0)) σ' 14 [(0, .ref 1), (1, .int v1)] [] σ) (v1 : Int32)  (σ : gM) (h : fX10_scriptFault_b14 n K14 v1 σ = some (r0, σ')) : g_G l dC dI ad ca shX X cX10_scriptFault 2 RX10 (some .int) (gR 7) (some (.int r0)) σ' 14 [(0, .ref 1), (1, .int v1)] [] σ := by
  unfold fX10_scriptFault_b14 at h
  refine g_iload_n (pc := 14) dX10_scriptFault_14 rfl 1 rfl ?_
  refine g_bipush (pc := 15) (v := 16) dX10_scriptFault_15 (by decide) ?_
  refine g_icmp_ge (pc := 17) (tgt := 76) dX10_scriptFault_17 (by decide) (fun c22 => ?_) (fun c22 => ?_)
  · have h := g_ift c22 h
    refine g_aload_n (pc := 76) dX10_scriptFault_76 rfl 0 rfl ?_
    refine g_getI (pc := 77) wfX10_19 rfl rfl dX10_scriptFault_77 ?_
    refine g_iconst (pc := 80) (v := 1) dX10_scriptFault_80 (by decide) ?_
    refine g_isub (pc := 81) dX10_scriptFault_81 ?_
    cases h
    exact g_iret (pc := 82) rfl rfl rfl rfl dX10_scriptFault_82
  · have h := g_iff c22 h
    refine g_aload_n (pc := 20) dX10_scriptFault_20 rfl 0 rfl ?_
    refine g_iload_n (pc := 21) dX10_scriptFault_21 rfl 1 rfl ?_
    obtain ⟨r25, σ24, h23, h⟩ := g_bId h
    refine g_callVi (pc := 22) (st := []) hE.1 wvX10_100 rfl rfl (kX10_readStep hE n v1 σ h23) rfl (gR_ok (by decide) (by decide)) (Nat.le_of_ble_eq_true rfl) rfl dX10_scriptFault_22 ?_
    refine g_if_ne (pc := 25) (tgt := 33) dX10_scriptFault_25 (by decide) (fun c26 => ?_) (fun c26 => ?_)
    · have h := g_iff c26 h
      refine g_aload_n (pc := 33) dX10_scriptFault_33 rfl 0 rfl ?_
      obtain ⟨σ28, h27, h⟩ := g_bVd h
      refine g_callVv (pc := 34) (st := []) hE.1 wvX10_60 rfl rfl (kX10_skipBlanks hE n σ24 h27) rfl (gR_ok (by decide) (by decide)) (Nat.le_of_ble_eq_true rfl) rfl dX10_scriptFault_34 ?_
      refine g_aload_n (pc := 37) dX10_scriptFault_37 rfl 0 rfl ?_
      obtain ⟨r31, σ30, h29, h⟩ := g_bId h
      refine g_callVi (pc := 38) (st := []) hE.1 wvX10_56 rfl rfl (kX10_sign hE σ28 h29) rfl (gR_ok (by decide) (by decide)) (Nat.le_of_ble_eq_true rfl) rfl dX10_scriptFault_38 ?_
      refine g_if_ne (pc := 41) (tgt := 46) dX10_scriptFault_41 (by decide) (fun c32 => ?_) (fun c32 => ?_)
      · have h := g_iff c32 h
        refine g_aload_n (pc := 46) dX10_scriptFault_46 rfl 0 rfl ?_
        obtain ⟨r35, σ34, h33, h⟩ := g_bId h
        refine g_callVi (pc := 47) (st := []) hE.1 wvX10_56 rfl rfl (kX10_sign hE σ30 h33) rfl (gR_ok (by decide) (by decide)) (Nat.le_of_ble_eq_true rfl) rfl dX10_scriptFault_47 ?_
        refine g_bipush (pc := 50) (v := 59) dX10_scriptFault_50 (by decide) ?_
        refine g_icmp_eq (pc := 52) (tgt := 60) dX10_scriptFault_52 (by decide) (fun c36 => ?_) (fun c36 => ?_)
        · have h := g_ift c36 h
          refine g_aload_n (pc := 60) dX10_scriptFault_60 rfl 0 rfl ?_
          refine g_dup (pc := 61) dX10_scriptFault_61 rfl ?_
          refine g_getI (pc := 62) wfX10_19 rfl rfl dX10_scriptFault_62 ?_
          refine g_iconst (pc := 65) (v := 1) dX10_scriptFault_65 (by decide) ?_
          refine g_iadd (pc := 66) dX10_scriptFault_66 ?_
          obtain ⟨σ37, e38, h⟩ := g_ltd h
          refine g_putI (pc := 67) wfX10_19 rfl rfl rfl rfl e38 dX10_scriptFault_67 ?_
          refine g_iinc (pc := 70) (v := v1 + 1) (lv1 := [(1, .int (v1 + 1)), (0, .ref 1)]) dX10_scriptFault_70 1 rfl rfl (by decide) rfl ?_
          refine g_goto (pc := 73) (tgt := 14) dX10_scriptFault_73 (by decide) ?_
          exact g_lv [1, 0] rfl (hK14 (v1 + 1) σ37 h)
        · have h := g_iff c36 h
          refine g_aload_n (pc := 55) dX10_scriptFault_55 rfl 0 rfl ?_
          refine g_getI (pc := 56) wfX10_19 rfl rfl dX10_scriptFault_56 ?_
          cases h
          exact g_iret (pc := 59) rfl rfl rfl rfl dX10_scriptFault_59
      · have h := g_ift c32 h
        refine g_iconst (pc := 44) (v := (-1)) dX10_scriptFault_44 (by decide) ?_
        cases h
        exact g_iret (pc := 45) rfl rfl rfl rfl dX10_scriptFault_45
    · have h := g_ift c26 h
      refine g_aload_n (pc := 28) dX10_scriptFault_28 rfl 0 rfl ?_
      refine g_getI (pc := 29) wfX10_22 rfl rfl dX10_scriptFault_29 ?_
      cases h
      exact g_iret (pc := 32) rfl rfl rfl rfl dX10_scriptFault_32
def fX10_scriptFault_L14 (n : Nat) : Nat → Int32 → gM → Option (Int32 × gM)
  | 0 => fun _ _ => none
  | k + 1 => fX10_scriptFault_b14 n (fX10_scriptFault_L14 n k)
theorem tX10_scriptFault_L14 (hE : gEX l dC dI ad ca X) {r0 : Int32} {σ' : gM} (n : Nat)  : ∀ (k : Nat) (v1 : Int32) (σ : gM), fX10_scriptFault_L14 n k v1 σ = some (r0, σ') → g_G l dC dI ad ca shX X cX10_scriptFault 2 RX10 (some .int) (gR 7) (some (.int r0)) σ' 14 [(0, .ref 1), (1, .int v1)] [] σ := by
  intro k
  induction k with
  | zero => intro v1 σ h; cases h
  | succ k ih => intro v1 σ h; exact tX10_scriptFault_b14 hE n (fX10_scriptFault_L14 n k) ih v1 σ h
def fX10_scriptFault (n : Nat) (σ : gM) : Option (Int32 × gM) := g_let (g_put σ 1 2 0) (fun σ39 => g_bV (fX7_clear 4 σ39) (fun σ42 => fX10_scriptFault_L14 n n 0 σ42))
set_option maxRecDepth 100000 in
theorem kX10_scriptFault (hE : gEX l dC dI ad ca X) (n : Nat)  (σ : gM) {r0 : Int32} {σ' : gM} (h : fX10_scriptFault n σ = some (r0, σ')) : g_C l dC dI ad ca shX X yX10_scriptFault cX10_scriptFault 2 (some .int) (gR 7) [.ref 1] σ (some (.int r0)) σ' := by
  refine g_entry (by decide +kernel) (Nat.le_of_ble_eq_true rfl) ?_
  refine g_lvE (lv1 := [(0, .ref 1)]) rfl ?_
  unfold fX10_scriptFault at h
  refine g_aload_n (pc := 0) dX10_scriptFault_0 rfl 0 rfl ?_
  refine g_iconst (pc := 1) (v := 0) dX10_scriptFault_1 (by decide) ?_
  obtain ⟨σ39, e40, h⟩ := g_ltd h
  refine g_putI (pc := 2) wfX10_19 rfl rfl rfl rfl e40 dX10_scriptFault_2 ?_
  refine g_aload_n (pc := 5) dX10_scriptFault_5 rfl 0 rfl ?_
  refine g_getR (pc := 6) wfX10_44 rfl rfl dX10_scriptFault_6 ?_
  obtain ⟨σ42, h41, h⟩ := g_bVd h
  refine g_callVv (pc := 9) (st := []) hE.1 wvX10_97 (sX_script (i := 4) (by decide)) rfl (kX7_clear hE 4 (by decide) σ39 h41) rfl (gR_ok (by decide) (by decide)) (Nat.le_of_ble_eq_true rfl) rfl dX10_scriptFault_9 ?_
  refine g_iconst (pc := 12) (v := 0) dX10_scriptFault_12 (by decide) ?_
  refine g_istore_n (pc := 13) (lv1 := [(1, .int 0), (0, .ref 1)]) dX10_scriptFault_13 rfl (by decide) rfl ?_
  exact g_lv [1, 0] rfl (tX10_scriptFault_L14 hE n n 0 σ42 h)
def fX11_feed (n : Nat) (v1 : Int32) (v2 : Int32) (v3 : Int32) (v4 : Int32) (v5 : Int32) (σ : gM) : Option (Int32 × gM) := g_bI (fX10_bytesIn n v1 σ) (fun r35 σ34 => g_bI (fX10_bytesIn n v2 σ34) (fun r38 σ37 => g_bI (fX10_bytesIn n v3 σ37) (fun r41 σ40 => g_bI (fX10_bytesIn n v4 σ40) (fun r44 σ43 => g_bI (fX10_bytesIn n v5 σ43) (fun r47 σ46 => g_bI (fX10_size σ46) (fun r50 σ49 => if (r50 + ((((r35 + r38) + r41) + r44) + r47)) ≤ 280 then (g_bV (fX10_append n v1 σ49) (fun σ53 => g_bV (fX10_append n v2 σ53) (fun σ55 => g_bV (fX10_append n v3 σ55) (fun σ57 => g_bV (fX10_append n v4 σ57) (fun σ59 => g_bV (fX10_append n v5 σ59) (fun σ61 => g_bI (fX10_size σ61) (fun r64 σ63 => some (r64, σ63)))))))) else (some ((-1), σ49))))))))
set_option maxRecDepth 100000 in
theorem kX11_feed (hE : gEX l dC dI ad ca X) (n : Nat)  (v1 : Int32) (v2 : Int32) (v3 : Int32) (v4 : Int32) (v5 : Int32) (σ : gM) {r0 : Int32} {σ' : gM} (h : fX11_feed n v1 v2 v3 v4 v5 σ = some (r0, σ')) : g_C l dC dI ad ca shX X yX11_feed cX11_feed 7 (some .int) (gR 1) [.ref 0, .int v1, .int v2, .int v3, .int v4, .int v5] σ (some (.int r0)) σ' := by
  refine g_entry (by decide +kernel) (Nat.le_of_ble_eq_true rfl) ?_
  refine g_lvE (lv1 := [(0, .ref 0), (1, .int v1), (2, .int v2), (3, .int v3), (4, .int v4), (5, .int v5)]) rfl ?_
  unfold fX11_feed at h
  refine g_iload_n (pc := 0) dX11_feed_0 rfl 1 rfl ?_
  obtain ⟨r35, σ34, h33, h⟩ := g_bId h
  refine g_callSi (pc := 1) (st := []) hE.1 wsX11_100 (kX10_bytesIn hE n v1 σ h33) rfl (gR_ok (by decide) (by decide)) (Nat.le_of_ble_eq_true rfl) rfl dX11_feed_1 ?_
  refine g_iload_n (pc := 4) dX11_feed_4 rfl 2 rfl ?_
  obtain ⟨r38, σ37, h36, h⟩ := g_bId h
  refine g_callSi (pc := 5) (st := [.int r35]) hE.1 wsX11_100 (kX10_bytesIn hE n v2 σ34 h36) rfl (gR_ok (by decide) (by decide)) (Nat.le_of_ble_eq_true rfl) rfl dX11_feed_5 ?_
  refine g_iadd (pc := 8) dX11_feed_8 ?_
  refine g_iload_n (pc := 9) dX11_feed_9 rfl 3 rfl ?_
  obtain ⟨r41, σ40, h39, h⟩ := g_bId h
  refine g_callSi (pc := 10) (st := [.int (r35 + r38)]) hE.1 wsX11_100 (kX10_bytesIn hE n v3 σ37 h39) rfl (gR_ok (by decide) (by decide)) (Nat.le_of_ble_eq_true rfl) rfl dX11_feed_10 ?_
  refine g_iadd (pc := 13) dX11_feed_13 ?_
  refine g_iload (pc := 14) dX11_feed_14 4 rfl ?_
  obtain ⟨r44, σ43, h42, h⟩ := g_bId h
  refine g_callSi (pc := 16) (st := [.int ((r35 + r38) + r41)]) hE.1 wsX11_100 (kX10_bytesIn hE n v4 σ40 h42) rfl (gR_ok (by decide) (by decide)) (Nat.le_of_ble_eq_true rfl) rfl dX11_feed_16 ?_
  refine g_iadd (pc := 19) dX11_feed_19 ?_
  refine g_iload (pc := 20) dX11_feed_20 5 rfl ?_
  obtain ⟨r47, σ46, h45, h⟩ := g_bId h
  refine g_callSi (pc := 22) (st := [.int (((r35 + r38) + r41) + r44)]) hE.1 wsX11_100 (kX10_bytesIn hE n v5 σ43 h45) rfl (gR_ok (by decide) (by decide)) (Nat.le_of_ble_eq_true rfl) rfl dX11_feed_22 ?_
  refine g_iadd (pc := 25) dX11_feed_25 ?_
  refine g_istore (pc := 26) (lv1 := [(6, .int ((((r35 + r38) + r41) + r44) + r47)), (0, .ref 0), (1, .int v1), (2, .int v2), (3, .int v3), (4, .int v4), (5, .int v5)]) dX11_feed_26 (by decide) rfl ?_
  refine g_aload_n (pc := 28) dX11_feed_28 rfl 1 rfl ?_
  refine g_getR (pc := 29) wfX11_10 rfl rfl dX11_feed_29 ?_
  obtain ⟨r50, σ49, h48, h⟩ := g_bId h
  refine g_callVi (pc := 32) (st := []) hE.1 wvX11_104 rfl rfl (kX10_size hE σ46 h48) rfl (gR_ok (by decide) (by decide)) (Nat.le_of_ble_eq_true rfl) rfl dX11_feed_32 ?_
  refine g_iload (pc := 35) dX11_feed_35 0 rfl ?_
  refine g_iadd (pc := 37) dX11_feed_37 ?_
  refine g_sipush (pc := 38) (v := 280) dX11_feed_38 (by decide) ?_
  refine g_icmp_le (pc := 41) (tgt := 46) dX11_feed_41 (by decide) (fun c51 => ?_) (fun c51 => ?_)
  · have h := g_ift c51 h
    refine g_aload_n (pc := 46) dX11_feed_46 rfl 1 rfl ?_
    refine g_getR (pc := 47) wfX11_10 rfl rfl dX11_feed_47 ?_
    refine g_iload_n (pc := 50) dX11_feed_50 rfl 2 rfl ?_
    obtain ⟨σ53, h52, h⟩ := g_bVd h
    refine g_callVv (pc := 51) (st := []) hE.1 wvX11_108 rfl rfl (kX10_append hE n v1 σ49 h52) rfl (gR_ok (by decide) (by decide)) (Nat.le_of_ble_eq_true rfl) rfl dX11_feed_51 ?_
    refine g_aload_n (pc := 54) dX11_feed_54 rfl 1 rfl ?_
    refine g_getR (pc := 55) wfX11_10 rfl rfl dX11_feed_55 ?_
    refine g_iload_n (pc := 58) dX11_feed_58 rfl 3 rfl ?_
    obtain ⟨σ55, h54, h⟩ := g_bVd h
    refine g_callVv (pc := 59) (st := []) hE.1 wvX11_108 rfl rfl (kX10_append hE n v2 σ53 h54) rfl (gR_ok (by decide) (by decide)) (Nat.le_of_ble_eq_true rfl) rfl dX11_feed_59 ?_
    refine g_aload_n (pc := 62) dX11_feed_62 rfl 1 rfl ?_
    refine g_getR (pc := 63) wfX11_10 rfl rfl dX11_feed_63 ?_
    refine g_iload_n (pc := 66) dX11_feed_66 rfl 4 rfl ?_
    obtain ⟨σ57, h56, h⟩ := g_bVd h
    refine g_callVv (pc := 67) (st := []) hE.1 wvX11_108 rfl rfl (kX10_append hE n v3 σ55 h56) rfl (gR_ok (by decide) (by decide)) (Nat.le_of_ble_eq_true rfl) rfl dX11_feed_67 ?_
    refine g_aload_n (pc := 70) dX11_feed_70 rfl 1 rfl ?_
    refine g_getR (pc := 71) wfX11_10 rfl rfl dX11_feed_71 ?_
    refine g_iload (pc := 74) dX11_feed_74 5 rfl ?_
    obtain ⟨σ59, h58, h⟩ := g_bVd h
    refine g_callVv (pc := 76) (st := []) hE.1 wvX11_108 rfl rfl (kX10_append hE n v4 σ57 h58) rfl (gR_ok (by decide) (by decide)) (Nat.le_of_ble_eq_true rfl) rfl dX11_feed_76 ?_
    refine g_aload_n (pc := 79) dX11_feed_79 rfl 1 rfl ?_
    refine g_getR (pc := 80) wfX11_10 rfl rfl dX11_feed_80 ?_
    refine g_iload (pc := 83) dX11_feed_83 6 rfl ?_
    obtain ⟨σ61, h60, h⟩ := g_bVd h
    refine g_callVv (pc := 85) (st := []) hE.1 wvX11_108 rfl rfl (kX10_append hE n v5 σ59 h60) rfl (gR_ok (by decide) (by decide)) (Nat.le_of_ble_eq_true rfl) rfl dX11_feed_85 ?_
    refine g_aload_n (pc := 88) dX11_feed_88 rfl 1 rfl ?_
    refine g_getR (pc := 89) wfX11_10 rfl rfl dX11_feed_89 ?_
    obtain ⟨r64, σ63, h62, h⟩ := g_bId h
    refine g_callVi (pc := 92) (st := []) hE.1 wvX11_104 rfl rfl (kX10_size hE σ61 h62) rfl (gR_ok (by decide) (by decide)) (Nat.le_of_ble_eq_true rfl) rfl dX11_feed_92 ?_
    cases h
    exact g_iret (pc := 95) rfl rfl rfl rfl dX11_feed_95
  · have h := g_iff c51 h
    refine g_iconst (pc := 44) (v := (-1)) dX11_feed_44 (by decide) ?_
    cases h
    exact g_iret (pc := 45) rfl rfl rfl rfl dX11_feed_45
def fX11_end (v1 : Int32) (σ : gM) : Option (Int32 × gM) := g_bI (fX10_cut v1 σ) (fun r7 σ6 => if r7 &&& 1 = r7 then (some (r7, σ6)) else none)
set_option maxRecDepth 100000 in
theorem kX11_end (hE : gEX l dC dI ad ca X)  (v1 : Int32) (σ : gM) {r0 : Int32} {σ' : gM} (h : fX11_end v1 σ = some (r0, σ')) : g_C l dC dI ad ca shX X yX11_end cX11_end 2 (some .boolean) (gR 1) [.ref 0, .int v1] σ (some (.int r0)) σ' := by
  refine g_entry (by decide +kernel) (Nat.le_of_ble_eq_true rfl) ?_
  refine g_lvE (lv1 := [(0, .ref 0), (1, .int v1)]) rfl ?_
  unfold fX11_end at h
  refine g_aload_n (pc := 0) dX11_end_0 rfl 0 rfl ?_
  refine g_getR (pc := 1) wfX11_10 rfl rfl dX11_end_1 ?_
  refine g_iload_n (pc := 4) dX11_end_4 rfl 1 rfl ?_
  obtain ⟨r7, σ6, h5, h⟩ := g_bId h
  refine g_callVi (pc := 5) (st := []) hE.1 wvX11_112 rfl rfl (kX10_cut hE v1 σ h5) rfl (gR_ok (by decide) (by decide)) (Nat.le_of_ble_eq_true rfl) rfl dX11_end_5 ?_
  obtain ⟨c8, h⟩ := g_gd h
  cases h
  exact g_iret (pc := 8) rfl (g_nb c8) rfl rfl dX11_end_8
def fX11_fault (n : Nat) (v1 : Int32) (σ : gM) : Option (Int32 × gM) := if v1 = 0 then (g_bI (fX10_shelfFault n σ) (fun r16 σ15 => some (r16, σ15))) else (if v1 = 1 then (g_bI (fX10_scriptFault n σ) (fun r13 σ12 => some (r13, σ12))) else (some ((-2), σ)))
set_option maxRecDepth 100000 in
theorem kX11_fault (hE : gEX l dC dI ad ca X) (n : Nat)  (v1 : Int32) (σ : gM) {r0 : Int32} {σ' : gM} (h : fX11_fault n v1 σ = some (r0, σ')) : g_C l dC dI ad ca shX X yX11_fault cX11_fault 2 (some .int) (gR 9) [.ref 0, .int v1] σ (some (.int r0)) σ' := by
  refine g_entry (by decide +kernel) (Nat.le_of_ble_eq_true rfl) ?_
  refine g_lvE (lv1 := [(0, .ref 0), (1, .int v1)]) rfl ?_
  unfold fX11_fault at h
  refine g_iload_n (pc := 0) dX11_fault_0 rfl 1 rfl ?_
  refine g_if_ne (pc := 1) (tgt := 12) dX11_fault_1 (by decide) (fun c9 => ?_) (fun c9 => ?_)
  · have h := g_iff c9 h
    refine g_iload_n (pc := 12) dX11_fault_12 rfl 1 rfl ?_
    refine g_iconst (pc := 13) (v := 1) dX11_fault_13 (by decide) ?_
    refine g_icmp_ne (pc := 14) (tgt := 27) dX11_fault_14 (by decide) (fun c10 => ?_) (fun c10 => ?_)
    · have h := g_iff c10 h
      refine g_bipush (pc := 27) (v := (-2)) dX11_fault_27 (by decide) ?_
      cases h
      exact g_iret (pc := 29) rfl rfl rfl rfl dX11_fault_29
    · have h := g_ift c10 h
      refine g_aload_n (pc := 17) dX11_fault_17 rfl 0 rfl ?_
      refine g_getR (pc := 18) wfX11_10 rfl rfl dX11_fault_18 ?_
      obtain ⟨r13, σ12, h11, h⟩ := g_bId h
      refine g_callVi (pc := 21) (st := []) hE.1 wvX11_119 rfl rfl (kX10_scriptFault hE n σ h11) rfl (gR_ok (by decide) (by decide)) (Nat.le_of_ble_eq_true rfl) rfl dX11_fault_21 ?_
      refine g_goto (pc := 24) (tgt := 29) dX11_fault_24 (by decide) ?_
      cases h
      exact g_iret (pc := 29) rfl rfl rfl rfl dX11_fault_29
  · have h := g_ift c9 h
    refine g_aload_n (pc := 4) dX11_fault_4 rfl 0 rfl ?_
    refine g_getR (pc := 5) wfX11_10 rfl rfl dX11_fault_5 ?_
    obtain ⟨r16, σ15, h14, h⟩ := g_bId h
    refine g_callVi (pc := 8) (st := []) hE.1 wvX11_116 rfl rfl (kX10_shelfFault hE n σ h14) rfl (gR_ok (by decide) (by decide)) (Nat.le_of_ble_eq_true rfl) rfl dX11_fault_8 ?_
    cases h
    exact g_iret (pc := 11) rfl rfl rfl rfl dX11_fault_11
def fX11_takeShelf_b110 (n : Nat) (K54 : Int32 → gM → Option (Int32 × gM)) (v1 : Int32) (σ : gM) : Option (Int32 × gM) := K54 (v1 + 1) σ
set_option maxRecDepth 100000 in
theorem tX11_takeShelf_b110 (hE : gEX l dC dI ad ca X) {r0 : Int32} {σ' : gM} (n : Nat) (K54 : Int32 → gM → Option (Int32 × gM)) (hK54 : ∀ (v1 : Int32) (σ : gM), K54 v1 σ = some (r0, σ') → g_G l dC dI ad ca shX X cX11_takeShelf 2 RX11 (some .int) (gR 9) (some (.int r0)) σ' 54 [(0, .ref 0), (1, .int v1)] [] σ) (v1 : Int32)  (σ : gM) (h : fX11_takeShelf_b110 n K54 v1 σ = some (r0, σ')) : g_G l dC dI ad ca shX X cX11_takeShelf 2 RX11 (some .int) (gR 9) (some (.int r0)) σ' 110 [(0, .ref 0), (1, .int v1)] [] σ := by
  unfold fX11_takeShelf_b110 at h
  refine g_iinc (pc := 110) (v := v1 + 1) (lv1 := [(1, .int (v1 + 1)), (0, .ref 0)]) dX11_takeShelf_110 1 rfl rfl (by decide) rfl ?_
  refine g_goto (pc := 113) (tgt := 54) dX11_takeShelf_113 (by decide) ?_
  exact g_lv [1, 0] rfl (hK54 (v1 + 1) σ h)
def fX11_takeShelf_b54 (n : Nat) (K54 : Int32 → gM → Option (Int32 × gM)) (v1 : Int32) (σ : gM) : Option (Int32 × gM) := g_bI (fX10_byteCount σ) (fun r47 σ46 => if r47 ≤ v1 then (g_bV (fX9_forgetCosts n 0 σ46) (fun σ50 => g_bV (fX2_forget σ50) (fun σ52 => g_bV (fX3_forget 0 σ52) (fun σ54 => g_let (g_put σ54 0 15 0) (fun σ55 => g_bI (fX10_cut 0 σ55) (fun r59 σ58 => g_bI (fX6_addresses σ58) (fun r62 σ61 => some (r62, σ61)))))))) else (g_bI (fX10_byteAddress v1 σ46) (fun r65 σ64 => g_bI (fX6_isAddress r65 σ64) (fun r68 σ67 => if r68 = 0 then (fX11_takeShelf_b110 n K54 v1 σ67) else (g_bI (fX10_byteAddress v1 σ67) (fun r72 σ71 => g_bI (fX10_byteValue v1 σ71) (fun r75 σ74 => g_bI (fX8_carryOut n 0 0 r72 r75 0 0 σ74) (fun r78 σ77 => fX11_takeShelf_b110 n K54 v1 σ77))))))))
set_option maxRecDepth 100000 in
theorem tX11_takeShelf_b54 (hE : gEX l dC dI ad ca X) {r0 : Int32} {σ' : gM} (n : Nat) (K54 : Int32 → gM → Option (Int32 × gM)) (hK54 : ∀ (v1 : Int32) (σ : gM), K54 v1 σ = some (r0, σ') → g_G l dC dI ad ca shX X cX11_takeShelf 2 RX11 (some .int) (gR 9) (some (.int r0)) σ' 54 [(0, .ref 0), (1, .int v1)] [] σ) (v1 : Int32)  (σ : gM) (h : fX11_takeShelf_b54 n K54 v1 σ = some (r0, σ')) : g_G l dC dI ad ca shX X cX11_takeShelf 2 RX11 (some .int) (gR 9) (some (.int r0)) σ' 54 [(0, .ref 0), (1, .int v1)] [] σ := by
  unfold fX11_takeShelf_b54 at h
  refine g_iload_n (pc := 54) dX11_takeShelf_54 rfl 1 rfl ?_
  refine g_aload_n (pc := 55) dX11_takeShelf_55 rfl 0 rfl ?_
  refine g_getR (pc := 56) wfX11_10 rfl rfl dX11_takeShelf_56 ?_
  obtain ⟨r47, σ46, h45, h⟩ := g_bId h
  refine g_callVi (pc := 59) (st := [.int v1]) hE.1 wvX11_147 rfl rfl (kX10_byteCount hE σ h45) rfl (gR_ok (by decide) (by decide)) (Nat.le_of_ble_eq_true rfl) rfl dX11_takeShelf_59 ?_
  refine g_icmp_ge (pc := 62) (tgt := 116) dX11_takeShelf_62 (by decide) (fun c48 => ?_) (fun c48 => ?_)
  · have h := g_ift c48 h
    refine g_aload_n (pc := 116) dX11_takeShelf_116 rfl 0 rfl ?_
    refine g_getR (pc := 117) wfX11_35 rfl rfl dX11_takeShelf_117 ?_
    refine g_getR (pc := 120) wfX11_137 (sX_shelf (i := 0) (by decide)) rfl dX11_takeShelf_120 ?_
    obtain ⟨σ50, h49, h⟩ := g_bVd h
    refine g_callVv (pc := 123) (st := []) hE.1 wvX11_163 (sX_state (i := 0) (by decide)) rfl (kX9_forgetCosts hE n 0 (by decide) σ46 h49) rfl (gR_ok (by decide) (by decide)) (Nat.le_of_ble_eq_true rfl) rfl dX11_takeShelf_123 ?_
    refine g_aload_n (pc := 126) dX11_takeShelf_126 rfl 0 rfl ?_
    refine g_getR (pc := 127) wfX11_67 rfl rfl dX11_takeShelf_127 ?_
    obtain ⟨σ52, h51, h⟩ := g_bVd h
    refine g_callVv (pc := 130) (st := []) hE.1 wvX11_166 rfl rfl (kX2_forget hE σ50 h51) rfl (gR_ok (by decide) (by decide)) (Nat.le_of_ble_eq_true rfl) rfl dX11_takeShelf_130 ?_
    refine g_aload_n (pc := 133) dX11_takeShelf_133 rfl 0 rfl ?_
    refine g_getR (pc := 134) wfX11_57 rfl rfl dX11_takeShelf_134 ?_
    obtain ⟨σ54, h53, h⟩ := g_bVd h
    refine g_callVv (pc := 137) (st := []) hE.1 wvX11_169 (sX_log (i := 0) (by decide)) rfl (kX3_forget hE 0 (by decide) σ52 h53) rfl (gR_ok (by decide) (by decide)) (Nat.le_of_ble_eq_true rfl) rfl dX11_takeShelf_137 ?_
    refine g_aload_n (pc := 140) dX11_takeShelf_140 rfl 0 rfl ?_
    refine g_iconst (pc := 141) (v := 0) dX11_takeShelf_141 (by decide) ?_
    obtain ⟨σ55, e56, h⟩ := g_ltd h
    refine g_putI (pc := 142) wfX11_95 rfl rfl (by decide) (by decide) e56 dX11_takeShelf_142 ?_
    refine g_aload_n (pc := 145) dX11_takeShelf_145 rfl 0 rfl ?_
    refine g_getR (pc := 146) wfX11_10 rfl rfl dX11_takeShelf_146 ?_
    refine g_iconst (pc := 149) (v := 0) dX11_takeShelf_149 (by decide) ?_
    obtain ⟨r59, σ58, h57, h⟩ := g_bId h
    refine g_callVi (pc := 150) (st := []) hE.1 wvX11_112 rfl rfl (kX10_cut hE 0 σ55 h57) rfl (gR_ok (by decide) (by decide)) (Nat.le_of_ble_eq_true rfl) rfl dX11_takeShelf_150 ?_
    refine g_pop (pc := 153) dX11_takeShelf_153 rfl ?_
    refine g_aload_n (pc := 154) dX11_takeShelf_154 rfl 0 rfl ?_
    refine g_getR (pc := 155) wfX11_19 rfl rfl dX11_takeShelf_155 ?_
    obtain ⟨r62, σ61, h60, h⟩ := g_bId h
    refine g_callVi (pc := 158) (st := []) hE.1 wvX11_170 rfl rfl (kX6_addresses hE σ58 h60) rfl (gR_ok (by decide) (by decide)) (Nat.le_of_ble_eq_true rfl) rfl dX11_takeShelf_158 ?_
    cases h
    exact g_iret (pc := 161) rfl rfl rfl rfl dX11_takeShelf_161
  · have h := g_iff c48 h
    refine g_aload_n (pc := 65) dX11_takeShelf_65 rfl 0 rfl ?_
    refine g_getR (pc := 66) wfX11_19 rfl rfl dX11_takeShelf_66 ?_
    refine g_aload_n (pc := 69) dX11_takeShelf_69 rfl 0 rfl ?_
    refine g_getR (pc := 70) wfX11_10 rfl rfl dX11_takeShelf_70 ?_
    refine g_iload_n (pc := 73) dX11_takeShelf_73 rfl 1 rfl ?_
    obtain ⟨r65, σ64, h63, h⟩ := g_bId h
    refine g_callVi (pc := 74) (st := [.ref 5]) hE.1 wvX11_150 rfl rfl (kX10_byteAddress hE v1 σ46 h63) rfl (gR_ok (by decide) (by decide)) (Nat.le_of_ble_eq_true rfl) rfl dX11_takeShelf_74 ?_
    obtain ⟨r68, σ67, h66, h⟩ := g_bId h
    refine g_callVi (pc := 77) (st := []) hE.1 wvX11_153 rfl rfl (kX6_isAddress hE r65 σ64 h66) rfl (gR_ok (by decide) (by decide)) (Nat.le_of_ble_eq_true rfl) rfl dX11_takeShelf_77 ?_
    refine g_if_eq (pc := 80) (tgt := 110) dX11_takeShelf_80 (by decide) (fun c69 => ?_) (fun c69 => ?_)
    · have h := g_ift c69 h
      exact g_lv [0, 1] rfl (tX11_takeShelf_b110 hE n K54 hK54 v1 σ67 h)
    · have h := g_iff c69 h
      refine g_aload_n (pc := 83) dX11_takeShelf_83 rfl 0 rfl ?_
      refine g_getR (pc := 84) wfX11_35 rfl rfl dX11_takeShelf_84 ?_
      refine g_iconst (pc := 87) (v := 0) dX11_takeShelf_87 (by decide) ?_
      refine g_aload_n (pc := 88) dX11_takeShelf_88 rfl 0 rfl ?_
      refine g_getR (pc := 89) wfX11_10 rfl rfl dX11_takeShelf_89 ?_
      refine g_iload_n (pc := 92) dX11_takeShelf_92 rfl 1 rfl ?_
      obtain ⟨r72, σ71, h70, h⟩ := g_bId h
      refine g_callVi (pc := 93) (st := [.int 0, .ref (9 + 5 * 0)]) hE.1 wvX11_150 rfl rfl (kX10_byteAddress hE v1 σ67 h70) rfl (gR_ok (by decide) (by decide)) (Nat.le_of_ble_eq_true rfl) rfl dX11_takeShelf_93 ?_
      refine g_aload_n (pc := 96) dX11_takeShelf_96 rfl 0 rfl ?_
      refine g_getR (pc := 97) wfX11_10 rfl rfl dX11_takeShelf_97 ?_
      refine g_iload_n (pc := 100) dX11_takeShelf_100 rfl 1 rfl ?_
      obtain ⟨r75, σ74, h73, h⟩ := g_bId h
      refine g_callVi (pc := 101) (st := [.int r72, .int 0, .ref (9 + 5 * 0)]) hE.1 wvX11_156 rfl rfl (kX10_byteValue hE v1 σ71 h73) rfl (gR_ok (by decide) (by decide)) (Nat.le_of_ble_eq_true rfl) rfl dX11_takeShelf_101 ?_
      refine g_iconst (pc := 104) (v := 0) dX11_takeShelf_104 (by decide) ?_
      refine g_iconst (pc := 105) (v := 0) dX11_takeShelf_105 (by decide) ?_
      obtain ⟨r78, σ77, h76, h⟩ := g_bId h
      refine g_callVi (pc := 106) (st := []) hE.1 wvX11_159 (sX_shelf (i := 0) (by decide)) rfl (kX8_carryOut hE n 0 (by decide) 0 r72 r75 0 0 σ74 h76) rfl (gR_ok (by decide) (by decide)) (Nat.le_of_ble_eq_true rfl) rfl dX11_takeShelf_106 ?_
      refine g_pop (pc := 109) dX11_takeShelf_109 rfl ?_
      exact g_lv [0, 1] rfl (tX11_takeShelf_b110 hE n K54 hK54 v1 σ77 h)
def fX11_takeShelf_L54 (n : Nat) : Nat → Int32 → gM → Option (Int32 × gM)
  | 0 => fun _ _ => none
  | k + 1 => fX11_takeShelf_b54 n (fX11_takeShelf_L54 n k)
theorem tX11_takeShelf_L54 (hE : gEX l dC dI ad ca X) {r0 : Int32} {σ' : gM} (n : Nat)  : ∀ (k : Nat) (v1 : Int32) (σ : gM), fX11_takeShelf_L54 n k v1 σ = some (r0, σ') → g_G l dC dI ad ca shX X cX11_takeShelf 2 RX11 (some .int) (gR 9) (some (.int r0)) σ' 54 [(0, .ref 0), (1, .int v1)] [] σ := by
  intro k
  induction k with
  | zero => intro v1 σ h; cases h
  | succ k ih => intro v1 σ h; exact tX11_takeShelf_b54 hE n (fX11_takeShelf_L54 n k) ih v1 σ h
def fX11_takeShelf (n : Nat) (σ : gM) : Option (Int32 × gM) := g_bI (fX10_shelfFault n σ) (fun r81 σ80 => if r81 = (-1) then (g_bV (fX6_take σ80) (fun σ84 => g_bV (fX1_fill n (σ84.1 5 3) σ84) (fun σ86 => g_bV (fX9_start n 0 σ86) (fun σ88 => fX11_takeShelf_L54 n n 0 σ88)))) else (some ((-1), σ80)))
set_option maxRecDepth 100000 in
theorem kX11_takeShelf (hE : gEX l dC dI ad ca X) (n : Nat)  (σ : gM) {r0 : Int32} {σ' : gM} (h : fX11_takeShelf n σ = some (r0, σ')) : g_C l dC dI ad ca shX X yX11_takeShelf cX11_takeShelf 2 (some .int) (gR 9) [.ref 0] σ (some (.int r0)) σ' := by
  refine g_entry (by decide +kernel) (Nat.le_of_ble_eq_true rfl) ?_
  refine g_lvE (lv1 := [(0, .ref 0)]) rfl ?_
  unfold fX11_takeShelf at h
  refine g_aload_n (pc := 0) dX11_takeShelf_0 rfl 0 rfl ?_
  refine g_getR (pc := 1) wfX11_10 rfl rfl dX11_takeShelf_1 ?_
  obtain ⟨r81, σ80, h79, h⟩ := g_bId h
  refine g_callVi (pc := 4) (st := []) hE.1 wvX11_116 rfl rfl (kX10_shelfFault hE n σ h79) rfl (gR_ok (by decide) (by decide)) (Nat.le_of_ble_eq_true rfl) rfl dX11_takeShelf_4 ?_
  refine g_iconst (pc := 7) (v := (-1)) dX11_takeShelf_7 (by decide) ?_
  refine g_icmp_eq (pc := 8) (tgt := 13) dX11_takeShelf_8 (by decide) (fun c82 => ?_) (fun c82 => ?_)
  · have h := g_ift c82 h
    refine g_aload_n (pc := 13) dX11_takeShelf_13 rfl 0 rfl ?_
    refine g_getR (pc := 14) wfX11_19 rfl rfl dX11_takeShelf_14 ?_
    refine g_aload_n (pc := 17) dX11_takeShelf_17 rfl 0 rfl ?_
    refine g_getR (pc := 18) wfX11_10 rfl rfl dX11_takeShelf_18 ?_
    obtain ⟨σ84, h83, h⟩ := g_bVd h
    refine g_callVv (pc := 21) (st := []) hE.1 wvX11_128 rfl rfl (kX6_take hE σ80 h83) rfl (gR_ok (by decide) (by decide)) (Nat.le_of_ble_eq_true rfl) rfl dX11_takeShelf_21 ?_
    refine g_aload_n (pc := 24) dX11_takeShelf_24 rfl 0 rfl ?_
    refine g_getR (pc := 25) wfX11_26 rfl rfl dX11_takeShelf_25 ?_
    refine g_aload_n (pc := 28) dX11_takeShelf_28 rfl 0 rfl ?_
    refine g_getR (pc := 29) wfX11_19 rfl rfl dX11_takeShelf_29 ?_
    refine g_getI (pc := 32) wfX11_132 rfl rfl dX11_takeShelf_32 ?_
    obtain ⟨σ86, h85, h⟩ := g_bVd h
    refine g_callVv (pc := 35) (st := []) hE.1 wvX11_134 rfl rfl (kX1_fill hE n (σ84.1 5 3) σ84 h85) rfl (gR_ok (by decide) (by decide)) (Nat.le_of_ble_eq_true rfl) rfl dX11_takeShelf_35 ?_
    refine g_aload_n (pc := 38) dX11_takeShelf_38 rfl 0 rfl ?_
    refine g_getR (pc := 39) wfX11_35 rfl rfl dX11_takeShelf_39 ?_
    refine g_getR (pc := 42) wfX11_137 (sX_shelf (i := 0) (by decide)) rfl dX11_takeShelf_42 ?_
    refine g_aload_n (pc := 45) dX11_takeShelf_45 rfl 0 rfl ?_
    refine g_getR (pc := 46) wfX11_19 rfl rfl dX11_takeShelf_46 ?_
    obtain ⟨σ88, h87, h⟩ := g_bVd h
    refine g_callVv (pc := 49) (st := []) hE.1 wvX11_141 (sX_state (i := 0) (by decide)) rfl (kX9_start hE n 0 (by decide) σ86 h87) rfl (gR_ok (by decide) (by decide)) (Nat.le_of_ble_eq_true rfl) rfl dX11_takeShelf_49 ?_
    refine g_iconst (pc := 52) (v := 0) dX11_takeShelf_52 (by decide) ?_
    refine g_istore_n (pc := 53) (lv1 := [(1, .int 0), (0, .ref 0)]) dX11_takeShelf_53 rfl (by decide) rfl ?_
    exact g_lv [1, 0] rfl (tX11_takeShelf_L54 hE n n 0 σ88 h)
  · have h := g_iff c82 h
    refine g_iconst (pc := 11) (v := (-1)) dX11_takeShelf_11 (by decide) ?_
    cases h
    exact g_iret (pc := 12) rfl rfl rfl rfl dX11_takeShelf_12
def fX11_takeScript (n : Nat) (σ : gM) : Option (Int32 × gM) := if (σ.1 0 13) < 0 then (some ((-1), σ)) else (if 4 ≤ (σ.1 0 13) then (some ((-1), σ)) else (if ¬ ((σ.1 0 13) < 0 ∨ 4 ≤ (σ.1 0 13).toNatClampNeg) then (g_bI (fX10_scriptFault n σ) (fun r23 σ22 => if r23 = (-1) then (if ¬ ((σ22.1 0 13) < 0 ∨ 4 ≤ (σ22.1 0 13).toNatClampNeg) then (g_bV (fX10_script σ22) (fun σ27 => g_bV (fX7_copy ((σ22.1 0 13).toNatClampNeg) 4 σ27) (fun σ29 => g_bI (fX10_cut 0 σ29) (fun r32 σ31 => g_let (g_put σ31 0 13 ((σ31.1 0 13) + 1)) (fun σ33 => some ((σ33.1 0 13) - 1, σ33)))))) else none) else (some ((-1), σ22)))) else none))
set_option maxRecDepth 100000 in
theorem kX11_takeScript (hE : gEX l dC dI ad ca X) (n : Nat)  (σ : gM) {r0 : Int32} {σ' : gM} (h : fX11_takeScript n σ = some (r0, σ')) : g_C l dC dI ad ca shX X yX11_takeScript cX11_takeScript 1 (some .int) (gR 8) [.ref 0] σ (some (.int r0)) σ' := by
  refine g_entry (by decide +kernel) (Nat.le_of_ble_eq_true rfl) ?_
  refine g_lvE (lv1 := [(0, .ref 0)]) rfl ?_
  unfold fX11_takeScript at h
  refine g_aload_n (pc := 0) dX11_takeScript_0 rfl 0 rfl ?_
  refine g_getI (pc := 1) wfX11_88 rfl rfl dX11_takeScript_1 ?_
  refine g_if_lt (pc := 4) (tgt := 31) dX11_takeScript_4 (by decide) (fun c18 => ?_) (fun c18 => ?_)
  · have h := g_ift c18 h
    refine g_iconst (pc := 31) (v := (-1)) dX11_takeScript_31 (by decide) ?_
    cases h
    exact g_iret (pc := 32) rfl rfl rfl rfl dX11_takeScript_32
  · have h := g_iff c18 h
    refine g_aload_n (pc := 7) dX11_takeScript_7 rfl 0 rfl ?_
    refine g_getI (pc := 8) wfX11_88 rfl rfl dX11_takeScript_8 ?_
    refine g_aload_n (pc := 11) dX11_takeScript_11 rfl 0 rfl ?_
    refine g_getR (pc := 12) wfX11_80 rfl rfl dX11_takeScript_12 ?_
    refine g_alenQ (pc := 15) (qs := [35, 38, 41, 44]) rfl dX11_takeScript_15 ?_
    refine g_icmp_ge (pc := 16) (tgt := 31) dX11_takeScript_16 (by decide) (fun c19 => ?_) (fun c19 => ?_)
    · have h := g_ift c19 h
      refine g_iconst (pc := 31) (v := (-1)) dX11_takeScript_31 (by decide) ?_
      cases h
      exact g_iret (pc := 32) rfl rfl rfl rfl dX11_takeScript_32
    · have h := g_iff c19 h
      refine g_aload_n (pc := 19) dX11_takeScript_19 rfl 0 rfl ?_
      refine g_getR (pc := 20) wfX11_80 rfl rfl dX11_takeScript_20 ?_
      refine g_aload_n (pc := 23) dX11_takeScript_23 rfl 0 rfl ?_
      refine g_getI (pc := 24) wfX11_88 rfl rfl dX11_takeScript_24 ?_
      obtain ⟨c20, h⟩ := g_gd h
      refine g_aald (pc := 27) (qs := [35, 38, 41, 44]) rfl c20 (sX_pick c20) dX11_takeScript_27 ?_
      refine g_ifnonnull (pc := 28) (tgt := 33) dX11_takeScript_28 (by decide) ?_
      refine g_aload_n (pc := 33) dX11_takeScript_33 rfl 0 rfl ?_
      refine g_getR (pc := 34) wfX11_10 rfl rfl dX11_takeScript_34 ?_
      obtain ⟨r23, σ22, h21, h⟩ := g_bId h
      refine g_callVi (pc := 37) (st := []) hE.1 wvX11_119 rfl rfl (kX10_scriptFault hE n σ h21) rfl (gR_ok (by decide) (by decide)) (Nat.le_of_ble_eq_true rfl) rfl dX11_takeScript_37 ?_
      refine g_iconst (pc := 40) (v := (-1)) dX11_takeScript_40 (by decide) ?_
      refine g_icmp_eq (pc := 41) (tgt := 46) dX11_takeScript_41 (by decide) (fun c24 => ?_) (fun c24 => ?_)
      · have h := g_ift c24 h
        refine g_aload_n (pc := 46) dX11_takeScript_46 rfl 0 rfl ?_
        refine g_getR (pc := 47) wfX11_80 rfl rfl dX11_takeScript_47 ?_
        refine g_aload_n (pc := 50) dX11_takeScript_50 rfl 0 rfl ?_
        refine g_getI (pc := 51) wfX11_88 rfl rfl dX11_takeScript_51 ?_
        obtain ⟨c25, h⟩ := g_gd h
        refine g_aald (pc := 54) (qs := [35, 38, 41, 44]) rfl c25 (sX_pick c25) dX11_takeScript_54 ?_
        refine g_aload_n (pc := 55) dX11_takeScript_55 rfl 0 rfl ?_
        refine g_getR (pc := 56) wfX11_10 rfl rfl dX11_takeScript_56 ?_
        obtain ⟨σ27, h26, h⟩ := g_bVd h
        refine g_callVr (pc := 59) (st := [.ref (35 + 3 * (σ22.1 0 13).toNatClampNeg)]) hE.1 wvX11_173 rfl rfl (kX10_script hE σ22 h26) rfl (gR_ok (by decide) (by decide)) (Nat.le_of_ble_eq_true rfl) rfl dX11_takeScript_59 ?_
        obtain ⟨σ29, h28, h⟩ := g_bVd h
        refine g_callVv (pc := 62) (st := []) hE.1 wvX11_177 (sX_script (i := (σ22.1 0 13).toNatClampNeg) (g_in5 c25)) rfl (kX7_copy hE ((σ22.1 0 13).toNatClampNeg) (g_in5 c25) 4 (by decide) σ27 h28) rfl (gR_ok (by decide) (by decide)) (Nat.le_of_ble_eq_true rfl) rfl dX11_takeScript_62 ?_
        refine g_aload_n (pc := 65) dX11_takeScript_65 rfl 0 rfl ?_
        refine g_getR (pc := 66) wfX11_10 rfl rfl dX11_takeScript_66 ?_
        refine g_iconst (pc := 69) (v := 0) dX11_takeScript_69 (by decide) ?_
        obtain ⟨r32, σ31, h30, h⟩ := g_bId h
        refine g_callVi (pc := 70) (st := []) hE.1 wvX11_112 rfl rfl (kX10_cut hE 0 σ29 h30) rfl (gR_ok (by decide) (by decide)) (Nat.le_of_ble_eq_true rfl) rfl dX11_takeScript_70 ?_
        refine g_pop (pc := 73) dX11_takeScript_73 rfl ?_
        refine g_aload_n (pc := 74) dX11_takeScript_74 rfl 0 rfl ?_
        refine g_dup (pc := 75) dX11_takeScript_75 rfl ?_
        refine g_getI (pc := 76) wfX11_88 rfl rfl dX11_takeScript_76 ?_
        refine g_iconst (pc := 79) (v := 1) dX11_takeScript_79 (by decide) ?_
        refine g_iadd (pc := 80) dX11_takeScript_80 ?_
        obtain ⟨σ33, e34, h⟩ := g_ltd h
        refine g_putI (pc := 81) wfX11_88 rfl rfl rfl rfl e34 dX11_takeScript_81 ?_
        refine g_aload_n (pc := 84) dX11_takeScript_84 rfl 0 rfl ?_
        refine g_getI (pc := 85) wfX11_88 rfl rfl dX11_takeScript_85 ?_
        refine g_iconst (pc := 88) (v := 1) dX11_takeScript_88 (by decide) ?_
        refine g_isub (pc := 89) dX11_takeScript_89 ?_
        cases h
        exact g_iret (pc := 90) rfl rfl rfl rfl dX11_takeScript_90
      · have h := g_iff c24 h
        refine g_iconst (pc := 44) (v := (-1)) dX11_takeScript_44 (by decide) ?_
        cases h
        exact g_iret (pc := 45) rfl rfl rfl rfl dX11_takeScript_45
def fX11_text (n : Nat) (v1 : Int32) (σ : gM) : Option (Int32 × gM) := if v1 = 0 then (g_bI (fX11_takeShelf n σ) (fun r16 σ15 => some (r16, σ15))) else (if v1 = 1 then (g_bI (fX11_takeScript n σ) (fun r13 σ12 => some (r13, σ12))) else (some ((-1), σ)))
set_option maxRecDepth 100000 in
theorem kX11_text (hE : gEX l dC dI ad ca X) (n : Nat)  (v1 : Int32) (σ : gM) {r0 : Int32} {σ' : gM} (h : fX11_text n v1 σ = some (r0, σ')) : g_C l dC dI ad ca shX X yX11_text cX11_text 2 (some .int) (gR 10) [.ref 0, .int v1] σ (some (.int r0)) σ' := by
  refine g_entry (by decide +kernel) (Nat.le_of_ble_eq_true rfl) ?_
  refine g_lvE (lv1 := [(0, .ref 0), (1, .int v1)]) rfl ?_
  unfold fX11_text at h
  refine g_iload_n (pc := 0) dX11_text_0 rfl 1 rfl ?_
  refine g_if_ne (pc := 1) (tgt := 9) dX11_text_1 (by decide) (fun c9 => ?_) (fun c9 => ?_)
  · have h := g_iff c9 h
    refine g_iload_n (pc := 9) dX11_text_9 rfl 1 rfl ?_
    refine g_iconst (pc := 10) (v := 1) dX11_text_10 (by decide) ?_
    refine g_icmp_ne (pc := 11) (tgt := 21) dX11_text_11 (by decide) (fun c10 => ?_) (fun c10 => ?_)
    · have h := g_iff c10 h
      refine g_iconst (pc := 21) (v := (-1)) dX11_text_21 (by decide) ?_
      cases h
      exact g_iret (pc := 22) rfl rfl rfl rfl dX11_text_22
    · have h := g_ift c10 h
      refine g_aload_n (pc := 14) dX11_text_14 rfl 0 rfl ?_
      obtain ⟨r13, σ12, h11, h⟩ := g_bId h
      refine g_callVi (pc := 15) (st := []) hE.1 wvX11_125 rfl rfl (kX11_takeScript hE n σ h11) rfl (gR_ok (by decide) (by decide)) (Nat.le_of_ble_eq_true rfl) rfl dX11_text_15 ?_
      refine g_goto (pc := 18) (tgt := 22) dX11_text_18 (by decide) ?_
      cases h
      exact g_iret (pc := 22) rfl rfl rfl rfl dX11_text_22
  · have h := g_ift c9 h
    refine g_aload_n (pc := 4) dX11_text_4 rfl 0 rfl ?_
    obtain ⟨r16, σ15, h14, h⟩ := g_bId h
    refine g_callVi (pc := 5) (st := []) hE.1 wvX11_122 rfl rfl (kX11_takeShelf hE n σ h14) rfl (gR_ok (by decide) (by decide)) (Nat.le_of_ble_eq_true rfl) rfl dX11_text_5 ?_
    cases h
    exact g_iret (pc := 8) rfl rfl rfl rfl dX11_text_8
end WKX4
