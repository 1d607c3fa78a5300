section WKM3
variable {l : Launch} {dC : Nat → ClassId} {dI : Nat → Nat → Nat} {ad : Nat → Nat} {ca : Nat → ClassId} {X : (Nat → Prop) → State → Heap → Prop}

def fX12_loses_b18 (n : Nat) (w : Nat) (K18 : Int32 → Int32 → gM → Option (gM)) (v1 : Int32) (v2 : Int32) (σ : gM) : Option (gM) := if 48 ≤ v2 then (some σ) else (if ¬ (((48 * v1) + v2) < 0 ∨ 616 ≤ ((48 * v1) + v2).toNatClampNeg) then (g_let (g_put σ w (((48 * v1) + v2).toNatClampNeg) 0) (fun σ13 => K18 v1 (v2 + 1) σ13)) else none)
set_option maxRecDepth 100000 in
theorem tX12_loses_b18 (hE : gEM l dC dI ad ca X) {σ' : gM} (n : Nat) (w : Nat) (hw : shM[w]? = some (.inl (.int, 616))) (K18 : Int32 → Int32 → gM → Option (gM)) (hK18 : ∀ (v1 : Int32) (v2 : Int32) (σ : gM), K18 v1 v2 σ = some σ' → g_G l dC dI ad ca shM X cX12_loses 3 RX12 none (gR 0) none σ' 18 [(0, .ref w), (1, .int v1), (2, .int v2)] [] σ) (v1 : Int32) (v2 : Int32)  (σ : gM) (h : fX12_loses_b18 n w K18 v1 v2 σ = some σ') : g_G l dC dI ad ca shM X cX12_loses 3 RX12 none (gR 0) none σ' 18 [(0, .ref w), (1, .int v1), (2, .int v2)] [] σ := by
  unfold fX12_loses_b18 at h
  refine g_iload_n (pc := 18) dX12_loses_18 rfl 2 rfl ?_
  refine g_bipush (pc := 19) (v := 48) dX12_loses_19 (by decide) ?_
  refine g_icmp_ge (pc := 21) (tgt := 39) dX12_loses_21 (by decide) (fun c11 => ?_) (fun c11 => ?_)
  · have h := g_ift c11 h
    cases h
    exact g_vret (pc := 39) rfl rfl rfl dX12_loses_39
  · have h := g_iff c11 h
    refine g_aload_n (pc := 24) dX12_loses_24 rfl 0 rfl ?_
    refine g_bipush (pc := 25) (v := 48) dX12_loses_25 (by decide) ?_
    refine g_iload_n (pc := 27) dX12_loses_27 rfl 1 rfl ?_
    refine g_imul (pc := 28) dX12_loses_28 ?_
    refine g_iload_n (pc := 29) dX12_loses_29 rfl 2 rfl ?_
    refine g_iadd (pc := 30) dX12_loses_30 ?_
    refine g_iconst (pc := 31) (v := 0) dX12_loses_31 (by decide) ?_
    obtain ⟨c12, h⟩ := g_gd h
    obtain ⟨σ13, e14, h⟩ := g_ltd h
    refine g_iast (pc := 32) hw c12 rfl e14 dX12_loses_32 ?_
    refine g_iinc (pc := 33) (v := v2 + 1) (lv1 := [(2, .int (v2 + 1)), (0, .ref w), (1, .int v1)]) dX12_loses_33 2 rfl rfl (by decide) rfl ?_
    refine g_goto (pc := 36) (tgt := 18) dX12_loses_36 (by decide) ?_
    exact g_lv [1, 2, 0] rfl (hK18 v1 (v2 + 1) σ13 h)
def fX12_loses_L18 (n : Nat) (w : Nat) : Nat → Int32 → Int32 → gM → Option (gM)
  | 0 => fun _ _ _ => none
  | k + 1 => fX12_loses_b18 n w (fX12_loses_L18 n w k)
theorem tX12_loses_L18 (hE : gEM l dC dI ad ca X) {σ' : gM} (n : Nat) (w : Nat) (hw : shM[w]? = some (.inl (.int, 616)))  : ∀ (k : Nat) (v1 : Int32) (v2 : Int32) (σ : gM), fX12_loses_L18 n w k v1 v2 σ = some σ' → g_G l dC dI ad ca shM X cX12_loses 3 RX12 none (gR 0) none σ' 18 [(0, .ref w), (1, .int v1), (2, .int v2)] [] σ := by
  intro k
  induction k with
  | zero => intro v1 v2 σ h; cases h
  | succ k ih => intro v1 v2 σ h; exact tX12_loses_b18 hE n w hw (fX12_loses_L18 n w k) ih v1 v2 σ h
def fX12_loses (n : Nat) (w : Nat) (v1 : Int32) (σ : gM) : Option (gM) := if ¬ ((384 + v1) < 0 ∨ 616 ≤ (384 + v1).toNatClampNeg) then (g_let (g_put σ w ((384 + v1).toNatClampNeg) 1) (fun σ16 => if ¬ ((392 + v1) < 0 ∨ 616 ≤ (392 + v1).toNatClampNeg) then (g_let (g_put σ16 w ((392 + v1).toNatClampNeg) 0) (fun σ19 => fX12_loses_L18 n w n v1 0 σ19)) else none)) else none
set_option maxRecDepth 100000 in
theorem kX12_loses (hE : gEM l dC dI ad ca X) (n : Nat) (w : Nat) (hw : shM[w]? = some (.inl (.int, 616)))  (v1 : Int32) (σ : gM) {σ' : gM} (h : fX12_loses n w v1 σ = some σ') : g_C l dC dI ad ca shM X yX12_loses cX12_loses 3 none (gR 0) [.ref w, .int v1] σ none σ' := by
  refine g_entry (by decide +kernel) (Nat.le_of_ble_eq_true rfl) ?_
  refine g_lvE (lv1 := [(0, .ref w), (1, .int v1)]) rfl ?_
  unfold fX12_loses at h
  refine g_aload_n (pc := 0) dX12_loses_0 rfl 0 rfl ?_
  refine g_sipush (pc := 1) (v := 384) dX12_loses_1 (by decide) ?_
  refine g_iload_n (pc := 4) dX12_loses_4 rfl 1 rfl ?_
  refine g_iadd (pc := 5) dX12_loses_5 ?_
  refine g_iconst (pc := 6) (v := 1) dX12_loses_6 (by decide) ?_
  obtain ⟨c15, h⟩ := g_gd h
  obtain ⟨σ16, e17, h⟩ := g_ltd h
  refine g_iast (pc := 7) hw c15 rfl e17 dX12_loses_7 ?_
  refine g_aload_n (pc := 8) dX12_loses_8 rfl 0 rfl ?_
  refine g_sipush (pc := 9) (v := 392) dX12_loses_9 (by decide) ?_
  refine g_iload_n (pc := 12) dX12_loses_12 rfl 1 rfl ?_
  refine g_iadd (pc := 13) dX12_loses_13 ?_
  refine g_iconst (pc := 14) (v := 0) dX12_loses_14 (by decide) ?_
  obtain ⟨c18, h⟩ := g_gd h
  obtain ⟨σ19, e20, h⟩ := g_ltd h
  refine g_iast (pc := 15) hw c18 rfl e20 dX12_loses_15 ?_
  refine g_iconst (pc := 16) (v := 0) dX12_loses_16 (by decide) ?_
  refine g_istore_n (pc := 17) (lv1 := [(2, .int 0), (0, .ref w), (1, .int v1)]) dX12_loses_17 rfl (by decide) rfl ?_
  exact g_lv [1, 2, 0] rfl (tX12_loses_L18 hE n w hw n v1 0 σ19 h)
def fX12_rebuilds_b71 (n : Nat) (w : Nat) (K19 : Int32 → Int32 → Int32 → Int32 → gM → Option (gM)) (K43 : Int32 → Int32 → Int32 → Int32 → Int32 → gM → Option (gM)) (v2 : Int32) (v3 : Int32) (v4 : Int32) (v5 : Int32) (v6 : Int32) (σ : gM) : Option (gM) := K43 v2 v3 v4 v5 (v6 + 1) σ
set_option maxRecDepth 100000 in
theorem tX12_rebuilds_b71 (hE : gEM l dC dI ad ca X) {σ' : gM} (n : Nat) (w : Nat) (hw : shM[w]? = some (.inl (.int, 616))) (K19 : Int32 → Int32 → Int32 → Int32 → gM → Option (gM)) (hK19 : ∀ (v2 : Int32) (v3 : Int32) (v4 : Int32) (v5 : Int32) (σ : gM), K19 v2 v3 v4 v5 σ = some σ' → g_G l dC dI ad ca shM X cX12_rebuilds 7 RX12 none (gR 3) none σ' 19 [(0, .ref 0), (1, .ref w), (2, .int v2), (3, .int v3), (4, .int v4), (5, .int v5)] [] σ) (K43 : Int32 → Int32 → Int32 → Int32 → Int32 → gM → Option (gM)) (hK43 : ∀ (v2 : Int32) (v3 : Int32) (v4 : Int32) (v5 : Int32) (v6 : Int32) (σ : gM), K43 v2 v3 v4 v5 v6 σ = some σ' → g_G l dC dI ad ca shM X cX12_rebuilds 7 RX12 none (gR 3) none σ' 43 [(0, .ref 0), (1, .ref w), (2, .int v2), (3, .int v3), (4, .int v4), (5, .int v5), (6, .int v6)] [] σ) (v2 : Int32) (v3 : Int32) (v4 : Int32) (v5 : Int32) (v6 : Int32)  (σ : gM) (h : fX12_rebuilds_b71 n w K19 K43 v2 v3 v4 v5 v6 σ = some σ') : g_G l dC dI ad ca shM X cX12_rebuilds 7 RX12 none (gR 3) none σ' 71 [(0, .ref 0), (1, .ref w), (2, .int v2), (3, .int v3), (4, .int v4), (5, .int v5), (6, .int v6)] [] σ := by
  unfold fX12_rebuilds_b71 at h
  refine g_iinc (pc := 71) (v := v6 + 1) (lv1 := [(6, .int (v6 + 1)), (0, .ref 0), (1, .ref w), (2, .int v2), (3, .int v3), (4, .int v4), (5, .int v5)]) dX12_rebuilds_71 6 rfl rfl (by decide) rfl ?_
  refine g_goto (pc := 74) (tgt := 43) dX12_rebuilds_74 (by decide) ?_
  exact g_lv [1, 2, 3, 4, 5, 6, 0] rfl (hK43 v2 v3 v4 v5 (v6 + 1) σ h)
def fX12_rebuilds_b43 (n : Nat) (w : Nat) (K19 : Int32 → Int32 → Int32 → Int32 → gM → Option (gM)) (K43 : Int32 → Int32 → Int32 → Int32 → Int32 → gM → Option (gM)) (v2 : Int32) (v3 : Int32) (v4 : Int32) (v5 : Int32) (v6 : Int32) (σ : gM) : Option (gM) := if (σ.1 0 13) ≤ v6 then (g_bV (fX12_solves n σ) (fun σ29 => if ¬ (v4 < 0 ∨ 8 ≤ v4.toNatClampNeg) then (g_bV (fX12_puts w v3 v5 v4 (σ29.1 14 v4.toNatClampNeg) σ29) (fun σ32 => K19 v2 v3 v4 (v5 + 1) σ32)) else none)) else (if ¬ (v6 < 0 ∨ 8 ≤ v6.toNatClampNeg) then (if (σ.1 15 v6.toNatClampNeg) = 0 then (fX12_rebuilds_b71 n w K19 K43 v2 v3 v4 v5 v6 σ) else (g_bV (fX12_countsRole w v3 v6 0 σ) (fun σ36 => fX12_rebuilds_b71 n w K19 K43 v2 v3 v4 v5 v6 σ36))) else none)
set_option maxRecDepth 100000 in
theorem tX12_rebuilds_b43 (hE : gEM l dC dI ad ca X) {σ' : gM} (n : Nat) (w : Nat) (hw : shM[w]? = some (.inl (.int, 616))) (K19 : Int32 → Int32 → Int32 → Int32 → gM → Option (gM)) (hK19 : ∀ (v2 : Int32) (v3 : Int32) (v4 : Int32) (v5 : Int32) (σ : gM), K19 v2 v3 v4 v5 σ = some σ' → g_G l dC dI ad ca shM X cX12_rebuilds 7 RX12 none (gR 3) none σ' 19 [(0, .ref 0), (1, .ref w), (2, .int v2), (3, .int v3), (4, .int v4), (5, .int v5)] [] σ) (K43 : Int32 → Int32 → Int32 → Int32 → Int32 → gM → Option (gM)) (hK43 : ∀ (v2 : Int32) (v3 : Int32) (v4 : Int32) (v5 : Int32) (v6 : Int32) (σ : gM), K43 v2 v3 v4 v5 v6 σ = some σ' → g_G l dC dI ad ca shM X cX12_rebuilds 7 RX12 none (gR 3) none σ' 43 [(0, .ref 0), (1, .ref w), (2, .int v2), (3, .int v3), (4, .int v4), (5, .int v5), (6, .int v6)] [] σ) (v2 : Int32) (v3 : Int32) (v4 : Int32) (v5 : Int32) (v6 : Int32)  (σ : gM) (h : fX12_rebuilds_b43 n w K19 K43 v2 v3 v4 v5 v6 σ = some σ') : g_G l dC dI ad ca shM X cX12_rebuilds 7 RX12 none (gR 3) none σ' 43 [(0, .ref 0), (1, .ref w), (2, .int v2), (3, .int v3), (4, .int v4), (5, .int v5), (6, .int v6)] [] σ := by
  unfold fX12_rebuilds_b43 at h
  refine g_iload (pc := 43) dX12_rebuilds_43 6 rfl ?_
  refine g_aload_n (pc := 45) dX12_rebuilds_45 rfl 0 rfl ?_
  refine g_getI (pc := 46) wfX12_171 rfl rfl dX12_rebuilds_46 ?_
  refine g_icmp_ge (pc := 49) (tgt := 77) dX12_rebuilds_49 (by decide) (fun c27 => ?_) (fun c27 => ?_)
  · have h := g_ift c27 h
    refine g_aload_n (pc := 77) dX12_rebuilds_77 rfl 0 rfl ?_
    obtain ⟨σ29, h28, h⟩ := g_bVd h
    refine g_callVv (pc := 78) (st := []) hE.1 wvX12_227 rfl rfl (kX12_solves hE n σ h28) rfl (gR_ok (by decide) (by decide)) (Nat.le_of_ble_eq_true rfl) rfl dX12_rebuilds_78 ?_
    refine g_aload_n (pc := 81) dX12_rebuilds_81 rfl 0 rfl ?_
    refine g_aload_n (pc := 82) dX12_rebuilds_82 rfl 1 rfl ?_
    refine g_iload_n (pc := 83) dX12_rebuilds_83 rfl 3 rfl ?_
    refine g_iload (pc := 84) dX12_rebuilds_84 5 rfl ?_
    refine g_iload (pc := 86) dX12_rebuilds_86 4 rfl ?_
    refine g_aload_n (pc := 88) dX12_rebuilds_88 rfl 0 rfl ?_
    refine g_getR (pc := 89) wfX12_50 rfl rfl dX12_rebuilds_89 ?_
    refine g_iload (pc := 92) dX12_rebuilds_92 4 rfl ?_
    obtain ⟨c30, h⟩ := g_gd h
    refine g_iald (pc := 94) rfl c30 rfl dX12_rebuilds_94 ?_
    obtain ⟨σ32, h31, h⟩ := g_bVd h
    refine g_callVv (pc := 95) (st := []) hE.1 wvX12_261 rfl rfl (kX12_puts hE w hw v3 v5 v4 (σ29.1 14 v4.toNatClampNeg) σ29 h31) rfl (gR_ok (by decide) (by decide)) (Nat.le_of_ble_eq_true rfl) rfl dX12_rebuilds_95 ?_
    refine g_iinc (pc := 98) (v := v5 + 1) (lv1 := [(5, .int (v5 + 1)), (0, .ref 0), (1, .ref w), (2, .int v2), (3, .int v3), (4, .int v4), (6, .int v6)]) dX12_rebuilds_98 5 rfl rfl (by decide) rfl ?_
    refine g_goto (pc := 101) (tgt := 19) dX12_rebuilds_101 (by decide) ?_
    exact g_lv [1, 2, 3, 4, 5, 0] rfl (hK19 v2 v3 v4 (v5 + 1) σ32 h)
  · have h := g_iff c27 h
    refine g_aload_n (pc := 52) dX12_rebuilds_52 rfl 0 rfl ?_
    refine g_getR (pc := 53) wfX12_53 rfl rfl dX12_rebuilds_53 ?_
    refine g_iload (pc := 56) dX12_rebuilds_56 6 rfl ?_
    obtain ⟨c33, h⟩ := g_gd h
    refine g_zald (pc := 58) rfl c33 rfl dX12_rebuilds_58 ?_
    refine g_if_eq (pc := 59) (tgt := 71) dX12_rebuilds_59 (by decide) (fun c34 => ?_) (fun c34 => ?_)
    · have h := g_ift c34 h
      exact g_lv [0, 1, 2, 3, 4, 5, 6] rfl (tX12_rebuilds_b71 hE n w hw K19 hK19 K43 hK43 v2 v3 v4 v5 v6 σ h)
    · have h := g_iff c34 h
      refine g_aload_n (pc := 62) dX12_rebuilds_62 rfl 0 rfl ?_
      refine g_aload_n (pc := 63) dX12_rebuilds_63 rfl 1 rfl ?_
      refine g_iload_n (pc := 64) dX12_rebuilds_64 rfl 3 rfl ?_
      refine g_iload (pc := 65) dX12_rebuilds_65 6 rfl ?_
      refine g_iconst (pc := 67) (v := 0) dX12_rebuilds_67 (by decide) ?_
      obtain ⟨σ36, h35, h⟩ := g_bVd h
      refine g_callVv (pc := 68) (st := []) hE.1 wvX12_257 rfl rfl (kX12_countsRole hE w hw v3 v6 0 σ h35) rfl (gR_ok (by decide) (by decide)) (Nat.le_of_ble_eq_true rfl) rfl dX12_rebuilds_68 ?_
      exact g_lv [0, 1, 2, 3, 4, 5, 6] rfl (tX12_rebuilds_b71 hE n w hw K19 hK19 K43 hK43 v2 v3 v4 v5 v6 σ36 h)
def fX12_rebuilds_L43 (n : Nat) (w : Nat) (K19 : Int32 → Int32 → Int32 → Int32 → gM → Option (gM)) : Nat → Int32 → Int32 → Int32 → Int32 → Int32 → gM → Option (gM)
  | 0 => fun _ _ _ _ _ _ => none
  | k + 1 => fX12_rebuilds_b43 n w K19 (fX12_rebuilds_L43 n w K19 k)
theorem tX12_rebuilds_L43 (hE : gEM l dC dI ad ca X) {σ' : gM} (n : Nat) (w : Nat) (hw : shM[w]? = some (.inl (.int, 616))) (K19 : Int32 → Int32 → Int32 → Int32 → gM → Option (gM)) (hK19 : ∀ (v2 : Int32) (v3 : Int32) (v4 : Int32) (v5 : Int32) (σ : gM), K19 v2 v3 v4 v5 σ = some σ' → g_G l dC dI ad ca shM X cX12_rebuilds 7 RX12 none (gR 3) none σ' 19 [(0, .ref 0), (1, .ref w), (2, .int v2), (3, .int v3), (4, .int v4), (5, .int v5)] [] σ)  : ∀ (k : Nat) (v2 : Int32) (v3 : Int32) (v4 : Int32) (v5 : Int32) (v6 : Int32) (σ : gM), fX12_rebuilds_L43 n w K19 k v2 v3 v4 v5 v6 σ = some σ' → g_G l dC dI ad ca shM X cX12_rebuilds 7 RX12 none (gR 3) none σ' 43 [(0, .ref 0), (1, .ref w), (2, .int v2), (3, .int v3), (4, .int v4), (5, .int v5), (6, .int v6)] [] σ := by
  intro k
  induction k with
  | zero => intro v2 v3 v4 v5 v6 σ h; cases h
  | succ k ih => intro v2 v3 v4 v5 v6 σ h; exact tX12_rebuilds_b43 hE n w hw K19 hK19 (fX12_rebuilds_L43 n w K19 k) ih v2 v3 v4 v5 v6 σ h
def fX12_rebuilds_b19 (n : Nat) (w : Nat) (K19 : Int32 → Int32 → Int32 → Int32 → gM → Option (gM)) (v2 : Int32) (v3 : Int32) (v4 : Int32) (v5 : Int32) (σ : gM) : Option (gM) := if (σ.1 3 2) ≤ v5 then (if ¬ ((392 + v2) < 0 ∨ 616 ≤ (392 + v2).toNatClampNeg) then (if ¬ ((392 + v2) < 0 ∨ 616 ≤ (392 + v2).toNatClampNeg) then (g_let (g_put σ w ((392 + v2).toNatClampNeg) ((σ.1 w ((392 + v2).toNatClampNeg)) + 1)) (fun σ40 => if ¬ ((392 + v2) < 0 ∨ 616 ≤ (392 + v2).toNatClampNeg) then (if (σ40.1 w ((392 + v2).toNatClampNeg)) = (σ40.1 3 1) then (if ¬ ((384 + v2) < 0 ∨ 616 ≤ (384 + v2).toNatClampNeg) then (g_let (g_put σ40 w ((384 + v2).toNatClampNeg) 0) (fun σ45 => some σ45)) else none) else (some σ40)) else none)) else none) else none) else (g_bV (fX12_lays n w v3 v5 (-1) (-1) σ) (fun σ48 => fX12_rebuilds_L43 n w K19 n v2 v3 v4 v5 0 σ48))
set_option maxRecDepth 100000 in
theorem tX12_rebuilds_b19 (hE : gEM l dC dI ad ca X) {σ' : gM} (n : Nat) (w : Nat) (hw : shM[w]? = some (.inl (.int, 616))) (K19 : Int32 → Int32 → Int32 → Int32 → gM → Option (gM)) (hK19 : ∀ (v2 : Int32) (v3 : Int32) (v4 : Int32) (v5 : Int32) (σ : gM), K19 v2 v3 v4 v5 σ = some σ' → g_G l dC dI ad ca shM X cX12_rebuilds 7 RX12 none (gR 3) none σ' 19 [(0, .ref 0), (1, .ref w), (2, .int v2), (3, .int v3), (4, .int v4), (5, .int v5)] [] σ) (v2 : Int32) (v3 : Int32) (v4 : Int32) (v5 : Int32)  (σ : gM) (h : fX12_rebuilds_b19 n w K19 v2 v3 v4 v5 σ = some σ') : g_G l dC dI ad ca shM X cX12_rebuilds 7 RX12 none (gR 3) none σ' 19 [(0, .ref 0), (1, .ref w), (2, .int v2), (3, .int v3), (4, .int v4), (5, .int v5)] [] σ := by
  unfold fX12_rebuilds_b19 at h
  refine g_iload (pc := 19) dX12_rebuilds_19 5 rfl ?_
  refine g_aload_n (pc := 21) dX12_rebuilds_21 rfl 0 rfl ?_
  refine g_getR (pc := 22) wfX12_17 rfl rfl dX12_rebuilds_22 ?_
  refine g_iconst (pc := 25) (v := 2) dX12_rebuilds_25 (by decide) ?_
  refine g_iald (pc := 26) rfl (by decide) (j := 2) (by decide) dX12_rebuilds_26 ?_
  refine g_icmp_ge (pc := 27) (tgt := 104) dX12_rebuilds_27 (by decide) (fun c37 => ?_) (fun c37 => ?_)
  · have h := g_ift c37 h
    refine g_aload_n (pc := 104) dX12_rebuilds_104 rfl 1 rfl ?_
    refine g_sipush (pc := 105) (v := 392) dX12_rebuilds_105 (by decide) ?_
    refine g_iload_n (pc := 108) dX12_rebuilds_108 rfl 2 rfl ?_
    refine g_iadd (pc := 109) dX12_rebuilds_109 ?_
    refine g_dup2 (pc := 110) dX12_rebuilds_110 rfl rfl ?_
    obtain ⟨c38, h⟩ := g_gd h
    refine g_iald (pc := 111) hw c38 rfl dX12_rebuilds_111 ?_
    refine g_iconst (pc := 112) (v := 1) dX12_rebuilds_112 (by decide) ?_
    refine g_iadd (pc := 113) dX12_rebuilds_113 ?_
    obtain ⟨c39, h⟩ := g_gd h
    obtain ⟨σ40, e41, h⟩ := g_ltd h
    refine g_iast (pc := 114) hw c39 rfl e41 dX12_rebuilds_114 ?_
    refine g_aload_n (pc := 115) dX12_rebuilds_115 rfl 1 rfl ?_
    refine g_sipush (pc := 116) (v := 392) dX12_rebuilds_116 (by decide) ?_
    refine g_iload_n (pc := 119) dX12_rebuilds_119 rfl 2 rfl ?_
    refine g_iadd (pc := 120) dX12_rebuilds_120 ?_
    obtain ⟨c42, h⟩ := g_gd h
    refine g_iald (pc := 121) hw c42 rfl dX12_rebuilds_121 ?_
    refine g_aload_n (pc := 122) dX12_rebuilds_122 rfl 0 rfl ?_
    refine g_getR (pc := 123) wfX12_17 rfl rfl dX12_rebuilds_123 ?_
    refine g_iconst (pc := 126) (v := 1) dX12_rebuilds_126 (by decide) ?_
    refine g_iald (pc := 127) rfl (by decide) (j := 1) (by decide) dX12_rebuilds_127 ?_
    refine g_icmp_ne (pc := 128) (tgt := 139) dX12_rebuilds_128 (by decide) (fun c43 => ?_) (fun c43 => ?_)
    · have h := g_iff c43 h
      cases h
      exact g_vret (pc := 139) rfl rfl rfl dX12_rebuilds_139
    · have h := g_ift c43 h
      refine g_aload_n (pc := 131) dX12_rebuilds_131 rfl 1 rfl ?_
      refine g_sipush (pc := 132) (v := 384) dX12_rebuilds_132 (by decide) ?_
      refine g_iload_n (pc := 135) dX12_rebuilds_135 rfl 2 rfl ?_
      refine g_iadd (pc := 136) dX12_rebuilds_136 ?_
      refine g_iconst (pc := 137) (v := 0) dX12_rebuilds_137 (by decide) ?_
      obtain ⟨c44, h⟩ := g_gd h
      obtain ⟨σ45, e46, h⟩ := g_ltd h
      refine g_iast (pc := 138) hw c44 rfl e46 dX12_rebuilds_138 ?_
      cases h
      exact g_vret (pc := 139) rfl rfl rfl dX12_rebuilds_139
  · have h := g_iff c37 h
    refine g_aload_n (pc := 30) dX12_rebuilds_30 rfl 0 rfl ?_
    refine g_aload_n (pc := 31) dX12_rebuilds_31 rfl 1 rfl ?_
    refine g_iload_n (pc := 32) dX12_rebuilds_32 rfl 3 rfl ?_
    refine g_iload (pc := 33) dX12_rebuilds_33 5 rfl ?_
    refine g_iconst (pc := 35) (v := (-1)) dX12_rebuilds_35 (by decide) ?_
    refine g_iconst (pc := 36) (v := (-1)) dX12_rebuilds_36 (by decide) ?_
    obtain ⟨σ48, h47, h⟩ := g_bVd h
    refine g_callVv (pc := 37) (st := []) hE.1 wvX12_223 rfl rfl (kX12_lays hE n w hw v3 v5 (-1) (-1) σ h47) rfl (gR_ok (by decide) (by decide)) (Nat.le_of_ble_eq_true rfl) rfl dX12_rebuilds_37 ?_
    refine g_iconst (pc := 40) (v := 0) dX12_rebuilds_40 (by decide) ?_
    refine g_istore (pc := 41) (lv1 := [(6, .int 0), (0, .ref 0), (1, .ref w), (2, .int v2), (3, .int v3), (4, .int v4), (5, .int v5)]) dX12_rebuilds_41 (by decide) rfl ?_
    exact g_lv [1, 2, 3, 4, 5, 6, 0] rfl (tX12_rebuilds_L43 hE n w hw K19 hK19 n v2 v3 v4 v5 0 σ48 h)
def fX12_rebuilds_L19 (n : Nat) (w : Nat) : Nat → Int32 → Int32 → Int32 → Int32 → gM → Option (gM)
  | 0 => fun _ _ _ _ _ => none
  | k + 1 => fX12_rebuilds_b19 n w (fX12_rebuilds_L19 n w k)
theorem tX12_rebuilds_L19 (hE : gEM l dC dI ad ca X) {σ' : gM} (n : Nat) (w : Nat) (hw : shM[w]? = some (.inl (.int, 616)))  : ∀ (k : Nat) (v2 : Int32) (v3 : Int32) (v4 : Int32) (v5 : Int32) (σ : gM), fX12_rebuilds_L19 n w k v2 v3 v4 v5 σ = some σ' → g_G l dC dI ad ca shM X cX12_rebuilds 7 RX12 none (gR 3) none σ' 19 [(0, .ref 0), (1, .ref w), (2, .int v2), (3, .int v3), (4, .int v4), (5, .int v5)] [] σ := by
  intro k
  induction k with
  | zero => intro v2 v3 v4 v5 σ h; cases h
  | succ k ih => intro v2 v3 v4 v5 σ h; exact tX12_rebuilds_b19 hE n w hw (fX12_rebuilds_L19 n w k) ih v2 v3 v4 v5 σ h
def fX12_rebuilds (n : Nat) (w : Nat) (v2 : Int32) (σ : gM) : Option (gM) := if ¬ ((392 + v2) < 0 ∨ 616 ≤ (392 + v2).toNatClampNeg) then (g_bI (fX12_roleOf (σ.1 w ((392 + v2).toNatClampNeg)) v2 σ) (fun r52 σ51 => fX12_rebuilds_L19 n w n v2 (σ.1 w ((392 + v2).toNatClampNeg)) r52 0 σ51)) else none
set_option maxRecDepth 100000 in
theorem kX12_rebuilds (hE : gEM l dC dI ad ca X) (n : Nat) (w : Nat) (hw : shM[w]? = some (.inl (.int, 616)))  (v2 : Int32) (σ : gM) {σ' : gM} (h : fX12_rebuilds n w v2 σ = some σ') : g_C l dC dI ad ca shM X yX12_rebuilds cX12_rebuilds 7 none (gR 3) [.ref 0, .ref w, .int v2] σ none σ' := by
  refine g_entry (by decide +kernel) (Nat.le_of_ble_eq_true rfl) ?_
  refine g_lvE (lv1 := [(0, .ref 0), (1, .ref w), (2, .int v2)]) rfl ?_
  unfold fX12_rebuilds at h
  refine g_aload_n (pc := 0) dX12_rebuilds_0 rfl 1 rfl ?_
  refine g_sipush (pc := 1) (v := 392) dX12_rebuilds_1 (by decide) ?_
  refine g_iload_n (pc := 4) dX12_rebuilds_4 rfl 2 rfl ?_
  refine g_iadd (pc := 5) dX12_rebuilds_5 ?_
  obtain ⟨c49, h⟩ := g_gd h
  refine g_iald (pc := 6) hw c49 rfl dX12_rebuilds_6 ?_
  refine g_istore_n (pc := 7) (lv1 := [(3, .int (σ.1 w ((392 + v2).toNatClampNeg))), (0, .ref 0), (1, .ref w), (2, .int v2)]) dX12_rebuilds_7 rfl (by decide) rfl ?_
  refine g_aload_n (pc := 8) dX12_rebuilds_8 rfl 1 rfl ?_
  refine g_iload_n (pc := 9) dX12_rebuilds_9 rfl 0 rfl ?_
  refine g_iload_n (pc := 10) dX12_rebuilds_10 rfl 3 rfl ?_
  obtain ⟨r52, σ51, h50, h⟩ := g_bId h
  refine g_callVi (pc := 11) (st := []) hE.1 wvX12_340 rfl rfl (kX12_roleOf hE (σ.1 w ((392 + v2).toNatClampNeg)) v2 σ h50) rfl (gR_ok (by decide) (by decide)) (Nat.le_of_ble_eq_true rfl) rfl dX12_rebuilds_11 ?_
  refine g_istore (pc := 14) (lv1 := [(4, .int r52), (3, .int (σ.1 w ((392 + v2).toNatClampNeg))), (0, .ref 0), (1, .ref w), (2, .int v2)]) dX12_rebuilds_14 (by decide) rfl ?_
  refine g_iconst (pc := 16) (v := 0) dX12_rebuilds_16 (by decide) ?_
  refine g_istore (pc := 17) (lv1 := [(5, .int 0), (4, .int r52), (3, .int (σ.1 w ((392 + v2).toNatClampNeg))), (0, .ref 0), (1, .ref w), (2, .int v2)]) dX12_rebuilds_17 (by decide) rfl ?_
  exact g_lv [3, 4, 5, 2, 1, 0] rfl (tX12_rebuilds_L19 hE n w hw n v2 (σ.1 w ((392 + v2).toNatClampNeg)) r52 0 σ51 h)
def fX12_scrubsOn_b5 (n : Nat) (w : Nat) (K5 : Int32 → Int32 → Int32 → gM → Option (gM)) (v2 : Int32) (v3 : Int32) (v4 : Int32) (σ : gM) : Option (gM) := if v2 ≤ v4 then (g_let (g_put σ 0 29 v3) (fun σ11 => some σ11)) else (g_bI (fX12_scrubs n w (σ.1 w 426) σ) (fun r15 σ14 => if (σ14.1 3 1) = 0 then none else (g_let (g_put σ14 w 426 (((σ14.1 w 426) + 1) - ((σ14.1 w 426) + 1) / (σ14.1 3 1) * (σ14.1 3 1))) (fun σ17 => K5 v2 (v3 + r15) (v4 + 1) σ17))))
set_option maxRecDepth 100000 in
theorem tX12_scrubsOn_b5 (hE : gEM l dC dI ad ca X) {σ' : gM} (n : Nat) (w : Nat) (hw : shM[w]? = some (.inl (.int, 616))) (K5 : Int32 → Int32 → Int32 → gM → Option (gM)) (hK5 : ∀ (v2 : Int32) (v3 : Int32) (v4 : Int32) (σ : gM), K5 v2 v3 v4 σ = some σ' → g_G l dC dI ad ca shM X cX12_scrubsOn 5 RX12 none (gR 5) none σ' 5 [(0, .ref 0), (1, .ref w), (2, .int v2), (3, .int v3), (4, .int v4)] [] σ) (v2 : Int32) (v3 : Int32) (v4 : Int32)  (σ : gM) (h : fX12_scrubsOn_b5 n w K5 v2 v3 v4 σ = some σ') : g_G l dC dI ad ca shM X cX12_scrubsOn 5 RX12 none (gR 5) none σ' 5 [(0, .ref 0), (1, .ref w), (2, .int v2), (3, .int v3), (4, .int v4)] [] σ := by
  unfold fX12_scrubsOn_b5 at h
  refine g_iload (pc := 5) dX12_scrubsOn_5 4 rfl ?_
  refine g_iload_n (pc := 7) dX12_scrubsOn_7 rfl 2 rfl ?_
  refine g_icmp_ge (pc := 8) (tgt := 49) dX12_scrubsOn_8 (by decide) (fun c10 => ?_) (fun c10 => ?_)
  · have h := g_ift c10 h
    refine g_aload_n (pc := 49) dX12_scrubsOn_49 rfl 0 rfl ?_
    refine g_iload_n (pc := 50) dX12_scrubsOn_50 rfl 3 rfl ?_
    obtain ⟨σ11, e12, h⟩ := g_ltd h
    refine g_putI (pc := 51) wfX12_313 rfl rfl rfl rfl e12 dX12_scrubsOn_51 ?_
    cases h
    exact g_vret (pc := 54) rfl rfl rfl dX12_scrubsOn_54
  · have h := g_iff c10 h
    refine g_iload_n (pc := 11) dX12_scrubsOn_11 rfl 3 rfl ?_
    refine g_aload_n (pc := 12) dX12_scrubsOn_12 rfl 0 rfl ?_
    refine g_aload_n (pc := 13) dX12_scrubsOn_13 rfl 1 rfl ?_
    refine g_aload_n (pc := 14) dX12_scrubsOn_14 rfl 1 rfl ?_
    refine g_sipush (pc := 15) (v := 426) dX12_scrubsOn_15 (by decide) ?_
    refine g_iald (pc := 18) hw (by decide) (j := 426) (by decide) dX12_scrubsOn_18 ?_
    obtain ⟨r15, σ14, h13, h⟩ := g_bId h
    refine g_callVi (pc := 19) (st := [.int v3]) hE.1 wvX12_343 rfl rfl (kX12_scrubs hE n w hw (σ.1 w 426) σ h13) rfl (gR_ok (by decide) (by decide)) (Nat.le_of_ble_eq_true rfl) rfl dX12_scrubsOn_19 ?_
    refine g_iadd (pc := 22) dX12_scrubsOn_22 ?_
    refine g_istore_n (pc := 23) (lv1 := [(3, .int (v3 + r15)), (0, .ref 0), (1, .ref w), (2, .int v2), (4, .int v4)]) dX12_scrubsOn_23 rfl (by decide) rfl ?_
    refine g_aload_n (pc := 24) dX12_scrubsOn_24 rfl 2 rfl ?_
    refine g_sipush (pc := 25) (v := 426) dX12_scrubsOn_25 (by decide) ?_
    refine g_aload_n (pc := 28) dX12_scrubsOn_28 rfl 2 rfl ?_
    refine g_sipush (pc := 29) (v := 426) dX12_scrubsOn_29 (by decide) ?_
    refine g_iald (pc := 32) hw (by decide) (j := 426) (by decide) dX12_scrubsOn_32 ?_
    refine g_iconst (pc := 33) (v := 1) dX12_scrubsOn_33 (by decide) ?_
    refine g_iadd (pc := 34) dX12_scrubsOn_34 ?_
    refine g_aload_n (pc := 35) dX12_scrubsOn_35 rfl 1 rfl ?_
    refine g_getR (pc := 36) wfX12_17 rfl rfl dX12_scrubsOn_36 ?_
    refine g_iconst (pc := 39) (v := 1) dX12_scrubsOn_39 (by decide) ?_
    refine g_iald (pc := 40) rfl (by decide) (j := 1) (by decide) dX12_scrubsOn_40 ?_
    obtain ⟨c16, h⟩ := g_gn h
    refine g_irem (pc := 41) dX12_scrubsOn_41 c16 ?_
    obtain ⟨σ17, e18, h⟩ := g_ltd h
    refine g_iast (pc := 42) hw (by decide) (j := 426) (by decide) e18 dX12_scrubsOn_42 ?_
    refine g_iinc (pc := 43) (v := v4 + 1) (lv1 := [(4, .int (v4 + 1)), (3, .int (v3 + r15)), (0, .ref 0), (1, .ref w), (2, .int v2)]) dX12_scrubsOn_43 4 rfl rfl (by decide) rfl ?_
    refine g_goto (pc := 46) (tgt := 5) dX12_scrubsOn_46 (by decide) ?_
    exact g_lv [2, 3, 4, 1, 0] rfl (hK5 v2 (v3 + r15) (v4 + 1) σ17 h)
def fX12_scrubsOn_L5 (n : Nat) (w : Nat) : Nat → Int32 → Int32 → Int32 → gM → Option (gM)
  | 0 => fun _ _ _ _ => none
  | k + 1 => fX12_scrubsOn_b5 n w (fX12_scrubsOn_L5 n w k)
theorem tX12_scrubsOn_L5 (hE : gEM l dC dI ad ca X) {σ' : gM} (n : Nat) (w : Nat) (hw : shM[w]? = some (.inl (.int, 616)))  : ∀ (k : Nat) (v2 : Int32) (v3 : Int32) (v4 : Int32) (σ : gM), fX12_scrubsOn_L5 n w k v2 v3 v4 σ = some σ' → g_G l dC dI ad ca shM X cX12_scrubsOn 5 RX12 none (gR 5) none σ' 5 [(0, .ref 0), (1, .ref w), (2, .int v2), (3, .int v3), (4, .int v4)] [] σ := by
  intro k
  induction k with
  | zero => intro v2 v3 v4 σ h; cases h
  | succ k ih => intro v2 v3 v4 σ h; exact tX12_scrubsOn_b5 hE n w hw (fX12_scrubsOn_L5 n w k) ih v2 v3 v4 σ h
def fX12_scrubsOn (n : Nat) (w : Nat) (v2 : Int32) (σ : gM) : Option (gM) := fX12_scrubsOn_L5 n w n v2 0 0 σ
set_option maxRecDepth 100000 in
theorem kX12_scrubsOn (hE : gEM l dC dI ad ca X) (n : Nat) (w : Nat) (hw : shM[w]? = some (.inl (.int, 616)))  (v2 : Int32) (σ : gM) {σ' : gM} (h : fX12_scrubsOn n w v2 σ = some σ') : g_C l dC dI ad ca shM X yX12_scrubsOn cX12_scrubsOn 5 none (gR 5) [.ref 0, .ref w, .int v2] σ none σ' := by
  refine g_entry (by decide +kernel) (Nat.le_of_ble_eq_true rfl) ?_
  refine g_lvE (lv1 := [(0, .ref 0), (1, .ref w), (2, .int v2)]) rfl ?_
  unfold fX12_scrubsOn at h
  refine g_iconst (pc := 0) (v := 0) dX12_scrubsOn_0 (by decide) ?_
  refine g_istore_n (pc := 1) (lv1 := [(3, .int 0), (0, .ref 0), (1, .ref w), (2, .int v2)]) dX12_scrubsOn_1 rfl (by decide) rfl ?_
  refine g_iconst (pc := 2) (v := 0) dX12_scrubsOn_2 (by decide) ?_
  refine g_istore (pc := 3) (lv1 := [(4, .int 0), (3, .int 0), (0, .ref 0), (1, .ref w), (2, .int v2)]) dX12_scrubsOn_3 (by decide) rfl ?_
  exact g_lv [2, 3, 4, 1, 0] rfl (tX12_scrubsOn_L5 hE n w hw n v2 0 0 σ h)
def fX12_tears_b123 (n : Nat) (w : Nat) (v5 : Int32) (σ : gM) : Option (gM) := g_let (g_put σ w 425 ((σ.1 w 425) ||| (1 <<< (v5 &&& 31)))) (fun σ28 => some σ28)
set_option maxRecDepth 100000 in
theorem tX12_tears_b123 (hE : gEM l dC dI ad ca X) {σ' : gM} (n : Nat) (w : Nat) (hw : shM[w]? = some (.inl (.int, 616))) (v5 : Int32)  (σ : gM) (h : fX12_tears_b123 n w v5 σ = some σ') : g_G l dC dI ad ca shM X cX12_tears 9 RX12 none (gR 3) none σ' 123 [(1, .ref w), (5, .int v5)] [] σ := by
  unfold fX12_tears_b123 at h
  refine g_aload_n (pc := 123) dX12_tears_123 rfl 0 rfl ?_
  refine g_sipush (pc := 124) (v := 425) dX12_tears_124 (by decide) ?_
  refine g_dup2 (pc := 127) dX12_tears_127 rfl rfl ?_
  refine g_iald (pc := 128) hw (by decide) (j := 425) (by decide) dX12_tears_128 ?_
  refine g_iconst (pc := 129) (v := 1) dX12_tears_129 (by decide) ?_
  refine g_iload (pc := 130) dX12_tears_130 1 rfl ?_
  refine g_ishl (pc := 132) dX12_tears_132 ?_
  refine g_ior (pc := 133) dX12_tears_133 ?_
  obtain ⟨σ28, e29, h⟩ := g_ltd h
  refine g_iast (pc := 134) hw (by decide) (j := 425) (by decide) e29 dX12_tears_134 ?_
  cases h
  exact g_vret (pc := 135) rfl rfl rfl dX12_tears_135
def fX12_tears_b89 (n : Nat) (w : Nat) (v3 : Int32) (v4 : Int32) (v5 : Int32) (v6 : Int32) (v7 : Int32) (v8 : Int32) (σ : gM) : Option (gM) := if v4 ≤ 1 then (fX12_tears_b123 n w v5 σ) else (if ¬ (v8 < 0 ∨ 8 ≤ v8.toNatClampNeg) then (if ¬ (v7 < 0 ∨ 8 ≤ v7.toNatClampNeg) then (g_bV (fX12_puts w v5 v6 v8 (((σ.1 14 v8.toNatClampNeg) ^^^ (σ.1 14 v7.toNatClampNeg)) ^^^ v3) σ) (fun σ34 => fX12_tears_b123 n w v5 σ34)) else none) else none)
set_option maxRecDepth 100000 in
theorem tX12_tears_b89 (hE : gEM l dC dI ad ca X) {σ' : gM} (n : Nat) (w : Nat) (hw : shM[w]? = some (.inl (.int, 616))) (v3 : Int32) (v4 : Int32) (v5 : Int32) (v6 : Int32) (v7 : Int32) (v8 : Int32)  (σ : gM) (h : fX12_tears_b89 n w v3 v4 v5 v6 v7 v8 σ = some σ') : g_G l dC dI ad ca shM X cX12_tears 9 RX12 none (gR 3) none σ' 89 [(0, .ref 0), (1, .ref w), (3, .int v3), (4, .int v4), (5, .int v5), (6, .int v6), (7, .int v7), (8, .int v8)] [] σ := by
  unfold fX12_tears_b89 at h
  refine g_iload (pc := 89) dX12_tears_89 3 rfl ?_
  refine g_iconst (pc := 91) (v := 1) dX12_tears_91 (by decide) ?_
  refine g_icmp_le (pc := 92) (tgt := 123) dX12_tears_92 (by decide) (fun c30 => ?_) (fun c30 => ?_)
  · have h := g_ift c30 h
    exact g_lv [1, 4] rfl (tX12_tears_b123 hE n w hw v5 σ h)
  · have h := g_iff c30 h
    refine g_aload_n (pc := 95) dX12_tears_95 rfl 0 rfl ?_
    refine g_aload_n (pc := 96) dX12_tears_96 rfl 1 rfl ?_
    refine g_iload (pc := 97) dX12_tears_97 4 rfl ?_
    refine g_iload (pc := 99) dX12_tears_99 5 rfl ?_
    refine g_iload (pc := 101) dX12_tears_101 7 rfl ?_
    refine g_aload_n (pc := 103) dX12_tears_103 rfl 0 rfl ?_
    refine g_getR (pc := 104) wfX12_50 rfl rfl dX12_tears_104 ?_
    refine g_iload (pc := 107) dX12_tears_107 7 rfl ?_
    obtain ⟨c31, h⟩ := g_gd h
    refine g_iald (pc := 109) rfl c31 rfl dX12_tears_109 ?_
    refine g_aload_n (pc := 110) dX12_tears_110 rfl 0 rfl ?_
    refine g_getR (pc := 111) wfX12_50 rfl rfl dX12_tears_111 ?_
    refine g_iload (pc := 114) dX12_tears_114 6 rfl ?_
    obtain ⟨c32, h⟩ := g_gd h
    refine g_iald (pc := 116) rfl c32 rfl dX12_tears_116 ?_
    refine g_ixor (pc := 117) dX12_tears_117 ?_
    refine g_iload_n (pc := 118) dX12_tears_118 rfl 2 rfl ?_
    refine g_ixor (pc := 119) dX12_tears_119 ?_
    obtain ⟨σ34, h33, h⟩ := g_bVd h
    refine g_callVv (pc := 120) (st := []) hE.1 wvX12_261 rfl rfl (kX12_puts hE w hw v5 v6 v8 (((σ.1 14 v8.toNatClampNeg) ^^^ (σ.1 14 v7.toNatClampNeg)) ^^^ v3) σ h33) rfl (gR_ok (by decide) (by decide)) (Nat.le_of_ble_eq_true rfl) rfl dX12_tears_120 ?_
    exact g_lv [1, 4] rfl (tX12_tears_b123 hE n w hw v5 σ34 h)
def fX12_tears (n : Nat) (w : Nat) (v2 : Int32) (v3 : Int32) (v4 : Int32) (σ : gM) : Option (gM) := g_bI (fX12_stripeOf v2 σ) (fun r37 σ36 => g_bI (fX12_byteOf v2 σ36) (fun r40 σ39 => g_bI (fX12_partOf v2 σ39) (fun r43 σ42 => g_bV (fX12_lays n w r37 r40 (-1) (-1) σ42) (fun σ45 => g_bV (fX12_countsRole w r37 r43 0 σ45) (fun σ47 => g_bV (fX12_countsRole w r37 (σ42.1 3 0) 0 σ47) (fun σ49 => g_bV (fX12_countsRole w r37 ((σ42.1 3 0) + 1) 0 σ49) (fun σ51 => if v4 ≤ 0 then (fX12_tears_b89 n w v3 v4 r37 r40 r43 (σ42.1 3 0) σ51) else (g_bV (fX12_puts w r37 r40 r43 v3 σ51) (fun σ54 => fX12_tears_b89 n w v3 v4 r37 r40 r43 (σ42.1 3 0) σ54)))))))))
set_option maxRecDepth 100000 in
theorem kX12_tears (hE : gEM l dC dI ad ca X) (n : Nat) (w : Nat) (hw : shM[w]? = some (.inl (.int, 616)))  (v2 : Int32) (v3 : Int32) (v4 : Int32) (σ : gM) {σ' : gM} (h : fX12_tears n w v2 v3 v4 σ = some σ') : g_C l dC dI ad ca shM X yX12_tears cX12_tears 9 none (gR 3) [.ref 0, .ref w, .int v2, .int v3, .int v4] σ none σ' := by
  refine g_entry (by decide +kernel) (Nat.le_of_ble_eq_true rfl) ?_
  refine g_lvE (lv1 := [(0, .ref 0), (1, .ref w), (2, .int v2), (3, .int v3), (4, .int v4)]) rfl ?_
  unfold fX12_tears at h
  refine g_aload_n (pc := 0) dX12_tears_0 rfl 0 rfl ?_
  refine g_iload_n (pc := 1) dX12_tears_1 rfl 2 rfl ?_
  obtain ⟨r37, σ36, h35, h⟩ := g_bId h
  refine g_callVi (pc := 2) (st := []) hE.1 wvX12_217 rfl rfl (kX12_stripeOf hE v2 σ h35) rfl (gR_ok (by decide) (by decide)) (Nat.le_of_ble_eq_true rfl) rfl dX12_tears_2 ?_
  refine g_istore (pc := 5) (lv1 := [(5, .int r37), (0, .ref 0), (1, .ref w), (2, .int v2), (3, .int v3), (4, .int v4)]) dX12_tears_5 (by decide) rfl ?_
  refine g_aload_n (pc := 7) dX12_tears_7 rfl 1 rfl ?_
  refine g_iload_n (pc := 8) dX12_tears_8 rfl 3 rfl ?_
  obtain ⟨r40, σ39, h38, h⟩ := g_bId h
  refine g_callVi (pc := 9) (st := []) hE.1 wvX12_220 rfl rfl (kX12_byteOf hE v2 σ36 h38) rfl (gR_ok (by decide) (by decide)) (Nat.le_of_ble_eq_true rfl) rfl dX12_tears_9 ?_
  refine g_istore (pc := 12) (lv1 := [(6, .int r40), (5, .int r37), (0, .ref 0), (1, .ref w), (2, .int v2), (3, .int v3), (4, .int v4)]) dX12_tears_12 (by decide) rfl ?_
  refine g_aload_n (pc := 14) dX12_tears_14 rfl 2 rfl ?_
  refine g_iload_n (pc := 15) dX12_tears_15 rfl 4 rfl ?_
  obtain ⟨r43, σ42, h41, h⟩ := g_bId h
  refine g_callVi (pc := 16) (st := []) hE.1 wvX12_230 rfl rfl (kX12_partOf hE v2 σ39 h41) rfl (gR_ok (by decide) (by decide)) (Nat.le_of_ble_eq_true rfl) rfl dX12_tears_16 ?_
  refine g_istore (pc := 19) (lv1 := [(7, .int r43), (6, .int r40), (5, .int r37), (0, .ref 0), (1, .ref w), (2, .int v2), (3, .int v3), (4, .int v4)]) dX12_tears_19 (by decide) rfl ?_
  refine g_aload_n (pc := 21) dX12_tears_21 rfl 3 rfl ?_
  refine g_getR (pc := 22) wfX12_17 rfl rfl dX12_tears_22 ?_
  refine g_iconst (pc := 25) (v := 0) dX12_tears_25 (by decide) ?_
  refine g_iald (pc := 26) rfl (by decide) (j := 0) (by decide) dX12_tears_26 ?_
  refine g_istore (pc := 27) (lv1 := [(8, .int (σ42.1 3 0)), (7, .int r43), (6, .int r40), (5, .int r37), (0, .ref 0), (1, .ref w), (2, .int v2), (3, .int v3), (4, .int v4)]) dX12_tears_27 (by decide) rfl ?_
  refine g_aload_n (pc := 29) dX12_tears_29 rfl 4 rfl ?_
  refine g_aload_n (pc := 30) dX12_tears_30 rfl 5 rfl ?_
  refine g_iload (pc := 31) dX12_tears_31 3 rfl ?_
  refine g_iload (pc := 33) dX12_tears_33 2 rfl ?_
  refine g_iconst (pc := 35) (v := (-1)) dX12_tears_35 (by decide) ?_
  refine g_iconst (pc := 36) (v := (-1)) dX12_tears_36 (by decide) ?_
  obtain ⟨σ45, h44, h⟩ := g_bVd h
  refine g_callVv (pc := 37) (st := []) hE.1 wvX12_223 rfl rfl (kX12_lays hE n w hw r37 r40 (-1) (-1) σ42 h44) rfl (gR_ok (by decide) (by decide)) (Nat.le_of_ble_eq_true rfl) rfl dX12_tears_37 ?_
  refine g_aload_n (pc := 40) dX12_tears_40 rfl 4 rfl ?_
  refine g_aload_n (pc := 41) dX12_tears_41 rfl 5 rfl ?_
  refine g_iload (pc := 42) dX12_tears_42 3 rfl ?_
  refine g_iload (pc := 44) dX12_tears_44 1 rfl ?_
  refine g_iconst (pc := 46) (v := 0) dX12_tears_46 (by decide) ?_
  obtain ⟨σ47, h46, h⟩ := g_bVd h
  refine g_callVv (pc := 47) (st := []) hE.1 wvX12_257 rfl rfl (kX12_countsRole hE w hw r37 r43 0 σ45 h46) rfl (gR_ok (by decide) (by decide)) (Nat.le_of_ble_eq_true rfl) rfl dX12_tears_47 ?_
  refine g_aload_n (pc := 50) dX12_tears_50 rfl 4 rfl ?_
  refine g_aload_n (pc := 51) dX12_tears_51 rfl 5 rfl ?_
  refine g_iload (pc := 52) dX12_tears_52 3 rfl ?_
  refine g_iload (pc := 54) dX12_tears_54 0 rfl ?_
  refine g_iconst (pc := 56) (v := 0) dX12_tears_56 (by decide) ?_
  obtain ⟨σ49, h48, h⟩ := g_bVd h
  refine g_callVv (pc := 57) (st := []) hE.1 wvX12_257 rfl rfl (kX12_countsRole hE w hw r37 (σ42.1 3 0) 0 σ47 h48) rfl (gR_ok (by decide) (by decide)) (Nat.le_of_ble_eq_true rfl) rfl dX12_tears_57 ?_
  refine g_aload_n (pc := 60) dX12_tears_60 rfl 4 rfl ?_
  refine g_aload_n (pc := 61) dX12_tears_61 rfl 5 rfl ?_
  refine g_iload (pc := 62) dX12_tears_62 3 rfl ?_
  refine g_iload (pc := 64) dX12_tears_64 0 rfl ?_
  refine g_iconst (pc := 66) (v := 1) dX12_tears_66 (by decide) ?_
  refine g_iadd (pc := 67) dX12_tears_67 ?_
  refine g_iconst (pc := 68) (v := 0) dX12_tears_68 (by decide) ?_
  obtain ⟨σ51, h50, h⟩ := g_bVd h
  refine g_callVv (pc := 69) (st := []) hE.1 wvX12_257 rfl rfl (kX12_countsRole hE w hw r37 ((σ42.1 3 0) + 1) 0 σ49 h50) rfl (gR_ok (by decide) (by decide)) (Nat.le_of_ble_eq_true rfl) rfl dX12_tears_69 ?_
  refine g_iload (pc := 72) dX12_tears_72 8 rfl ?_
  refine g_if_le (pc := 74) (tgt := 89) dX12_tears_74 (by decide) (fun c52 => ?_) (fun c52 => ?_)
  · have h := g_ift c52 h
    exact g_lv [4, 5, 7, 8, 3, 2, 1, 0] rfl (tX12_tears_b89 hE n w hw v3 v4 r37 r40 r43 (σ42.1 3 0) σ51 h)
  · have h := g_iff c52 h
    refine g_aload_n (pc := 77) dX12_tears_77 rfl 4 rfl ?_
    refine g_aload_n (pc := 78) dX12_tears_78 rfl 5 rfl ?_
    refine g_iload (pc := 79) dX12_tears_79 3 rfl ?_
    refine g_iload (pc := 81) dX12_tears_81 2 rfl ?_
    refine g_iload (pc := 83) dX12_tears_83 1 rfl ?_
    refine g_iload_n (pc := 85) dX12_tears_85 rfl 7 rfl ?_
    obtain ⟨σ54, h53, h⟩ := g_bVd h
    refine g_callVv (pc := 86) (st := []) hE.1 wvX12_261 rfl rfl (kX12_puts hE w hw r37 r40 r43 v3 σ51 h53) rfl (gR_ok (by decide) (by decide)) (Nat.le_of_ble_eq_true rfl) rfl dX12_tears_86 ?_
    exact g_lv [4, 5, 7, 8, 3, 2, 1, 0] rfl (tX12_tears_b89 hE n w hw v3 v4 r37 r40 r43 (σ42.1 3 0) σ54 h)
def fX12_cleans_b67 (n : Nat) (w : Nat) (K16 : Int32 → Int32 → Int32 → gM → Option (Int32 × gM)) (K42 : Int32 → Int32 → Int32 → Int32 → gM → Option (Int32 × gM)) (K67 : Int32 → Int32 → Int32 → Int32 → Int32 → gM → Option (Int32 × gM)) (v2 : Int32) (v3 : Int32) (v4 : Int32) (v5 : Int32) (v6 : Int32) (σ : gM) : Option (Int32 × gM) := if v3 ≤ v6 then (g_bI (fX12_sum n 0 (-1) (-1) σ) (fun r30 σ29 => g_bV (fX12_puts w v4 v5 v3 r30 σ29) (fun σ32 => g_bI (fX12_sum n 1 (-1) (-1) σ32) (fun r35 σ34 => g_bV (fX12_puts w v4 v5 (v3 + 1) r35 σ34) (fun σ37 => K42 v2 v3 v4 (v5 + 1) σ37))))) else (g_bV (fX12_countsRole w v4 v6 0 σ) (fun σ39 => K67 v2 v3 v4 v5 (v6 + 1) σ39))
set_option maxRecDepth 100000 in
theorem tX12_cleans_b67 (hE : gEM l dC dI ad ca X) {r0 : Int32} {σ' : gM} (n : Nat) (w : Nat) (hw : shM[w]? = some (.inl (.int, 616))) (K16 : Int32 → Int32 → Int32 → gM → Option (Int32 × gM)) (hK16 : ∀ (v2 : Int32) (v3 : Int32) (v4 : Int32) (σ : gM), K16 v2 v3 v4 σ = some (r0, σ') → g_G l dC dI ad ca shM X cX12_cleans 7 RX12 (some .int) (gR 3) (some (.int r0)) σ' 16 [(0, .ref 0), (1, .ref w), (2, .int v2), (3, .int v3), (4, .int v4)] [] σ) (K42 : Int32 → Int32 → Int32 → Int32 → gM → Option (Int32 × gM)) (hK42 : ∀ (v2 : Int32) (v3 : Int32) (v4 : Int32) (v5 : Int32) (σ : gM), K42 v2 v3 v4 v5 σ = some (r0, σ') → g_G l dC dI ad ca shM X cX12_cleans 7 RX12 (some .int) (gR 3) (some (.int r0)) σ' 42 [(0, .ref 0), (1, .ref w), (2, .int v2), (3, .int v3), (4, .int v4), (5, .int v5)] [] σ) (K67 : Int32 → Int32 → Int32 → Int32 → Int32 → gM → Option (Int32 × gM)) (hK67 : ∀ (v2 : Int32) (v3 : Int32) (v4 : Int32) (v5 : Int32) (v6 : Int32) (σ : gM), K67 v2 v3 v4 v5 v6 σ = some (r0, σ') → g_G l dC dI ad ca shM X cX12_cleans 7 RX12 (some .int) (gR 3) (some (.int r0)) σ' 67 [(0, .ref 0), (1, .ref w), (2, .int v2), (3, .int v3), (4, .int v4), (5, .int v5), (6, .int v6)] [] σ) (v2 : Int32) (v3 : Int32) (v4 : Int32) (v5 : Int32) (v6 : Int32)  (σ : gM) (h : fX12_cleans_b67 n w K16 K42 K67 v2 v3 v4 v5 v6 σ = some (r0, σ')) : g_G l dC dI ad ca shM X cX12_cleans 7 RX12 (some .int) (gR 3) (some (.int r0)) σ' 67 [(0, .ref 0), (1, .ref w), (2, .int v2), (3, .int v3), (4, .int v4), (5, .int v5), (6, .int v6)] [] σ := by
  unfold fX12_cleans_b67 at h
  refine g_iload (pc := 67) dX12_cleans_67 6 rfl ?_
  refine g_iload_n (pc := 69) dX12_cleans_69 rfl 3 rfl ?_
  refine g_icmp_ge (pc := 70) (tgt := 89) dX12_cleans_70 (by decide) (fun c27 => ?_) (fun c27 => ?_)
  · have h := g_ift c27 h
    refine g_aload_n (pc := 89) dX12_cleans_89 rfl 0 rfl ?_
    refine g_aload_n (pc := 90) dX12_cleans_90 rfl 1 rfl ?_
    refine g_iload (pc := 91) dX12_cleans_91 4 rfl ?_
    refine g_iload (pc := 93) dX12_cleans_93 5 rfl ?_
    refine g_iload_n (pc := 95) dX12_cleans_95 rfl 3 rfl ?_
    refine g_aload_n (pc := 96) dX12_cleans_96 rfl 0 rfl ?_
    refine g_iconst (pc := 97) (v := 0) dX12_cleans_97 (by decide) ?_
    refine g_iconst (pc := 98) (v := (-1)) dX12_cleans_98 (by decide) ?_
    refine g_iconst (pc := 99) (v := (-1)) dX12_cleans_99 (by decide) ?_
    obtain ⟨r30, σ29, h28, h⟩ := g_bId h
    refine g_callVi (pc := 100) (st := [.int v3, .int v5, .int v4, .ref w, .ref 0]) hE.1 wvX12_213 rfl rfl (kX12_sum hE n 0 (-1) (-1) σ h28) rfl (gR_ok (by decide) (by decide)) (Nat.le_of_ble_eq_true rfl) rfl dX12_cleans_100 ?_
    obtain ⟨σ32, h31, h⟩ := g_bVd h
    refine g_callVv (pc := 103) (st := []) hE.1 wvX12_261 rfl rfl (kX12_puts hE w hw v4 v5 v3 r30 σ29 h31) rfl (gR_ok (by decide) (by decide)) (Nat.le_of_ble_eq_true rfl) rfl dX12_cleans_103 ?_
    refine g_aload_n (pc := 106) dX12_cleans_106 rfl 0 rfl ?_
    refine g_aload_n (pc := 107) dX12_cleans_107 rfl 1 rfl ?_
    refine g_iload (pc := 108) dX12_cleans_108 4 rfl ?_
    refine g_iload (pc := 110) dX12_cleans_110 5 rfl ?_
    refine g_iload_n (pc := 112) dX12_cleans_112 rfl 3 rfl ?_
    refine g_iconst (pc := 113) (v := 1) dX12_cleans_113 (by decide) ?_
    refine g_iadd (pc := 114) dX12_cleans_114 ?_
    refine g_aload_n (pc := 115) dX12_cleans_115 rfl 0 rfl ?_
    refine g_iconst (pc := 116) (v := 1) dX12_cleans_116 (by decide) ?_
    refine g_iconst (pc := 117) (v := (-1)) dX12_cleans_117 (by decide) ?_
    refine g_iconst (pc := 118) (v := (-1)) dX12_cleans_118 (by decide) ?_
    obtain ⟨r35, σ34, h33, h⟩ := g_bId h
    refine g_callVi (pc := 119) (st := [.int (v3 + 1), .int v5, .int v4, .ref w, .ref 0]) hE.1 wvX12_213 rfl rfl (kX12_sum hE n 1 (-1) (-1) σ32 h33) rfl (gR_ok (by decide) (by decide)) (Nat.le_of_ble_eq_true rfl) rfl dX12_cleans_119 ?_
    obtain ⟨σ37, h36, h⟩ := g_bVd h
    refine g_callVv (pc := 122) (st := []) hE.1 wvX12_261 rfl rfl (kX12_puts hE w hw v4 v5 (v3 + 1) r35 σ34 h36) rfl (gR_ok (by decide) (by decide)) (Nat.le_of_ble_eq_true rfl) rfl dX12_cleans_122 ?_
    refine g_iinc (pc := 125) (v := v5 + 1) (lv1 := [(5, .int (v5 + 1)), (0, .ref 0), (1, .ref w), (2, .int v2), (3, .int v3), (4, .int v4), (6, .int v6)]) dX12_cleans_125 5 rfl rfl (by decide) rfl ?_
    refine g_goto (pc := 128) (tgt := 42) dX12_cleans_128 (by decide) ?_
    exact g_lv [1, 2, 3, 4, 5, 0] rfl (hK42 v2 v3 v4 (v5 + 1) σ37 h)
  · have h := g_iff c27 h
    refine g_aload_n (pc := 73) dX12_cleans_73 rfl 0 rfl ?_
    refine g_aload_n (pc := 74) dX12_cleans_74 rfl 1 rfl ?_
    refine g_iload (pc := 75) dX12_cleans_75 4 rfl ?_
    refine g_iload (pc := 77) dX12_cleans_77 6 rfl ?_
    refine g_iconst (pc := 79) (v := 0) dX12_cleans_79 (by decide) ?_
    obtain ⟨σ39, h38, h⟩ := g_bVd h
    refine g_callVv (pc := 80) (st := []) hE.1 wvX12_257 rfl rfl (kX12_countsRole hE w hw v4 v6 0 σ h38) rfl (gR_ok (by decide) (by decide)) (Nat.le_of_ble_eq_true rfl) rfl dX12_cleans_80 ?_
    refine g_iinc (pc := 83) (v := v6 + 1) (lv1 := [(6, .int (v6 + 1)), (0, .ref 0), (1, .ref w), (2, .int v2), (3, .int v3), (4, .int v4), (5, .int v5)]) dX12_cleans_83 6 rfl rfl (by decide) rfl ?_
    refine g_goto (pc := 86) (tgt := 67) dX12_cleans_86 (by decide) ?_
    exact g_lv [1, 2, 3, 4, 5, 6, 0] rfl (hK67 v2 v3 v4 v5 (v6 + 1) σ39 h)
def fX12_cleans_L67 (n : Nat) (w : Nat) (K16 : Int32 → Int32 → Int32 → gM → Option (Int32 × gM)) (K42 : Int32 → Int32 → Int32 → Int32 → gM → Option (Int32 × gM)) : Nat → Int32 → Int32 → Int32 → Int32 → Int32 → gM → Option (Int32 × gM)
  | 0 => fun _ _ _ _ _ _ => none
  | k + 1 => fX12_cleans_b67 n w K16 K42 (fX12_cleans_L67 n w K16 K42 k)
theorem tX12_cleans_L67 (hE : gEM l dC dI ad ca X) {r0 : Int32} {σ' : gM} (n : Nat) (w : Nat) (hw : shM[w]? = some (.inl (.int, 616))) (K16 : Int32 → Int32 → Int32 → gM → Option (Int32 × gM)) (hK16 : ∀ (v2 : Int32) (v3 : Int32) (v4 : Int32) (σ : gM), K16 v2 v3 v4 σ = some (r0, σ') → g_G l dC dI ad ca shM X cX12_cleans 7 RX12 (some .int) (gR 3) (some (.int r0)) σ' 16 [(0, .ref 0), (1, .ref w), (2, .int v2), (3, .int v3), (4, .int v4)] [] σ) (K42 : Int32 → Int32 → Int32 → Int32 → gM → Option (Int32 × gM)) (hK42 : ∀ (v2 : Int32) (v3 : Int32) (v4 : Int32) (v5 : Int32) (σ : gM), K42 v2 v3 v4 v5 σ = some (r0, σ') → g_G l dC dI ad ca shM X cX12_cleans 7 RX12 (some .int) (gR 3) (some (.int r0)) σ' 42 [(0, .ref 0), (1, .ref w), (2, .int v2), (3, .int v3), (4, .int v4), (5, .int v5)] [] σ)  : ∀ (k : Nat) (v2 : Int32) (v3 : Int32) (v4 : Int32) (v5 : Int32) (v6 : Int32) (σ : gM), fX12_cleans_L67 n w K16 K42 k v2 v3 v4 v5 v6 σ = some (r0, σ') → g_G l dC dI ad ca shM X cX12_cleans 7 RX12 (some .int) (gR 3) (some (.int r0)) σ' 67 [(0, .ref 0), (1, .ref w), (2, .int v2), (3, .int v3), (4, .int v4), (5, .int v5), (6, .int v6)] [] σ := by
  intro k
  induction k with
  | zero => intro v2 v3 v4 v5 v6 σ h; cases h
  | succ k ih => intro v2 v3 v4 v5 v6 σ h; exact tX12_cleans_b67 hE n w hw K16 hK16 K42 hK42 (fX12_cleans_L67 n w K16 K42 k) ih v2 v3 v4 v5 v6 σ h
def fX12_cleans_b131 (n : Nat) (w : Nat) (K16 : Int32 → Int32 → Int32 → gM → Option (Int32 × gM)) (v2 : Int32) (v3 : Int32) (v4 : Int32) (σ : gM) : Option (Int32 × gM) := K16 v2 v3 (v4 + 1) σ
set_option maxRecDepth 100000 in
theorem tX12_cleans_b131 (hE : gEM l dC dI ad ca X) {r0 : Int32} {σ' : gM} (n : Nat) (w : Nat) (hw : shM[w]? = some (.inl (.int, 616))) (K16 : Int32 → Int32 → Int32 → gM → Option (Int32 × gM)) (hK16 : ∀ (v2 : Int32) (v3 : Int32) (v4 : Int32) (σ : gM), K16 v2 v3 v4 σ = some (r0, σ') → g_G l dC dI ad ca shM X cX12_cleans 7 RX12 (some .int) (gR 3) (some (.int r0)) σ' 16 [(0, .ref 0), (1, .ref w), (2, .int v2), (3, .int v3), (4, .int v4)] [] σ) (v2 : Int32) (v3 : Int32) (v4 : Int32)  (σ : gM) (h : fX12_cleans_b131 n w K16 v2 v3 v4 σ = some (r0, σ')) : g_G l dC dI ad ca shM X cX12_cleans 7 RX12 (some .int) (gR 3) (some (.int r0)) σ' 131 [(0, .ref 0), (1, .ref w), (2, .int v2), (3, .int v3), (4, .int v4)] [] σ := by
  unfold fX12_cleans_b131 at h
  refine g_iinc (pc := 131) (v := v4 + 1) (lv1 := [(4, .int (v4 + 1)), (0, .ref 0), (1, .ref w), (2, .int v2), (3, .int v3)]) dX12_cleans_131 4 rfl rfl (by decide) rfl ?_
  refine g_goto (pc := 134) (tgt := 16) dX12_cleans_134 (by decide) ?_
  exact g_lv [1, 2, 3, 4, 0] rfl (hK16 v2 v3 (v4 + 1) σ h)
def fX12_cleans_b42 (n : Nat) (w : Nat) (K16 : Int32 → Int32 → Int32 → gM → Option (Int32 × gM)) (K42 : Int32 → Int32 → Int32 → Int32 → gM → Option (Int32 × gM)) (v2 : Int32) (v3 : Int32) (v4 : Int32) (v5 : Int32) (σ : gM) : Option (Int32 × gM) := if (σ.1 3 2) ≤ v5 then (fX12_cleans_b131 n w K16 v2 v3 v4 σ) else (g_bV (fX12_lays n w v4 v5 (-1) (-1) σ) (fun σ42 => fX12_cleans_L67 n w K16 K42 n v2 v3 v4 v5 0 σ42))
set_option maxRecDepth 100000 in
theorem tX12_cleans_b42 (hE : gEM l dC dI ad ca X) {r0 : Int32} {σ' : gM} (n : Nat) (w : Nat) (hw : shM[w]? = some (.inl (.int, 616))) (K16 : Int32 → Int32 → Int32 → gM → Option (Int32 × gM)) (hK16 : ∀ (v2 : Int32) (v3 : Int32) (v4 : Int32) (σ : gM), K16 v2 v3 v4 σ = some (r0, σ') → g_G l dC dI ad ca shM X cX12_cleans 7 RX12 (some .int) (gR 3) (some (.int r0)) σ' 16 [(0, .ref 0), (1, .ref w), (2, .int v2), (3, .int v3), (4, .int v4)] [] σ) (K42 : Int32 → Int32 → Int32 → Int32 → gM → Option (Int32 × gM)) (hK42 : ∀ (v2 : Int32) (v3 : Int32) (v4 : Int32) (v5 : Int32) (σ : gM), K42 v2 v3 v4 v5 σ = some (r0, σ') → g_G l dC dI ad ca shM X cX12_cleans 7 RX12 (some .int) (gR 3) (some (.int r0)) σ' 42 [(0, .ref 0), (1, .ref w), (2, .int v2), (3, .int v3), (4, .int v4), (5, .int v5)] [] σ) (v2 : Int32) (v3 : Int32) (v4 : Int32) (v5 : Int32)  (σ : gM) (h : fX12_cleans_b42 n w K16 K42 v2 v3 v4 v5 σ = some (r0, σ')) : g_G l dC dI ad ca shM X cX12_cleans 7 RX12 (some .int) (gR 3) (some (.int r0)) σ' 42 [(0, .ref 0), (1, .ref w), (2, .int v2), (3, .int v3), (4, .int v4), (5, .int v5)] [] σ := by
  unfold fX12_cleans_b42 at h
  refine g_iload (pc := 42) dX12_cleans_42 5 rfl ?_
  refine g_aload_n (pc := 44) dX12_cleans_44 rfl 0 rfl ?_
  refine g_getR (pc := 45) wfX12_17 rfl rfl dX12_cleans_45 ?_
  refine g_iconst (pc := 48) (v := 2) dX12_cleans_48 (by decide) ?_
  refine g_iald (pc := 49) rfl (by decide) (j := 2) (by decide) dX12_cleans_49 ?_
  refine g_icmp_ge (pc := 50) (tgt := 131) dX12_cleans_50 (by decide) (fun c40 => ?_) (fun c40 => ?_)
  · have h := g_ift c40 h
    exact g_lv [0, 1, 2, 3, 4] rfl (tX12_cleans_b131 hE n w hw K16 hK16 v2 v3 v4 σ h)
  · have h := g_iff c40 h
    refine g_aload_n (pc := 53) dX12_cleans_53 rfl 0 rfl ?_
    refine g_aload_n (pc := 54) dX12_cleans_54 rfl 1 rfl ?_
    refine g_iload (pc := 55) dX12_cleans_55 4 rfl ?_
    refine g_iload (pc := 57) dX12_cleans_57 5 rfl ?_
    refine g_iconst (pc := 59) (v := (-1)) dX12_cleans_59 (by decide) ?_
    refine g_iconst (pc := 60) (v := (-1)) dX12_cleans_60 (by decide) ?_
    obtain ⟨σ42, h41, h⟩ := g_bVd h
    refine g_callVv (pc := 61) (st := []) hE.1 wvX12_223 rfl rfl (kX12_lays hE n w hw v4 v5 (-1) (-1) σ h41) rfl (gR_ok (by decide) (by decide)) (Nat.le_of_ble_eq_true rfl) rfl dX12_cleans_61 ?_
    refine g_iconst (pc := 64) (v := 0) dX12_cleans_64 (by decide) ?_
    refine g_istore (pc := 65) (lv1 := [(6, .int 0), (0, .ref 0), (1, .ref w), (2, .int v2), (3, .int v3), (4, .int v4), (5, .int v5)]) dX12_cleans_65 (by decide) rfl ?_
    exact g_lv [1, 2, 3, 4, 5, 6, 0] rfl (tX12_cleans_L67 hE n w hw K16 hK16 K42 hK42 n v2 v3 v4 v5 0 σ42 h)
def fX12_cleans_L42 (n : Nat) (w : Nat) (K16 : Int32 → Int32 → Int32 → gM → Option (Int32 × gM)) : Nat → Int32 → Int32 → Int32 → Int32 → gM → Option (Int32 × gM)
  | 0 => fun _ _ _ _ _ => none
  | k + 1 => fX12_cleans_b42 n w K16 (fX12_cleans_L42 n w K16 k)
theorem tX12_cleans_L42 (hE : gEM l dC dI ad ca X) {r0 : Int32} {σ' : gM} (n : Nat) (w : Nat) (hw : shM[w]? = some (.inl (.int, 616))) (K16 : Int32 → Int32 → Int32 → gM → Option (Int32 × gM)) (hK16 : ∀ (v2 : Int32) (v3 : Int32) (v4 : Int32) (σ : gM), K16 v2 v3 v4 σ = some (r0, σ') → g_G l dC dI ad ca shM X cX12_cleans 7 RX12 (some .int) (gR 3) (some (.int r0)) σ' 16 [(0, .ref 0), (1, .ref w), (2, .int v2), (3, .int v3), (4, .int v4)] [] σ)  : ∀ (k : Nat) (v2 : Int32) (v3 : Int32) (v4 : Int32) (v5 : Int32) (σ : gM), fX12_cleans_L42 n w K16 k v2 v3 v4 v5 σ = some (r0, σ') → g_G l dC dI ad ca shM X cX12_cleans 7 RX12 (some .int) (gR 3) (some (.int r0)) σ' 42 [(0, .ref 0), (1, .ref w), (2, .int v2), (3, .int v3), (4, .int v4), (5, .int v5)] [] σ := by
  intro k
  induction k with
  | zero => intro v2 v3 v4 v5 σ h; cases h
  | succ k ih => intro v2 v3 v4 v5 σ h; exact tX12_cleans_b42 hE n w hw K16 hK16 (fX12_cleans_L42 n w K16 k) ih v2 v3 v4 v5 σ h
def fX12_cleans_b16 (n : Nat) (w : Nat) (K16 : Int32 → Int32 → Int32 → gM → Option (Int32 × gM)) (v2 : Int32) (v3 : Int32) (v4 : Int32) (σ : gM) : Option (Int32 × gM) := if (σ.1 3 1) ≤ v4 then (g_let (g_put σ w 425 ((σ.1 w 425) &&& (v2 ^^^ (-1)))) (fun σ44 => g_bI (fX12_bitsOf n v2 σ44) (fun r48 σ47 => some (r48, σ47)))) else (if ((v2 >>> (v4 &&& 31)) &&& 1) = 0 then (fX12_cleans_b131 n w K16 v2 v3 v4 σ) else (fX12_cleans_L42 n w K16 n v2 v3 v4 0 σ))
set_option maxRecDepth 100000 in
theorem tX12_cleans_b16 (hE : gEM l dC dI ad ca X) {r0 : Int32} {σ' : gM} (n : Nat) (w : Nat) (hw : shM[w]? = some (.inl (.int, 616))) (K16 : Int32 → Int32 → Int32 → gM → Option (Int32 × gM)) (hK16 : ∀ (v2 : Int32) (v3 : Int32) (v4 : Int32) (σ : gM), K16 v2 v3 v4 σ = some (r0, σ') → g_G l dC dI ad ca shM X cX12_cleans 7 RX12 (some .int) (gR 3) (some (.int r0)) σ' 16 [(0, .ref 0), (1, .ref w), (2, .int v2), (3, .int v3), (4, .int v4)] [] σ) (v2 : Int32) (v3 : Int32) (v4 : Int32)  (σ : gM) (h : fX12_cleans_b16 n w K16 v2 v3 v4 σ = some (r0, σ')) : g_G l dC dI ad ca shM X cX12_cleans 7 RX12 (some .int) (gR 3) (some (.int r0)) σ' 16 [(0, .ref 0), (1, .ref w), (2, .int v2), (3, .int v3), (4, .int v4)] [] σ := by
  unfold fX12_cleans_b16 at h
  refine g_iload (pc := 16) dX12_cleans_16 4 rfl ?_
  refine g_aload_n (pc := 18) dX12_cleans_18 rfl 0 rfl ?_
  refine g_getR (pc := 19) wfX12_17 rfl rfl dX12_cleans_19 ?_
  refine g_iconst (pc := 22) (v := 1) dX12_cleans_22 (by decide) ?_
  refine g_iald (pc := 23) rfl (by decide) (j := 1) (by decide) dX12_cleans_23 ?_
  refine g_icmp_ge (pc := 24) (tgt := 137) dX12_cleans_24 (by decide) (fun c43 => ?_) (fun c43 => ?_)
  · have h := g_ift c43 h
    refine g_aload_n (pc := 137) dX12_cleans_137 rfl 1 rfl ?_
    refine g_sipush (pc := 138) (v := 425) dX12_cleans_138 (by decide) ?_
    refine g_dup2 (pc := 141) dX12_cleans_141 rfl rfl ?_
    refine g_iald (pc := 142) hw (by decide) (j := 425) (by decide) dX12_cleans_142 ?_
    refine g_iload_n (pc := 143) dX12_cleans_143 rfl 2 rfl ?_
    refine g_iconst (pc := 144) (v := (-1)) dX12_cleans_144 (by decide) ?_
    refine g_ixor (pc := 145) dX12_cleans_145 ?_
    refine g_iand (pc := 146) dX12_cleans_146 ?_
    obtain ⟨σ44, e45, h⟩ := g_ltd h
    refine g_iast (pc := 147) hw (by decide) (j := 425) (by decide) e45 dX12_cleans_147 ?_
    refine g_iload_n (pc := 148) dX12_cleans_148 rfl 2 rfl ?_
    obtain ⟨r48, σ47, h46, h⟩ := g_bId h
    refine g_callSi (pc := 149) (st := []) hE.1 wsX12_330 (kX12_bitsOf hE n v2 σ44 h46) rfl (gR_ok (by decide) (by decide)) (Nat.le_of_ble_eq_true rfl) rfl dX12_cleans_149 ?_
    cases h
    exact g_iret (pc := 152) rfl rfl rfl rfl dX12_cleans_152
  · have h := g_iff c43 h
    refine g_iload_n (pc := 27) dX12_cleans_27 rfl 2 rfl ?_
    refine g_iload (pc := 28) dX12_cleans_28 4 rfl ?_
    refine g_ishr (pc := 30) dX12_cleans_30 ?_
    refine g_iconst (pc := 31) (v := 1) dX12_cleans_31 (by decide) ?_
    refine g_iand (pc := 32) dX12_cleans_32 ?_
    refine g_if_ne (pc := 33) (tgt := 39) dX12_cleans_33 (by decide) (fun c49 => ?_) (fun c49 => ?_)
    · have h := g_iff c49 h
      refine g_iconst (pc := 39) (v := 0) dX12_cleans_39 (by decide) ?_
      refine g_istore (pc := 40) (lv1 := [(5, .int 0), (0, .ref 0), (1, .ref w), (2, .int v2), (3, .int v3), (4, .int v4)]) dX12_cleans_40 (by decide) rfl ?_
      exact g_lv [1, 2, 3, 4, 5, 0] rfl (tX12_cleans_L42 hE n w hw K16 hK16 n v2 v3 v4 0 σ h)
    · have h := g_ift c49 h
      refine g_goto (pc := 36) (tgt := 131) dX12_cleans_36 (by decide) ?_
      exact g_lv [0, 1, 2, 3, 4] rfl (tX12_cleans_b131 hE n w hw K16 hK16 v2 v3 v4 σ h)
def fX12_cleans_L16 (n : Nat) (w : Nat) : Nat → Int32 → Int32 → Int32 → gM → Option (Int32 × gM)
  | 0 => fun _ _ _ _ => none
  | k + 1 => fX12_cleans_b16 n w (fX12_cleans_L16 n w k)
theorem tX12_cleans_L16 (hE : gEM l dC dI ad ca X) {r0 : Int32} {σ' : gM} (n : Nat) (w : Nat) (hw : shM[w]? = some (.inl (.int, 616)))  : ∀ (k : Nat) (v2 : Int32) (v3 : Int32) (v4 : Int32) (σ : gM), fX12_cleans_L16 n w k v2 v3 v4 σ = some (r0, σ') → g_G l dC dI ad ca shM X cX12_cleans 7 RX12 (some .int) (gR 3) (some (.int r0)) σ' 16 [(0, .ref 0), (1, .ref w), (2, .int v2), (3, .int v3), (4, .int v4)] [] σ := by
  intro k
  induction k with
  | zero => intro v2 v3 v4 σ h; cases h
  | succ k ih => intro v2 v3 v4 σ h; exact tX12_cleans_b16 hE n w hw (fX12_cleans_L16 n w k) ih v2 v3 v4 σ h
def fX12_cleans (n : Nat) (w : Nat) (σ : gM) : Option (Int32 × gM) := g_bI (fX12_toClean n w σ) (fun r52 σ51 => fX12_cleans_L16 n w n r52 (σ51.1 3 0) 0 σ51)
set_option maxRecDepth 100000 in
theorem kX12_cleans (hE : gEM l dC dI ad ca X) (n : Nat) (w : Nat) (hw : shM[w]? = some (.inl (.int, 616)))  (σ : gM) {r0 : Int32} {σ' : gM} (h : fX12_cleans n w σ = some (r0, σ')) : g_C l dC dI ad ca shM X yX12_cleans cX12_cleans 7 (some .int) (gR 3) [.ref 0, .ref w] σ (some (.int r0)) σ' := by
  refine g_entry (by decide +kernel) (Nat.le_of_ble_eq_true rfl) ?_
  refine g_lvE (lv1 := [(0, .ref 0), (1, .ref w)]) rfl ?_
  unfold fX12_cleans at h
  refine g_aload_n (pc := 0) dX12_cleans_0 rfl 0 rfl ?_
  refine g_aload_n (pc := 1) dX12_cleans_1 rfl 1 rfl ?_
  obtain ⟨r52, σ51, h50, h⟩ := g_bId h
  refine g_callVi (pc := 2) (st := []) hE.1 wvX12_299 rfl rfl (kX12_toClean hE n w hw σ h50) rfl (gR_ok (by decide) (by decide)) (Nat.le_of_ble_eq_true rfl) rfl dX12_cleans_2 ?_
  refine g_istore_n (pc := 5) (lv1 := [(2, .int r52), (0, .ref 0), (1, .ref w)]) dX12_cleans_5 rfl (by decide) rfl ?_
  refine g_aload_n (pc := 6) dX12_cleans_6 rfl 1 rfl ?_
  refine g_getR (pc := 7) wfX12_17 rfl rfl dX12_cleans_7 ?_
  refine g_iconst (pc := 10) (v := 0) dX12_cleans_10 (by decide) ?_
  refine g_iald (pc := 11) rfl (by decide) (j := 0) (by decide) dX12_cleans_11 ?_
  refine g_istore_n (pc := 12) (lv1 := [(3, .int (σ51.1 3 0)), (2, .int r52), (0, .ref 0), (1, .ref w)]) dX12_cleans_12 rfl (by decide) rfl ?_
  refine g_iconst (pc := 13) (v := 0) dX12_cleans_13 (by decide) ?_
  refine g_istore (pc := 14) (lv1 := [(4, .int 0), (3, .int (σ51.1 3 0)), (2, .int r52), (0, .ref 0), (1, .ref w)]) dX12_cleans_14 (by decide) rfl ?_
  exact g_lv [3, 4, 2, 1, 0] rfl (tX12_cleans_L16 hE n w hw n r52 (σ51.1 3 0) 0 σ51 h)
def fX12_fills_b133 (n : Nat) (w : Nat) (K92 : Int32 → Int32 → Int32 → Int32 → gM → Option (Int32 × gM)) (v2 : Int32) (v3 : Int32) (v6 : Int32) (v7 : Int32) (σ : gM) : Option (Int32 × gM) := K92 v2 v3 v6 (v7 + 1) σ
set_option maxRecDepth 100000 in
theorem tX12_fills_b133 (hE : gEM l dC dI ad ca X) {r0 : Int32} {σ' : gM} (n : Nat) (w : Nat) (hw : shM[w]? = some (.inl (.int, 616))) (K92 : Int32 → Int32 → Int32 → Int32 → gM → Option (Int32 × gM)) (hK92 : ∀ (v2 : Int32) (v3 : Int32) (v6 : Int32) (v7 : Int32) (σ : gM), K92 v2 v3 v6 v7 σ = some (r0, σ') → g_G l dC dI ad ca shM X cX12_fills 8 RX12 (some .int) (gR 3) (some (.int r0)) σ' 92 [(0, .ref 0), (1, .ref w), (2, .int v2), (3, .int v3), (6, .int v6), (7, .int v7)] [] σ) (v2 : Int32) (v3 : Int32) (v6 : Int32) (v7 : Int32)  (σ : gM) (h : fX12_fills_b133 n w K92 v2 v3 v6 v7 σ = some (r0, σ')) : g_G l dC dI ad ca shM X cX12_fills 8 RX12 (some .int) (gR 3) (some (.int r0)) σ' 133 [(0, .ref 0), (1, .ref w), (2, .int v2), (3, .int v3), (6, .int v6), (7, .int v7)] [] σ := by
  unfold fX12_fills_b133 at h
  refine g_iinc (pc := 133) (v := v7 + 1) (lv1 := [(7, .int (v7 + 1)), (0, .ref 0), (1, .ref w), (2, .int v2), (3, .int v3), (6, .int v6)]) dX12_fills_133 5 rfl rfl (by decide) rfl ?_
  refine g_goto (pc := 136) (tgt := 92) dX12_fills_136 (by decide) ?_
  exact g_lv [1, 2, 3, 4, 5, 0] rfl (hK92 v2 v3 v6 (v7 + 1) σ h)
def fX12_fills_b92 (n : Nat) (w : Nat) (K92 : Int32 → Int32 → Int32 → Int32 → gM → Option (Int32 × gM)) (v2 : Int32) (v3 : Int32) (v6 : Int32) (v7 : Int32) (σ : gM) : Option (Int32 × gM) := if (σ.1 0 13) ≤ v7 then (some (v6, σ)) else (if ¬ (v7 < 0 ∨ 8 ≤ v7.toNatClampNeg) then (if (σ.1 15 v7.toNatClampNeg) = 0 then (fX12_fills_b133 n w K92 v2 v3 v6 v7 σ) else (if ¬ (v7 < 0 ∨ 8 ≤ v7.toNatClampNeg) then (g_bV (fX12_puts w v2 v3 v7 (σ.1 14 v7.toNatClampNeg) σ) (fun σ30 => fX12_fills_b133 n w K92 v2 v3 (v6 + 1) v7 σ30)) else none)) else none)
set_option maxRecDepth 100000 in
theorem tX12_fills_b92 (hE : gEM l dC dI ad ca X) {r0 : Int32} {σ' : gM} (n : Nat) (w : Nat) (hw : shM[w]? = some (.inl (.int, 616))) (K92 : Int32 → Int32 → Int32 → Int32 → gM → Option (Int32 × gM)) (hK92 : ∀ (v2 : Int32) (v3 : Int32) (v6 : Int32) (v7 : Int32) (σ : gM), K92 v2 v3 v6 v7 σ = some (r0, σ') → g_G l dC dI ad ca shM X cX12_fills 8 RX12 (some .int) (gR 3) (some (.int r0)) σ' 92 [(0, .ref 0), (1, .ref w), (2, .int v2), (3, .int v3), (6, .int v6), (7, .int v7)] [] σ) (v2 : Int32) (v3 : Int32) (v6 : Int32) (v7 : Int32)  (σ : gM) (h : fX12_fills_b92 n w K92 v2 v3 v6 v7 σ = some (r0, σ')) : g_G l dC dI ad ca shM X cX12_fills 8 RX12 (some .int) (gR 3) (some (.int r0)) σ' 92 [(0, .ref 0), (1, .ref w), (2, .int v2), (3, .int v3), (6, .int v6), (7, .int v7)] [] σ := by
  unfold fX12_fills_b92 at h
  refine g_iload (pc := 92) dX12_fills_92 5 rfl ?_
  refine g_aload_n (pc := 94) dX12_fills_94 rfl 0 rfl ?_
  refine g_getI (pc := 95) wfX12_171 rfl rfl dX12_fills_95 ?_
  refine g_icmp_ge (pc := 98) (tgt := 139) dX12_fills_98 (by decide) (fun c25 => ?_) (fun c25 => ?_)
  · have h := g_ift c25 h
    refine g_iload (pc := 139) dX12_fills_139 4 rfl ?_
    cases h
    exact g_iret (pc := 141) rfl rfl rfl rfl dX12_fills_141
  · have h := g_iff c25 h
    refine g_aload_n (pc := 101) dX12_fills_101 rfl 0 rfl ?_
    refine g_getR (pc := 102) wfX12_53 rfl rfl dX12_fills_102 ?_
    refine g_iload (pc := 105) dX12_fills_105 5 rfl ?_
    obtain ⟨c26, h⟩ := g_gd h
    refine g_zald (pc := 107) rfl c26 rfl dX12_fills_107 ?_
    refine g_if_ne (pc := 108) (tgt := 114) dX12_fills_108 (by decide) (fun c27 => ?_) (fun c27 => ?_)
    · have h := g_iff c27 h
      refine g_aload_n (pc := 114) dX12_fills_114 rfl 0 rfl ?_
      refine g_aload_n (pc := 115) dX12_fills_115 rfl 1 rfl ?_
      refine g_iload_n (pc := 116) dX12_fills_116 rfl 2 rfl ?_
      refine g_iload_n (pc := 117) dX12_fills_117 rfl 3 rfl ?_
      refine g_iload (pc := 118) dX12_fills_118 5 rfl ?_
      refine g_aload_n (pc := 120) dX12_fills_120 rfl 0 rfl ?_
      refine g_getR (pc := 121) wfX12_50 rfl rfl dX12_fills_121 ?_
      refine g_iload (pc := 124) dX12_fills_124 5 rfl ?_
      obtain ⟨c28, h⟩ := g_gd h
      refine g_iald (pc := 126) rfl c28 rfl dX12_fills_126 ?_
      obtain ⟨σ30, h29, h⟩ := g_bVd h
      refine g_callVv (pc := 127) (st := []) hE.1 wvX12_261 rfl rfl (kX12_puts hE w hw v2 v3 v7 (σ.1 14 v7.toNatClampNeg) σ h29) rfl (gR_ok (by decide) (by decide)) (Nat.le_of_ble_eq_true rfl) rfl dX12_fills_127 ?_
      refine g_iinc (pc := 130) (v := v6 + 1) (lv1 := [(6, .int (v6 + 1)), (0, .ref 0), (1, .ref w), (2, .int v2), (3, .int v3), (7, .int v7)]) dX12_fills_130 4 rfl rfl (by decide) rfl ?_
      exact g_lv [1, 2, 3, 4, 0, 5] rfl (tX12_fills_b133 hE n w hw K92 hK92 v2 v3 (v6 + 1) v7 σ30 h)
    · have h := g_ift c27 h
      refine g_goto (pc := 111) (tgt := 133) dX12_fills_111 (by decide) ?_
      exact g_lv [0, 1, 2, 3, 4, 5] rfl (tX12_fills_b133 hE n w hw K92 hK92 v2 v3 v6 v7 σ h)
def fX12_fills_L92 (n : Nat) (w : Nat) : Nat → Int32 → Int32 → Int32 → Int32 → gM → Option (Int32 × gM)
  | 0 => fun _ _ _ _ _ => none
  | k + 1 => fX12_fills_b92 n w (fX12_fills_L92 n w k)
theorem tX12_fills_L92 (hE : gEM l dC dI ad ca X) {r0 : Int32} {σ' : gM} (n : Nat) (w : Nat) (hw : shM[w]? = some (.inl (.int, 616)))  : ∀ (k : Nat) (v2 : Int32) (v3 : Int32) (v6 : Int32) (v7 : Int32) (σ : gM), fX12_fills_L92 n w k v2 v3 v6 v7 σ = some (r0, σ') → g_G l dC dI ad ca shM X cX12_fills 8 RX12 (some .int) (gR 3) (some (.int r0)) σ' 92 [(0, .ref 0), (1, .ref w), (2, .int v2), (3, .int v3), (6, .int v6), (7, .int v7)] [] σ := by
  intro k
  induction k with
  | zero => intro v2 v3 v6 v7 σ h; cases h
  | succ k ih => intro v2 v3 v6 v7 σ h; exact tX12_fills_b92 hE n w hw (fX12_fills_L92 n w k) ih v2 v3 v6 v7 σ h
def fX12_fills_b12 (n : Nat) (w : Nat) (K12 : Int32 → Int32 → Int32 → Int32 → Int32 → gM → Option (Int32 × gM)) (v2 : Int32) (v3 : Int32) (v4 : Int32) (v5 : Int32) (v6 : Int32) (σ : gM) : Option (Int32 × gM) := if (σ.1 3 0) ≤ v6 then (g_bI (fX12_sum n 0 (-1) (-1) σ) (fun r34 σ33 => if ¬ ((σ.1 3 0) < 0 ∨ 8 ≤ (σ.1 3 0).toNatClampNeg) then (g_let (g_put σ33 14 ((σ.1 3 0).toNatClampNeg) r34) (fun σ36 => g_bI (fX12_sum n 1 (-1) (-1) σ36) (fun r40 σ39 => if ¬ (((σ36.1 3 0) + 1) < 0 ∨ 8 ≤ ((σ36.1 3 0) + 1).toNatClampNeg) then (g_let (g_put σ39 14 (((σ36.1 3 0) + 1).toNatClampNeg) r40) (fun σ42 => fX12_fills_L92 n w n v2 v3 0 0 σ42)) else none))) else none)) else (if ¬ (v6 < 0 ∨ 8 ≤ v6.toNatClampNeg) then (g_let (g_put σ 14 v6.toNatClampNeg ((v4 + (v6 * v5)) - (v4 + (v6 * v5)) / 256 * 256)) (fun σ45 => K12 v2 v3 v4 v5 (v6 + 1) σ45)) else none)
set_option maxRecDepth 100000 in
theorem tX12_fills_b12 (hE : gEM l dC dI ad ca X) {r0 : Int32} {σ' : gM} (n : Nat) (w : Nat) (hw : shM[w]? = some (.inl (.int, 616))) (K12 : Int32 → Int32 → Int32 → Int32 → Int32 → gM → Option (Int32 × gM)) (hK12 : ∀ (v2 : Int32) (v3 : Int32) (v4 : Int32) (v5 : Int32) (v6 : Int32) (σ : gM), K12 v2 v3 v4 v5 v6 σ = some (r0, σ') → g_G l dC dI ad ca shM X cX12_fills 8 RX12 (some .int) (gR 3) (some (.int r0)) σ' 12 [(0, .ref 0), (1, .ref w), (2, .int v2), (3, .int v3), (4, .int v4), (5, .int v5), (6, .int v6)] [] σ) (v2 : Int32) (v3 : Int32) (v4 : Int32) (v5 : Int32) (v6 : Int32)  (σ : gM) (h : fX12_fills_b12 n w K12 v2 v3 v4 v5 v6 σ = some (r0, σ')) : g_G l dC dI ad ca shM X cX12_fills 8 RX12 (some .int) (gR 3) (some (.int r0)) σ' 12 [(0, .ref 0), (1, .ref w), (2, .int v2), (3, .int v3), (4, .int v4), (5, .int v5), (6, .int v6)] [] σ := by
  unfold fX12_fills_b12 at h
  refine g_iload (pc := 12) dX12_fills_12 6 rfl ?_
  refine g_aload_n (pc := 14) dX12_fills_14 rfl 0 rfl ?_
  refine g_getR (pc := 15) wfX12_17 rfl rfl dX12_fills_15 ?_
  refine g_iconst (pc := 18) (v := 0) dX12_fills_18 (by decide) ?_
  refine g_iald (pc := 19) rfl (by decide) (j := 0) (by decide) dX12_fills_19 ?_
  refine g_icmp_ge (pc := 20) (tgt := 48) dX12_fills_20 (by decide) (fun c31 => ?_) (fun c31 => ?_)
  · have h := g_ift c31 h
    refine g_aload_n (pc := 48) dX12_fills_48 rfl 0 rfl ?_
    refine g_getR (pc := 49) wfX12_50 rfl rfl dX12_fills_49 ?_
    refine g_aload_n (pc := 52) dX12_fills_52 rfl 0 rfl ?_
    refine g_getR (pc := 53) wfX12_17 rfl rfl dX12_fills_53 ?_
    refine g_iconst (pc := 56) (v := 0) dX12_fills_56 (by decide) ?_
    refine g_iald (pc := 57) rfl (by decide) (j := 0) (by decide) dX12_fills_57 ?_
    refine g_aload_n (pc := 58) dX12_fills_58 rfl 0 rfl ?_
    refine g_iconst (pc := 59) (v := 0) dX12_fills_59 (by decide) ?_
    refine g_iconst (pc := 60) (v := (-1)) dX12_fills_60 (by decide) ?_
    refine g_iconst (pc := 61) (v := (-1)) dX12_fills_61 (by decide) ?_
    obtain ⟨r34, σ33, h32, h⟩ := g_bId h
    refine g_callVi (pc := 62) (st := [.int (σ.1 3 0), .ref 14]) hE.1 wvX12_213 rfl rfl (kX12_sum hE n 0 (-1) (-1) σ h32) rfl (gR_ok (by decide) (by decide)) (Nat.le_of_ble_eq_true rfl) rfl dX12_fills_62 ?_
    obtain ⟨c35, h⟩ := g_gd h
    obtain ⟨σ36, e37, h⟩ := g_ltd h
    refine g_iast (pc := 65) rfl c35 rfl e37 dX12_fills_65 ?_
    refine g_aload_n (pc := 66) dX12_fills_66 rfl 0 rfl ?_
    refine g_getR (pc := 67) wfX12_50 rfl rfl dX12_fills_67 ?_
    refine g_aload_n (pc := 70) dX12_fills_70 rfl 0 rfl ?_
    refine g_getR (pc := 71) wfX12_17 rfl rfl dX12_fills_71 ?_
    refine g_iconst (pc := 74) (v := 0) dX12_fills_74 (by decide) ?_
    refine g_iald (pc := 75) rfl (by decide) (j := 0) (by decide) dX12_fills_75 ?_
    refine g_iconst (pc := 76) (v := 1) dX12_fills_76 (by decide) ?_
    refine g_iadd (pc := 77) dX12_fills_77 ?_
    refine g_aload_n (pc := 78) dX12_fills_78 rfl 0 rfl ?_
    refine g_iconst (pc := 79) (v := 1) dX12_fills_79 (by decide) ?_
    refine g_iconst (pc := 80) (v := (-1)) dX12_fills_80 (by decide) ?_
    refine g_iconst (pc := 81) (v := (-1)) dX12_fills_81 (by decide) ?_
    obtain ⟨r40, σ39, h38, h⟩ := g_bId h
    refine g_callVi (pc := 82) (st := [.int ((σ36.1 3 0) + 1), .ref 14]) hE.1 wvX12_213 rfl rfl (kX12_sum hE n 1 (-1) (-1) σ36 h38) rfl (gR_ok (by decide) (by decide)) (Nat.le_of_ble_eq_true rfl) rfl dX12_fills_82 ?_
    obtain ⟨c41, h⟩ := g_gd h
    obtain ⟨σ42, e43, h⟩ := g_ltd h
    refine g_iast (pc := 85) rfl c41 rfl e43 dX12_fills_85 ?_
    refine g_iconst (pc := 86) (v := 0) dX12_fills_86 (by decide) ?_
    refine g_istore (pc := 87) (lv1 := [(6, .int 0), (0, .ref 0), (1, .ref w), (2, .int v2), (3, .int v3), (4, .int v4), (5, .int v5)]) dX12_fills_87 (by decide) rfl ?_
    refine g_iconst (pc := 89) (v := 0) dX12_fills_89 (by decide) ?_
    refine g_istore (pc := 90) (lv1 := [(7, .int 0), (6, .int 0), (0, .ref 0), (1, .ref w), (2, .int v2), (3, .int v3), (4, .int v4), (5, .int v5)]) dX12_fills_90 (by decide) rfl ?_
    exact g_lv [2, 3, 4, 5, 1, 0] rfl (tX12_fills_L92 hE n w hw n v2 v3 0 0 σ42 h)
  · have h := g_iff c31 h
    refine g_aload_n (pc := 23) dX12_fills_23 rfl 0 rfl ?_
    refine g_getR (pc := 24) wfX12_50 rfl rfl dX12_fills_24 ?_
    refine g_iload (pc := 27) dX12_fills_27 6 rfl ?_
    refine g_iload (pc := 29) dX12_fills_29 4 rfl ?_
    refine g_iload (pc := 31) dX12_fills_31 6 rfl ?_
    refine g_iload (pc := 33) dX12_fills_33 5 rfl ?_
    refine g_imul (pc := 35) dX12_fills_35 ?_
    refine g_iadd (pc := 36) dX12_fills_36 ?_
    refine g_sipush (pc := 37) (v := 256) dX12_fills_37 (by decide) ?_
    refine g_irem (pc := 40) dX12_fills_40 (by decide) ?_
    obtain ⟨c44, h⟩ := g_gd h
    obtain ⟨σ45, e46, h⟩ := g_ltd h
    refine g_iast (pc := 41) rfl c44 rfl e46 dX12_fills_41 ?_
    refine g_iinc (pc := 42) (v := v6 + 1) (lv1 := [(6, .int (v6 + 1)), (0, .ref 0), (1, .ref w), (2, .int v2), (3, .int v3), (4, .int v4), (5, .int v5)]) dX12_fills_42 6 rfl rfl (by decide) rfl ?_
    refine g_goto (pc := 45) (tgt := 12) dX12_fills_45 (by decide) ?_
    exact g_lv [1, 2, 3, 4, 5, 6, 0] rfl (hK12 v2 v3 v4 v5 (v6 + 1) σ45 h)
def fX12_fills_L12 (n : Nat) (w : Nat) : Nat → Int32 → Int32 → Int32 → Int32 → Int32 → gM → Option (Int32 × gM)
  | 0 => fun _ _ _ _ _ _ => none
  | k + 1 => fX12_fills_b12 n w (fX12_fills_L12 n w k)
theorem tX12_fills_L12 (hE : gEM l dC dI ad ca X) {r0 : Int32} {σ' : gM} (n : Nat) (w : Nat) (hw : shM[w]? = some (.inl (.int, 616)))  : ∀ (k : Nat) (v2 : Int32) (v3 : Int32) (v4 : Int32) (v5 : Int32) (v6 : Int32) (σ : gM), fX12_fills_L12 n w k v2 v3 v4 v5 v6 σ = some (r0, σ') → g_G l dC dI ad ca shM X cX12_fills 8 RX12 (some .int) (gR 3) (some (.int r0)) σ' 12 [(0, .ref 0), (1, .ref w), (2, .int v2), (3, .int v3), (4, .int v4), (5, .int v5), (6, .int v6)] [] σ := by
  intro k
  induction k with
  | zero => intro v2 v3 v4 v5 v6 σ h; cases h
  | succ k ih => intro v2 v3 v4 v5 v6 σ h; exact tX12_fills_b12 hE n w hw (fX12_fills_L12 n w k) ih v2 v3 v4 v5 v6 σ h
def fX12_fills (n : Nat) (w : Nat) (v2 : Int32) (v3 : Int32) (v4 : Int32) (v5 : Int32) (σ : gM) : Option (Int32 × gM) := g_bV (fX12_lays n w v2 v3 (-1) (-1) σ) (fun σ48 => fX12_fills_L12 n w n v2 v3 v4 v5 0 σ48)
set_option maxRecDepth 100000 in
theorem kX12_fills (hE : gEM l dC dI ad ca X) (n : Nat) (w : Nat) (hw : shM[w]? = some (.inl (.int, 616)))  (v2 : Int32) (v3 : Int32) (v4 : Int32) (v5 : Int32) (σ : gM) {r0 : Int32} {σ' : gM} (h : fX12_fills n w v2 v3 v4 v5 σ = some (r0, σ')) : g_C l dC dI ad ca shM X yX12_fills cX12_fills 8 (some .int) (gR 3) [.ref 0, .ref w, .int v2, .int v3, .int v4, .int v5] σ (some (.int r0)) σ' := by
  refine g_entry (by decide +kernel) (Nat.le_of_ble_eq_true rfl) ?_
  refine g_lvE (lv1 := [(0, .ref 0), (1, .ref w), (2, .int v2), (3, .int v3), (4, .int v4), (5, .int v5)]) rfl ?_
  unfold fX12_fills at h
  refine g_aload_n (pc := 0) dX12_fills_0 rfl 0 rfl ?_
  refine g_aload_n (pc := 1) dX12_fills_1 rfl 1 rfl ?_
  refine g_iload_n (pc := 2) dX12_fills_2 rfl 2 rfl ?_
  refine g_iload_n (pc := 3) dX12_fills_3 rfl 3 rfl ?_
  refine g_iconst (pc := 4) (v := (-1)) dX12_fills_4 (by decide) ?_
  refine g_iconst (pc := 5) (v := (-1)) dX12_fills_5 (by decide) ?_
  obtain ⟨σ48, h47, h⟩ := g_bVd h
  refine g_callVv (pc := 6) (st := []) hE.1 wvX12_223 rfl rfl (kX12_lays hE n w hw v2 v3 (-1) (-1) σ h47) rfl (gR_ok (by decide) (by decide)) (Nat.le_of_ble_eq_true rfl) rfl dX12_fills_6 ?_
  refine g_iconst (pc := 9) (v := 0) dX12_fills_9 (by decide) ?_
  refine g_istore (pc := 10) (lv1 := [(6, .int 0), (0, .ref 0), (1, .ref w), (2, .int v2), (3, .int v3), (4, .int v4), (5, .int v5)]) dX12_fills_10 (by decide) rfl ?_
  exact g_lv [1, 2, 3, 4, 5, 6, 0] rfl (tX12_fills_L12 hE n w hw n v2 v3 v4 v5 0 σ48 h)
def fX12_does_b181 (n : Nat) (w : Nat) (v3 : Int32) (σ : gM) : Option (Int32 × gM) := if ¬ ((392 + v3) < 0 ∨ 616 ≤ (392 + v3).toNatClampNeg) then (g_let (g_put σ 0 29 (σ.1 w ((392 + v3).toNatClampNeg))) (fun σ83 => some ((-1), σ83))) else none
set_option maxRecDepth 100000 in
theorem tX12_does_b181 (hE : gEM l dC dI ad ca X) {r0 : Int32} {σ' : gM} (n : Nat) (w : Nat) (hw : shM[w]? = some (.inl (.int, 616))) (v3 : Int32)  (σ : gM) (h : fX12_does_b181 n w v3 σ = some (r0, σ')) : g_G l dC dI ad ca shM X cX12_does 9 RX12 (some .int) (gR 6) (some (.int r0)) σ' 181 [(0, .ref 0), (1, .ref w), (3, .int v3)] [] σ := by
  unfold fX12_does_b181 at h
  refine g_aload_n (pc := 181) dX12_does_181 rfl 0 rfl ?_
  refine g_aload_n (pc := 182) dX12_does_182 rfl 1 rfl ?_
  refine g_sipush (pc := 183) (v := 392) dX12_does_183 (by decide) ?_
  refine g_iload_n (pc := 186) dX12_does_186 rfl 2 rfl ?_
  refine g_iadd (pc := 187) dX12_does_187 ?_
  obtain ⟨c82, h⟩ := g_gd h
  refine g_iald (pc := 188) hw c82 rfl dX12_does_188 ?_
  obtain ⟨σ83, e84, h⟩ := g_ltd h
  refine g_putI (pc := 189) wfX12_313 rfl rfl rfl rfl e84 dX12_does_189 ?_
  refine g_iconst (pc := 192) (v := (-1)) dX12_does_192 (by decide) ?_
  cases h
  exact g_iret (pc := 193) rfl rfl rfl rfl dX12_does_193
def fX12_does_b151 (n : Nat) (w : Nat) (K151 : Int32 → Int32 → Int32 → gM → Option (Int32 × gM)) (v3 : Int32) (v4 : Int32) (v8 : Int32) (σ : gM) : Option (Int32 × gM) := if v4 ≤ v8 then (fX12_does_b181 n w v3 σ) else (if ¬ ((384 + v3) < 0 ∨ 616 ≤ (384 + v3).toNatClampNeg) then (if (σ.1 w ((384 + v3).toNatClampNeg)) = 2 then (g_bV (fX12_rebuilds n w v3 σ) (fun σ89 => K151 v3 v4 (v8 + 1) σ89)) else (fX12_does_b181 n w v3 σ)) else none)
set_option maxRecDepth 100000 in
theorem tX12_does_b151 (hE : gEM l dC dI ad ca X) {r0 : Int32} {σ' : gM} (n : Nat) (w : Nat) (hw : shM[w]? = some (.inl (.int, 616))) (K151 : Int32 → Int32 → Int32 → gM → Option (Int32 × gM)) (hK151 : ∀ (v3 : Int32) (v4 : Int32) (v8 : Int32) (σ : gM), K151 v3 v4 v8 σ = some (r0, σ') → g_G l dC dI ad ca shM X cX12_does 9 RX12 (some .int) (gR 6) (some (.int r0)) σ' 151 [(0, .ref 0), (1, .ref w), (3, .int v3), (4, .int v4), (8, .int v8)] [] σ) (v3 : Int32) (v4 : Int32) (v8 : Int32)  (σ : gM) (h : fX12_does_b151 n w K151 v3 v4 v8 σ = some (r0, σ')) : g_G l dC dI ad ca shM X cX12_does 9 RX12 (some .int) (gR 6) (some (.int r0)) σ' 151 [(0, .ref 0), (1, .ref w), (3, .int v3), (4, .int v4), (8, .int v8)] [] σ := by
  unfold fX12_does_b151 at h
  refine g_iload (pc := 151) dX12_does_151 4 rfl ?_
  refine g_iload (pc := 153) dX12_does_153 3 rfl ?_
  refine g_icmp_ge (pc := 155) (tgt := 181) dX12_does_155 (by decide) (fun c85 => ?_) (fun c85 => ?_)
  · have h := g_ift c85 h
    exact g_lv [0, 1, 2] rfl (tX12_does_b181 hE n w hw v3 σ h)
  · have h := g_iff c85 h
    refine g_aload_n (pc := 158) dX12_does_158 rfl 1 rfl ?_
    refine g_sipush (pc := 159) (v := 384) dX12_does_159 (by decide) ?_
    refine g_iload_n (pc := 162) dX12_does_162 rfl 2 rfl ?_
    refine g_iadd (pc := 163) dX12_does_163 ?_
    obtain ⟨c86, h⟩ := g_gd h
    refine g_iald (pc := 164) hw c86 rfl dX12_does_164 ?_
    refine g_iconst (pc := 165) (v := 2) dX12_does_165 (by decide) ?_
    refine g_icmp_ne (pc := 166) (tgt := 181) dX12_does_166 (by decide) (fun c87 => ?_) (fun c87 => ?_)
    · have h := g_iff c87 h
      exact g_lv [0, 1, 2] rfl (tX12_does_b181 hE n w hw v3 σ h)
    · have h := g_ift c87 h
      refine g_aload_n (pc := 169) dX12_does_169 rfl 0 rfl ?_
      refine g_aload_n (pc := 170) dX12_does_170 rfl 1 rfl ?_
      refine g_iload_n (pc := 171) dX12_does_171 rfl 2 rfl ?_
      obtain ⟨σ89, h88, h⟩ := g_bVd h
      refine g_callVv (pc := 172) (st := []) hE.1 wvX12_320 rfl rfl (kX12_rebuilds hE n w hw v3 σ h88) rfl (gR_ok (by decide) (by decide)) (Nat.le_of_ble_eq_true rfl) rfl dX12_does_172 ?_
      refine g_iinc (pc := 175) (v := v8 + 1) (lv1 := [(8, .int (v8 + 1)), (0, .ref 0), (1, .ref w), (3, .int v3), (4, .int v4)]) dX12_does_175 4 rfl rfl (by decide) rfl ?_
      refine g_goto (pc := 178) (tgt := 151) dX12_does_178 (by decide) ?_
      exact g_lv [1, 2, 3, 4, 0] rfl (hK151 v3 v4 (v8 + 1) σ89 h)
def fX12_does_L151 (n : Nat) (w : Nat) : Nat → Int32 → Int32 → Int32 → gM → Option (Int32 × gM)
  | 0 => fun _ _ _ _ => none
  | k + 1 => fX12_does_b151 n w (fX12_does_L151 n w k)
theorem tX12_does_L151 (hE : gEM l dC dI ad ca X) {r0 : Int32} {σ' : gM} (n : Nat) (w : Nat) (hw : shM[w]? = some (.inl (.int, 616)))  : ∀ (k : Nat) (v3 : Int32) (v4 : Int32) (v8 : Int32) (σ : gM), fX12_does_L151 n w k v3 v4 v8 σ = some (r0, σ') → g_G l dC dI ad ca shM X cX12_does 9 RX12 (some .int) (gR 6) (some (.int r0)) σ' 151 [(0, .ref 0), (1, .ref w), (3, .int v3), (4, .int v4), (8, .int v8)] [] σ := by
  intro k
  induction k with
  | zero => intro v3 v4 v8 σ h; cases h
  | succ k ih => intro v3 v4 v8 σ h; exact tX12_does_b151 hE n w hw (fX12_does_L151 n w k) ih v3 v4 v8 σ h
def fX12_does (n : Nat) (w : Nat) (v2 : Int32) (v3 : Int32) (v4 : Int32) (v5 : Int32) (v6 : Int32) (σ : gM) : Option (Int32 × gM) := g_bI (fX12_stops n w v2 v3 v4 v5 v6 σ) (fun r92 σ91 => if r92 = (-1) then (g_let (g_put σ91 0 30 v3) (fun σ94 => if v2 = 0 then (g_bI (fX12_reads n w v3 σ94) (fun r99 σ98 => g_let (g_put σ98 0 29 r99) (fun σ100 => g_bV (fX12_writes n w v3 v4 σ100) (fun σ103 => some ((-1), σ103))))) else (if v2 = 1 then (g_bV (fX12_loses n w v3 σ94) (fun σ106 => g_bI (fX12_lost n w σ106) (fun r109 σ108 => g_let (g_put σ108 0 29 r109) (fun σ110 => some ((-1), σ110))))) else (if v2 = 2 then (g_let (g_put σ94 w 424 ((σ94.1 w 424) - 1)) (fun σ113 => if ¬ ((384 + v3) < 0 ∨ 616 ≤ (384 + v3).toNatClampNeg) then (g_let (g_put σ113 w ((384 + v3).toNatClampNeg) 2) (fun σ116 => if ¬ ((392 + v3) < 0 ∨ 616 ≤ (392 + v3).toNatClampNeg) then (g_let (g_put σ116 w ((392 + v3).toNatClampNeg) 0) (fun σ119 => g_let (g_put σ119 0 29 (σ119.1 w 424)) (fun σ121 => some ((-1), σ121)))) else none)) else none)) else (if v2 = 3 then (fX12_does_L151 n w n v3 v4 0 σ94) else (if v2 = 4 then (g_bV (fX12_scrubsOn n w v3 σ94) (fun σ126 => some ((-1), σ126))) else (if v2 = 5 then (g_bI (fX12_spot v3 v4 v5 σ94) (fun r130 σ129 => if ¬ (r130 < 0 ∨ 616 ≤ r130.toNatClampNeg) then (if ¬ (r130 < 0 ∨ 616 ≤ r130.toNatClampNeg) then (g_let (g_put σ129 w r130.toNatClampNeg ((σ129.1 w r130.toNatClampNeg) ^^^ v6)) (fun σ133 => g_bI (fX12_spot v3 v4 v5 σ133) (fun r137 σ136 => if ¬ (r137 < 0 ∨ 616 ≤ r137.toNatClampNeg) then (g_let (g_put σ136 0 29 (σ136.1 w r137.toNatClampNeg)) (fun σ139 => some ((-1), σ139))) else none))) else none) else none)) else (if v2 = 6 then (g_bV (fX12_tears n w v3 v4 v5 σ94) (fun σ143 => g_bI (fX12_bitsOf n (σ143.1 w 425) σ143) (fun r146 σ145 => g_let (g_put σ145 0 29 r146) (fun σ147 => some ((-1), σ147))))) else (if v2 = 7 then (g_bI (fX12_cleans n w σ94) (fun r152 σ151 => g_let (g_put σ151 0 29 r152) (fun σ153 => g_let (g_put σ153 0 30 (σ153.1 0 29)) (fun σ155 => some ((-1), σ155))))) else (g_bI (fX12_fills n w v3 v4 v5 v6 σ94) (fun r159 σ158 => g_let (g_put σ158 0 29 r159) (fun σ160 => some ((-1), σ160))))))))))))) else (some (r92, σ91)))
set_option maxRecDepth 100000 in
theorem kX12_does (hE : gEM l dC dI ad ca X) (n : Nat) (w : Nat) (hw : shM[w]? = some (.inl (.int, 616)))  (v2 : Int32) (v3 : Int32) (v4 : Int32) (v5 : Int32) (v6 : Int32) (σ : gM) {r0 : Int32} {σ' : gM} (h : fX12_does n w v2 v3 v4 v5 v6 σ = some (r0, σ')) : g_C l dC dI ad ca shM X yX12_does cX12_does 9 (some .int) (gR 6) [.ref 0, .ref w, .int v2, .int v3, .int v4, .int v5, .int v6] σ (some (.int r0)) σ' := by
  refine g_entry (by decide +kernel) (Nat.le_of_ble_eq_true rfl) ?_
  refine g_lvE (lv1 := [(0, .ref 0), (1, .ref w), (2, .int v2), (3, .int v3), (4, .int v4), (5, .int v5), (6, .int v6)]) rfl ?_
  unfold fX12_does at h
  refine g_aload_n (pc := 0) dX12_does_0 rfl 0 rfl ?_
  refine g_aload_n (pc := 1) dX12_does_1 rfl 1 rfl ?_
  refine g_iload_n (pc := 2) dX12_does_2 rfl 2 rfl ?_
  refine g_iload_n (pc := 3) dX12_does_3 rfl 3 rfl ?_
  refine g_iload (pc := 4) dX12_does_4 4 rfl ?_
  refine g_iload (pc := 6) dX12_does_6 5 rfl ?_
  refine g_iload (pc := 8) dX12_does_8 6 rfl ?_
  obtain ⟨r92, σ91, h90, h⟩ := g_bId h
  refine g_callVi (pc := 10) (st := []) hE.1 wvX12_302 rfl rfl (kX12_stops hE n w hw v2 v3 v4 v5 v6 σ h90) rfl (gR_ok (by decide) (by decide)) (Nat.le_of_ble_eq_true rfl) rfl dX12_does_10 ?_
  refine g_istore (pc := 13) (lv1 := [(7, .int r92), (0, .ref 0), (1, .ref w), (2, .int v2), (3, .int v3), (4, .int v4), (5, .int v5), (6, .int v6)]) dX12_does_13 (by decide) rfl ?_
  refine g_iload (pc := 15) dX12_does_15 0 rfl ?_
  refine g_iconst (pc := 17) (v := (-1)) dX12_does_17 (by decide) ?_
  refine g_icmp_eq (pc := 18) (tgt := 24) dX12_does_18 (by decide) (fun c93 => ?_) (fun c93 => ?_)
  · have h := g_ift c93 h
    refine g_aload_n (pc := 24) dX12_does_24 rfl 1 rfl ?_
    refine g_iload_n (pc := 25) dX12_does_25 rfl 4 rfl ?_
    obtain ⟨σ94, e95, h⟩ := g_ltd h
    refine g_putI (pc := 26) wfX12_306 rfl rfl rfl rfl e95 dX12_does_26 ?_
    refine g_iload_n (pc := 29) dX12_does_29 rfl 3 rfl ?_
    by_cases c96 : v2 = 0
    · have h := g_ift c96 h
      refine g_tabIn (pc := 30) (tgt := 76) (off := 46) dX12_does_30 (by rw [c96]; decide) (by rw [c96]; decide) (by rw [c96]; decide) (by decide) ?_
      refine g_aload_n (pc := 76) dX12_does_76 rfl 1 rfl ?_
      refine g_aload_n (pc := 77) dX12_does_77 rfl 1 rfl ?_
      refine g_aload_n (pc := 78) dX12_does_78 rfl 2 rfl ?_
      refine g_iload_n (pc := 79) dX12_does_79 rfl 4 rfl ?_
      obtain ⟨r99, σ98, h97, h⟩ := g_bId h
      refine g_callVi (pc := 80) (st := [.ref 0]) hE.1 wvX12_309 rfl rfl (kX12_reads hE n w hw v3 σ94 h97) rfl (gR_ok (by decide) (by decide)) (Nat.le_of_ble_eq_true rfl) rfl dX12_does_80 ?_
      obtain ⟨σ100, e101, h⟩ := g_ltd h
      refine g_putI (pc := 83) wfX12_313 rfl rfl rfl rfl e101 dX12_does_83 ?_
      refine g_aload_n (pc := 86) dX12_does_86 rfl 1 rfl ?_
      refine g_aload_n (pc := 87) dX12_does_87 rfl 2 rfl ?_
      refine g_iload_n (pc := 88) dX12_does_88 rfl 4 rfl ?_
      refine g_iload (pc := 89) dX12_does_89 5 rfl ?_
      obtain ⟨σ103, h102, h⟩ := g_bVd h
      refine g_callVv (pc := 91) (st := []) hE.1 wvX12_177 rfl rfl (kX12_writes hE n w hw v3 v4 σ100 h102) rfl (gR_ok (by decide) (by decide)) (Nat.le_of_ble_eq_true rfl) rfl dX12_does_91 ?_
      refine g_iconst (pc := 94) (v := (-1)) dX12_does_94 (by decide) ?_
      cases h
      exact g_iret (pc := 95) rfl rfl rfl rfl dX12_does_95
    have h := g_iff c96 h
    by_cases c104 : v2 = 1
    · have h := g_ift c104 h
      refine g_tabIn (pc := 30) (tgt := 96) (off := 66) dX12_does_30 (by rw [c104]; decide) (by rw [c104]; decide) (by rw [c104]; decide) (by decide) ?_
      refine g_aload_n (pc := 96) dX12_does_96 rfl 2 rfl ?_
      refine g_iload_n (pc := 97) dX12_does_97 rfl 4 rfl ?_
      obtain ⟨σ106, h105, h⟩ := g_bVd h
      refine g_callSv (pc := 98) (st := []) hE.1 wsX12_316 (kX12_loses hE n w hw v3 σ94 h105) rfl (gR_ok (by decide) (by decide)) (Nat.le_of_ble_eq_true rfl) rfl dX12_does_98 ?_
      refine g_aload_n (pc := 101) dX12_does_101 rfl 1 rfl ?_
      refine g_aload_n (pc := 102) dX12_does_102 rfl 1 rfl ?_
      refine g_aload_n (pc := 103) dX12_does_103 rfl 2 rfl ?_
      obtain ⟨r109, σ108, h107, h⟩ := g_bId h
      refine g_callVi (pc := 104) (st := [.ref 0]) hE.1 wvX12_284 rfl rfl (kX12_lost hE n w hw σ106 h107) rfl (gR_ok (by decide) (by decide)) (Nat.le_of_ble_eq_true rfl) rfl dX12_does_104 ?_
      obtain ⟨σ110, e111, h⟩ := g_ltd h
      refine g_putI (pc := 107) wfX12_313 rfl rfl rfl rfl e111 dX12_does_107 ?_
      refine g_iconst (pc := 110) (v := (-1)) dX12_does_110 (by decide) ?_
      cases h
      exact g_iret (pc := 111) rfl rfl rfl rfl dX12_does_111
    have h := g_iff c104 h
    by_cases c112 : v2 = 2
    · have h := g_ift c112 h
      refine g_tabIn (pc := 30) (tgt := 112) (off := 82) dX12_does_30 (by rw [c112]; decide) (by rw [c112]; decide) (by rw [c112]; decide) (by decide) ?_
      refine g_aload_n (pc := 112) dX12_does_112 rfl 2 rfl ?_
      refine g_sipush (pc := 113) (v := 424) dX12_does_113 (by decide) ?_
      refine g_dup2 (pc := 116) dX12_does_116 rfl rfl ?_
      refine g_iald (pc := 117) hw (by decide) (j := 424) (by decide) dX12_does_117 ?_
      refine g_iconst (pc := 118) (v := 1) dX12_does_118 (by decide) ?_
      refine g_isub (pc := 119) dX12_does_119 ?_
      obtain ⟨σ113, e114, h⟩ := g_ltd h
      refine g_iast (pc := 120) hw (by decide) (j := 424) (by decide) e114 dX12_does_120 ?_
      refine g_aload_n (pc := 121) dX12_does_121 rfl 2 rfl ?_
      refine g_sipush (pc := 122) (v := 384) dX12_does_122 (by decide) ?_
      refine g_iload_n (pc := 125) dX12_does_125 rfl 4 rfl ?_
      refine g_iadd (pc := 126) dX12_does_126 ?_
      refine g_iconst (pc := 127) (v := 2) dX12_does_127 (by decide) ?_
      obtain ⟨c115, h⟩ := g_gd h
      obtain ⟨σ116, e117, h⟩ := g_ltd h
      refine g_iast (pc := 128) hw c115 rfl e117 dX12_does_128 ?_
      refine g_aload_n (pc := 129) dX12_does_129 rfl 2 rfl ?_
      refine g_sipush (pc := 130) (v := 392) dX12_does_130 (by decide) ?_
      refine g_iload_n (pc := 133) dX12_does_133 rfl 4 rfl ?_
      refine g_iadd (pc := 134) dX12_does_134 ?_
      refine g_iconst (pc := 135) (v := 0) dX12_does_135 (by decide) ?_
      obtain ⟨c118, h⟩ := g_gd h
      obtain ⟨σ119, e120, h⟩ := g_ltd h
      refine g_iast (pc := 136) hw c118 rfl e120 dX12_does_136 ?_
      refine g_aload_n (pc := 137) dX12_does_137 rfl 1 rfl ?_
      refine g_aload_n (pc := 138) dX12_does_138 rfl 2 rfl ?_
      refine g_sipush (pc := 139) (v := 424) dX12_does_139 (by decide) ?_
      refine g_iald (pc := 142) hw (by decide) (j := 424) (by decide) dX12_does_142 ?_
      obtain ⟨σ121, e122, h⟩ := g_ltd h
      refine g_putI (pc := 143) wfX12_313 rfl rfl rfl rfl e122 dX12_does_143 ?_
      refine g_iconst (pc := 146) (v := (-1)) dX12_does_146 (by decide) ?_
      cases h
      exact g_iret (pc := 147) rfl rfl rfl rfl dX12_does_147
    have h := g_iff c112 h
    by_cases c123 : v2 = 3
    · have h := g_ift c123 h
      refine g_tabIn (pc := 30) (tgt := 148) (off := 118) dX12_does_30 (by rw [c123]; decide) (by rw [c123]; decide) (by rw [c123]; decide) (by decide) ?_
      refine g_iconst (pc := 148) (v := 0) dX12_does_148 (by decide) ?_
      refine g_istore (pc := 149) (lv1 := [(8, .int 0), (7, .int r92), (0, .ref 0), (1, .ref w), (2, .int v2), (3, .int v3), (4, .int v4), (5, .int v5), (6, .int v6)]) dX12_does_149 (by decide) rfl ?_
      exact g_lv [2, 3, 5, 6, 0] rfl (tX12_does_L151 hE n w hw n v3 v4 0 σ94 h)
    have h := g_iff c123 h
    by_cases c124 : v2 = 4
    · have h := g_ift c124 h
      refine g_tabIn (pc := 30) (tgt := 194) (off := 164) dX12_does_30 (by rw [c124]; decide) (by rw [c124]; decide) (by rw [c124]; decide) (by decide) ?_
      refine g_aload_n (pc := 194) dX12_does_194 rfl 1 rfl ?_
      refine g_aload_n (pc := 195) dX12_does_195 rfl 2 rfl ?_
      refine g_iload_n (pc := 196) dX12_does_196 rfl 4 rfl ?_
      obtain ⟨σ126, h125, h⟩ := g_bVd h
      refine g_callVv (pc := 197) (st := []) hE.1 wvX12_323 rfl rfl (kX12_scrubsOn hE n w hw v3 σ94 h125) rfl (gR_ok (by decide) (by decide)) (Nat.le_of_ble_eq_true rfl) rfl dX12_does_197 ?_
      refine g_iconst (pc := 200) (v := (-1)) dX12_does_200 (by decide) ?_
      cases h
      exact g_iret (pc := 201) rfl rfl rfl rfl dX12_does_201
    have h := g_iff c124 h
    by_cases c127 : v2 = 5
    · have h := g_ift c127 h
      refine g_tabIn (pc := 30) (tgt := 202) (off := 172) dX12_does_30 (by rw [c127]; decide) (by rw [c127]; decide) (by rw [c127]; decide) (by decide) ?_
      refine g_aload_n (pc := 202) dX12_does_202 rfl 2 rfl ?_
      refine g_iload_n (pc := 203) dX12_does_203 rfl 4 rfl ?_
      refine g_iload (pc := 204) dX12_does_204 5 rfl ?_
      refine g_iload (pc := 206) dX12_does_206 6 rfl ?_
      obtain ⟨r130, σ129, h128, h⟩ := g_bId h
      refine g_callSi (pc := 208) (st := [.ref w]) hE.1 wsX12_206 (kX12_spot hE v3 v4 v5 σ94 h128) rfl (gR_ok (by decide) (by decide)) (Nat.le_of_ble_eq_true rfl) rfl dX12_does_208 ?_
      refine g_dup2 (pc := 211) dX12_does_211 rfl rfl ?_
      obtain ⟨c131, h⟩ := g_gd h
      refine g_iald (pc := 212) hw c131 rfl dX12_does_212 ?_
      refine g_iload (pc := 213) dX12_does_213 7 rfl ?_
      refine g_ixor (pc := 215) dX12_does_215 ?_
      obtain ⟨c132, h⟩ := g_gd h
      obtain ⟨σ133, e134, h⟩ := g_ltd h
      refine g_iast (pc := 216) hw c132 rfl e134 dX12_does_216 ?_
      refine g_aload_n (pc := 217) dX12_does_217 rfl 1 rfl ?_
      refine g_aload_n (pc := 218) dX12_does_218 rfl 2 rfl ?_
      refine g_iload_n (pc := 219) dX12_does_219 rfl 4 rfl ?_
      refine g_iload (pc := 220) dX12_does_220 5 rfl ?_
      refine g_iload (pc := 222) dX12_does_222 6 rfl ?_
      obtain ⟨r137, σ136, h135, h⟩ := g_bId h
      refine g_callSi (pc := 224) (st := [.ref w, .ref 0]) hE.1 wsX12_206 (kX12_spot hE v3 v4 v5 σ133 h135) rfl (gR_ok (by decide) (by decide)) (Nat.le_of_ble_eq_true rfl) rfl dX12_does_224 ?_
      obtain ⟨c138, h⟩ := g_gd h
      refine g_iald (pc := 227) hw c138 rfl dX12_does_227 ?_
      obtain ⟨σ139, e140, h⟩ := g_ltd h
      refine g_putI (pc := 228) wfX12_313 rfl rfl rfl rfl e140 dX12_does_228 ?_
      refine g_iconst (pc := 231) (v := (-1)) dX12_does_231 (by decide) ?_
      cases h
      exact g_iret (pc := 232) rfl rfl rfl rfl dX12_does_232
    have h := g_iff c127 h
    by_cases c141 : v2 = 6
    · have h := g_ift c141 h
      refine g_tabIn (pc := 30) (tgt := 233) (off := 203) dX12_does_30 (by rw [c141]; decide) (by rw [c141]; decide) (by rw [c141]; decide) (by decide) ?_
      refine g_aload_n (pc := 233) dX12_does_233 rfl 1 rfl ?_
      refine g_aload_n (pc := 234) dX12_does_234 rfl 2 rfl ?_
      refine g_iload_n (pc := 235) dX12_does_235 rfl 4 rfl ?_
      refine g_iload (pc := 236) dX12_does_236 5 rfl ?_
      refine g_iload (pc := 238) dX12_does_238 6 rfl ?_
      obtain ⟨σ143, h142, h⟩ := g_bVd h
      refine g_callVv (pc := 240) (st := []) hE.1 wvX12_326 rfl rfl (kX12_tears hE n w hw v3 v4 v5 σ94 h142) rfl (gR_ok (by decide) (by decide)) (Nat.le_of_ble_eq_true rfl) rfl dX12_does_240 ?_
      refine g_aload_n (pc := 243) dX12_does_243 rfl 1 rfl ?_
      refine g_aload_n (pc := 244) dX12_does_244 rfl 2 rfl ?_
      refine g_sipush (pc := 245) (v := 425) dX12_does_245 (by decide) ?_
      refine g_iald (pc := 248) hw (by decide) (j := 425) (by decide) dX12_does_248 ?_
      obtain ⟨r146, σ145, h144, h⟩ := g_bId h
      refine g_callSi (pc := 249) (st := [.ref 0]) hE.1 wsX12_330 (kX12_bitsOf hE n (σ143.1 w 425) σ143 h144) rfl (gR_ok (by decide) (by decide)) (Nat.le_of_ble_eq_true rfl) rfl dX12_does_249 ?_
      obtain ⟨σ147, e148, h⟩ := g_ltd h
      refine g_putI (pc := 252) wfX12_313 rfl rfl rfl rfl e148 dX12_does_252 ?_
      refine g_iconst (pc := 255) (v := (-1)) dX12_does_255 (by decide) ?_
      cases h
      exact g_iret (pc := 256) rfl rfl rfl rfl dX12_does_256
    have h := g_iff c141 h
    by_cases c149 : v2 = 7
    · have h := g_ift c149 h
      refine g_tabIn (pc := 30) (tgt := 257) (off := 227) dX12_does_30 (by rw [c149]; decide) (by rw [c149]; decide) (by rw [c149]; decide) (by decide) ?_
      refine g_aload_n (pc := 257) dX12_does_257 rfl 1 rfl ?_
      refine g_aload_n (pc := 258) dX12_does_258 rfl 1 rfl ?_
      refine g_aload_n (pc := 259) dX12_does_259 rfl 2 rfl ?_
      obtain ⟨r152, σ151, h150, h⟩ := g_bId h
      refine g_callVi (pc := 260) (st := [.ref 0]) hE.1 wvX12_333 rfl rfl (kX12_cleans hE n w hw σ94 h150) rfl (gR_ok (by decide) (by decide)) (Nat.le_of_ble_eq_true rfl) rfl dX12_does_260 ?_
      obtain ⟨σ153, e154, h⟩ := g_ltd h
      refine g_putI (pc := 263) wfX12_313 rfl rfl rfl rfl e154 dX12_does_263 ?_
      refine g_aload_n (pc := 266) dX12_does_266 rfl 1 rfl ?_
      refine g_aload_n (pc := 267) dX12_does_267 rfl 1 rfl ?_
      refine g_getI (pc := 268) wfX12_313 rfl rfl dX12_does_268 ?_
      obtain ⟨σ155, e156, h⟩ := g_ltd h
      refine g_putI (pc := 271) wfX12_306 rfl rfl rfl rfl e156 dX12_does_271 ?_
      refine g_iconst (pc := 274) (v := (-1)) dX12_does_274 (by decide) ?_
      cases h
      exact g_iret (pc := 275) rfl rfl rfl rfl dX12_does_275
    have h := g_iff c149 h
    have u162 : (v2).toInt < 0 ∨ 7 < (v2).toInt := by
      have ec96 := g_toInt c96
      have ec104 := g_toInt c104
      have ec112 := g_toInt c112
      have ec123 := g_toInt c123
      have ec124 := g_toInt c124
      have ec127 := g_toInt c127
      have ec141 := g_toInt c141
      have ec149 := g_toInt c149
      rw [show (0 : Int32).toInt = 0 from by decide] at ec96
      rw [show (1 : Int32).toInt = 1 from by decide] at ec104
      rw [show (2 : Int32).toInt = 2 from by decide] at ec112
      rw [show (3 : Int32).toInt = 3 from by decide] at ec123
      rw [show (4 : Int32).toInt = 4 from by decide] at ec124
      rw [show (5 : Int32).toInt = 5 from by decide] at ec127
      rw [show (6 : Int32).toInt = 6 from by decide] at ec141
      rw [show (7 : Int32).toInt = 7 from by decide] at ec149
      omega
    refine g_tabOut (pc := 30) (tgt := 276) dX12_does_30 u162 (by decide) ?_
    refine g_aload_n (pc := 276) dX12_does_276 rfl 1 rfl ?_
    refine g_aload_n (pc := 277) dX12_does_277 rfl 1 rfl ?_
    refine g_aload_n (pc := 278) dX12_does_278 rfl 2 rfl ?_
    refine g_iload_n (pc := 279) dX12_does_279 rfl 4 rfl ?_
    refine g_iload (pc := 280) dX12_does_280 5 rfl ?_
    refine g_iload (pc := 282) dX12_does_282 6 rfl ?_
    refine g_iload (pc := 284) dX12_does_284 7 rfl ?_
    obtain ⟨r159, σ158, h157, h⟩ := g_bId h
    refine g_callVi (pc := 286) (st := [.ref 0]) hE.1 wvX12_336 rfl rfl (kX12_fills hE n w hw v3 v4 v5 v6 σ94 h157) rfl (gR_ok (by decide) (by decide)) (Nat.le_of_ble_eq_true rfl) rfl dX12_does_286 ?_
    obtain ⟨σ160, e161, h⟩ := g_ltd h
    refine g_putI (pc := 289) wfX12_313 rfl rfl rfl rfl e161 dX12_does_289 ?_
    refine g_iconst (pc := 292) (v := (-1)) dX12_does_292 (by decide) ?_
    cases h
    exact g_iret (pc := 293) rfl rfl rfl rfl dX12_does_293
  · have h := g_iff c93 h
    refine g_iload (pc := 21) dX12_does_21 0 rfl ?_
    cases h
    exact g_iret (pc := 23) rfl rfl rfl rfl dX12_does_23
def fX12_costs (w : Nat) (σ : gM) : Option (Int32 × gM) := some ((σ.1 w 427) + (σ.1 w 428), σ)
set_option maxRecDepth 100000 in
theorem kX12_costs (hE : gEM l dC dI ad ca X) (w : Nat) (hw : shM[w]? = some (.inl (.int, 616)))  (σ : gM) {r0 : Int32} {σ' : gM} (h : fX12_costs w σ = some (r0, σ')) : g_C l dC dI ad ca shM X yX12_costs cX12_costs 1 (some .int) (gR 0) [.ref w] σ (some (.int r0)) σ' := by
  refine g_entry (by decide +kernel) (Nat.le_of_ble_eq_true rfl) ?_
  refine g_lvE (lv1 := [(0, .ref w)]) rfl ?_
  unfold fX12_costs at h
  refine g_aload_n (pc := 0) dX12_costs_0 rfl 0 rfl ?_
  refine g_sipush (pc := 1) (v := 427) dX12_costs_1 (by decide) ?_
  refine g_iald (pc := 4) hw (by decide) (j := 427) (by decide) dX12_costs_4 ?_
  refine g_aload_n (pc := 5) dX12_costs_5 rfl 0 rfl ?_
  refine g_sipush (pc := 6) (v := 428) dX12_costs_6 (by decide) ?_
  refine g_iald (pc := 9) hw (by decide) (j := 428) (by decide) dX12_costs_9 ?_
  refine g_iadd (pc := 10) dX12_costs_10 ?_
  cases h
  exact g_iret (pc := 11) rfl rfl rfl rfl dX12_costs_11
def fX12_remember_b35 (n : Nat) (σ : gM) : Option (gM) := g_bV (fX12_copyRow n 11 616 13 24640 0 (616 * ((((σ.1 0 21) + (σ.1 0 22)) - 1) - (((σ.1 0 21) + (σ.1 0 22)) - 1) / 40 * 40)) σ) (fun σ9 => some σ9)
set_option maxRecDepth 100000 in
theorem tX12_remember_b35 (hE : gEM l dC dI ad ca X) {σ' : gM} (n : Nat)  (σ : gM) (h : fX12_remember_b35 n σ = some σ') : g_G l dC dI ad ca shM X cX12_remember 1 RX12 none (gR 1) none σ' 35 [(0, .ref 0)] [] σ := by
  unfold fX12_remember_b35 at h
  refine g_aload_n (pc := 35) dX12_remember_35 rfl 0 rfl ?_
  refine g_getR (pc := 36) wfX12_41 rfl rfl dX12_remember_36 ?_
  refine g_iconst (pc := 39) (v := 0) dX12_remember_39 (by decide) ?_
  refine g_aload_n (pc := 40) dX12_remember_40 rfl 0 rfl ?_
  refine g_getR (pc := 41) wfX12_47 rfl rfl dX12_remember_41 ?_
  refine g_sipush (pc := 44) (v := 616) dX12_remember_44 (by decide) ?_
  refine g_aload_n (pc := 47) dX12_remember_47 rfl 0 rfl ?_
  refine g_getI (pc := 48) wfX12_346 rfl rfl dX12_remember_48 ?_
  refine g_aload_n (pc := 51) dX12_remember_51 rfl 0 rfl ?_
  refine g_getI (pc := 52) wfX12_181 rfl rfl dX12_remember_52 ?_
  refine g_iadd (pc := 55) dX12_remember_55 ?_
  refine g_iconst (pc := 56) (v := 1) dX12_remember_56 (by decide) ?_
  refine g_isub (pc := 57) dX12_remember_57 ?_
  refine g_bipush (pc := 58) (v := 40) dX12_remember_58 (by decide) ?_
  refine g_irem (pc := 60) dX12_remember_60 (by decide) ?_
  refine g_imul (pc := 61) dX12_remember_61 ?_
  obtain ⟨σ9, h8, h⟩ := g_bVd h
  refine g_callSv (pc := 62) (st := []) hE.1 wsX12_349 (kX12_copyRow hE n 11 616 rfl 13 24640 rfl 0 (616 * ((((σ.1 0 21) + (σ.1 0 22)) - 1) - (((σ.1 0 21) + (σ.1 0 22)) - 1) / 40 * 40)) σ h8) rfl (gR_ok (by decide) (by decide)) (Nat.le_of_ble_eq_true rfl) rfl dX12_remember_62 ?_
  cases h
  exact g_vret (pc := 65) rfl rfl rfl dX12_remember_65
def fX12_remember (n : Nat) (σ : gM) : Option (gM) := if (σ.1 0 22) = 40 then (g_let (g_put σ 0 21 (((σ.1 0 21) + 1) - ((σ.1 0 21) + 1) / 40 * 40)) (fun σ13 => fX12_remember_b35 n σ13)) else (g_let (g_put σ 0 22 ((σ.1 0 22) + 1)) (fun σ11 => fX12_remember_b35 n σ11))
set_option maxRecDepth 100000 in
theorem kX12_remember (hE : gEM l dC dI ad ca X) (n : Nat)  (σ : gM) {σ' : gM} (h : fX12_remember n σ = some σ') : g_C l dC dI ad ca shM X yX12_remember cX12_remember 1 none (gR 1) [.ref 0] σ none σ' := by
  refine g_entry (by decide +kernel) (Nat.le_of_ble_eq_true rfl) ?_
  refine g_lvE (lv1 := [(0, .ref 0)]) rfl ?_
  unfold fX12_remember at h
  refine g_aload_n (pc := 0) dX12_remember_0 rfl 0 rfl ?_
  refine g_getI (pc := 1) wfX12_181 rfl rfl dX12_remember_1 ?_
  refine g_bipush (pc := 4) (v := 40) dX12_remember_4 (by decide) ?_
  refine g_icmp_ne (pc := 6) (tgt := 25) dX12_remember_6 (by decide) (fun c10 => ?_) (fun c10 => ?_)
  · have h := g_iff c10 h
    refine g_aload_n (pc := 25) dX12_remember_25 rfl 0 rfl ?_
    refine g_dup (pc := 26) dX12_remember_26 rfl ?_
    refine g_getI (pc := 27) wfX12_181 rfl rfl dX12_remember_27 ?_
    refine g_iconst (pc := 30) (v := 1) dX12_remember_30 (by decide) ?_
    refine g_iadd (pc := 31) dX12_remember_31 ?_
    obtain ⟨σ11, e12, h⟩ := g_ltd h
    refine g_putI (pc := 32) wfX12_181 rfl rfl rfl rfl e12 dX12_remember_32 ?_
    exact g_lv [0] rfl (tX12_remember_b35 hE n σ11 h)
  · have h := g_ift c10 h
    refine g_aload_n (pc := 9) dX12_remember_9 rfl 0 rfl ?_
    refine g_aload_n (pc := 10) dX12_remember_10 rfl 0 rfl ?_
    refine g_getI (pc := 11) wfX12_346 rfl rfl dX12_remember_11 ?_
    refine g_iconst (pc := 14) (v := 1) dX12_remember_14 (by decide) ?_
    refine g_iadd (pc := 15) dX12_remember_15 ?_
    refine g_bipush (pc := 16) (v := 40) dX12_remember_16 (by decide) ?_
    refine g_irem (pc := 18) dX12_remember_18 (by decide) ?_
    obtain ⟨σ13, e14, h⟩ := g_ltd h
    refine g_putI (pc := 19) wfX12_346 rfl rfl rfl rfl e14 dX12_remember_19 ?_
    refine g_goto (pc := 22) (tgt := 35) dX12_remember_22 (by decide) ?_
    exact g_lv [0] rfl (tX12_remember_b35 hE n σ13 h)
def fX12_notes_b62 (n : Nat) (v1 : Int32) (v2 : Int32) (σ : gM) : Option (gM) := if ¬ ((436 + (3 * (σ.1 10 435))) < 0 ∨ 616 ≤ (436 + (3 * (σ.1 10 435))).toNatClampNeg) then (g_let (g_put σ 10 ((436 + (3 * (σ.1 10 435))).toNatClampNeg) v1) (fun σ21 => if ¬ (((436 + (3 * (σ.1 10 435))) + 1) < 0 ∨ 616 ≤ ((436 + (3 * (σ.1 10 435))) + 1).toNatClampNeg) then (g_let (g_put σ21 10 (((436 + (3 * (σ.1 10 435))) + 1).toNatClampNeg) (σ21.1 0 30)) (fun σ24 => if ¬ (((436 + (3 * (σ.1 10 435))) + 2) < 0 ∨ 616 ≤ ((436 + (3 * (σ.1 10 435))) + 2).toNatClampNeg) then (g_let (g_put σ24 10 (((436 + (3 * (σ.1 10 435))) + 2).toNatClampNeg) v2) (fun σ27 => g_let (g_put σ27 10 435 ((σ27.1 10 435) + 1)) (fun σ29 => some σ29))) else none)) else none)) else none
set_option maxRecDepth 100000 in
theorem tX12_notes_b62 (hE : gEM l dC dI ad ca X) {σ' : gM} (n : Nat) (v1 : Int32) (v2 : Int32)  (σ : gM) (h : fX12_notes_b62 n v1 v2 σ = some σ') : g_G l dC dI ad ca shM X cX12_notes 4 RX12 none (gR 0) none σ' 62 [(0, .ref 0), (1, .int v1), (2, .int v2)] [] σ := by
  unfold fX12_notes_b62 at h
  refine g_sipush (pc := 62) (v := 436) dX12_notes_62 (by decide) ?_
  refine g_iconst (pc := 65) (v := 3) dX12_notes_65 (by decide) ?_
  refine g_aload_n (pc := 66) dX12_notes_66 rfl 0 rfl ?_
  refine g_getR (pc := 67) wfX12_38 rfl rfl dX12_notes_67 ?_
  refine g_sipush (pc := 70) (v := 435) dX12_notes_70 (by decide) ?_
  refine g_iald (pc := 73) rfl (by decide) (j := 435) (by decide) dX12_notes_73 ?_
  refine g_imul (pc := 74) dX12_notes_74 ?_
  refine g_iadd (pc := 75) dX12_notes_75 ?_
  refine g_istore_n (pc := 76) (lv1 := [(3, .int (436 + (3 * (σ.1 10 435)))), (0, .ref 0), (1, .int v1), (2, .int v2)]) dX12_notes_76 rfl (by decide) rfl ?_
  refine g_aload_n (pc := 77) dX12_notes_77 rfl 1 rfl ?_
  refine g_getR (pc := 78) wfX12_38 rfl rfl dX12_notes_78 ?_
  refine g_iload_n (pc := 81) dX12_notes_81 rfl 0 rfl ?_
  refine g_iload_n (pc := 82) dX12_notes_82 rfl 2 rfl ?_
  obtain ⟨c20, h⟩ := g_gd h
  obtain ⟨σ21, e22, h⟩ := g_ltd h
  refine g_iast (pc := 83) rfl c20 rfl e22 dX12_notes_83 ?_
  refine g_aload_n (pc := 84) dX12_notes_84 rfl 1 rfl ?_
  refine g_getR (pc := 85) wfX12_38 rfl rfl dX12_notes_85 ?_
  refine g_iload_n (pc := 88) dX12_notes_88 rfl 0 rfl ?_
  refine g_iconst (pc := 89) (v := 1) dX12_notes_89 (by decide) ?_
  refine g_iadd (pc := 90) dX12_notes_90 ?_
  refine g_aload_n (pc := 91) dX12_notes_91 rfl 1 rfl ?_
  refine g_getI (pc := 92) wfX12_306 rfl rfl dX12_notes_92 ?_
  obtain ⟨c23, h⟩ := g_gd h
  obtain ⟨σ24, e25, h⟩ := g_ltd h
  refine g_iast (pc := 95) rfl c23 rfl e25 dX12_notes_95 ?_
  refine g_aload_n (pc := 96) dX12_notes_96 rfl 1 rfl ?_
  refine g_getR (pc := 97) wfX12_38 rfl rfl dX12_notes_97 ?_
  refine g_iload_n (pc := 100) dX12_notes_100 rfl 0 rfl ?_
  refine g_iconst (pc := 101) (v := 2) dX12_notes_101 (by decide) ?_
  refine g_iadd (pc := 102) dX12_notes_102 ?_
  refine g_iload_n (pc := 103) dX12_notes_103 rfl 3 rfl ?_
  obtain ⟨c26, h⟩ := g_gd h
  obtain ⟨σ27, e28, h⟩ := g_ltd h
  refine g_iast (pc := 104) rfl c26 rfl e28 dX12_notes_104 ?_
  refine g_aload_n (pc := 105) dX12_notes_105 rfl 1 rfl ?_
  refine g_getR (pc := 106) wfX12_38 rfl rfl dX12_notes_106 ?_
  refine g_sipush (pc := 109) (v := 435) dX12_notes_109 (by decide) ?_
  refine g_dup2 (pc := 112) dX12_notes_112 rfl rfl ?_
  refine g_iald (pc := 113) rfl (by decide) (j := 435) (by decide) dX12_notes_113 ?_
  refine g_iconst (pc := 114) (v := 1) dX12_notes_114 (by decide) ?_
  refine g_iadd (pc := 115) dX12_notes_115 ?_
  obtain ⟨σ29, e30, h⟩ := g_ltd h
  refine g_iast (pc := 116) rfl (by decide) (j := 435) (by decide) e30 dX12_notes_116 ?_
  cases h
  exact g_vret (pc := 117) rfl rfl rfl dX12_notes_117
def fX12_notes_b15 (n : Nat) (K15 : Int32 → Int32 → Int32 → gM → Option (gM)) (v1 : Int32) (v2 : Int32) (v3 : Int32) (σ : gM) : Option (gM) := if 177 < v3 then (g_let (g_put σ 10 435 ((σ.1 10 435) - 1)) (fun σ32 => fX12_notes_b62 n v1 v2 σ32)) else (if ¬ (((435 + v3) + 3) < 0 ∨ 616 ≤ ((435 + v3) + 3).toNatClampNeg) then (if ¬ ((435 + v3) < 0 ∨ 616 ≤ (435 + v3).toNatClampNeg) then (g_let (g_put σ 10 ((435 + v3).toNatClampNeg) (σ.1 10 (((435 + v3) + 3).toNatClampNeg))) (fun σ36 => K15 v1 v2 (v3 + 1) σ36)) else none) else none)
set_option maxRecDepth 100000 in
theorem tX12_notes_b15 (hE : gEM l dC dI ad ca X) {σ' : gM} (n : Nat) (K15 : Int32 → Int32 → Int32 → gM → Option (gM)) (hK15 : ∀ (v1 : Int32) (v2 : Int32) (v3 : Int32) (σ : gM), K15 v1 v2 v3 σ = some σ' → g_G l dC dI ad ca shM X cX12_notes 4 RX12 none (gR 0) none σ' 15 [(0, .ref 0), (1, .int v1), (2, .int v2), (3, .int v3)] [] σ) (v1 : Int32) (v2 : Int32) (v3 : Int32)  (σ : gM) (h : fX12_notes_b15 n K15 v1 v2 v3 σ = some σ') : g_G l dC dI ad ca shM X cX12_notes 4 RX12 none (gR 0) none σ' 15 [(0, .ref 0), (1, .int v1), (2, .int v2), (3, .int v3)] [] σ := by
  unfold fX12_notes_b15 at h
  refine g_iload_n (pc := 15) dX12_notes_15 rfl 3 rfl ?_
  refine g_sipush (pc := 16) (v := 177) dX12_notes_16 (by decide) ?_
  refine g_icmp_gt (pc := 19) (tgt := 50) dX12_notes_19 (by decide) (fun c31 => ?_) (fun c31 => ?_)
  · have h := g_ift c31 h
    refine g_aload_n (pc := 50) dX12_notes_50 rfl 0 rfl ?_
    refine g_getR (pc := 51) wfX12_38 rfl rfl dX12_notes_51 ?_
    refine g_sipush (pc := 54) (v := 435) dX12_notes_54 (by decide) ?_
    refine g_dup2 (pc := 57) dX12_notes_57 rfl rfl ?_
    refine g_iald (pc := 58) rfl (by decide) (j := 435) (by decide) dX12_notes_58 ?_
    refine g_iconst (pc := 59) (v := 1) dX12_notes_59 (by decide) ?_
    refine g_isub (pc := 60) dX12_notes_60 ?_
    obtain ⟨σ32, e33, h⟩ := g_ltd h
    refine g_iast (pc := 61) rfl (by decide) (j := 435) (by decide) e33 dX12_notes_61 ?_
    exact g_lv [0, 1, 2] rfl (tX12_notes_b62 hE n v1 v2 σ32 h)
  · have h := g_iff c31 h
    refine g_aload_n (pc := 22) dX12_notes_22 rfl 0 rfl ?_
    refine g_getR (pc := 23) wfX12_38 rfl rfl dX12_notes_23 ?_
    refine g_sipush (pc := 26) (v := 435) dX12_notes_26 (by decide) ?_
    refine g_iload_n (pc := 29) dX12_notes_29 rfl 3 rfl ?_
    refine g_iadd (pc := 30) dX12_notes_30 ?_
    refine g_aload_n (pc := 31) dX12_notes_31 rfl 0 rfl ?_
    refine g_getR (pc := 32) wfX12_38 rfl rfl dX12_notes_32 ?_
    refine g_sipush (pc := 35) (v := 435) dX12_notes_35 (by decide) ?_
    refine g_iload_n (pc := 38) dX12_notes_38 rfl 3 rfl ?_
    refine g_iadd (pc := 39) dX12_notes_39 ?_
    refine g_iconst (pc := 40) (v := 3) dX12_notes_40 (by decide) ?_
    refine g_iadd (pc := 41) dX12_notes_41 ?_
    obtain ⟨c34, h⟩ := g_gd h
    refine g_iald (pc := 42) rfl c34 rfl dX12_notes_42 ?_
    obtain ⟨c35, h⟩ := g_gd h
    obtain ⟨σ36, e37, h⟩ := g_ltd h
    refine g_iast (pc := 43) rfl c35 rfl e37 dX12_notes_43 ?_
    refine g_iinc (pc := 44) (v := v3 + 1) (lv1 := [(3, .int (v3 + 1)), (0, .ref 0), (1, .int v1), (2, .int v2)]) dX12_notes_44 3 rfl rfl (by decide) rfl ?_
    refine g_goto (pc := 47) (tgt := 15) dX12_notes_47 (by decide) ?_
    exact g_lv [1, 2, 3, 0] rfl (hK15 v1 v2 (v3 + 1) σ36 h)
def fX12_notes_L15 (n : Nat) : Nat → Int32 → Int32 → Int32 → gM → Option (gM)
  | 0 => fun _ _ _ _ => none
  | k + 1 => fX12_notes_b15 n (fX12_notes_L15 n k)
theorem tX12_notes_L15 (hE : gEM l dC dI ad ca X) {σ' : gM} (n : Nat)  : ∀ (k : Nat) (v1 : Int32) (v2 : Int32) (v3 : Int32) (σ : gM), fX12_notes_L15 n k v1 v2 v3 σ = some σ' → g_G l dC dI ad ca shM X cX12_notes 4 RX12 none (gR 0) none σ' 15 [(0, .ref 0), (1, .int v1), (2, .int v2), (3, .int v3)] [] σ := by
  intro k
  induction k with
  | zero => intro v1 v2 v3 σ h; cases h
  | succ k ih => intro v1 v2 v3 σ h; exact tX12_notes_b15 hE n (fX12_notes_L15 n k) ih v1 v2 v3 σ h
def fX12_notes (n : Nat) (v1 : Int32) (v2 : Int32) (σ : gM) : Option (gM) := if (σ.1 10 435) = 60 then (fX12_notes_L15 n n v1 v2 1 σ) else (fX12_notes_b62 n v1 v2 σ)
set_option maxRecDepth 100000 in
theorem kX12_notes (hE : gEM l dC dI ad ca X) (n : Nat)  (v1 : Int32) (v2 : Int32) (σ : gM) {σ' : gM} (h : fX12_notes n v1 v2 σ = some σ') : g_C l dC dI ad ca shM X yX12_notes cX12_notes 4 none (gR 0) [.ref 0, .int v1, .int v2] σ none σ' := by
  refine g_entry (by decide +kernel) (Nat.le_of_ble_eq_true rfl) ?_
  refine g_lvE (lv1 := [(0, .ref 0), (1, .int v1), (2, .int v2)]) rfl ?_
  unfold fX12_notes at h
  refine g_aload_n (pc := 0) dX12_notes_0 rfl 0 rfl ?_
  refine g_getR (pc := 1) wfX12_38 rfl rfl dX12_notes_1 ?_
  refine g_sipush (pc := 4) (v := 435) dX12_notes_4 (by decide) ?_
  refine g_iald (pc := 7) rfl (by decide) (j := 435) (by decide) dX12_notes_7 ?_
  refine g_bipush (pc := 8) (v := 60) dX12_notes_8 (by decide) ?_
  refine g_icmp_ne (pc := 10) (tgt := 62) dX12_notes_10 (by decide) (fun c38 => ?_) (fun c38 => ?_)
  · have h := g_iff c38 h
    exact g_lv [0, 1, 2] rfl (tX12_notes_b62 hE n v1 v2 σ h)
  · have h := g_ift c38 h
    refine g_iconst (pc := 13) (v := 1) dX12_notes_13 (by decide) ?_
    refine g_istore_n (pc := 14) (lv1 := [(3, .int 1), (0, .ref 0), (1, .int v1), (2, .int v2)]) dX12_notes_14 rfl (by decide) rfl ?_
    exact g_lv [1, 2, 3, 0] rfl (tX12_notes_L15 hE n n v1 v2 1 σ h)
def fX12_tries__b20 (n : Nat) (v1 : Int32) (v2 : Int32) (v3 : Int32) (v4 : Int32) (v5 : Int32) (σ : gM) : Option (Int32 × gM) := g_bI (fX12_does n 10 v1 v2 v3 v4 v5 σ) (fun r20 σ19 => if r20 = (-1) then (g_bV (fX12_remember n σ19) (fun σ23 => g_bI (fX12_costs 10 σ23) (fun r26 σ25 => g_bI (fX12_costs 11 σ25) (fun r29 σ28 => g_bV (fX12_notes n v1 (r26 - r29) σ28) (fun σ31 => some ((-1), σ31)))))) else (some (r20, σ19)))
set_option maxRecDepth 100000 in
theorem tX12_tries__b20 (hE : gEM l dC dI ad ca X) {r0 : Int32} {σ' : gM} (n : Nat) (v1 : Int32) (v2 : Int32) (v3 : Int32) (v4 : Int32) (v5 : Int32)  (σ : gM) (h : fX12_tries__b20 n v1 v2 v3 v4 v5 σ = some (r0, σ')) : g_G l dC dI ad ca shM X cX12_tries_ 7 RX12 (some .int) (gR 7) (some (.int r0)) σ' 20 [(0, .ref 0), (1, .int v1), (2, .int v2), (3, .int v3), (4, .int v4), (5, .int v5)] [] σ := by
  unfold fX12_tries__b20 at h
  refine g_aload_n (pc := 20) dX12_tries__20 rfl 0 rfl ?_
  refine g_aload_n (pc := 21) dX12_tries__21 rfl 0 rfl ?_
  refine g_getR (pc := 22) wfX12_38 rfl rfl dX12_tries__22 ?_
  refine g_iload_n (pc := 25) dX12_tries__25 rfl 1 rfl ?_
  refine g_iload_n (pc := 26) dX12_tries__26 rfl 2 rfl ?_
  refine g_iload_n (pc := 27) dX12_tries__27 rfl 3 rfl ?_
  refine g_iload (pc := 28) dX12_tries__28 4 rfl ?_
  refine g_iload (pc := 30) dX12_tries__30 5 rfl ?_
  obtain ⟨r20, σ19, h18, h⟩ := g_bId h
  refine g_callVi (pc := 32) (st := []) hE.1 wvX12_353 rfl rfl (kX12_does hE n 10 rfl v1 v2 v3 v4 v5 σ h18) rfl (gR_ok (by decide) (by decide)) (Nat.le_of_ble_eq_true rfl) rfl dX12_tries__32 ?_
  refine g_istore (pc := 35) (lv1 := [(6, .int r20), (0, .ref 0), (1, .int v1), (2, .int v2), (3, .int v3), (4, .int v4), (5, .int v5)]) dX12_tries__35 (by decide) rfl ?_
  refine g_iload (pc := 37) dX12_tries__37 0 rfl ?_
  refine g_iconst (pc := 39) (v := (-1)) dX12_tries__39 (by decide) ?_
  refine g_icmp_eq (pc := 40) (tgt := 46) dX12_tries__40 (by decide) (fun c21 => ?_) (fun c21 => ?_)
  · have h := g_ift c21 h
    refine g_aload_n (pc := 46) dX12_tries__46 rfl 1 rfl ?_
    obtain ⟨σ23, h22, h⟩ := g_bVd h
    refine g_callVv (pc := 47) (st := []) hE.1 wvX12_356 rfl rfl (kX12_remember hE n σ19 h22) rfl (gR_ok (by decide) (by decide)) (Nat.le_of_ble_eq_true rfl) rfl dX12_tries__47 ?_
    refine g_aload_n (pc := 50) dX12_tries__50 rfl 1 rfl ?_
    refine g_iload_n (pc := 51) dX12_tries__51 rfl 2 rfl ?_
    refine g_aload_n (pc := 52) dX12_tries__52 rfl 1 rfl ?_
    refine g_getR (pc := 53) wfX12_38 rfl rfl dX12_tries__53 ?_
    obtain ⟨r26, σ25, h24, h⟩ := g_bId h
    refine g_callSi (pc := 56) (st := [.int v1, .ref 0]) hE.1 wsX12_359 (kX12_costs hE 10 rfl σ23 h24) rfl (gR_ok (by decide) (by decide)) (Nat.le_of_ble_eq_true rfl) rfl dX12_tries__56 ?_
    refine g_aload_n (pc := 59) dX12_tries__59 rfl 1 rfl ?_
    refine g_getR (pc := 60) wfX12_41 rfl rfl dX12_tries__60 ?_
    obtain ⟨r29, σ28, h27, h⟩ := g_bId h
    refine g_callSi (pc := 63) (st := [.int r26, .int v1, .ref 0]) hE.1 wsX12_359 (kX12_costs hE 11 rfl σ25 h27) rfl (gR_ok (by decide) (by decide)) (Nat.le_of_ble_eq_true rfl) rfl dX12_tries__63 ?_
    refine g_isub (pc := 66) dX12_tries__66 ?_
    obtain ⟨σ31, h30, h⟩ := g_bVd h
    refine g_callVv (pc := 67) (st := []) hE.1 wvX12_362 rfl rfl (kX12_notes hE n v1 (r26 - r29) σ28 h30) rfl (gR_ok (by decide) (by decide)) (Nat.le_of_ble_eq_true rfl) rfl dX12_tries__67 ?_
    refine g_iconst (pc := 70) (v := (-1)) dX12_tries__70 (by decide) ?_
    cases h
    exact g_iret (pc := 71) rfl rfl rfl rfl dX12_tries__71
  · have h := g_iff c21 h
    refine g_iload (pc := 43) dX12_tries__43 0 rfl ?_
    cases h
    exact g_iret (pc := 45) rfl rfl rfl rfl dX12_tries__45
def fX12_tries_ (n : Nat) (v1 : Int32) (v2 : Int32) (v3 : Int32) (v4 : Int32) (v5 : Int32) (σ : gM) : Option (Int32 × gM) := if (σ.1 0 14) ≤ 0 then (fX12_tries__b20 n v1 v2 v3 v4 v5 σ) else (g_bV (fX12_copyRow n 10 616 11 616 0 0 σ) (fun σ34 => fX12_tries__b20 n v1 v2 v3 v4 v5 σ34))
set_option maxRecDepth 100000 in
theorem kX12_tries_ (hE : gEM l dC dI ad ca X) (n : Nat)  (v1 : Int32) (v2 : Int32) (v3 : Int32) (v4 : Int32) (v5 : Int32) (σ : gM) {r0 : Int32} {σ' : gM} (h : fX12_tries_ n v1 v2 v3 v4 v5 σ = some (r0, σ')) : g_C l dC dI ad ca shM X yX12_tries_ cX12_tries_ 7 (some .int) (gR 7) [.ref 0, .int v1, .int v2, .int v3, .int v4, .int v5] σ (some (.int r0)) σ' := by
  refine g_entry (by decide +kernel) (Nat.le_of_ble_eq_true rfl) ?_
  refine g_lvE (lv1 := [(0, .ref 0), (1, .int v1), (2, .int v2), (3, .int v3), (4, .int v4), (5, .int v5)]) rfl ?_
  unfold fX12_tries_ at h
  refine g_aload_n (pc := 0) dX12_tries__0 rfl 0 rfl ?_
  refine g_getI (pc := 1) wfX12_153 rfl rfl dX12_tries__1 ?_
  refine g_if_le (pc := 4) (tgt := 20) dX12_tries__4 (by decide) (fun c32 => ?_) (fun c32 => ?_)
  · have h := g_ift c32 h
    exact g_lv [0, 1, 2, 3, 4, 5] rfl (tX12_tries__b20 hE n v1 v2 v3 v4 v5 σ h)
  · have h := g_iff c32 h
    refine g_aload_n (pc := 7) dX12_tries__7 rfl 0 rfl ?_
    refine g_getR (pc := 8) wfX12_38 rfl rfl dX12_tries__8 ?_
    refine g_iconst (pc := 11) (v := 0) dX12_tries__11 (by decide) ?_
    refine g_aload_n (pc := 12) dX12_tries__12 rfl 0 rfl ?_
    refine g_getR (pc := 13) wfX12_41 rfl rfl dX12_tries__13 ?_
    refine g_iconst (pc := 16) (v := 0) dX12_tries__16 (by decide) ?_
    obtain ⟨σ34, h33, h⟩ := g_bVd h
    refine g_callSv (pc := 17) (st := []) hE.1 wsX12_349 (kX12_copyRow hE n 10 616 rfl 11 616 rfl 0 0 σ h33) rfl (gR_ok (by decide) (by decide)) (Nat.le_of_ble_eq_true rfl) rfl dX12_tries__17 ?_
    exact g_lv [0, 1, 2, 3, 4, 5] rfl (tX12_tries__b20 hE n v1 v2 v3 v4 v5 σ34 h)
def fX12_act (n : Nat) (v1 : Int32) (v2 : Int32) (v3 : Int32) (v4 : Int32) (v5 : Int32) (σ : gM) : Option (Int32 × gM) := g_let (g_put σ 0 0 0) (fun σ11 => g_bI (fX12_tries_ n v1 v2 v3 v4 v5 σ11) (fun r15 σ14 => if r15 = (-1) then (some (σ14.1 0 29, σ14)) else (if ¬ (r15 < 0 ∨ 4 ≤ r15.toNatClampNeg) then (if ¬ (r15 < 0 ∨ 4 ≤ r15.toNatClampNeg) then (g_let (g_put σ14 5 r15.toNatClampNeg ((σ14.1 5 r15.toNatClampNeg) + 1)) (fun σ19 => some ((-1), σ19))) else none) else none)))
set_option maxRecDepth 100000 in
theorem kX12_act (hE : gEM l dC dI ad ca X) (n : Nat)  (v1 : Int32) (v2 : Int32) (v3 : Int32) (v4 : Int32) (v5 : Int32) (σ : gM) {r0 : Int32} {σ' : gM} (h : fX12_act n v1 v2 v3 v4 v5 σ = some (r0, σ')) : g_C l dC dI ad ca shM X yX12_act cX12_act 7 (some .int) (gR 8) [.ref 0, .int v1, .int v2, .int v3, .int v4, .int v5] σ (some (.int r0)) σ' := by
  refine g_entry (by decide +kernel) (Nat.le_of_ble_eq_true rfl) ?_
  refine g_lvE (lv1 := [(0, .ref 0), (1, .int v1), (2, .int v2), (3, .int v3), (4, .int v4), (5, .int v5)]) rfl ?_
  unfold fX12_act at h
  refine g_aload_n (pc := 0) dX12_act_0 rfl 0 rfl ?_
  refine g_iconst (pc := 1) (v := 0) dX12_act_1 (by decide) ?_
  obtain ⟨σ11, e12, h⟩ := g_ltd h
  refine g_putI (pc := 2) wfX12_57 rfl rfl rfl rfl e12 dX12_act_2 ?_
  refine g_aload_n (pc := 5) dX12_act_5 rfl 0 rfl ?_
  refine g_iload_n (pc := 6) dX12_act_6 rfl 1 rfl ?_
  refine g_iload_n (pc := 7) dX12_act_7 rfl 2 rfl ?_
  refine g_iload_n (pc := 8) dX12_act_8 rfl 3 rfl ?_
  refine g_iload (pc := 9) dX12_act_9 4 rfl ?_
  refine g_iload (pc := 11) dX12_act_11 5 rfl ?_
  obtain ⟨r15, σ14, h13, h⟩ := g_bId h
  refine g_callVi (pc := 13) (st := []) hE.1 wvX12_366 rfl rfl (kX12_tries_ hE n v1 v2 v3 v4 v5 σ11 h13) rfl (gR_ok (by decide) (by decide)) (Nat.le_of_ble_eq_true rfl) rfl dX12_act_13 ?_
  refine g_istore (pc := 16) (lv1 := [(6, .int r15), (0, .ref 0), (1, .int v1), (2, .int v2), (3, .int v3), (4, .int v4), (5, .int v5)]) dX12_act_16 (by decide) rfl ?_
  refine g_iload (pc := 18) dX12_act_18 0 rfl ?_
  refine g_iconst (pc := 20) (v := (-1)) dX12_act_20 (by decide) ?_
  refine g_icmp_ne (pc := 21) (tgt := 29) dX12_act_21 (by decide) (fun c16 => ?_) (fun c16 => ?_)
  · have h := g_iff c16 h
    refine g_aload_n (pc := 29) dX12_act_29 rfl 1 rfl ?_
    refine g_getR (pc := 30) wfX12_23 rfl rfl dX12_act_30 ?_
    refine g_iload (pc := 33) dX12_act_33 0 rfl ?_
    refine g_dup2 (pc := 35) dX12_act_35 rfl rfl ?_
    obtain ⟨c17, h⟩ := g_gd h
    refine g_iald (pc := 36) rfl c17 rfl dX12_act_36 ?_
    refine g_iconst (pc := 37) (v := 1) dX12_act_37 (by decide) ?_
    refine g_iadd (pc := 38) dX12_act_38 ?_
    obtain ⟨c18, h⟩ := g_gd h
    obtain ⟨σ19, e20, h⟩ := g_ltd h
    refine g_iast (pc := 39) rfl c18 rfl e20 dX12_act_39 ?_
    refine g_iconst (pc := 40) (v := (-1)) dX12_act_40 (by decide) ?_
    cases h
    exact g_iret (pc := 41) rfl rfl rfl rfl dX12_act_41
  · have h := g_ift c16 h
    refine g_aload_n (pc := 24) dX12_act_24 rfl 1 rfl ?_
    refine g_getI (pc := 25) wfX12_313 rfl rfl dX12_act_25 ?_
    cases h
    exact g_iret (pc := 28) rfl rfl rfl rfl dX12_act_28
def fX12_write (n : Nat) (v1 : Int32) (v2 : Int32) (σ : gM) : Option (Int32 × gM) := g_bI (fX12_act n 0 v1 v2 0 0 σ) (fun r6 σ5 => some (r6, σ5))
set_option maxRecDepth 100000 in
theorem kX12_write (hE : gEM l dC dI ad ca X) (n : Nat)  (v1 : Int32) (v2 : Int32) (σ : gM) {r0 : Int32} {σ' : gM} (h : fX12_write n v1 v2 σ = some (r0, σ')) : g_C l dC dI ad ca shM X yX12_write cX12_write 3 (some .int) (gR 9) [.ref 0, .int v1, .int v2] σ (some (.int r0)) σ' := by
  refine g_entry (by decide +kernel) (Nat.le_of_ble_eq_true rfl) ?_
  refine g_lvE (lv1 := [(0, .ref 0), (1, .int v1), (2, .int v2)]) rfl ?_
  unfold fX12_write at h
  refine g_aload_n (pc := 0) dX12_write_0 rfl 0 rfl ?_
  refine g_iconst (pc := 1) (v := 0) dX12_write_1 (by decide) ?_
  refine g_iload_n (pc := 2) dX12_write_2 rfl 1 rfl ?_
  refine g_iload_n (pc := 3) dX12_write_3 rfl 2 rfl ?_
  refine g_iconst (pc := 4) (v := 0) dX12_write_4 (by decide) ?_
  refine g_iconst (pc := 5) (v := 0) dX12_write_5 (by decide) ?_
  obtain ⟨r6, σ5, h4, h⟩ := g_bId h
  refine g_callVi (pc := 6) (st := []) hE.1 wvX12_369 rfl rfl (kX12_act hE n 0 v1 v2 0 0 σ h4) rfl (gR_ok (by decide) (by decide)) (Nat.le_of_ble_eq_true rfl) rfl dX12_write_6 ?_
  cases h
  exact g_iret (pc := 9) rfl rfl rfl rfl dX12_write_9
def fX12_lose (n : Nat) (v1 : Int32) (σ : gM) : Option (Int32 × gM) := g_bI (fX12_act n 1 v1 0 0 0 σ) (fun r6 σ5 => some (r6, σ5))
set_option maxRecDepth 100000 in
theorem kX12_lose (hE : gEM l dC dI ad ca X) (n : Nat)  (v1 : Int32) (σ : gM) {r0 : Int32} {σ' : gM} (h : fX12_lose n v1 σ = some (r0, σ')) : g_C l dC dI ad ca shM X yX12_lose cX12_lose 2 (some .int) (gR 9) [.ref 0, .int v1] σ (some (.int r0)) σ' := by
  refine g_entry (by decide +kernel) (Nat.le_of_ble_eq_true rfl) ?_
  refine g_lvE (lv1 := [(0, .ref 0), (1, .int v1)]) rfl ?_
  unfold fX12_lose at h
  refine g_aload_n (pc := 0) dX12_lose_0 rfl 0 rfl ?_
  refine g_iconst (pc := 1) (v := 1) dX12_lose_1 (by decide) ?_
  refine g_iload_n (pc := 2) dX12_lose_2 rfl 1 rfl ?_
  refine g_iconst (pc := 3) (v := 0) dX12_lose_3 (by decide) ?_
  refine g_iconst (pc := 4) (v := 0) dX12_lose_4 (by decide) ?_
  refine g_iconst (pc := 5) (v := 0) dX12_lose_5 (by decide) ?_
  obtain ⟨r6, σ5, h4, h⟩ := g_bId h
  refine g_callVi (pc := 6) (st := []) hE.1 wvX12_369 rfl rfl (kX12_act hE n 1 v1 0 0 0 σ h4) rfl (gR_ok (by decide) (by decide)) (Nat.le_of_ble_eq_true rfl) rfl dX12_lose_6 ?_
  cases h
  exact g_iret (pc := 9) rfl rfl rfl rfl dX12_lose_9
def fX12_replace (n : Nat) (v1 : Int32) (σ : gM) : Option (Int32 × gM) := g_bI (fX12_act n 2 v1 0 0 0 σ) (fun r6 σ5 => some (r6, σ5))
set_option maxRecDepth 100000 in
theorem kX12_replace (hE : gEM l dC dI ad ca X) (n : Nat)  (v1 : Int32) (σ : gM) {r0 : Int32} {σ' : gM} (h : fX12_replace n v1 σ = some (r0, σ')) : g_C l dC dI ad ca shM X yX12_replace cX12_replace 2 (some .int) (gR 9) [.ref 0, .int v1] σ (some (.int r0)) σ' := by
  refine g_entry (by decide +kernel) (Nat.le_of_ble_eq_true rfl) ?_
  refine g_lvE (lv1 := [(0, .ref 0), (1, .int v1)]) rfl ?_
  unfold fX12_replace at h
  refine g_aload_n (pc := 0) dX12_replace_0 rfl 0 rfl ?_
  refine g_iconst (pc := 1) (v := 2) dX12_replace_1 (by decide) ?_
  refine g_iload_n (pc := 2) dX12_replace_2 rfl 1 rfl ?_
  refine g_iconst (pc := 3) (v := 0) dX12_replace_3 (by decide) ?_
  refine g_iconst (pc := 4) (v := 0) dX12_replace_4 (by decide) ?_
  refine g_iconst (pc := 5) (v := 0) dX12_replace_5 (by decide) ?_
  obtain ⟨r6, σ5, h4, h⟩ := g_bId h
  refine g_callVi (pc := 6) (st := []) hE.1 wvX12_369 rfl rfl (kX12_act hE n 2 v1 0 0 0 σ h4) rfl (gR_ok (by decide) (by decide)) (Nat.le_of_ble_eq_true rfl) rfl dX12_replace_6 ?_
  cases h
  exact g_iret (pc := 9) rfl rfl rfl rfl dX12_replace_9
def fX12_rebuild (n : Nat) (v1 : Int32) (v2 : Int32) (σ : gM) : Option (Int32 × gM) := g_bI (fX12_act n 3 v1 v2 0 0 σ) (fun r6 σ5 => some (r6, σ5))
set_option maxRecDepth 100000 in
theorem kX12_rebuild (hE : gEM l dC dI ad ca X) (n : Nat)  (v1 : Int32) (v2 : Int32) (σ : gM) {r0 : Int32} {σ' : gM} (h : fX12_rebuild n v1 v2 σ = some (r0, σ')) : g_C l dC dI ad ca shM X yX12_rebuild cX12_rebuild 3 (some .int) (gR 9) [.ref 0, .int v1, .int v2] σ (some (.int r0)) σ' := by
  refine g_entry (by decide +kernel) (Nat.le_of_ble_eq_true rfl) ?_
  refine g_lvE (lv1 := [(0, .ref 0), (1, .int v1), (2, .int v2)]) rfl ?_
  unfold fX12_rebuild at h
  refine g_aload_n (pc := 0) dX12_rebuild_0 rfl 0 rfl ?_
  refine g_iconst (pc := 1) (v := 3) dX12_rebuild_1 (by decide) ?_
  refine g_iload_n (pc := 2) dX12_rebuild_2 rfl 1 rfl ?_
  refine g_iload_n (pc := 3) dX12_rebuild_3 rfl 2 rfl ?_
  refine g_iconst (pc := 4) (v := 0) dX12_rebuild_4 (by decide) ?_
  refine g_iconst (pc := 5) (v := 0) dX12_rebuild_5 (by decide) ?_
  obtain ⟨r6, σ5, h4, h⟩ := g_bId h
  refine g_callVi (pc := 6) (st := []) hE.1 wvX12_369 rfl rfl (kX12_act hE n 3 v1 v2 0 0 σ h4) rfl (gR_ok (by decide) (by decide)) (Nat.le_of_ble_eq_true rfl) rfl dX12_rebuild_6 ?_
  cases h
  exact g_iret (pc := 9) rfl rfl rfl rfl dX12_rebuild_9
def fX12_scrub (n : Nat) (v1 : Int32) (σ : gM) : Option (Int32 × gM) := g_bI (fX12_act n 4 v1 0 0 0 σ) (fun r6 σ5 => some (r6, σ5))
set_option maxRecDepth 100000 in
theorem kX12_scrub (hE : gEM l dC dI ad ca X) (n : Nat)  (v1 : Int32) (σ : gM) {r0 : Int32} {σ' : gM} (h : fX12_scrub n v1 σ = some (r0, σ')) : g_C l dC dI ad ca shM X yX12_scrub cX12_scrub 2 (some .int) (gR 9) [.ref 0, .int v1] σ (some (.int r0)) σ' := by
  refine g_entry (by decide +kernel) (Nat.le_of_ble_eq_true rfl) ?_
  refine g_lvE (lv1 := [(0, .ref 0), (1, .int v1)]) rfl ?_
  unfold fX12_scrub at h
  refine g_aload_n (pc := 0) dX12_scrub_0 rfl 0 rfl ?_
  refine g_iconst (pc := 1) (v := 4) dX12_scrub_1 (by decide) ?_
  refine g_iload_n (pc := 2) dX12_scrub_2 rfl 1 rfl ?_
  refine g_iconst (pc := 3) (v := 0) dX12_scrub_3 (by decide) ?_
  refine g_iconst (pc := 4) (v := 0) dX12_scrub_4 (by decide) ?_
  refine g_iconst (pc := 5) (v := 0) dX12_scrub_5 (by decide) ?_
  obtain ⟨r6, σ5, h4, h⟩ := g_bId h
  refine g_callVi (pc := 6) (st := []) hE.1 wvX12_369 rfl rfl (kX12_act hE n 4 v1 0 0 0 σ h4) rfl (gR_ok (by decide) (by decide)) (Nat.le_of_ble_eq_true rfl) rfl dX12_scrub_6 ?_
  cases h
  exact g_iret (pc := 9) rfl rfl rfl rfl dX12_scrub_9
def fX12_spoil (n : Nat) (v1 : Int32) (v2 : Int32) (v3 : Int32) (v4 : Int32) (σ : gM) : Option (Int32 × gM) := g_bI (fX12_act n 5 v1 v2 v3 v4 σ) (fun r6 σ5 => some (r6, σ5))
set_option maxRecDepth 100000 in
theorem kX12_spoil (hE : gEM l dC dI ad ca X) (n : Nat)  (v1 : Int32) (v2 : Int32) (v3 : Int32) (v4 : Int32) (σ : gM) {r0 : Int32} {σ' : gM} (h : fX12_spoil n v1 v2 v3 v4 σ = some (r0, σ')) : g_C l dC dI ad ca shM X yX12_spoil cX12_spoil 5 (some .int) (gR 9) [.ref 0, .int v1, .int v2, .int v3, .int v4] σ (some (.int r0)) σ' := by
  refine g_entry (by decide +kernel) (Nat.le_of_ble_eq_true rfl) ?_
  refine g_lvE (lv1 := [(0, .ref 0), (1, .int v1), (2, .int v2), (3, .int v3), (4, .int v4)]) rfl ?_
  unfold fX12_spoil at h
  refine g_aload_n (pc := 0) dX12_spoil_0 rfl 0 rfl ?_
  refine g_iconst (pc := 1) (v := 5) dX12_spoil_1 (by decide) ?_
  refine g_iload_n (pc := 2) dX12_spoil_2 rfl 1 rfl ?_
  refine g_iload_n (pc := 3) dX12_spoil_3 rfl 2 rfl ?_
  refine g_iload_n (pc := 4) dX12_spoil_4 rfl 3 rfl ?_
  refine g_iload (pc := 5) dX12_spoil_5 4 rfl ?_
  obtain ⟨r6, σ5, h4, h⟩ := g_bId h
  refine g_callVi (pc := 7) (st := []) hE.1 wvX12_369 rfl rfl (kX12_act hE n 5 v1 v2 v3 v4 σ h4) rfl (gR_ok (by decide) (by decide)) (Nat.le_of_ble_eq_true rfl) rfl dX12_spoil_7 ?_
  cases h
  exact g_iret (pc := 10) rfl rfl rfl rfl dX12_spoil_10
def fX12_tear (n : Nat) (v1 : Int32) (v2 : Int32) (v3 : Int32) (σ : gM) : Option (Int32 × gM) := g_bI (fX12_act n 6 v1 v2 v3 0 σ) (fun r6 σ5 => some (r6, σ5))
set_option maxRecDepth 100000 in
theorem kX12_tear (hE : gEM l dC dI ad ca X) (n : Nat)  (v1 : Int32) (v2 : Int32) (v3 : Int32) (σ : gM) {r0 : Int32} {σ' : gM} (h : fX12_tear n v1 v2 v3 σ = some (r0, σ')) : g_C l dC dI ad ca shM X yX12_tear cX12_tear 4 (some .int) (gR 9) [.ref 0, .int v1, .int v2, .int v3] σ (some (.int r0)) σ' := by
  refine g_entry (by decide +kernel) (Nat.le_of_ble_eq_true rfl) ?_
  refine g_lvE (lv1 := [(0, .ref 0), (1, .int v1), (2, .int v2), (3, .int v3)]) rfl ?_
  unfold fX12_tear at h
  refine g_aload_n (pc := 0) dX12_tear_0 rfl 0 rfl ?_
  refine g_bipush (pc := 1) (v := 6) dX12_tear_1 (by decide) ?_
  refine g_iload_n (pc := 3) dX12_tear_3 rfl 1 rfl ?_
  refine g_iload_n (pc := 4) dX12_tear_4 rfl 2 rfl ?_
  refine g_iload_n (pc := 5) dX12_tear_5 rfl 3 rfl ?_
  refine g_iconst (pc := 6) (v := 0) dX12_tear_6 (by decide) ?_
  obtain ⟨r6, σ5, h4, h⟩ := g_bId h
  refine g_callVi (pc := 7) (st := []) hE.1 wvX12_369 rfl rfl (kX12_act hE n 6 v1 v2 v3 0 σ h4) rfl (gR_ok (by decide) (by decide)) (Nat.le_of_ble_eq_true rfl) rfl dX12_tear_7 ?_
  cases h
  exact g_iret (pc := 10) rfl rfl rfl rfl dX12_tear_10
def fX12_clean (n : Nat) (σ : gM) : Option (Int32 × gM) := g_bI (fX12_act n 7 0 0 0 0 σ) (fun r6 σ5 => some (r6, σ5))
set_option maxRecDepth 100000 in
theorem kX12_clean (hE : gEM l dC dI ad ca X) (n : Nat)  (σ : gM) {r0 : Int32} {σ' : gM} (h : fX12_clean n σ = some (r0, σ')) : g_C l dC dI ad ca shM X yX12_clean cX12_clean 1 (some .int) (gR 9) [.ref 0] σ (some (.int r0)) σ' := by
  refine g_entry (by decide +kernel) (Nat.le_of_ble_eq_true rfl) ?_
  refine g_lvE (lv1 := [(0, .ref 0)]) rfl ?_
  unfold fX12_clean at h
  refine g_aload_n (pc := 0) dX12_clean_0 rfl 0 rfl ?_
  refine g_bipush (pc := 1) (v := 7) dX12_clean_1 (by decide) ?_
  refine g_iconst (pc := 3) (v := 0) dX12_clean_3 (by decide) ?_
  refine g_iconst (pc := 4) (v := 0) dX12_clean_4 (by decide) ?_
  refine g_iconst (pc := 5) (v := 0) dX12_clean_5 (by decide) ?_
  refine g_iconst (pc := 6) (v := 0) dX12_clean_6 (by decide) ?_
  obtain ⟨r6, σ5, h4, h⟩ := g_bId h
  refine g_callVi (pc := 7) (st := []) hE.1 wvX12_369 rfl rfl (kX12_act hE n 7 0 0 0 0 σ h4) rfl (gR_ok (by decide) (by decide)) (Nat.le_of_ble_eq_true rfl) rfl dX12_clean_7 ?_
  cases h
  exact g_iret (pc := 10) rfl rfl rfl rfl dX12_clean_10
def fX12_full (n : Nat) (v1 : Int32) (v2 : Int32) (v3 : Int32) (v4 : Int32) (σ : gM) : Option (Int32 × gM) := g_bI (fX12_act n 8 v1 v2 v3 v4 σ) (fun r6 σ5 => some (r6, σ5))
set_option maxRecDepth 100000 in
theorem kX12_full (hE : gEM l dC dI ad ca X) (n : Nat)  (v1 : Int32) (v2 : Int32) (v3 : Int32) (v4 : Int32) (σ : gM) {r0 : Int32} {σ' : gM} (h : fX12_full n v1 v2 v3 v4 σ = some (r0, σ')) : g_C l dC dI ad ca shM X yX12_full cX12_full 5 (some .int) (gR 9) [.ref 0, .int v1, .int v2, .int v3, .int v4] σ (some (.int r0)) σ' := by
  refine g_entry (by decide +kernel) (Nat.le_of_ble_eq_true rfl) ?_
  refine g_lvE (lv1 := [(0, .ref 0), (1, .int v1), (2, .int v2), (3, .int v3), (4, .int v4)]) rfl ?_
  unfold fX12_full at h
  refine g_aload_n (pc := 0) dX12_full_0 rfl 0 rfl ?_
  refine g_bipush (pc := 1) (v := 8) dX12_full_1 (by decide) ?_
  refine g_iload_n (pc := 3) dX12_full_3 rfl 1 rfl ?_
  refine g_iload_n (pc := 4) dX12_full_4 rfl 2 rfl ?_
  refine g_iload_n (pc := 5) dX12_full_5 rfl 3 rfl ?_
  refine g_iload (pc := 6) dX12_full_6 4 rfl ?_
  obtain ⟨r6, σ5, h4, h⟩ := g_bId h
  refine g_callVi (pc := 8) (st := []) hE.1 wvX12_369 rfl rfl (kX12_act hE n 8 v1 v2 v3 v4 σ h4) rfl (gR_ok (by decide) (by decide)) (Nat.le_of_ble_eq_true rfl) rfl dX12_full_8 ?_
  cases h
  exact g_iret (pc := 11) rfl rfl rfl rfl dX12_full_11
def fX12_draw (v1 : Int32) (σ : gM) : Option (Int32 × gM) := g_let (g_lng σ 0 (((σ.2 0) * 6364136223846793005) + 1442695040888963407)) (fun σ4 => if v1.toInt64 = 0 then none else (some (((g_ul (σ4.2 0) 33) - (g_ul (σ4.2 0) 33) / v1.toInt64 * v1.toInt64).toInt32, σ4)))
set_option maxRecDepth 100000 in
theorem kX12_draw (hE : gEM l dC dI ad ca X)  (v1 : Int32) (σ : gM) {r0 : Int32} {σ' : gM} (h : fX12_draw v1 σ = some (r0, σ')) : g_C l dC dI ad ca shM X yX12_draw cX12_draw 2 (some .int) (gR 0) [.ref 0, .int v1] σ (some (.int r0)) σ' := by
  refine g_entry (by decide +kernel) (Nat.le_of_ble_eq_true rfl) ?_
  refine g_lvE (lv1 := [(0, .ref 0), (1, .int v1)]) rfl ?_
  unfold fX12_draw at h
  refine g_aload_n (pc := 0) dX12_draw_0 rfl 0 rfl ?_
  refine g_aload_n (pc := 1) dX12_draw_1 rfl 0 rfl ?_
  refine g_getL (pc := 2) wfX12_372 rfl rfl dX12_draw_2 ?_
  refine g_ldc2 (pc := 5) wkX12_376 dX12_draw_5 ?_
  refine g_lmul (pc := 8) dX12_draw_8 ?_
  refine g_ldc2 (pc := 9) wkX12_378 dX12_draw_9 ?_
  refine g_ladd (pc := 12) dX12_draw_12 ?_
  obtain ⟨σ4, e5, h⟩ := g_ltd h
  refine g_putL (pc := 13) wfX12_372 rfl rfl (g_hu (by decide)) e5 dX12_draw_13 ?_
  refine g_aload_n (pc := 16) dX12_draw_16 rfl 0 rfl ?_
  refine g_getL (pc := 17) wfX12_372 rfl rfl dX12_draw_17 ?_
  refine g_bipush (pc := 20) (v := 33) dX12_draw_20 (by decide) ?_
  refine g_lushr (pc := 22) dX12_draw_22 ?_
  refine g_iload_n (pc := 23) dX12_draw_23 rfl 1 rfl ?_
  refine g_i2l (pc := 24) dX12_draw_24 ?_
  obtain ⟨c6, h⟩ := g_gn h
  refine g_lrem (pc := 25) dX12_draw_25 c6 ?_
  refine g_l2i (pc := 26) dX12_draw_26 ?_
  cases h
  exact g_iret (pc := 27) rfl rfl rfl rfl dX12_draw_27
def fX12_happensTorn (n : Nat) (σ : gM) : Option (Int32 × gM) := g_bI (fX12_draw (σ.1 0 14) σ) (fun r18 σ17 => g_bI (fX12_draw 256 σ17) (fun r21 σ20 => g_bI (fX12_draw 3 σ20) (fun r24 σ23 => g_bI (fX12_tries_ n 6 r18 r21 r24 0 σ23) (fun r27 σ26 => g_bI (fX12_tries_ n 7 0 0 0 0 σ26) (fun r30 σ29 => some (r30, σ29))))))
set_option maxRecDepth 100000 in
theorem kX12_happensTorn (hE : gEM l dC dI ad ca X) (n : Nat)  (σ : gM) {r0 : Int32} {σ' : gM} (h : fX12_happensTorn n σ = some (r0, σ')) : g_C l dC dI ad ca shM X yX12_happensTorn cX12_happensTorn 4 (some .int) (gR 8) [.ref 0] σ (some (.int r0)) σ' := by
  refine g_entry (by decide +kernel) (Nat.le_of_ble_eq_true rfl) ?_
  refine g_lvE (lv1 := [(0, .ref 0)]) rfl ?_
  unfold fX12_happensTorn at h
  refine g_aload_n (pc := 0) dX12_happensTorn_0 rfl 0 rfl ?_
  refine g_aload_n (pc := 1) dX12_happensTorn_1 rfl 0 rfl ?_
  refine g_getI (pc := 2) wfX12_153 rfl rfl dX12_happensTorn_2 ?_
  obtain ⟨r18, σ17, h16, h⟩ := g_bId h
  refine g_callVi (pc := 5) (st := []) hE.1 wvX12_380 rfl rfl (kX12_draw hE (σ.1 0 14) σ h16) rfl (gR_ok (by decide) (by decide)) (Nat.le_of_ble_eq_true rfl) rfl dX12_happensTorn_5 ?_
  refine g_istore_n (pc := 8) (lv1 := [(1, .int r18), (0, .ref 0)]) dX12_happensTorn_8 rfl (by decide) rfl ?_
  refine g_aload_n (pc := 9) dX12_happensTorn_9 rfl 1 rfl ?_
  refine g_sipush (pc := 10) (v := 256) dX12_happensTorn_10 (by decide) ?_
  obtain ⟨r21, σ20, h19, h⟩ := g_bId h
  refine g_callVi (pc := 13) (st := []) hE.1 wvX12_380 rfl rfl (kX12_draw hE 256 σ17 h19) rfl (gR_ok (by decide) (by decide)) (Nat.le_of_ble_eq_true rfl) rfl dX12_happensTorn_13 ?_
  refine g_istore_n (pc := 16) (lv1 := [(2, .int r21), (1, .int r18), (0, .ref 0)]) dX12_happensTorn_16 rfl (by decide) rfl ?_
  refine g_aload_n (pc := 17) dX12_happensTorn_17 rfl 2 rfl ?_
  refine g_bipush (pc := 18) (v := 6) dX12_happensTorn_18 (by decide) ?_
  refine g_iload_n (pc := 20) dX12_happensTorn_20 rfl 1 rfl ?_
  refine g_iload_n (pc := 21) dX12_happensTorn_21 rfl 0 rfl ?_
  refine g_aload_n (pc := 22) dX12_happensTorn_22 rfl 2 rfl ?_
  refine g_iconst (pc := 23) (v := 3) dX12_happensTorn_23 (by decide) ?_
  obtain ⟨r24, σ23, h22, h⟩ := g_bId h
  refine g_callVi (pc := 24) (st := [.int r21, .int r18, .int 6, .ref 0]) hE.1 wvX12_380 rfl rfl (kX12_draw hE 3 σ20 h22) rfl (gR_ok (by decide) (by decide)) (Nat.le_of_ble_eq_true rfl) rfl dX12_happensTorn_24 ?_
  refine g_iconst (pc := 27) (v := 0) dX12_happensTorn_27 (by decide) ?_
  obtain ⟨r27, σ26, h25, h⟩ := g_bId h
  refine g_callVi (pc := 28) (st := []) hE.1 wvX12_366 rfl rfl (kX12_tries_ hE n 6 r18 r21 r24 0 σ23 h25) rfl (gR_ok (by decide) (by decide)) (Nat.le_of_ble_eq_true rfl) rfl dX12_happensTorn_28 ?_
  refine g_istore_n (pc := 31) (lv1 := [(3, .int r27), (2, .int r21), (1, .int r18), (0, .ref 0)]) dX12_happensTorn_31 rfl (by decide) rfl ?_
  refine g_aload_n (pc := 32) dX12_happensTorn_32 rfl 3 rfl ?_
  refine g_bipush (pc := 33) (v := 7) dX12_happensTorn_33 (by decide) ?_
  refine g_iconst (pc := 35) (v := 0) dX12_happensTorn_35 (by decide) ?_
  refine g_iconst (pc := 36) (v := 0) dX12_happensTorn_36 (by decide) ?_
  refine g_iconst (pc := 37) (v := 0) dX12_happensTorn_37 (by decide) ?_
  refine g_iconst (pc := 38) (v := 0) dX12_happensTorn_38 (by decide) ?_
  obtain ⟨r30, σ29, h28, h⟩ := g_bId h
  refine g_callVi (pc := 39) (st := []) hE.1 wvX12_366 rfl rfl (kX12_tries_ hE n 7 0 0 0 0 σ26 h28) rfl (gR_ok (by decide) (by decide)) (Nat.le_of_ble_eq_true rfl) rfl dX12_happensTorn_39 ?_
  cases h
  exact g_iret (pc := 42) rfl rfl rfl rfl dX12_happensTorn_42
def fX12_happens (n : Nat) (σ : gM) : Option (Int32 × gM) := g_bI (fX12_draw 12 σ) (fun r50 σ49 => if 5 ≤ r50 then (if r50 = 9 then (g_bI (fX12_draw (σ49.1 3 1) σ49) (fun r82 σ81 => g_bI (fX12_tries_ n 4 (r82 + 1) 0 0 0 σ81) (fun r85 σ84 => some (r85, σ84)))) else (if r50 = 11 then (g_bI (fX12_happensTorn n σ49) (fun r79 σ78 => some (r79, σ78))) else (g_bI (fX12_draw (σ49.1 0 13) σ49) (fun r56 σ55 => if 7 ≤ r50 then (g_bI (fX12_draw (σ55.1 3 1) σ55) (fun r60 σ59 => if 9 ≤ r50 then (g_bI (fX12_draw (σ59.1 3 2) σ59) (fun r64 σ63 => g_bI (fX12_draw 255 σ63) (fun r67 σ66 => g_bI (fX12_tries_ n 5 r56 r60 r64 (r67 + 1) σ66) (fun r70 σ69 => some (r70, σ69))))) else (g_bI (fX12_tries_ n 3 r56 (r60 + 1) 0 0 σ59) (fun r73 σ72 => some (r73, σ72))))) else (g_bI (fX12_tries_ n (r50 - 4) r56 0 0 0 σ55) (fun r76 σ75 => some (r76, σ75))))))) else (g_bI (fX12_draw (σ49.1 0 14) σ49) (fun r88 σ87 => g_bI (fX12_draw 256 σ87) (fun r91 σ90 => g_bI (fX12_tries_ n 0 r88 r91 0 0 σ90) (fun r94 σ93 => some (r94, σ93))))))
set_option maxRecDepth 100000 in
theorem kX12_happens (hE : gEM l dC dI ad ca X) (n : Nat)  (σ : gM) {r0 : Int32} {σ' : gM} (h : fX12_happens n σ = some (r0, σ')) : g_C l dC dI ad ca shM X yX12_happens cX12_happens 5 (some .int) (gR 9) [.ref 0] σ (some (.int r0)) σ' := by
  refine g_entry (by decide +kernel) (Nat.le_of_ble_eq_true rfl) ?_
  refine g_lvE (lv1 := [(0, .ref 0)]) rfl ?_
  unfold fX12_happens at h
  refine g_aload_n (pc := 0) dX12_happens_0 rfl 0 rfl ?_
  refine g_bipush (pc := 1) (v := 12) dX12_happens_1 (by decide) ?_
  obtain ⟨r50, σ49, h48, h⟩ := g_bId h
  refine g_callVi (pc := 3) (st := []) hE.1 wvX12_380 rfl rfl (kX12_draw hE 12 σ h48) rfl (gR_ok (by decide) (by decide)) (Nat.le_of_ble_eq_true rfl) rfl dX12_happens_3 ?_
  refine g_istore_n (pc := 6) (lv1 := [(1, .int r50), (0, .ref 0)]) dX12_happens_6 rfl (by decide) rfl ?_
  refine g_iload_n (pc := 7) dX12_happens_7 rfl 0 rfl ?_
  refine g_iconst (pc := 8) (v := 5) dX12_happens_8 (by decide) ?_
  refine g_icmp_ge (pc := 9) (tgt := 37) dX12_happens_9 (by decide) (fun c51 => ?_) (fun c51 => ?_)
  · have h := g_ift c51 h
    refine g_iload_n (pc := 37) dX12_happens_37 rfl 0 rfl ?_
    refine g_bipush (pc := 38) (v := 9) dX12_happens_38 (by decide) ?_
    refine g_icmp_ne (pc := 40) (tgt := 64) dX12_happens_40 (by decide) (fun c52 => ?_) (fun c52 => ?_)
    · have h := g_iff c52 h
      refine g_iload_n (pc := 64) dX12_happens_64 rfl 0 rfl ?_
      refine g_bipush (pc := 65) (v := 11) dX12_happens_65 (by decide) ?_
      refine g_icmp_ne (pc := 67) (tgt := 75) dX12_happens_67 (by decide) (fun c53 => ?_) (fun c53 => ?_)
      · have h := g_iff c53 h
        refine g_aload_n (pc := 75) dX12_happens_75 rfl 1 rfl ?_
        refine g_aload_n (pc := 76) dX12_happens_76 rfl 1 rfl ?_
        refine g_getI (pc := 77) wfX12_171 rfl rfl dX12_happens_77 ?_
        obtain ⟨r56, σ55, h54, h⟩ := g_bId h
        refine g_callVi (pc := 80) (st := []) hE.1 wvX12_380 rfl rfl (kX12_draw hE (σ49.1 0 13) σ49 h54) rfl (gR_ok (by decide) (by decide)) (Nat.le_of_ble_eq_true rfl) rfl dX12_happens_80 ?_
        refine g_istore_n (pc := 83) (lv1 := [(2, .int r56), (1, .int r50), (0, .ref 0)]) dX12_happens_83 rfl (by decide) rfl ?_
        refine g_iload_n (pc := 84) dX12_happens_84 rfl 1 rfl ?_
        refine g_bipush (pc := 85) (v := 7) dX12_happens_85 (by decide) ?_
        refine g_icmp_ge (pc := 87) (tgt := 102) dX12_happens_87 (by decide) (fun c57 => ?_) (fun c57 => ?_)
        · have h := g_ift c57 h
          refine g_aload_n (pc := 102) dX12_happens_102 rfl 2 rfl ?_
          refine g_aload_n (pc := 103) dX12_happens_103 rfl 2 rfl ?_
          refine g_getR (pc := 104) wfX12_17 rfl rfl dX12_happens_104 ?_
          refine g_iconst (pc := 107) (v := 1) dX12_happens_107 (by decide) ?_
          refine g_iald (pc := 108) rfl (by decide) (j := 1) (by decide) dX12_happens_108 ?_
          obtain ⟨r60, σ59, h58, h⟩ := g_bId h
          refine g_callVi (pc := 109) (st := []) hE.1 wvX12_380 rfl rfl (kX12_draw hE (σ55.1 3 1) σ55 h58) rfl (gR_ok (by decide) (by decide)) (Nat.le_of_ble_eq_true rfl) rfl dX12_happens_109 ?_
          refine g_istore_n (pc := 112) (lv1 := [(3, .int r60), (2, .int r56), (1, .int r50), (0, .ref 0)]) dX12_happens_112 rfl (by decide) rfl ?_
          refine g_iload_n (pc := 113) dX12_happens_113 rfl 2 rfl ?_
          refine g_bipush (pc := 114) (v := 9) dX12_happens_114 (by decide) ?_
          refine g_icmp_ge (pc := 116) (tgt := 131) dX12_happens_116 (by decide) (fun c61 => ?_) (fun c61 => ?_)
          · have h := g_ift c61 h
            refine g_aload_n (pc := 131) dX12_happens_131 rfl 3 rfl ?_
            refine g_aload_n (pc := 132) dX12_happens_132 rfl 3 rfl ?_
            refine g_getR (pc := 133) wfX12_17 rfl rfl dX12_happens_133 ?_
            refine g_iconst (pc := 136) (v := 2) dX12_happens_136 (by decide) ?_
            refine g_iald (pc := 137) rfl (by decide) (j := 2) (by decide) dX12_happens_137 ?_
            obtain ⟨r64, σ63, h62, h⟩ := g_bId h
            refine g_callVi (pc := 138) (st := []) hE.1 wvX12_380 rfl rfl (kX12_draw hE (σ59.1 3 2) σ59 h62) rfl (gR_ok (by decide) (by decide)) (Nat.le_of_ble_eq_true rfl) rfl dX12_happens_138 ?_
            refine g_istore (pc := 141) (lv1 := [(4, .int r64), (3, .int r60), (2, .int r56), (1, .int r50), (0, .ref 0)]) dX12_happens_141 (by decide) rfl ?_
            refine g_aload_n (pc := 143) dX12_happens_143 rfl 4 rfl ?_
            refine g_iconst (pc := 144) (v := 5) dX12_happens_144 (by decide) ?_
            refine g_iload_n (pc := 145) dX12_happens_145 rfl 2 rfl ?_
            refine g_iload_n (pc := 146) dX12_happens_146 rfl 1 rfl ?_
            refine g_iload (pc := 147) dX12_happens_147 0 rfl ?_
            refine g_aload_n (pc := 149) dX12_happens_149 rfl 4 rfl ?_
            refine g_sipush (pc := 150) (v := 255) dX12_happens_150 (by decide) ?_
            obtain ⟨r67, σ66, h65, h⟩ := g_bId h
            refine g_callVi (pc := 153) (st := [.int r64, .int r60, .int r56, .int 5, .ref 0]) hE.1 wvX12_380 rfl rfl (kX12_draw hE 255 σ63 h65) rfl (gR_ok (by decide) (by decide)) (Nat.le_of_ble_eq_true rfl) rfl dX12_happens_153 ?_
            refine g_iconst (pc := 156) (v := 1) dX12_happens_156 (by decide) ?_
            refine g_iadd (pc := 157) dX12_happens_157 ?_
            obtain ⟨r70, σ69, h68, h⟩ := g_bId h
            refine g_callVi (pc := 158) (st := []) hE.1 wvX12_366 rfl rfl (kX12_tries_ hE n 5 r56 r60 r64 (r67 + 1) σ66 h68) rfl (gR_ok (by decide) (by decide)) (Nat.le_of_ble_eq_true rfl) rfl dX12_happens_158 ?_
            cases h
            exact g_iret (pc := 161) rfl rfl rfl rfl dX12_happens_161
          · have h := g_iff c61 h
            refine g_aload_n (pc := 119) dX12_happens_119 rfl 3 rfl ?_
            refine g_iconst (pc := 120) (v := 3) dX12_happens_120 (by decide) ?_
            refine g_iload_n (pc := 121) dX12_happens_121 rfl 1 rfl ?_
            refine g_iload_n (pc := 122) dX12_happens_122 rfl 0 rfl ?_
            refine g_iconst (pc := 123) (v := 1) dX12_happens_123 (by decide) ?_
            refine g_iadd (pc := 124) dX12_happens_124 ?_
            refine g_iconst (pc := 125) (v := 0) dX12_happens_125 (by decide) ?_
            refine g_iconst (pc := 126) (v := 0) dX12_happens_126 (by decide) ?_
            obtain ⟨r73, σ72, h71, h⟩ := g_bId h
            refine g_callVi (pc := 127) (st := []) hE.1 wvX12_366 rfl rfl (kX12_tries_ hE n 3 r56 (r60 + 1) 0 0 σ59 h71) rfl (gR_ok (by decide) (by decide)) (Nat.le_of_ble_eq_true rfl) rfl dX12_happens_127 ?_
            cases h
            exact g_iret (pc := 130) rfl rfl rfl rfl dX12_happens_130
        · have h := g_iff c57 h
          refine g_aload_n (pc := 90) dX12_happens_90 rfl 2 rfl ?_
          refine g_iload_n (pc := 91) dX12_happens_91 rfl 1 rfl ?_
          refine g_iconst (pc := 92) (v := 4) dX12_happens_92 (by decide) ?_
          refine g_isub (pc := 93) dX12_happens_93 ?_
          refine g_iload_n (pc := 94) dX12_happens_94 rfl 0 rfl ?_
          refine g_iconst (pc := 95) (v := 0) dX12_happens_95 (by decide) ?_
          refine g_iconst (pc := 96) (v := 0) dX12_happens_96 (by decide) ?_
          refine g_iconst (pc := 97) (v := 0) dX12_happens_97 (by decide) ?_
          obtain ⟨r76, σ75, h74, h⟩ := g_bId h
          refine g_callVi (pc := 98) (st := []) hE.1 wvX12_366 rfl rfl (kX12_tries_ hE n (r50 - 4) r56 0 0 0 σ55 h74) rfl (gR_ok (by decide) (by decide)) (Nat.le_of_ble_eq_true rfl) rfl dX12_happens_98 ?_
          cases h
          exact g_iret (pc := 101) rfl rfl rfl rfl dX12_happens_101
      · have h := g_ift c53 h
        refine g_aload_n (pc := 70) dX12_happens_70 rfl 1 rfl ?_
        obtain ⟨r79, σ78, h77, h⟩ := g_bId h
        refine g_callVi (pc := 71) (st := []) hE.1 wvX12_383 rfl rfl (kX12_happensTorn hE n σ49 h77) rfl (gR_ok (by decide) (by decide)) (Nat.le_of_ble_eq_true rfl) rfl dX12_happens_71 ?_
        cases h
        exact g_iret (pc := 74) rfl rfl rfl rfl dX12_happens_74
    · have h := g_ift c52 h
      refine g_aload_n (pc := 43) dX12_happens_43 rfl 1 rfl ?_
      refine g_iconst (pc := 44) (v := 4) dX12_happens_44 (by decide) ?_
      refine g_aload_n (pc := 45) dX12_happens_45 rfl 1 rfl ?_
      refine g_aload_n (pc := 46) dX12_happens_46 rfl 1 rfl ?_
      refine g_getR (pc := 47) wfX12_17 rfl rfl dX12_happens_47 ?_
      refine g_iconst (pc := 50) (v := 1) dX12_happens_50 (by decide) ?_
      refine g_iald (pc := 51) rfl (by decide) (j := 1) (by decide) dX12_happens_51 ?_
      obtain ⟨r82, σ81, h80, h⟩ := g_bId h
      refine g_callVi (pc := 52) (st := [.int 4, .ref 0]) hE.1 wvX12_380 rfl rfl (kX12_draw hE (σ49.1 3 1) σ49 h80) rfl (gR_ok (by decide) (by decide)) (Nat.le_of_ble_eq_true rfl) rfl dX12_happens_52 ?_
      refine g_iconst (pc := 55) (v := 1) dX12_happens_55 (by decide) ?_
      refine g_iadd (pc := 56) dX12_happens_56 ?_
      refine g_iconst (pc := 57) (v := 0) dX12_happens_57 (by decide) ?_
      refine g_iconst (pc := 58) (v := 0) dX12_happens_58 (by decide) ?_
      refine g_iconst (pc := 59) (v := 0) dX12_happens_59 (by decide) ?_
      obtain ⟨r85, σ84, h83, h⟩ := g_bId h
      refine g_callVi (pc := 60) (st := []) hE.1 wvX12_366 rfl rfl (kX12_tries_ hE n 4 (r82 + 1) 0 0 0 σ81 h83) rfl (gR_ok (by decide) (by decide)) (Nat.le_of_ble_eq_true rfl) rfl dX12_happens_60 ?_
      cases h
      exact g_iret (pc := 63) rfl rfl rfl rfl dX12_happens_63
  · have h := g_iff c51 h
    refine g_aload_n (pc := 12) dX12_happens_12 rfl 1 rfl ?_
    refine g_aload_n (pc := 13) dX12_happens_13 rfl 1 rfl ?_
    refine g_getI (pc := 14) wfX12_153 rfl rfl dX12_happens_14 ?_
    obtain ⟨r88, σ87, h86, h⟩ := g_bId h
    refine g_callVi (pc := 17) (st := []) hE.1 wvX12_380 rfl rfl (kX12_draw hE (σ49.1 0 14) σ49 h86) rfl (gR_ok (by decide) (by decide)) (Nat.le_of_ble_eq_true rfl) rfl dX12_happens_17 ?_
    refine g_istore_n (pc := 20) (lv1 := [(2, .int r88), (1, .int r50), (0, .ref 0)]) dX12_happens_20 rfl (by decide) rfl ?_
    refine g_aload_n (pc := 21) dX12_happens_21 rfl 2 rfl ?_
    refine g_iconst (pc := 22) (v := 0) dX12_happens_22 (by decide) ?_
    refine g_iload_n (pc := 23) dX12_happens_23 rfl 0 rfl ?_
    refine g_aload_n (pc := 24) dX12_happens_24 rfl 2 rfl ?_
    refine g_sipush (pc := 25) (v := 256) dX12_happens_25 (by decide) ?_
    obtain ⟨r91, σ90, h89, h⟩ := g_bId h
    refine g_callVi (pc := 28) (st := [.int r88, .int 0, .ref 0]) hE.1 wvX12_380 rfl rfl (kX12_draw hE 256 σ87 h89) rfl (gR_ok (by decide) (by decide)) (Nat.le_of_ble_eq_true rfl) rfl dX12_happens_28 ?_
    refine g_iconst (pc := 31) (v := 0) dX12_happens_31 (by decide) ?_
    refine g_iconst (pc := 32) (v := 0) dX12_happens_32 (by decide) ?_
    obtain ⟨r94, σ93, h92, h⟩ := g_bId h
    refine g_callVi (pc := 33) (st := []) hE.1 wvX12_366 rfl rfl (kX12_tries_ hE n 0 r88 r91 0 0 σ90 h92) rfl (gR_ok (by decide) (by decide)) (Nat.le_of_ble_eq_true rfl) rfl dX12_happens_33 ?_
    cases h
    exact g_iret (pc := 36) rfl rfl rfl rfl dX12_happens_36
def fX12_years_b34 (n : Nat) (K34 : Int32 → Int32 → gM → Option (Int32 × gM)) (v1 : Int32) (v4 : Int32) (σ : gM) : Option (Int32 × gM) := if v1 ≤ v4 then (g_bI (fX12_costs 10 σ) (fun r20 σ19 => some (r20, σ19))) else (g_bI (fX12_happens n σ) (fun r23 σ22 => K34 v1 (v4 + 1) σ22))
set_option maxRecDepth 100000 in
theorem tX12_years_b34 (hE : gEM l dC dI ad ca X) {r0 : Int32} {σ' : gM} (n : Nat) (K34 : Int32 → Int32 → gM → Option (Int32 × gM)) (hK34 : ∀ (v1 : Int32) (v4 : Int32) (σ : gM), K34 v1 v4 σ = some (r0, σ') → g_G l dC dI ad ca shM X cX12_years 6 RX12 (some .int) (gR 10) (some (.int r0)) σ' 34 [(0, .ref 0), (1, .int v1), (4, .int v4)] [] σ) (v1 : Int32) (v4 : Int32)  (σ : gM) (h : fX12_years_b34 n K34 v1 v4 σ = some (r0, σ')) : g_G l dC dI ad ca shM X cX12_years 6 RX12 (some .int) (gR 10) (some (.int r0)) σ' 34 [(0, .ref 0), (1, .int v1), (4, .int v4)] [] σ := by
  unfold fX12_years_b34 at h
  refine g_iload (pc := 34) dX12_years_34 2 rfl ?_
  refine g_iload_n (pc := 36) dX12_years_36 rfl 1 rfl ?_
  refine g_icmp_ge (pc := 37) (tgt := 52) dX12_years_37 (by decide) (fun c17 => ?_) (fun c17 => ?_)
  · have h := g_ift c17 h
    refine g_aload_n (pc := 52) dX12_years_52 rfl 0 rfl ?_
    refine g_getR (pc := 53) wfX12_38 rfl rfl dX12_years_53 ?_
    obtain ⟨r20, σ19, h18, h⟩ := g_bId h
    refine g_callSi (pc := 56) (st := []) hE.1 wsX12_359 (kX12_costs hE 10 rfl σ h18) rfl (gR_ok (by decide) (by decide)) (Nat.le_of_ble_eq_true rfl) rfl dX12_years_56 ?_
    cases h
    exact g_iret (pc := 59) rfl rfl rfl rfl dX12_years_59
  · have h := g_iff c17 h
    refine g_aload_n (pc := 40) dX12_years_40 rfl 0 rfl ?_
    obtain ⟨r23, σ22, h21, h⟩ := g_bId h
    refine g_callVi (pc := 41) (st := []) hE.1 wvX12_388 rfl rfl (kX12_happens hE n σ h21) rfl (gR_ok (by decide) (by decide)) (Nat.le_of_ble_eq_true rfl) rfl dX12_years_41 ?_
    refine g_istore (pc := 44) (lv1 := [(5, .int r23), (0, .ref 0), (1, .int v1), (4, .int v4)]) dX12_years_44 (by decide) rfl ?_
    refine g_iinc (pc := 46) (v := v4 + 1) (lv1 := [(4, .int (v4 + 1)), (5, .int r23), (0, .ref 0), (1, .int v1)]) dX12_years_46 3 rfl rfl (by decide) rfl ?_
    refine g_goto (pc := 49) (tgt := 34) dX12_years_49 (by decide) ?_
    exact g_lv [2, 3, 0] rfl (hK34 v1 (v4 + 1) σ22 h)
def fX12_years_L34 (n : Nat) : Nat → Int32 → Int32 → gM → Option (Int32 × gM)
  | 0 => fun _ _ _ => none
  | k + 1 => fX12_years_b34 n (fX12_years_L34 n k)
theorem tX12_years_L34 (hE : gEM l dC dI ad ca X) {r0 : Int32} {σ' : gM} (n : Nat)  : ∀ (k : Nat) (v1 : Int32) (v4 : Int32) (σ : gM), fX12_years_L34 n k v1 v4 σ = some (r0, σ') → g_G l dC dI ad ca shM X cX12_years 6 RX12 (some .int) (gR 10) (some (.int r0)) σ' 34 [(0, .ref 0), (1, .int v1), (4, .int v4)] [] σ := by
  intro k
  induction k with
  | zero => intro v1 v4 σ h; cases h
  | succ k ih => intro v1 v4 σ h; exact tX12_years_b34 hE n (fX12_years_L34 n k) ih v1 v4 σ h
def fX12_years (n : Nat) (v1 : Int32) (v2 : Int64) (σ : gM) : Option (Int32 × gM) := g_let (g_put σ 0 0 0) (fun σ24 => if (σ24.1 0 14) = 0 then (some ((-1), σ24)) else (g_bI (fX12_isIn v1.toInt64 1 40 σ24) (fun r29 σ28 => if r29 = 0 then (some ((-1), σ28)) else (g_let (g_lng σ28 0 v2) (fun σ31 => fX12_years_L34 n n v1 0 σ31)))))
set_option maxRecDepth 100000 in
theorem kX12_years (hE : gEM l dC dI ad ca X) (n : Nat)  (v1 : Int32) (v2 : Int64) (σ : gM) {r0 : Int32} {σ' : gM} (h : fX12_years n v1 v2 σ = some (r0, σ')) : g_C l dC dI ad ca shM X yX12_years cX12_years 6 (some .int) (gR 10) [.ref 0, .int v1, .long v2] σ (some (.int r0)) σ' := by
  refine g_entry (by decide +kernel) (Nat.le_of_ble_eq_true rfl) ?_
  refine g_lvE (lv1 := [(0, .ref 0), (1, .int v1), (2, .long v2)]) rfl ?_
  unfold fX12_years at h
  refine g_aload_n (pc := 0) dX12_years_0 rfl 0 rfl ?_
  refine g_iconst (pc := 1) (v := 0) dX12_years_1 (by decide) ?_
  obtain ⟨σ24, e25, h⟩ := g_ltd h
  refine g_putI (pc := 2) wfX12_57 rfl rfl rfl rfl e25 dX12_years_2 ?_
  refine g_aload_n (pc := 5) dX12_years_5 rfl 0 rfl ?_
  refine g_getI (pc := 6) wfX12_153 rfl rfl dX12_years_6 ?_
  refine g_if_eq (pc := 9) (tgt := 24) dX12_years_9 (by decide) (fun c26 => ?_) (fun c26 => ?_)
  · have h := g_ift c26 h
    refine g_iconst (pc := 24) (v := (-1)) dX12_years_24 (by decide) ?_
    cases h
    exact g_iret (pc := 25) rfl rfl rfl rfl dX12_years_25
  · have h := g_iff c26 h
    refine g_iload_n (pc := 12) dX12_years_12 rfl 1 rfl ?_
    refine g_i2l (pc := 13) dX12_years_13 ?_
    refine g_lconst (pc := 14) (v := 1) dX12_years_14 (by decide) ?_
    refine g_ldc2 (pc := 15) wkX12_386 dX12_years_15 ?_
    obtain ⟨r29, σ28, h27, h⟩ := g_bId h
    refine g_callSi (pc := 18) (st := []) hE.1 wsX12_117 (kX12_isIn hE v1.toInt64 1 40 σ24 h27) rfl (gR_ok (by decide) (by decide)) (Nat.le_of_ble_eq_true rfl) rfl dX12_years_18 ?_
    refine g_if_ne (pc := 21) (tgt := 26) dX12_years_21 (by decide) (fun c30 => ?_) (fun c30 => ?_)
    · have h := g_iff c30 h
      refine g_aload_n (pc := 26) dX12_years_26 rfl 0 rfl ?_
      refine g_lload_n (pc := 27) dX12_years_27 rfl 2 rfl ?_
      obtain ⟨σ31, e32, h⟩ := g_ltd h
      refine g_putL (pc := 28) wfX12_372 rfl rfl (g_hu (by decide)) e32 dX12_years_28 ?_
      refine g_iconst (pc := 31) (v := 0) dX12_years_31 (by decide) ?_
      refine g_istore (pc := 32) (lv1 := [(4, .int 0), (0, .ref 0), (1, .int v1), (2, .long v2)]) dX12_years_32 (by decide) rfl ?_
      exact g_lv [1, 2, 0] rfl (tX12_years_L34 hE n n v1 0 σ31 h)
    · have h := g_ift c30 h
      refine g_iconst (pc := 24) (v := (-1)) dX12_years_24 (by decide) ?_
      cases h
      exact g_iret (pc := 25) rfl rfl rfl rfl dX12_years_25
def fX12_status (v1 : Int32) (σ : gM) : Option (Int32 × gM) := g_let (g_put σ 0 0 0) (fun σ8 => g_bI (fX12_isIn v1.toInt64 0 3 σ8) (fun r12 σ11 => if r12 = 0 then (some ((-1), σ11)) else (if ¬ (v1 < 0 ∨ 4 ≤ v1.toNatClampNeg) then (some (σ11.1 5 v1.toNatClampNeg, σ11)) else none)))
set_option maxRecDepth 100000 in
theorem kX12_status (hE : gEM l dC dI ad ca X)  (v1 : Int32) (σ : gM) {r0 : Int32} {σ' : gM} (h : fX12_status v1 σ = some (r0, σ')) : g_C l dC dI ad ca shM X yX12_status cX12_status 2 (some .int) (gR 1) [.ref 0, .int v1] σ (some (.int r0)) σ' := by
  refine g_entry (by decide +kernel) (Nat.le_of_ble_eq_true rfl) ?_
  refine g_lvE (lv1 := [(0, .ref 0), (1, .int v1)]) rfl ?_
  unfold fX12_status at h
  refine g_aload_n (pc := 0) dX12_status_0 rfl 0 rfl ?_
  refine g_iconst (pc := 1) (v := 0) dX12_status_1 (by decide) ?_
  obtain ⟨σ8, e9, h⟩ := g_ltd h
  refine g_putI (pc := 2) wfX12_57 rfl rfl rfl rfl e9 dX12_status_2 ?_
  refine g_iload_n (pc := 5) dX12_status_5 rfl 1 rfl ?_
  refine g_i2l (pc := 6) dX12_status_6 ?_
  refine g_lconst (pc := 7) (v := 0) dX12_status_7 (by decide) ?_
  refine g_ldc2 (pc := 8) wkX12_391 dX12_status_8 ?_
  obtain ⟨r12, σ11, h10, h⟩ := g_bId h
  refine g_callSi (pc := 11) (st := []) hE.1 wsX12_117 (kX12_isIn hE v1.toInt64 0 3 σ8 h10) rfl (gR_ok (by decide) (by decide)) (Nat.le_of_ble_eq_true rfl) rfl dX12_status_11 ?_
  refine g_if_eq (pc := 14) (tgt := 26) dX12_status_14 (by decide) (fun c13 => ?_) (fun c13 => ?_)
  · have h := g_ift c13 h
    refine g_iconst (pc := 26) (v := (-1)) dX12_status_26 (by decide) ?_
    cases h
    exact g_iret (pc := 27) rfl rfl rfl rfl dX12_status_27
  · have h := g_iff c13 h
    refine g_aload_n (pc := 17) dX12_status_17 rfl 0 rfl ?_
    refine g_getR (pc := 18) wfX12_23 rfl rfl dX12_status_18 ?_
    refine g_iload_n (pc := 21) dX12_status_21 rfl 1 rfl ?_
    obtain ⟨c14, h⟩ := g_gd h
    refine g_iald (pc := 22) rfl c14 rfl dX12_status_22 ?_
    refine g_goto (pc := 23) (tgt := 27) dX12_status_23 (by decide) ?_
    cases h
    exact g_iret (pc := 27) rfl rfl rfl rfl dX12_status_27
def fX12_undo (n : Nat) (σ : gM) : Option (Int32 × gM) := g_let (g_put σ 0 0 0) (fun σ8 => if (σ8.1 0 22) = 0 then (some ((-1), σ8)) else (g_let (g_put σ8 0 22 ((σ8.1 0 22) - 1)) (fun σ11 => g_bV (fX12_copyRow n 13 24640 10 616 (616 * (((σ11.1 0 21) + (σ11.1 0 22)) - ((σ11.1 0 21) + (σ11.1 0 22)) / 40 * 40)) 0 σ11) (fun σ14 => some (σ14.1 0 22, σ14)))))
set_option maxRecDepth 100000 in
theorem kX12_undo (hE : gEM l dC dI ad ca X) (n : Nat)  (σ : gM) {r0 : Int32} {σ' : gM} (h : fX12_undo n σ = some (r0, σ')) : g_C l dC dI ad ca shM X yX12_undo cX12_undo 1 (some .int) (gR 1) [.ref 0] σ (some (.int r0)) σ' := by
  refine g_entry (by decide +kernel) (Nat.le_of_ble_eq_true rfl) ?_
  refine g_lvE (lv1 := [(0, .ref 0)]) rfl ?_
  unfold fX12_undo at h
  refine g_aload_n (pc := 0) dX12_undo_0 rfl 0 rfl ?_
  refine g_iconst (pc := 1) (v := 0) dX12_undo_1 (by decide) ?_
  obtain ⟨σ8, e9, h⟩ := g_ltd h
  refine g_putI (pc := 2) wfX12_57 rfl rfl rfl rfl e9 dX12_undo_2 ?_
  refine g_aload_n (pc := 5) dX12_undo_5 rfl 0 rfl ?_
  refine g_getI (pc := 6) wfX12_181 rfl rfl dX12_undo_6 ?_
  refine g_if_ne (pc := 9) (tgt := 14) dX12_undo_9 (by decide) (fun c10 => ?_) (fun c10 => ?_)
  · have h := g_iff c10 h
    refine g_aload_n (pc := 14) dX12_undo_14 rfl 0 rfl ?_
    refine g_dup (pc := 15) dX12_undo_15 rfl ?_
    refine g_getI (pc := 16) wfX12_181 rfl rfl dX12_undo_16 ?_
    refine g_iconst (pc := 19) (v := 1) dX12_undo_19 (by decide) ?_
    refine g_isub (pc := 20) dX12_undo_20 ?_
    obtain ⟨σ11, e12, h⟩ := g_ltd h
    refine g_putI (pc := 21) wfX12_181 rfl rfl rfl rfl e12 dX12_undo_21 ?_
    refine g_aload_n (pc := 24) dX12_undo_24 rfl 0 rfl ?_
    refine g_getR (pc := 25) wfX12_47 rfl rfl dX12_undo_25 ?_
    refine g_sipush (pc := 28) (v := 616) dX12_undo_28 (by decide) ?_
    refine g_aload_n (pc := 31) dX12_undo_31 rfl 0 rfl ?_
    refine g_getI (pc := 32) wfX12_346 rfl rfl dX12_undo_32 ?_
    refine g_aload_n (pc := 35) dX12_undo_35 rfl 0 rfl ?_
    refine g_getI (pc := 36) wfX12_181 rfl rfl dX12_undo_36 ?_
    refine g_iadd (pc := 39) dX12_undo_39 ?_
    refine g_bipush (pc := 40) (v := 40) dX12_undo_40 (by decide) ?_
    refine g_irem (pc := 42) dX12_undo_42 (by decide) ?_
    refine g_imul (pc := 43) dX12_undo_43 ?_
    refine g_aload_n (pc := 44) dX12_undo_44 rfl 0 rfl ?_
    refine g_getR (pc := 45) wfX12_38 rfl rfl dX12_undo_45 ?_
    refine g_iconst (pc := 48) (v := 0) dX12_undo_48 (by decide) ?_
    obtain ⟨σ14, h13, h⟩ := g_bVd h
    refine g_callSv (pc := 49) (st := []) hE.1 wsX12_349 (kX12_copyRow hE n 13 24640 rfl 10 616 rfl (616 * (((σ11.1 0 21) + (σ11.1 0 22)) - ((σ11.1 0 21) + (σ11.1 0 22)) / 40 * 40)) 0 σ11 h13) rfl (gR_ok (by decide) (by decide)) (Nat.le_of_ble_eq_true rfl) rfl dX12_undo_49 ?_
    refine g_aload_n (pc := 52) dX12_undo_52 rfl 0 rfl ?_
    refine g_getI (pc := 53) wfX12_181 rfl rfl dX12_undo_53 ?_
    cases h
    exact g_iret (pc := 56) rfl rfl rfl rfl dX12_undo_56
  · have h := g_ift c10 h
    refine g_iconst (pc := 12) (v := (-1)) dX12_undo_12 (by decide) ?_
    cases h
    exact g_iret (pc := 13) rfl rfl rfl rfl dX12_undo_13
def fX12_log_b33 (σ : gM) : Option (Int32 × gM) := some ((-1000000), σ)
set_option maxRecDepth 100000 in
theorem tX12_log_b33 (hE : gEM l dC dI ad ca X) {r0 : Int32} {σ' : gM}  (σ : gM) (h : fX12_log_b33 σ = some (r0, σ')) : g_G l dC dI ad ca shM X cX12_log 3 RX12 (some .int) (gR 1) (some (.int r0)) σ' 33 [] [] σ := by
  unfold fX12_log_b33 at h
  refine g_ldcw (pc := 33) wkX12_393 dX12_log_33 ?_
  cases h
  exact g_iret (pc := 36) rfl rfl rfl rfl dX12_log_36
def fX12_log (v1 : Int32) (v2 : Int32) (σ : gM) : Option (Int32 × gM) := g_let (g_put σ 0 0 0) (fun σ10 => if v1 < 0 then (fX12_log_b33 σ10) else (if (σ10.1 10 435) ≤ v1 then (fX12_log_b33 σ10) else (g_bI (fX12_isIn v2.toInt64 0 2 σ10) (fun r16 σ15 => if r16 = 0 then (fX12_log_b33 σ15) else (if ¬ (((436 + (3 * (((σ15.1 10 435) - 1) - v1))) + v2) < 0 ∨ 616 ≤ ((436 + (3 * (((σ15.1 10 435) - 1) - v1))) + v2).toNatClampNeg) then (some (σ15.1 10 (((436 + (3 * (((σ15.1 10 435) - 1) - v1))) + v2).toNatClampNeg), σ15)) else none)))))
set_option maxRecDepth 100000 in
theorem kX12_log (hE : gEM l dC dI ad ca X)  (v1 : Int32) (v2 : Int32) (σ : gM) {r0 : Int32} {σ' : gM} (h : fX12_log v1 v2 σ = some (r0, σ')) : g_C l dC dI ad ca shM X yX12_log cX12_log 3 (some .int) (gR 1) [.ref 0, .int v1, .int v2] σ (some (.int r0)) σ' := by
  refine g_entry (by decide +kernel) (Nat.le_of_ble_eq_true rfl) ?_
  refine g_lvE (lv1 := [(0, .ref 0), (1, .int v1), (2, .int v2)]) rfl ?_
  unfold fX12_log at h
  refine g_aload_n (pc := 0) dX12_log_0 rfl 0 rfl ?_
  refine g_iconst (pc := 1) (v := 0) dX12_log_1 (by decide) ?_
  obtain ⟨σ10, e11, h⟩ := g_ltd h
  refine g_putI (pc := 2) wfX12_57 rfl rfl rfl rfl e11 dX12_log_2 ?_
  refine g_iload_n (pc := 5) dX12_log_5 rfl 1 rfl ?_
  refine g_if_lt (pc := 6) (tgt := 33) dX12_log_6 (by decide) (fun c12 => ?_) (fun c12 => ?_)
  · have h := g_ift c12 h
    exact g_lv [] rfl (tX12_log_b33 hE σ10 h)
  · have h := g_iff c12 h
    refine g_iload_n (pc := 9) dX12_log_9 rfl 1 rfl ?_
    refine g_aload_n (pc := 10) dX12_log_10 rfl 0 rfl ?_
    refine g_getR (pc := 11) wfX12_38 rfl rfl dX12_log_11 ?_
    refine g_sipush (pc := 14) (v := 435) dX12_log_14 (by decide) ?_
    refine g_iald (pc := 17) rfl (by decide) (j := 435) (by decide) dX12_log_17 ?_
    refine g_icmp_ge (pc := 18) (tgt := 33) dX12_log_18 (by decide) (fun c13 => ?_) (fun c13 => ?_)
    · have h := g_ift c13 h
      exact g_lv [] rfl (tX12_log_b33 hE σ10 h)
    · have h := g_iff c13 h
      refine g_iload_n (pc := 21) dX12_log_21 rfl 2 rfl ?_
      refine g_i2l (pc := 22) dX12_log_22 ?_
      refine g_lconst (pc := 23) (v := 0) dX12_log_23 (by decide) ?_
      refine g_ldc2 (pc := 24) wkX12_294 dX12_log_24 ?_
      obtain ⟨r16, σ15, h14, h⟩ := g_bId h
      refine g_callSi (pc := 27) (st := []) hE.1 wsX12_117 (kX12_isIn hE v2.toInt64 0 2 σ10 h14) rfl (gR_ok (by decide) (by decide)) (Nat.le_of_ble_eq_true rfl) rfl dX12_log_27 ?_
      refine g_if_ne (pc := 30) (tgt := 37) dX12_log_30 (by decide) (fun c17 => ?_) (fun c17 => ?_)
      · have h := g_iff c17 h
        refine g_aload_n (pc := 37) dX12_log_37 rfl 0 rfl ?_
        refine g_getR (pc := 38) wfX12_38 rfl rfl dX12_log_38 ?_
        refine g_sipush (pc := 41) (v := 436) dX12_log_41 (by decide) ?_
        refine g_iconst (pc := 44) (v := 3) dX12_log_44 (by decide) ?_
        refine g_aload_n (pc := 45) dX12_log_45 rfl 0 rfl ?_
        refine g_getR (pc := 46) wfX12_38 rfl rfl dX12_log_46 ?_
        refine g_sipush (pc := 49) (v := 435) dX12_log_49 (by decide) ?_
        refine g_iald (pc := 52) rfl (by decide) (j := 435) (by decide) dX12_log_52 ?_
        refine g_iconst (pc := 53) (v := 1) dX12_log_53 (by decide) ?_
        refine g_isub (pc := 54) dX12_log_54 ?_
        refine g_iload_n (pc := 55) dX12_log_55 rfl 1 rfl ?_
        refine g_isub (pc := 56) dX12_log_56 ?_
        refine g_imul (pc := 57) dX12_log_57 ?_
        refine g_iadd (pc := 58) dX12_log_58 ?_
        refine g_iload_n (pc := 59) dX12_log_59 rfl 2 rfl ?_
        refine g_iadd (pc := 60) dX12_log_60 ?_
        obtain ⟨c18, h⟩ := g_gd h
        refine g_iald (pc := 61) rfl c18 rfl dX12_log_61 ?_
        cases h
        exact g_iret (pc := 62) rfl rfl rfl rfl dX12_log_62
      · have h := g_ift c17 h
        exact g_lv [] rfl (tX12_log_b33 hE σ15 h)
def fX12_image (n : Nat) (σ : gM) : Option (Int32 × gM) := g_let (g_put σ 0 0 0) (fun σ11 => if (σ11.1 0 14) = 0 then (some ((-1), σ11)) else (g_bV (fX12_copyRow n 10 616 12 616 0 0 σ11) (fun σ15 => g_let (g_put σ15 0 23 1) (fun σ16 => g_bI (fX12_costs 10 σ16) (fun r20 σ19 => some (r20, σ19))))))
set_option maxRecDepth 100000 in
theorem kX12_image (hE : gEM l dC dI ad ca X) (n : Nat)  (σ : gM) {r0 : Int32} {σ' : gM} (h : fX12_image n σ = some (r0, σ')) : g_C l dC dI ad ca shM X yX12_image cX12_image 1 (some .int) (gR 1) [.ref 0] σ (some (.int r0)) σ' := by
  refine g_entry (by decide +kernel) (Nat.le_of_ble_eq_true rfl) ?_
  refine g_lvE (lv1 := [(0, .ref 0)]) rfl ?_
  unfold fX12_image at h
  refine g_aload_n (pc := 0) dX12_image_0 rfl 0 rfl ?_
  refine g_iconst (pc := 1) (v := 0) dX12_image_1 (by decide) ?_
  obtain ⟨σ11, e12, h⟩ := g_ltd h
  refine g_putI (pc := 2) wfX12_57 rfl rfl rfl rfl e12 dX12_image_2 ?_
  refine g_aload_n (pc := 5) dX12_image_5 rfl 0 rfl ?_
  refine g_getI (pc := 6) wfX12_153 rfl rfl dX12_image_6 ?_
  refine g_if_ne (pc := 9) (tgt := 14) dX12_image_9 (by decide) (fun c13 => ?_) (fun c13 => ?_)
  · have h := g_iff c13 h
    refine g_aload_n (pc := 14) dX12_image_14 rfl 0 rfl ?_
    refine g_getR (pc := 15) wfX12_38 rfl rfl dX12_image_15 ?_
    refine g_iconst (pc := 18) (v := 0) dX12_image_18 (by decide) ?_
    refine g_aload_n (pc := 19) dX12_image_19 rfl 0 rfl ?_
    refine g_getR (pc := 20) wfX12_44 rfl rfl dX12_image_20 ?_
    refine g_iconst (pc := 23) (v := 0) dX12_image_23 (by decide) ?_
    obtain ⟨σ15, h14, h⟩ := g_bVd h
    refine g_callSv (pc := 24) (st := []) hE.1 wsX12_349 (kX12_copyRow hE n 10 616 rfl 12 616 rfl 0 0 σ11 h14) rfl (gR_ok (by decide) (by decide)) (Nat.le_of_ble_eq_true rfl) rfl dX12_image_24 ?_
    refine g_aload_n (pc := 27) dX12_image_27 rfl 0 rfl ?_
    refine g_iconst (pc := 28) (v := 1) dX12_image_28 (by decide) ?_
    obtain ⟨σ16, e17, h⟩ := g_ltd h
    refine g_putI (pc := 29) wfX12_184 rfl rfl (by decide) (by decide) e17 dX12_image_29 ?_
    refine g_aload_n (pc := 32) dX12_image_32 rfl 0 rfl ?_
    refine g_getR (pc := 33) wfX12_38 rfl rfl dX12_image_33 ?_
    obtain ⟨r20, σ19, h18, h⟩ := g_bId h
    refine g_callSi (pc := 36) (st := []) hE.1 wsX12_359 (kX12_costs hE 10 rfl σ16 h18) rfl (gR_ok (by decide) (by decide)) (Nat.le_of_ble_eq_true rfl) rfl dX12_image_36 ?_
    cases h
    exact g_iret (pc := 39) rfl rfl rfl rfl dX12_image_39
  · have h := g_ift c13 h
    refine g_iconst (pc := 12) (v := (-1)) dX12_image_12 (by decide) ?_
    cases h
    exact g_iret (pc := 13) rfl rfl rfl rfl dX12_image_13
def fX12_back (n : Nat) (σ : gM) : Option (Int32 × gM) := g_let (g_put σ 0 0 0) (fun σ11 => if (σ11.1 0 23) = 0 then (some ((-1), σ11)) else (g_bV (fX12_copyRow n 12 616 10 616 0 0 σ11) (fun σ15 => g_let (g_put σ15 0 22 0) (fun σ16 => g_bI (fX12_costs 10 σ16) (fun r20 σ19 => some (r20, σ19))))))
set_option maxRecDepth 100000 in
theorem kX12_back (hE : gEM l dC dI ad ca X) (n : Nat)  (σ : gM) {r0 : Int32} {σ' : gM} (h : fX12_back n σ = some (r0, σ')) : g_C l dC dI ad ca shM X yX12_back cX12_back 1 (some .int) (gR 1) [.ref 0] σ (some (.int r0)) σ' := by
  refine g_entry (by decide +kernel) (Nat.le_of_ble_eq_true rfl) ?_
  refine g_lvE (lv1 := [(0, .ref 0)]) rfl ?_
  unfold fX12_back at h
  refine g_aload_n (pc := 0) dX12_back_0 rfl 0 rfl ?_
  refine g_iconst (pc := 1) (v := 0) dX12_back_1 (by decide) ?_
  obtain ⟨σ11, e12, h⟩ := g_ltd h
  refine g_putI (pc := 2) wfX12_57 rfl rfl rfl rfl e12 dX12_back_2 ?_
  refine g_aload_n (pc := 5) dX12_back_5 rfl 0 rfl ?_
  refine g_getI (pc := 6) wfX12_184 rfl rfl dX12_back_6 ?_
  refine g_if_ne (pc := 9) (tgt := 14) dX12_back_9 (by decide) (fun c13 => ?_) (fun c13 => ?_)
  · have h := g_iff c13 h
    refine g_aload_n (pc := 14) dX12_back_14 rfl 0 rfl ?_
    refine g_getR (pc := 15) wfX12_44 rfl rfl dX12_back_15 ?_
    refine g_iconst (pc := 18) (v := 0) dX12_back_18 (by decide) ?_
    refine g_aload_n (pc := 19) dX12_back_19 rfl 0 rfl ?_
    refine g_getR (pc := 20) wfX12_38 rfl rfl dX12_back_20 ?_
    refine g_iconst (pc := 23) (v := 0) dX12_back_23 (by decide) ?_
    obtain ⟨σ15, h14, h⟩ := g_bVd h
    refine g_callSv (pc := 24) (st := []) hE.1 wsX12_349 (kX12_copyRow hE n 12 616 rfl 10 616 rfl 0 0 σ11 h14) rfl (gR_ok (by decide) (by decide)) (Nat.le_of_ble_eq_true rfl) rfl dX12_back_24 ?_
    refine g_aload_n (pc := 27) dX12_back_27 rfl 0 rfl ?_
    refine g_iconst (pc := 28) (v := 0) dX12_back_28 (by decide) ?_
    obtain ⟨σ16, e17, h⟩ := g_ltd h
    refine g_putI (pc := 29) wfX12_181 rfl rfl rfl rfl e17 dX12_back_29 ?_
    refine g_aload_n (pc := 32) dX12_back_32 rfl 0 rfl ?_
    refine g_getR (pc := 33) wfX12_38 rfl rfl dX12_back_33 ?_
    obtain ⟨r20, σ19, h18, h⟩ := g_bId h
    refine g_callSi (pc := 36) (st := []) hE.1 wsX12_359 (kX12_costs hE 10 rfl σ16 h18) rfl (gR_ok (by decide) (by decide)) (Nat.le_of_ble_eq_true rfl) rfl dX12_back_36 ?_
    cases h
    exact g_iret (pc := 39) rfl rfl rfl rfl dX12_back_39
  · have h := g_ift c13 h
    refine g_iconst (pc := 12) (v := (-1)) dX12_back_12 (by decide) ?_
    cases h
    exact g_iret (pc := 13) rfl rfl rfl rfl dX12_back_13
def fX12_rule (v1 : Int32) (σ : gM) : Option (Int32 × gM) := g_let (g_put σ 0 0 0) (fun σ16 => if (σ16.1 0 14) = 0 then (some ((-1), σ16)) else (if v1 = 0 then (if ¬ (v1 < 0 ∨ 5 ≤ v1.toNatClampNeg) then (some (σ16.1 3 v1.toNatClampNeg, σ16)) else none) else (if v1 = 1 then (if ¬ (v1 < 0 ∨ 5 ≤ v1.toNatClampNeg) then (some (σ16.1 3 v1.toNatClampNeg, σ16)) else none) else (if v1 = 2 then (if ¬ (v1 < 0 ∨ 5 ≤ v1.toNatClampNeg) then (some (σ16.1 3 v1.toNatClampNeg, σ16)) else none) else (if v1 = 3 then (if ¬ (v1 < 0 ∨ 5 ≤ v1.toNatClampNeg) then (some (σ16.1 3 v1.toNatClampNeg, σ16)) else none) else (if v1 = 4 then (some (σ16.1 10 424, σ16)) else (if v1 = 5 then (some (σ16.1 0 13, σ16)) else (if v1 = 6 then (some (σ16.1 0 14, σ16)) else (some ((-1), σ16))))))))))
set_option maxRecDepth 100000 in
theorem kX12_rule (hE : gEM l dC dI ad ca X)  (v1 : Int32) (σ : gM) {r0 : Int32} {σ' : gM} (h : fX12_rule v1 σ = some (r0, σ')) : g_C l dC dI ad ca shM X yX12_rule cX12_rule 2 (some .int) (gR 0) [.ref 0, .int v1] σ (some (.int r0)) σ' := by
  refine g_entry (by decide +kernel) (Nat.le_of_ble_eq_true rfl) ?_
  refine g_lvE (lv1 := [(0, .ref 0), (1, .int v1)]) rfl ?_
  unfold fX12_rule at h
  refine g_aload_n (pc := 0) dX12_rule_0 rfl 0 rfl ?_
  refine g_iconst (pc := 1) (v := 0) dX12_rule_1 (by decide) ?_
  obtain ⟨σ16, e17, h⟩ := g_ltd h
  refine g_putI (pc := 2) wfX12_57 rfl rfl rfl rfl e17 dX12_rule_2 ?_
  refine g_aload_n (pc := 5) dX12_rule_5 rfl 0 rfl ?_
  refine g_getI (pc := 6) wfX12_153 rfl rfl dX12_rule_6 ?_
  refine g_if_ne (pc := 9) (tgt := 14) dX12_rule_9 (by decide) (fun c18 => ?_) (fun c18 => ?_)
  · have h := g_iff c18 h
    refine g_iload_n (pc := 14) dX12_rule_14 rfl 1 rfl ?_
    by_cases c19 : v1 = 0
    · have h := g_ift c19 h
      refine g_tabIn (pc := 15) (tgt := 56) (off := 41) dX12_rule_15 (by rw [c19]; decide) (by rw [c19]; decide) (by rw [c19]; decide) (by decide) ?_
      refine g_aload_n (pc := 56) dX12_rule_56 rfl 0 rfl ?_
      refine g_getR (pc := 57) wfX12_17 rfl rfl dX12_rule_57 ?_
      refine g_iload_n (pc := 60) dX12_rule_60 rfl 1 rfl ?_
      obtain ⟨c20, h⟩ := g_gd h
      refine g_iald (pc := 61) rfl c20 rfl dX12_rule_61 ?_
      cases h
      exact g_iret (pc := 62) rfl rfl rfl rfl dX12_rule_62
    have h := g_iff c19 h
    by_cases c21 : v1 = 1
    · have h := g_ift c21 h
      refine g_tabIn (pc := 15) (tgt := 56) (off := 41) dX12_rule_15 (by rw [c21]; decide) (by rw [c21]; decide) (by rw [c21]; decide) (by decide) ?_
      refine g_aload_n (pc := 56) dX12_rule_56 rfl 0 rfl ?_
      refine g_getR (pc := 57) wfX12_17 rfl rfl dX12_rule_57 ?_
      refine g_iload_n (pc := 60) dX12_rule_60 rfl 1 rfl ?_
      obtain ⟨c22, h⟩ := g_gd h
      refine g_iald (pc := 61) rfl c22 rfl dX12_rule_61 ?_
      cases h
      exact g_iret (pc := 62) rfl rfl rfl rfl dX12_rule_62
    have h := g_iff c21 h
    by_cases c23 : v1 = 2
    · have h := g_ift c23 h
      refine g_tabIn (pc := 15) (tgt := 56) (off := 41) dX12_rule_15 (by rw [c23]; decide) (by rw [c23]; decide) (by rw [c23]; decide) (by decide) ?_
      refine g_aload_n (pc := 56) dX12_rule_56 rfl 0 rfl ?_
      refine g_getR (pc := 57) wfX12_17 rfl rfl dX12_rule_57 ?_
      refine g_iload_n (pc := 60) dX12_rule_60 rfl 1 rfl ?_
      obtain ⟨c24, h⟩ := g_gd h
      refine g_iald (pc := 61) rfl c24 rfl dX12_rule_61 ?_
      cases h
      exact g_iret (pc := 62) rfl rfl rfl rfl dX12_rule_62
    have h := g_iff c23 h
    by_cases c25 : v1 = 3
    · have h := g_ift c25 h
      refine g_tabIn (pc := 15) (tgt := 56) (off := 41) dX12_rule_15 (by rw [c25]; decide) (by rw [c25]; decide) (by rw [c25]; decide) (by decide) ?_
      refine g_aload_n (pc := 56) dX12_rule_56 rfl 0 rfl ?_
      refine g_getR (pc := 57) wfX12_17 rfl rfl dX12_rule_57 ?_
      refine g_iload_n (pc := 60) dX12_rule_60 rfl 1 rfl ?_
      obtain ⟨c26, h⟩ := g_gd h
      refine g_iald (pc := 61) rfl c26 rfl dX12_rule_61 ?_
      cases h
      exact g_iret (pc := 62) rfl rfl rfl rfl dX12_rule_62
    have h := g_iff c25 h
    by_cases c27 : v1 = 4
    · have h := g_ift c27 h
      refine g_tabIn (pc := 15) (tgt := 63) (off := 48) dX12_rule_15 (by rw [c27]; decide) (by rw [c27]; decide) (by rw [c27]; decide) (by decide) ?_
      refine g_aload_n (pc := 63) dX12_rule_63 rfl 0 rfl ?_
      refine g_getR (pc := 64) wfX12_38 rfl rfl dX12_rule_64 ?_
      refine g_sipush (pc := 67) (v := 424) dX12_rule_67 (by decide) ?_
      refine g_iald (pc := 70) rfl (by decide) (j := 424) (by decide) dX12_rule_70 ?_
      cases h
      exact g_iret (pc := 71) rfl rfl rfl rfl dX12_rule_71
    have h := g_iff c27 h
    by_cases c28 : v1 = 5
    · have h := g_ift c28 h
      refine g_tabIn (pc := 15) (tgt := 72) (off := 57) dX12_rule_15 (by rw [c28]; decide) (by rw [c28]; decide) (by rw [c28]; decide) (by decide) ?_
      refine g_aload_n (pc := 72) dX12_rule_72 rfl 0 rfl ?_
      refine g_getI (pc := 73) wfX12_171 rfl rfl dX12_rule_73 ?_
      cases h
      exact g_iret (pc := 76) rfl rfl rfl rfl dX12_rule_76
    have h := g_iff c28 h
    by_cases c29 : v1 = 6
    · have h := g_ift c29 h
      refine g_tabIn (pc := 15) (tgt := 77) (off := 62) dX12_rule_15 (by rw [c29]; decide) (by rw [c29]; decide) (by rw [c29]; decide) (by decide) ?_
      refine g_aload_n (pc := 77) dX12_rule_77 rfl 0 rfl ?_
      refine g_getI (pc := 78) wfX12_153 rfl rfl dX12_rule_78 ?_
      cases h
      exact g_iret (pc := 81) rfl rfl rfl rfl dX12_rule_81
    have h := g_iff c29 h
    have u30 : (v1).toInt < 0 ∨ 6 < (v1).toInt := by
      have ec19 := g_toInt c19
      have ec21 := g_toInt c21
      have ec23 := g_toInt c23
      have ec25 := g_toInt c25
      have ec27 := g_toInt c27
      have ec28 := g_toInt c28
      have ec29 := g_toInt c29
      rw [show (0 : Int32).toInt = 0 from by decide] at ec19
      rw [show (1 : Int32).toInt = 1 from by decide] at ec21
      rw [show (2 : Int32).toInt = 2 from by decide] at ec23
      rw [show (3 : Int32).toInt = 3 from by decide] at ec25
      rw [show (4 : Int32).toInt = 4 from by decide] at ec27
      rw [show (5 : Int32).toInt = 5 from by decide] at ec28
      rw [show (6 : Int32).toInt = 6 from by decide] at ec29
      omega
    refine g_tabOut (pc := 15) (tgt := 82) dX12_rule_15 u30 (by decide) ?_
    refine g_iconst (pc := 82) (v := (-1)) dX12_rule_82 (by decide) ?_
    cases h
    exact g_iret (pc := 83) rfl rfl rfl rfl dX12_rule_83
  · have h := g_ift c18 h
    refine g_iconst (pc := 12) (v := (-1)) dX12_rule_12 (by decide) ?_
    cases h
    exact g_iret (pc := 13) rfl rfl rfl rfl dX12_rule_13
def fX12_place (v1 : Int32) (v2 : Int32) (σ : gM) : Option (Int32 × gM) := g_let (g_put σ 0 0 0) (fun σ30 => g_bI (fX12_isAddress v1 σ30) (fun r34 σ33 => if r34 = 0 then (some ((-1), σ33)) else (if v2 = 0 then (g_bI (fX12_stripeOf v1 σ33) (fun r39 σ38 => g_bI (fX12_partOf v1 σ38) (fun r42 σ41 => g_bI (fX12_diskOf r39 r42 σ41) (fun r45 σ44 => some (r45, σ44))))) else (if v2 = 1 then (g_bI (fX12_stripeOf v1 σ33) (fun r49 σ48 => some (r49, σ48))) else (if v2 = 2 then (g_bI (fX12_byteOf v1 σ33) (fun r53 σ52 => some (r53, σ52))) else (if v2 = 3 then (g_bI (fX12_partOf v1 σ33) (fun r57 σ56 => some (r57, σ56))) else (some ((-1), σ33))))))))
set_option maxRecDepth 100000 in
theorem kX12_place (hE : gEM l dC dI ad ca X)  (v1 : Int32) (v2 : Int32) (σ : gM) {r0 : Int32} {σ' : gM} (h : fX12_place v1 v2 σ = some (r0, σ')) : g_C l dC dI ad ca shM X yX12_place cX12_place 3 (some .int) (gR 2) [.ref 0, .int v1, .int v2] σ (some (.int r0)) σ' := by
  refine g_entry (by decide +kernel) (Nat.le_of_ble_eq_true rfl) ?_
  refine g_lvE (lv1 := [(0, .ref 0), (1, .int v1), (2, .int v2)]) rfl ?_
  unfold fX12_place at h
  refine g_aload_n (pc := 0) dX12_place_0 rfl 0 rfl ?_
  refine g_iconst (pc := 1) (v := 0) dX12_place_1 (by decide) ?_
  obtain ⟨σ30, e31, h⟩ := g_ltd h
  refine g_putI (pc := 2) wfX12_57 rfl rfl rfl rfl e31 dX12_place_2 ?_
  refine g_aload_n (pc := 5) dX12_place_5 rfl 0 rfl ?_
  refine g_iload_n (pc := 6) dX12_place_6 rfl 1 rfl ?_
  obtain ⟨r34, σ33, h32, h⟩ := g_bId h
  refine g_callVi (pc := 7) (st := []) hE.1 wvX12_281 rfl rfl (kX12_isAddress hE v1 σ30 h32) rfl (gR_ok (by decide) (by decide)) (Nat.le_of_ble_eq_true rfl) rfl dX12_place_7 ?_
  refine g_if_ne (pc := 10) (tgt := 15) dX12_place_10 (by decide) (fun c35 => ?_) (fun c35 => ?_)
  · have h := g_iff c35 h
    refine g_iload_n (pc := 15) dX12_place_15 rfl 2 rfl ?_
    by_cases c36 : v2 = 0
    · have h := g_ift c36 h
      refine g_tabIn (pc := 16) (tgt := 48) (off := 32) dX12_place_16 (by rw [c36]; decide) (by rw [c36]; decide) (by rw [c36]; decide) (by decide) ?_
      refine g_aload_n (pc := 48) dX12_place_48 rfl 0 rfl ?_
      refine g_aload_n (pc := 49) dX12_place_49 rfl 0 rfl ?_
      refine g_iload_n (pc := 50) dX12_place_50 rfl 1 rfl ?_
      obtain ⟨r39, σ38, h37, h⟩ := g_bId h
      refine g_callVi (pc := 51) (st := [.ref 0]) hE.1 wvX12_217 rfl rfl (kX12_stripeOf hE v1 σ33 h37) rfl (gR_ok (by decide) (by decide)) (Nat.le_of_ble_eq_true rfl) rfl dX12_place_51 ?_
      refine g_aload_n (pc := 54) dX12_place_54 rfl 0 rfl ?_
      refine g_iload_n (pc := 55) dX12_place_55 rfl 1 rfl ?_
      obtain ⟨r42, σ41, h40, h⟩ := g_bId h
      refine g_callVi (pc := 56) (st := [.int r39, .ref 0]) hE.1 wvX12_230 rfl rfl (kX12_partOf hE v1 σ38 h40) rfl (gR_ok (by decide) (by decide)) (Nat.le_of_ble_eq_true rfl) rfl dX12_place_56 ?_
      obtain ⟨r45, σ44, h43, h⟩ := g_bId h
      refine g_callVi (pc := 59) (st := []) hE.1 wvX12_199 rfl rfl (kX12_diskOf hE r39 r42 σ41 h43) rfl (gR_ok (by decide) (by decide)) (Nat.le_of_ble_eq_true rfl) rfl dX12_place_59 ?_
      cases h
      exact g_iret (pc := 62) rfl rfl rfl rfl dX12_place_62
    have h := g_iff c36 h
    by_cases c46 : v2 = 1
    · have h := g_ift c46 h
      refine g_tabIn (pc := 16) (tgt := 63) (off := 47) dX12_place_16 (by rw [c46]; decide) (by rw [c46]; decide) (by rw [c46]; decide) (by decide) ?_
      refine g_aload_n (pc := 63) dX12_place_63 rfl 0 rfl ?_
      refine g_iload_n (pc := 64) dX12_place_64 rfl 1 rfl ?_
      obtain ⟨r49, σ48, h47, h⟩ := g_bId h
      refine g_callVi (pc := 65) (st := []) hE.1 wvX12_217 rfl rfl (kX12_stripeOf hE v1 σ33 h47) rfl (gR_ok (by decide) (by decide)) (Nat.le_of_ble_eq_true rfl) rfl dX12_place_65 ?_
      cases h
      exact g_iret (pc := 68) rfl rfl rfl rfl dX12_place_68
    have h := g_iff c46 h
    by_cases c50 : v2 = 2
    · have h := g_ift c50 h
      refine g_tabIn (pc := 16) (tgt := 69) (off := 53) dX12_place_16 (by rw [c50]; decide) (by rw [c50]; decide) (by rw [c50]; decide) (by decide) ?_
      refine g_aload_n (pc := 69) dX12_place_69 rfl 0 rfl ?_
      refine g_iload_n (pc := 70) dX12_place_70 rfl 1 rfl ?_
      obtain ⟨r53, σ52, h51, h⟩ := g_bId h
      refine g_callVi (pc := 71) (st := []) hE.1 wvX12_220 rfl rfl (kX12_byteOf hE v1 σ33 h51) rfl (gR_ok (by decide) (by decide)) (Nat.le_of_ble_eq_true rfl) rfl dX12_place_71 ?_
      cases h
      exact g_iret (pc := 74) rfl rfl rfl rfl dX12_place_74
    have h := g_iff c50 h
    by_cases c54 : v2 = 3
    · have h := g_ift c54 h
      refine g_tabIn (pc := 16) (tgt := 75) (off := 59) dX12_place_16 (by rw [c54]; decide) (by rw [c54]; decide) (by rw [c54]; decide) (by decide) ?_
      refine g_aload_n (pc := 75) dX12_place_75 rfl 0 rfl ?_
      refine g_iload_n (pc := 76) dX12_place_76 rfl 1 rfl ?_
      obtain ⟨r57, σ56, h55, h⟩ := g_bId h
      refine g_callVi (pc := 77) (st := []) hE.1 wvX12_230 rfl rfl (kX12_partOf hE v1 σ33 h55) rfl (gR_ok (by decide) (by decide)) (Nat.le_of_ble_eq_true rfl) rfl dX12_place_77 ?_
      cases h
      exact g_iret (pc := 80) rfl rfl rfl rfl dX12_place_80
    have h := g_iff c54 h
    have u58 : (v2).toInt < 0 ∨ 3 < (v2).toInt := by
      have ec36 := g_toInt c36
      have ec46 := g_toInt c46
      have ec50 := g_toInt c50
      have ec54 := g_toInt c54
      rw [show (0 : Int32).toInt = 0 from by decide] at ec36
      rw [show (1 : Int32).toInt = 1 from by decide] at ec46
      rw [show (2 : Int32).toInt = 2 from by decide] at ec50
      rw [show (3 : Int32).toInt = 3 from by decide] at ec54
      omega
    refine g_tabOut (pc := 16) (tgt := 81) dX12_place_16 u58 (by decide) ?_
    refine g_iconst (pc := 81) (v := (-1)) dX12_place_81 (by decide) ?_
    cases h
    exact g_iret (pc := 82) rfl rfl rfl rfl dX12_place_82
  · have h := g_ift c35 h
    refine g_iconst (pc := 13) (v := (-1)) dX12_place_13 (by decide) ?_
    cases h
    exact g_iret (pc := 14) rfl rfl rfl rfl dX12_place_14
def fX12_part (v1 : Int32) (v2 : Int32) (σ : gM) : Option (Int32 × gM) := g_let (g_put σ 0 0 0) (fun σ10 => g_bI (fX12_isPlace v1 v2 0 σ10) (fun r14 σ13 => if r14 = 0 then (some ((-1), σ13)) else (g_bI (fX12_roleOf v2 v1 σ13) (fun r18 σ17 => some (r18, σ17)))))
set_option maxRecDepth 100000 in
theorem kX12_part (hE : gEM l dC dI ad ca X)  (v1 : Int32) (v2 : Int32) (σ : gM) {r0 : Int32} {σ' : gM} (h : fX12_part v1 v2 σ = some (r0, σ')) : g_C l dC dI ad ca shM X yX12_part cX12_part 3 (some .int) (gR 2) [.ref 0, .int v1, .int v2] σ (some (.int r0)) σ' := by
  refine g_entry (by decide +kernel) (Nat.le_of_ble_eq_true rfl) ?_
  refine g_lvE (lv1 := [(0, .ref 0), (1, .int v1), (2, .int v2)]) rfl ?_
  unfold fX12_part at h
  refine g_aload_n (pc := 0) dX12_part_0 rfl 0 rfl ?_
  refine g_iconst (pc := 1) (v := 0) dX12_part_1 (by decide) ?_
  obtain ⟨σ10, e11, h⟩ := g_ltd h
  refine g_putI (pc := 2) wfX12_57 rfl rfl rfl rfl e11 dX12_part_2 ?_
  refine g_aload_n (pc := 5) dX12_part_5 rfl 0 rfl ?_
  refine g_iload_n (pc := 6) dX12_part_6 rfl 1 rfl ?_
  refine g_iload_n (pc := 7) dX12_part_7 rfl 2 rfl ?_
  refine g_iconst (pc := 8) (v := 0) dX12_part_8 (by decide) ?_
  obtain ⟨r14, σ13, h12, h⟩ := g_bId h
  refine g_callVi (pc := 9) (st := []) hE.1 wvX12_290 rfl rfl (kX12_isPlace hE v1 v2 0 σ10 h12) rfl (gR_ok (by decide) (by decide)) (Nat.le_of_ble_eq_true rfl) rfl dX12_part_9 ?_
  refine g_if_eq (pc := 12) (tgt := 24) dX12_part_12 (by decide) (fun c15 => ?_) (fun c15 => ?_)
  · have h := g_ift c15 h
    refine g_iconst (pc := 24) (v := (-1)) dX12_part_24 (by decide) ?_
    cases h
    exact g_iret (pc := 25) rfl rfl rfl rfl dX12_part_25
  · have h := g_iff c15 h
    refine g_aload_n (pc := 15) dX12_part_15 rfl 0 rfl ?_
    refine g_iload_n (pc := 16) dX12_part_16 rfl 2 rfl ?_
    refine g_iload_n (pc := 17) dX12_part_17 rfl 1 rfl ?_
    obtain ⟨r18, σ17, h16, h⟩ := g_bId h
    refine g_callVi (pc := 18) (st := []) hE.1 wvX12_340 rfl rfl (kX12_roleOf hE v2 v1 σ13 h16) rfl (gR_ok (by decide) (by decide)) (Nat.le_of_ble_eq_true rfl) rfl dX12_part_18 ?_
    refine g_goto (pc := 21) (tgt := 25) dX12_part_21 (by decide) ?_
    cases h
    exact g_iret (pc := 25) rfl rfl rfl rfl dX12_part_25
def fX12_read_b14 (n : Nat) (v1 : Int32) (s0 : Int32) (σ : gM) : Option (Int32 × gM) := g_let (g_put σ 0 0 s0) (fun σ11 => if (σ11.1 0 0) ≤ 0 then (g_bI (fX12_reads n 10 v1 σ11) (fun r16 σ15 => some (r16, σ15))) else (some (0, σ11)))
set_option maxRecDepth 100000 in
theorem tX12_read_b14 (hE : gEM l dC dI ad ca X) {r0 : Int32} {σ' : gM} (n : Nat) (v1 : Int32) (s0 : Int32)  (σ : gM) (h : fX12_read_b14 n v1 s0 σ = some (r0, σ')) : g_G l dC dI ad ca shM X cX12_read 2 RX12 (some .int) (gR 4) (some (.int r0)) σ' 14 [(0, .ref 0), (1, .int v1)] [.int s0, .ref 0] σ := by
  unfold fX12_read_b14 at h
  obtain ⟨σ11, e12, h⟩ := g_ltd h
  refine g_putI (pc := 14) wfX12_57 rfl rfl rfl rfl e12 dX12_read_14 ?_
  refine g_aload_n (pc := 17) dX12_read_17 rfl 0 rfl ?_
  refine g_getI (pc := 18) wfX12_57 rfl rfl dX12_read_18 ?_
  refine g_if_le (pc := 21) (tgt := 28) dX12_read_21 (by decide) (fun c13 => ?_) (fun c13 => ?_)
  · have h := g_ift c13 h
    refine g_aload_n (pc := 28) dX12_read_28 rfl 0 rfl ?_
    refine g_aload_n (pc := 29) dX12_read_29 rfl 0 rfl ?_
    refine g_getR (pc := 30) wfX12_38 rfl rfl dX12_read_30 ?_
    refine g_iload_n (pc := 33) dX12_read_33 rfl 1 rfl ?_
    obtain ⟨r16, σ15, h14, h⟩ := g_bId h
    refine g_callVi (pc := 34) (st := []) hE.1 wvX12_309 rfl rfl (kX12_reads hE n 10 rfl v1 σ11 h14) rfl (gR_ok (by decide) (by decide)) (Nat.le_of_ble_eq_true rfl) rfl dX12_read_34 ?_
    cases h
    exact g_iret (pc := 37) rfl rfl rfl rfl dX12_read_37
  · have h := g_iff c13 h
    refine g_iconst (pc := 24) (v := 0) dX12_read_24 (by decide) ?_
    refine g_goto (pc := 25) (tgt := 37) dX12_read_25 (by decide) ?_
    cases h
    exact g_iret (pc := 37) rfl rfl rfl rfl dX12_read_37
def fX12_read (n : Nat) (v1 : Int32) (σ : gM) : Option (Int32 × gM) := g_bI (fX12_isAddress v1 σ) (fun r19 σ18 => if r19 = 0 then (fX12_read_b14 n v1 1 σ18) else (fX12_read_b14 n v1 0 σ18))
set_option maxRecDepth 100000 in
theorem kX12_read (hE : gEM l dC dI ad ca X) (n : Nat)  (v1 : Int32) (σ : gM) {r0 : Int32} {σ' : gM} (h : fX12_read n v1 σ = some (r0, σ')) : g_C l dC dI ad ca shM X yX12_read cX12_read 2 (some .int) (gR 4) [.ref 0, .int v1] σ (some (.int r0)) σ' := by
  refine g_entry (by decide +kernel) (Nat.le_of_ble_eq_true rfl) ?_
  refine g_lvE (lv1 := [(0, .ref 0), (1, .int v1)]) rfl ?_
  unfold fX12_read at h
  refine g_aload_n (pc := 0) dX12_read_0 rfl 0 rfl ?_
  refine g_aload_n (pc := 1) dX12_read_1 rfl 0 rfl ?_
  refine g_iload_n (pc := 2) dX12_read_2 rfl 1 rfl ?_
  obtain ⟨r19, σ18, h17, h⟩ := g_bId h
  refine g_callVi (pc := 3) (st := [.ref 0]) hE.1 wvX12_281 rfl rfl (kX12_isAddress hE v1 σ h17) rfl (gR_ok (by decide) (by decide)) (Nat.le_of_ble_eq_true rfl) rfl dX12_read_3 ?_
  refine g_if_eq (pc := 6) (tgt := 13) dX12_read_6 (by decide) (fun c20 => ?_) (fun c20 => ?_)
  · have h := g_ift c20 h
    refine g_iconst (pc := 13) (v := 1) dX12_read_13 (by decide) ?_
    exact g_lv [0, 1] rfl (tX12_read_b14 hE n v1 1 σ18 h)
  · have h := g_iff c20 h
    refine g_iconst (pc := 9) (v := 0) dX12_read_9 (by decide) ?_
    refine g_goto (pc := 10) (tgt := 14) dX12_read_10 (by decide) ?_
    exact g_lv [0, 1] rfl (tX12_read_b14 hE n v1 0 σ18 h)
end WKM3
