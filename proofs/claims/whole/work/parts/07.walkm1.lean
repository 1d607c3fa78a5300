section WKM1
variable {l : Launch} {dC : Nat → ClassId} {dI : Nat → Nat → Nat} {ad : Nat → Nat} {ca : Nat → ClassId} {X : (Nat → Prop) → State → Heap → Prop}

def fX12_thrown (σ : gM) : Option (Int32 × gM) := some (σ.1 0 0, σ)
set_option maxRecDepth 100000 in
theorem kX12_thrown (hE : gEM l dC dI ad ca X)  (σ : gM) {r0 : Int32} {σ' : gM} (h : fX12_thrown σ = some (r0, σ')) : g_C l dC dI ad ca shM X yX12_thrown cX12_thrown 1 (some .int) (gR 0) [.ref 0] σ (some (.int r0)) σ' := by
  refine g_entry (by decide +kernel) (Nat.le_of_ble_eq_true rfl) ?_
  refine g_lvE (lv1 := [(0, .ref 0)]) rfl ?_
  unfold fX12_thrown at h
  refine g_aload_n (pc := 0) dX12_thrown_0 rfl 0 rfl ?_
  refine g_getI (pc := 1) wfX12_57 rfl rfl dX12_thrown_1 ?_
  cases h
  exact g_iret (pc := 4) rfl rfl rfl rfl dX12_thrown_4
def fX12_isIn (v0 : Int64) (v2 : Int64) (v4 : Int64) (σ : gM) : Option (Int32 × gM) := if (lg_cmp v0 v2) < 0 then (some (0, σ)) else (if 0 < (lg_cmp v0 v4) then (some (0, σ)) else (some (1, σ)))
set_option maxRecDepth 100000 in
theorem kX12_isIn (hE : gEM l dC dI ad ca X)  (v0 : Int64) (v2 : Int64) (v4 : Int64) (σ : gM) {r0 : Int32} {σ' : gM} (h : fX12_isIn v0 v2 v4 σ = some (r0, σ')) : g_C l dC dI ad ca shM X yX12_isIn cX12_isIn 6 (some .boolean) (gR 0) [.long v0, .long v2, .long v4] σ (some (.int r0)) σ' := by
  refine g_entry (by decide +kernel) (Nat.le_of_ble_eq_true rfl) ?_
  refine g_lvE (lv1 := [(0, .long v0), (2, .long v2), (4, .long v4)]) rfl ?_
  unfold fX12_isIn at h
  refine g_lload_n (pc := 0) dX12_isIn_0 rfl 0 rfl ?_
  refine g_lload_n (pc := 1) dX12_isIn_1 rfl 1 rfl ?_
  refine g_lcmp (pc := 2) dX12_isIn_2 ?_
  refine g_if_lt (pc := 3) (tgt := 17) dX12_isIn_3 (by decide) (fun c3 => ?_) (fun c3 => ?_)
  · have h := g_ift c3 h
    refine g_iconst (pc := 17) (v := 0) dX12_isIn_17 (by decide) ?_
    cases h
    exact g_iret (pc := 18) rfl (by decide) rfl rfl dX12_isIn_18
  · have h := g_iff c3 h
    refine g_lload_n (pc := 6) dX12_isIn_6 rfl 0 rfl ?_
    refine g_lload (pc := 7) dX12_isIn_7 2 rfl ?_
    refine g_lcmp (pc := 9) dX12_isIn_9 ?_
    refine g_if_gt (pc := 10) (tgt := 17) dX12_isIn_10 (by decide) (fun c4 => ?_) (fun c4 => ?_)
    · have h := g_ift c4 h
      refine g_iconst (pc := 17) (v := 0) dX12_isIn_17 (by decide) ?_
      cases h
      exact g_iret (pc := 18) rfl (by decide) rfl rfl dX12_isIn_18
    · have h := g_iff c4 h
      refine g_iconst (pc := 13) (v := 1) dX12_isIn_13 (by decide) ?_
      refine g_goto (pc := 14) (tgt := 18) dX12_isIn_14 (by decide) ?_
      cases h
      exact g_iret (pc := 18) rfl (by decide) rfl rfl dX12_isIn_18
def fX12_bytesOf_b28 (n : Nat) (K4 : Int32 → Int32 → Int32 → gM → Option (Int32 × gM)) (v0 : Int32) (v2 : Int32) (s0 : Int32) (s1 : Int32) (σ : gM) : Option (Int32 × gM) := K4 v0 (s1 + s0) (v2 + 1) σ
set_option maxRecDepth 100000 in
theorem tX12_bytesOf_b28 (hE : gEM l dC dI ad ca X) {r0 : Int32} {σ' : gM} (n : Nat) (K4 : Int32 → Int32 → Int32 → gM → Option (Int32 × gM)) (hK4 : ∀ (v0 : Int32) (v1 : Int32) (v2 : Int32) (σ : gM), K4 v0 v1 v2 σ = some (r0, σ') → g_G l dC dI ad ca shM X cX12_bytesOf 3 RX12 (some .int) (gR 0) (some (.int r0)) σ' 4 [(0, .int v0), (1, .int v1), (2, .int v2)] [] σ) (v0 : Int32) (v2 : Int32) (s0 : Int32) (s1 : Int32)  (σ : gM) (h : fX12_bytesOf_b28 n K4 v0 v2 s0 s1 σ = some (r0, σ')) : g_G l dC dI ad ca shM X cX12_bytesOf 3 RX12 (some .int) (gR 0) (some (.int r0)) σ' 28 [(0, .int v0), (2, .int v2)] [.int s0, .int s1] σ := by
  unfold fX12_bytesOf_b28 at h
  refine g_iadd (pc := 28) dX12_bytesOf_28 ?_
  refine g_istore_n (pc := 29) (lv1 := [(1, .int (s1 + s0)), (0, .int v0), (2, .int v2)]) dX12_bytesOf_29 rfl (by decide) rfl ?_
  refine g_iinc (pc := 30) (v := v2 + 1) (lv1 := [(2, .int (v2 + 1)), (1, .int (s1 + s0)), (0, .int v0)]) dX12_bytesOf_30 2 rfl rfl (by decide) rfl ?_
  refine g_goto (pc := 33) (tgt := 4) dX12_bytesOf_33 (by decide) ?_
  exact g_lv [2, 1, 0] rfl (hK4 v0 (s1 + s0) (v2 + 1) σ h)
def fX12_bytesOf_b4 (n : Nat) (K4 : Int32 → Int32 → Int32 → gM → Option (Int32 × gM)) (v0 : Int32) (v1 : Int32) (v2 : Int32) (σ : gM) : Option (Int32 × gM) := if 4 ≤ v2 then (some (v1, σ)) else (if ((v0 >>> ((8 * v2) &&& 31)) &&& 255) = 0 then (fX12_bytesOf_b28 n K4 v0 v2 0 v1 σ) else (fX12_bytesOf_b28 n K4 v0 v2 1 v1 σ))
set_option maxRecDepth 100000 in
theorem tX12_bytesOf_b4 (hE : gEM l dC dI ad ca X) {r0 : Int32} {σ' : gM} (n : Nat) (K4 : Int32 → Int32 → Int32 → gM → Option (Int32 × gM)) (hK4 : ∀ (v0 : Int32) (v1 : Int32) (v2 : Int32) (σ : gM), K4 v0 v1 v2 σ = some (r0, σ') → g_G l dC dI ad ca shM X cX12_bytesOf 3 RX12 (some .int) (gR 0) (some (.int r0)) σ' 4 [(0, .int v0), (1, .int v1), (2, .int v2)] [] σ) (v0 : Int32) (v1 : Int32) (v2 : Int32)  (σ : gM) (h : fX12_bytesOf_b4 n K4 v0 v1 v2 σ = some (r0, σ')) : g_G l dC dI ad ca shM X cX12_bytesOf 3 RX12 (some .int) (gR 0) (some (.int r0)) σ' 4 [(0, .int v0), (1, .int v1), (2, .int v2)] [] σ := by
  unfold fX12_bytesOf_b4 at h
  refine g_iload_n (pc := 4) dX12_bytesOf_4 rfl 2 rfl ?_
  refine g_iconst (pc := 5) (v := 4) dX12_bytesOf_5 (by decide) ?_
  refine g_icmp_ge (pc := 6) (tgt := 36) dX12_bytesOf_6 (by decide) (fun c3 => ?_) (fun c3 => ?_)
  · have h := g_ift c3 h
    refine g_iload_n (pc := 36) dX12_bytesOf_36 rfl 1 rfl ?_
    cases h
    exact g_iret (pc := 37) rfl rfl rfl rfl dX12_bytesOf_37
  · have h := g_iff c3 h
    refine g_iload_n (pc := 9) dX12_bytesOf_9 rfl 1 rfl ?_
    refine g_iload_n (pc := 10) dX12_bytesOf_10 rfl 0 rfl ?_
    refine g_bipush (pc := 11) (v := 8) dX12_bytesOf_11 (by decide) ?_
    refine g_iload_n (pc := 13) dX12_bytesOf_13 rfl 2 rfl ?_
    refine g_imul (pc := 14) dX12_bytesOf_14 ?_
    refine g_ishr (pc := 15) dX12_bytesOf_15 ?_
    refine g_sipush (pc := 16) (v := 255) dX12_bytesOf_16 (by decide) ?_
    refine g_iand (pc := 19) dX12_bytesOf_19 ?_
    refine g_if_ne (pc := 20) (tgt := 27) dX12_bytesOf_20 (by decide) (fun c4 => ?_) (fun c4 => ?_)
    · have h := g_iff c4 h
      refine g_iconst (pc := 27) (v := 1) dX12_bytesOf_27 (by decide) ?_
      exact g_lv [0, 2] rfl (tX12_bytesOf_b28 hE n K4 hK4 v0 v2 1 v1 σ h)
    · have h := g_ift c4 h
      refine g_iconst (pc := 23) (v := 0) dX12_bytesOf_23 (by decide) ?_
      refine g_goto (pc := 24) (tgt := 28) dX12_bytesOf_24 (by decide) ?_
      exact g_lv [0, 2] rfl (tX12_bytesOf_b28 hE n K4 hK4 v0 v2 0 v1 σ h)
def fX12_bytesOf_L4 (n : Nat) : Nat → Int32 → Int32 → Int32 → gM → Option (Int32 × gM)
  | 0 => fun _ _ _ _ => none
  | k + 1 => fX12_bytesOf_b4 n (fX12_bytesOf_L4 n k)
theorem tX12_bytesOf_L4 (hE : gEM l dC dI ad ca X) {r0 : Int32} {σ' : gM} (n : Nat)  : ∀ (k : Nat) (v0 : Int32) (v1 : Int32) (v2 : Int32) (σ : gM), fX12_bytesOf_L4 n k v0 v1 v2 σ = some (r0, σ') → g_G l dC dI ad ca shM X cX12_bytesOf 3 RX12 (some .int) (gR 0) (some (.int r0)) σ' 4 [(0, .int v0), (1, .int v1), (2, .int v2)] [] σ := by
  intro k
  induction k with
  | zero => intro v0 v1 v2 σ h; cases h
  | succ k ih => intro v0 v1 v2 σ h; exact tX12_bytesOf_b4 hE n (fX12_bytesOf_L4 n k) ih v0 v1 v2 σ h
def fX12_bytesOf (n : Nat) (v0 : Int32) (σ : gM) : Option (Int32 × gM) := fX12_bytesOf_L4 n n v0 0 0 σ
set_option maxRecDepth 100000 in
theorem kX12_bytesOf (hE : gEM l dC dI ad ca X) (n : Nat)  (v0 : Int32) (σ : gM) {r0 : Int32} {σ' : gM} (h : fX12_bytesOf n v0 σ = some (r0, σ')) : g_C l dC dI ad ca shM X yX12_bytesOf cX12_bytesOf 3 (some .int) (gR 0) [.int v0] σ (some (.int r0)) σ' := by
  refine g_entry (by decide +kernel) (Nat.le_of_ble_eq_true rfl) ?_
  refine g_lvE (lv1 := [(0, .int v0)]) rfl ?_
  unfold fX12_bytesOf at h
  refine g_iconst (pc := 0) (v := 0) dX12_bytesOf_0 (by decide) ?_
  refine g_istore_n (pc := 1) (lv1 := [(1, .int 0), (0, .int v0)]) dX12_bytesOf_1 rfl (by decide) rfl ?_
  refine g_iconst (pc := 2) (v := 0) dX12_bytesOf_2 (by decide) ?_
  refine g_istore_n (pc := 3) (lv1 := [(2, .int 0), (1, .int 0), (0, .int v0)]) dX12_bytesOf_3 rfl (by decide) rfl ?_
  exact g_lv [2, 1, 0] rfl (tX12_bytesOf_L4 hE n n v0 0 0 σ h)
def fX12_brings_b43 (n : Nat) (K3 : Int32 → Int32 → gM → Option (gM)) (v1 : Int32) (v2 : Int32) (σ : gM) : Option (gM) := K3 v1 (v2 + (-8)) σ
set_option maxRecDepth 100000 in
theorem tX12_brings_b43 (hE : gEM l dC dI ad ca X) {σ' : gM} (n : Nat) (K3 : Int32 → Int32 → gM → Option (gM)) (hK3 : ∀ (v1 : Int32) (v2 : Int32) (σ : gM), K3 v1 v2 σ = some σ' → g_G l dC dI ad ca shM X cX12_brings 4 RX12 none (gR 0) none σ' 3 [(0, .ref 0), (1, .int v1), (2, .int v2)] [] σ) (v1 : Int32) (v2 : Int32)  (σ : gM) (h : fX12_brings_b43 n K3 v1 v2 σ = some σ') : g_G l dC dI ad ca shM X cX12_brings 4 RX12 none (gR 0) none σ' 43 [(0, .ref 0), (1, .int v1), (2, .int v2)] [] σ := by
  unfold fX12_brings_b43 at h
  refine g_iinc (pc := 43) (v := v2 + (-8)) (lv1 := [(2, .int (v2 + (-8))), (0, .ref 0), (1, .int v1)]) dX12_brings_43 2 rfl rfl (by decide) rfl ?_
  refine g_goto (pc := 46) (tgt := 3) dX12_brings_46 (by decide) ?_
  exact g_lv [1, 2, 0] rfl (hK3 v1 (v2 + (-8)) σ h)
def fX12_brings_b3 (n : Nat) (K3 : Int32 → Int32 → gM → Option (gM)) (v1 : Int32) (v2 : Int32) (σ : gM) : Option (gM) := if v2 < 0 then (some σ) else (if ((v1 >>> (v2 &&& 31)) &&& 255) = 0 then (fX12_brings_b43 n K3 v1 v2 σ) else (if ¬ ((σ.1 0 2) < 0 ∨ 280 ≤ (σ.1 0 2).toNatClampNeg) then (g_let (g_put σ 1 ((σ.1 0 2).toNatClampNeg) (vp_nar .byte (((v1 >>> (v2 &&& 31)) &&& 255).toInt8.toInt32))) (fun σ11 => g_let (g_put σ11 0 2 ((σ11.1 0 2) + 1)) (fun σ13 => fX12_brings_b43 n K3 v1 v2 σ13))) else none))
set_option maxRecDepth 100000 in
theorem tX12_brings_b3 (hE : gEM l dC dI ad ca X) {σ' : gM} (n : Nat) (K3 : Int32 → Int32 → gM → Option (gM)) (hK3 : ∀ (v1 : Int32) (v2 : Int32) (σ : gM), K3 v1 v2 σ = some σ' → g_G l dC dI ad ca shM X cX12_brings 4 RX12 none (gR 0) none σ' 3 [(0, .ref 0), (1, .int v1), (2, .int v2)] [] σ) (v1 : Int32) (v2 : Int32)  (σ : gM) (h : fX12_brings_b3 n K3 v1 v2 σ = some σ') : g_G l dC dI ad ca shM X cX12_brings 4 RX12 none (gR 0) none σ' 3 [(0, .ref 0), (1, .int v1), (2, .int v2)] [] σ := by
  unfold fX12_brings_b3 at h
  refine g_iload_n (pc := 3) dX12_brings_3 rfl 2 rfl ?_
  refine g_if_lt (pc := 4) (tgt := 49) dX12_brings_4 (by decide) (fun c8 => ?_) (fun c8 => ?_)
  · have h := g_ift c8 h
    cases h
    exact g_vret (pc := 49) rfl rfl rfl dX12_brings_49
  · have h := g_iff c8 h
    refine g_iload_n (pc := 7) dX12_brings_7 rfl 1 rfl ?_
    refine g_iload_n (pc := 8) dX12_brings_8 rfl 2 rfl ?_
    refine g_ishr (pc := 9) dX12_brings_9 ?_
    refine g_sipush (pc := 10) (v := 255) dX12_brings_10 (by decide) ?_
    refine g_iand (pc := 13) dX12_brings_13 ?_
    refine g_istore_n (pc := 14) (lv1 := [(3, .int ((v1 >>> (v2 &&& 31)) &&& 255)), (0, .ref 0), (1, .int v1), (2, .int v2)]) dX12_brings_14 rfl (by decide) rfl ?_
    refine g_iload_n (pc := 15) dX12_brings_15 rfl 0 rfl ?_
    refine g_if_ne (pc := 16) (tgt := 22) dX12_brings_16 (by decide) (fun c9 => ?_) (fun c9 => ?_)
    · have h := g_iff c9 h
      refine g_aload_n (pc := 22) dX12_brings_22 rfl 1 rfl ?_
      refine g_getR (pc := 23) wfX12_9 rfl rfl dX12_brings_23 ?_
      refine g_aload_n (pc := 26) dX12_brings_26 rfl 1 rfl ?_
      refine g_getI (pc := 27) wfX12_61 rfl rfl dX12_brings_27 ?_
      refine g_iload_n (pc := 30) dX12_brings_30 rfl 0 rfl ?_
      refine g_i2b (pc := 31) dX12_brings_31 ?_
      obtain ⟨c10, h⟩ := g_gd h
      obtain ⟨σ11, e12, h⟩ := g_ltd h
      refine g_bast (pc := 32) rfl c10 rfl e12 dX12_brings_32 ?_
      refine g_aload_n (pc := 33) dX12_brings_33 rfl 1 rfl ?_
      refine g_dup (pc := 34) dX12_brings_34 rfl ?_
      refine g_getI (pc := 35) wfX12_61 rfl rfl dX12_brings_35 ?_
      refine g_iconst (pc := 38) (v := 1) dX12_brings_38 (by decide) ?_
      refine g_iadd (pc := 39) dX12_brings_39 ?_
      obtain ⟨σ13, e14, h⟩ := g_ltd h
      refine g_putI (pc := 40) wfX12_61 rfl rfl rfl rfl e14 dX12_brings_40 ?_
      exact g_lv [1, 2, 3] rfl (tX12_brings_b43 hE n K3 hK3 v1 v2 σ13 h)
    · have h := g_ift c9 h
      refine g_goto (pc := 19) (tgt := 43) dX12_brings_19 (by decide) ?_
      exact g_lv [1, 2, 3] rfl (tX12_brings_b43 hE n K3 hK3 v1 v2 σ h)
def fX12_brings_L3 (n : Nat) : Nat → Int32 → Int32 → gM → Option (gM)
  | 0 => fun _ _ _ => none
  | k + 1 => fX12_brings_b3 n (fX12_brings_L3 n k)
theorem tX12_brings_L3 (hE : gEM l dC dI ad ca X) {σ' : gM} (n : Nat)  : ∀ (k : Nat) (v1 : Int32) (v2 : Int32) (σ : gM), fX12_brings_L3 n k v1 v2 σ = some σ' → g_G l dC dI ad ca shM X cX12_brings 4 RX12 none (gR 0) none σ' 3 [(0, .ref 0), (1, .int v1), (2, .int v2)] [] σ := by
  intro k
  induction k with
  | zero => intro v1 v2 σ h; cases h
  | succ k ih => intro v1 v2 σ h; exact tX12_brings_b3 hE n (fX12_brings_L3 n k) ih v1 v2 σ h
def fX12_brings (n : Nat) (v1 : Int32) (σ : gM) : Option (gM) := fX12_brings_L3 n n v1 24 σ
set_option maxRecDepth 100000 in
theorem kX12_brings (hE : gEM l dC dI ad ca X) (n : Nat)  (v1 : Int32) (σ : gM) {σ' : gM} (h : fX12_brings n v1 σ = some σ') : g_C l dC dI ad ca shM X yX12_brings cX12_brings 4 none (gR 0) [.ref 0, .int v1] σ none σ' := by
  refine g_entry (by decide +kernel) (Nat.le_of_ble_eq_true rfl) ?_
  refine g_lvE (lv1 := [(0, .ref 0), (1, .int v1)]) rfl ?_
  unfold fX12_brings at h
  refine g_bipush (pc := 0) (v := 24) dX12_brings_0 (by decide) ?_
  refine g_istore_n (pc := 2) (lv1 := [(2, .int 24), (0, .ref 0), (1, .int v1)]) dX12_brings_2 rfl (by decide) rfl ?_
  exact g_lv [1, 2, 0] rfl (tX12_brings_L3 hE n n v1 24 σ h)
def fX12_feed (n : Nat) (v1 : Int32) (v2 : Int32) (v3 : Int32) (v4 : Int32) (v5 : Int32) (σ : gM) : Option (Int32 × gM) := g_let (g_put σ 0 0 0) (fun σ29 => g_bI (fX12_bytesOf n v1 σ29) (fun r33 σ32 => g_bI (fX12_bytesOf n v2 σ32) (fun r36 σ35 => g_bI (fX12_bytesOf n v3 σ35) (fun r39 σ38 => g_bI (fX12_bytesOf n v4 σ38) (fun r42 σ41 => g_bI (fX12_bytesOf n v5 σ41) (fun r45 σ44 => if ((((((σ29.1 0 2) + r33) + r36) + r39) + r42) + r45) ≤ 280 then (g_bV (fX12_brings n v1 σ44) (fun σ48 => g_bV (fX12_brings n v2 σ48) (fun σ50 => g_bV (fX12_brings n v3 σ50) (fun σ52 => g_bV (fX12_brings n v4 σ52) (fun σ54 => g_bV (fX12_brings n v5 σ54) (fun σ56 => some (σ56.1 0 2, σ56))))))) else (some ((-1), σ44))))))))
set_option maxRecDepth 100000 in
theorem kX12_feed (hE : gEM l dC dI ad ca X) (n : Nat)  (v1 : Int32) (v2 : Int32) (v3 : Int32) (v4 : Int32) (v5 : Int32) (σ : gM) {r0 : Int32} {σ' : gM} (h : fX12_feed n v1 v2 v3 v4 v5 σ = some (r0, σ')) : g_C l dC dI ad ca shM X yX12_feed cX12_feed 6 (some .int) (gR 1) [.ref 0, .int v1, .int v2, .int v3, .int v4, .int v5] σ (some (.int r0)) σ' := by
  refine g_entry (by decide +kernel) (Nat.le_of_ble_eq_true rfl) ?_
  refine g_lvE (lv1 := [(0, .ref 0), (1, .int v1), (2, .int v2), (3, .int v3), (4, .int v4), (5, .int v5)]) rfl ?_
  unfold fX12_feed at h
  refine g_aload_n (pc := 0) dX12_feed_0 rfl 0 rfl ?_
  refine g_iconst (pc := 1) (v := 0) dX12_feed_1 (by decide) ?_
  obtain ⟨σ29, e30, h⟩ := g_ltd h
  refine g_putI (pc := 2) wfX12_57 rfl rfl rfl rfl e30 dX12_feed_2 ?_
  refine g_aload_n (pc := 5) dX12_feed_5 rfl 0 rfl ?_
  refine g_getI (pc := 6) wfX12_61 rfl rfl dX12_feed_6 ?_
  refine g_iload_n (pc := 9) dX12_feed_9 rfl 1 rfl ?_
  obtain ⟨r33, σ32, h31, h⟩ := g_bId h
  refine g_callSi (pc := 10) (st := [.int (σ29.1 0 2)]) hE.1 wsX12_64 (kX12_bytesOf hE n v1 σ29 h31) rfl (gR_ok (by decide) (by decide)) (Nat.le_of_ble_eq_true rfl) rfl dX12_feed_10 ?_
  refine g_iadd (pc := 13) dX12_feed_13 ?_
  refine g_iload_n (pc := 14) dX12_feed_14 rfl 2 rfl ?_
  obtain ⟨r36, σ35, h34, h⟩ := g_bId h
  refine g_callSi (pc := 15) (st := [.int ((σ29.1 0 2) + r33)]) hE.1 wsX12_64 (kX12_bytesOf hE n v2 σ32 h34) rfl (gR_ok (by decide) (by decide)) (Nat.le_of_ble_eq_true rfl) rfl dX12_feed_15 ?_
  refine g_iadd (pc := 18) dX12_feed_18 ?_
  refine g_iload_n (pc := 19) dX12_feed_19 rfl 3 rfl ?_
  obtain ⟨r39, σ38, h37, h⟩ := g_bId h
  refine g_callSi (pc := 20) (st := [.int (((σ29.1 0 2) + r33) + r36)]) hE.1 wsX12_64 (kX12_bytesOf hE n v3 σ35 h37) rfl (gR_ok (by decide) (by decide)) (Nat.le_of_ble_eq_true rfl) rfl dX12_feed_20 ?_
  refine g_iadd (pc := 23) dX12_feed_23 ?_
  refine g_iload (pc := 24) dX12_feed_24 4 rfl ?_
  obtain ⟨r42, σ41, h40, h⟩ := g_bId h
  refine g_callSi (pc := 26) (st := [.int ((((σ29.1 0 2) + r33) + r36) + r39)]) hE.1 wsX12_64 (kX12_bytesOf hE n v4 σ38 h40) rfl (gR_ok (by decide) (by decide)) (Nat.le_of_ble_eq_true rfl) rfl dX12_feed_26 ?_
  refine g_iadd (pc := 29) dX12_feed_29 ?_
  refine g_iload (pc := 30) dX12_feed_30 5 rfl ?_
  obtain ⟨r45, σ44, h43, h⟩ := g_bId h
  refine g_callSi (pc := 32) (st := [.int (((((σ29.1 0 2) + r33) + r36) + r39) + r42)]) hE.1 wsX12_64 (kX12_bytesOf hE n v5 σ41 h43) rfl (gR_ok (by decide) (by decide)) (Nat.le_of_ble_eq_true rfl) rfl dX12_feed_32 ?_
  refine g_iadd (pc := 35) dX12_feed_35 ?_
  refine g_sipush (pc := 36) (v := 280) dX12_feed_36 (by decide) ?_
  refine g_icmp_le (pc := 39) (tgt := 44) dX12_feed_39 (by decide) (fun c46 => ?_) (fun c46 => ?_)
  · have h := g_ift c46 h
    refine g_aload_n (pc := 44) dX12_feed_44 rfl 0 rfl ?_
    refine g_iload_n (pc := 45) dX12_feed_45 rfl 1 rfl ?_
    obtain ⟨σ48, h47, h⟩ := g_bVd h
    refine g_callVv (pc := 46) (st := []) hE.1 wvX12_68 rfl rfl (kX12_brings hE n v1 σ44 h47) rfl (gR_ok (by decide) (by decide)) (Nat.le_of_ble_eq_true rfl) rfl dX12_feed_46 ?_
    refine g_aload_n (pc := 49) dX12_feed_49 rfl 0 rfl ?_
    refine g_iload_n (pc := 50) dX12_feed_50 rfl 2 rfl ?_
    obtain ⟨σ50, h49, h⟩ := g_bVd h
    refine g_callVv (pc := 51) (st := []) hE.1 wvX12_68 rfl rfl (kX12_brings hE n v2 σ48 h49) rfl (gR_ok (by decide) (by decide)) (Nat.le_of_ble_eq_true rfl) rfl dX12_feed_51 ?_
    refine g_aload_n (pc := 54) dX12_feed_54 rfl 0 rfl ?_
    refine g_iload_n (pc := 55) dX12_feed_55 rfl 3 rfl ?_
    obtain ⟨σ52, h51, h⟩ := g_bVd h
    refine g_callVv (pc := 56) (st := []) hE.1 wvX12_68 rfl rfl (kX12_brings hE n v3 σ50 h51) rfl (gR_ok (by decide) (by decide)) (Nat.le_of_ble_eq_true rfl) rfl dX12_feed_56 ?_
    refine g_aload_n (pc := 59) dX12_feed_59 rfl 0 rfl ?_
    refine g_iload (pc := 60) dX12_feed_60 4 rfl ?_
    obtain ⟨σ54, h53, h⟩ := g_bVd h
    refine g_callVv (pc := 62) (st := []) hE.1 wvX12_68 rfl rfl (kX12_brings hE n v4 σ52 h53) rfl (gR_ok (by decide) (by decide)) (Nat.le_of_ble_eq_true rfl) rfl dX12_feed_62 ?_
    refine g_aload_n (pc := 65) dX12_feed_65 rfl 0 rfl ?_
    refine g_iload (pc := 66) dX12_feed_66 5 rfl ?_
    obtain ⟨σ56, h55, h⟩ := g_bVd h
    refine g_callVv (pc := 68) (st := []) hE.1 wvX12_68 rfl rfl (kX12_brings hE n v5 σ54 h55) rfl (gR_ok (by decide) (by decide)) (Nat.le_of_ble_eq_true rfl) rfl dX12_feed_68 ?_
    refine g_aload_n (pc := 71) dX12_feed_71 rfl 0 rfl ?_
    refine g_getI (pc := 72) wfX12_61 rfl rfl dX12_feed_72 ?_
    cases h
    exact g_iret (pc := 75) rfl rfl rfl rfl dX12_feed_75
  · have h := g_iff c46 h
    refine g_iconst (pc := 42) (v := (-1)) dX12_feed_42 (by decide) ?_
    cases h
    exact g_iret (pc := 43) rfl rfl rfl rfl dX12_feed_43
def fX12_end (v1 : Int32) (σ : gM) : Option (Int32 × gM) := g_let (g_put σ 0 0 0) (fun σ7 => if v1 < 0 then (some (0, σ7)) else (if v1 ≤ (σ7.1 0 2) then (g_let (g_put σ7 0 2 v1) (fun σ11 => some (1, σ11))) else (some (0, σ7))))
set_option maxRecDepth 100000 in
theorem kX12_end (hE : gEM l dC dI ad ca X)  (v1 : Int32) (σ : gM) {r0 : Int32} {σ' : gM} (h : fX12_end v1 σ = some (r0, σ')) : g_C l dC dI ad ca shM X yX12_end cX12_end 2 (some .boolean) (gR 0) [.ref 0, .int v1] σ (some (.int r0)) σ' := by
  refine g_entry (by decide +kernel) (Nat.le_of_ble_eq_true rfl) ?_
  refine g_lvE (lv1 := [(0, .ref 0), (1, .int v1)]) rfl ?_
  unfold fX12_end at h
  refine g_aload_n (pc := 0) dX12_end_0 rfl 0 rfl ?_
  refine g_iconst (pc := 1) (v := 0) dX12_end_1 (by decide) ?_
  obtain ⟨σ7, e8, h⟩ := g_ltd h
  refine g_putI (pc := 2) wfX12_57 rfl rfl rfl rfl e8 dX12_end_2 ?_
  refine g_iload_n (pc := 5) dX12_end_5 rfl 1 rfl ?_
  refine g_if_lt (pc := 6) (tgt := 17) dX12_end_6 (by decide) (fun c9 => ?_) (fun c9 => ?_)
  · have h := g_ift c9 h
    refine g_iconst (pc := 17) (v := 0) dX12_end_17 (by decide) ?_
    cases h
    exact g_iret (pc := 18) rfl (by decide) rfl rfl dX12_end_18
  · have h := g_iff c9 h
    refine g_iload_n (pc := 9) dX12_end_9 rfl 1 rfl ?_
    refine g_aload_n (pc := 10) dX12_end_10 rfl 0 rfl ?_
    refine g_getI (pc := 11) wfX12_61 rfl rfl dX12_end_11 ?_
    refine g_icmp_le (pc := 14) (tgt := 19) dX12_end_14 (by decide) (fun c10 => ?_) (fun c10 => ?_)
    · have h := g_ift c10 h
      refine g_aload_n (pc := 19) dX12_end_19 rfl 0 rfl ?_
      refine g_iload_n (pc := 20) dX12_end_20 rfl 1 rfl ?_
      obtain ⟨σ11, e12, h⟩ := g_ltd h
      refine g_putI (pc := 21) wfX12_61 rfl rfl rfl rfl e12 dX12_end_21 ?_
      refine g_iconst (pc := 24) (v := 1) dX12_end_24 (by decide) ?_
      cases h
      exact g_iret (pc := 25) rfl (by decide) rfl rfl dX12_end_25
    · have h := g_iff c10 h
      refine g_iconst (pc := 17) (v := 0) dX12_end_17 (by decide) ?_
      cases h
      exact g_iret (pc := 18) rfl (by decide) rfl rfl dX12_end_18
def fX12_here (σ : gM) : Option (Int32 × gM) := if (σ.1 0 2) ≤ (σ.1 0 3) then (some ((-1), σ)) else (if ¬ ((σ.1 0 3) < 0 ∨ 280 ≤ (σ.1 0 3).toNatClampNeg) then (some ((σ.1 1 ((σ.1 0 3).toNatClampNeg)) &&& 255, σ)) else none)
set_option maxRecDepth 100000 in
theorem kX12_here (hE : gEM l dC dI ad ca X)  (σ : gM) {r0 : Int32} {σ' : gM} (h : fX12_here σ = some (r0, σ')) : g_C l dC dI ad ca shM X yX12_here cX12_here 1 (some .int) (gR 0) [.ref 0] σ (some (.int r0)) σ' := by
  refine g_entry (by decide +kernel) (Nat.le_of_ble_eq_true rfl) ?_
  refine g_lvE (lv1 := [(0, .ref 0)]) rfl ?_
  unfold fX12_here at h
  refine g_aload_n (pc := 0) dX12_here_0 rfl 0 rfl ?_
  refine g_getI (pc := 1) wfX12_72 rfl rfl dX12_here_1 ?_
  refine g_aload_n (pc := 4) dX12_here_4 rfl 0 rfl ?_
  refine g_getI (pc := 5) wfX12_61 rfl rfl dX12_here_5 ?_
  refine g_icmp_ge (pc := 8) (tgt := 27) dX12_here_8 (by decide) (fun c3 => ?_) (fun c3 => ?_)
  · have h := g_ift c3 h
    refine g_iconst (pc := 27) (v := (-1)) dX12_here_27 (by decide) ?_
    cases h
    exact g_iret (pc := 28) rfl rfl rfl rfl dX12_here_28
  · have h := g_iff c3 h
    refine g_aload_n (pc := 11) dX12_here_11 rfl 0 rfl ?_
    refine g_getR (pc := 12) wfX12_9 rfl rfl dX12_here_12 ?_
    refine g_aload_n (pc := 15) dX12_here_15 rfl 0 rfl ?_
    refine g_getI (pc := 16) wfX12_72 rfl rfl dX12_here_16 ?_
    obtain ⟨c4, h⟩ := g_gd h
    refine g_bald (pc := 19) rfl c4 rfl dX12_here_19 ?_
    refine g_sipush (pc := 20) (v := 255) dX12_here_20 (by decide) ?_
    refine g_iand (pc := 23) dX12_here_23 ?_
    refine g_goto (pc := 24) (tgt := 28) dX12_here_24 (by decide) ?_
    cases h
    exact g_iret (pc := 28) rfl rfl rfl rfl dX12_here_28
def fX12_look_b0 (n : Nat) (K0 : gM → Option (Int32 × gM)) (σ : gM) : Option (Int32 × gM) := g_bI (fX12_here σ) (fun r12 σ11 => if r12 = 32 then (g_let (g_put σ11 0 3 ((σ11.1 0 3) + 1)) (fun σ17 => K0 σ17)) else (g_bI (fX12_here σ11) (fun r16 σ15 => some (r16, σ15))))
set_option maxRecDepth 100000 in
theorem tX12_look_b0 (hE : gEM l dC dI ad ca X) {r0 : Int32} {σ' : gM} (n : Nat) (K0 : gM → Option (Int32 × gM)) (hK0 : ∀ (σ : gM), K0 σ = some (r0, σ') → g_G l dC dI ad ca shM X cX12_look 1 RX12 (some .int) (gR 1) (some (.int r0)) σ' 0 [(0, .ref 0)] [] σ)  (σ : gM) (h : fX12_look_b0 n K0 σ = some (r0, σ')) : g_G l dC dI ad ca shM X cX12_look 1 RX12 (some .int) (gR 1) (some (.int r0)) σ' 0 [(0, .ref 0)] [] σ := by
  unfold fX12_look_b0 at h
  refine g_aload_n (pc := 0) dX12_look_0 rfl 0 rfl ?_
  obtain ⟨r12, σ11, h10, h⟩ := g_bId h
  refine g_callVi (pc := 1) (st := []) hE.1 wvX12_75 rfl rfl (kX12_here hE σ h10) rfl (gR_ok (by decide) (by decide)) (Nat.le_of_ble_eq_true rfl) rfl dX12_look_1 ?_
  refine g_bipush (pc := 4) (v := 32) dX12_look_4 (by decide) ?_
  refine g_icmp_ne (pc := 6) (tgt := 22) dX12_look_6 (by decide) (fun c13 => ?_) (fun c13 => ?_)
  · have h := g_iff c13 h
    refine g_aload_n (pc := 22) dX12_look_22 rfl 0 rfl ?_
    obtain ⟨r16, σ15, h14, h⟩ := g_bId h
    refine g_callVi (pc := 23) (st := []) hE.1 wvX12_75 rfl rfl (kX12_here hE σ11 h14) rfl (gR_ok (by decide) (by decide)) (Nat.le_of_ble_eq_true rfl) rfl dX12_look_23 ?_
    cases h
    exact g_iret (pc := 26) rfl rfl rfl rfl dX12_look_26
  · have h := g_ift c13 h
    refine g_aload_n (pc := 9) dX12_look_9 rfl 0 rfl ?_
    refine g_dup (pc := 10) dX12_look_10 rfl ?_
    refine g_getI (pc := 11) wfX12_72 rfl rfl dX12_look_11 ?_
    refine g_iconst (pc := 14) (v := 1) dX12_look_14 (by decide) ?_
    refine g_iadd (pc := 15) dX12_look_15 ?_
    obtain ⟨σ17, e18, h⟩ := g_ltd h
    refine g_putI (pc := 16) wfX12_72 rfl rfl rfl rfl e18 dX12_look_16 ?_
    refine g_goto (pc := 19) (tgt := 0) dX12_look_19 (by decide) ?_
    exact g_lv [0] rfl (hK0 σ17 h)
def fX12_look_L0 (n : Nat) : Nat → gM → Option (Int32 × gM)
  | 0 => fun _ => none
  | k + 1 => fX12_look_b0 n (fX12_look_L0 n k)
theorem tX12_look_L0 (hE : gEM l dC dI ad ca X) {r0 : Int32} {σ' : gM} (n : Nat)  : ∀ (k : Nat) (σ : gM), fX12_look_L0 n k σ = some (r0, σ') → g_G l dC dI ad ca shM X cX12_look 1 RX12 (some .int) (gR 1) (some (.int r0)) σ' 0 [(0, .ref 0)] [] σ := by
  intro k
  induction k with
  | zero => intro σ h; cases h
  | succ k ih => intro σ h; exact tX12_look_b0 hE n (fX12_look_L0 n k) ih σ h
def fX12_look (n : Nat) (σ : gM) : Option (Int32 × gM) := fX12_look_L0 n n σ
set_option maxRecDepth 100000 in
theorem kX12_look (hE : gEM l dC dI ad ca X) (n : Nat)  (σ : gM) {r0 : Int32} {σ' : gM} (h : fX12_look n σ = some (r0, σ')) : g_C l dC dI ad ca shM X yX12_look cX12_look 1 (some .int) (gR 1) [.ref 0] σ (some (.int r0)) σ' := by
  refine g_entry (by decide +kernel) (Nat.le_of_ble_eq_true rfl) ?_
  refine g_lvE (lv1 := [(0, .ref 0)]) rfl ?_
  unfold fX12_look at h
  exact g_lv [0] rfl (tX12_look_L0 hE n n σ h)
def fX12_fails (σ : gM) : Option (gM) := if (σ.1 0 4) = (-1) then (g_let (g_put σ 0 4 (σ.1 0 3)) (fun σ5 => some σ5)) else (some σ)
set_option maxRecDepth 100000 in
theorem kX12_fails (hE : gEM l dC dI ad ca X)  (σ : gM) {σ' : gM} (h : fX12_fails σ = some σ') : g_C l dC dI ad ca shM X yX12_fails cX12_fails 1 none (gR 0) [.ref 0] σ none σ' := by
  refine g_entry (by decide +kernel) (Nat.le_of_ble_eq_true rfl) ?_
  refine g_lvE (lv1 := [(0, .ref 0)]) rfl ?_
  unfold fX12_fails at h
  refine g_aload_n (pc := 0) dX12_fails_0 rfl 0 rfl ?_
  refine g_getI (pc := 1) wfX12_79 rfl rfl dX12_fails_1 ?_
  refine g_iconst (pc := 4) (v := (-1)) dX12_fails_4 (by decide) ?_
  refine g_icmp_ne (pc := 5) (tgt := 16) dX12_fails_5 (by decide) (fun c4 => ?_) (fun c4 => ?_)
  · have h := g_iff c4 h
    cases h
    exact g_vret (pc := 16) rfl rfl rfl dX12_fails_16
  · have h := g_ift c4 h
    refine g_aload_n (pc := 8) dX12_fails_8 rfl 0 rfl ?_
    refine g_aload_n (pc := 9) dX12_fails_9 rfl 0 rfl ?_
    refine g_getI (pc := 10) wfX12_72 rfl rfl dX12_fails_10 ?_
    obtain ⟨σ5, e6, h⟩ := g_ltd h
    refine g_putI (pc := 13) wfX12_79 rfl rfl rfl rfl e6 dX12_fails_13 ?_
    cases h
    exact g_vret (pc := 16) rfl rfl rfl dX12_fails_16
def fX12_isDigit (σ : gM) : Option (Int32 × gM) := g_bI (fX12_here σ) (fun r11 σ10 => if r11 < 48 then (some (0, σ10)) else (g_bI (fX12_here σ10) (fun r15 σ14 => if 57 < r15 then (some (0, σ14)) else (some (1, σ14)))))
set_option maxRecDepth 100000 in
theorem kX12_isDigit (hE : gEM l dC dI ad ca X)  (σ : gM) {r0 : Int32} {σ' : gM} (h : fX12_isDigit σ = some (r0, σ')) : g_C l dC dI ad ca shM X yX12_isDigit cX12_isDigit 1 (some .boolean) (gR 1) [.ref 0] σ (some (.int r0)) σ' := by
  refine g_entry (by decide +kernel) (Nat.le_of_ble_eq_true rfl) ?_
  refine g_lvE (lv1 := [(0, .ref 0)]) rfl ?_
  unfold fX12_isDigit at h
  refine g_aload_n (pc := 0) dX12_isDigit_0 rfl 0 rfl ?_
  obtain ⟨r11, σ10, h9, h⟩ := g_bId h
  refine g_callVi (pc := 1) (st := []) hE.1 wvX12_75 rfl rfl (kX12_here hE σ h9) rfl (gR_ok (by decide) (by decide)) (Nat.le_of_ble_eq_true rfl) rfl dX12_isDigit_1 ?_
  refine g_bipush (pc := 4) (v := 48) dX12_isDigit_4 (by decide) ?_
  refine g_icmp_lt (pc := 6) (tgt := 22) dX12_isDigit_6 (by decide) (fun c12 => ?_) (fun c12 => ?_)
  · have h := g_ift c12 h
    refine g_iconst (pc := 22) (v := 0) dX12_isDigit_22 (by decide) ?_
    cases h
    exact g_iret (pc := 23) rfl (by decide) rfl rfl dX12_isDigit_23
  · have h := g_iff c12 h
    refine g_aload_n (pc := 9) dX12_isDigit_9 rfl 0 rfl ?_
    obtain ⟨r15, σ14, h13, h⟩ := g_bId h
    refine g_callVi (pc := 10) (st := []) hE.1 wvX12_75 rfl rfl (kX12_here hE σ10 h13) rfl (gR_ok (by decide) (by decide)) (Nat.le_of_ble_eq_true rfl) rfl dX12_isDigit_10 ?_
    refine g_bipush (pc := 13) (v := 57) dX12_isDigit_13 (by decide) ?_
    refine g_icmp_gt (pc := 15) (tgt := 22) dX12_isDigit_15 (by decide) (fun c16 => ?_) (fun c16 => ?_)
    · have h := g_ift c16 h
      refine g_iconst (pc := 22) (v := 0) dX12_isDigit_22 (by decide) ?_
      cases h
      exact g_iret (pc := 23) rfl (by decide) rfl rfl dX12_isDigit_23
    · have h := g_iff c16 h
      refine g_iconst (pc := 18) (v := 1) dX12_isDigit_18 (by decide) ?_
      refine g_goto (pc := 19) (tgt := 23) dX12_isDigit_19 (by decide) ?_
      cases h
      exact g_iret (pc := 23) rfl (by decide) rfl rfl dX12_isDigit_23
def fX12_digit_b20 (n : Nat) (σ : gM) : Option (Int32 × gM) := g_bV (fX12_fails σ) (fun σ14 => some (0, σ14))
set_option maxRecDepth 100000 in
theorem tX12_digit_b20 (hE : gEM l dC dI ad ca X) {r0 : Int32} {σ' : gM} (n : Nat)  (σ : gM) (h : fX12_digit_b20 n σ = some (r0, σ')) : g_G l dC dI ad ca shM X cX12_digit 2 RX12 (some .int) (gR 2) (some (.int r0)) σ' 20 [(0, .ref 0)] [] σ := by
  unfold fX12_digit_b20 at h
  refine g_aload_n (pc := 20) dX12_digit_20 rfl 0 rfl ?_
  obtain ⟨σ14, h13, h⟩ := g_bVd h
  refine g_callVv (pc := 21) (st := []) hE.1 wvX12_89 rfl rfl (kX12_fails hE σ h13) rfl (gR_ok (by decide) (by decide)) (Nat.le_of_ble_eq_true rfl) rfl dX12_digit_21 ?_
  refine g_iconst (pc := 24) (v := 0) dX12_digit_24 (by decide) ?_
  cases h
  exact g_iret (pc := 25) rfl rfl rfl rfl dX12_digit_25
def fX12_digit (n : Nat) (σ : gM) : Option (Int32 × gM) := g_bI (fX12_look n σ) (fun r17 σ16 => if (σ16.1 0 4) = (-1) then (g_bI (fX12_isDigit σ16) (fun r21 σ20 => if r21 = 0 then (fX12_digit_b20 n σ20) else (g_let (g_put σ20 0 3 ((σ20.1 0 3) + 1)) (fun σ23 => some (r17 - 48, σ23))))) else (fX12_digit_b20 n σ16))
set_option maxRecDepth 100000 in
theorem kX12_digit (hE : gEM l dC dI ad ca X) (n : Nat)  (σ : gM) {r0 : Int32} {σ' : gM} (h : fX12_digit n σ = some (r0, σ')) : g_C l dC dI ad ca shM X yX12_digit cX12_digit 2 (some .int) (gR 2) [.ref 0] σ (some (.int r0)) σ' := by
  refine g_entry (by decide +kernel) (Nat.le_of_ble_eq_true rfl) ?_
  refine g_lvE (lv1 := [(0, .ref 0)]) rfl ?_
  unfold fX12_digit at h
  refine g_aload_n (pc := 0) dX12_digit_0 rfl 0 rfl ?_
  obtain ⟨r17, σ16, h15, h⟩ := g_bId h
  refine g_callVi (pc := 1) (st := []) hE.1 wvX12_82 rfl rfl (kX12_look hE n σ h15) rfl (gR_ok (by decide) (by decide)) (Nat.le_of_ble_eq_true rfl) rfl dX12_digit_1 ?_
  refine g_istore_n (pc := 4) (lv1 := [(1, .int r17), (0, .ref 0)]) dX12_digit_4 rfl (by decide) rfl ?_
  refine g_aload_n (pc := 5) dX12_digit_5 rfl 1 rfl ?_
  refine g_getI (pc := 6) wfX12_79 rfl rfl dX12_digit_6 ?_
  refine g_iconst (pc := 9) (v := (-1)) dX12_digit_9 (by decide) ?_
  refine g_icmp_ne (pc := 10) (tgt := 20) dX12_digit_10 (by decide) (fun c18 => ?_) (fun c18 => ?_)
  · have h := g_iff c18 h
    exact g_lv [1] rfl (tX12_digit_b20 hE n σ16 h)
  · have h := g_ift c18 h
    refine g_aload_n (pc := 13) dX12_digit_13 rfl 1 rfl ?_
    obtain ⟨r21, σ20, h19, h⟩ := g_bId h
    refine g_callVi (pc := 14) (st := []) hE.1 wvX12_85 rfl rfl (kX12_isDigit hE σ16 h19) rfl (gR_ok (by decide) (by decide)) (Nat.le_of_ble_eq_true rfl) rfl dX12_digit_14 ?_
    refine g_if_ne (pc := 17) (tgt := 26) dX12_digit_17 (by decide) (fun c22 => ?_) (fun c22 => ?_)
    · have h := g_iff c22 h
      refine g_aload_n (pc := 26) dX12_digit_26 rfl 1 rfl ?_
      refine g_dup (pc := 27) dX12_digit_27 rfl ?_
      refine g_getI (pc := 28) wfX12_72 rfl rfl dX12_digit_28 ?_
      refine g_iconst (pc := 31) (v := 1) dX12_digit_31 (by decide) ?_
      refine g_iadd (pc := 32) dX12_digit_32 ?_
      obtain ⟨σ23, e24, h⟩ := g_ltd h
      refine g_putI (pc := 33) wfX12_72 rfl rfl rfl rfl e24 dX12_digit_33 ?_
      refine g_iload_n (pc := 36) dX12_digit_36 rfl 0 rfl ?_
      refine g_bipush (pc := 37) (v := 48) dX12_digit_37 (by decide) ?_
      refine g_isub (pc := 39) dX12_digit_39 ?_
      cases h
      exact g_iret (pc := 40) rfl rfl rfl rfl dX12_digit_40
    · have h := g_ift c22 h
      exact g_lv [1] rfl (tX12_digit_b20 hE n σ20 h)
def fX12_number_b62 (n : Nat) (v1 : Int32) (σ : gM) : Option (Int32 × gM) := some (v1, σ)
set_option maxRecDepth 100000 in
theorem tX12_number_b62 (hE : gEM l dC dI ad ca X) {r0 : Int32} {σ' : gM} (n : Nat) (v1 : Int32)  (σ : gM) (h : fX12_number_b62 n v1 σ = some (r0, σ')) : g_G l dC dI ad ca shM X cX12_number 3 RX12 (some .int) (gR 3) (some (.int r0)) σ' 62 [(1, .int v1)] [] σ := by
  unfold fX12_number_b62 at h
  refine g_iload_n (pc := 62) dX12_number_62 rfl 0 rfl ?_
  cases h
  exact g_iret (pc := 63) rfl rfl rfl rfl dX12_number_63
def fX12_number_b43 (n : Nat) (v1 : Int32) (σ : gM) : Option (Int32 × gM) := if (σ.1 0 4) = (-1) then (g_bI (fX12_isDigit σ) (fun r23 σ22 => if r23 = 0 then (fX12_number_b62 n v1 σ22) else (g_bV (fX12_fails σ22) (fun σ26 => fX12_number_b62 n v1 σ26)))) else (fX12_number_b62 n v1 σ)
set_option maxRecDepth 100000 in
theorem tX12_number_b43 (hE : gEM l dC dI ad ca X) {r0 : Int32} {σ' : gM} (n : Nat) (v1 : Int32)  (σ : gM) (h : fX12_number_b43 n v1 σ = some (r0, σ')) : g_G l dC dI ad ca shM X cX12_number 3 RX12 (some .int) (gR 3) (some (.int r0)) σ' 43 [(0, .ref 0), (1, .int v1)] [] σ := by
  unfold fX12_number_b43 at h
  refine g_aload_n (pc := 43) dX12_number_43 rfl 0 rfl ?_
  refine g_getI (pc := 44) wfX12_79 rfl rfl dX12_number_44 ?_
  refine g_iconst (pc := 47) (v := (-1)) dX12_number_47 (by decide) ?_
  refine g_icmp_ne (pc := 48) (tgt := 62) dX12_number_48 (by decide) (fun c20 => ?_) (fun c20 => ?_)
  · have h := g_iff c20 h
    exact g_lv [1] rfl (tX12_number_b62 hE n v1 σ h)
  · have h := g_ift c20 h
    refine g_aload_n (pc := 51) dX12_number_51 rfl 0 rfl ?_
    obtain ⟨r23, σ22, h21, h⟩ := g_bId h
    refine g_callVi (pc := 52) (st := []) hE.1 wvX12_85 rfl rfl (kX12_isDigit hE σ h21) rfl (gR_ok (by decide) (by decide)) (Nat.le_of_ble_eq_true rfl) rfl dX12_number_52 ?_
    refine g_if_eq (pc := 55) (tgt := 62) dX12_number_55 (by decide) (fun c24 => ?_) (fun c24 => ?_)
    · have h := g_ift c24 h
      exact g_lv [1] rfl (tX12_number_b62 hE n v1 σ22 h)
    · have h := g_iff c24 h
      refine g_aload_n (pc := 58) dX12_number_58 rfl 0 rfl ?_
      obtain ⟨σ26, h25, h⟩ := g_bVd h
      refine g_callVv (pc := 59) (st := []) hE.1 wvX12_89 rfl rfl (kX12_fails hE σ22 h25) rfl (gR_ok (by decide) (by decide)) (Nat.le_of_ble_eq_true rfl) rfl dX12_number_59 ?_
      exact g_lv [1] rfl (tX12_number_b62 hE n v1 σ26 h)
def fX12_number_b7 (n : Nat) (K7 : Int32 → Int32 → gM → Option (Int32 × gM)) (v1 : Int32) (v2 : Int32) (σ : gM) : Option (Int32 × gM) := if 3 ≤ v2 then (fX12_number_b43 n v1 σ) else (if (σ.1 0 4) = (-1) then (g_bI (fX12_isDigit σ) (fun r31 σ30 => if r31 = 0 then (fX12_number_b43 n v1 σ30) else (g_bI (fX12_digit n σ30) (fun r35 σ34 => K7 ((10 * v1) + r35) (v2 + 1) σ34)))) else (fX12_number_b43 n v1 σ))
set_option maxRecDepth 100000 in
theorem tX12_number_b7 (hE : gEM l dC dI ad ca X) {r0 : Int32} {σ' : gM} (n : Nat) (K7 : Int32 → Int32 → gM → Option (Int32 × gM)) (hK7 : ∀ (v1 : Int32) (v2 : Int32) (σ : gM), K7 v1 v2 σ = some (r0, σ') → g_G l dC dI ad ca shM X cX12_number 3 RX12 (some .int) (gR 3) (some (.int r0)) σ' 7 [(0, .ref 0), (1, .int v1), (2, .int v2)] [] σ) (v1 : Int32) (v2 : Int32)  (σ : gM) (h : fX12_number_b7 n K7 v1 v2 σ = some (r0, σ')) : g_G l dC dI ad ca shM X cX12_number 3 RX12 (some .int) (gR 3) (some (.int r0)) σ' 7 [(0, .ref 0), (1, .int v1), (2, .int v2)] [] σ := by
  unfold fX12_number_b7 at h
  refine g_iload_n (pc := 7) dX12_number_7 rfl 2 rfl ?_
  refine g_iconst (pc := 8) (v := 3) dX12_number_8 (by decide) ?_
  refine g_icmp_ge (pc := 9) (tgt := 43) dX12_number_9 (by decide) (fun c27 => ?_) (fun c27 => ?_)
  · have h := g_ift c27 h
    exact g_lv [0, 1] rfl (tX12_number_b43 hE n v1 σ h)
  · have h := g_iff c27 h
    refine g_aload_n (pc := 12) dX12_number_12 rfl 0 rfl ?_
    refine g_getI (pc := 13) wfX12_79 rfl rfl dX12_number_13 ?_
    refine g_iconst (pc := 16) (v := (-1)) dX12_number_16 (by decide) ?_
    refine g_icmp_ne (pc := 17) (tgt := 43) dX12_number_17 (by decide) (fun c28 => ?_) (fun c28 => ?_)
    · have h := g_iff c28 h
      exact g_lv [0, 1] rfl (tX12_number_b43 hE n v1 σ h)
    · have h := g_ift c28 h
      refine g_aload_n (pc := 20) dX12_number_20 rfl 0 rfl ?_
      obtain ⟨r31, σ30, h29, h⟩ := g_bId h
      refine g_callVi (pc := 21) (st := []) hE.1 wvX12_85 rfl rfl (kX12_isDigit hE σ h29) rfl (gR_ok (by decide) (by decide)) (Nat.le_of_ble_eq_true rfl) rfl dX12_number_21 ?_
      refine g_if_eq (pc := 24) (tgt := 43) dX12_number_24 (by decide) (fun c32 => ?_) (fun c32 => ?_)
      · have h := g_ift c32 h
        exact g_lv [0, 1] rfl (tX12_number_b43 hE n v1 σ30 h)
      · have h := g_iff c32 h
        refine g_bipush (pc := 27) (v := 10) dX12_number_27 (by decide) ?_
        refine g_iload_n (pc := 29) dX12_number_29 rfl 1 rfl ?_
        refine g_imul (pc := 30) dX12_number_30 ?_
        refine g_aload_n (pc := 31) dX12_number_31 rfl 0 rfl ?_
        obtain ⟨r35, σ34, h33, h⟩ := g_bId h
        refine g_callVi (pc := 32) (st := [.int (10 * v1)]) hE.1 wvX12_92 rfl rfl (kX12_digit hE n σ30 h33) rfl (gR_ok (by decide) (by decide)) (Nat.le_of_ble_eq_true rfl) rfl dX12_number_32 ?_
        refine g_iadd (pc := 35) dX12_number_35 ?_
        refine g_istore_n (pc := 36) (lv1 := [(1, .int ((10 * v1) + r35)), (0, .ref 0), (2, .int v2)]) dX12_number_36 rfl (by decide) rfl ?_
        refine g_iinc (pc := 37) (v := v2 + 1) (lv1 := [(2, .int (v2 + 1)), (1, .int ((10 * v1) + r35)), (0, .ref 0)]) dX12_number_37 2 rfl rfl (by decide) rfl ?_
        refine g_goto (pc := 40) (tgt := 7) dX12_number_40 (by decide) ?_
        exact g_lv [2, 1, 0] rfl (hK7 ((10 * v1) + r35) (v2 + 1) σ34 h)
def fX12_number_L7 (n : Nat) : Nat → Int32 → Int32 → gM → Option (Int32 × gM)
  | 0 => fun _ _ _ => none
  | k + 1 => fX12_number_b7 n (fX12_number_L7 n k)
theorem tX12_number_L7 (hE : gEM l dC dI ad ca X) {r0 : Int32} {σ' : gM} (n : Nat)  : ∀ (k : Nat) (v1 : Int32) (v2 : Int32) (σ : gM), fX12_number_L7 n k v1 v2 σ = some (r0, σ') → g_G l dC dI ad ca shM X cX12_number 3 RX12 (some .int) (gR 3) (some (.int r0)) σ' 7 [(0, .ref 0), (1, .int v1), (2, .int v2)] [] σ := by
  intro k
  induction k with
  | zero => intro v1 v2 σ h; cases h
  | succ k ih => intro v1 v2 σ h; exact tX12_number_b7 hE n (fX12_number_L7 n k) ih v1 v2 σ h
def fX12_number (n : Nat) (σ : gM) : Option (Int32 × gM) := g_bI (fX12_digit n σ) (fun r38 σ37 => fX12_number_L7 n n r38 1 σ37)
set_option maxRecDepth 100000 in
theorem kX12_number (hE : gEM l dC dI ad ca X) (n : Nat)  (σ : gM) {r0 : Int32} {σ' : gM} (h : fX12_number n σ = some (r0, σ')) : g_C l dC dI ad ca shM X yX12_number cX12_number 3 (some .int) (gR 3) [.ref 0] σ (some (.int r0)) σ' := by
  refine g_entry (by decide +kernel) (Nat.le_of_ble_eq_true rfl) ?_
  refine g_lvE (lv1 := [(0, .ref 0)]) rfl ?_
  unfold fX12_number at h
  refine g_aload_n (pc := 0) dX12_number_0 rfl 0 rfl ?_
  obtain ⟨r38, σ37, h36, h⟩ := g_bId h
  refine g_callVi (pc := 1) (st := []) hE.1 wvX12_92 rfl rfl (kX12_digit hE n σ h36) rfl (gR_ok (by decide) (by decide)) (Nat.le_of_ble_eq_true rfl) rfl dX12_number_1 ?_
  refine g_istore_n (pc := 4) (lv1 := [(1, .int r38), (0, .ref 0)]) dX12_number_4 rfl (by decide) rfl ?_
  refine g_iconst (pc := 5) (v := 1) dX12_number_5 (by decide) ?_
  refine g_istore_n (pc := 6) (lv1 := [(2, .int 1), (1, .int r38), (0, .ref 0)]) dX12_number_6 rfl (by decide) rfl ?_
  exact g_lv [2, 1, 0] rfl (tX12_number_L7 hE n n r38 1 σ37 h)
def fX12_spotOf_b2 (n : Nat) (s : Nat) (K2 : Int32 → Int32 → gM → Option (Int32 × gM)) (v1 : Int32) (v2 : Int32) (σ : gM) : Option (Int32 × gM) := if (nI (mTx s).length) ≤ v2 then (some ((-1), σ)) else (if ¬ (v2 < 0 ∨ (mTx s).length ≤ v2.toNatClampNeg) then (if ((mTx s).getD v2.toNatClampNeg 0) = v1 then (some (v2, σ)) else (K2 v1 (v2 + 1) σ)) else none)
set_option maxRecDepth 100000 in
theorem tX12_spotOf_b2 (hE : gEM l dC dI ad ca X) {r0 : Int32} {σ' : gM} (n : Nat) (s : Nat) (hs : s < 3) (K2 : Int32 → Int32 → gM → Option (Int32 × gM)) (hK2 : ∀ (v1 : Int32) (v2 : Int32) (σ : gM), K2 v1 v2 σ = some (r0, σ') → g_G l dC dI ad ca shM X cX12_spotOf 3 RX12 (some .int) (gR 6) (some (.int r0)) σ' 2 [(0, .ref (1000 + s)), (1, .int v1), (2, .int v2)] [] σ) (v1 : Int32) (v2 : Int32)  (σ : gM) (h : fX12_spotOf_b2 n s K2 v1 v2 σ = some (r0, σ')) : g_G l dC dI ad ca shM X cX12_spotOf 3 RX12 (some .int) (gR 6) (some (.int r0)) σ' 2 [(0, .ref (1000 + s)), (1, .int v1), (2, .int v2)] [] σ := by
  unfold fX12_spotOf_b2 at h
  refine g_iload_n (pc := 2) dX12_spotOf_2 rfl 2 rfl ?_
  refine g_aload_n (pc := 3) dX12_spotOf_3 rfl 0 rfl ?_
  refine g_callVXi (pc := 4) (st := [.int v2]) hE.1 wvX12_95 (mrA hE s hs) (hE.2.2.1 s σ hs) rfl (gR_ok (by decide) (by decide)) (Nat.le_of_ble_eq_true rfl) rfl dX12_spotOf_4 ?_
  refine g_icmp_ge (pc := 7) (tgt := 27) dX12_spotOf_7 (by decide) (fun c4 => ?_) (fun c4 => ?_)
  · have h := g_ift c4 h
    refine g_iconst (pc := 27) (v := (-1)) dX12_spotOf_27 (by decide) ?_
    cases h
    exact g_iret (pc := 28) rfl rfl rfl rfl dX12_spotOf_28
  · have h := g_iff c4 h
    refine g_aload_n (pc := 10) dX12_spotOf_10 rfl 0 rfl ?_
    refine g_iload_n (pc := 11) dX12_spotOf_11 rfl 2 rfl ?_
    obtain ⟨c5, h⟩ := g_gd h
    refine g_callVXi (pc := 12) (st := []) hE.1 wvX12_99 (mrA hE s hs) (hE.2.2.2 s v2.toNatClampNeg v2 σ hs (g_ltc c5) (g_nIc c5)) rfl (gR_ok (by decide) (by decide)) (Nat.le_of_ble_eq_true rfl) rfl dX12_spotOf_12 ?_
    refine g_iload_n (pc := 15) dX12_spotOf_15 rfl 1 rfl ?_
    refine g_icmp_ne (pc := 16) (tgt := 21) dX12_spotOf_16 (by decide) (fun c6 => ?_) (fun c6 => ?_)
    · have h := g_iff c6 h
      refine g_iinc (pc := 21) (v := v2 + 1) (lv1 := [(2, .int (v2 + 1)), (0, .ref (1000 + s)), (1, .int v1)]) dX12_spotOf_21 2 rfl rfl (by decide) rfl ?_
      refine g_goto (pc := 24) (tgt := 2) dX12_spotOf_24 (by decide) ?_
      exact g_lv [1, 2, 0] rfl (hK2 v1 (v2 + 1) σ h)
    · have h := g_ift c6 h
      refine g_iload_n (pc := 19) dX12_spotOf_19 rfl 2 rfl ?_
      cases h
      exact g_iret (pc := 20) rfl rfl rfl rfl dX12_spotOf_20
def fX12_spotOf_L2 (n : Nat) (s : Nat) : Nat → Int32 → Int32 → gM → Option (Int32 × gM)
  | 0 => fun _ _ _ => none
  | k + 1 => fX12_spotOf_b2 n s (fX12_spotOf_L2 n s k)
theorem tX12_spotOf_L2 (hE : gEM l dC dI ad ca X) {r0 : Int32} {σ' : gM} (n : Nat) (s : Nat) (hs : s < 3)  : ∀ (k : Nat) (v1 : Int32) (v2 : Int32) (σ : gM), fX12_spotOf_L2 n s k v1 v2 σ = some (r0, σ') → g_G l dC dI ad ca shM X cX12_spotOf 3 RX12 (some .int) (gR 6) (some (.int r0)) σ' 2 [(0, .ref (1000 + s)), (1, .int v1), (2, .int v2)] [] σ := by
  intro k
  induction k with
  | zero => intro v1 v2 σ h; cases h
  | succ k ih => intro v1 v2 σ h; exact tX12_spotOf_b2 hE n s hs (fX12_spotOf_L2 n s k) ih v1 v2 σ h
def fX12_spotOf (n : Nat) (s : Nat) (v1 : Int32) (σ : gM) : Option (Int32 × gM) := fX12_spotOf_L2 n s n v1 0 σ
set_option maxRecDepth 100000 in
theorem kX12_spotOf (hE : gEM l dC dI ad ca X) (n : Nat) (s : Nat) (hs : s < 3)  (v1 : Int32) (σ : gM) {r0 : Int32} {σ' : gM} (h : fX12_spotOf n s v1 σ = some (r0, σ')) : g_C l dC dI ad ca shM X yX12_spotOf cX12_spotOf 3 (some .int) (gR 6) [.ref (1000 + s), .int v1] σ (some (.int r0)) σ' := by
  refine g_entry (by decide +kernel) (Nat.le_of_ble_eq_true rfl) ?_
  refine g_lvE (lv1 := [(0, .ref (1000 + s)), (1, .int v1)]) rfl ?_
  unfold fX12_spotOf at h
  refine g_iconst (pc := 0) (v := 0) dX12_spotOf_0 (by decide) ?_
  refine g_istore_n (pc := 1) (lv1 := [(2, .int 0), (0, .ref (1000 + s)), (1, .int v1)]) dX12_spotOf_1 rfl (by decide) rfl ?_
  exact g_lv [1, 2, 0] rfl (tX12_spotOf_L2 hE n s hs n v1 0 σ h)
def fX12_leastOf (v0 : Int32) (v1 : Int32) (σ : gM) : Option (Int32 × gM) := if v0 = 0 then (some (0, σ)) else (if 3 ≤ v1 then (some (0, σ)) else (if v1 = 0 then (some (2, σ)) else (some (1, σ))))
set_option maxRecDepth 100000 in
theorem kX12_leastOf (hE : gEM l dC dI ad ca X)  (v0 : Int32) (v1 : Int32) (σ : gM) {r0 : Int32} {σ' : gM} (h : fX12_leastOf v0 v1 σ = some (r0, σ')) : g_C l dC dI ad ca shM X yX12_leastOf cX12_leastOf 2 (some .int) (gR 0) [.int v0, .int v1] σ (some (.int r0)) σ' := by
  refine g_entry (by decide +kernel) (Nat.le_of_ble_eq_true rfl) ?_
  refine g_lvE (lv1 := [(0, .int v0), (1, .int v1)]) rfl ?_
  unfold fX12_leastOf at h
  refine g_iload_n (pc := 0) dX12_leastOf_0 rfl 0 rfl ?_
  refine g_if_eq (pc := 1) (tgt := 21) dX12_leastOf_1 (by decide) (fun c4 => ?_) (fun c4 => ?_)
  · have h := g_ift c4 h
    refine g_iconst (pc := 21) (v := 0) dX12_leastOf_21 (by decide) ?_
    cases h
    exact g_iret (pc := 22) rfl rfl rfl rfl dX12_leastOf_22
  · have h := g_iff c4 h
    refine g_iload_n (pc := 4) dX12_leastOf_4 rfl 1 rfl ?_
    refine g_iconst (pc := 5) (v := 3) dX12_leastOf_5 (by decide) ?_
    refine g_icmp_ge (pc := 6) (tgt := 21) dX12_leastOf_6 (by decide) (fun c5 => ?_) (fun c5 => ?_)
    · have h := g_ift c5 h
      refine g_iconst (pc := 21) (v := 0) dX12_leastOf_21 (by decide) ?_
      cases h
      exact g_iret (pc := 22) rfl rfl rfl rfl dX12_leastOf_22
    · have h := g_iff c5 h
      refine g_iload_n (pc := 9) dX12_leastOf_9 rfl 1 rfl ?_
      refine g_if_ne (pc := 10) (tgt := 17) dX12_leastOf_10 (by decide) (fun c6 => ?_) (fun c6 => ?_)
      · have h := g_iff c6 h
        refine g_iconst (pc := 17) (v := 1) dX12_leastOf_17 (by decide) ?_
        refine g_goto (pc := 18) (tgt := 22) dX12_leastOf_18 (by decide) ?_
        cases h
        exact g_iret (pc := 22) rfl rfl rfl rfl dX12_leastOf_22
      · have h := g_ift c6 h
        refine g_iconst (pc := 13) (v := 2) dX12_leastOf_13 (by decide) ?_
        refine g_goto (pc := 14) (tgt := 22) dX12_leastOf_14 (by decide) ?_
        cases h
        exact g_iret (pc := 22) rfl rfl rfl rfl dX12_leastOf_22
def fX12_mostOf (v0 : Int32) (v1 : Int32) (σ : gM) : Option (Int32 × gM) := if v1 = 0 then (if v0 = 0 then (some (287, σ)) else (some (6, σ))) else (if v1 = 1 then (if v0 = 0 then (some (255, σ)) else (some (12, σ))) else (if v1 = 2 then (some (4, σ)) else (if v1 = 3 then (some (3, σ)) else (some (9, σ)))))
set_option maxRecDepth 100000 in
theorem kX12_mostOf (hE : gEM l dC dI ad ca X)  (v0 : Int32) (v1 : Int32) (σ : gM) {r0 : Int32} {σ' : gM} (h : fX12_mostOf v0 v1 σ = some (r0, σ')) : g_C l dC dI ad ca shM X yX12_mostOf cX12_mostOf 2 (some .int) (gR 0) [.int v0, .int v1] σ (some (.int r0)) σ' := by
  refine g_entry (by decide +kernel) (Nat.le_of_ble_eq_true rfl) ?_
  refine g_lvE (lv1 := [(0, .int v0), (1, .int v1)]) rfl ?_
  unfold fX12_mostOf at h
  refine g_iload_n (pc := 0) dX12_mostOf_0 rfl 1 rfl ?_
  by_cases c8 : v1 = 0
  · have h := g_ift c8 h
    refine g_tabIn (pc := 1) (tgt := 32) (off := 31) dX12_mostOf_1 (by rw [c8]; decide) (by rw [c8]; decide) (by rw [c8]; decide) (by decide) ?_
    refine g_iload_n (pc := 32) dX12_mostOf_32 rfl 0 rfl ?_
    refine g_if_eq (pc := 33) (tgt := 41) dX12_mostOf_33 (by decide) (fun c9 => ?_) (fun c9 => ?_)
    · have h := g_ift c9 h
      refine g_sipush (pc := 41) (v := 287) dX12_mostOf_41 (by decide) ?_
      cases h
      exact g_iret (pc := 44) rfl rfl rfl rfl dX12_mostOf_44
    · have h := g_iff c9 h
      refine g_bipush (pc := 36) (v := 6) dX12_mostOf_36 (by decide) ?_
      refine g_goto (pc := 38) (tgt := 44) dX12_mostOf_38 (by decide) ?_
      cases h
      exact g_iret (pc := 44) rfl rfl rfl rfl dX12_mostOf_44
  have h := g_iff c8 h
  by_cases c10 : v1 = 1
  · have h := g_ift c10 h
    refine g_tabIn (pc := 1) (tgt := 45) (off := 44) dX12_mostOf_1 (by rw [c10]; decide) (by rw [c10]; decide) (by rw [c10]; decide) (by decide) ?_
    refine g_iload_n (pc := 45) dX12_mostOf_45 rfl 0 rfl ?_
    refine g_if_eq (pc := 46) (tgt := 54) dX12_mostOf_46 (by decide) (fun c11 => ?_) (fun c11 => ?_)
    · have h := g_ift c11 h
      refine g_sipush (pc := 54) (v := 255) dX12_mostOf_54 (by decide) ?_
      cases h
      exact g_iret (pc := 57) rfl rfl rfl rfl dX12_mostOf_57
    · have h := g_iff c11 h
      refine g_bipush (pc := 49) (v := 12) dX12_mostOf_49 (by decide) ?_
      refine g_goto (pc := 51) (tgt := 57) dX12_mostOf_51 (by decide) ?_
      cases h
      exact g_iret (pc := 57) rfl rfl rfl rfl dX12_mostOf_57
  have h := g_iff c10 h
  by_cases c12 : v1 = 2
  · have h := g_ift c12 h
    refine g_tabIn (pc := 1) (tgt := 58) (off := 57) dX12_mostOf_1 (by rw [c12]; decide) (by rw [c12]; decide) (by rw [c12]; decide) (by decide) ?_
    refine g_iconst (pc := 58) (v := 4) dX12_mostOf_58 (by decide) ?_
    cases h
    exact g_iret (pc := 59) rfl rfl rfl rfl dX12_mostOf_59
  have h := g_iff c12 h
  by_cases c13 : v1 = 3
  · have h := g_ift c13 h
    refine g_tabIn (pc := 1) (tgt := 60) (off := 59) dX12_mostOf_1 (by rw [c13]; decide) (by rw [c13]; decide) (by rw [c13]; decide) (by decide) ?_
    refine g_iconst (pc := 60) (v := 3) dX12_mostOf_60 (by decide) ?_
    cases h
    exact g_iret (pc := 61) rfl rfl rfl rfl dX12_mostOf_61
  have h := g_iff c13 h
  have u14 : (v1).toInt < 0 ∨ 3 < (v1).toInt := by
    have ec8 := g_toInt c8
    have ec10 := g_toInt c10
    have ec12 := g_toInt c12
    have ec13 := g_toInt c13
    rw [show (0 : Int32).toInt = 0 from by decide] at ec8
    rw [show (1 : Int32).toInt = 1 from by decide] at ec10
    rw [show (2 : Int32).toInt = 2 from by decide] at ec12
    rw [show (3 : Int32).toInt = 3 from by decide] at ec13
    omega
  refine g_tabOut (pc := 1) (tgt := 62) dX12_mostOf_1 u14 (by decide) ?_
  refine g_bipush (pc := 62) (v := 9) dX12_mostOf_62 (by decide) ?_
  cases h
  exact g_iret (pc := 64) rfl rfl rfl rfl dX12_mostOf_64
def fX12_items_b28 (n : Nat) (w : Nat) (nw : Nat) (s : Nat) (K28 : Int32 → Int32 → Int32 → Int32 → gM → Option (gM)) (v2 : Int32) (v4 : Int32) (v5 : Int32) (v6 : Int32) (σ : gM) : Option (gM) := if v6 = (-1) then (some σ) else (if ((v5 >>> (v6 &&& 31)) &&& 1) = 1 then (g_bV (fX12_fails σ) (fun σ75 => some σ75)) else (g_let (g_put σ 0 3 ((σ.1 0 3) + 1)) (fun σ44 => g_bI (fX12_number n σ44) (fun r48 σ47 => if ¬ ((v2 + v6) < 0 ∨ nw ≤ (v2 + v6).toNatClampNeg) then (g_let (g_put σ47 w ((v2 + v6).toNatClampNeg) r48) (fun σ50 => if (σ50.1 0 4) = (-1) then (if ¬ ((v2 + v6) < 0 ∨ nw ≤ (v2 + v6).toNatClampNeg) then (g_bI (fX12_leastOf v4 v6 σ50) (fun r56 σ55 => g_bI (fX12_mostOf v4 v6 σ55) (fun r59 σ58 => g_bI (fX12_isIn ((σ50.1 w ((v2 + v6).toNatClampNeg)).toInt64) r56.toInt64 r59.toInt64 σ58) (fun r62 σ61 => if r62 = 0 then (g_let (g_put σ61 0 3 ((σ61.1 0 3) - 1)) (fun σ70 => g_bV (fX12_fails σ70) (fun σ73 => some σ73))) else (g_bI (fX12_look n σ61) (fun r66 σ65 => g_bI (fX12_spotOf n s r66 σ65) (fun r69 σ68 => K28 v2 v4 (v5 ||| (1 <<< (v6 &&& 31))) r69 σ68))))))) else none) else (some σ50))) else none))))
set_option maxRecDepth 100000 in
theorem tX12_items_b28 (hE : gEM l dC dI ad ca X) {σ' : gM} (n : Nat) (w : Nat) (nw : Nat) (hw : shM[w]? = some (.inl (.int, nw))) (s : Nat) (hs : s < 3) (K28 : Int32 → Int32 → Int32 → Int32 → gM → Option (gM)) (hK28 : ∀ (v2 : Int32) (v4 : Int32) (v5 : Int32) (v6 : Int32) (σ : gM), K28 v2 v4 v5 v6 σ = some σ' → g_G l dC dI ad ca shM X cX12_items 7 RX12 none (gR 7) none σ' 28 [(0, .ref 0), (1, .ref w), (2, .int v2), (3, .ref (1000 + s)), (4, .int v4), (5, .int v5), (6, .int v6)] [] σ) (v2 : Int32) (v4 : Int32) (v5 : Int32) (v6 : Int32)  (σ : gM) (h : fX12_items_b28 n w nw s K28 v2 v4 v5 v6 σ = some σ') : g_G l dC dI ad ca shM X cX12_items 7 RX12 none (gR 7) none σ' 28 [(0, .ref 0), (1, .ref w), (2, .int v2), (3, .ref (1000 + s)), (4, .int v4), (5, .int v5), (6, .int v6)] [] σ := by
  unfold fX12_items_b28 at h
  refine g_iload (pc := 28) dX12_items_28 6 rfl ?_
  refine g_iconst (pc := 30) (v := (-1)) dX12_items_30 (by decide) ?_
  refine g_icmp_eq (pc := 31) (tgt := 145) dX12_items_31 (by decide) (fun c42 => ?_) (fun c42 => ?_)
  · have h := g_ift c42 h
    cases h
    exact g_vret (pc := 145) rfl rfl rfl dX12_items_145
  · have h := g_iff c42 h
    refine g_iload (pc := 34) dX12_items_34 5 rfl ?_
    refine g_iload (pc := 36) dX12_items_36 6 rfl ?_
    refine g_ishr (pc := 38) dX12_items_38 ?_
    refine g_iconst (pc := 39) (v := 1) dX12_items_39 (by decide) ?_
    refine g_iand (pc := 40) dX12_items_40 ?_
    refine g_iconst (pc := 41) (v := 1) dX12_items_41 (by decide) ?_
    refine g_icmp_ne (pc := 42) (tgt := 50) dX12_items_42 (by decide) (fun c43 => ?_) (fun c43 => ?_)
    · have h := g_iff c43 h
      refine g_iload (pc := 50) dX12_items_50 5 rfl ?_
      refine g_iconst (pc := 52) (v := 1) dX12_items_52 (by decide) ?_
      refine g_iload (pc := 53) dX12_items_53 6 rfl ?_
      refine g_ishl (pc := 55) dX12_items_55 ?_
      refine g_ior (pc := 56) dX12_items_56 ?_
      refine g_istore (pc := 57) (lv1 := [(5, .int (v5 ||| (1 <<< (v6 &&& 31)))), (0, .ref 0), (1, .ref w), (2, .int v2), (3, .ref (1000 + s)), (4, .int v4), (6, .int v6)]) dX12_items_57 (by decide) rfl ?_
      refine g_aload_n (pc := 59) dX12_items_59 rfl 1 rfl ?_
      refine g_dup (pc := 60) dX12_items_60 rfl ?_
      refine g_getI (pc := 61) wfX12_72 rfl rfl dX12_items_61 ?_
      refine g_iconst (pc := 64) (v := 1) dX12_items_64 (by decide) ?_
      refine g_iadd (pc := 65) dX12_items_65 ?_
      obtain ⟨σ44, e45, h⟩ := g_ltd h
      refine g_putI (pc := 66) wfX12_72 rfl rfl rfl rfl e45 dX12_items_66 ?_
      refine g_aload_n (pc := 69) dX12_items_69 rfl 2 rfl ?_
      refine g_iload_n (pc := 70) dX12_items_70 rfl 3 rfl ?_
      refine g_iload (pc := 71) dX12_items_71 6 rfl ?_
      refine g_iadd (pc := 73) dX12_items_73 ?_
      refine g_aload_n (pc := 74) dX12_items_74 rfl 1 rfl ?_
      obtain ⟨r48, σ47, h46, h⟩ := g_bId h
      refine g_callVi (pc := 75) (st := [.int (v2 + v6), .ref w]) hE.1 wvX12_107 rfl rfl (kX12_number hE n σ44 h46) rfl (gR_ok (by decide) (by decide)) (Nat.le_of_ble_eq_true rfl) rfl dX12_items_75 ?_
      obtain ⟨c49, h⟩ := g_gd h
      obtain ⟨σ50, e51, h⟩ := g_ltd h
      refine g_iast (pc := 78) hw c49 rfl e51 dX12_items_78 ?_
      refine g_aload_n (pc := 79) dX12_items_79 rfl 1 rfl ?_
      refine g_getI (pc := 80) wfX12_79 rfl rfl dX12_items_80 ?_
      refine g_iconst (pc := 83) (v := (-1)) dX12_items_83 (by decide) ?_
      refine g_icmp_eq (pc := 84) (tgt := 88) dX12_items_84 (by decide) (fun c52 => ?_) (fun c52 => ?_)
      · have h := g_ift c52 h
        refine g_aload_n (pc := 88) dX12_items_88 rfl 2 rfl ?_
        refine g_iload_n (pc := 89) dX12_items_89 rfl 3 rfl ?_
        refine g_iload (pc := 90) dX12_items_90 6 rfl ?_
        refine g_iadd (pc := 92) dX12_items_92 ?_
        obtain ⟨c53, h⟩ := g_gd h
        refine g_iald (pc := 93) hw c53 rfl dX12_items_93 ?_
        refine g_i2l (pc := 94) dX12_items_94 ?_
        refine g_iload (pc := 95) dX12_items_95 5 rfl ?_
        refine g_iload (pc := 97) dX12_items_97 6 rfl ?_
        obtain ⟨r56, σ55, h54, h⟩ := g_bId h
        refine g_callSi (pc := 99) (st := [.long ((σ50.1 w ((v2 + v6).toNatClampNeg)).toInt64)]) hE.1 wsX12_110 (kX12_leastOf hE v4 v6 σ50 h54) rfl (gR_ok (by decide) (by decide)) (Nat.le_of_ble_eq_true rfl) rfl dX12_items_99 ?_
        refine g_i2l (pc := 102) dX12_items_102 ?_
        refine g_iload (pc := 103) dX12_items_103 5 rfl ?_
        refine g_iload (pc := 105) dX12_items_105 6 rfl ?_
        obtain ⟨r59, σ58, h57, h⟩ := g_bId h
        refine g_callSi (pc := 107) (st := [.long r56.toInt64, .long ((σ50.1 w ((v2 + v6).toNatClampNeg)).toInt64)]) hE.1 wsX12_114 (kX12_mostOf hE v4 v6 σ55 h57) rfl (gR_ok (by decide) (by decide)) (Nat.le_of_ble_eq_true rfl) rfl dX12_items_107 ?_
        refine g_i2l (pc := 110) dX12_items_110 ?_
        obtain ⟨r62, σ61, h60, h⟩ := g_bId h
        refine g_callSi (pc := 111) (st := []) hE.1 wsX12_117 (kX12_isIn hE ((σ50.1 w ((v2 + v6).toNatClampNeg)).toInt64) r56.toInt64 r59.toInt64 σ58 h60) rfl (gR_ok (by decide) (by decide)) (Nat.le_of_ble_eq_true rfl) rfl dX12_items_111 ?_
        refine g_if_ne (pc := 114) (tgt := 132) dX12_items_114 (by decide) (fun c63 => ?_) (fun c63 => ?_)
        · have h := g_iff c63 h
          refine g_aload_n (pc := 132) dX12_items_132 rfl 4 rfl ?_
          refine g_aload_n (pc := 133) dX12_items_133 rfl 1 rfl ?_
          obtain ⟨r66, σ65, h64, h⟩ := g_bId h
          refine g_callVi (pc := 134) (st := [.ref (1000 + s)]) hE.1 wvX12_82 rfl rfl (kX12_look hE n σ61 h64) rfl (gR_ok (by decide) (by decide)) (Nat.le_of_ble_eq_true rfl) rfl dX12_items_134 ?_
          obtain ⟨r69, σ68, h67, h⟩ := g_bId h
          refine g_callSi (pc := 137) (st := []) hE.1 wsX12_103 (kX12_spotOf hE n s hs r66 σ65 h67) rfl (gR_ok (by decide) (by decide)) (Nat.le_of_ble_eq_true rfl) rfl dX12_items_137 ?_
          refine g_istore (pc := 140) (lv1 := [(6, .int r69), (5, .int (v5 ||| (1 <<< (v6 &&& 31)))), (0, .ref 0), (1, .ref w), (2, .int v2), (3, .ref (1000 + s)), (4, .int v4)]) dX12_items_140 (by decide) rfl ?_
          refine g_goto (pc := 142) (tgt := 28) dX12_items_142 (by decide) ?_
          exact g_lv [2, 3, 4, 5, 6, 1, 0] rfl (hK28 v2 v4 (v5 ||| (1 <<< (v6 &&& 31))) r69 σ68 h)
        · have h := g_ift c63 h
          refine g_aload_n (pc := 117) dX12_items_117 rfl 1 rfl ?_
          refine g_dup (pc := 118) dX12_items_118 rfl ?_
          refine g_getI (pc := 119) wfX12_72 rfl rfl dX12_items_119 ?_
          refine g_iconst (pc := 122) (v := 1) dX12_items_122 (by decide) ?_
          refine g_isub (pc := 123) dX12_items_123 ?_
          obtain ⟨σ70, e71, h⟩ := g_ltd h
          refine g_putI (pc := 124) wfX12_72 rfl rfl rfl rfl e71 dX12_items_124 ?_
          refine g_aload_n (pc := 127) dX12_items_127 rfl 1 rfl ?_
          obtain ⟨σ73, h72, h⟩ := g_bVd h
          refine g_callVv (pc := 128) (st := []) hE.1 wvX12_89 rfl rfl (kX12_fails hE σ70 h72) rfl (gR_ok (by decide) (by decide)) (Nat.le_of_ble_eq_true rfl) rfl dX12_items_128 ?_
          cases h
          exact g_vret (pc := 131) rfl rfl rfl dX12_items_131
      · have h := g_iff c52 h
        cases h
        exact g_vret (pc := 87) rfl rfl rfl dX12_items_87
    · have h := g_ift c43 h
      refine g_aload_n (pc := 45) dX12_items_45 rfl 0 rfl ?_
      obtain ⟨σ75, h74, h⟩ := g_bVd h
      refine g_callVv (pc := 46) (st := []) hE.1 wvX12_89 rfl rfl (kX12_fails hE σ h74) rfl (gR_ok (by decide) (by decide)) (Nat.le_of_ble_eq_true rfl) rfl dX12_items_46 ?_
      cases h
      exact g_vret (pc := 49) rfl rfl rfl dX12_items_49
def fX12_items_L28 (n : Nat) (w : Nat) (nw : Nat) (s : Nat) : Nat → Int32 → Int32 → Int32 → Int32 → gM → Option (gM)
  | 0 => fun _ _ _ _ _ => none
  | k + 1 => fX12_items_b28 n w nw s (fX12_items_L28 n w nw s k)
theorem tX12_items_L28 (hE : gEM l dC dI ad ca X) {σ' : gM} (n : Nat) (w : Nat) (nw : Nat) (hw : shM[w]? = some (.inl (.int, nw))) (s : Nat) (hs : s < 3)  : ∀ (k : Nat) (v2 : Int32) (v4 : Int32) (v5 : Int32) (v6 : Int32) (σ : gM), fX12_items_L28 n w nw s k v2 v4 v5 v6 σ = some σ' → g_G l dC dI ad ca shM X cX12_items 7 RX12 none (gR 7) none σ' 28 [(0, .ref 0), (1, .ref w), (2, .int v2), (3, .ref (1000 + s)), (4, .int v4), (5, .int v5), (6, .int v6)] [] σ := by
  intro k
  induction k with
  | zero => intro v2 v4 v5 v6 σ h; cases h
  | succ k ih => intro v2 v4 v5 v6 σ h; exact tX12_items_b28 hE n w nw hw s hs (fX12_items_L28 n w nw s k) ih v2 v4 v5 v6 σ h
def fX12_items_b13 (n : Nat) (w : Nat) (nw : Nat) (s : Nat) (v2 : Int32) (s0 : Int32) (σ : gM) : Option (gM) := g_bI (fX12_look n σ) (fun r78 σ77 => g_bI (fX12_spotOf n s r78 σ77) (fun r81 σ80 => fX12_items_L28 n w nw s n v2 s0 0 r81 σ80))
set_option maxRecDepth 100000 in
theorem tX12_items_b13 (hE : gEM l dC dI ad ca X) {σ' : gM} (n : Nat) (w : Nat) (nw : Nat) (hw : shM[w]? = some (.inl (.int, nw))) (s : Nat) (hs : s < 3) (v2 : Int32) (s0 : Int32)  (σ : gM) (h : fX12_items_b13 n w nw s v2 s0 σ = some σ') : g_G l dC dI ad ca shM X cX12_items 7 RX12 none (gR 7) none σ' 13 [(0, .ref 0), (1, .ref w), (2, .int v2), (3, .ref (1000 + s))] [.int s0] σ := by
  unfold fX12_items_b13 at h
  refine g_istore (pc := 13) (lv1 := [(4, .int s0), (0, .ref 0), (1, .ref w), (2, .int v2), (3, .ref (1000 + s))]) dX12_items_13 (by decide) rfl ?_
  refine g_iconst (pc := 15) (v := 0) dX12_items_15 (by decide) ?_
  refine g_istore (pc := 16) (lv1 := [(5, .int 0), (4, .int s0), (0, .ref 0), (1, .ref w), (2, .int v2), (3, .ref (1000 + s))]) dX12_items_16 (by decide) rfl ?_
  refine g_aload_n (pc := 18) dX12_items_18 rfl 5 rfl ?_
  refine g_aload_n (pc := 19) dX12_items_19 rfl 2 rfl ?_
  obtain ⟨r78, σ77, h76, h⟩ := g_bId h
  refine g_callVi (pc := 20) (st := [.ref (1000 + s)]) hE.1 wvX12_82 rfl rfl (kX12_look hE n σ h76) rfl (gR_ok (by decide) (by decide)) (Nat.le_of_ble_eq_true rfl) rfl dX12_items_20 ?_
  obtain ⟨r81, σ80, h79, h⟩ := g_bId h
  refine g_callSi (pc := 23) (st := []) hE.1 wsX12_103 (kX12_spotOf hE n s hs r78 σ77 h79) rfl (gR_ok (by decide) (by decide)) (Nat.le_of_ble_eq_true rfl) rfl dX12_items_23 ?_
  refine g_istore (pc := 26) (lv1 := [(6, .int r81), (5, .int 0), (4, .int s0), (0, .ref 0), (1, .ref w), (2, .int v2), (3, .ref (1000 + s))]) dX12_items_26 (by decide) rfl ?_
  exact g_lv [3, 4, 5, 6, 2, 1, 0] rfl (tX12_items_L28 hE n w nw hw s hs n v2 s0 0 r81 σ80 h)
def fX12_items (n : Nat) (w : Nat) (nw : Nat) (s : Nat) (v2 : Int32) (σ : gM) : Option (gM) := if (nI (mTx s).length) = 5 then (fX12_items_b13 n w nw s v2 1 σ) else (fX12_items_b13 n w nw s v2 0 σ)
set_option maxRecDepth 100000 in
theorem kX12_items (hE : gEM l dC dI ad ca X) (n : Nat) (w : Nat) (nw : Nat) (hw : shM[w]? = some (.inl (.int, nw))) (s : Nat) (hs : s < 3)  (v2 : Int32) (σ : gM) {σ' : gM} (h : fX12_items n w nw s v2 σ = some σ') : g_C l dC dI ad ca shM X yX12_items cX12_items 7 none (gR 7) [.ref 0, .ref w, .int v2, .ref (1000 + s)] σ none σ' := by
  refine g_entry (by decide +kernel) (Nat.le_of_ble_eq_true rfl) ?_
  refine g_lvE (lv1 := [(0, .ref 0), (1, .ref w), (2, .int v2), (3, .ref (1000 + s))]) rfl ?_
  unfold fX12_items at h
  refine g_aload_n (pc := 0) dX12_items_0 rfl 3 rfl ?_
  refine g_callVXi (pc := 1) (st := []) hE.1 wvX12_95 (mrA hE s hs) (hE.2.2.1 s σ hs) rfl (gR_ok (by decide) (by decide)) (Nat.le_of_ble_eq_true rfl) rfl dX12_items_1 ?_
  refine g_iconst (pc := 4) (v := 5) dX12_items_4 (by decide) ?_
  refine g_icmp_ne (pc := 5) (tgt := 12) dX12_items_5 (by decide) (fun c82 => ?_) (fun c82 => ?_)
  · have h := g_iff c82 h
    refine g_iconst (pc := 12) (v := 0) dX12_items_12 (by decide) ?_
    exact g_lv [0, 1, 2, 3] rfl (tX12_items_b13 hE n w nw hw s hs v2 0 σ h)
  · have h := g_ift c82 h
    refine g_iconst (pc := 8) (v := 1) dX12_items_8 (by decide) ?_
    refine g_goto (pc := 9) (tgt := 13) dX12_items_9 (by decide) ?_
    exact g_lv [0, 1, 2, 3] rfl (tX12_items_b13 hE n w nw hw s hs v2 1 σ h)
def fX12_clause_b44 (n : Nat) (v1 : Int32) (σ : gM) : Option (Int32 × gM) := g_bV (fX12_fails σ) (fun σ32 => if v1 &&& 1 = v1 then (some (v1, σ32)) else none)
set_option maxRecDepth 100000 in
theorem tX12_clause_b44 (hE : gEM l dC dI ad ca X) {r0 : Int32} {σ' : gM} (n : Nat) (v1 : Int32)  (σ : gM) (h : fX12_clause_b44 n v1 σ = some (r0, σ')) : g_G l dC dI ad ca shM X cX12_clause 3 RX12 (some .boolean) (gR 8) (some (.int r0)) σ' 44 [(0, .ref 0), (1, .int v1)] [] σ := by
  unfold fX12_clause_b44 at h
  refine g_aload_n (pc := 44) dX12_clause_44 rfl 0 rfl ?_
  obtain ⟨σ32, h31, h⟩ := g_bVd h
  refine g_callVv (pc := 45) (st := []) hE.1 wvX12_89 rfl rfl (kX12_fails hE σ h31) rfl (gR_ok (by decide) (by decide)) (Nat.le_of_ble_eq_true rfl) rfl dX12_clause_45 ?_
  refine g_iload_n (pc := 48) dX12_clause_48 rfl 1 rfl ?_
  obtain ⟨c33, h⟩ := g_gd h
  cases h
  exact g_iret (pc := 49) rfl (g_nb c33) rfl rfl dX12_clause_49
def fX12_clause_b50 (n : Nat) (v1 : Int32) (v2 : Int32) (σ : gM) : Option (Int32 × gM) := g_let (g_put σ 0 3 ((σ.1 0 3) + 1)) (fun σ34 => if v2 = 0 then (if ¬ ((2 * (σ34.1 0 11)) < 0 ∨ 32 ≤ (2 * (σ34.1 0 11)).toNatClampNeg) then (g_let (g_put σ34 4 ((2 * (σ34.1 0 11)).toNatClampNeg) 0) (fun σ38 => if ¬ (((2 * (σ38.1 0 11)) + 1) < 0 ∨ 32 ≤ ((2 * (σ38.1 0 11)) + 1).toNatClampNeg) then (g_let (g_put σ38 4 (((2 * (σ38.1 0 11)) + 1).toNatClampNeg) 1) (fun σ41 => g_let (g_put σ41 0 11 ((σ41.1 0 11) + 1)) (fun σ43 => g_bV (fX12_items n 4 32 1 ((2 * (σ43.1 0 11)) - 2) σ43) (fun σ46 => if v1 &&& 1 = v1 then (some (v1, σ46)) else none)))) else none)) else none) else (g_bV (fX12_items n 2 5 0 0 σ34) (fun σ49 => some (1, σ49))))
set_option maxRecDepth 100000 in
theorem tX12_clause_b50 (hE : gEM l dC dI ad ca X) {r0 : Int32} {σ' : gM} (n : Nat) (v1 : Int32) (v2 : Int32)  (σ : gM) (h : fX12_clause_b50 n v1 v2 σ = some (r0, σ')) : g_G l dC dI ad ca shM X cX12_clause 3 RX12 (some .boolean) (gR 8) (some (.int r0)) σ' 50 [(0, .ref 0), (1, .int v1), (2, .int v2)] [] σ := by
  unfold fX12_clause_b50 at h
  refine g_aload_n (pc := 50) dX12_clause_50 rfl 0 rfl ?_
  refine g_dup (pc := 51) dX12_clause_51 rfl ?_
  refine g_getI (pc := 52) wfX12_72 rfl rfl dX12_clause_52 ?_
  refine g_iconst (pc := 55) (v := 1) dX12_clause_55 (by decide) ?_
  refine g_iadd (pc := 56) dX12_clause_56 ?_
  obtain ⟨σ34, e35, h⟩ := g_ltd h
  refine g_putI (pc := 57) wfX12_72 rfl rfl rfl rfl e35 dX12_clause_57 ?_
  refine g_iload_n (pc := 60) dX12_clause_60 rfl 2 rfl ?_
  refine g_if_eq (pc := 61) (tgt := 77) dX12_clause_61 (by decide) (fun c36 => ?_) (fun c36 => ?_)
  · have h := g_ift c36 h
    refine g_aload_n (pc := 77) dX12_clause_77 rfl 0 rfl ?_
    refine g_getR (pc := 78) wfX12_20 rfl rfl dX12_clause_78 ?_
    refine g_iconst (pc := 81) (v := 2) dX12_clause_81 (by decide) ?_
    refine g_aload_n (pc := 82) dX12_clause_82 rfl 0 rfl ?_
    refine g_getI (pc := 83) wfX12_121 rfl rfl dX12_clause_83 ?_
    refine g_imul (pc := 86) dX12_clause_86 ?_
    refine g_iconst (pc := 87) (v := 0) dX12_clause_87 (by decide) ?_
    obtain ⟨c37, h⟩ := g_gd h
    obtain ⟨σ38, e39, h⟩ := g_ltd h
    refine g_iast (pc := 88) rfl c37 rfl e39 dX12_clause_88 ?_
    refine g_aload_n (pc := 89) dX12_clause_89 rfl 0 rfl ?_
    refine g_getR (pc := 90) wfX12_20 rfl rfl dX12_clause_90 ?_
    refine g_iconst (pc := 93) (v := 2) dX12_clause_93 (by decide) ?_
    refine g_aload_n (pc := 94) dX12_clause_94 rfl 0 rfl ?_
    refine g_getI (pc := 95) wfX12_121 rfl rfl dX12_clause_95 ?_
    refine g_imul (pc := 98) dX12_clause_98 ?_
    refine g_iconst (pc := 99) (v := 1) dX12_clause_99 (by decide) ?_
    refine g_iadd (pc := 100) dX12_clause_100 ?_
    refine g_iconst (pc := 101) (v := 1) dX12_clause_101 (by decide) ?_
    obtain ⟨c40, h⟩ := g_gd h
    obtain ⟨σ41, e42, h⟩ := g_ltd h
    refine g_iast (pc := 102) rfl c40 rfl e42 dX12_clause_102 ?_
    refine g_aload_n (pc := 103) dX12_clause_103 rfl 0 rfl ?_
    refine g_dup (pc := 104) dX12_clause_104 rfl ?_
    refine g_getI (pc := 105) wfX12_121 rfl rfl dX12_clause_105 ?_
    refine g_iconst (pc := 108) (v := 1) dX12_clause_108 (by decide) ?_
    refine g_iadd (pc := 109) dX12_clause_109 ?_
    obtain ⟨σ43, e44, h⟩ := g_ltd h
    refine g_putI (pc := 110) wfX12_121 rfl rfl rfl rfl e44 dX12_clause_110 ?_
    refine g_aload_n (pc := 113) dX12_clause_113 rfl 0 rfl ?_
    refine g_aload_n (pc := 114) dX12_clause_114 rfl 0 rfl ?_
    refine g_getR (pc := 115) wfX12_20 rfl rfl dX12_clause_115 ?_
    refine g_iconst (pc := 118) (v := 2) dX12_clause_118 (by decide) ?_
    refine g_aload_n (pc := 119) dX12_clause_119 rfl 0 rfl ?_
    refine g_getI (pc := 120) wfX12_121 rfl rfl dX12_clause_120 ?_
    refine g_imul (pc := 123) dX12_clause_123 ?_
    refine g_iconst (pc := 124) (v := 2) dX12_clause_124 (by decide) ?_
    refine g_isub (pc := 125) dX12_clause_125 ?_
    refine g_ldcS (pc := 126) (mkA hE 1 rfl) dX12_clause_126 ?_
    obtain ⟨σ46, h45, h⟩ := g_bVd h
    refine g_callVv (pc := 128) (st := []) hE.1 wvX12_126 rfl rfl (kX12_items hE n 4 32 rfl 1 (by decide) ((2 * (σ43.1 0 11)) - 2) σ43 h45) rfl (gR_ok (by decide) (by decide)) (Nat.le_of_ble_eq_true rfl) rfl dX12_clause_128 ?_
    refine g_iload_n (pc := 131) dX12_clause_131 rfl 1 rfl ?_
    obtain ⟨c47, h⟩ := g_gd h
    cases h
    exact g_iret (pc := 132) rfl (g_nb c47) rfl rfl dX12_clause_132
  · have h := g_iff c36 h
    refine g_aload_n (pc := 64) dX12_clause_64 rfl 0 rfl ?_
    refine g_aload_n (pc := 65) dX12_clause_65 rfl 0 rfl ?_
    refine g_getR (pc := 66) wfX12_13 rfl rfl dX12_clause_66 ?_
    refine g_iconst (pc := 69) (v := 0) dX12_clause_69 (by decide) ?_
    refine g_ldcS (pc := 70) (mkA hE 0 rfl) dX12_clause_70 ?_
    obtain ⟨σ49, h48, h⟩ := g_bVd h
    refine g_callVv (pc := 72) (st := []) hE.1 wvX12_126 rfl rfl (kX12_items hE n 2 5 rfl 0 (by decide) 0 σ34 h48) rfl (gR_ok (by decide) (by decide)) (Nat.le_of_ble_eq_true rfl) rfl dX12_clause_72 ?_
    refine g_iconst (pc := 75) (v := 1) dX12_clause_75 (by decide) ?_
    cases h
    exact g_iret (pc := 76) rfl (by decide) rfl rfl dX12_clause_76
def fX12_clause_b14 (n : Nat) (v1 : Int32) (s0 : Int32) (σ : gM) : Option (Int32 × gM) := if s0 = 0 then (g_bI (fX12_look n σ) (fun r53 σ52 => if r53 = 118 then (if (σ52.1 0 11) = 16 then (fX12_clause_b44 n v1 σ52) else (fX12_clause_b50 n v1 s0 σ52)) else (fX12_clause_b44 n v1 σ52))) else (if v1 = 0 then (fX12_clause_b50 n v1 s0 σ) else (fX12_clause_b44 n v1 σ))
set_option maxRecDepth 100000 in
theorem tX12_clause_b14 (hE : gEM l dC dI ad ca X) {r0 : Int32} {σ' : gM} (n : Nat) (v1 : Int32) (s0 : Int32)  (σ : gM) (h : fX12_clause_b14 n v1 s0 σ = some (r0, σ')) : g_G l dC dI ad ca shM X cX12_clause 3 RX12 (some .boolean) (gR 8) (some (.int r0)) σ' 14 [(0, .ref 0), (1, .int v1)] [.int s0] σ := by
  unfold fX12_clause_b14 at h
  refine g_istore_n (pc := 14) (lv1 := [(2, .int s0), (0, .ref 0), (1, .int v1)]) dX12_clause_14 rfl (by decide) rfl ?_
  refine g_iload_n (pc := 15) dX12_clause_15 rfl 0 rfl ?_
  refine g_if_eq (pc := 16) (tgt := 26) dX12_clause_16 (by decide) (fun c50 => ?_) (fun c50 => ?_)
  · have h := g_ift c50 h
    refine g_aload_n (pc := 26) dX12_clause_26 rfl 1 rfl ?_
    obtain ⟨r53, σ52, h51, h⟩ := g_bId h
    refine g_callVi (pc := 27) (st := []) hE.1 wvX12_82 rfl rfl (kX12_look hE n σ h51) rfl (gR_ok (by decide) (by decide)) (Nat.le_of_ble_eq_true rfl) rfl dX12_clause_27 ?_
    refine g_bipush (pc := 30) (v := 118) dX12_clause_30 (by decide) ?_
    refine g_icmp_ne (pc := 32) (tgt := 44) dX12_clause_32 (by decide) (fun c54 => ?_) (fun c54 => ?_)
    · have h := g_iff c54 h
      exact g_lv [1, 2] rfl (tX12_clause_b44 hE n v1 σ52 h)
    · have h := g_ift c54 h
      refine g_aload_n (pc := 35) dX12_clause_35 rfl 1 rfl ?_
      refine g_getI (pc := 36) wfX12_121 rfl rfl dX12_clause_36 ?_
      refine g_bipush (pc := 39) (v := 16) dX12_clause_39 (by decide) ?_
      refine g_icmp_ne (pc := 41) (tgt := 50) dX12_clause_41 (by decide) (fun c55 => ?_) (fun c55 => ?_)
      · have h := g_iff c55 h
        exact g_lv [1, 2, 0] rfl (tX12_clause_b50 hE n v1 s0 σ52 h)
      · have h := g_ift c55 h
        exact g_lv [1, 2] rfl (tX12_clause_b44 hE n v1 σ52 h)
  · have h := g_iff c50 h
    refine g_iload_n (pc := 19) dX12_clause_19 rfl 2 rfl ?_
    refine g_if_eq (pc := 20) (tgt := 50) dX12_clause_20 (by decide) (fun c56 => ?_) (fun c56 => ?_)
    · have h := g_ift c56 h
      exact g_lv [1, 2, 0] rfl (tX12_clause_b50 hE n v1 s0 σ h)
    · have h := g_iff c56 h
      refine g_goto (pc := 23) (tgt := 44) dX12_clause_23 (by decide) ?_
      exact g_lv [1, 2] rfl (tX12_clause_b44 hE n v1 σ h)
def fX12_clause (n : Nat) (v1 : Int32) (σ : gM) : Option (Int32 × gM) := g_bI (fX12_look n σ) (fun r59 σ58 => if r59 = 115 then (fX12_clause_b14 n v1 1 σ58) else (fX12_clause_b14 n v1 0 σ58))
set_option maxRecDepth 100000 in
theorem kX12_clause (hE : gEM l dC dI ad ca X) (n : Nat)  (v1 : Int32) (σ : gM) {r0 : Int32} {σ' : gM} (h : fX12_clause n v1 σ = some (r0, σ')) : g_C l dC dI ad ca shM X yX12_clause cX12_clause 3 (some .boolean) (gR 8) [.ref 0, .int v1] σ (some (.int r0)) σ' := by
  refine g_entry (by decide +kernel) (Nat.le_of_ble_eq_true rfl) ?_
  refine g_lvE (lv1 := [(0, .ref 0), (1, .int v1)]) rfl ?_
  unfold fX12_clause at h
  refine g_aload_n (pc := 0) dX12_clause_0 rfl 0 rfl ?_
  obtain ⟨r59, σ58, h57, h⟩ := g_bId h
  refine g_callVi (pc := 1) (st := []) hE.1 wvX12_82 rfl rfl (kX12_look hE n σ h57) rfl (gR_ok (by decide) (by decide)) (Nat.le_of_ble_eq_true rfl) rfl dX12_clause_1 ?_
  refine g_bipush (pc := 4) (v := 115) dX12_clause_4 (by decide) ?_
  refine g_icmp_ne (pc := 6) (tgt := 13) dX12_clause_6 (by decide) (fun c60 => ?_) (fun c60 => ?_)
  · have h := g_iff c60 h
    refine g_iconst (pc := 13) (v := 0) dX12_clause_13 (by decide) ?_
    exact g_lv [0, 1] rfl (tX12_clause_b14 hE n v1 0 σ58 h)
  · have h := g_ift c60 h
    refine g_iconst (pc := 9) (v := 1) dX12_clause_9 (by decide) ?_
    refine g_goto (pc := 10) (tgt := 14) dX12_clause_10 (by decide) ?_
    exact g_lv [0, 1] rfl (tX12_clause_b14 hE n v1 1 σ58 h)
def fX12_readShelf_b82 (n : Nat) (σ : gM) : Option (gM) := if (σ.1 0 4) = (-1) then (g_bI (fX12_look n σ) (fun r36 σ35 => if r36 = (-1) then (some σ35) else (g_bV (fX12_fails σ35) (fun σ39 => some σ39)))) else (some σ)
set_option maxRecDepth 100000 in
theorem tX12_readShelf_b82 (hE : gEM l dC dI ad ca X) {σ' : gM} (n : Nat)  (σ : gM) (h : fX12_readShelf_b82 n σ = some σ') : g_G l dC dI ad ca shM X cX12_readShelf 2 RX12 none (gR 9) none σ' 82 [(0, .ref 0)] [] σ := by
  unfold fX12_readShelf_b82 at h
  refine g_aload_n (pc := 82) dX12_readShelf_82 rfl 0 rfl ?_
  refine g_getI (pc := 83) wfX12_79 rfl rfl dX12_readShelf_83 ?_
  refine g_iconst (pc := 86) (v := (-1)) dX12_readShelf_86 (by decide) ?_
  refine g_icmp_ne (pc := 87) (tgt := 102) dX12_readShelf_87 (by decide) (fun c33 => ?_) (fun c33 => ?_)
  · have h := g_iff c33 h
    cases h
    exact g_vret (pc := 102) rfl rfl rfl dX12_readShelf_102
  · have h := g_ift c33 h
    refine g_aload_n (pc := 90) dX12_readShelf_90 rfl 0 rfl ?_
    obtain ⟨r36, σ35, h34, h⟩ := g_bId h
    refine g_callVi (pc := 91) (st := []) hE.1 wvX12_82 rfl rfl (kX12_look hE n σ h34) rfl (gR_ok (by decide) (by decide)) (Nat.le_of_ble_eq_true rfl) rfl dX12_readShelf_91 ?_
    refine g_iconst (pc := 94) (v := (-1)) dX12_readShelf_94 (by decide) ?_
    refine g_icmp_eq (pc := 95) (tgt := 102) dX12_readShelf_95 (by decide) (fun c37 => ?_) (fun c37 => ?_)
    · have h := g_ift c37 h
      cases h
      exact g_vret (pc := 102) rfl rfl rfl dX12_readShelf_102
    · have h := g_iff c37 h
      refine g_aload_n (pc := 98) dX12_readShelf_98 rfl 0 rfl ?_
      obtain ⟨σ39, h38, h⟩ := g_bVd h
      refine g_callVv (pc := 99) (st := []) hE.1 wvX12_89 rfl rfl (kX12_fails hE σ35 h38) rfl (gR_ok (by decide) (by decide)) (Nat.le_of_ble_eq_true rfl) rfl dX12_readShelf_99 ?_
      cases h
      exact g_vret (pc := 102) rfl rfl rfl dX12_readShelf_102
def fX12_readShelf_b46 (n : Nat) (K46 : Int32 → gM → Option (gM)) (v1 : Int32) (σ : gM) : Option (gM) := if (σ.1 0 4) = (-1) then (g_bI (fX12_look n σ) (fun r43 σ42 => if r43 = 59 then (g_let (g_put σ42 0 3 ((σ42.1 0 3) + 1)) (fun σ45 => g_bI (fX12_clause n v1 σ45) (fun r49 σ48 => K46 r49 σ48))) else (fX12_readShelf_b82 n σ42))) else (fX12_readShelf_b82 n σ)
set_option maxRecDepth 100000 in
theorem tX12_readShelf_b46 (hE : gEM l dC dI ad ca X) {σ' : gM} (n : Nat) (K46 : Int32 → gM → Option (gM)) (hK46 : ∀ (v1 : Int32) (σ : gM), K46 v1 σ = some σ' → g_G l dC dI ad ca shM X cX12_readShelf 2 RX12 none (gR 9) none σ' 46 [(0, .ref 0), (1, .int v1)] [] σ) (v1 : Int32)  (σ : gM) (h : fX12_readShelf_b46 n K46 v1 σ = some σ') : g_G l dC dI ad ca shM X cX12_readShelf 2 RX12 none (gR 9) none σ' 46 [(0, .ref 0), (1, .int v1)] [] σ := by
  unfold fX12_readShelf_b46 at h
  refine g_aload_n (pc := 46) dX12_readShelf_46 rfl 0 rfl ?_
  refine g_getI (pc := 47) wfX12_79 rfl rfl dX12_readShelf_47 ?_
  refine g_iconst (pc := 50) (v := (-1)) dX12_readShelf_50 (by decide) ?_
  refine g_icmp_ne (pc := 51) (tgt := 82) dX12_readShelf_51 (by decide) (fun c40 => ?_) (fun c40 => ?_)
  · have h := g_iff c40 h
    exact g_lv [0] rfl (tX12_readShelf_b82 hE n σ h)
  · have h := g_ift c40 h
    refine g_aload_n (pc := 54) dX12_readShelf_54 rfl 0 rfl ?_
    obtain ⟨r43, σ42, h41, h⟩ := g_bId h
    refine g_callVi (pc := 55) (st := []) hE.1 wvX12_82 rfl rfl (kX12_look hE n σ h41) rfl (gR_ok (by decide) (by decide)) (Nat.le_of_ble_eq_true rfl) rfl dX12_readShelf_55 ?_
    refine g_bipush (pc := 58) (v := 59) dX12_readShelf_58 (by decide) ?_
    refine g_icmp_ne (pc := 60) (tgt := 82) dX12_readShelf_60 (by decide) (fun c44 => ?_) (fun c44 => ?_)
    · have h := g_iff c44 h
      exact g_lv [0] rfl (tX12_readShelf_b82 hE n σ42 h)
    · have h := g_ift c44 h
      refine g_aload_n (pc := 63) dX12_readShelf_63 rfl 0 rfl ?_
      refine g_dup (pc := 64) dX12_readShelf_64 rfl ?_
      refine g_getI (pc := 65) wfX12_72 rfl rfl dX12_readShelf_65 ?_
      refine g_iconst (pc := 68) (v := 1) dX12_readShelf_68 (by decide) ?_
      refine g_iadd (pc := 69) dX12_readShelf_69 ?_
      obtain ⟨σ45, e46, h⟩ := g_ltd h
      refine g_putI (pc := 70) wfX12_72 rfl rfl rfl rfl e46 dX12_readShelf_70 ?_
      refine g_aload_n (pc := 73) dX12_readShelf_73 rfl 0 rfl ?_
      refine g_iload_n (pc := 74) dX12_readShelf_74 rfl 1 rfl ?_
      obtain ⟨r49, σ48, h47, h⟩ := g_bId h
      refine g_callVi (pc := 75) (st := []) hE.1 wvX12_132 rfl rfl (kX12_clause hE n v1 σ45 h47) rfl (gR_ok (by decide) (by decide)) (Nat.le_of_ble_eq_true rfl) rfl dX12_readShelf_75 ?_
      refine g_istore_n (pc := 78) (lv1 := [(1, .int r49), (0, .ref 0)]) dX12_readShelf_78 rfl (by decide) rfl ?_
      refine g_goto (pc := 79) (tgt := 46) dX12_readShelf_79 (by decide) ?_
      exact g_lv [1, 0] rfl (hK46 r49 σ48 h)
def fX12_readShelf_L46 (n : Nat) : Nat → Int32 → gM → Option (gM)
  | 0 => fun _ _ => none
  | k + 1 => fX12_readShelf_b46 n (fX12_readShelf_L46 n k)
theorem tX12_readShelf_L46 (hE : gEM l dC dI ad ca X) {σ' : gM} (n : Nat)  : ∀ (k : Nat) (v1 : Int32) (σ : gM), fX12_readShelf_L46 n k v1 σ = some σ' → g_G l dC dI ad ca shM X cX12_readShelf 2 RX12 none (gR 9) none σ' 46 [(0, .ref 0), (1, .int v1)] [] σ := by
  intro k
  induction k with
  | zero => intro v1 σ h; cases h
  | succ k ih => intro v1 σ h; exact tX12_readShelf_b46 hE n (fX12_readShelf_L46 n k) ih v1 σ h
def fX12_readShelf (n : Nat) (σ : gM) : Option (gM) := g_let (g_put σ 2 0 3) (fun σ50 => g_let (g_put σ50 2 1 4) (fun σ52 => g_let (g_put σ52 2 2 2) (fun σ54 => g_let (g_put σ54 2 3 0) (fun σ56 => g_let (g_put σ56 2 4 1) (fun σ58 => g_let (g_put σ58 0 11 0) (fun σ60 => g_bI (fX12_clause n 0 σ60) (fun r64 σ63 => fX12_readShelf_L46 n n r64 σ63)))))))
set_option maxRecDepth 100000 in
theorem kX12_readShelf (hE : gEM l dC dI ad ca X) (n : Nat)  (σ : gM) {σ' : gM} (h : fX12_readShelf n σ = some σ') : g_C l dC dI ad ca shM X yX12_readShelf cX12_readShelf 2 none (gR 9) [.ref 0] σ none σ' := by
  refine g_entry (by decide +kernel) (Nat.le_of_ble_eq_true rfl) ?_
  refine g_lvE (lv1 := [(0, .ref 0)]) rfl ?_
  unfold fX12_readShelf at h
  refine g_aload_n (pc := 0) dX12_readShelf_0 rfl 0 rfl ?_
  refine g_getR (pc := 1) wfX12_13 rfl rfl dX12_readShelf_1 ?_
  refine g_iconst (pc := 4) (v := 0) dX12_readShelf_4 (by decide) ?_
  refine g_iconst (pc := 5) (v := 3) dX12_readShelf_5 (by decide) ?_
  obtain ⟨σ50, e51, h⟩ := g_ltd h
  refine g_iast (pc := 6) rfl (by decide) (j := 0) (by decide) e51 dX12_readShelf_6 ?_
  refine g_aload_n (pc := 7) dX12_readShelf_7 rfl 0 rfl ?_
  refine g_getR (pc := 8) wfX12_13 rfl rfl dX12_readShelf_8 ?_
  refine g_iconst (pc := 11) (v := 1) dX12_readShelf_11 (by decide) ?_
  refine g_iconst (pc := 12) (v := 4) dX12_readShelf_12 (by decide) ?_
  obtain ⟨σ52, e53, h⟩ := g_ltd h
  refine g_iast (pc := 13) rfl (by decide) (j := 1) (by decide) e53 dX12_readShelf_13 ?_
  refine g_aload_n (pc := 14) dX12_readShelf_14 rfl 0 rfl ?_
  refine g_getR (pc := 15) wfX12_13 rfl rfl dX12_readShelf_15 ?_
  refine g_iconst (pc := 18) (v := 2) dX12_readShelf_18 (by decide) ?_
  refine g_iconst (pc := 19) (v := 2) dX12_readShelf_19 (by decide) ?_
  obtain ⟨σ54, e55, h⟩ := g_ltd h
  refine g_iast (pc := 20) rfl (by decide) (j := 2) (by decide) e55 dX12_readShelf_20 ?_
  refine g_aload_n (pc := 21) dX12_readShelf_21 rfl 0 rfl ?_
  refine g_getR (pc := 22) wfX12_13 rfl rfl dX12_readShelf_22 ?_
  refine g_iconst (pc := 25) (v := 3) dX12_readShelf_25 (by decide) ?_
  refine g_iconst (pc := 26) (v := 0) dX12_readShelf_26 (by decide) ?_
  obtain ⟨σ56, e57, h⟩ := g_ltd h
  refine g_iast (pc := 27) rfl (by decide) (j := 3) (by decide) e57 dX12_readShelf_27 ?_
  refine g_aload_n (pc := 28) dX12_readShelf_28 rfl 0 rfl ?_
  refine g_getR (pc := 29) wfX12_13 rfl rfl dX12_readShelf_29 ?_
  refine g_iconst (pc := 32) (v := 4) dX12_readShelf_32 (by decide) ?_
  refine g_iconst (pc := 33) (v := 1) dX12_readShelf_33 (by decide) ?_
  obtain ⟨σ58, e59, h⟩ := g_ltd h
  refine g_iast (pc := 34) rfl (by decide) (j := 4) (by decide) e59 dX12_readShelf_34 ?_
  refine g_aload_n (pc := 35) dX12_readShelf_35 rfl 0 rfl ?_
  refine g_iconst (pc := 36) (v := 0) dX12_readShelf_36 (by decide) ?_
  obtain ⟨σ60, e61, h⟩ := g_ltd h
  refine g_putI (pc := 37) wfX12_121 rfl rfl rfl rfl e61 dX12_readShelf_37 ?_
  refine g_aload_n (pc := 40) dX12_readShelf_40 rfl 0 rfl ?_
  refine g_iconst (pc := 41) (v := 0) dX12_readShelf_41 (by decide) ?_
  obtain ⟨r64, σ63, h62, h⟩ := g_bId h
  refine g_callVi (pc := 42) (st := []) hE.1 wvX12_132 rfl rfl (kX12_clause hE n 0 σ60 h62) rfl (gR_ok (by decide) (by decide)) (Nat.le_of_ble_eq_true rfl) rfl dX12_readShelf_42 ?_
  refine g_istore_n (pc := 45) (lv1 := [(1, .int r64), (0, .ref 0)]) dX12_readShelf_45 rfl (by decide) rfl ?_
  exact g_lv [1, 0] rfl (tX12_readShelf_L46 hE n n r64 σ63 h)
def fX12_numbersOf (v0 : Int32) (σ : gM) : Option (Int32 × gM) := if v0 = 0 then (some (2, σ)) else (if v0 = 1 then (some (1, σ)) else (if v0 = 2 then (some (1, σ)) else (if v0 = 3 then (some (2, σ)) else (if v0 = 4 then (some (1, σ)) else (if v0 = 5 then (some (4, σ)) else (if v0 = 6 then (some (3, σ)) else (if v0 = 7 then (some (0, σ)) else (if v0 = 8 then (some (4, σ)) else (some (1, σ))))))))))
set_option maxRecDepth 100000 in
theorem kX12_numbersOf (hE : gEM l dC dI ad ca X)  (v0 : Int32) (σ : gM) {r0 : Int32} {σ' : gM} (h : fX12_numbersOf v0 σ = some (r0, σ')) : g_C l dC dI ad ca shM X yX12_numbersOf cX12_numbersOf 1 (some .int) (gR 0) [.int v0] σ (some (.int r0)) σ' := by
  refine g_entry (by decide +kernel) (Nat.le_of_ble_eq_true rfl) ?_
  refine g_lvE (lv1 := [(0, .int v0)]) rfl ?_
  unfold fX12_numbersOf at h
  refine g_iload_n (pc := 0) dX12_numbersOf_0 rfl 0 rfl ?_
  by_cases c11 : v0 = 0
  · have h := g_ift c11 h
    refine g_tabIn (pc := 1) (tgt := 52) (off := 51) dX12_numbersOf_1 (by rw [c11]; decide) (by rw [c11]; decide) (by rw [c11]; decide) (by decide) ?_
    refine g_iconst (pc := 52) (v := 2) dX12_numbersOf_52 (by decide) ?_
    cases h
    exact g_iret (pc := 53) rfl rfl rfl rfl dX12_numbersOf_53
  have h := g_iff c11 h
  by_cases c12 : v0 = 1
  · have h := g_ift c12 h
    refine g_tabIn (pc := 1) (tgt := 60) (off := 59) dX12_numbersOf_1 (by rw [c12]; decide) (by rw [c12]; decide) (by rw [c12]; decide) (by decide) ?_
    refine g_iconst (pc := 60) (v := 1) dX12_numbersOf_60 (by decide) ?_
    cases h
    exact g_iret (pc := 61) rfl rfl rfl rfl dX12_numbersOf_61
  have h := g_iff c12 h
  by_cases c13 : v0 = 2
  · have h := g_ift c13 h
    refine g_tabIn (pc := 1) (tgt := 60) (off := 59) dX12_numbersOf_1 (by rw [c13]; decide) (by rw [c13]; decide) (by rw [c13]; decide) (by decide) ?_
    refine g_iconst (pc := 60) (v := 1) dX12_numbersOf_60 (by decide) ?_
    cases h
    exact g_iret (pc := 61) rfl rfl rfl rfl dX12_numbersOf_61
  have h := g_iff c13 h
  by_cases c14 : v0 = 3
  · have h := g_ift c14 h
    refine g_tabIn (pc := 1) (tgt := 52) (off := 51) dX12_numbersOf_1 (by rw [c14]; decide) (by rw [c14]; decide) (by rw [c14]; decide) (by decide) ?_
    refine g_iconst (pc := 52) (v := 2) dX12_numbersOf_52 (by decide) ?_
    cases h
    exact g_iret (pc := 53) rfl rfl rfl rfl dX12_numbersOf_53
  have h := g_iff c14 h
  by_cases c15 : v0 = 4
  · have h := g_ift c15 h
    refine g_tabIn (pc := 1) (tgt := 60) (off := 59) dX12_numbersOf_1 (by rw [c15]; decide) (by rw [c15]; decide) (by rw [c15]; decide) (by decide) ?_
    refine g_iconst (pc := 60) (v := 1) dX12_numbersOf_60 (by decide) ?_
    cases h
    exact g_iret (pc := 61) rfl rfl rfl rfl dX12_numbersOf_61
  have h := g_iff c15 h
  by_cases c16 : v0 = 5
  · have h := g_ift c16 h
    refine g_tabIn (pc := 1) (tgt := 54) (off := 53) dX12_numbersOf_1 (by rw [c16]; decide) (by rw [c16]; decide) (by rw [c16]; decide) (by decide) ?_
    refine g_iconst (pc := 54) (v := 4) dX12_numbersOf_54 (by decide) ?_
    cases h
    exact g_iret (pc := 55) rfl rfl rfl rfl dX12_numbersOf_55
  have h := g_iff c16 h
  by_cases c17 : v0 = 6
  · have h := g_ift c17 h
    refine g_tabIn (pc := 1) (tgt := 56) (off := 55) dX12_numbersOf_1 (by rw [c17]; decide) (by rw [c17]; decide) (by rw [c17]; decide) (by decide) ?_
    refine g_iconst (pc := 56) (v := 3) dX12_numbersOf_56 (by decide) ?_
    cases h
    exact g_iret (pc := 57) rfl rfl rfl rfl dX12_numbersOf_57
  have h := g_iff c17 h
  by_cases c18 : v0 = 7
  · have h := g_ift c18 h
    refine g_tabIn (pc := 1) (tgt := 58) (off := 57) dX12_numbersOf_1 (by rw [c18]; decide) (by rw [c18]; decide) (by rw [c18]; decide) (by decide) ?_
    refine g_iconst (pc := 58) (v := 0) dX12_numbersOf_58 (by decide) ?_
    cases h
    exact g_iret (pc := 59) rfl rfl rfl rfl dX12_numbersOf_59
  have h := g_iff c18 h
  by_cases c19 : v0 = 8
  · have h := g_ift c19 h
    refine g_tabIn (pc := 1) (tgt := 54) (off := 53) dX12_numbersOf_1 (by rw [c19]; decide) (by rw [c19]; decide) (by rw [c19]; decide) (by decide) ?_
    refine g_iconst (pc := 54) (v := 4) dX12_numbersOf_54 (by decide) ?_
    cases h
    exact g_iret (pc := 55) rfl rfl rfl rfl dX12_numbersOf_55
  have h := g_iff c19 h
  have u20 : (v0).toInt < 0 ∨ 8 < (v0).toInt := by
    have ec11 := g_toInt c11
    have ec12 := g_toInt c12
    have ec13 := g_toInt c13
    have ec14 := g_toInt c14
    have ec15 := g_toInt c15
    have ec16 := g_toInt c16
    have ec17 := g_toInt c17
    have ec18 := g_toInt c18
    have ec19 := g_toInt c19
    rw [show (0 : Int32).toInt = 0 from by decide] at ec11
    rw [show (1 : Int32).toInt = 1 from by decide] at ec12
    rw [show (2 : Int32).toInt = 2 from by decide] at ec13
    rw [show (3 : Int32).toInt = 3 from by decide] at ec14
    rw [show (4 : Int32).toInt = 4 from by decide] at ec15
    rw [show (5 : Int32).toInt = 5 from by decide] at ec16
    rw [show (6 : Int32).toInt = 6 from by decide] at ec17
    rw [show (7 : Int32).toInt = 7 from by decide] at ec18
    rw [show (8 : Int32).toInt = 8 from by decide] at ec19
    omega
  refine g_tabOut (pc := 1) (tgt := 60) dX12_numbersOf_1 u20 (by decide) ?_
  refine g_iconst (pc := 60) (v := 1) dX12_numbersOf_60 (by decide) ?_
  cases h
  exact g_iret (pc := 61) rfl rfl rfl rfl dX12_numbersOf_61
def fX12_readStep_b134 (n : Nat) (K47 : Int32 → Int32 → Int32 → gM → Option (gM)) (v2 : Int32) (v3 : Int32) (v4 : Int32) (σ : gM) : Option (gM) := K47 v2 v3 (v4 + 1) σ
set_option maxRecDepth 100000 in
theorem tX12_readStep_b134 (hE : gEM l dC dI ad ca X) {σ' : gM} (n : Nat) (K47 : Int32 → Int32 → Int32 → gM → Option (gM)) (hK47 : ∀ (v2 : Int32) (v3 : Int32) (v4 : Int32) (σ : gM), K47 v2 v3 v4 σ = some σ' → g_G l dC dI ad ca shM X cX12_readStep 5 RX12 none (gR 7) none σ' 47 [(0, .ref 0), (2, .int v2), (3, .int v3), (4, .int v4)] [] σ) (v2 : Int32) (v3 : Int32) (v4 : Int32)  (σ : gM) (h : fX12_readStep_b134 n K47 v2 v3 v4 σ = some σ') : g_G l dC dI ad ca shM X cX12_readStep 5 RX12 none (gR 7) none σ' 134 [(0, .ref 0), (2, .int v2), (3, .int v3), (4, .int v4)] [] σ := by
  unfold fX12_readStep_b134 at h
  refine g_iinc (pc := 134) (v := v4 + 1) (lv1 := [(4, .int (v4 + 1)), (0, .ref 0), (2, .int v2), (3, .int v3)]) dX12_readStep_134 3 rfl rfl (by decide) rfl ?_
  refine g_goto (pc := 137) (tgt := 47) dX12_readStep_137 (by decide) ?_
  exact g_lv [1, 2, 3, 0] rfl (hK47 v2 v3 (v4 + 1) σ h)
def fX12_readStep_b119 (n : Nat) (K47 : Int32 → Int32 → Int32 → gM → Option (gM)) (v2 : Int32) (v3 : Int32) (v4 : Int32) (σ : gM) : Option (gM) := g_bI (fX12_number n σ) (fun r42 σ41 => if ¬ (((v2 + 1) + v4) < 0 ∨ 400 ≤ ((v2 + 1) + v4).toNatClampNeg) then (g_let (g_put σ41 6 (((v2 + 1) + v4).toNatClampNeg) r42) (fun σ44 => fX12_readStep_b134 n K47 v2 v3 v4 σ44)) else none)
set_option maxRecDepth 100000 in
theorem tX12_readStep_b119 (hE : gEM l dC dI ad ca X) {σ' : gM} (n : Nat) (K47 : Int32 → Int32 → Int32 → gM → Option (gM)) (hK47 : ∀ (v2 : Int32) (v3 : Int32) (v4 : Int32) (σ : gM), K47 v2 v3 v4 σ = some σ' → g_G l dC dI ad ca shM X cX12_readStep 5 RX12 none (gR 7) none σ' 47 [(0, .ref 0), (2, .int v2), (3, .int v3), (4, .int v4)] [] σ) (v2 : Int32) (v3 : Int32) (v4 : Int32)  (σ : gM) (h : fX12_readStep_b119 n K47 v2 v3 v4 σ = some σ') : g_G l dC dI ad ca shM X cX12_readStep 5 RX12 none (gR 7) none σ' 119 [(0, .ref 0), (2, .int v2), (3, .int v3), (4, .int v4)] [] σ := by
  unfold fX12_readStep_b119 at h
  refine g_aload_n (pc := 119) dX12_readStep_119 rfl 0 rfl ?_
  refine g_getR (pc := 120) wfX12_26 rfl rfl dX12_readStep_120 ?_
  refine g_iload_n (pc := 123) dX12_readStep_123 rfl 1 rfl ?_
  refine g_iconst (pc := 124) (v := 1) dX12_readStep_124 (by decide) ?_
  refine g_iadd (pc := 125) dX12_readStep_125 ?_
  refine g_iload (pc := 126) dX12_readStep_126 3 rfl ?_
  refine g_iadd (pc := 128) dX12_readStep_128 ?_
  refine g_aload_n (pc := 129) dX12_readStep_129 rfl 0 rfl ?_
  obtain ⟨r42, σ41, h40, h⟩ := g_bId h
  refine g_callVi (pc := 130) (st := [.int ((v2 + 1) + v4), .ref 6]) hE.1 wvX12_107 rfl rfl (kX12_number hE n σ h40) rfl (gR_ok (by decide) (by decide)) (Nat.le_of_ble_eq_true rfl) rfl dX12_readStep_130 ?_
  obtain ⟨c43, h⟩ := g_gd h
  obtain ⟨σ44, e45, h⟩ := g_ltd h
  refine g_iast (pc := 133) rfl c43 rfl e45 dX12_readStep_133 ?_
  exact g_lv [0, 1, 2, 3] rfl (tX12_readStep_b134 hE n K47 hK47 v2 v3 v4 σ44 h)
def fX12_readStep_b104 (n : Nat) (K47 : Int32 → Int32 → Int32 → gM → Option (gM)) (v2 : Int32) (v3 : Int32) (v4 : Int32) (σ : gM) : Option (gM) := if v4 ≤ 0 then (fX12_readStep_b119 n K47 v2 v3 v4 σ) else (g_let (g_put σ 0 3 ((σ.1 0 3) + 1)) (fun σ47 => fX12_readStep_b119 n K47 v2 v3 v4 σ47))
set_option maxRecDepth 100000 in
theorem tX12_readStep_b104 (hE : gEM l dC dI ad ca X) {σ' : gM} (n : Nat) (K47 : Int32 → Int32 → Int32 → gM → Option (gM)) (hK47 : ∀ (v2 : Int32) (v3 : Int32) (v4 : Int32) (σ : gM), K47 v2 v3 v4 σ = some σ' → g_G l dC dI ad ca shM X cX12_readStep 5 RX12 none (gR 7) none σ' 47 [(0, .ref 0), (2, .int v2), (3, .int v3), (4, .int v4)] [] σ) (v2 : Int32) (v3 : Int32) (v4 : Int32)  (σ : gM) (h : fX12_readStep_b104 n K47 v2 v3 v4 σ = some σ') : g_G l dC dI ad ca shM X cX12_readStep 5 RX12 none (gR 7) none σ' 104 [(0, .ref 0), (2, .int v2), (3, .int v3), (4, .int v4)] [] σ := by
  unfold fX12_readStep_b104 at h
  refine g_iload (pc := 104) dX12_readStep_104 3 rfl ?_
  refine g_if_le (pc := 106) (tgt := 119) dX12_readStep_106 (by decide) (fun c46 => ?_) (fun c46 => ?_)
  · have h := g_ift c46 h
    exact g_lv [0, 1, 2, 3] rfl (tX12_readStep_b119 hE n K47 hK47 v2 v3 v4 σ h)
  · have h := g_iff c46 h
    refine g_aload_n (pc := 109) dX12_readStep_109 rfl 0 rfl ?_
    refine g_dup (pc := 110) dX12_readStep_110 rfl ?_
    refine g_getI (pc := 111) wfX12_72 rfl rfl dX12_readStep_111 ?_
    refine g_iconst (pc := 114) (v := 1) dX12_readStep_114 (by decide) ?_
    refine g_iadd (pc := 115) dX12_readStep_115 ?_
    obtain ⟨σ47, e48, h⟩ := g_ltd h
    refine g_putI (pc := 116) wfX12_72 rfl rfl rfl rfl e48 dX12_readStep_116 ?_
    exact g_lv [0, 1, 2, 3] rfl (tX12_readStep_b119 hE n K47 hK47 v2 v3 v4 σ47 h)
def fX12_readStep_b47 (n : Nat) (K47 : Int32 → Int32 → Int32 → gM → Option (gM)) (v2 : Int32) (v3 : Int32) (v4 : Int32) (σ : gM) : Option (gM) := if 4 ≤ v4 then (some σ) else (if ¬ (((v2 + 1) + v4) < 0 ∨ 400 ≤ ((v2 + 1) + v4).toNatClampNeg) then (g_let (g_put σ 6 (((v2 + 1) + v4).toNatClampNeg) (-1)) (fun σ51 => g_bI (fX12_numbersOf v3 σ51) (fun r55 σ54 => if r55 ≤ v4 then (fX12_readStep_b134 n K47 v2 v3 v4 σ54) else (if (σ54.1 0 4) = (-1) then (if v4 ≤ 0 then (fX12_readStep_b104 n K47 v2 v3 v4 σ54) else (g_bI (fX12_look n σ54) (fun r61 σ60 => if r61 = 44 then (fX12_readStep_b104 n K47 v2 v3 v4 σ60) else (g_bV (fX12_fails σ60) (fun σ64 => some σ64))))) else (fX12_readStep_b134 n K47 v2 v3 v4 σ54))))) else none)
set_option maxRecDepth 100000 in
theorem tX12_readStep_b47 (hE : gEM l dC dI ad ca X) {σ' : gM} (n : Nat) (K47 : Int32 → Int32 → Int32 → gM → Option (gM)) (hK47 : ∀ (v2 : Int32) (v3 : Int32) (v4 : Int32) (σ : gM), K47 v2 v3 v4 σ = some σ' → g_G l dC dI ad ca shM X cX12_readStep 5 RX12 none (gR 7) none σ' 47 [(0, .ref 0), (2, .int v2), (3, .int v3), (4, .int v4)] [] σ) (v2 : Int32) (v3 : Int32) (v4 : Int32)  (σ : gM) (h : fX12_readStep_b47 n K47 v2 v3 v4 σ = some σ') : g_G l dC dI ad ca shM X cX12_readStep 5 RX12 none (gR 7) none σ' 47 [(0, .ref 0), (2, .int v2), (3, .int v3), (4, .int v4)] [] σ := by
  unfold fX12_readStep_b47 at h
  refine g_iload (pc := 47) dX12_readStep_47 3 rfl ?_
  refine g_iconst (pc := 49) (v := 4) dX12_readStep_49 (by decide) ?_
  refine g_icmp_ge (pc := 50) (tgt := 140) dX12_readStep_50 (by decide) (fun c49 => ?_) (fun c49 => ?_)
  · have h := g_ift c49 h
    cases h
    exact g_vret (pc := 140) rfl rfl rfl dX12_readStep_140
  · have h := g_iff c49 h
    refine g_aload_n (pc := 53) dX12_readStep_53 rfl 0 rfl ?_
    refine g_getR (pc := 54) wfX12_26 rfl rfl dX12_readStep_54 ?_
    refine g_iload_n (pc := 57) dX12_readStep_57 rfl 1 rfl ?_
    refine g_iconst (pc := 58) (v := 1) dX12_readStep_58 (by decide) ?_
    refine g_iadd (pc := 59) dX12_readStep_59 ?_
    refine g_iload (pc := 60) dX12_readStep_60 3 rfl ?_
    refine g_iadd (pc := 62) dX12_readStep_62 ?_
    refine g_iconst (pc := 63) (v := (-1)) dX12_readStep_63 (by decide) ?_
    obtain ⟨c50, h⟩ := g_gd h
    obtain ⟨σ51, e52, h⟩ := g_ltd h
    refine g_iast (pc := 64) rfl c50 rfl e52 dX12_readStep_64 ?_
    refine g_iload (pc := 65) dX12_readStep_65 3 rfl ?_
    refine g_iload_n (pc := 67) dX12_readStep_67 rfl 2 rfl ?_
    obtain ⟨r55, σ54, h53, h⟩ := g_bId h
    refine g_callSi (pc := 68) (st := [.int v4]) hE.1 wsX12_138 (kX12_numbersOf hE v3 σ51 h53) rfl (gR_ok (by decide) (by decide)) (Nat.le_of_ble_eq_true rfl) rfl dX12_readStep_68 ?_
    refine g_icmp_ge (pc := 71) (tgt := 134) dX12_readStep_71 (by decide) (fun c56 => ?_) (fun c56 => ?_)
    · have h := g_ift c56 h
      exact g_lv [0, 1, 2, 3] rfl (tX12_readStep_b134 hE n K47 hK47 v2 v3 v4 σ54 h)
    · have h := g_iff c56 h
      refine g_aload_n (pc := 74) dX12_readStep_74 rfl 0 rfl ?_
      refine g_getI (pc := 75) wfX12_79 rfl rfl dX12_readStep_75 ?_
      refine g_iconst (pc := 78) (v := (-1)) dX12_readStep_78 (by decide) ?_
      refine g_icmp_eq (pc := 79) (tgt := 85) dX12_readStep_79 (by decide) (fun c57 => ?_) (fun c57 => ?_)
      · have h := g_ift c57 h
        refine g_iload (pc := 85) dX12_readStep_85 3 rfl ?_
        refine g_if_le (pc := 87) (tgt := 104) dX12_readStep_87 (by decide) (fun c58 => ?_) (fun c58 => ?_)
        · have h := g_ift c58 h
          exact g_lv [0, 1, 2, 3] rfl (tX12_readStep_b104 hE n K47 hK47 v2 v3 v4 σ54 h)
        · have h := g_iff c58 h
          refine g_aload_n (pc := 90) dX12_readStep_90 rfl 0 rfl ?_
          obtain ⟨r61, σ60, h59, h⟩ := g_bId h
          refine g_callVi (pc := 91) (st := []) hE.1 wvX12_82 rfl rfl (kX12_look hE n σ54 h59) rfl (gR_ok (by decide) (by decide)) (Nat.le_of_ble_eq_true rfl) rfl dX12_readStep_91 ?_
          refine g_bipush (pc := 94) (v := 44) dX12_readStep_94 (by decide) ?_
          refine g_icmp_eq (pc := 96) (tgt := 104) dX12_readStep_96 (by decide) (fun c62 => ?_) (fun c62 => ?_)
          · have h := g_ift c62 h
            exact g_lv [0, 1, 2, 3] rfl (tX12_readStep_b104 hE n K47 hK47 v2 v3 v4 σ60 h)
          · have h := g_iff c62 h
            refine g_aload_n (pc := 99) dX12_readStep_99 rfl 0 rfl ?_
            obtain ⟨σ64, h63, h⟩ := g_bVd h
            refine g_callVv (pc := 100) (st := []) hE.1 wvX12_89 rfl rfl (kX12_fails hE σ60 h63) rfl (gR_ok (by decide) (by decide)) (Nat.le_of_ble_eq_true rfl) rfl dX12_readStep_100 ?_
            cases h
            exact g_vret (pc := 103) rfl rfl rfl dX12_readStep_103
      · have h := g_iff c57 h
        refine g_goto (pc := 82) (tgt := 134) dX12_readStep_82 (by decide) ?_
        exact g_lv [0, 1, 2, 3] rfl (tX12_readStep_b134 hE n K47 hK47 v2 v3 v4 σ54 h)
def fX12_readStep_L47 (n : Nat) : Nat → Int32 → Int32 → Int32 → gM → Option (gM)
  | 0 => fun _ _ _ _ => none
  | k + 1 => fX12_readStep_b47 n (fX12_readStep_L47 n k)
theorem tX12_readStep_L47 (hE : gEM l dC dI ad ca X) {σ' : gM} (n : Nat)  : ∀ (k : Nat) (v2 : Int32) (v3 : Int32) (v4 : Int32) (σ : gM), fX12_readStep_L47 n k v2 v3 v4 σ = some σ' → g_G l dC dI ad ca shM X cX12_readStep 5 RX12 none (gR 7) none σ' 47 [(0, .ref 0), (2, .int v2), (3, .int v3), (4, .int v4)] [] σ := by
  intro k
  induction k with
  | zero => intro v2 v3 v4 σ h; cases h
  | succ k ih => intro v2 v3 v4 σ h; exact tX12_readStep_b47 hE n (fX12_readStep_L47 n k) ih v2 v3 v4 σ h
def fX12_readStep (n : Nat) (v1 : Int32) (σ : gM) : Option (gM) := g_bI (fX12_look n σ) (fun r67 σ66 => g_bI (fX12_spotOf n 2 r67 σ66) (fun r70 σ69 => if r70 = (-1) then (g_bV (fX12_fails σ69) (fun σ78 => some σ78)) else (g_let (g_put σ69 0 3 ((σ69.1 0 3) + 1)) (fun σ72 => if ¬ ((5 * (64 + v1)) < 0 ∨ 400 ≤ (5 * (64 + v1)).toNatClampNeg) then (g_let (g_put σ72 6 ((5 * (64 + v1)).toNatClampNeg) r70) (fun σ75 => fX12_readStep_L47 n n (5 * (64 + v1)) r70 0 σ75)) else none))))
set_option maxRecDepth 100000 in
theorem kX12_readStep (hE : gEM l dC dI ad ca X) (n : Nat)  (v1 : Int32) (σ : gM) {σ' : gM} (h : fX12_readStep n v1 σ = some σ') : g_C l dC dI ad ca shM X yX12_readStep cX12_readStep 5 none (gR 7) [.ref 0, .int v1] σ none σ' := by
  refine g_entry (by decide +kernel) (Nat.le_of_ble_eq_true rfl) ?_
  refine g_lvE (lv1 := [(0, .ref 0), (1, .int v1)]) rfl ?_
  unfold fX12_readStep at h
  refine g_iconst (pc := 0) (v := 5) dX12_readStep_0 (by decide) ?_
  refine g_bipush (pc := 1) (v := 64) dX12_readStep_1 (by decide) ?_
  refine g_iload_n (pc := 3) dX12_readStep_3 rfl 1 rfl ?_
  refine g_iadd (pc := 4) dX12_readStep_4 ?_
  refine g_imul (pc := 5) dX12_readStep_5 ?_
  refine g_istore_n (pc := 6) (lv1 := [(2, .int (5 * (64 + v1))), (0, .ref 0), (1, .int v1)]) dX12_readStep_6 rfl (by decide) rfl ?_
  refine g_ldcS (pc := 7) (mkA hE 2 rfl) dX12_readStep_7 ?_
  refine g_aload_n (pc := 9) dX12_readStep_9 rfl 1 rfl ?_
  obtain ⟨r67, σ66, h65, h⟩ := g_bId h
  refine g_callVi (pc := 10) (st := [.ref (1000 + 2)]) hE.1 wvX12_82 rfl rfl (kX12_look hE n σ h65) rfl (gR_ok (by decide) (by decide)) (Nat.le_of_ble_eq_true rfl) rfl dX12_readStep_10 ?_
  obtain ⟨r70, σ69, h68, h⟩ := g_bId h
  refine g_callSi (pc := 13) (st := []) hE.1 wsX12_103 (kX12_spotOf hE n 2 (by decide) r67 σ66 h68) rfl (gR_ok (by decide) (by decide)) (Nat.le_of_ble_eq_true rfl) rfl dX12_readStep_13 ?_
  refine g_istore_n (pc := 16) (lv1 := [(3, .int r70), (2, .int (5 * (64 + v1))), (0, .ref 0), (1, .int v1)]) dX12_readStep_16 rfl (by decide) rfl ?_
  refine g_iload_n (pc := 17) dX12_readStep_17 rfl 0 rfl ?_
  refine g_iconst (pc := 18) (v := (-1)) dX12_readStep_18 (by decide) ?_
  refine g_icmp_ne (pc := 19) (tgt := 27) dX12_readStep_19 (by decide) (fun c71 => ?_) (fun c71 => ?_)
  · have h := g_iff c71 h
    refine g_aload_n (pc := 27) dX12_readStep_27 rfl 2 rfl ?_
    refine g_dup (pc := 28) dX12_readStep_28 rfl ?_
    refine g_getI (pc := 29) wfX12_72 rfl rfl dX12_readStep_29 ?_
    refine g_iconst (pc := 32) (v := 1) dX12_readStep_32 (by decide) ?_
    refine g_iadd (pc := 33) dX12_readStep_33 ?_
    obtain ⟨σ72, e73, h⟩ := g_ltd h
    refine g_putI (pc := 34) wfX12_72 rfl rfl rfl rfl e73 dX12_readStep_34 ?_
    refine g_aload_n (pc := 37) dX12_readStep_37 rfl 2 rfl ?_
    refine g_getR (pc := 38) wfX12_26 rfl rfl dX12_readStep_38 ?_
    refine g_iload_n (pc := 41) dX12_readStep_41 rfl 1 rfl ?_
    refine g_iload_n (pc := 42) dX12_readStep_42 rfl 0 rfl ?_
    obtain ⟨c74, h⟩ := g_gd h
    obtain ⟨σ75, e76, h⟩ := g_ltd h
    refine g_iast (pc := 43) rfl c74 rfl e76 dX12_readStep_43 ?_
    refine g_iconst (pc := 44) (v := 0) dX12_readStep_44 (by decide) ?_
    refine g_istore (pc := 45) (lv1 := [(4, .int 0), (3, .int r70), (2, .int (5 * (64 + v1))), (0, .ref 0), (1, .int v1)]) dX12_readStep_45 (by decide) rfl ?_
    exact g_lv [3, 2, 1, 0] rfl (tX12_readStep_L47 hE n n (5 * (64 + v1)) r70 0 σ75 h)
  · have h := g_ift c71 h
    refine g_aload_n (pc := 22) dX12_readStep_22 rfl 2 rfl ?_
    obtain ⟨σ78, h77, h⟩ := g_bVd h
    refine g_callVv (pc := 23) (st := []) hE.1 wvX12_89 rfl rfl (kX12_fails hE σ69 h77) rfl (gR_ok (by decide) (by decide)) (Nat.le_of_ble_eq_true rfl) rfl dX12_readStep_23 ?_
    cases h
    exact g_vret (pc := 26) rfl rfl rfl dX12_readStep_26
def fX12_readScript_b55 (n : Nat) (K4 : Int32 → Int32 → gM → Option (gM)) (v1 : Int32) (v2 : Int32) (σ : gM) : Option (gM) := if v2 = 0 then (K4 v1 v2 σ) else (g_let (g_put σ 0 3 ((σ.1 0 3) + 1)) (fun σ25 => K4 v1 v2 σ25))
set_option maxRecDepth 100000 in
theorem tX12_readScript_b55 (hE : gEM l dC dI ad ca X) {σ' : gM} (n : Nat) (K4 : Int32 → Int32 → gM → Option (gM)) (hK4 : ∀ (v1 : Int32) (v2 : Int32) (σ : gM), K4 v1 v2 σ = some σ' → g_G l dC dI ad ca shM X cX12_readScript 3 RX12 none (gR 8) none σ' 4 [(0, .ref 0), (1, .int v1), (2, .int v2)] [] σ) (v1 : Int32) (v2 : Int32)  (σ : gM) (h : fX12_readScript_b55 n K4 v1 v2 σ = some σ') : g_G l dC dI ad ca shM X cX12_readScript 3 RX12 none (gR 8) none σ' 55 [(0, .ref 0), (1, .int v1), (2, .int v2)] [] σ := by
  unfold fX12_readScript_b55 at h
  refine g_iload_n (pc := 55) dX12_readScript_55 rfl 2 rfl ?_
  refine g_if_eq (pc := 56) (tgt := 4) dX12_readScript_56 (by decide) (fun c24 => ?_) (fun c24 => ?_)
  · have h := g_ift c24 h
    exact g_lv [0, 1, 2] rfl (hK4 v1 v2 σ h)
  · have h := g_iff c24 h
    refine g_aload_n (pc := 59) dX12_readScript_59 rfl 0 rfl ?_
    refine g_dup (pc := 60) dX12_readScript_60 rfl ?_
    refine g_getI (pc := 61) wfX12_72 rfl rfl dX12_readScript_61 ?_
    refine g_iconst (pc := 64) (v := 1) dX12_readScript_64 (by decide) ?_
    refine g_iadd (pc := 65) dX12_readScript_65 ?_
    obtain ⟨σ25, e26, h⟩ := g_ltd h
    refine g_putI (pc := 66) wfX12_72 rfl rfl rfl rfl e26 dX12_readScript_66 ?_
    refine g_goto (pc := 69) (tgt := 4) dX12_readScript_69 (by decide) ?_
    exact g_lv [0, 1, 2] rfl (hK4 v1 v2 σ25 h)
def fX12_readScript_b39 (n : Nat) (K4 : Int32 → Int32 → gM → Option (gM)) (v1 : Int32) (s0 : Int32) (σ : gM) : Option (gM) := if s0 = 0 then (fX12_readScript_b55 n K4 v1 s0 σ) else (if v1 = 16 then (g_bV (fX12_fails σ) (fun σ30 => some σ30)) else (fX12_readScript_b55 n K4 v1 s0 σ))
set_option maxRecDepth 100000 in
theorem tX12_readScript_b39 (hE : gEM l dC dI ad ca X) {σ' : gM} (n : Nat) (K4 : Int32 → Int32 → gM → Option (gM)) (hK4 : ∀ (v1 : Int32) (v2 : Int32) (σ : gM), K4 v1 v2 σ = some σ' → g_G l dC dI ad ca shM X cX12_readScript 3 RX12 none (gR 8) none σ' 4 [(0, .ref 0), (1, .int v1), (2, .int v2)] [] σ) (v1 : Int32) (s0 : Int32)  (σ : gM) (h : fX12_readScript_b39 n K4 v1 s0 σ = some σ') : g_G l dC dI ad ca shM X cX12_readScript 3 RX12 none (gR 8) none σ' 39 [(0, .ref 0), (1, .int v1)] [.int s0] σ := by
  unfold fX12_readScript_b39 at h
  refine g_istore_n (pc := 39) (lv1 := [(2, .int s0), (0, .ref 0), (1, .int v1)]) dX12_readScript_39 rfl (by decide) rfl ?_
  refine g_iload_n (pc := 40) dX12_readScript_40 rfl 0 rfl ?_
  refine g_if_eq (pc := 41) (tgt := 55) dX12_readScript_41 (by decide) (fun c27 => ?_) (fun c27 => ?_)
  · have h := g_ift c27 h
    exact g_lv [1, 2, 0] rfl (tX12_readScript_b55 hE n K4 hK4 v1 s0 σ h)
  · have h := g_iff c27 h
    refine g_iload_n (pc := 44) dX12_readScript_44 rfl 2 rfl ?_
    refine g_bipush (pc := 45) (v := 16) dX12_readScript_45 (by decide) ?_
    refine g_icmp_ne (pc := 47) (tgt := 55) dX12_readScript_47 (by decide) (fun c28 => ?_) (fun c28 => ?_)
    · have h := g_iff c28 h
      exact g_lv [1, 2, 0] rfl (tX12_readScript_b55 hE n K4 hK4 v1 s0 σ h)
    · have h := g_ift c28 h
      refine g_aload_n (pc := 50) dX12_readScript_50 rfl 1 rfl ?_
      obtain ⟨σ30, h29, h⟩ := g_bVd h
      refine g_callVv (pc := 51) (st := []) hE.1 wvX12_89 rfl rfl (kX12_fails hE σ h29) rfl (gR_ok (by decide) (by decide)) (Nat.le_of_ble_eq_true rfl) rfl dX12_readScript_51 ?_
      cases h
      exact g_vret (pc := 54) rfl rfl rfl dX12_readScript_54
def fX12_readScript_b4 (n : Nat) (K4 : Int32 → Int32 → gM → Option (gM)) (v1 : Int32) (v2 : Int32) (σ : gM) : Option (gM) := if v2 = 0 then (g_let (g_put σ 7 4 v1) (fun σ32 => g_bI (fX12_look n σ32) (fun r36 σ35 => if r36 = (-1) then (some σ35) else (g_bV (fX12_fails σ35) (fun σ39 => some σ39))))) else (g_bV (fX12_readStep n v1 σ) (fun σ41 => if (σ41.1 0 4) = (-1) then (g_bI (fX12_look n σ41) (fun r45 σ44 => if r45 = 59 then (fX12_readScript_b39 n K4 (v1 + 1) 1 σ44) else (fX12_readScript_b39 n K4 (v1 + 1) 0 σ44))) else (some σ41)))
set_option maxRecDepth 100000 in
theorem tX12_readScript_b4 (hE : gEM l dC dI ad ca X) {σ' : gM} (n : Nat) (K4 : Int32 → Int32 → gM → Option (gM)) (hK4 : ∀ (v1 : Int32) (v2 : Int32) (σ : gM), K4 v1 v2 σ = some σ' → g_G l dC dI ad ca shM X cX12_readScript 3 RX12 none (gR 8) none σ' 4 [(0, .ref 0), (1, .int v1), (2, .int v2)] [] σ) (v1 : Int32) (v2 : Int32)  (σ : gM) (h : fX12_readScript_b4 n K4 v1 v2 σ = some σ') : g_G l dC dI ad ca shM X cX12_readScript 3 RX12 none (gR 8) none σ' 4 [(0, .ref 0), (1, .int v1), (2, .int v2)] [] σ := by
  unfold fX12_readScript_b4 at h
  refine g_iload_n (pc := 4) dX12_readScript_4 rfl 2 rfl ?_
  refine g_if_eq (pc := 5) (tgt := 72) dX12_readScript_5 (by decide) (fun c31 => ?_) (fun c31 => ?_)
  · have h := g_ift c31 h
    refine g_aload_n (pc := 72) dX12_readScript_72 rfl 0 rfl ?_
    refine g_getR (pc := 73) wfX12_29 rfl rfl dX12_readScript_73 ?_
    refine g_iconst (pc := 76) (v := 4) dX12_readScript_76 (by decide) ?_
    refine g_iload_n (pc := 77) dX12_readScript_77 rfl 1 rfl ?_
    obtain ⟨σ32, e33, h⟩ := g_ltd h
    refine g_iast (pc := 78) rfl (by decide) (j := 4) (by decide) e33 dX12_readScript_78 ?_
    refine g_aload_n (pc := 79) dX12_readScript_79 rfl 0 rfl ?_
    obtain ⟨r36, σ35, h34, h⟩ := g_bId h
    refine g_callVi (pc := 80) (st := []) hE.1 wvX12_82 rfl rfl (kX12_look hE n σ32 h34) rfl (gR_ok (by decide) (by decide)) (Nat.le_of_ble_eq_true rfl) rfl dX12_readScript_80 ?_
    refine g_iconst (pc := 83) (v := (-1)) dX12_readScript_83 (by decide) ?_
    refine g_icmp_eq (pc := 84) (tgt := 91) dX12_readScript_84 (by decide) (fun c37 => ?_) (fun c37 => ?_)
    · have h := g_ift c37 h
      cases h
      exact g_vret (pc := 91) rfl rfl rfl dX12_readScript_91
    · have h := g_iff c37 h
      refine g_aload_n (pc := 87) dX12_readScript_87 rfl 0 rfl ?_
      obtain ⟨σ39, h38, h⟩ := g_bVd h
      refine g_callVv (pc := 88) (st := []) hE.1 wvX12_89 rfl rfl (kX12_fails hE σ35 h38) rfl (gR_ok (by decide) (by decide)) (Nat.le_of_ble_eq_true rfl) rfl dX12_readScript_88 ?_
      cases h
      exact g_vret (pc := 91) rfl rfl rfl dX12_readScript_91
  · have h := g_iff c31 h
    refine g_aload_n (pc := 8) dX12_readScript_8 rfl 0 rfl ?_
    refine g_iload_n (pc := 9) dX12_readScript_9 rfl 1 rfl ?_
    obtain ⟨σ41, h40, h⟩ := g_bVd h
    refine g_callVv (pc := 10) (st := []) hE.1 wvX12_141 rfl rfl (kX12_readStep hE n v1 σ h40) rfl (gR_ok (by decide) (by decide)) (Nat.le_of_ble_eq_true rfl) rfl dX12_readScript_10 ?_
    refine g_aload_n (pc := 13) dX12_readScript_13 rfl 0 rfl ?_
    refine g_getI (pc := 14) wfX12_79 rfl rfl dX12_readScript_14 ?_
    refine g_iconst (pc := 17) (v := (-1)) dX12_readScript_17 (by decide) ?_
    refine g_icmp_eq (pc := 18) (tgt := 22) dX12_readScript_18 (by decide) (fun c42 => ?_) (fun c42 => ?_)
    · have h := g_ift c42 h
      refine g_iinc (pc := 22) (v := v1 + 1) (lv1 := [(1, .int (v1 + 1)), (0, .ref 0), (2, .int v2)]) dX12_readScript_22 1 rfl rfl (by decide) rfl ?_
      refine g_aload_n (pc := 25) dX12_readScript_25 rfl 1 rfl ?_
      obtain ⟨r45, σ44, h43, h⟩ := g_bId h
      refine g_callVi (pc := 26) (st := []) hE.1 wvX12_82 rfl rfl (kX12_look hE n σ41 h43) rfl (gR_ok (by decide) (by decide)) (Nat.le_of_ble_eq_true rfl) rfl dX12_readScript_26 ?_
      refine g_bipush (pc := 29) (v := 59) dX12_readScript_29 (by decide) ?_
      refine g_icmp_ne (pc := 31) (tgt := 38) dX12_readScript_31 (by decide) (fun c46 => ?_) (fun c46 => ?_)
      · have h := g_iff c46 h
        refine g_iconst (pc := 38) (v := 0) dX12_readScript_38 (by decide) ?_
        exact g_lv [1, 0] rfl (tX12_readScript_b39 hE n K4 hK4 (v1 + 1) 0 σ44 h)
      · have h := g_ift c46 h
        refine g_iconst (pc := 34) (v := 1) dX12_readScript_34 (by decide) ?_
        refine g_goto (pc := 35) (tgt := 39) dX12_readScript_35 (by decide) ?_
        exact g_lv [1, 0] rfl (tX12_readScript_b39 hE n K4 hK4 (v1 + 1) 1 σ44 h)
    · have h := g_iff c42 h
      cases h
      exact g_vret (pc := 21) rfl rfl rfl dX12_readScript_21
def fX12_readScript_L4 (n : Nat) : Nat → Int32 → Int32 → gM → Option (gM)
  | 0 => fun _ _ _ => none
  | k + 1 => fX12_readScript_b4 n (fX12_readScript_L4 n k)
theorem tX12_readScript_L4 (hE : gEM l dC dI ad ca X) {σ' : gM} (n : Nat)  : ∀ (k : Nat) (v1 : Int32) (v2 : Int32) (σ : gM), fX12_readScript_L4 n k v1 v2 σ = some σ' → g_G l dC dI ad ca shM X cX12_readScript 3 RX12 none (gR 8) none σ' 4 [(0, .ref 0), (1, .int v1), (2, .int v2)] [] σ := by
  intro k
  induction k with
  | zero => intro v1 v2 σ h; cases h
  | succ k ih => intro v1 v2 σ h; exact tX12_readScript_b4 hE n (fX12_readScript_L4 n k) ih v1 v2 σ h
def fX12_readScript (n : Nat) (σ : gM) : Option (gM) := fX12_readScript_L4 n n 0 1 σ
set_option maxRecDepth 100000 in
theorem kX12_readScript (hE : gEM l dC dI ad ca X) (n : Nat)  (σ : gM) {σ' : gM} (h : fX12_readScript n σ = some σ') : g_C l dC dI ad ca shM X yX12_readScript cX12_readScript 3 none (gR 8) [.ref 0] σ none σ' := by
  refine g_entry (by decide +kernel) (Nat.le_of_ble_eq_true rfl) ?_
  refine g_lvE (lv1 := [(0, .ref 0)]) rfl ?_
  unfold fX12_readScript at h
  refine g_iconst (pc := 0) (v := 0) dX12_readScript_0 (by decide) ?_
  refine g_istore_n (pc := 1) (lv1 := [(1, .int 0), (0, .ref 0)]) dX12_readScript_1 rfl (by decide) rfl ?_
  refine g_iconst (pc := 2) (v := 1) dX12_readScript_2 (by decide) ?_
  refine g_istore_n (pc := 3) (lv1 := [(2, .int 1), (1, .int 0), (0, .ref 0)]) dX12_readScript_3 rfl (by decide) rfl ?_
  exact g_lv [2, 1, 0] rfl (tX12_readScript_L4 hE n n 0 1 σ h)
def fX12_fault_b43 (n : Nat) (σ : gM) : Option (Int32 × gM) := some (σ.1 0 4, σ)
set_option maxRecDepth 100000 in
theorem tX12_fault_b43 (hE : gEM l dC dI ad ca X) {r0 : Int32} {σ' : gM} (n : Nat)  (σ : gM) (h : fX12_fault_b43 n σ = some (r0, σ')) : g_G l dC dI ad ca shM X cX12_fault 2 RX12 (some .int) (gR 10) (some (.int r0)) σ' 43 [(0, .ref 0)] [] σ := by
  unfold fX12_fault_b43 at h
  refine g_aload_n (pc := 43) dX12_fault_43 rfl 0 rfl ?_
  refine g_getI (pc := 44) wfX12_79 rfl rfl dX12_fault_44 ?_
  cases h
  exact g_iret (pc := 47) rfl rfl rfl rfl dX12_fault_47
def fX12_fault (n : Nat) (v1 : Int32) (σ : gM) : Option (Int32 × gM) := g_let (g_put σ 0 0 0) (fun σ16 => g_bI (fX12_isIn v1.toInt64 0 1 σ16) (fun r20 σ19 => if r20 = 0 then (some ((-2), σ19)) else (g_let (g_put σ19 0 3 0) (fun σ22 => g_let (g_put σ22 0 4 (-1)) (fun σ24 => if v1 = 0 then (g_bV (fX12_readShelf n σ24) (fun σ30 => fX12_fault_b43 n σ30)) else (g_bV (fX12_readScript n σ24) (fun σ28 => fX12_fault_b43 n σ28)))))))
set_option maxRecDepth 100000 in
theorem kX12_fault (hE : gEM l dC dI ad ca X) (n : Nat)  (v1 : Int32) (σ : gM) {r0 : Int32} {σ' : gM} (h : fX12_fault n v1 σ = some (r0, σ')) : g_C l dC dI ad ca shM X yX12_fault cX12_fault 2 (some .int) (gR 10) [.ref 0, .int v1] σ (some (.int r0)) σ' := by
  refine g_entry (by decide +kernel) (Nat.le_of_ble_eq_true rfl) ?_
  refine g_lvE (lv1 := [(0, .ref 0), (1, .int v1)]) rfl ?_
  unfold fX12_fault at h
  refine g_aload_n (pc := 0) dX12_fault_0 rfl 0 rfl ?_
  refine g_iconst (pc := 1) (v := 0) dX12_fault_1 (by decide) ?_
  obtain ⟨σ16, e17, h⟩ := g_ltd h
  refine g_putI (pc := 2) wfX12_57 rfl rfl rfl rfl e17 dX12_fault_2 ?_
  refine g_iload_n (pc := 5) dX12_fault_5 rfl 1 rfl ?_
  refine g_i2l (pc := 6) dX12_fault_6 ?_
  refine g_lconst (pc := 7) (v := 0) dX12_fault_7 (by decide) ?_
  refine g_lconst (pc := 8) (v := 1) dX12_fault_8 (by decide) ?_
  obtain ⟨r20, σ19, h18, h⟩ := g_bId h
  refine g_callSi (pc := 9) (st := []) hE.1 wsX12_117 (kX12_isIn hE v1.toInt64 0 1 σ16 h18) rfl (gR_ok (by decide) (by decide)) (Nat.le_of_ble_eq_true rfl) rfl dX12_fault_9 ?_
  refine g_if_ne (pc := 12) (tgt := 18) dX12_fault_12 (by decide) (fun c21 => ?_) (fun c21 => ?_)
  · have h := g_iff c21 h
    refine g_aload_n (pc := 18) dX12_fault_18 rfl 0 rfl ?_
    refine g_iconst (pc := 19) (v := 0) dX12_fault_19 (by decide) ?_
    obtain ⟨σ22, e23, h⟩ := g_ltd h
    refine g_putI (pc := 20) wfX12_72 rfl rfl rfl rfl e23 dX12_fault_20 ?_
    refine g_aload_n (pc := 23) dX12_fault_23 rfl 0 rfl ?_
    refine g_iconst (pc := 24) (v := (-1)) dX12_fault_24 (by decide) ?_
    obtain ⟨σ24, e25, h⟩ := g_ltd h
    refine g_putI (pc := 25) wfX12_79 rfl rfl rfl rfl e25 dX12_fault_25 ?_
    refine g_iload_n (pc := 28) dX12_fault_28 rfl 1 rfl ?_
    refine g_if_ne (pc := 29) (tgt := 39) dX12_fault_29 (by decide) (fun c26 => ?_) (fun c26 => ?_)
    · have h := g_iff c26 h
      refine g_aload_n (pc := 39) dX12_fault_39 rfl 0 rfl ?_
      obtain ⟨σ28, h27, h⟩ := g_bVd h
      refine g_callVv (pc := 40) (st := []) hE.1 wvX12_147 rfl rfl (kX12_readScript hE n σ24 h27) rfl (gR_ok (by decide) (by decide)) (Nat.le_of_ble_eq_true rfl) rfl dX12_fault_40 ?_
      exact g_lv [0] rfl (tX12_fault_b43 hE n σ28 h)
    · have h := g_ift c26 h
      refine g_aload_n (pc := 32) dX12_fault_32 rfl 0 rfl ?_
      obtain ⟨σ30, h29, h⟩ := g_bVd h
      refine g_callVv (pc := 33) (st := []) hE.1 wvX12_144 rfl rfl (kX12_readShelf hE n σ24 h29) rfl (gR_ok (by decide) (by decide)) (Nat.le_of_ble_eq_true rfl) rfl dX12_fault_33 ?_
      refine g_goto (pc := 36) (tgt := 43) dX12_fault_36 (by decide) ?_
      exact g_lv [0] rfl (tX12_fault_b43 hE n σ30 h)
  · have h := g_ift c21 h
    refine g_bipush (pc := 15) (v := (-2)) dX12_fault_15 (by decide) ?_
    cases h
    exact g_iret (pc := 17) rfl rfl rfl rfl dX12_fault_17
def fX12_modulusOf (v0 : Int32) (σ : gM) : Option (Int32 × gM) := if v0 = 0 then (some (285, σ)) else (if v0 = 1 then (some (299, σ)) else (if v0 = 2 then (some (301, σ)) else (some (333, σ))))
set_option maxRecDepth 100000 in
theorem kX12_modulusOf (hE : gEM l dC dI ad ca X)  (v0 : Int32) (σ : gM) {r0 : Int32} {σ' : gM} (h : fX12_modulusOf v0 σ = some (r0, σ')) : g_C l dC dI ad ca shM X yX12_modulusOf cX12_modulusOf 1 (some .int) (gR 0) [.int v0] σ (some (.int r0)) σ' := by
  refine g_entry (by decide +kernel) (Nat.le_of_ble_eq_true rfl) ?_
  refine g_lvE (lv1 := [(0, .int v0)]) rfl ?_
  unfold fX12_modulusOf at h
  refine g_iload_n (pc := 0) dX12_modulusOf_0 rfl 0 rfl ?_
  refine g_if_ne (pc := 1) (tgt := 10) dX12_modulusOf_1 (by decide) (fun c4 => ?_) (fun c4 => ?_)
  · have h := g_iff c4 h
    refine g_iload_n (pc := 10) dX12_modulusOf_10 rfl 0 rfl ?_
    refine g_iconst (pc := 11) (v := 1) dX12_modulusOf_11 (by decide) ?_
    refine g_icmp_ne (pc := 12) (tgt := 21) dX12_modulusOf_12 (by decide) (fun c5 => ?_) (fun c5 => ?_)
    · have h := g_iff c5 h
      refine g_iload_n (pc := 21) dX12_modulusOf_21 rfl 0 rfl ?_
      refine g_iconst (pc := 22) (v := 2) dX12_modulusOf_22 (by decide) ?_
      refine g_icmp_ne (pc := 23) (tgt := 32) dX12_modulusOf_23 (by decide) (fun c6 => ?_) (fun c6 => ?_)
      · have h := g_iff c6 h
        refine g_sipush (pc := 32) (v := 333) dX12_modulusOf_32 (by decide) ?_
        cases h
        exact g_iret (pc := 35) rfl rfl rfl rfl dX12_modulusOf_35
      · have h := g_ift c6 h
        refine g_sipush (pc := 26) (v := 301) dX12_modulusOf_26 (by decide) ?_
        refine g_goto (pc := 29) (tgt := 35) dX12_modulusOf_29 (by decide) ?_
        cases h
        exact g_iret (pc := 35) rfl rfl rfl rfl dX12_modulusOf_35
    · have h := g_ift c5 h
      refine g_sipush (pc := 15) (v := 299) dX12_modulusOf_15 (by decide) ?_
      refine g_goto (pc := 18) (tgt := 35) dX12_modulusOf_18 (by decide) ?_
      cases h
      exact g_iret (pc := 35) rfl rfl rfl rfl dX12_modulusOf_35
  · have h := g_ift c4 h
    refine g_sipush (pc := 4) (v := 285) dX12_modulusOf_4 (by decide) ?_
    refine g_goto (pc := 7) (tgt := 35) dX12_modulusOf_7 (by decide) ?_
    cases h
    exact g_iret (pc := 35) rfl rfl rfl rfl dX12_modulusOf_35
def fX12_laysField_b48 (n : Nat) (K4 : Int32 → Int32 → gM → Option (gM)) (v1 : Int32) (v2 : Int32) (σ : gM) : Option (gM) := K4 v1 (v2 + 1) σ
set_option maxRecDepth 100000 in
theorem tX12_laysField_b48 (hE : gEM l dC dI ad ca X) {σ' : gM} (n : Nat) (K4 : Int32 → Int32 → gM → Option (gM)) (hK4 : ∀ (v1 : Int32) (v2 : Int32) (σ : gM), K4 v1 v2 σ = some σ' → g_G l dC dI ad ca shM X cX12_laysField 3 RX12 none (gR 1) none σ' 4 [(0, .ref 0), (1, .int v1), (2, .int v2)] [] σ) (v1 : Int32) (v2 : Int32)  (σ : gM) (h : fX12_laysField_b48 n K4 v1 v2 σ = some σ') : g_G l dC dI ad ca shM X cX12_laysField 3 RX12 none (gR 1) none σ' 48 [(0, .ref 0), (1, .int v1), (2, .int v2)] [] σ := by
  unfold fX12_laysField_b48 at h
  refine g_iinc (pc := 48) (v := v2 + 1) (lv1 := [(2, .int (v2 + 1)), (0, .ref 0), (1, .int v1)]) dX12_laysField_48 2 rfl rfl (by decide) rfl ?_
  refine g_goto (pc := 51) (tgt := 4) dX12_laysField_51 (by decide) ?_
  exact g_lv [1, 2, 0] rfl (hK4 v1 (v2 + 1) σ h)
def fX12_laysField_b4 (n : Nat) (K4 : Int32 → Int32 → gM → Option (gM)) (v1 : Int32) (v2 : Int32) (σ : gM) : Option (gM) := if 255 ≤ v2 then (some σ) else (if ¬ (v2 < 0 ∨ 255 ≤ v2.toNatClampNeg) then (g_let (g_put σ 8 v2.toNatClampNeg v1) (fun σ14 => if ¬ (v1 < 0 ∨ 256 ≤ v1.toNatClampNeg) then (g_let (g_put σ14 9 v1.toNatClampNeg v2) (fun σ17 => if (2 * v1) ≤ 255 then (fX12_laysField_b48 n K4 (2 * v1) v2 σ17) else (g_bI (fX12_modulusOf (σ17.1 3 3) σ17) (fun r22 σ21 => fX12_laysField_b48 n K4 ((2 * v1) ^^^ r22) v2 σ21)))) else none)) else none)
set_option maxRecDepth 100000 in
theorem tX12_laysField_b4 (hE : gEM l dC dI ad ca X) {σ' : gM} (n : Nat) (K4 : Int32 → Int32 → gM → Option (gM)) (hK4 : ∀ (v1 : Int32) (v2 : Int32) (σ : gM), K4 v1 v2 σ = some σ' → g_G l dC dI ad ca shM X cX12_laysField 3 RX12 none (gR 1) none σ' 4 [(0, .ref 0), (1, .int v1), (2, .int v2)] [] σ) (v1 : Int32) (v2 : Int32)  (σ : gM) (h : fX12_laysField_b4 n K4 v1 v2 σ = some σ') : g_G l dC dI ad ca shM X cX12_laysField 3 RX12 none (gR 1) none σ' 4 [(0, .ref 0), (1, .int v1), (2, .int v2)] [] σ := by
  unfold fX12_laysField_b4 at h
  refine g_iload_n (pc := 4) dX12_laysField_4 rfl 2 rfl ?_
  refine g_sipush (pc := 5) (v := 255) dX12_laysField_5 (by decide) ?_
  refine g_icmp_ge (pc := 8) (tgt := 54) dX12_laysField_8 (by decide) (fun c12 => ?_) (fun c12 => ?_)
  · have h := g_ift c12 h
    cases h
    exact g_vret (pc := 54) rfl rfl rfl dX12_laysField_54
  · have h := g_iff c12 h
    refine g_aload_n (pc := 11) dX12_laysField_11 rfl 0 rfl ?_
    refine g_getR (pc := 12) wfX12_32 rfl rfl dX12_laysField_12 ?_
    refine g_iload_n (pc := 15) dX12_laysField_15 rfl 2 rfl ?_
    refine g_iload_n (pc := 16) dX12_laysField_16 rfl 1 rfl ?_
    obtain ⟨c13, h⟩ := g_gd h
    obtain ⟨σ14, e15, h⟩ := g_ltd h
    refine g_iast (pc := 17) rfl c13 rfl e15 dX12_laysField_17 ?_
    refine g_aload_n (pc := 18) dX12_laysField_18 rfl 0 rfl ?_
    refine g_getR (pc := 19) wfX12_35 rfl rfl dX12_laysField_19 ?_
    refine g_iload_n (pc := 22) dX12_laysField_22 rfl 1 rfl ?_
    refine g_iload_n (pc := 23) dX12_laysField_23 rfl 2 rfl ?_
    obtain ⟨c16, h⟩ := g_gd h
    obtain ⟨σ17, e18, h⟩ := g_ltd h
    refine g_iast (pc := 24) rfl c16 rfl e18 dX12_laysField_24 ?_
    refine g_iconst (pc := 25) (v := 2) dX12_laysField_25 (by decide) ?_
    refine g_iload_n (pc := 26) dX12_laysField_26 rfl 1 rfl ?_
    refine g_imul (pc := 27) dX12_laysField_27 ?_
    refine g_istore_n (pc := 28) (lv1 := [(1, .int (2 * v1)), (0, .ref 0), (2, .int v2)]) dX12_laysField_28 rfl (by decide) rfl ?_
    refine g_iload_n (pc := 29) dX12_laysField_29 rfl 0 rfl ?_
    refine g_sipush (pc := 30) (v := 255) dX12_laysField_30 (by decide) ?_
    refine g_icmp_le (pc := 33) (tgt := 48) dX12_laysField_33 (by decide) (fun c19 => ?_) (fun c19 => ?_)
    · have h := g_ift c19 h
      exact g_lv [1, 0, 2] rfl (tX12_laysField_b48 hE n K4 hK4 (2 * v1) v2 σ17 h)
    · have h := g_iff c19 h
      refine g_iload_n (pc := 36) dX12_laysField_36 rfl 0 rfl ?_
      refine g_aload_n (pc := 37) dX12_laysField_37 rfl 1 rfl ?_
      refine g_getR (pc := 38) wfX12_17 rfl rfl dX12_laysField_38 ?_
      refine g_iconst (pc := 41) (v := 3) dX12_laysField_41 (by decide) ?_
      refine g_iald (pc := 42) rfl (by decide) (j := 3) (by decide) dX12_laysField_42 ?_
      obtain ⟨r22, σ21, h20, h⟩ := g_bId h
      refine g_callSi (pc := 43) (st := [.int (2 * v1)]) hE.1 wsX12_150 (kX12_modulusOf hE (σ17.1 3 3) σ17 h20) rfl (gR_ok (by decide) (by decide)) (Nat.le_of_ble_eq_true rfl) rfl dX12_laysField_43 ?_
      refine g_ixor (pc := 46) dX12_laysField_46 ?_
      refine g_istore_n (pc := 47) (lv1 := [(1, .int ((2 * v1) ^^^ r22)), (0, .ref 0), (2, .int v2)]) dX12_laysField_47 rfl (by decide) rfl ?_
      exact g_lv [1, 0, 2] rfl (tX12_laysField_b48 hE n K4 hK4 ((2 * v1) ^^^ r22) v2 σ21 h)
def fX12_laysField_L4 (n : Nat) : Nat → Int32 → Int32 → gM → Option (gM)
  | 0 => fun _ _ _ => none
  | k + 1 => fX12_laysField_b4 n (fX12_laysField_L4 n k)
theorem tX12_laysField_L4 (hE : gEM l dC dI ad ca X) {σ' : gM} (n : Nat)  : ∀ (k : Nat) (v1 : Int32) (v2 : Int32) (σ : gM), fX12_laysField_L4 n k v1 v2 σ = some σ' → g_G l dC dI ad ca shM X cX12_laysField 3 RX12 none (gR 1) none σ' 4 [(0, .ref 0), (1, .int v1), (2, .int v2)] [] σ := by
  intro k
  induction k with
  | zero => intro v1 v2 σ h; cases h
  | succ k ih => intro v1 v2 σ h; exact tX12_laysField_b4 hE n (fX12_laysField_L4 n k) ih v1 v2 σ h
def fX12_laysField (n : Nat) (σ : gM) : Option (gM) := fX12_laysField_L4 n n 1 0 σ
set_option maxRecDepth 100000 in
theorem kX12_laysField (hE : gEM l dC dI ad ca X) (n : Nat)  (σ : gM) {σ' : gM} (h : fX12_laysField n σ = some σ') : g_C l dC dI ad ca shM X yX12_laysField cX12_laysField 3 none (gR 1) [.ref 0] σ none σ' := by
  refine g_entry (by decide +kernel) (Nat.le_of_ble_eq_true rfl) ?_
  refine g_lvE (lv1 := [(0, .ref 0)]) rfl ?_
  unfold fX12_laysField at h
  refine g_iconst (pc := 0) (v := 1) dX12_laysField_0 (by decide) ?_
  refine g_istore_n (pc := 1) (lv1 := [(1, .int 1), (0, .ref 0)]) dX12_laysField_1 rfl (by decide) rfl ?_
  refine g_iconst (pc := 2) (v := 0) dX12_laysField_2 (by decide) ?_
  refine g_istore_n (pc := 3) (lv1 := [(2, .int 0), (1, .int 1), (0, .ref 0)]) dX12_laysField_3 rfl (by decide) rfl ?_
  exact g_lv [2, 1, 0] rfl (tX12_laysField_L4 hE n n 1 0 σ h)
def fX12_product_b8 (σ : gM) : Option (Int32 × gM) := some (0, σ)
set_option maxRecDepth 100000 in
theorem tX12_product_b8 (hE : gEM l dC dI ad ca X) {r0 : Int32} {σ' : gM}  (σ : gM) (h : fX12_product_b8 σ = some (r0, σ')) : g_G l dC dI ad ca shM X cX12_product 3 RX12 (some .int) (gR 0) (some (.int r0)) σ' 8 [] [] σ := by
  unfold fX12_product_b8 at h
  refine g_iconst (pc := 8) (v := 0) dX12_product_8 (by decide) ?_
  refine g_goto (pc := 9) (tgt := 34) dX12_product_9 (by decide) ?_
  cases h
  exact g_iret (pc := 34) rfl rfl rfl rfl dX12_product_34
def fX12_product (v1 : Int32) (v2 : Int32) (σ : gM) : Option (Int32 × gM) := if v1 = 0 then (fX12_product_b8 σ) else (if v2 = 0 then (fX12_product_b8 σ) else (if ¬ (v1 < 0 ∨ 256 ≤ v1.toNatClampNeg) then (if ¬ (v2 < 0 ∨ 256 ≤ v2.toNatClampNeg) then (if ¬ ((((σ.1 9 v1.toNatClampNeg) + (σ.1 9 v2.toNatClampNeg)) - ((σ.1 9 v1.toNatClampNeg) + (σ.1 9 v2.toNatClampNeg)) / 255 * 255) < 0 ∨ 255 ≤ (((σ.1 9 v1.toNatClampNeg) + (σ.1 9 v2.toNatClampNeg)) - ((σ.1 9 v1.toNatClampNeg) + (σ.1 9 v2.toNatClampNeg)) / 255 * 255).toNatClampNeg) then (some (σ.1 8 ((((σ.1 9 v1.toNatClampNeg) + (σ.1 9 v2.toNatClampNeg)) - ((σ.1 9 v1.toNatClampNeg) + (σ.1 9 v2.toNatClampNeg)) / 255 * 255).toNatClampNeg), σ)) else none) else none) else none))
set_option maxRecDepth 100000 in
theorem kX12_product (hE : gEM l dC dI ad ca X)  (v1 : Int32) (v2 : Int32) (σ : gM) {r0 : Int32} {σ' : gM} (h : fX12_product v1 v2 σ = some (r0, σ')) : g_C l dC dI ad ca shM X yX12_product cX12_product 3 (some .int) (gR 0) [.ref 0, .int v1, .int v2] σ (some (.int r0)) σ' := by
  refine g_entry (by decide +kernel) (Nat.le_of_ble_eq_true rfl) ?_
  refine g_lvE (lv1 := [(0, .ref 0), (1, .int v1), (2, .int v2)]) rfl ?_
  unfold fX12_product at h
  refine g_iload_n (pc := 0) dX12_product_0 rfl 1 rfl ?_
  refine g_if_eq (pc := 1) (tgt := 8) dX12_product_1 (by decide) (fun c6 => ?_) (fun c6 => ?_)
  · have h := g_ift c6 h
    exact g_lv [] rfl (tX12_product_b8 hE σ h)
  · have h := g_iff c6 h
    refine g_iload_n (pc := 4) dX12_product_4 rfl 2 rfl ?_
    refine g_if_ne (pc := 5) (tgt := 12) dX12_product_5 (by decide) (fun c7 => ?_) (fun c7 => ?_)
    · have h := g_iff c7 h
      refine g_aload_n (pc := 12) dX12_product_12 rfl 0 rfl ?_
      refine g_getR (pc := 13) wfX12_32 rfl rfl dX12_product_13 ?_
      refine g_aload_n (pc := 16) dX12_product_16 rfl 0 rfl ?_
      refine g_getR (pc := 17) wfX12_35 rfl rfl dX12_product_17 ?_
      refine g_iload_n (pc := 20) dX12_product_20 rfl 1 rfl ?_
      obtain ⟨c8, h⟩ := g_gd h
      refine g_iald (pc := 21) rfl c8 rfl dX12_product_21 ?_
      refine g_aload_n (pc := 22) dX12_product_22 rfl 0 rfl ?_
      refine g_getR (pc := 23) wfX12_35 rfl rfl dX12_product_23 ?_
      refine g_iload_n (pc := 26) dX12_product_26 rfl 2 rfl ?_
      obtain ⟨c9, h⟩ := g_gd h
      refine g_iald (pc := 27) rfl c9 rfl dX12_product_27 ?_
      refine g_iadd (pc := 28) dX12_product_28 ?_
      refine g_sipush (pc := 29) (v := 255) dX12_product_29 (by decide) ?_
      refine g_irem (pc := 32) dX12_product_32 (by decide) ?_
      obtain ⟨c10, h⟩ := g_gd h
      refine g_iald (pc := 33) rfl c10 rfl dX12_product_33 ?_
      cases h
      exact g_iret (pc := 34) rfl rfl rfl rfl dX12_product_34
    · have h := g_ift c7 h
      exact g_lv [] rfl (tX12_product_b8 hE σ h)
def fX12_quotient (v1 : Int32) (v2 : Int32) (σ : gM) : Option (Int32 × gM) := if v1 = 0 then (some (0, σ)) else (if ¬ (v1 < 0 ∨ 256 ≤ v1.toNatClampNeg) then (if ¬ (v2 < 0 ∨ 256 ≤ v2.toNatClampNeg) then (if ¬ (((((σ.1 9 v1.toNatClampNeg) - (σ.1 9 v2.toNatClampNeg)) + 255) - (((σ.1 9 v1.toNatClampNeg) - (σ.1 9 v2.toNatClampNeg)) + 255) / 255 * 255) < 0 ∨ 255 ≤ ((((σ.1 9 v1.toNatClampNeg) - (σ.1 9 v2.toNatClampNeg)) + 255) - (((σ.1 9 v1.toNatClampNeg) - (σ.1 9 v2.toNatClampNeg)) + 255) / 255 * 255).toNatClampNeg) then (some (σ.1 8 (((((σ.1 9 v1.toNatClampNeg) - (σ.1 9 v2.toNatClampNeg)) + 255) - (((σ.1 9 v1.toNatClampNeg) - (σ.1 9 v2.toNatClampNeg)) + 255) / 255 * 255).toNatClampNeg), σ)) else none) else none) else none)
set_option maxRecDepth 100000 in
theorem kX12_quotient (hE : gEM l dC dI ad ca X)  (v1 : Int32) (v2 : Int32) (σ : gM) {r0 : Int32} {σ' : gM} (h : fX12_quotient v1 v2 σ = some (r0, σ')) : g_C l dC dI ad ca shM X yX12_quotient cX12_quotient 3 (some .int) (gR 0) [.ref 0, .int v1, .int v2] σ (some (.int r0)) σ' := by
  refine g_entry (by decide +kernel) (Nat.le_of_ble_eq_true rfl) ?_
  refine g_lvE (lv1 := [(0, .ref 0), (1, .int v1), (2, .int v2)]) rfl ?_
  unfold fX12_quotient at h
  refine g_iload_n (pc := 0) dX12_quotient_0 rfl 1 rfl ?_
  refine g_if_ne (pc := 1) (tgt := 8) dX12_quotient_1 (by decide) (fun c5 => ?_) (fun c5 => ?_)
  · have h := g_iff c5 h
    refine g_aload_n (pc := 8) dX12_quotient_8 rfl 0 rfl ?_
    refine g_getR (pc := 9) wfX12_32 rfl rfl dX12_quotient_9 ?_
    refine g_aload_n (pc := 12) dX12_quotient_12 rfl 0 rfl ?_
    refine g_getR (pc := 13) wfX12_35 rfl rfl dX12_quotient_13 ?_
    refine g_iload_n (pc := 16) dX12_quotient_16 rfl 1 rfl ?_
    obtain ⟨c6, h⟩ := g_gd h
    refine g_iald (pc := 17) rfl c6 rfl dX12_quotient_17 ?_
    refine g_aload_n (pc := 18) dX12_quotient_18 rfl 0 rfl ?_
    refine g_getR (pc := 19) wfX12_35 rfl rfl dX12_quotient_19 ?_
    refine g_iload_n (pc := 22) dX12_quotient_22 rfl 2 rfl ?_
    obtain ⟨c7, h⟩ := g_gd h
    refine g_iald (pc := 23) rfl c7 rfl dX12_quotient_23 ?_
    refine g_isub (pc := 24) dX12_quotient_24 ?_
    refine g_sipush (pc := 25) (v := 255) dX12_quotient_25 (by decide) ?_
    refine g_iadd (pc := 28) dX12_quotient_28 ?_
    refine g_sipush (pc := 29) (v := 255) dX12_quotient_29 (by decide) ?_
    refine g_irem (pc := 32) dX12_quotient_32 (by decide) ?_
    obtain ⟨c8, h⟩ := g_gd h
    refine g_iald (pc := 33) rfl c8 rfl dX12_quotient_33 ?_
    cases h
    exact g_iret (pc := 34) rfl rfl rfl rfl dX12_quotient_34
  · have h := g_ift c5 h
    refine g_iconst (pc := 4) (v := 0) dX12_quotient_4 (by decide) ?_
    refine g_goto (pc := 5) (tgt := 34) dX12_quotient_5 (by decide) ?_
    cases h
    exact g_iret (pc := 34) rfl rfl rfl rfl dX12_quotient_34
def fX12_isByte (v0 : Int32) (σ : gM) : Option (Int32 × gM) := if v0 < 0 then (some (0, σ)) else (if 255 < v0 then (some (0, σ)) else (some (1, σ)))
set_option maxRecDepth 100000 in
theorem kX12_isByte (hE : gEM l dC dI ad ca X)  (v0 : Int32) (σ : gM) {r0 : Int32} {σ' : gM} (h : fX12_isByte v0 σ = some (r0, σ')) : g_C l dC dI ad ca shM X yX12_isByte cX12_isByte 1 (some .boolean) (gR 0) [.int v0] σ (some (.int r0)) σ' := by
  refine g_entry (by decide +kernel) (Nat.le_of_ble_eq_true rfl) ?_
  refine g_lvE (lv1 := [(0, .int v0)]) rfl ?_
  unfold fX12_isByte at h
  refine g_iload_n (pc := 0) dX12_isByte_0 rfl 0 rfl ?_
  refine g_if_lt (pc := 1) (tgt := 15) dX12_isByte_1 (by decide) (fun c3 => ?_) (fun c3 => ?_)
  · have h := g_ift c3 h
    refine g_iconst (pc := 15) (v := 0) dX12_isByte_15 (by decide) ?_
    cases h
    exact g_iret (pc := 16) rfl (by decide) rfl rfl dX12_isByte_16
  · have h := g_iff c3 h
    refine g_iload_n (pc := 4) dX12_isByte_4 rfl 0 rfl ?_
    refine g_sipush (pc := 5) (v := 255) dX12_isByte_5 (by decide) ?_
    refine g_icmp_gt (pc := 8) (tgt := 15) dX12_isByte_8 (by decide) (fun c4 => ?_) (fun c4 => ?_)
    · have h := g_ift c4 h
      refine g_iconst (pc := 15) (v := 0) dX12_isByte_15 (by decide) ?_
      cases h
      exact g_iret (pc := 16) rfl (by decide) rfl rfl dX12_isByte_16
    · have h := g_iff c4 h
      refine g_iconst (pc := 11) (v := 1) dX12_isByte_11 (by decide) ?_
      refine g_goto (pc := 12) (tgt := 16) dX12_isByte_12 (by decide) ?_
      cases h
      exact g_iret (pc := 16) rfl (by decide) rfl rfl dX12_isByte_16
def fX12_times (v1 : Int32) (v2 : Int32) (σ : gM) : Option (Int32 × gM) := g_let (g_put σ 0 0 0) (fun σ15 => if (σ15.1 0 14) ≤ 0 then (some ((-1), σ15)) else (g_bI (fX12_isByte v1 σ15) (fun r20 σ19 => if r20 = 0 then (some ((-1), σ19)) else (g_bI (fX12_isByte v2 σ19) (fun r24 σ23 => if r24 = 0 then (some ((-1), σ23)) else (g_bI (fX12_product v1 v2 σ23) (fun r28 σ27 => some (r28, σ27))))))))
set_option maxRecDepth 100000 in
theorem kX12_times (hE : gEM l dC dI ad ca X)  (v1 : Int32) (v2 : Int32) (σ : gM) {r0 : Int32} {σ' : gM} (h : fX12_times v1 v2 σ = some (r0, σ')) : g_C l dC dI ad ca shM X yX12_times cX12_times 3 (some .int) (gR 1) [.ref 0, .int v1, .int v2] σ (some (.int r0)) σ' := by
  refine g_entry (by decide +kernel) (Nat.le_of_ble_eq_true rfl) ?_
  refine g_lvE (lv1 := [(0, .ref 0), (1, .int v1), (2, .int v2)]) rfl ?_
  unfold fX12_times at h
  refine g_aload_n (pc := 0) dX12_times_0 rfl 0 rfl ?_
  refine g_iconst (pc := 1) (v := 0) dX12_times_1 (by decide) ?_
  obtain ⟨σ15, e16, h⟩ := g_ltd h
  refine g_putI (pc := 2) wfX12_57 rfl rfl rfl rfl e16 dX12_times_2 ?_
  refine g_aload_n (pc := 5) dX12_times_5 rfl 0 rfl ?_
  refine g_getI (pc := 6) wfX12_153 rfl rfl dX12_times_6 ?_
  refine g_if_le (pc := 9) (tgt := 35) dX12_times_9 (by decide) (fun c17 => ?_) (fun c17 => ?_)
  · have h := g_ift c17 h
    refine g_iconst (pc := 35) (v := (-1)) dX12_times_35 (by decide) ?_
    cases h
    exact g_iret (pc := 36) rfl rfl rfl rfl dX12_times_36
  · have h := g_iff c17 h
    refine g_iload_n (pc := 12) dX12_times_12 rfl 1 rfl ?_
    obtain ⟨r20, σ19, h18, h⟩ := g_bId h
    refine g_callSi (pc := 13) (st := []) hE.1 wsX12_156 (kX12_isByte hE v1 σ15 h18) rfl (gR_ok (by decide) (by decide)) (Nat.le_of_ble_eq_true rfl) rfl dX12_times_13 ?_
    refine g_if_eq (pc := 16) (tgt := 35) dX12_times_16 (by decide) (fun c21 => ?_) (fun c21 => ?_)
    · have h := g_ift c21 h
      refine g_iconst (pc := 35) (v := (-1)) dX12_times_35 (by decide) ?_
      cases h
      exact g_iret (pc := 36) rfl rfl rfl rfl dX12_times_36
    · have h := g_iff c21 h
      refine g_iload_n (pc := 19) dX12_times_19 rfl 2 rfl ?_
      obtain ⟨r24, σ23, h22, h⟩ := g_bId h
      refine g_callSi (pc := 20) (st := []) hE.1 wsX12_156 (kX12_isByte hE v2 σ19 h22) rfl (gR_ok (by decide) (by decide)) (Nat.le_of_ble_eq_true rfl) rfl dX12_times_20 ?_
      refine g_if_eq (pc := 23) (tgt := 35) dX12_times_23 (by decide) (fun c25 => ?_) (fun c25 => ?_)
      · have h := g_ift c25 h
        refine g_iconst (pc := 35) (v := (-1)) dX12_times_35 (by decide) ?_
        cases h
        exact g_iret (pc := 36) rfl rfl rfl rfl dX12_times_36
      · have h := g_iff c25 h
        refine g_aload_n (pc := 26) dX12_times_26 rfl 0 rfl ?_
        refine g_iload_n (pc := 27) dX12_times_27 rfl 1 rfl ?_
        refine g_iload_n (pc := 28) dX12_times_28 rfl 2 rfl ?_
        obtain ⟨r28, σ27, h26, h⟩ := g_bId h
        refine g_callVi (pc := 29) (st := []) hE.1 wvX12_160 rfl rfl (kX12_product hE v1 v2 σ23 h26) rfl (gR_ok (by decide) (by decide)) (Nat.le_of_ble_eq_true rfl) rfl dX12_times_29 ?_
        refine g_goto (pc := 32) (tgt := 36) dX12_times_32 (by decide) ?_
        cases h
        exact g_iret (pc := 36) rfl rfl rfl rfl dX12_times_36
def fX12_over (v1 : Int32) (v2 : Int32) (σ : gM) : Option (Int32 × gM) := g_let (g_put σ 0 0 0) (fun σ16 => if (σ16.1 0 14) ≤ 0 then (some ((-1), σ16)) else (g_bI (fX12_isByte v1 σ16) (fun r21 σ20 => if r21 = 0 then (some ((-1), σ20)) else (g_bI (fX12_isByte v2 σ20) (fun r25 σ24 => if r25 = 0 then (some ((-1), σ24)) else (if v2 = 0 then (some ((-1), σ24)) else (g_bI (fX12_quotient v1 v2 σ24) (fun r30 σ29 => some (r30, σ29)))))))))
set_option maxRecDepth 100000 in
theorem kX12_over (hE : gEM l dC dI ad ca X)  (v1 : Int32) (v2 : Int32) (σ : gM) {r0 : Int32} {σ' : gM} (h : fX12_over v1 v2 σ = some (r0, σ')) : g_C l dC dI ad ca shM X yX12_over cX12_over 3 (some .int) (gR 1) [.ref 0, .int v1, .int v2] σ (some (.int r0)) σ' := by
  refine g_entry (by decide +kernel) (Nat.le_of_ble_eq_true rfl) ?_
  refine g_lvE (lv1 := [(0, .ref 0), (1, .int v1), (2, .int v2)]) rfl ?_
  unfold fX12_over at h
  refine g_aload_n (pc := 0) dX12_over_0 rfl 0 rfl ?_
  refine g_iconst (pc := 1) (v := 0) dX12_over_1 (by decide) ?_
  obtain ⟨σ16, e17, h⟩ := g_ltd h
  refine g_putI (pc := 2) wfX12_57 rfl rfl rfl rfl e17 dX12_over_2 ?_
  refine g_aload_n (pc := 5) dX12_over_5 rfl 0 rfl ?_
  refine g_getI (pc := 6) wfX12_153 rfl rfl dX12_over_6 ?_
  refine g_if_le (pc := 9) (tgt := 39) dX12_over_9 (by decide) (fun c18 => ?_) (fun c18 => ?_)
  · have h := g_ift c18 h
    refine g_iconst (pc := 39) (v := (-1)) dX12_over_39 (by decide) ?_
    cases h
    exact g_iret (pc := 40) rfl rfl rfl rfl dX12_over_40
  · have h := g_iff c18 h
    refine g_iload_n (pc := 12) dX12_over_12 rfl 1 rfl ?_
    obtain ⟨r21, σ20, h19, h⟩ := g_bId h
    refine g_callSi (pc := 13) (st := []) hE.1 wsX12_156 (kX12_isByte hE v1 σ16 h19) rfl (gR_ok (by decide) (by decide)) (Nat.le_of_ble_eq_true rfl) rfl dX12_over_13 ?_
    refine g_if_eq (pc := 16) (tgt := 39) dX12_over_16 (by decide) (fun c22 => ?_) (fun c22 => ?_)
    · have h := g_ift c22 h
      refine g_iconst (pc := 39) (v := (-1)) dX12_over_39 (by decide) ?_
      cases h
      exact g_iret (pc := 40) rfl rfl rfl rfl dX12_over_40
    · have h := g_iff c22 h
      refine g_iload_n (pc := 19) dX12_over_19 rfl 2 rfl ?_
      obtain ⟨r25, σ24, h23, h⟩ := g_bId h
      refine g_callSi (pc := 20) (st := []) hE.1 wsX12_156 (kX12_isByte hE v2 σ20 h23) rfl (gR_ok (by decide) (by decide)) (Nat.le_of_ble_eq_true rfl) rfl dX12_over_20 ?_
      refine g_if_eq (pc := 23) (tgt := 39) dX12_over_23 (by decide) (fun c26 => ?_) (fun c26 => ?_)
      · have h := g_ift c26 h
        refine g_iconst (pc := 39) (v := (-1)) dX12_over_39 (by decide) ?_
        cases h
        exact g_iret (pc := 40) rfl rfl rfl rfl dX12_over_40
      · have h := g_iff c26 h
        refine g_iload_n (pc := 26) dX12_over_26 rfl 2 rfl ?_
        refine g_if_eq (pc := 27) (tgt := 39) dX12_over_27 (by decide) (fun c27 => ?_) (fun c27 => ?_)
        · have h := g_ift c27 h
          refine g_iconst (pc := 39) (v := (-1)) dX12_over_39 (by decide) ?_
          cases h
          exact g_iret (pc := 40) rfl rfl rfl rfl dX12_over_40
        · have h := g_iff c27 h
          refine g_aload_n (pc := 30) dX12_over_30 rfl 0 rfl ?_
          refine g_iload_n (pc := 31) dX12_over_31 rfl 1 rfl ?_
          refine g_iload_n (pc := 32) dX12_over_32 rfl 2 rfl ?_
          obtain ⟨r30, σ29, h28, h⟩ := g_bId h
          refine g_callVi (pc := 33) (st := []) hE.1 wvX12_164 rfl rfl (kX12_quotient hE v1 v2 σ24 h28) rfl (gR_ok (by decide) (by decide)) (Nat.le_of_ble_eq_true rfl) rfl dX12_over_33 ?_
          refine g_goto (pc := 36) (tgt := 40) dX12_over_36 (by decide) ?_
          cases h
          exact g_iret (pc := 40) rfl rfl rfl rfl dX12_over_40
def fX12_power (v1 : Int32) (σ : gM) : Option (Int32 × gM) := g_let (g_put σ 0 0 0) (fun σ9 => if (σ9.1 0 14) ≤ 0 then (some ((-1), σ9)) else (g_bI (fX12_isIn v1.toInt64 0 999 σ9) (fun r14 σ13 => if r14 = 0 then (some ((-1), σ13)) else (if ¬ ((v1 - v1 / 255 * 255) < 0 ∨ 255 ≤ (v1 - v1 / 255 * 255).toNatClampNeg) then (some (σ13.1 8 ((v1 - v1 / 255 * 255).toNatClampNeg), σ13)) else none))))
set_option maxRecDepth 100000 in
theorem kX12_power (hE : gEM l dC dI ad ca X)  (v1 : Int32) (σ : gM) {r0 : Int32} {σ' : gM} (h : fX12_power v1 σ = some (r0, σ')) : g_C l dC dI ad ca shM X yX12_power cX12_power 2 (some .int) (gR 1) [.ref 0, .int v1] σ (some (.int r0)) σ' := by
  refine g_entry (by decide +kernel) (Nat.le_of_ble_eq_true rfl) ?_
  refine g_lvE (lv1 := [(0, .ref 0), (1, .int v1)]) rfl ?_
  unfold fX12_power at h
  refine g_aload_n (pc := 0) dX12_power_0 rfl 0 rfl ?_
  refine g_iconst (pc := 1) (v := 0) dX12_power_1 (by decide) ?_
  obtain ⟨σ9, e10, h⟩ := g_ltd h
  refine g_putI (pc := 2) wfX12_57 rfl rfl rfl rfl e10 dX12_power_2 ?_
  refine g_aload_n (pc := 5) dX12_power_5 rfl 0 rfl ?_
  refine g_getI (pc := 6) wfX12_153 rfl rfl dX12_power_6 ?_
  refine g_if_le (pc := 9) (tgt := 37) dX12_power_9 (by decide) (fun c11 => ?_) (fun c11 => ?_)
  · have h := g_ift c11 h
    refine g_iconst (pc := 37) (v := (-1)) dX12_power_37 (by decide) ?_
    cases h
    exact g_iret (pc := 38) rfl rfl rfl rfl dX12_power_38
  · have h := g_iff c11 h
    refine g_iload_n (pc := 12) dX12_power_12 rfl 1 rfl ?_
    refine g_i2l (pc := 13) dX12_power_13 ?_
    refine g_lconst (pc := 14) (v := 0) dX12_power_14 (by decide) ?_
    refine g_ldc2 (pc := 15) wkX12_167 dX12_power_15 ?_
    obtain ⟨r14, σ13, h12, h⟩ := g_bId h
    refine g_callSi (pc := 18) (st := []) hE.1 wsX12_117 (kX12_isIn hE v1.toInt64 0 999 σ9 h12) rfl (gR_ok (by decide) (by decide)) (Nat.le_of_ble_eq_true rfl) rfl dX12_power_18 ?_
    refine g_if_eq (pc := 21) (tgt := 37) dX12_power_21 (by decide) (fun c15 => ?_) (fun c15 => ?_)
    · have h := g_ift c15 h
      refine g_iconst (pc := 37) (v := (-1)) dX12_power_37 (by decide) ?_
      cases h
      exact g_iret (pc := 38) rfl rfl rfl rfl dX12_power_38
    · have h := g_iff c15 h
      refine g_aload_n (pc := 24) dX12_power_24 rfl 0 rfl ?_
      refine g_getR (pc := 25) wfX12_32 rfl rfl dX12_power_25 ?_
      refine g_iload_n (pc := 28) dX12_power_28 rfl 1 rfl ?_
      refine g_sipush (pc := 29) (v := 255) dX12_power_29 (by decide) ?_
      refine g_irem (pc := 32) dX12_power_32 (by decide) ?_
      obtain ⟨c16, h⟩ := g_gd h
      refine g_iald (pc := 33) rfl c16 rfl dX12_power_33 ?_
      refine g_goto (pc := 34) (tgt := 38) dX12_power_34 (by decide) ?_
      cases h
      exact g_iret (pc := 38) rfl rfl rfl rfl dX12_power_38
def fX12_logOf (v1 : Int32) (σ : gM) : Option (Int32 × gM) := g_let (g_put σ 0 0 0) (fun σ9 => if (σ9.1 0 14) ≤ 0 then (some ((-1), σ9)) else (g_bI (fX12_isIn v1.toInt64 1 255 σ9) (fun r14 σ13 => if r14 = 0 then (some ((-1), σ13)) else (if ¬ (v1 < 0 ∨ 256 ≤ v1.toNatClampNeg) then (some (σ13.1 9 v1.toNatClampNeg, σ13)) else none))))
set_option maxRecDepth 100000 in
theorem kX12_logOf (hE : gEM l dC dI ad ca X)  (v1 : Int32) (σ : gM) {r0 : Int32} {σ' : gM} (h : fX12_logOf v1 σ = some (r0, σ')) : g_C l dC dI ad ca shM X yX12_logOf cX12_logOf 2 (some .int) (gR 1) [.ref 0, .int v1] σ (some (.int r0)) σ' := by
  refine g_entry (by decide +kernel) (Nat.le_of_ble_eq_true rfl) ?_
  refine g_lvE (lv1 := [(0, .ref 0), (1, .int v1)]) rfl ?_
  unfold fX12_logOf at h
  refine g_aload_n (pc := 0) dX12_logOf_0 rfl 0 rfl ?_
  refine g_iconst (pc := 1) (v := 0) dX12_logOf_1 (by decide) ?_
  obtain ⟨σ9, e10, h⟩ := g_ltd h
  refine g_putI (pc := 2) wfX12_57 rfl rfl rfl rfl e10 dX12_logOf_2 ?_
  refine g_aload_n (pc := 5) dX12_logOf_5 rfl 0 rfl ?_
  refine g_getI (pc := 6) wfX12_153 rfl rfl dX12_logOf_6 ?_
  refine g_if_le (pc := 9) (tgt := 33) dX12_logOf_9 (by decide) (fun c11 => ?_) (fun c11 => ?_)
  · have h := g_ift c11 h
    refine g_iconst (pc := 33) (v := (-1)) dX12_logOf_33 (by decide) ?_
    cases h
    exact g_iret (pc := 34) rfl rfl rfl rfl dX12_logOf_34
  · have h := g_iff c11 h
    refine g_iload_n (pc := 12) dX12_logOf_12 rfl 1 rfl ?_
    refine g_i2l (pc := 13) dX12_logOf_13 ?_
    refine g_lconst (pc := 14) (v := 1) dX12_logOf_14 (by decide) ?_
    refine g_ldc2 (pc := 15) wkX12_169 dX12_logOf_15 ?_
    obtain ⟨r14, σ13, h12, h⟩ := g_bId h
    refine g_callSi (pc := 18) (st := []) hE.1 wsX12_117 (kX12_isIn hE v1.toInt64 1 255 σ9 h12) rfl (gR_ok (by decide) (by decide)) (Nat.le_of_ble_eq_true rfl) rfl dX12_logOf_18 ?_
    refine g_if_eq (pc := 21) (tgt := 33) dX12_logOf_21 (by decide) (fun c15 => ?_) (fun c15 => ?_)
    · have h := g_ift c15 h
      refine g_iconst (pc := 33) (v := (-1)) dX12_logOf_33 (by decide) ?_
      cases h
      exact g_iret (pc := 34) rfl rfl rfl rfl dX12_logOf_34
    · have h := g_iff c15 h
      refine g_aload_n (pc := 24) dX12_logOf_24 rfl 0 rfl ?_
      refine g_getR (pc := 25) wfX12_35 rfl rfl dX12_logOf_25 ?_
      refine g_iload_n (pc := 28) dX12_logOf_28 rfl 1 rfl ?_
      obtain ⟨c16, h⟩ := g_gd h
      refine g_iald (pc := 29) rfl c16 rfl dX12_logOf_29 ?_
      refine g_goto (pc := 30) (tgt := 34) dX12_logOf_30 (by decide) ?_
      cases h
      exact g_iret (pc := 34) rfl rfl rfl rfl dX12_logOf_34
def fX12_stripeOf (v1 : Int32) (σ : gM) : Option (Int32 × gM) := if (σ.1 3 2) = 0 then none else (if (σ.1 3 0) = 0 then none else (some ((v1 / (σ.1 3 2)) / (σ.1 3 0), σ)))
set_option maxRecDepth 100000 in
theorem kX12_stripeOf (hE : gEM l dC dI ad ca X)  (v1 : Int32) (σ : gM) {r0 : Int32} {σ' : gM} (h : fX12_stripeOf v1 σ = some (r0, σ')) : g_C l dC dI ad ca shM X yX12_stripeOf cX12_stripeOf 2 (some .int) (gR 0) [.ref 0, .int v1] σ (some (.int r0)) σ' := by
  refine g_entry (by decide +kernel) (Nat.le_of_ble_eq_true rfl) ?_
  refine g_lvE (lv1 := [(0, .ref 0), (1, .int v1)]) rfl ?_
  unfold fX12_stripeOf at h
  refine g_iload_n (pc := 0) dX12_stripeOf_0 rfl 1 rfl ?_
  refine g_aload_n (pc := 1) dX12_stripeOf_1 rfl 0 rfl ?_
  refine g_getR (pc := 2) wfX12_17 rfl rfl dX12_stripeOf_2 ?_
  refine g_iconst (pc := 5) (v := 2) dX12_stripeOf_5 (by decide) ?_
  refine g_iald (pc := 6) rfl (by decide) (j := 2) (by decide) dX12_stripeOf_6 ?_
  obtain ⟨c3, h⟩ := g_gn h
  refine g_idiv (pc := 7) dX12_stripeOf_7 c3 ?_
  refine g_aload_n (pc := 8) dX12_stripeOf_8 rfl 0 rfl ?_
  refine g_getR (pc := 9) wfX12_17 rfl rfl dX12_stripeOf_9 ?_
  refine g_iconst (pc := 12) (v := 0) dX12_stripeOf_12 (by decide) ?_
  refine g_iald (pc := 13) rfl (by decide) (j := 0) (by decide) dX12_stripeOf_13 ?_
  obtain ⟨c4, h⟩ := g_gn h
  refine g_idiv (pc := 14) dX12_stripeOf_14 c4 ?_
  cases h
  exact g_iret (pc := 15) rfl rfl rfl rfl dX12_stripeOf_15
def fX12_byteOf (v1 : Int32) (σ : gM) : Option (Int32 × gM) := if (σ.1 3 2) = 0 then none else (some (v1 - v1 / (σ.1 3 2) * (σ.1 3 2), σ))
set_option maxRecDepth 100000 in
theorem kX12_byteOf (hE : gEM l dC dI ad ca X)  (v1 : Int32) (σ : gM) {r0 : Int32} {σ' : gM} (h : fX12_byteOf v1 σ = some (r0, σ')) : g_C l dC dI ad ca shM X yX12_byteOf cX12_byteOf 2 (some .int) (gR 0) [.ref 0, .int v1] σ (some (.int r0)) σ' := by
  refine g_entry (by decide +kernel) (Nat.le_of_ble_eq_true rfl) ?_
  refine g_lvE (lv1 := [(0, .ref 0), (1, .int v1)]) rfl ?_
  unfold fX12_byteOf at h
  refine g_iload_n (pc := 0) dX12_byteOf_0 rfl 1 rfl ?_
  refine g_aload_n (pc := 1) dX12_byteOf_1 rfl 0 rfl ?_
  refine g_getR (pc := 2) wfX12_17 rfl rfl dX12_byteOf_2 ?_
  refine g_iconst (pc := 5) (v := 2) dX12_byteOf_5 (by decide) ?_
  refine g_iald (pc := 6) rfl (by decide) (j := 2) (by decide) dX12_byteOf_6 ?_
  obtain ⟨c2, h⟩ := g_gn h
  refine g_irem (pc := 7) dX12_byteOf_7 c2 ?_
  cases h
  exact g_iret (pc := 8) rfl rfl rfl rfl dX12_byteOf_8
def fX12_partOf (v1 : Int32) (σ : gM) : Option (Int32 × gM) := if (σ.1 3 2) = 0 then none else (if (σ.1 3 0) = 0 then none else (some ((v1 / (σ.1 3 2)) - (v1 / (σ.1 3 2)) / (σ.1 3 0) * (σ.1 3 0), σ)))
set_option maxRecDepth 100000 in
theorem kX12_partOf (hE : gEM l dC dI ad ca X)  (v1 : Int32) (σ : gM) {r0 : Int32} {σ' : gM} (h : fX12_partOf v1 σ = some (r0, σ')) : g_C l dC dI ad ca shM X yX12_partOf cX12_partOf 2 (some .int) (gR 0) [.ref 0, .int v1] σ (some (.int r0)) σ' := by
  refine g_entry (by decide +kernel) (Nat.le_of_ble_eq_true rfl) ?_
  refine g_lvE (lv1 := [(0, .ref 0), (1, .int v1)]) rfl ?_
  unfold fX12_partOf at h
  refine g_iload_n (pc := 0) dX12_partOf_0 rfl 1 rfl ?_
  refine g_aload_n (pc := 1) dX12_partOf_1 rfl 0 rfl ?_
  refine g_getR (pc := 2) wfX12_17 rfl rfl dX12_partOf_2 ?_
  refine g_iconst (pc := 5) (v := 2) dX12_partOf_5 (by decide) ?_
  refine g_iald (pc := 6) rfl (by decide) (j := 2) (by decide) dX12_partOf_6 ?_
  obtain ⟨c3, h⟩ := g_gn h
  refine g_idiv (pc := 7) dX12_partOf_7 c3 ?_
  refine g_aload_n (pc := 8) dX12_partOf_8 rfl 0 rfl ?_
  refine g_getR (pc := 9) wfX12_17 rfl rfl dX12_partOf_9 ?_
  refine g_iconst (pc := 12) (v := 0) dX12_partOf_12 (by decide) ?_
  refine g_iald (pc := 13) rfl (by decide) (j := 0) (by decide) dX12_partOf_13 ?_
  obtain ⟨c4, h⟩ := g_gn h
  refine g_irem (pc := 14) dX12_partOf_14 c4 ?_
  cases h
  exact g_iret (pc := 15) rfl rfl rfl rfl dX12_partOf_15
def fX12_pDisk (v1 : Int32) (σ : gM) : Option (Int32 × gM) := if (σ.1 0 13) = 0 then none else (some (((σ.1 0 13) - 1) - (v1 - v1 / (σ.1 0 13) * (σ.1 0 13)), σ))
set_option maxRecDepth 100000 in
theorem kX12_pDisk (hE : gEM l dC dI ad ca X)  (v1 : Int32) (σ : gM) {r0 : Int32} {σ' : gM} (h : fX12_pDisk v1 σ = some (r0, σ')) : g_C l dC dI ad ca shM X yX12_pDisk cX12_pDisk 2 (some .int) (gR 0) [.ref 0, .int v1] σ (some (.int r0)) σ' := by
  refine g_entry (by decide +kernel) (Nat.le_of_ble_eq_true rfl) ?_
  refine g_lvE (lv1 := [(0, .ref 0), (1, .int v1)]) rfl ?_
  unfold fX12_pDisk at h
  refine g_aload_n (pc := 0) dX12_pDisk_0 rfl 0 rfl ?_
  refine g_getI (pc := 1) wfX12_171 rfl rfl dX12_pDisk_1 ?_
  refine g_iconst (pc := 4) (v := 1) dX12_pDisk_4 (by decide) ?_
  refine g_isub (pc := 5) dX12_pDisk_5 ?_
  refine g_iload_n (pc := 6) dX12_pDisk_6 rfl 1 rfl ?_
  refine g_aload_n (pc := 7) dX12_pDisk_7 rfl 0 rfl ?_
  refine g_getI (pc := 8) wfX12_171 rfl rfl dX12_pDisk_8 ?_
  obtain ⟨c2, h⟩ := g_gn h
  refine g_irem (pc := 11) dX12_pDisk_11 c2 ?_
  refine g_isub (pc := 12) dX12_pDisk_12 ?_
  cases h
  exact g_iret (pc := 13) rfl rfl rfl rfl dX12_pDisk_13
def fX12_diskOf_b33 (v1 : Int32) (s0 : Int32) (σ : gM) : Option (Int32 × gM) := g_bI (fX12_pDisk v1 σ) (fun r9 σ8 => if (σ8.1 0 13) = 0 then none else (some ((r9 + s0) - (r9 + s0) / (σ8.1 0 13) * (σ8.1 0 13), σ8)))
set_option maxRecDepth 100000 in
theorem tX12_diskOf_b33 (hE : gEM l dC dI ad ca X) {r0 : Int32} {σ' : gM} (v1 : Int32) (s0 : Int32)  (σ : gM) (h : fX12_diskOf_b33 v1 s0 σ = some (r0, σ')) : g_G l dC dI ad ca shM X cX12_diskOf 4 RX12 (some .int) (gR 1) (some (.int r0)) σ' 33 [(0, .ref 0), (1, .int v1)] [.int s0] σ := by
  unfold fX12_diskOf_b33 at h
  refine g_istore_n (pc := 33) (lv1 := [(3, .int s0), (0, .ref 0), (1, .int v1)]) dX12_diskOf_33 rfl (by decide) rfl ?_
  refine g_aload_n (pc := 34) dX12_diskOf_34 rfl 1 rfl ?_
  refine g_iload_n (pc := 35) dX12_diskOf_35 rfl 2 rfl ?_
  obtain ⟨r9, σ8, h7, h⟩ := g_bId h
  refine g_callVi (pc := 36) (st := []) hE.1 wvX12_196 rfl rfl (kX12_pDisk hE v1 σ h7) rfl (gR_ok (by decide) (by decide)) (Nat.le_of_ble_eq_true rfl) rfl dX12_diskOf_36 ?_
  refine g_iload_n (pc := 39) dX12_diskOf_39 rfl 0 rfl ?_
  refine g_iadd (pc := 40) dX12_diskOf_40 ?_
  refine g_aload_n (pc := 41) dX12_diskOf_41 rfl 1 rfl ?_
  refine g_getI (pc := 42) wfX12_171 rfl rfl dX12_diskOf_42 ?_
  obtain ⟨c10, h⟩ := g_gn h
  refine g_irem (pc := 45) dX12_diskOf_45 c10 ?_
  cases h
  exact g_iret (pc := 46) rfl rfl rfl rfl dX12_diskOf_46
def fX12_diskOf (v1 : Int32) (v2 : Int32) (σ : gM) : Option (Int32 × gM) := if v2 = (σ.1 3 0) then (fX12_diskOf_b33 v1 0 σ) else (if v2 = ((σ.1 3 0) + 1) then (fX12_diskOf_b33 v1 1 σ) else (fX12_diskOf_b33 v1 (v2 + 2) σ))
set_option maxRecDepth 100000 in
theorem kX12_diskOf (hE : gEM l dC dI ad ca X)  (v1 : Int32) (v2 : Int32) (σ : gM) {r0 : Int32} {σ' : gM} (h : fX12_diskOf v1 v2 σ = some (r0, σ')) : g_C l dC dI ad ca shM X yX12_diskOf cX12_diskOf 4 (some .int) (gR 1) [.ref 0, .int v1, .int v2] σ (some (.int r0)) σ' := by
  refine g_entry (by decide +kernel) (Nat.le_of_ble_eq_true rfl) ?_
  refine g_lvE (lv1 := [(0, .ref 0), (1, .int v1), (2, .int v2)]) rfl ?_
  unfold fX12_diskOf at h
  refine g_iload_n (pc := 0) dX12_diskOf_0 rfl 2 rfl ?_
  refine g_aload_n (pc := 1) dX12_diskOf_1 rfl 0 rfl ?_
  refine g_getR (pc := 2) wfX12_17 rfl rfl dX12_diskOf_2 ?_
  refine g_iconst (pc := 5) (v := 0) dX12_diskOf_5 (by decide) ?_
  refine g_iald (pc := 6) rfl (by decide) (j := 0) (by decide) dX12_diskOf_6 ?_
  refine g_icmp_ne (pc := 7) (tgt := 14) dX12_diskOf_7 (by decide) (fun c11 => ?_) (fun c11 => ?_)
  · have h := g_iff c11 h
    refine g_iload_n (pc := 14) dX12_diskOf_14 rfl 2 rfl ?_
    refine g_aload_n (pc := 15) dX12_diskOf_15 rfl 0 rfl ?_
    refine g_getR (pc := 16) wfX12_17 rfl rfl dX12_diskOf_16 ?_
    refine g_iconst (pc := 19) (v := 0) dX12_diskOf_19 (by decide) ?_
    refine g_iald (pc := 20) rfl (by decide) (j := 0) (by decide) dX12_diskOf_20 ?_
    refine g_iconst (pc := 21) (v := 1) dX12_diskOf_21 (by decide) ?_
    refine g_iadd (pc := 22) dX12_diskOf_22 ?_
    refine g_icmp_ne (pc := 23) (tgt := 30) dX12_diskOf_23 (by decide) (fun c12 => ?_) (fun c12 => ?_)
    · have h := g_iff c12 h
      refine g_iload_n (pc := 30) dX12_diskOf_30 rfl 2 rfl ?_
      refine g_iconst (pc := 31) (v := 2) dX12_diskOf_31 (by decide) ?_
      refine g_iadd (pc := 32) dX12_diskOf_32 ?_
      exact g_lv [0, 1] rfl (tX12_diskOf_b33 hE v1 (v2 + 2) σ h)
    · have h := g_ift c12 h
      refine g_iconst (pc := 26) (v := 1) dX12_diskOf_26 (by decide) ?_
      refine g_goto (pc := 27) (tgt := 33) dX12_diskOf_27 (by decide) ?_
      exact g_lv [0, 1] rfl (tX12_diskOf_b33 hE v1 1 σ h)
  · have h := g_ift c11 h
    refine g_iconst (pc := 10) (v := 0) dX12_diskOf_10 (by decide) ?_
    refine g_goto (pc := 11) (tgt := 33) dX12_diskOf_11 (by decide) ?_
    exact g_lv [0, 1] rfl (tX12_diskOf_b33 hE v1 0 σ h)
def fX12_isThere_b32 (w : Nat) (σ : gM) : Option (Int32 × gM) := some (1, σ)
set_option maxRecDepth 100000 in
theorem tX12_isThere_b32 (hE : gEM l dC dI ad ca X) {r0 : Int32} {σ' : gM} (w : Nat) (hw : shM[w]? = some (.inl (.int, 616)))  (σ : gM) (h : fX12_isThere_b32 w σ = some (r0, σ')) : g_G l dC dI ad ca shM X cX12_isThere 3 RX12 (some .boolean) (gR 0) (some (.int r0)) σ' 32 [] [] σ := by
  unfold fX12_isThere_b32 at h
  refine g_iconst (pc := 32) (v := 1) dX12_isThere_32 (by decide) ?_
  refine g_goto (pc := 33) (tgt := 37) dX12_isThere_33 (by decide) ?_
  cases h
  exact g_iret (pc := 37) rfl (by decide) rfl rfl dX12_isThere_37
def fX12_isThere (w : Nat) (v1 : Int32) (v2 : Int32) (σ : gM) : Option (Int32 × gM) := if ¬ ((384 + v1) < 0 ∨ 616 ≤ (384 + v1).toNatClampNeg) then (if (σ.1 w ((384 + v1).toNatClampNeg)) = 0 then (fX12_isThere_b32 w σ) else (if ¬ ((384 + v1) < 0 ∨ 616 ≤ (384 + v1).toNatClampNeg) then (if (σ.1 w ((384 + v1).toNatClampNeg)) = 2 then (if ¬ ((392 + v1) < 0 ∨ 616 ≤ (392 + v1).toNatClampNeg) then (if (σ.1 w ((392 + v1).toNatClampNeg)) ≤ v2 then (some (0, σ)) else (fX12_isThere_b32 w σ)) else none) else (some (0, σ))) else none)) else none
set_option maxRecDepth 100000 in
theorem kX12_isThere (hE : gEM l dC dI ad ca X) (w : Nat) (hw : shM[w]? = some (.inl (.int, 616)))  (v1 : Int32) (v2 : Int32) (σ : gM) {r0 : Int32} {σ' : gM} (h : fX12_isThere w v1 v2 σ = some (r0, σ')) : g_C l dC dI ad ca shM X yX12_isThere cX12_isThere 3 (some .boolean) (gR 0) [.ref w, .int v1, .int v2] σ (some (.int r0)) σ' := by
  refine g_entry (by decide +kernel) (Nat.le_of_ble_eq_true rfl) ?_
  refine g_lvE (lv1 := [(0, .ref w), (1, .int v1), (2, .int v2)]) rfl ?_
  unfold fX12_isThere at h
  refine g_aload_n (pc := 0) dX12_isThere_0 rfl 0 rfl ?_
  refine g_sipush (pc := 1) (v := 384) dX12_isThere_1 (by decide) ?_
  refine g_iload_n (pc := 4) dX12_isThere_4 rfl 1 rfl ?_
  refine g_iadd (pc := 5) dX12_isThere_5 ?_
  obtain ⟨c7, h⟩ := g_gd h
  refine g_iald (pc := 6) hw c7 rfl dX12_isThere_6 ?_
  refine g_if_eq (pc := 7) (tgt := 32) dX12_isThere_7 (by decide) (fun c8 => ?_) (fun c8 => ?_)
  · have h := g_ift c8 h
    exact g_lv [] rfl (tX12_isThere_b32 hE w hw σ h)
  · have h := g_iff c8 h
    refine g_aload_n (pc := 10) dX12_isThere_10 rfl 0 rfl ?_
    refine g_sipush (pc := 11) (v := 384) dX12_isThere_11 (by decide) ?_
    refine g_iload_n (pc := 14) dX12_isThere_14 rfl 1 rfl ?_
    refine g_iadd (pc := 15) dX12_isThere_15 ?_
    obtain ⟨c9, h⟩ := g_gd h
    refine g_iald (pc := 16) hw c9 rfl dX12_isThere_16 ?_
    refine g_iconst (pc := 17) (v := 2) dX12_isThere_17 (by decide) ?_
    refine g_icmp_ne (pc := 18) (tgt := 36) dX12_isThere_18 (by decide) (fun c10 => ?_) (fun c10 => ?_)
    · have h := g_iff c10 h
      refine g_iconst (pc := 36) (v := 0) dX12_isThere_36 (by decide) ?_
      cases h
      exact g_iret (pc := 37) rfl (by decide) rfl rfl dX12_isThere_37
    · have h := g_ift c10 h
      refine g_iload_n (pc := 21) dX12_isThere_21 rfl 2 rfl ?_
      refine g_aload_n (pc := 22) dX12_isThere_22 rfl 0 rfl ?_
      refine g_sipush (pc := 23) (v := 392) dX12_isThere_23 (by decide) ?_
      refine g_iload_n (pc := 26) dX12_isThere_26 rfl 1 rfl ?_
      refine g_iadd (pc := 27) dX12_isThere_27 ?_
      obtain ⟨c11, h⟩ := g_gd h
      refine g_iald (pc := 28) hw c11 rfl dX12_isThere_28 ?_
      refine g_icmp_ge (pc := 29) (tgt := 36) dX12_isThere_29 (by decide) (fun c12 => ?_) (fun c12 => ?_)
      · have h := g_ift c12 h
        refine g_iconst (pc := 36) (v := 0) dX12_isThere_36 (by decide) ?_
        cases h
        exact g_iret (pc := 37) rfl (by decide) rfl rfl dX12_isThere_37
      · have h := g_iff c12 h
        exact g_lv [] rfl (tX12_isThere_b32 hE w hw σ h)
def fX12_spot (v0 : Int32) (v1 : Int32) (v2 : Int32) (σ : gM) : Option (Int32 × gM) := some (((48 * v0) + (4 * v1)) + v2, σ)
set_option maxRecDepth 100000 in
theorem kX12_spot (hE : gEM l dC dI ad ca X)  (v0 : Int32) (v1 : Int32) (v2 : Int32) (σ : gM) {r0 : Int32} {σ' : gM} (h : fX12_spot v0 v1 v2 σ = some (r0, σ')) : g_C l dC dI ad ca shM X yX12_spot cX12_spot 3 (some .int) (gR 0) [.int v0, .int v1, .int v2] σ (some (.int r0)) σ' := by
  refine g_entry (by decide +kernel) (Nat.le_of_ble_eq_true rfl) ?_
  refine g_lvE (lv1 := [(0, .int v0), (1, .int v1), (2, .int v2)]) rfl ?_
  unfold fX12_spot at h
  refine g_bipush (pc := 0) (v := 48) dX12_spot_0 (by decide) ?_
  refine g_iload_n (pc := 2) dX12_spot_2 rfl 0 rfl ?_
  refine g_imul (pc := 3) dX12_spot_3 ?_
  refine g_iconst (pc := 4) (v := 4) dX12_spot_4 (by decide) ?_
  refine g_iload_n (pc := 5) dX12_spot_5 rfl 1 rfl ?_
  refine g_imul (pc := 6) dX12_spot_6 ?_
  refine g_iadd (pc := 7) dX12_spot_7 ?_
  refine g_iload_n (pc := 8) dX12_spot_8 rfl 2 rfl ?_
  refine g_iadd (pc := 9) dX12_spot_9 ?_
  cases h
  exact g_iret (pc := 10) rfl rfl rfl rfl dX12_spot_10
def fX12_lays_b86 (n : Nat) (w : Nat) (K3 : Int32 → Int32 → Int32 → Int32 → Int32 → gM → Option (gM)) (v2 : Int32) (v3 : Int32) (v4 : Int32) (v5 : Int32) (v6 : Int32) (s0 : Int32) (s1 : Int32) (σ : gM) : Option (gM) := if ¬ (s1 < 0 ∨ 8 ≤ s1.toNatClampNeg) then (g_let (g_put σ 14 s1.toNatClampNeg s0) (fun σ24 => K3 v2 v3 v4 v5 (v6 + 1) σ24)) else none
set_option maxRecDepth 100000 in
theorem tX12_lays_b86 (hE : gEM l dC dI ad ca X) {σ' : gM} (n : Nat) (w : Nat) (hw : shM[w]? = some (.inl (.int, 616))) (K3 : Int32 → Int32 → Int32 → Int32 → Int32 → gM → Option (gM)) (hK3 : ∀ (v2 : Int32) (v3 : Int32) (v4 : Int32) (v5 : Int32) (v6 : Int32) (σ : gM), K3 v2 v3 v4 v5 v6 σ = some σ' → g_G l dC dI ad ca shM X cX12_lays 8 RX12 none (gR 2) none σ' 3 [(0, .ref 0), (1, .ref w), (2, .int v2), (3, .int v3), (4, .int v4), (5, .int v5), (6, .int v6)] [] σ) (v2 : Int32) (v3 : Int32) (v4 : Int32) (v5 : Int32) (v6 : Int32) (s0 : Int32) (s1 : Int32)  (σ : gM) (h : fX12_lays_b86 n w K3 v2 v3 v4 v5 v6 s0 s1 σ = some σ') : g_G l dC dI ad ca shM X cX12_lays 8 RX12 none (gR 2) none σ' 86 [(0, .ref 0), (1, .ref w), (2, .int v2), (3, .int v3), (4, .int v4), (5, .int v5), (6, .int v6)] [.int s0, .int s1, .ref 14] σ := by
  unfold fX12_lays_b86 at h
  obtain ⟨c23, h⟩ := g_gd h
  obtain ⟨σ24, e25, h⟩ := g_ltd h
  refine g_iast (pc := 86) rfl c23 rfl e25 dX12_lays_86 ?_
  refine g_iinc (pc := 87) (v := v6 + 1) (lv1 := [(6, .int (v6 + 1)), (0, .ref 0), (1, .ref w), (2, .int v2), (3, .int v3), (4, .int v4), (5, .int v5)]) dX12_lays_87 6 rfl rfl (by decide) rfl ?_
  refine g_goto (pc := 90) (tgt := 3) dX12_lays_90 (by decide) ?_
  exact g_lv [1, 2, 3, 4, 5, 6, 0] rfl (hK3 v2 v3 v4 v5 (v6 + 1) σ24 h)
def fX12_lays_b56 (n : Nat) (w : Nat) (K3 : Int32 → Int32 → Int32 → Int32 → Int32 → gM → Option (gM)) (v2 : Int32) (v3 : Int32) (v4 : Int32) (v5 : Int32) (v6 : Int32) (v7 : Int32) (s0 : Int32) (s1 : Int32) (σ : gM) : Option (gM) := if ¬ (s1 < 0 ∨ 8 ≤ s1.toNatClampNeg) then (g_let (g_put σ 15 s1.toNatClampNeg (vp_nar .boolean s0)) (fun σ27 => if ¬ (v6 < 0 ∨ 8 ≤ v6.toNatClampNeg) then (if (σ27.1 15 v6.toNatClampNeg) = 0 then (fX12_lays_b86 n w K3 v2 v3 v4 v5 v6 0 v6 σ27) else (g_bI (fX12_spot v7 v2 v3 σ27) (fun r33 σ32 => if ¬ (r33 < 0 ∨ 616 ≤ r33.toNatClampNeg) then (fX12_lays_b86 n w K3 v2 v3 v4 v5 v6 (σ32.1 w r33.toNatClampNeg) v6 σ32) else none))) else none)) else none
set_option maxRecDepth 100000 in
theorem tX12_lays_b56 (hE : gEM l dC dI ad ca X) {σ' : gM} (n : Nat) (w : Nat) (hw : shM[w]? = some (.inl (.int, 616))) (K3 : Int32 → Int32 → Int32 → Int32 → Int32 → gM → Option (gM)) (hK3 : ∀ (v2 : Int32) (v3 : Int32) (v4 : Int32) (v5 : Int32) (v6 : Int32) (σ : gM), K3 v2 v3 v4 v5 v6 σ = some σ' → g_G l dC dI ad ca shM X cX12_lays 8 RX12 none (gR 2) none σ' 3 [(0, .ref 0), (1, .ref w), (2, .int v2), (3, .int v3), (4, .int v4), (5, .int v5), (6, .int v6)] [] σ) (v2 : Int32) (v3 : Int32) (v4 : Int32) (v5 : Int32) (v6 : Int32) (v7 : Int32) (s0 : Int32) (s1 : Int32)  (σ : gM) (h : fX12_lays_b56 n w K3 v2 v3 v4 v5 v6 v7 s0 s1 σ = some σ') : g_G l dC dI ad ca shM X cX12_lays 8 RX12 none (gR 2) none σ' 56 [(0, .ref 0), (1, .ref w), (2, .int v2), (3, .int v3), (4, .int v4), (5, .int v5), (6, .int v6), (7, .int v7)] [.int s0, .int s1, .ref 15] σ := by
  unfold fX12_lays_b56 at h
  obtain ⟨c26, h⟩ := g_gd h
  obtain ⟨σ27, e28, h⟩ := g_ltd h
  refine g_zast (pc := 56) rfl c26 rfl e28 dX12_lays_56 ?_
  refine g_aload_n (pc := 57) dX12_lays_57 rfl 0 rfl ?_
  refine g_getR (pc := 58) wfX12_50 rfl rfl dX12_lays_58 ?_
  refine g_iload (pc := 61) dX12_lays_61 6 rfl ?_
  refine g_aload_n (pc := 63) dX12_lays_63 rfl 0 rfl ?_
  refine g_getR (pc := 64) wfX12_53 rfl rfl dX12_lays_64 ?_
  refine g_iload (pc := 67) dX12_lays_67 6 rfl ?_
  obtain ⟨c29, h⟩ := g_gd h
  refine g_zald (pc := 69) rfl c29 rfl dX12_lays_69 ?_
  refine g_if_eq (pc := 70) (tgt := 85) dX12_lays_70 (by decide) (fun c30 => ?_) (fun c30 => ?_)
  · have h := g_ift c30 h
    refine g_iconst (pc := 85) (v := 0) dX12_lays_85 (by decide) ?_
    exact g_lv [0, 1, 2, 3, 4, 5, 6] rfl (tX12_lays_b86 hE n w hw K3 hK3 v2 v3 v4 v5 v6 0 v6 σ27 h)
  · have h := g_iff c30 h
    refine g_aload_n (pc := 73) dX12_lays_73 rfl 1 rfl ?_
    refine g_iload (pc := 74) dX12_lays_74 7 rfl ?_
    refine g_iload_n (pc := 76) dX12_lays_76 rfl 2 rfl ?_
    refine g_iload_n (pc := 77) dX12_lays_77 rfl 3 rfl ?_
    obtain ⟨r33, σ32, h31, h⟩ := g_bId h
    refine g_callSi (pc := 78) (st := [.ref w, .int v6, .ref 14]) hE.1 wsX12_206 (kX12_spot hE v7 v2 v3 σ27 h31) rfl (gR_ok (by decide) (by decide)) (Nat.le_of_ble_eq_true rfl) rfl dX12_lays_78 ?_
    obtain ⟨c34, h⟩ := g_gd h
    refine g_iald (pc := 81) hw c34 rfl dX12_lays_81 ?_
    refine g_goto (pc := 82) (tgt := 86) dX12_lays_82 (by decide) ?_
    exact g_lv [0, 1, 2, 3, 4, 5, 6] rfl (tX12_lays_b86 hE n w hw K3 hK3 v2 v3 v4 v5 v6 (σ32.1 w r33.toNatClampNeg) v6 σ32 h)
def fX12_lays_b55 (n : Nat) (w : Nat) (K3 : Int32 → Int32 → Int32 → Int32 → Int32 → gM → Option (gM)) (v2 : Int32) (v3 : Int32) (v4 : Int32) (v5 : Int32) (v6 : Int32) (v7 : Int32) (s0 : Int32) (σ : gM) : Option (gM) := fX12_lays_b56 n w K3 v2 v3 v4 v5 v6 v7 0 s0 σ
set_option maxRecDepth 100000 in
theorem tX12_lays_b55 (hE : gEM l dC dI ad ca X) {σ' : gM} (n : Nat) (w : Nat) (hw : shM[w]? = some (.inl (.int, 616))) (K3 : Int32 → Int32 → Int32 → Int32 → Int32 → gM → Option (gM)) (hK3 : ∀ (v2 : Int32) (v3 : Int32) (v4 : Int32) (v5 : Int32) (v6 : Int32) (σ : gM), K3 v2 v3 v4 v5 v6 σ = some σ' → g_G l dC dI ad ca shM X cX12_lays 8 RX12 none (gR 2) none σ' 3 [(0, .ref 0), (1, .ref w), (2, .int v2), (3, .int v3), (4, .int v4), (5, .int v5), (6, .int v6)] [] σ) (v2 : Int32) (v3 : Int32) (v4 : Int32) (v5 : Int32) (v6 : Int32) (v7 : Int32) (s0 : Int32)  (σ : gM) (h : fX12_lays_b55 n w K3 v2 v3 v4 v5 v6 v7 s0 σ = some σ') : g_G l dC dI ad ca shM X cX12_lays 8 RX12 none (gR 2) none σ' 55 [(0, .ref 0), (1, .ref w), (2, .int v2), (3, .int v3), (4, .int v4), (5, .int v5), (6, .int v6), (7, .int v7)] [.int s0, .ref 15] σ := by
  unfold fX12_lays_b55 at h
  refine g_iconst (pc := 55) (v := 0) dX12_lays_55 (by decide) ?_
  exact g_lv [0, 1, 2, 3, 4, 5, 6, 7] rfl (tX12_lays_b56 hE n w hw K3 hK3 v2 v3 v4 v5 v6 v7 0 s0 σ h)
def fX12_lays_b3 (n : Nat) (w : Nat) (K3 : Int32 → Int32 → Int32 → Int32 → Int32 → gM → Option (gM)) (v2 : Int32) (v3 : Int32) (v4 : Int32) (v5 : Int32) (v6 : Int32) (σ : gM) : Option (gM) := if (σ.1 0 13) ≤ v6 then (some σ) else (g_bI (fX12_diskOf v2 v6 σ) (fun r38 σ37 => g_bI (fX12_isThere w r38 v2 σ37) (fun r41 σ40 => if r41 = 0 then (fX12_lays_b55 n w K3 v2 v3 v4 v5 v6 r38 v6 σ40) else (if r38 = v4 then (fX12_lays_b55 n w K3 v2 v3 v4 v5 v6 r38 v6 σ40) else (if r38 = v5 then (fX12_lays_b55 n w K3 v2 v3 v4 v5 v6 r38 v6 σ40) else (fX12_lays_b56 n w K3 v2 v3 v4 v5 v6 r38 1 v6 σ40))))))
set_option maxRecDepth 100000 in
theorem tX12_lays_b3 (hE : gEM l dC dI ad ca X) {σ' : gM} (n : Nat) (w : Nat) (hw : shM[w]? = some (.inl (.int, 616))) (K3 : Int32 → Int32 → Int32 → Int32 → Int32 → gM → Option (gM)) (hK3 : ∀ (v2 : Int32) (v3 : Int32) (v4 : Int32) (v5 : Int32) (v6 : Int32) (σ : gM), K3 v2 v3 v4 v5 v6 σ = some σ' → g_G l dC dI ad ca shM X cX12_lays 8 RX12 none (gR 2) none σ' 3 [(0, .ref 0), (1, .ref w), (2, .int v2), (3, .int v3), (4, .int v4), (5, .int v5), (6, .int v6)] [] σ) (v2 : Int32) (v3 : Int32) (v4 : Int32) (v5 : Int32) (v6 : Int32)  (σ : gM) (h : fX12_lays_b3 n w K3 v2 v3 v4 v5 v6 σ = some σ') : g_G l dC dI ad ca shM X cX12_lays 8 RX12 none (gR 2) none σ' 3 [(0, .ref 0), (1, .ref w), (2, .int v2), (3, .int v3), (4, .int v4), (5, .int v5), (6, .int v6)] [] σ := by
  unfold fX12_lays_b3 at h
  refine g_iload (pc := 3) dX12_lays_3 6 rfl ?_
  refine g_aload_n (pc := 5) dX12_lays_5 rfl 0 rfl ?_
  refine g_getI (pc := 6) wfX12_171 rfl rfl dX12_lays_6 ?_
  refine g_icmp_ge (pc := 9) (tgt := 93) dX12_lays_9 (by decide) (fun c35 => ?_) (fun c35 => ?_)
  · have h := g_ift c35 h
    cases h
    exact g_vret (pc := 93) rfl rfl rfl dX12_lays_93
  · have h := g_iff c35 h
    refine g_aload_n (pc := 12) dX12_lays_12 rfl 0 rfl ?_
    refine g_iload_n (pc := 13) dX12_lays_13 rfl 2 rfl ?_
    refine g_iload (pc := 14) dX12_lays_14 6 rfl ?_
    obtain ⟨r38, σ37, h36, h⟩ := g_bId h
    refine g_callVi (pc := 16) (st := []) hE.1 wvX12_199 rfl rfl (kX12_diskOf hE v2 v6 σ h36) rfl (gR_ok (by decide) (by decide)) (Nat.le_of_ble_eq_true rfl) rfl dX12_lays_16 ?_
    refine g_istore (pc := 19) (lv1 := [(7, .int r38), (0, .ref 0), (1, .ref w), (2, .int v2), (3, .int v3), (4, .int v4), (5, .int v5), (6, .int v6)]) dX12_lays_19 (by decide) rfl ?_
    refine g_aload_n (pc := 21) dX12_lays_21 rfl 1 rfl ?_
    refine g_getR (pc := 22) wfX12_53 rfl rfl dX12_lays_22 ?_
    refine g_iload (pc := 25) dX12_lays_25 7 rfl ?_
    refine g_aload_n (pc := 27) dX12_lays_27 rfl 2 rfl ?_
    refine g_iload (pc := 28) dX12_lays_28 0 rfl ?_
    refine g_iload_n (pc := 30) dX12_lays_30 rfl 3 rfl ?_
    obtain ⟨r41, σ40, h39, h⟩ := g_bId h
    refine g_callSi (pc := 31) (st := [.int v6, .ref 15]) hE.1 wsX12_202 (kX12_isThere hE w hw r38 v2 σ37 h39) rfl (gR_ok (by decide) (by decide)) (Nat.le_of_ble_eq_true rfl) rfl dX12_lays_31 ?_
    refine g_if_eq (pc := 34) (tgt := 55) dX12_lays_34 (by decide) (fun c42 => ?_) (fun c42 => ?_)
    · have h := g_ift c42 h
      exact g_lv [1, 2, 3, 4, 5, 6, 7, 0] rfl (tX12_lays_b55 hE n w hw K3 hK3 v2 v3 v4 v5 v6 r38 v6 σ40 h)
    · have h := g_iff c42 h
      refine g_iload (pc := 37) dX12_lays_37 0 rfl ?_
      refine g_iload (pc := 39) dX12_lays_39 5 rfl ?_
      refine g_icmp_eq (pc := 41) (tgt := 55) dX12_lays_41 (by decide) (fun c43 => ?_) (fun c43 => ?_)
      · have h := g_ift c43 h
        exact g_lv [1, 2, 3, 4, 5, 6, 7, 0] rfl (tX12_lays_b55 hE n w hw K3 hK3 v2 v3 v4 v5 v6 r38 v6 σ40 h)
      · have h := g_iff c43 h
        refine g_iload (pc := 44) dX12_lays_44 0 rfl ?_
        refine g_iload (pc := 46) dX12_lays_46 6 rfl ?_
        refine g_icmp_eq (pc := 48) (tgt := 55) dX12_lays_48 (by decide) (fun c44 => ?_) (fun c44 => ?_)
        · have h := g_ift c44 h
          exact g_lv [1, 2, 3, 4, 5, 6, 7, 0] rfl (tX12_lays_b55 hE n w hw K3 hK3 v2 v3 v4 v5 v6 r38 v6 σ40 h)
        · have h := g_iff c44 h
          refine g_iconst (pc := 51) (v := 1) dX12_lays_51 (by decide) ?_
          refine g_goto (pc := 52) (tgt := 56) dX12_lays_52 (by decide) ?_
          exact g_lv [1, 2, 3, 4, 5, 6, 7, 0] rfl (tX12_lays_b56 hE n w hw K3 hK3 v2 v3 v4 v5 v6 r38 1 v6 σ40 h)
def fX12_lays_L3 (n : Nat) (w : Nat) : Nat → Int32 → Int32 → Int32 → Int32 → Int32 → gM → Option (gM)
  | 0 => fun _ _ _ _ _ _ => none
  | k + 1 => fX12_lays_b3 n w (fX12_lays_L3 n w k)
theorem tX12_lays_L3 (hE : gEM l dC dI ad ca X) {σ' : gM} (n : Nat) (w : Nat) (hw : shM[w]? = some (.inl (.int, 616)))  : ∀ (k : Nat) (v2 : Int32) (v3 : Int32) (v4 : Int32) (v5 : Int32) (v6 : Int32) (σ : gM), fX12_lays_L3 n w k v2 v3 v4 v5 v6 σ = some σ' → g_G l dC dI ad ca shM X cX12_lays 8 RX12 none (gR 2) none σ' 3 [(0, .ref 0), (1, .ref w), (2, .int v2), (3, .int v3), (4, .int v4), (5, .int v5), (6, .int v6)] [] σ := by
  intro k
  induction k with
  | zero => intro v2 v3 v4 v5 v6 σ h; cases h
  | succ k ih => intro v2 v3 v4 v5 v6 σ h; exact tX12_lays_b3 hE n w hw (fX12_lays_L3 n w k) ih v2 v3 v4 v5 v6 σ h
def fX12_lays (n : Nat) (w : Nat) (v2 : Int32) (v3 : Int32) (v4 : Int32) (v5 : Int32) (σ : gM) : Option (gM) := fX12_lays_L3 n w n v2 v3 v4 v5 0 σ
set_option maxRecDepth 100000 in
theorem kX12_lays (hE : gEM l dC dI ad ca X) (n : Nat) (w : Nat) (hw : shM[w]? = some (.inl (.int, 616)))  (v2 : Int32) (v3 : Int32) (v4 : Int32) (v5 : Int32) (σ : gM) {σ' : gM} (h : fX12_lays n w v2 v3 v4 v5 σ = some σ') : g_C l dC dI ad ca shM X yX12_lays cX12_lays 8 none (gR 2) [.ref 0, .ref w, .int v2, .int v3, .int v4, .int v5] σ none σ' := by
  refine g_entry (by decide +kernel) (Nat.le_of_ble_eq_true rfl) ?_
  refine g_lvE (lv1 := [(0, .ref 0), (1, .ref w), (2, .int v2), (3, .int v3), (4, .int v4), (5, .int v5)]) rfl ?_
  unfold fX12_lays at h
  refine g_iconst (pc := 0) (v := 0) dX12_lays_0 (by decide) ?_
  refine g_istore (pc := 1) (lv1 := [(6, .int 0), (0, .ref 0), (1, .ref w), (2, .int v2), (3, .int v3), (4, .int v4), (5, .int v5)]) dX12_lays_1 (by decide) rfl ?_
  exact g_lv [1, 2, 3, 4, 5, 6, 0] rfl (tX12_lays_L3 hE n w hw n v2 v3 v4 v5 0 σ h)
def fX12_tries_b24 (v1 : Int32) (v2 : Int32) (v3 : Int32) (σ : gM) : Option (gM) := g_let (g_put σ 0 26 v1) (fun σ9 => g_let (g_put σ9 0 27 v2) (fun σ11 => g_let (g_put σ11 0 28 v3) (fun σ13 => some σ13)))
set_option maxRecDepth 100000 in
theorem tX12_tries_b24 (hE : gEM l dC dI ad ca X) {σ' : gM} (v1 : Int32) (v2 : Int32) (v3 : Int32)  (σ : gM) (h : fX12_tries_b24 v1 v2 v3 σ = some σ') : g_G l dC dI ad ca shM X cX12_tries 4 RX12 none (gR 0) none σ' 24 [(0, .ref 0), (1, .int v1), (2, .int v2), (3, .int v3)] [] σ := by
  unfold fX12_tries_b24 at h
  refine g_aload_n (pc := 24) dX12_tries_24 rfl 0 rfl ?_
  refine g_iload_n (pc := 25) dX12_tries_25 rfl 1 rfl ?_
  obtain ⟨σ9, e10, h⟩ := g_ltd h
  refine g_putI (pc := 26) wfX12_237 rfl rfl rfl rfl e10 dX12_tries_26 ?_
  refine g_aload_n (pc := 29) dX12_tries_29 rfl 0 rfl ?_
  refine g_iload_n (pc := 30) dX12_tries_30 rfl 2 rfl ?_
  obtain ⟨σ11, e12, h⟩ := g_ltd h
  refine g_putI (pc := 31) wfX12_240 rfl rfl rfl rfl e12 dX12_tries_31 ?_
  refine g_aload_n (pc := 34) dX12_tries_34 rfl 0 rfl ?_
  refine g_iload_n (pc := 35) dX12_tries_35 rfl 3 rfl ?_
  obtain ⟨σ13, e14, h⟩ := g_ltd h
  refine g_putI (pc := 36) wfX12_243 rfl rfl rfl rfl e14 dX12_tries_36 ?_
  cases h
  exact g_vret (pc := 39) rfl rfl rfl dX12_tries_39
def fX12_tries (v1 : Int32) (v2 : Int32) (v3 : Int32) (σ : gM) : Option (gM) := if (σ.1 0 26) = (-1) then (fX12_tries_b24 v1 v2 v3 σ) else (if (v2 + v3) < ((σ.1 0 27) + (σ.1 0 28)) then (fX12_tries_b24 v1 v2 v3 σ) else (some σ))
set_option maxRecDepth 100000 in
theorem kX12_tries (hE : gEM l dC dI ad ca X)  (v1 : Int32) (v2 : Int32) (v3 : Int32) (σ : gM) {σ' : gM} (h : fX12_tries v1 v2 v3 σ = some σ') : g_C l dC dI ad ca shM X yX12_tries cX12_tries 4 none (gR 0) [.ref 0, .int v1, .int v2, .int v3] σ none σ' := by
  refine g_entry (by decide +kernel) (Nat.le_of_ble_eq_true rfl) ?_
  refine g_lvE (lv1 := [(0, .ref 0), (1, .int v1), (2, .int v2), (3, .int v3)]) rfl ?_
  unfold fX12_tries at h
  refine g_aload_n (pc := 0) dX12_tries_0 rfl 0 rfl ?_
  refine g_getI (pc := 1) wfX12_237 rfl rfl dX12_tries_1 ?_
  refine g_iconst (pc := 4) (v := (-1)) dX12_tries_4 (by decide) ?_
  refine g_icmp_eq (pc := 5) (tgt := 24) dX12_tries_5 (by decide) (fun c15 => ?_) (fun c15 => ?_)
  · have h := g_ift c15 h
    exact g_lv [0, 1, 2, 3] rfl (tX12_tries_b24 hE v1 v2 v3 σ h)
  · have h := g_iff c15 h
    refine g_iload_n (pc := 8) dX12_tries_8 rfl 2 rfl ?_
    refine g_iload_n (pc := 9) dX12_tries_9 rfl 3 rfl ?_
    refine g_iadd (pc := 10) dX12_tries_10 ?_
    refine g_aload_n (pc := 11) dX12_tries_11 rfl 0 rfl ?_
    refine g_getI (pc := 12) wfX12_240 rfl rfl dX12_tries_12 ?_
    refine g_aload_n (pc := 15) dX12_tries_15 rfl 0 rfl ?_
    refine g_getI (pc := 16) wfX12_243 rfl rfl dX12_tries_16 ?_
    refine g_iadd (pc := 19) dX12_tries_19 ?_
    refine g_icmp_lt (pc := 20) (tgt := 24) dX12_tries_20 (by decide) (fun c16 => ?_) (fun c16 => ?_)
    · have h := g_ift c16 h
      exact g_lv [0, 1, 2, 3] rfl (tX12_tries_b24 hE v1 v2 v3 σ h)
    · have h := g_iff c16 h
      cases h
      exact g_vret (pc := 23) rfl rfl rfl dX12_tries_23
def fX12_chooses_b74 (n : Nat) (K45 : Int32 → Int32 → Int32 → Int32 → Int32 → gM → Option (gM)) (v1 : Int32) (v2 : Int32) (v3 : Int32) (v5 : Int32) (s0 : Int32) (s1 : Int32) (σ : gM) : Option (gM) := K45 v1 v2 v3 (s1 + s0) (v5 + 1) σ
set_option maxRecDepth 100000 in
theorem tX12_chooses_b74 (hE : gEM l dC dI ad ca X) {σ' : gM} (n : Nat) (K45 : Int32 → Int32 → Int32 → Int32 → Int32 → gM → Option (gM)) (hK45 : ∀ (v1 : Int32) (v2 : Int32) (v3 : Int32) (v4 : Int32) (v5 : Int32) (σ : gM), K45 v1 v2 v3 v4 v5 σ = some σ' → g_G l dC dI ad ca shM X cX12_chooses 6 RX12 none (gR 1) none σ' 45 [(0, .ref 0), (1, .int v1), (2, .int v2), (3, .int v3), (4, .int v4), (5, .int v5)] [] σ) (v1 : Int32) (v2 : Int32) (v3 : Int32) (v5 : Int32) (s0 : Int32) (s1 : Int32)  (σ : gM) (h : fX12_chooses_b74 n K45 v1 v2 v3 v5 s0 s1 σ = some σ') : g_G l dC dI ad ca shM X cX12_chooses 6 RX12 none (gR 1) none σ' 74 [(0, .ref 0), (1, .int v1), (2, .int v2), (3, .int v3), (5, .int v5)] [.int s0, .int s1] σ := by
  unfold fX12_chooses_b74 at h
  refine g_iadd (pc := 74) dX12_chooses_74 ?_
  refine g_istore (pc := 75) (lv1 := [(4, .int (s1 + s0)), (0, .ref 0), (1, .int v1), (2, .int v2), (3, .int v3), (5, .int v5)]) dX12_chooses_75 (by decide) rfl ?_
  refine g_iinc (pc := 77) (v := v5 + 1) (lv1 := [(5, .int (v5 + 1)), (4, .int (s1 + s0)), (0, .ref 0), (1, .int v1), (2, .int v2), (3, .int v3)]) dX12_chooses_77 5 rfl rfl (by decide) rfl ?_
  refine g_goto (pc := 80) (tgt := 45) dX12_chooses_80 (by decide) ?_
  exact g_lv [2, 3, 4, 5, 1, 0] rfl (hK45 v1 v2 v3 (s1 + s0) (v5 + 1) σ h)
def fX12_chooses_b73 (n : Nat) (K45 : Int32 → Int32 → Int32 → Int32 → Int32 → gM → Option (gM)) (v1 : Int32) (v2 : Int32) (v3 : Int32) (v5 : Int32) (s0 : Int32) (σ : gM) : Option (gM) := fX12_chooses_b74 n K45 v1 v2 v3 v5 0 s0 σ
set_option maxRecDepth 100000 in
theorem tX12_chooses_b73 (hE : gEM l dC dI ad ca X) {σ' : gM} (n : Nat) (K45 : Int32 → Int32 → Int32 → Int32 → Int32 → gM → Option (gM)) (hK45 : ∀ (v1 : Int32) (v2 : Int32) (v3 : Int32) (v4 : Int32) (v5 : Int32) (σ : gM), K45 v1 v2 v3 v4 v5 σ = some σ' → g_G l dC dI ad ca shM X cX12_chooses 6 RX12 none (gR 1) none σ' 45 [(0, .ref 0), (1, .int v1), (2, .int v2), (3, .int v3), (4, .int v4), (5, .int v5)] [] σ) (v1 : Int32) (v2 : Int32) (v3 : Int32) (v5 : Int32) (s0 : Int32)  (σ : gM) (h : fX12_chooses_b73 n K45 v1 v2 v3 v5 s0 σ = some σ') : g_G l dC dI ad ca shM X cX12_chooses 6 RX12 none (gR 1) none σ' 73 [(0, .ref 0), (1, .int v1), (2, .int v2), (3, .int v3), (5, .int v5)] [.int s0] σ := by
  unfold fX12_chooses_b73 at h
  refine g_iconst (pc := 73) (v := 0) dX12_chooses_73 (by decide) ?_
  exact g_lv [0, 1, 2, 3, 4] rfl (tX12_chooses_b74 hE n K45 hK45 v1 v2 v3 v5 0 s0 σ h)
def fX12_chooses_b140 (n : Nat) (v1 : Int32) (v2 : Int32) (v4 : Int32) (σ : gM) : Option (gM) := if ¬ (v1 < 0 ∨ 8 ≤ v1.toNatClampNeg) then (if (σ.1 15 v1.toNatClampNeg) = 0 then (if v4 = (v2 - 2) then (g_bV (fX12_tries 2 v2 2 σ) (fun σ29 => some σ29)) else (some σ)) else (some σ)) else none
set_option maxRecDepth 100000 in
theorem tX12_chooses_b140 (hE : gEM l dC dI ad ca X) {σ' : gM} (n : Nat) (v1 : Int32) (v2 : Int32) (v4 : Int32)  (σ : gM) (h : fX12_chooses_b140 n v1 v2 v4 σ = some σ') : g_G l dC dI ad ca shM X cX12_chooses 6 RX12 none (gR 1) none σ' 140 [(0, .ref 0), (1, .int v1), (2, .int v2), (4, .int v4)] [] σ := by
  unfold fX12_chooses_b140 at h
  refine g_aload_n (pc := 140) dX12_chooses_140 rfl 0 rfl ?_
  refine g_getR (pc := 141) wfX12_53 rfl rfl dX12_chooses_141 ?_
  refine g_iload_n (pc := 144) dX12_chooses_144 rfl 1 rfl ?_
  obtain ⟨c25, h⟩ := g_gd h
  refine g_zald (pc := 145) rfl c25 rfl dX12_chooses_145 ?_
  refine g_if_ne (pc := 146) (tgt := 164) dX12_chooses_146 (by decide) (fun c26 => ?_) (fun c26 => ?_)
  · have h := g_iff c26 h
    cases h
    exact g_vret (pc := 164) rfl rfl rfl dX12_chooses_164
  · have h := g_ift c26 h
    refine g_iload (pc := 149) dX12_chooses_149 3 rfl ?_
    refine g_iload_n (pc := 151) dX12_chooses_151 rfl 2 rfl ?_
    refine g_iconst (pc := 152) (v := 2) dX12_chooses_152 (by decide) ?_
    refine g_isub (pc := 153) dX12_chooses_153 ?_
    refine g_icmp_ne (pc := 154) (tgt := 164) dX12_chooses_154 (by decide) (fun c27 => ?_) (fun c27 => ?_)
    · have h := g_iff c27 h
      cases h
      exact g_vret (pc := 164) rfl rfl rfl dX12_chooses_164
    · have h := g_ift c27 h
      refine g_aload_n (pc := 157) dX12_chooses_157 rfl 0 rfl ?_
      refine g_iconst (pc := 158) (v := 2) dX12_chooses_158 (by decide) ?_
      refine g_iload_n (pc := 159) dX12_chooses_159 rfl 2 rfl ?_
      refine g_iconst (pc := 160) (v := 2) dX12_chooses_160 (by decide) ?_
      obtain ⟨σ29, h28, h⟩ := g_bVd h
      refine g_callVv (pc := 161) (st := []) hE.1 wvX12_246 rfl rfl (kX12_tries hE 2 v2 2 σ h28) rfl (gR_ok (by decide) (by decide)) (Nat.le_of_ble_eq_true rfl) rfl dX12_chooses_161 ?_
      cases h
      exact g_vret (pc := 164) rfl rfl rfl dX12_chooses_164
def fX12_chooses_b135 (n : Nat) (v1 : Int32) (v2 : Int32) (v3 : Int32) (v4 : Int32) (s0 : Int32) (s1 : Int32) (s2 : Int32) (σ : gM) : Option (gM) := g_bV (fX12_tries s2 s1 (s0 + v3) σ) (fun σ31 => fX12_chooses_b140 n v1 v2 v4 σ31)
set_option maxRecDepth 100000 in
theorem tX12_chooses_b135 (hE : gEM l dC dI ad ca X) {σ' : gM} (n : Nat) (v1 : Int32) (v2 : Int32) (v3 : Int32) (v4 : Int32) (s0 : Int32) (s1 : Int32) (s2 : Int32)  (σ : gM) (h : fX12_chooses_b135 n v1 v2 v3 v4 s0 s1 s2 σ = some σ') : g_G l dC dI ad ca shM X cX12_chooses 6 RX12 none (gR 1) none σ' 135 [(0, .ref 0), (1, .int v1), (2, .int v2), (3, .int v3), (4, .int v4)] [.int s0, .int s1, .int s2, .ref 0] σ := by
  unfold fX12_chooses_b135 at h
  refine g_iload_n (pc := 135) dX12_chooses_135 rfl 3 rfl ?_
  refine g_iadd (pc := 136) dX12_chooses_136 ?_
  obtain ⟨σ31, h30, h⟩ := g_bVd h
  refine g_callVv (pc := 137) (st := []) hE.1 wvX12_246 rfl rfl (kX12_tries hE s2 s1 (s0 + v3) σ h30) rfl (gR_ok (by decide) (by decide)) (Nat.le_of_ble_eq_true rfl) rfl dX12_chooses_137 ?_
  exact g_lv [0, 1, 2, 4] rfl (tX12_chooses_b140 hE n v1 v2 v4 σ31 h)
def fX12_chooses_b108 (n : Nat) (v1 : Int32) (v2 : Int32) (v3 : Int32) (v4 : Int32) (σ : gM) : Option (gM) := if v4 = (v2 - 1) then (if ¬ (v1 < 0 ∨ 8 ≤ v1.toNatClampNeg) then (if (σ.1 15 v1.toNatClampNeg) = 0 then (fX12_chooses_b135 n v1 v2 v3 v4 0 (v2 - 1) 1 σ) else (fX12_chooses_b135 n v1 v2 v3 v4 1 (v2 - 1) 1 σ)) else none) else (fX12_chooses_b140 n v1 v2 v4 σ)
set_option maxRecDepth 100000 in
theorem tX12_chooses_b108 (hE : gEM l dC dI ad ca X) {σ' : gM} (n : Nat) (v1 : Int32) (v2 : Int32) (v3 : Int32) (v4 : Int32)  (σ : gM) (h : fX12_chooses_b108 n v1 v2 v3 v4 σ = some σ') : g_G l dC dI ad ca shM X cX12_chooses 6 RX12 none (gR 1) none σ' 108 [(0, .ref 0), (1, .int v1), (2, .int v2), (3, .int v3), (4, .int v4)] [] σ := by
  unfold fX12_chooses_b108 at h
  refine g_iload (pc := 108) dX12_chooses_108 4 rfl ?_
  refine g_iload_n (pc := 110) dX12_chooses_110 rfl 2 rfl ?_
  refine g_iconst (pc := 111) (v := 1) dX12_chooses_111 (by decide) ?_
  refine g_isub (pc := 112) dX12_chooses_112 ?_
  refine g_icmp_ne (pc := 113) (tgt := 140) dX12_chooses_113 (by decide) (fun c32 => ?_) (fun c32 => ?_)
  · have h := g_iff c32 h
    exact g_lv [0, 1, 2, 4] rfl (tX12_chooses_b140 hE n v1 v2 v4 σ h)
  · have h := g_ift c32 h
    refine g_aload_n (pc := 116) dX12_chooses_116 rfl 0 rfl ?_
    refine g_iconst (pc := 117) (v := 1) dX12_chooses_117 (by decide) ?_
    refine g_iload_n (pc := 118) dX12_chooses_118 rfl 2 rfl ?_
    refine g_iconst (pc := 119) (v := 1) dX12_chooses_119 (by decide) ?_
    refine g_isub (pc := 120) dX12_chooses_120 ?_
    refine g_aload_n (pc := 121) dX12_chooses_121 rfl 0 rfl ?_
    refine g_getR (pc := 122) wfX12_53 rfl rfl dX12_chooses_122 ?_
    refine g_iload_n (pc := 125) dX12_chooses_125 rfl 1 rfl ?_
    obtain ⟨c33, h⟩ := g_gd h
    refine g_zald (pc := 126) rfl c33 rfl dX12_chooses_126 ?_
    refine g_if_eq (pc := 127) (tgt := 134) dX12_chooses_127 (by decide) (fun c34 => ?_) (fun c34 => ?_)
    · have h := g_ift c34 h
      refine g_iconst (pc := 134) (v := 0) dX12_chooses_134 (by decide) ?_
      exact g_lv [0, 1, 2, 3, 4] rfl (tX12_chooses_b135 hE n v1 v2 v3 v4 0 (v2 - 1) 1 σ h)
    · have h := g_iff c34 h
      refine g_iconst (pc := 130) (v := 1) dX12_chooses_130 (by decide) ?_
      refine g_goto (pc := 131) (tgt := 135) dX12_chooses_131 (by decide) ?_
      exact g_lv [0, 1, 2, 3, 4] rfl (tX12_chooses_b135 hE n v1 v2 v3 v4 1 (v2 - 1) 1 σ h)
def fX12_chooses_b45 (n : Nat) (K45 : Int32 → Int32 → Int32 → Int32 → Int32 → gM → Option (gM)) (v1 : Int32) (v2 : Int32) (v3 : Int32) (v4 : Int32) (v5 : Int32) (σ : gM) : Option (gM) := if v2 ≤ v5 then (g_let (g_put σ 0 26 (-1)) (fun σ36 => if ¬ (v1 < 0 ∨ 8 ≤ v1.toNatClampNeg) then (if (σ36.1 15 v1.toNatClampNeg) = 0 then (fX12_chooses_b108 n v1 v2 v3 v4 σ36) else (g_bV (fX12_tries 0 (1 + v3) (1 + v3) σ36) (fun σ41 => fX12_chooses_b108 n v1 v2 v3 v4 σ41))) else none)) else (if v5 = v1 then (fX12_chooses_b73 n K45 v1 v2 v3 v5 v4 σ) else (if ¬ (v5 < 0 ∨ 8 ≤ v5.toNatClampNeg) then (if (σ.1 15 v5.toNatClampNeg) = 0 then (fX12_chooses_b73 n K45 v1 v2 v3 v5 v4 σ) else (fX12_chooses_b74 n K45 v1 v2 v3 v5 1 v4 σ)) else none))
set_option maxRecDepth 100000 in
theorem tX12_chooses_b45 (hE : gEM l dC dI ad ca X) {σ' : gM} (n : Nat) (K45 : Int32 → Int32 → Int32 → Int32 → Int32 → gM → Option (gM)) (hK45 : ∀ (v1 : Int32) (v2 : Int32) (v3 : Int32) (v4 : Int32) (v5 : Int32) (σ : gM), K45 v1 v2 v3 v4 v5 σ = some σ' → g_G l dC dI ad ca shM X cX12_chooses 6 RX12 none (gR 1) none σ' 45 [(0, .ref 0), (1, .int v1), (2, .int v2), (3, .int v3), (4, .int v4), (5, .int v5)] [] σ) (v1 : Int32) (v2 : Int32) (v3 : Int32) (v4 : Int32) (v5 : Int32)  (σ : gM) (h : fX12_chooses_b45 n K45 v1 v2 v3 v4 v5 σ = some σ') : g_G l dC dI ad ca shM X cX12_chooses 6 RX12 none (gR 1) none σ' 45 [(0, .ref 0), (1, .int v1), (2, .int v2), (3, .int v3), (4, .int v4), (5, .int v5)] [] σ := by
  unfold fX12_chooses_b45 at h
  refine g_iload (pc := 45) dX12_chooses_45 5 rfl ?_
  refine g_iload_n (pc := 47) dX12_chooses_47 rfl 2 rfl ?_
  refine g_icmp_ge (pc := 48) (tgt := 83) dX12_chooses_48 (by decide) (fun c35 => ?_) (fun c35 => ?_)
  · have h := g_ift c35 h
    refine g_aload_n (pc := 83) dX12_chooses_83 rfl 0 rfl ?_
    refine g_iconst (pc := 84) (v := (-1)) dX12_chooses_84 (by decide) ?_
    obtain ⟨σ36, e37, h⟩ := g_ltd h
    refine g_putI (pc := 85) wfX12_237 rfl rfl rfl rfl e37 dX12_chooses_85 ?_
    refine g_aload_n (pc := 88) dX12_chooses_88 rfl 0 rfl ?_
    refine g_getR (pc := 89) wfX12_53 rfl rfl dX12_chooses_89 ?_
    refine g_iload_n (pc := 92) dX12_chooses_92 rfl 1 rfl ?_
    obtain ⟨c38, h⟩ := g_gd h
    refine g_zald (pc := 93) rfl c38 rfl dX12_chooses_93 ?_
    refine g_if_eq (pc := 94) (tgt := 108) dX12_chooses_94 (by decide) (fun c39 => ?_) (fun c39 => ?_)
    · have h := g_ift c39 h
      exact g_lv [0, 1, 2, 3, 4] rfl (tX12_chooses_b108 hE n v1 v2 v3 v4 σ36 h)
    · have h := g_iff c39 h
      refine g_aload_n (pc := 97) dX12_chooses_97 rfl 0 rfl ?_
      refine g_iconst (pc := 98) (v := 0) dX12_chooses_98 (by decide) ?_
      refine g_iconst (pc := 99) (v := 1) dX12_chooses_99 (by decide) ?_
      refine g_iload_n (pc := 100) dX12_chooses_100 rfl 3 rfl ?_
      refine g_iadd (pc := 101) dX12_chooses_101 ?_
      refine g_iconst (pc := 102) (v := 1) dX12_chooses_102 (by decide) ?_
      refine g_iload_n (pc := 103) dX12_chooses_103 rfl 3 rfl ?_
      refine g_iadd (pc := 104) dX12_chooses_104 ?_
      obtain ⟨σ41, h40, h⟩ := g_bVd h
      refine g_callVv (pc := 105) (st := []) hE.1 wvX12_246 rfl rfl (kX12_tries hE 0 (1 + v3) (1 + v3) σ36 h40) rfl (gR_ok (by decide) (by decide)) (Nat.le_of_ble_eq_true rfl) rfl dX12_chooses_105 ?_
      exact g_lv [0, 1, 2, 3, 4] rfl (tX12_chooses_b108 hE n v1 v2 v3 v4 σ41 h)
  · have h := g_iff c35 h
    refine g_iload (pc := 51) dX12_chooses_51 4 rfl ?_
    refine g_iload (pc := 53) dX12_chooses_53 5 rfl ?_
    refine g_iload_n (pc := 55) dX12_chooses_55 rfl 1 rfl ?_
    refine g_icmp_eq (pc := 56) (tgt := 73) dX12_chooses_56 (by decide) (fun c42 => ?_) (fun c42 => ?_)
    · have h := g_ift c42 h
      exact g_lv [0, 1, 2, 3, 5] rfl (tX12_chooses_b73 hE n K45 hK45 v1 v2 v3 v5 v4 σ h)
    · have h := g_iff c42 h
      refine g_aload_n (pc := 59) dX12_chooses_59 rfl 0 rfl ?_
      refine g_getR (pc := 60) wfX12_53 rfl rfl dX12_chooses_60 ?_
      refine g_iload (pc := 63) dX12_chooses_63 5 rfl ?_
      obtain ⟨c43, h⟩ := g_gd h
      refine g_zald (pc := 65) rfl c43 rfl dX12_chooses_65 ?_
      refine g_if_eq (pc := 66) (tgt := 73) dX12_chooses_66 (by decide) (fun c44 => ?_) (fun c44 => ?_)
      · have h := g_ift c44 h
        exact g_lv [0, 1, 2, 3, 5] rfl (tX12_chooses_b73 hE n K45 hK45 v1 v2 v3 v5 v4 σ h)
      · have h := g_iff c44 h
        refine g_iconst (pc := 69) (v := 1) dX12_chooses_69 (by decide) ?_
        refine g_goto (pc := 70) (tgt := 74) dX12_chooses_70 (by decide) ?_
        exact g_lv [0, 1, 2, 3, 5] rfl (tX12_chooses_b74 hE n K45 hK45 v1 v2 v3 v5 1 v4 σ h)
def fX12_chooses_L45 (n : Nat) : Nat → Int32 → Int32 → Int32 → Int32 → Int32 → gM → Option (gM)
  | 0 => fun _ _ _ _ _ _ => none
  | k + 1 => fX12_chooses_b45 n (fX12_chooses_L45 n k)
theorem tX12_chooses_L45 (hE : gEM l dC dI ad ca X) {σ' : gM} (n : Nat)  : ∀ (k : Nat) (v1 : Int32) (v2 : Int32) (v3 : Int32) (v4 : Int32) (v5 : Int32) (σ : gM), fX12_chooses_L45 n k v1 v2 v3 v4 v5 σ = some σ' → g_G l dC dI ad ca shM X cX12_chooses 6 RX12 none (gR 1) none σ' 45 [(0, .ref 0), (1, .int v1), (2, .int v2), (3, .int v3), (4, .int v4), (5, .int v5)] [] σ := by
  intro k
  induction k with
  | zero => intro v1 v2 v3 v4 v5 σ h; cases h
  | succ k ih => intro v1 v2 v3 v4 v5 σ h; exact tX12_chooses_b45 hE n (fX12_chooses_L45 n k) ih v1 v2 v3 v4 v5 σ h
def fX12_chooses_b37 (n : Nat) (v1 : Int32) (v2 : Int32) (s0 : Int32) (s1 : Int32) (σ : gM) : Option (gM) := fX12_chooses_L45 n n v1 v2 (s1 + s0) 0 0 σ
set_option maxRecDepth 100000 in
theorem tX12_chooses_b37 (hE : gEM l dC dI ad ca X) {σ' : gM} (n : Nat) (v1 : Int32) (v2 : Int32) (s0 : Int32) (s1 : Int32)  (σ : gM) (h : fX12_chooses_b37 n v1 v2 s0 s1 σ = some σ') : g_G l dC dI ad ca shM X cX12_chooses 6 RX12 none (gR 1) none σ' 37 [(0, .ref 0), (1, .int v1), (2, .int v2)] [.int s0, .int s1] σ := by
  unfold fX12_chooses_b37 at h
  refine g_iadd (pc := 37) dX12_chooses_37 ?_
  refine g_istore_n (pc := 38) (lv1 := [(3, .int (s1 + s0)), (0, .ref 0), (1, .int v1), (2, .int v2)]) dX12_chooses_38 rfl (by decide) rfl ?_
  refine g_iconst (pc := 39) (v := 0) dX12_chooses_39 (by decide) ?_
  refine g_istore (pc := 40) (lv1 := [(4, .int 0), (3, .int (s1 + s0)), (0, .ref 0), (1, .int v1), (2, .int v2)]) dX12_chooses_40 (by decide) rfl ?_
  refine g_iconst (pc := 42) (v := 0) dX12_chooses_42 (by decide) ?_
  refine g_istore (pc := 43) (lv1 := [(5, .int 0), (4, .int 0), (3, .int (s1 + s0)), (0, .ref 0), (1, .int v1), (2, .int v2)]) dX12_chooses_43 (by decide) rfl ?_
  exact g_lv [3, 4, 5, 2, 1, 0] rfl (tX12_chooses_L45 hE n n v1 v2 (s1 + s0) 0 0 σ h)
def fX12_chooses_b21 (n : Nat) (v1 : Int32) (v2 : Int32) (s0 : Int32) (σ : gM) : Option (gM) := if ¬ ((v2 + 1) < 0 ∨ 8 ≤ (v2 + 1).toNatClampNeg) then (if (σ.1 15 ((v2 + 1).toNatClampNeg)) = 0 then (fX12_chooses_b37 n v1 v2 0 s0 σ) else (fX12_chooses_b37 n v1 v2 1 s0 σ)) else none
set_option maxRecDepth 100000 in
theorem tX12_chooses_b21 (hE : gEM l dC dI ad ca X) {σ' : gM} (n : Nat) (v1 : Int32) (v2 : Int32) (s0 : Int32)  (σ : gM) (h : fX12_chooses_b21 n v1 v2 s0 σ = some σ') : g_G l dC dI ad ca shM X cX12_chooses 6 RX12 none (gR 1) none σ' 21 [(0, .ref 0), (1, .int v1), (2, .int v2)] [.int s0] σ := by
  unfold fX12_chooses_b21 at h
  refine g_aload_n (pc := 21) dX12_chooses_21 rfl 0 rfl ?_
  refine g_getR (pc := 22) wfX12_53 rfl rfl dX12_chooses_22 ?_
  refine g_iload_n (pc := 25) dX12_chooses_25 rfl 2 rfl ?_
  refine g_iconst (pc := 26) (v := 1) dX12_chooses_26 (by decide) ?_
  refine g_iadd (pc := 27) dX12_chooses_27 ?_
  obtain ⟨c45, h⟩ := g_gd h
  refine g_zald (pc := 28) rfl c45 rfl dX12_chooses_28 ?_
  refine g_if_eq (pc := 29) (tgt := 36) dX12_chooses_29 (by decide) (fun c46 => ?_) (fun c46 => ?_)
  · have h := g_ift c46 h
    refine g_iconst (pc := 36) (v := 0) dX12_chooses_36 (by decide) ?_
    exact g_lv [0, 1, 2] rfl (tX12_chooses_b37 hE n v1 v2 0 s0 σ h)
  · have h := g_iff c46 h
    refine g_iconst (pc := 32) (v := 1) dX12_chooses_32 (by decide) ?_
    refine g_goto (pc := 33) (tgt := 37) dX12_chooses_33 (by decide) ?_
    exact g_lv [0, 1, 2] rfl (tX12_chooses_b37 hE n v1 v2 1 s0 σ h)
def fX12_chooses (n : Nat) (v1 : Int32) (σ : gM) : Option (gM) := if ¬ ((σ.1 3 0) < 0 ∨ 8 ≤ (σ.1 3 0).toNatClampNeg) then (if (σ.1 15 ((σ.1 3 0).toNatClampNeg)) = 0 then (fX12_chooses_b21 n v1 (σ.1 3 0) 0 σ) else (fX12_chooses_b21 n v1 (σ.1 3 0) 1 σ)) else none
set_option maxRecDepth 100000 in
theorem kX12_chooses (hE : gEM l dC dI ad ca X) (n : Nat)  (v1 : Int32) (σ : gM) {σ' : gM} (h : fX12_chooses n v1 σ = some σ') : g_C l dC dI ad ca shM X yX12_chooses cX12_chooses 6 none (gR 1) [.ref 0, .int v1] σ none σ' := by
  refine g_entry (by decide +kernel) (Nat.le_of_ble_eq_true rfl) ?_
  refine g_lvE (lv1 := [(0, .ref 0), (1, .int v1)]) rfl ?_
  unfold fX12_chooses at h
  refine g_aload_n (pc := 0) dX12_chooses_0 rfl 0 rfl ?_
  refine g_getR (pc := 1) wfX12_17 rfl rfl dX12_chooses_1 ?_
  refine g_iconst (pc := 4) (v := 0) dX12_chooses_4 (by decide) ?_
  refine g_iald (pc := 5) rfl (by decide) (j := 0) (by decide) dX12_chooses_5 ?_
  refine g_istore_n (pc := 6) (lv1 := [(2, .int (σ.1 3 0)), (0, .ref 0), (1, .int v1)]) dX12_chooses_6 rfl (by decide) rfl ?_
  refine g_aload_n (pc := 7) dX12_chooses_7 rfl 1 rfl ?_
  refine g_getR (pc := 8) wfX12_53 rfl rfl dX12_chooses_8 ?_
  refine g_iload_n (pc := 11) dX12_chooses_11 rfl 0 rfl ?_
  obtain ⟨c47, h⟩ := g_gd h
  refine g_zald (pc := 12) rfl c47 rfl dX12_chooses_12 ?_
  refine g_if_eq (pc := 13) (tgt := 20) dX12_chooses_13 (by decide) (fun c48 => ?_) (fun c48 => ?_)
  · have h := g_ift c48 h
    refine g_iconst (pc := 20) (v := 0) dX12_chooses_20 (by decide) ?_
    exact g_lv [1, 2, 0] rfl (tX12_chooses_b21 hE n v1 (σ.1 3 0) 0 σ h)
  · have h := g_iff c48 h
    refine g_iconst (pc := 16) (v := 1) dX12_chooses_16 (by decide) ?_
    refine g_goto (pc := 17) (tgt := 21) dX12_chooses_17 (by decide) ?_
    exact g_lv [1, 2, 0] rfl (tX12_chooses_b21 hE n v1 (σ.1 3 0) 1 σ h)
def fX12_isRead_b32 (σ : gM) : Option (Int32 × gM) := some (1, σ)
set_option maxRecDepth 100000 in
theorem tX12_isRead_b32 (hE : gEM l dC dI ad ca X) {r0 : Int32} {σ' : gM}  (σ : gM) (h : fX12_isRead_b32 σ = some (r0, σ')) : g_G l dC dI ad ca shM X cX12_isRead 4 RX12 (some .boolean) (gR 0) (some (.int r0)) σ' 32 [] [] σ := by
  unfold fX12_isRead_b32 at h
  refine g_iconst (pc := 32) (v := 1) dX12_isRead_32 (by decide) ?_
  refine g_goto (pc := 33) (tgt := 66) dX12_isRead_33 (by decide) ?_
  cases h
  exact g_iret (pc := 66) rfl (by decide) rfl rfl dX12_isRead_66
def fX12_isRead_b61 (σ : gM) : Option (Int32 × gM) := some (0, σ)
set_option maxRecDepth 100000 in
theorem tX12_isRead_b61 (hE : gEM l dC dI ad ca X) {r0 : Int32} {σ' : gM}  (σ : gM) (h : fX12_isRead_b61 σ = some (r0, σ')) : g_G l dC dI ad ca shM X cX12_isRead 4 RX12 (some .boolean) (gR 0) (some (.int r0)) σ' 61 [] [] σ := by
  unfold fX12_isRead_b61 at h
  refine g_iconst (pc := 61) (v := 0) dX12_isRead_61 (by decide) ?_
  refine g_goto (pc := 62) (tgt := 66) dX12_isRead_62 (by decide) ?_
  cases h
  exact g_iret (pc := 66) rfl (by decide) rfl rfl dX12_isRead_66
def fX12_isRead_b15 (v1 : Int32) (v2 : Int32) (s0 : Int32) (σ : gM) : Option (Int32 × gM) := if (σ.1 0 26) = 0 then (if s0 = 0 then (fX12_isRead_b32 σ) else (if v1 = v2 then (fX12_isRead_b32 σ) else (some (0, σ)))) else (if (σ.1 0 26) = 1 then (if s0 = 0 then (fX12_isRead_b61 σ) else (if v1 = v2 then (fX12_isRead_b61 σ) else (some (1, σ)))) else (some (1, σ)))
set_option maxRecDepth 100000 in
theorem tX12_isRead_b15 (hE : gEM l dC dI ad ca X) {r0 : Int32} {σ' : gM} (v1 : Int32) (v2 : Int32) (s0 : Int32)  (σ : gM) (h : fX12_isRead_b15 v1 v2 s0 σ = some (r0, σ')) : g_G l dC dI ad ca shM X cX12_isRead 4 RX12 (some .boolean) (gR 0) (some (.int r0)) σ' 15 [(0, .ref 0), (1, .int v1), (2, .int v2)] [.int s0] σ := by
  unfold fX12_isRead_b15 at h
  refine g_istore_n (pc := 15) (lv1 := [(3, .int s0), (0, .ref 0), (1, .int v1), (2, .int v2)]) dX12_isRead_15 rfl (by decide) rfl ?_
  refine g_aload_n (pc := 16) dX12_isRead_16 rfl 1 rfl ?_
  refine g_getI (pc := 17) wfX12_237 rfl rfl dX12_isRead_17 ?_
  refine g_if_ne (pc := 20) (tgt := 40) dX12_isRead_20 (by decide) (fun c8 => ?_) (fun c8 => ?_)
  · have h := g_iff c8 h
    refine g_aload_n (pc := 40) dX12_isRead_40 rfl 1 rfl ?_
    refine g_getI (pc := 41) wfX12_237 rfl rfl dX12_isRead_41 ?_
    refine g_iconst (pc := 44) (v := 1) dX12_isRead_44 (by decide) ?_
    refine g_icmp_ne (pc := 45) (tgt := 65) dX12_isRead_45 (by decide) (fun c9 => ?_) (fun c9 => ?_)
    · have h := g_iff c9 h
      refine g_iconst (pc := 65) (v := 1) dX12_isRead_65 (by decide) ?_
      cases h
      exact g_iret (pc := 66) rfl (by decide) rfl rfl dX12_isRead_66
    · have h := g_ift c9 h
      refine g_iload_n (pc := 48) dX12_isRead_48 rfl 0 rfl ?_
      refine g_if_eq (pc := 49) (tgt := 61) dX12_isRead_49 (by decide) (fun c10 => ?_) (fun c10 => ?_)
      · have h := g_ift c10 h
        exact g_lv [] rfl (tX12_isRead_b61 hE σ h)
      · have h := g_iff c10 h
        refine g_iload_n (pc := 52) dX12_isRead_52 rfl 2 rfl ?_
        refine g_iload_n (pc := 53) dX12_isRead_53 rfl 3 rfl ?_
        refine g_icmp_eq (pc := 54) (tgt := 61) dX12_isRead_54 (by decide) (fun c11 => ?_) (fun c11 => ?_)
        · have h := g_ift c11 h
          exact g_lv [] rfl (tX12_isRead_b61 hE σ h)
        · have h := g_iff c11 h
          refine g_iconst (pc := 57) (v := 1) dX12_isRead_57 (by decide) ?_
          refine g_goto (pc := 58) (tgt := 66) dX12_isRead_58 (by decide) ?_
          cases h
          exact g_iret (pc := 66) rfl (by decide) rfl rfl dX12_isRead_66
  · have h := g_ift c8 h
    refine g_iload_n (pc := 23) dX12_isRead_23 rfl 0 rfl ?_
    refine g_if_eq (pc := 24) (tgt := 32) dX12_isRead_24 (by decide) (fun c12 => ?_) (fun c12 => ?_)
    · have h := g_ift c12 h
      exact g_lv [] rfl (tX12_isRead_b32 hE σ h)
    · have h := g_iff c12 h
      refine g_iload_n (pc := 27) dX12_isRead_27 rfl 2 rfl ?_
      refine g_iload_n (pc := 28) dX12_isRead_28 rfl 3 rfl ?_
      refine g_icmp_ne (pc := 29) (tgt := 36) dX12_isRead_29 (by decide) (fun c13 => ?_) (fun c13 => ?_)
      · have h := g_iff c13 h
        refine g_iconst (pc := 36) (v := 0) dX12_isRead_36 (by decide) ?_
        refine g_goto (pc := 37) (tgt := 66) dX12_isRead_37 (by decide) ?_
        cases h
        exact g_iret (pc := 66) rfl (by decide) rfl rfl dX12_isRead_66
      · have h := g_ift c13 h
        exact g_lv [] rfl (tX12_isRead_b32 hE σ h)
def fX12_isRead (v1 : Int32) (v2 : Int32) (σ : gM) : Option (Int32 × gM) := if (σ.1 3 0) ≤ v1 then (fX12_isRead_b15 v1 v2 0 σ) else (fX12_isRead_b15 v1 v2 1 σ)
set_option maxRecDepth 100000 in
theorem kX12_isRead (hE : gEM l dC dI ad ca X)  (v1 : Int32) (v2 : Int32) (σ : gM) {r0 : Int32} {σ' : gM} (h : fX12_isRead v1 v2 σ = some (r0, σ')) : g_C l dC dI ad ca shM X yX12_isRead cX12_isRead 4 (some .boolean) (gR 0) [.ref 0, .int v1, .int v2] σ (some (.int r0)) σ' := by
  refine g_entry (by decide +kernel) (Nat.le_of_ble_eq_true rfl) ?_
  refine g_lvE (lv1 := [(0, .ref 0), (1, .int v1), (2, .int v2)]) rfl ?_
  unfold fX12_isRead at h
  refine g_iload_n (pc := 0) dX12_isRead_0 rfl 1 rfl ?_
  refine g_aload_n (pc := 1) dX12_isRead_1 rfl 0 rfl ?_
  refine g_getR (pc := 2) wfX12_17 rfl rfl dX12_isRead_2 ?_
  refine g_iconst (pc := 5) (v := 0) dX12_isRead_5 (by decide) ?_
  refine g_iald (pc := 6) rfl (by decide) (j := 0) (by decide) dX12_isRead_6 ?_
  refine g_icmp_ge (pc := 7) (tgt := 14) dX12_isRead_7 (by decide) (fun c14 => ?_) (fun c14 => ?_)
  · have h := g_ift c14 h
    refine g_iconst (pc := 14) (v := 0) dX12_isRead_14 (by decide) ?_
    exact g_lv [0, 1, 2] rfl (tX12_isRead_b15 hE v1 v2 0 σ h)
  · have h := g_iff c14 h
    refine g_iconst (pc := 10) (v := 1) dX12_isRead_10 (by decide) ?_
    refine g_goto (pc := 11) (tgt := 15) dX12_isRead_11 (by decide) ?_
    exact g_lv [0, 1, 2] rfl (tX12_isRead_b15 hE v1 v2 1 σ h)
def fX12_counts_b35 (w : Nat) (s0 : Int32) (σ : gM) : Option (gM) := if ¬ (s0 < 0 ∨ 616 ≤ s0.toNatClampNeg) then (if ¬ (s0 < 0 ∨ 616 ≤ s0.toNatClampNeg) then (g_let (g_put σ w s0.toNatClampNeg ((σ.1 w s0.toNatClampNeg) + 1)) (fun σ13 => some σ13)) else none) else none
set_option maxRecDepth 100000 in
theorem tX12_counts_b35 (hE : gEM l dC dI ad ca X) {σ' : gM} (w : Nat) (hw : shM[w]? = some (.inl (.int, 616))) (s0 : Int32)  (σ : gM) (h : fX12_counts_b35 w s0 σ = some σ') : g_G l dC dI ad ca shM X cX12_counts 4 RX12 none (gR 0) none σ' 35 [] [.int s0, .ref w] σ := by
  unfold fX12_counts_b35 at h
  refine g_dup2 (pc := 35) dX12_counts_35 rfl rfl ?_
  obtain ⟨c11, h⟩ := g_gd h
  refine g_iald (pc := 36) hw c11 rfl dX12_counts_36 ?_
  refine g_iconst (pc := 37) (v := 1) dX12_counts_37 (by decide) ?_
  refine g_iadd (pc := 38) dX12_counts_38 ?_
  obtain ⟨c12, h⟩ := g_gd h
  obtain ⟨σ13, e14, h⟩ := g_ltd h
  refine g_iast (pc := 39) hw c12 rfl e14 dX12_counts_39 ?_
  cases h
  exact g_vret (pc := 40) rfl rfl rfl dX12_counts_40
def fX12_counts_b14 (w : Nat) (v2 : Int32) (v3 : Int32) (s0 : Int32) (σ : gM) : Option (gM) := if ¬ ((s0 + v2) < 0 ∨ 616 ≤ (s0 + v2).toNatClampNeg) then (if ¬ ((s0 + v2) < 0 ∨ 616 ≤ (s0 + v2).toNatClampNeg) then (g_let (g_put σ w ((s0 + v2).toNatClampNeg) ((σ.1 w ((s0 + v2).toNatClampNeg)) + 1)) (fun σ17 => if v3 = 0 then (fX12_counts_b35 w 427 σ17) else (fX12_counts_b35 w 428 σ17))) else none) else none
set_option maxRecDepth 100000 in
theorem tX12_counts_b14 (hE : gEM l dC dI ad ca X) {σ' : gM} (w : Nat) (hw : shM[w]? = some (.inl (.int, 616))) (v2 : Int32) (v3 : Int32) (s0 : Int32)  (σ : gM) (h : fX12_counts_b14 w v2 v3 s0 σ = some σ') : g_G l dC dI ad ca shM X cX12_counts 4 RX12 none (gR 0) none σ' 14 [(1, .ref w), (2, .int v2), (3, .int v3)] [.int s0, .ref w] σ := by
  unfold fX12_counts_b14 at h
  refine g_iload_n (pc := 14) dX12_counts_14 rfl 1 rfl ?_
  refine g_iadd (pc := 15) dX12_counts_15 ?_
  refine g_dup2 (pc := 16) dX12_counts_16 rfl rfl ?_
  obtain ⟨c15, h⟩ := g_gd h
  refine g_iald (pc := 17) hw c15 rfl dX12_counts_17 ?_
  refine g_iconst (pc := 18) (v := 1) dX12_counts_18 (by decide) ?_
  refine g_iadd (pc := 19) dX12_counts_19 ?_
  obtain ⟨c16, h⟩ := g_gd h
  obtain ⟨σ17, e18, h⟩ := g_ltd h
  refine g_iast (pc := 20) hw c16 rfl e18 dX12_counts_20 ?_
  refine g_aload_n (pc := 21) dX12_counts_21 rfl 0 rfl ?_
  refine g_iload_n (pc := 22) dX12_counts_22 rfl 2 rfl ?_
  refine g_if_eq (pc := 23) (tgt := 32) dX12_counts_23 (by decide) (fun c19 => ?_) (fun c19 => ?_)
  · have h := g_ift c19 h
    refine g_sipush (pc := 32) (v := 427) dX12_counts_32 (by decide) ?_
    exact g_lv [] rfl (tX12_counts_b35 hE w hw 427 σ17 h)
  · have h := g_iff c19 h
    refine g_sipush (pc := 26) (v := 428) dX12_counts_26 (by decide) ?_
    refine g_goto (pc := 29) (tgt := 35) dX12_counts_29 (by decide) ?_
    exact g_lv [] rfl (tX12_counts_b35 hE w hw 428 σ17 h)
def fX12_counts (w : Nat) (v2 : Int32) (v3 : Int32) (σ : gM) : Option (gM) := if v3 = 0 then (fX12_counts_b14 w v2 v3 400 σ) else (fX12_counts_b14 w v2 v3 408 σ)
set_option maxRecDepth 100000 in
theorem kX12_counts (hE : gEM l dC dI ad ca X) (w : Nat) (hw : shM[w]? = some (.inl (.int, 616)))  (v2 : Int32) (v3 : Int32) (σ : gM) {σ' : gM} (h : fX12_counts w v2 v3 σ = some σ') : g_C l dC dI ad ca shM X yX12_counts cX12_counts 4 none (gR 0) [.ref 0, .ref w, .int v2, .int v3] σ none σ' := by
  refine g_entry (by decide +kernel) (Nat.le_of_ble_eq_true rfl) ?_
  refine g_lvE (lv1 := [(0, .ref 0), (1, .ref w), (2, .int v2), (3, .int v3)]) rfl ?_
  unfold fX12_counts at h
  refine g_aload_n (pc := 0) dX12_counts_0 rfl 1 rfl ?_
  refine g_iload_n (pc := 1) dX12_counts_1 rfl 3 rfl ?_
  refine g_if_eq (pc := 2) (tgt := 11) dX12_counts_2 (by decide) (fun c20 => ?_) (fun c20 => ?_)
  · have h := g_ift c20 h
    refine g_sipush (pc := 11) (v := 400) dX12_counts_11 (by decide) ?_
    exact g_lv [1, 2, 3] rfl (tX12_counts_b14 hE w hw v2 v3 400 σ h)
  · have h := g_iff c20 h
    refine g_sipush (pc := 5) (v := 408) dX12_counts_5 (by decide) ?_
    refine g_goto (pc := 8) (tgt := 14) dX12_counts_8 (by decide) ?_
    exact g_lv [1, 2, 3] rfl (tX12_counts_b14 hE w hw v2 v3 408 σ h)
def fX12_countsRole (w : Nat) (v2 : Int32) (v3 : Int32) (v4 : Int32) (σ : gM) : Option (gM) := g_bI (fX12_diskOf v2 v3 σ) (fun r8 σ7 => g_bV (fX12_counts w r8 v4 σ7) (fun σ10 => some σ10))
set_option maxRecDepth 100000 in
theorem kX12_countsRole (hE : gEM l dC dI ad ca X) (w : Nat) (hw : shM[w]? = some (.inl (.int, 616)))  (v2 : Int32) (v3 : Int32) (v4 : Int32) (σ : gM) {σ' : gM} (h : fX12_countsRole w v2 v3 v4 σ = some σ') : g_C l dC dI ad ca shM X yX12_countsRole cX12_countsRole 5 none (gR 2) [.ref 0, .ref w, .int v2, .int v3, .int v4] σ none σ' := by
  refine g_entry (by decide +kernel) (Nat.le_of_ble_eq_true rfl) ?_
  refine g_lvE (lv1 := [(0, .ref 0), (1, .ref w), (2, .int v2), (3, .int v3), (4, .int v4)]) rfl ?_
  unfold fX12_countsRole at h
  refine g_aload_n (pc := 0) dX12_countsRole_0 rfl 0 rfl ?_
  refine g_aload_n (pc := 1) dX12_countsRole_1 rfl 1 rfl ?_
  refine g_aload_n (pc := 2) dX12_countsRole_2 rfl 0 rfl ?_
  refine g_iload_n (pc := 3) dX12_countsRole_3 rfl 2 rfl ?_
  refine g_iload_n (pc := 4) dX12_countsRole_4 rfl 3 rfl ?_
  obtain ⟨r8, σ7, h6, h⟩ := g_bId h
  refine g_callVi (pc := 5) (st := [.ref w, .ref 0]) hE.1 wvX12_199 rfl rfl (kX12_diskOf hE v2 v3 σ h6) rfl (gR_ok (by decide) (by decide)) (Nat.le_of_ble_eq_true rfl) rfl dX12_countsRole_5 ?_
  refine g_iload (pc := 8) dX12_countsRole_8 4 rfl ?_
  obtain ⟨σ10, h9, h⟩ := g_bVd h
  refine g_callVv (pc := 10) (st := []) hE.1 wvX12_233 rfl rfl (kX12_counts hE w hw r8 v4 σ7 h9) rfl (gR_ok (by decide) (by decide)) (Nat.le_of_ble_eq_true rfl) rfl dX12_countsRole_10 ?_
  cases h
  exact g_vret (pc := 13) rfl rfl rfl dX12_countsRole_13
def fX12_missing_b2 (n : Nat) (K2 : Int32 → gM → Option (Int32 × gM)) (v2 : Int32) (σ : gM) : Option (Int32 × gM) := if (σ.1 3 0) ≤ v2 then (some ((-1), σ)) else (if ¬ (v2 < 0 ∨ 8 ≤ v2.toNatClampNeg) then (if (σ.1 15 v2.toNatClampNeg) = 0 then (some (v2, σ)) else (K2 (v2 + 1) σ)) else none)
set_option maxRecDepth 100000 in
theorem tX12_missing_b2 (hE : gEM l dC dI ad ca X) {r0 : Int32} {σ' : gM} (n : Nat) (K2 : Int32 → gM → Option (Int32 × gM)) (hK2 : ∀ (v2 : Int32) (σ : gM), K2 v2 σ = some (r0, σ') → g_G l dC dI ad ca shM X cX12_missing 3 RX12 (some .int) (gR 0) (some (.int r0)) σ' 2 [(0, .ref 0), (2, .int v2)] [] σ) (v2 : Int32)  (σ : gM) (h : fX12_missing_b2 n K2 v2 σ = some (r0, σ')) : g_G l dC dI ad ca shM X cX12_missing 3 RX12 (some .int) (gR 0) (some (.int r0)) σ' 2 [(0, .ref 0), (2, .int v2)] [] σ := by
  unfold fX12_missing_b2 at h
  refine g_iload_n (pc := 2) dX12_missing_2 rfl 1 rfl ?_
  refine g_aload_n (pc := 3) dX12_missing_3 rfl 0 rfl ?_
  refine g_getR (pc := 4) wfX12_17 rfl rfl dX12_missing_4 ?_
  refine g_iconst (pc := 7) (v := 0) dX12_missing_7 (by decide) ?_
  refine g_iald (pc := 8) rfl (by decide) (j := 0) (by decide) dX12_missing_8 ?_
  refine g_icmp_ge (pc := 9) (tgt := 29) dX12_missing_9 (by decide) (fun c4 => ?_) (fun c4 => ?_)
  · have h := g_ift c4 h
    refine g_iconst (pc := 29) (v := (-1)) dX12_missing_29 (by decide) ?_
    cases h
    exact g_iret (pc := 30) rfl rfl rfl rfl dX12_missing_30
  · have h := g_iff c4 h
    refine g_aload_n (pc := 12) dX12_missing_12 rfl 0 rfl ?_
    refine g_getR (pc := 13) wfX12_53 rfl rfl dX12_missing_13 ?_
    refine g_iload_n (pc := 16) dX12_missing_16 rfl 1 rfl ?_
    obtain ⟨c5, h⟩ := g_gd h
    refine g_zald (pc := 17) rfl c5 rfl dX12_missing_17 ?_
    refine g_if_ne (pc := 18) (tgt := 23) dX12_missing_18 (by decide) (fun c6 => ?_) (fun c6 => ?_)
    · have h := g_iff c6 h
      refine g_iinc (pc := 23) (v := v2 + 1) (lv1 := [(2, .int (v2 + 1)), (0, .ref 0)]) dX12_missing_23 1 rfl rfl (by decide) rfl ?_
      refine g_goto (pc := 26) (tgt := 2) dX12_missing_26 (by decide) ?_
      exact g_lv [1, 0] rfl (hK2 (v2 + 1) σ h)
    · have h := g_ift c6 h
      refine g_iload_n (pc := 21) dX12_missing_21 rfl 1 rfl ?_
      cases h
      exact g_iret (pc := 22) rfl rfl rfl rfl dX12_missing_22
def fX12_missing_L2 (n : Nat) : Nat → Int32 → gM → Option (Int32 × gM)
  | 0 => fun _ _ => none
  | k + 1 => fX12_missing_b2 n (fX12_missing_L2 n k)
theorem tX12_missing_L2 (hE : gEM l dC dI ad ca X) {r0 : Int32} {σ' : gM} (n : Nat)  : ∀ (k : Nat) (v2 : Int32) (σ : gM), fX12_missing_L2 n k v2 σ = some (r0, σ') → g_G l dC dI ad ca shM X cX12_missing 3 RX12 (some .int) (gR 0) (some (.int r0)) σ' 2 [(0, .ref 0), (2, .int v2)] [] σ := by
  intro k
  induction k with
  | zero => intro v2 σ h; cases h
  | succ k ih => intro v2 σ h; exact tX12_missing_b2 hE n (fX12_missing_L2 n k) ih v2 σ h
def fX12_missing (n : Nat) (v1 : Int32) (σ : gM) : Option (Int32 × gM) := fX12_missing_L2 n n v1 σ
set_option maxRecDepth 100000 in
theorem kX12_missing (hE : gEM l dC dI ad ca X) (n : Nat)  (v1 : Int32) (σ : gM) {r0 : Int32} {σ' : gM} (h : fX12_missing n v1 σ = some (r0, σ')) : g_C l dC dI ad ca shM X yX12_missing cX12_missing 3 (some .int) (gR 0) [.ref 0, .int v1] σ (some (.int r0)) σ' := by
  refine g_entry (by decide +kernel) (Nat.le_of_ble_eq_true rfl) ?_
  refine g_lvE (lv1 := [(0, .ref 0), (1, .int v1)]) rfl ?_
  unfold fX12_missing at h
  refine g_iload_n (pc := 0) dX12_missing_0 rfl 1 rfl ?_
  refine g_istore_n (pc := 1) (lv1 := [(2, .int v1), (0, .ref 0), (1, .int v1)]) dX12_missing_1 rfl (by decide) rfl ?_
  exact g_lv [1, 0] rfl (tX12_missing_L2 hE n n v1 σ h)
end WKM1
