section WKA1
variable {l : Launch} {dC : Nat → ClassId} {dI : Nat → Nat → Nat} {ad : Nat → Nat} {ca : Nat → ClassId} {X : (Nat → Prop) → State → Heap → Prop}

def fX6_addresses (σ : gM) : Option (Int32 × gM) := some (((σ.1 5 0) * (σ.1 5 1)) * (σ.1 5 2), σ)
set_option maxRecDepth 100000 in
theorem kX6_addresses (hE : gEX l dC dI ad ca X)  (σ : gM) {r0 : Int32} {σ' : gM} (h : fX6_addresses σ = some (r0, σ')) : g_C l dC dI ad ca shX X yX6_addresses cX6_addresses 1 (some .int) (gR 0) [.ref 5] σ (some (.int r0)) σ' := by
  refine g_entry (by decide +kernel) (Nat.le_of_ble_eq_true rfl) ?_
  refine g_lvE (lv1 := [(0, .ref 5)]) rfl ?_
  unfold fX6_addresses at h
  refine g_aload_n (pc := 0) dX6_addresses_0 rfl 0 rfl ?_
  refine g_getI (pc := 1) wfX6_7 rfl rfl dX6_addresses_1 ?_
  refine g_aload_n (pc := 4) dX6_addresses_4 rfl 0 rfl ?_
  refine g_getI (pc := 5) wfX6_13 rfl rfl dX6_addresses_5 ?_
  refine g_imul (pc := 8) dX6_addresses_8 ?_
  refine g_aload_n (pc := 9) dX6_addresses_9 rfl 0 rfl ?_
  refine g_getI (pc := 10) wfX6_16 rfl rfl dX6_addresses_10 ?_
  refine g_imul (pc := 13) dX6_addresses_13 ?_
  cases h
  exact g_iret (pc := 14) rfl rfl rfl rfl dX6_addresses_14
def fX1_fill_b26 (n : Nat) (K26 : Int32 → Int32 → gM → Option (gM)) (v2 : Int32) (v3 : Int32) (σ : gM) : Option (gM) := if 255 ≤ v3 then (some σ) else (if ¬ (v3 < 0 ∨ 255 ≤ v3.toNatClampNeg) then (g_let (g_put σ 7 v3.toNatClampNeg v2) (fun σ15 => if ¬ ((v2 &&& 255) < 0 ∨ 256 ≤ (v2 &&& 255).toNatClampNeg) then (g_let (g_put σ15 8 ((v2 &&& 255).toNatClampNeg) v3) (fun σ18 => K26 ((v2 <<< (1 &&& 31)) ^^^ ((g_us v2 7) * (σ18.1 6 2))) (v3 + 1) σ18)) else none)) else none)
set_option maxRecDepth 100000 in
theorem tX1_fill_b26 (hE : gEX l dC dI ad ca X) {σ' : gM} (n : Nat) (K26 : Int32 → Int32 → gM → Option (gM)) (hK26 : ∀ (v2 : Int32) (v3 : Int32) (σ : gM), K26 v2 v3 σ = some σ' → g_G l dC dI ad ca shX X cX1_fill 4 RX1 none (gR 0) none σ' 26 [(0, .ref 6), (2, .int v2), (3, .int v3)] [] σ) (v2 : Int32) (v3 : Int32)  (σ : gM) (h : fX1_fill_b26 n K26 v2 v3 σ = some σ') : g_G l dC dI ad ca shX X cX1_fill 4 RX1 none (gR 0) none σ' 26 [(0, .ref 6), (2, .int v2), (3, .int v3)] [] σ := by
  unfold fX1_fill_b26 at h
  refine g_iload_n (pc := 26) dX1_fill_26 rfl 2 rfl ?_
  refine g_sipush (pc := 27) (v := 255) dX1_fill_27 (by decide) ?_
  refine g_icmp_ge (pc := 30) (tgt := 71) dX1_fill_30 (by decide) (fun c13 => ?_) (fun c13 => ?_)
  · have h := g_ift c13 h
    cases h
    exact g_vret (pc := 71) rfl rfl rfl dX1_fill_71
  · have h := g_iff c13 h
    refine g_aload_n (pc := 33) dX1_fill_33 rfl 0 rfl ?_
    refine g_getR (pc := 34) wfX1_9 rfl rfl dX1_fill_34 ?_
    refine g_iload_n (pc := 37) dX1_fill_37 rfl 2 rfl ?_
    refine g_iload_n (pc := 38) dX1_fill_38 rfl 1 rfl ?_
    obtain ⟨c14, h⟩ := g_gd h
    obtain ⟨σ15, e16, h⟩ := g_ltd h
    refine g_iast (pc := 39) rfl c14 rfl e16 dX1_fill_39 ?_
    refine g_aload_n (pc := 40) dX1_fill_40 rfl 0 rfl ?_
    refine g_getR (pc := 41) wfX1_13 rfl rfl dX1_fill_41 ?_
    refine g_iload_n (pc := 44) dX1_fill_44 rfl 1 rfl ?_
    refine g_sipush (pc := 45) (v := 255) dX1_fill_45 (by decide) ?_
    refine g_iand (pc := 48) dX1_fill_48 ?_
    refine g_iload_n (pc := 49) dX1_fill_49 rfl 2 rfl ?_
    obtain ⟨c17, h⟩ := g_gd h
    obtain ⟨σ18, e19, h⟩ := g_ltd h
    refine g_iast (pc := 50) rfl c17 rfl e19 dX1_fill_50 ?_
    refine g_iload_n (pc := 51) dX1_fill_51 rfl 1 rfl ?_
    refine g_iconst (pc := 52) (v := 1) dX1_fill_52 (by decide) ?_
    refine g_ishl (pc := 53) dX1_fill_53 ?_
    refine g_iload_n (pc := 54) dX1_fill_54 rfl 1 rfl ?_
    refine g_bipush (pc := 55) (v := 7) dX1_fill_55 (by decide) ?_
    refine g_iushr (pc := 57) dX1_fill_57 ?_
    refine g_aload_n (pc := 58) dX1_fill_58 rfl 0 rfl ?_
    refine g_getI (pc := 59) wfX1_16 rfl rfl dX1_fill_59 ?_
    refine g_imul (pc := 62) dX1_fill_62 ?_
    refine g_ixor (pc := 63) dX1_fill_63 ?_
    refine g_istore_n (pc := 64) (lv1 := [(2, .int ((v2 <<< (1 &&& 31)) ^^^ ((g_us v2 7) * (σ18.1 6 2)))), (0, .ref 6), (3, .int v3)]) dX1_fill_64 rfl (by decide) rfl ?_
    refine g_iinc (pc := 65) (v := v3 + 1) (lv1 := [(3, .int (v3 + 1)), (2, .int ((v2 <<< (1 &&& 31)) ^^^ ((g_us v2 7) * (σ18.1 6 2)))), (0, .ref 6)]) dX1_fill_65 2 rfl rfl (by decide) rfl ?_
    refine g_goto (pc := 68) (tgt := 26) dX1_fill_68 (by decide) ?_
    exact g_lv [2, 1, 0] rfl (hK26 ((v2 <<< (1 &&& 31)) ^^^ ((g_us v2 7) * (σ18.1 6 2))) (v3 + 1) σ18 h)
def fX1_fill_L26 (n : Nat) : Nat → Int32 → Int32 → gM → Option (gM)
  | 0 => fun _ _ _ => none
  | k + 1 => fX1_fill_b26 n (fX1_fill_L26 n k)
theorem tX1_fill_L26 (hE : gEX l dC dI ad ca X) {σ' : gM} (n : Nat)  : ∀ (k : Nat) (v2 : Int32) (v3 : Int32) (σ : gM), fX1_fill_L26 n k v2 v3 σ = some σ' → g_G l dC dI ad ca shX X cX1_fill 4 RX1 none (gR 0) none σ' 26 [(0, .ref 6), (2, .int v2), (3, .int v3)] [] σ := by
  intro k
  induction k with
  | zero => intro v2 v3 σ h; cases h
  | succ k ih => intro v2 v3 σ h; exact tX1_fill_b26 hE n (fX1_fill_L26 n k) ih v2 v3 σ h
def fX1_fill (n : Nat) (v1 : Int32) (σ : gM) : Option (gM) := if v1 < 0 then (some σ) else (if v1 < 4 then (if ¬ (v1 < 0 ∨ 4 ≤ v1.toNatClampNeg) then (g_let (g_put σ 6 2 (([285, 299, 301, 333] : List Int32).getD v1.toNatClampNeg 0)) (fun σ23 => fX1_fill_L26 n n 1 0 σ23)) else none) else (some σ))
set_option maxRecDepth 100000 in
theorem kX1_fill (hE : gEX l dC dI ad ca X) (n : Nat)  (v1 : Int32) (σ : gM) {σ' : gM} (h : fX1_fill n v1 σ = some σ') : g_C l dC dI ad ca shX X yX1_fill cX1_fill 4 none (gR 0) [.ref 6, .int v1] σ none σ' := by
  refine g_entry (by decide +kernel) (Nat.le_of_ble_eq_true rfl) ?_
  refine g_lvE (lv1 := [(0, .ref 6), (1, .int v1)]) rfl ?_
  unfold fX1_fill at h
  refine g_iload_n (pc := 0) dX1_fill_0 rfl 1 rfl ?_
  refine g_if_lt (pc := 1) (tgt := 12) dX1_fill_1 (by decide) (fun c20 => ?_) (fun c20 => ?_)
  · have h := g_ift c20 h
    cases h
    exact g_vret (pc := 12) rfl rfl rfl dX1_fill_12
  · have h := g_iff c20 h
    refine g_iload_n (pc := 4) dX1_fill_4 rfl 1 rfl ?_
    refine g_gets (pc := 5) (xzA hE 4 rfl) wgX1_20 dX1_fill_5 ?_
    refine g_tlen (pc := 8) (xtA hE 4 rfl) dX1_fill_8 ?_
    refine g_icmp_lt (pc := 9) (tgt := 13) dX1_fill_9 (by decide) (fun c21 => ?_) (fun c21 => ?_)
    · have h := g_ift c21 h
      refine g_aload_n (pc := 13) dX1_fill_13 rfl 0 rfl ?_
      refine g_gets (pc := 14) (xzA hE 4 rfl) wgX1_20 dX1_fill_14 ?_
      refine g_iload_n (pc := 17) dX1_fill_17 rfl 1 rfl ?_
      obtain ⟨c22, h⟩ := g_gd h
      refine g_ti (pc := 18) (xtA hE 4 rfl) c22 rfl dX1_fill_18 ?_
      obtain ⟨σ23, e24, h⟩ := g_ltd h
      refine g_putI (pc := 19) wfX1_16 rfl rfl rfl rfl e24 dX1_fill_19 ?_
      refine g_iconst (pc := 22) (v := 1) dX1_fill_22 (by decide) ?_
      refine g_istore_n (pc := 23) (lv1 := [(2, .int 1), (0, .ref 6), (1, .int v1)]) dX1_fill_23 rfl (by decide) rfl ?_
      refine g_iconst (pc := 24) (v := 0) dX1_fill_24 (by decide) ?_
      refine g_istore_n (pc := 25) (lv1 := [(3, .int 0), (2, .int 1), (0, .ref 6), (1, .int v1)]) dX1_fill_25 rfl (by decide) rfl ?_
      exact g_lv [2, 1, 0] rfl (tX1_fill_L26 hE n n 1 0 σ23 h)
    · have h := g_iff c21 h
      cases h
      exact g_vret (pc := 12) rfl rfl rfl dX1_fill_12
def fJ9_floorMod_7cf53_b18 (v2 : Int32) (σ : gM) : Option (Int32 × gM) := some (v2, σ)
set_option maxRecDepth 100000 in
theorem tJ9_floorMod_7cf53_b18 (hE : gEX l dC dI ad ca X) {r0 : Int32} {σ' : gM} (v2 : Int32)  (σ : gM) (h : fJ9_floorMod_7cf53_b18 v2 σ = some (r0, σ')) : g_G l dC dI ad ca shX X cJ9_floorMod_7cf53 3 RJ9 (some .int) (gR 0) (some (.int r0)) σ' 18 [(2, .int v2)] [] σ := by
  unfold fJ9_floorMod_7cf53_b18 at h
  refine g_iload_n (pc := 18) dJ9_floorMod_7cf53_18 rfl 0 rfl ?_
  cases h
  exact g_iret (pc := 19) rfl rfl rfl rfl dJ9_floorMod_7cf53_19
def fJ9_floorMod_7cf53 (v0 : Int32) (v1 : Int32) (σ : gM) : Option (Int32 × gM) := if v1 = 0 then none else (if 0 ≤ (v0 ^^^ v1) then (fJ9_floorMod_7cf53_b18 (v0 - v0 / v1 * v1) σ) else (if (v0 - v0 / v1 * v1) = 0 then (fJ9_floorMod_7cf53_b18 (v0 - v0 / v1 * v1) σ) else (some ((v0 - v0 / v1 * v1) + v1, σ))))
set_option maxRecDepth 100000 in
theorem kJ9_floorMod_7cf53 (hE : gEX l dC dI ad ca X)  (v0 : Int32) (v1 : Int32) (σ : gM) {r0 : Int32} {σ' : gM} (h : fJ9_floorMod_7cf53 v0 v1 σ = some (r0, σ')) : g_C l dC dI ad ca shX X yJ9_floorMod_7cf53 cJ9_floorMod_7cf53 3 (some .int) (gR 0) [.int v0, .int v1] σ (some (.int r0)) σ' := by
  refine g_entry (by decide +kernel) (Nat.le_of_ble_eq_true rfl) ?_
  refine g_lvE (lv1 := [(0, .int v0), (1, .int v1)]) rfl ?_
  unfold fJ9_floorMod_7cf53 at h
  refine g_iload_n (pc := 0) dJ9_floorMod_7cf53_0 rfl 0 rfl ?_
  refine g_iload_n (pc := 1) dJ9_floorMod_7cf53_1 rfl 1 rfl ?_
  obtain ⟨c4, h⟩ := g_gn h
  refine g_irem (pc := 2) dJ9_floorMod_7cf53_2 c4 ?_
  refine g_istore_n (pc := 3) (lv1 := [(2, .int (v0 - v0 / v1 * v1)), (0, .int v0), (1, .int v1)]) dJ9_floorMod_7cf53_3 rfl (by decide) rfl ?_
  refine g_iload_n (pc := 4) dJ9_floorMod_7cf53_4 rfl 1 rfl ?_
  refine g_iload_n (pc := 5) dJ9_floorMod_7cf53_5 rfl 2 rfl ?_
  refine g_ixor (pc := 6) dJ9_floorMod_7cf53_6 ?_
  refine g_if_ge (pc := 7) (tgt := 18) dJ9_floorMod_7cf53_7 (by decide) (fun c5 => ?_) (fun c5 => ?_)
  · have h := g_ift c5 h
    exact g_lv [0] rfl (tJ9_floorMod_7cf53_b18 hE (v0 - v0 / v1 * v1) σ h)
  · have h := g_iff c5 h
    refine g_iload_n (pc := 10) dJ9_floorMod_7cf53_10 rfl 0 rfl ?_
    refine g_if_eq (pc := 11) (tgt := 18) dJ9_floorMod_7cf53_11 (by decide) (fun c6 => ?_) (fun c6 => ?_)
    · have h := g_ift c6 h
      exact g_lv [0] rfl (tJ9_floorMod_7cf53_b18 hE (v0 - v0 / v1 * v1) σ h)
    · have h := g_iff c6 h
      refine g_iload_n (pc := 14) dJ9_floorMod_7cf53_14 rfl 0 rfl ?_
      refine g_iload_n (pc := 15) dJ9_floorMod_7cf53_15 rfl 2 rfl ?_
      refine g_iadd (pc := 16) dJ9_floorMod_7cf53_16 ?_
      cases h
      exact g_iret (pc := 17) rfl rfl rfl rfl dJ9_floorMod_7cf53_17
def fX1_powerOfTwo (v1 : Int32) (σ : gM) : Option (Int32 × gM) := g_bI (fJ9_floorMod_7cf53 v1 255 σ) (fun r7 σ6 => if ¬ (r7 < 0 ∨ 255 ≤ r7.toNatClampNeg) then (some (σ6.1 7 r7.toNatClampNeg, σ6)) else none)
set_option maxRecDepth 100000 in
theorem kX1_powerOfTwo (hE : gEX l dC dI ad ca X)  (v1 : Int32) (σ : gM) {r0 : Int32} {σ' : gM} (h : fX1_powerOfTwo v1 σ = some (r0, σ')) : g_C l dC dI ad ca shX X yX1_powerOfTwo cX1_powerOfTwo 2 (some .int) (gR 1) [.ref 6, .int v1] σ (some (.int r0)) σ' := by
  refine g_entry (by decide +kernel) (Nat.le_of_ble_eq_true rfl) ?_
  refine g_lvE (lv1 := [(0, .ref 6), (1, .int v1)]) rfl ?_
  unfold fX1_powerOfTwo at h
  refine g_aload_n (pc := 0) dX1_powerOfTwo_0 rfl 0 rfl ?_
  refine g_getR (pc := 1) wfX1_9 rfl rfl dX1_powerOfTwo_1 ?_
  refine g_iload_n (pc := 4) dX1_powerOfTwo_4 rfl 1 rfl ?_
  refine g_sipush (pc := 5) (v := 255) dX1_powerOfTwo_5 (by decide) ?_
  obtain ⟨r7, σ6, h5, h⟩ := g_bId h
  refine g_callSi (pc := 8) (st := [.ref 7]) hE.1 wsX1_23 (kJ9_floorMod_7cf53 hE v1 255 σ h5) rfl (gR_ok (by decide) (by decide)) (Nat.le_of_ble_eq_true rfl) rfl dX1_powerOfTwo_8 ?_
  obtain ⟨c8, h⟩ := g_gd h
  refine g_iald (pc := 11) rfl c8 rfl dX1_powerOfTwo_11 ?_
  cases h
  exact g_iret (pc := 12) rfl rfl rfl rfl dX1_powerOfTwo_12
def fX1_logarithm (v1 : Int32) (σ : gM) : Option (Int32 × gM) := if ¬ ((v1 &&& 255) < 0 ∨ 256 ≤ (v1 &&& 255).toNatClampNeg) then (some (σ.1 8 ((v1 &&& 255).toNatClampNeg), σ)) else none
set_option maxRecDepth 100000 in
theorem kX1_logarithm (hE : gEX l dC dI ad ca X)  (v1 : Int32) (σ : gM) {r0 : Int32} {σ' : gM} (h : fX1_logarithm v1 σ = some (r0, σ')) : g_C l dC dI ad ca shX X yX1_logarithm cX1_logarithm 2 (some .int) (gR 0) [.ref 6, .int v1] σ (some (.int r0)) σ' := by
  refine g_entry (by decide +kernel) (Nat.le_of_ble_eq_true rfl) ?_
  refine g_lvE (lv1 := [(0, .ref 6), (1, .int v1)]) rfl ?_
  unfold fX1_logarithm at h
  refine g_aload_n (pc := 0) dX1_logarithm_0 rfl 0 rfl ?_
  refine g_getR (pc := 1) wfX1_13 rfl rfl dX1_logarithm_1 ?_
  refine g_iload_n (pc := 4) dX1_logarithm_4 rfl 1 rfl ?_
  refine g_sipush (pc := 5) (v := 255) dX1_logarithm_5 (by decide) ?_
  refine g_iand (pc := 8) dX1_logarithm_8 ?_
  obtain ⟨c2, h⟩ := g_gd h
  refine g_iald (pc := 9) rfl c2 rfl dX1_logarithm_9 ?_
  cases h
  exact g_iret (pc := 10) rfl rfl rfl rfl dX1_logarithm_10
def fX1_product (v1 : Int32) (v2 : Int32) (σ : gM) : Option (Int32 × gM) := if v1 = 0 then (some (0, σ)) else (if v2 = 0 then (some (0, σ)) else (if ¬ ((v1 &&& 255) < 0 ∨ 256 ≤ (v1 &&& 255).toNatClampNeg) then (if ¬ ((v2 &&& 255) < 0 ∨ 256 ≤ (v2 &&& 255).toNatClampNeg) then (g_bI (fJ9_floorMod_7cf53 ((σ.1 8 ((v1 &&& 255).toNatClampNeg)) + (σ.1 8 ((v2 &&& 255).toNatClampNeg))) 255 σ) (fun r15 σ14 => if ¬ (r15 < 0 ∨ 255 ≤ r15.toNatClampNeg) then (some (σ14.1 7 r15.toNatClampNeg, σ14)) else none)) else none) else none))
set_option maxRecDepth 100000 in
theorem kX1_product (hE : gEX l dC dI ad ca X)  (v1 : Int32) (v2 : Int32) (σ : gM) {r0 : Int32} {σ' : gM} (h : fX1_product v1 v2 σ = some (r0, σ')) : g_C l dC dI ad ca shX X yX1_product cX1_product 3 (some .int) (gR 1) [.ref 6, .int v1, .int v2] σ (some (.int r0)) σ' := by
  refine g_entry (by decide +kernel) (Nat.le_of_ble_eq_true rfl) ?_
  refine g_lvE (lv1 := [(0, .ref 6), (1, .int v1), (2, .int v2)]) rfl ?_
  unfold fX1_product at h
  refine g_iload_n (pc := 0) dX1_product_0 rfl 1 rfl ?_
  refine g_if_eq (pc := 1) (tgt := 8) dX1_product_1 (by decide) (fun c9 => ?_) (fun c9 => ?_)
  · have h := g_ift c9 h
    refine g_iconst (pc := 8) (v := 0) dX1_product_8 (by decide) ?_
    cases h
    exact g_iret (pc := 9) rfl rfl rfl rfl dX1_product_9
  · have h := g_iff c9 h
    refine g_iload_n (pc := 4) dX1_product_4 rfl 2 rfl ?_
    refine g_if_ne (pc := 5) (tgt := 10) dX1_product_5 (by decide) (fun c10 => ?_) (fun c10 => ?_)
    · have h := g_iff c10 h
      refine g_aload_n (pc := 10) dX1_product_10 rfl 0 rfl ?_
      refine g_getR (pc := 11) wfX1_9 rfl rfl dX1_product_11 ?_
      refine g_aload_n (pc := 14) dX1_product_14 rfl 0 rfl ?_
      refine g_getR (pc := 15) wfX1_13 rfl rfl dX1_product_15 ?_
      refine g_iload_n (pc := 18) dX1_product_18 rfl 1 rfl ?_
      refine g_sipush (pc := 19) (v := 255) dX1_product_19 (by decide) ?_
      refine g_iand (pc := 22) dX1_product_22 ?_
      obtain ⟨c11, h⟩ := g_gd h
      refine g_iald (pc := 23) rfl c11 rfl dX1_product_23 ?_
      refine g_aload_n (pc := 24) dX1_product_24 rfl 0 rfl ?_
      refine g_getR (pc := 25) wfX1_13 rfl rfl dX1_product_25 ?_
      refine g_iload_n (pc := 28) dX1_product_28 rfl 2 rfl ?_
      refine g_sipush (pc := 29) (v := 255) dX1_product_29 (by decide) ?_
      refine g_iand (pc := 32) dX1_product_32 ?_
      obtain ⟨c12, h⟩ := g_gd h
      refine g_iald (pc := 33) rfl c12 rfl dX1_product_33 ?_
      refine g_iadd (pc := 34) dX1_product_34 ?_
      refine g_sipush (pc := 35) (v := 255) dX1_product_35 (by decide) ?_
      obtain ⟨r15, σ14, h13, h⟩ := g_bId h
      refine g_callSi (pc := 38) (st := [.ref 7]) hE.1 wsX1_23 (kJ9_floorMod_7cf53 hE ((σ.1 8 ((v1 &&& 255).toNatClampNeg)) + (σ.1 8 ((v2 &&& 255).toNatClampNeg))) 255 σ h13) rfl (gR_ok (by decide) (by decide)) (Nat.le_of_ble_eq_true rfl) rfl dX1_product_38 ?_
      obtain ⟨c16, h⟩ := g_gd h
      refine g_iald (pc := 41) rfl c16 rfl dX1_product_41 ?_
      cases h
      exact g_iret (pc := 42) rfl rfl rfl rfl dX1_product_42
    · have h := g_ift c10 h
      refine g_iconst (pc := 8) (v := 0) dX1_product_8 (by decide) ?_
      cases h
      exact g_iret (pc := 9) rfl rfl rfl rfl dX1_product_9
def fX1_quotient (v1 : Int32) (v2 : Int32) (σ : gM) : Option (Int32 × gM) := if v1 = 0 then (some (0, σ)) else (if v2 = 0 then (some (0, σ)) else (if ¬ ((v1 &&& 255) < 0 ∨ 256 ≤ (v1 &&& 255).toNatClampNeg) then (if ¬ ((v2 &&& 255) < 0 ∨ 256 ≤ (v2 &&& 255).toNatClampNeg) then (g_bI (fJ9_floorMod_7cf53 ((σ.1 8 ((v1 &&& 255).toNatClampNeg)) - (σ.1 8 ((v2 &&& 255).toNatClampNeg))) 255 σ) (fun r15 σ14 => if ¬ (r15 < 0 ∨ 255 ≤ r15.toNatClampNeg) then (some (σ14.1 7 r15.toNatClampNeg, σ14)) else none)) else none) else none))
set_option maxRecDepth 100000 in
theorem kX1_quotient (hE : gEX l dC dI ad ca X)  (v1 : Int32) (v2 : Int32) (σ : gM) {r0 : Int32} {σ' : gM} (h : fX1_quotient v1 v2 σ = some (r0, σ')) : g_C l dC dI ad ca shX X yX1_quotient cX1_quotient 3 (some .int) (gR 1) [.ref 6, .int v1, .int v2] σ (some (.int r0)) σ' := by
  refine g_entry (by decide +kernel) (Nat.le_of_ble_eq_true rfl) ?_
  refine g_lvE (lv1 := [(0, .ref 6), (1, .int v1), (2, .int v2)]) rfl ?_
  unfold fX1_quotient at h
  refine g_iload_n (pc := 0) dX1_quotient_0 rfl 1 rfl ?_
  refine g_if_eq (pc := 1) (tgt := 8) dX1_quotient_1 (by decide) (fun c9 => ?_) (fun c9 => ?_)
  · have h := g_ift c9 h
    refine g_iconst (pc := 8) (v := 0) dX1_quotient_8 (by decide) ?_
    cases h
    exact g_iret (pc := 9) rfl rfl rfl rfl dX1_quotient_9
  · have h := g_iff c9 h
    refine g_iload_n (pc := 4) dX1_quotient_4 rfl 2 rfl ?_
    refine g_if_ne (pc := 5) (tgt := 10) dX1_quotient_5 (by decide) (fun c10 => ?_) (fun c10 => ?_)
    · have h := g_iff c10 h
      refine g_aload_n (pc := 10) dX1_quotient_10 rfl 0 rfl ?_
      refine g_getR (pc := 11) wfX1_9 rfl rfl dX1_quotient_11 ?_
      refine g_aload_n (pc := 14) dX1_quotient_14 rfl 0 rfl ?_
      refine g_getR (pc := 15) wfX1_13 rfl rfl dX1_quotient_15 ?_
      refine g_iload_n (pc := 18) dX1_quotient_18 rfl 1 rfl ?_
      refine g_sipush (pc := 19) (v := 255) dX1_quotient_19 (by decide) ?_
      refine g_iand (pc := 22) dX1_quotient_22 ?_
      obtain ⟨c11, h⟩ := g_gd h
      refine g_iald (pc := 23) rfl c11 rfl dX1_quotient_23 ?_
      refine g_aload_n (pc := 24) dX1_quotient_24 rfl 0 rfl ?_
      refine g_getR (pc := 25) wfX1_13 rfl rfl dX1_quotient_25 ?_
      refine g_iload_n (pc := 28) dX1_quotient_28 rfl 2 rfl ?_
      refine g_sipush (pc := 29) (v := 255) dX1_quotient_29 (by decide) ?_
      refine g_iand (pc := 32) dX1_quotient_32 ?_
      obtain ⟨c12, h⟩ := g_gd h
      refine g_iald (pc := 33) rfl c12 rfl dX1_quotient_33 ?_
      refine g_isub (pc := 34) dX1_quotient_34 ?_
      refine g_sipush (pc := 35) (v := 255) dX1_quotient_35 (by decide) ?_
      obtain ⟨r15, σ14, h13, h⟩ := g_bId h
      refine g_callSi (pc := 38) (st := [.ref 7]) hE.1 wsX1_23 (kJ9_floorMod_7cf53 hE ((σ.1 8 ((v1 &&& 255).toNatClampNeg)) - (σ.1 8 ((v2 &&& 255).toNatClampNeg))) 255 σ h13) rfl (gR_ok (by decide) (by decide)) (Nat.le_of_ble_eq_true rfl) rfl dX1_quotient_38 ?_
      obtain ⟨c16, h⟩ := g_gd h
      refine g_iald (pc := 41) rfl c16 rfl dX1_quotient_41 ?_
      cases h
      exact g_iret (pc := 42) rfl rfl rfl rfl dX1_quotient_42
    · have h := g_ift c10 h
      refine g_iconst (pc := 8) (v := 0) dX1_quotient_8 (by decide) ?_
      cases h
      exact g_iret (pc := 9) rfl rfl rfl rfl dX1_quotient_9
def fX1_sumByPowers_b12 (n : Nat) (j : Nat) (K12 : Int32 → Int32 → gM → Option (Int32 × gM)) (v3 : Int32) (v4 : Int32) (σ : gM) : Option (Int32 × gM) := if v4 < 0 then (some (v3, σ)) else (if ¬ (v4 < 0 ∨ 8 ≤ v4.toNatClampNeg) then (K12 (((v3 <<< (1 &&& 31)) ^^^ ((g_us v3 7) * (σ.1 6 2))) ^^^ (σ.1 (13 + 5 * j) v4.toNatClampNeg)) (v4 + (-1)) σ) else none)
set_option maxRecDepth 100000 in
theorem tX1_sumByPowers_b12 (hE : gEX l dC dI ad ca X) {r0 : Int32} {σ' : gM} (n : Nat) (j : Nat) (hj : j < 3) (K12 : Int32 → Int32 → gM → Option (Int32 × gM)) (hK12 : ∀ (v3 : Int32) (v4 : Int32) (σ : gM), K12 v3 v4 σ = some (r0, σ') → g_G l dC dI ad ca shX X cX1_sumByPowers 5 RX1 (some .int) (gR 1) (some (.int r0)) σ' 12 [(0, .ref 6), (1, .ref (13 + 5 * j)), (3, .int v3), (4, .int v4)] [] σ) (v3 : Int32) (v4 : Int32)  (σ : gM) (h : fX1_sumByPowers_b12 n j K12 v3 v4 σ = some (r0, σ')) : g_G l dC dI ad ca shX X cX1_sumByPowers 5 RX1 (some .int) (gR 1) (some (.int r0)) σ' 12 [(0, .ref 6), (1, .ref (13 + 5 * j)), (3, .int v3), (4, .int v4)] [] σ := by
  unfold fX1_sumByPowers_b12 at h
  refine g_iload (pc := 12) dX1_sumByPowers_12 3 rfl ?_
  refine g_if_lt (pc := 14) (tgt := 42) dX1_sumByPowers_14 (by decide) (fun c3 => ?_) (fun c3 => ?_)
  · have h := g_ift c3 h
    refine g_iload_n (pc := 42) dX1_sumByPowers_42 rfl 2 rfl ?_
    cases h
    exact g_iret (pc := 43) rfl rfl rfl rfl dX1_sumByPowers_43
  · have h := g_iff c3 h
    refine g_iload_n (pc := 17) dX1_sumByPowers_17 rfl 2 rfl ?_
    refine g_iconst (pc := 18) (v := 1) dX1_sumByPowers_18 (by decide) ?_
    refine g_ishl (pc := 19) dX1_sumByPowers_19 ?_
    refine g_iload_n (pc := 20) dX1_sumByPowers_20 rfl 2 rfl ?_
    refine g_bipush (pc := 21) (v := 7) dX1_sumByPowers_21 (by decide) ?_
    refine g_iushr (pc := 23) dX1_sumByPowers_23 ?_
    refine g_aload_n (pc := 24) dX1_sumByPowers_24 rfl 0 rfl ?_
    refine g_getI (pc := 25) wfX1_16 rfl rfl dX1_sumByPowers_25 ?_
    refine g_imul (pc := 28) dX1_sumByPowers_28 ?_
    refine g_ixor (pc := 29) dX1_sumByPowers_29 ?_
    refine g_aload_n (pc := 30) dX1_sumByPowers_30 rfl 1 rfl ?_
    refine g_iload (pc := 31) dX1_sumByPowers_31 3 rfl ?_
    obtain ⟨c4, h⟩ := g_gd h
    refine g_iald (pc := 33) (sX_rb hj) c4 rfl dX1_sumByPowers_33 ?_
    refine g_ixor (pc := 34) dX1_sumByPowers_34 ?_
    refine g_istore_n (pc := 35) (lv1 := [(3, .int (((v3 <<< (1 &&& 31)) ^^^ ((g_us v3 7) * (σ.1 6 2))) ^^^ (σ.1 (13 + 5 * j) v4.toNatClampNeg))), (0, .ref 6), (1, .ref (13 + 5 * j)), (4, .int v4)]) dX1_sumByPowers_35 rfl (by decide) rfl ?_
    refine g_iinc (pc := 36) (v := v4 + (-1)) (lv1 := [(4, .int (v4 + (-1))), (3, .int (((v3 <<< (1 &&& 31)) ^^^ ((g_us v3 7) * (σ.1 6 2))) ^^^ (σ.1 (13 + 5 * j) v4.toNatClampNeg))), (0, .ref 6), (1, .ref (13 + 5 * j))]) dX1_sumByPowers_36 3 rfl rfl (by decide) rfl ?_
    refine g_goto (pc := 39) (tgt := 12) dX1_sumByPowers_39 (by decide) ?_
    exact g_lv [2, 3, 1, 0] rfl (hK12 (((v3 <<< (1 &&& 31)) ^^^ ((g_us v3 7) * (σ.1 6 2))) ^^^ (σ.1 (13 + 5 * j) v4.toNatClampNeg)) (v4 + (-1)) σ h)
def fX1_sumByPowers_L12 (n : Nat) (j : Nat) : Nat → Int32 → Int32 → gM → Option (Int32 × gM)
  | 0 => fun _ _ _ => none
  | k + 1 => fX1_sumByPowers_b12 n j (fX1_sumByPowers_L12 n j k)
theorem tX1_sumByPowers_L12 (hE : gEX l dC dI ad ca X) {r0 : Int32} {σ' : gM} (n : Nat) (j : Nat) (hj : j < 3)  : ∀ (k : Nat) (v3 : Int32) (v4 : Int32) (σ : gM), fX1_sumByPowers_L12 n j k v3 v4 σ = some (r0, σ') → g_G l dC dI ad ca shX X cX1_sumByPowers 5 RX1 (some .int) (gR 1) (some (.int r0)) σ' 12 [(0, .ref 6), (1, .ref (13 + 5 * j)), (3, .int v3), (4, .int v4)] [] σ := by
  intro k
  induction k with
  | zero => intro v3 v4 σ h; cases h
  | succ k ih => intro v3 v4 σ h; exact tX1_sumByPowers_b12 hE n j hj (fX1_sumByPowers_L12 n j k) ih v3 v4 σ h
def fX1_sumByPowers (n : Nat) (j : Nat) (v2 : Int32) (σ : gM) : Option (Int32 × gM) := fX1_sumByPowers_L12 n j n 0 ((if 8 < v2 then 8 else v2) - 1) σ
set_option maxRecDepth 100000 in
theorem kX1_sumByPowers (hE : gEX l dC dI ad ca X) (n : Nat) (j : Nat) (hj : j < 3)  (v2 : Int32) (σ : gM) {r0 : Int32} {σ' : gM} (h : fX1_sumByPowers n j v2 σ = some (r0, σ')) : g_C l dC dI ad ca shX X yX1_sumByPowers cX1_sumByPowers 5 (some .int) (gR 1) [.ref 6, .ref (13 + 5 * j), .int v2] σ (some (.int r0)) σ' := by
  refine g_entry (by decide +kernel) (Nat.le_of_ble_eq_true rfl) ?_
  refine g_lvE (lv1 := [(0, .ref 6), (1, .ref (13 + 5 * j)), (2, .int v2)]) rfl ?_
  unfold fX1_sumByPowers at h
  refine g_iconst (pc := 0) (v := 0) dX1_sumByPowers_0 (by decide) ?_
  refine g_istore_n (pc := 1) (lv1 := [(3, .int 0), (0, .ref 6), (1, .ref (13 + 5 * j)), (2, .int v2)]) dX1_sumByPowers_1 rfl (by decide) rfl ?_
  refine g_iload_n (pc := 2) dX1_sumByPowers_2 rfl 3 rfl ?_
  refine g_aload_n (pc := 3) dX1_sumByPowers_3 rfl 2 rfl ?_
  refine g_alen (pc := 4) (sX_rb hj) dX1_sumByPowers_4 ?_
  refine g_min (pc := 5) (st := []) wmX1_29 ⟨by decide, by decide⟩ dX1_sumByPowers_5 ?_
  refine g_iconst (pc := 8) (v := 1) dX1_sumByPowers_8 (by decide) ?_
  refine g_isub (pc := 9) dX1_sumByPowers_9 ?_
  refine g_istore (pc := 10) (lv1 := [(4, .int ((if 8 < v2 then 8 else v2) - 1)), (3, .int 0), (0, .ref 6), (1, .ref (13 + 5 * j)), (2, .int v2)]) dX1_sumByPowers_10 (by decide) rfl ?_
  exact g_lv [2, 3, 1, 0] rfl (tX1_sumByPowers_L12 hE n j hj n 0 ((if 8 < v2 then 8 else v2) - 1) σ h)
def fX2_size (σ : gM) : Option (Int32 × gM) := some (σ.1 29 2, σ)
set_option maxRecDepth 100000 in
theorem kX2_size (hE : gEX l dC dI ad ca X)  (σ : gM) {r0 : Int32} {σ' : gM} (h : fX2_size σ = some (r0, σ')) : g_C l dC dI ad ca shX X yX2_size cX2_size 1 (some .int) (gR 0) [.ref 29] σ (some (.int r0)) σ' := by
  refine g_entry (by decide +kernel) (Nat.le_of_ble_eq_true rfl) ?_
  refine g_lvE (lv1 := [(0, .ref 29)]) rfl ?_
  unfold fX2_size at h
  refine g_aload_n (pc := 0) dX2_size_0 rfl 0 rfl ?_
  refine g_getI (pc := 1) wfX2_19 rfl rfl dX2_size_1 ?_
  cases h
  exact g_iret (pc := 4) rfl rfl rfl rfl dX2_size_4
def fX9_saveTo (i : Nat) (v2 : Int32) (σ : gM) : Option (gM) := if v2 < 0 then (some σ) else (if (5760 - 144) < v2 then (some σ) else (if ¬ (0 : Int32) < 0 then (if ¬ v2 < 0 then (if ¬ (144 : Int32) < 0 then (if (0 : Int32).toNatClampNeg + (144 : Int32).toNatClampNeg ≤ 144 then (if v2.toNatClampNeg + (144 : Int32).toNatClampNeg ≤ 5760 then (g_let (g_row σ 30 (va_cpy (σ.1 (11 + 5 * i)) (σ.1 30) (0 : Int32).toNatClampNeg v2.toNatClampNeg (144 : Int32).toNatClampNeg)) (fun σ17 => some σ17)) else none) else none) else none) else none) else none))
set_option maxRecDepth 100000 in
theorem kX9_saveTo (hE : gEX l dC dI ad ca X) (i : Nat) (hi : i < 3)  (v2 : Int32) (σ : gM) {σ' : gM} (h : fX9_saveTo i v2 σ = some σ') : g_C l dC dI ad ca shX X yX9_saveTo cX9_saveTo 3 none (gR 1) [.ref (10 + 5 * i), .ref 30, .int v2] σ none σ' := by
  refine g_entry (by decide +kernel) (Nat.le_of_ble_eq_true rfl) ?_
  refine g_lvE (lv1 := [(0, .ref (10 + 5 * i)), (1, .ref 30), (2, .int v2)]) rfl ?_
  unfold fX9_saveTo at h
  refine g_iload_n (pc := 0) dX9_saveTo_0 rfl 2 rfl ?_
  refine g_if_lt (pc := 1) (tgt := 27) dX9_saveTo_1 (by decide) (fun c10 => ?_) (fun c10 => ?_)
  · have h := g_ift c10 h
    cases h
    exact g_vret (pc := 27) rfl rfl rfl dX9_saveTo_27
  · have h := g_iff c10 h
    refine g_iload_n (pc := 4) dX9_saveTo_4 rfl 2 rfl ?_
    refine g_aload_n (pc := 5) dX9_saveTo_5 rfl 1 rfl ?_
    refine g_alen (pc := 6) rfl dX9_saveTo_6 ?_
    refine g_sipush (pc := 7) (v := 144) dX9_saveTo_7 (by decide) ?_
    refine g_isub (pc := 10) dX9_saveTo_10 ?_
    refine g_icmp_gt (pc := 11) (tgt := 27) dX9_saveTo_11 (by decide) (fun c11 => ?_) (fun c11 => ?_)
    · have h := g_ift c11 h
      cases h
      exact g_vret (pc := 27) rfl rfl rfl dX9_saveTo_27
    · have h := g_iff c11 h
      refine g_aload_n (pc := 14) dX9_saveTo_14 rfl 0 rfl ?_
      refine g_getR (pc := 15) wfX9_11 (sX_state hi) rfl dX9_saveTo_15 ?_
      refine g_iconst (pc := 18) (v := 0) dX9_saveTo_18 (by decide) ?_
      refine g_aload_n (pc := 19) dX9_saveTo_19 rfl 1 rfl ?_
      refine g_iload_n (pc := 20) dX9_saveTo_20 rfl 2 rfl ?_
      refine g_sipush (pc := 21) (v := 144) dX9_saveTo_21 (by decide) ?_
      obtain ⟨c12, h⟩ := g_gd h
      obtain ⟨c13, h⟩ := g_gd h
      obtain ⟨c14, h⟩ := g_gd h
      obtain ⟨c15, h⟩ := g_gd h
      obtain ⟨c16, h⟩ := g_gd h
      obtain ⟨σ17, e18, h⟩ := g_ltd h
      refine g_copy (pc := 24) (st := []) waX9_31 (sX_slots hi) rfl c12 c13 c14 c15 c16 ⟨by decide, by decide⟩ e18 dX9_saveTo_24 ?_
      cases h
      exact g_vret (pc := 27) rfl rfl rfl dX9_saveTo_27
def fX2_keep_b38 (j : Nat) (s0 : Int32) (σ : gM) : Option (gM) := g_let (g_put σ 29 1 s0) (fun σ8 => g_let (g_put σ8 29 2 (if 40 < ((σ8.1 29 2) + 1) then 40 else ((σ8.1 29 2) + 1))) (fun σ10 => some σ10))
set_option maxRecDepth 100000 in
theorem tX2_keep_b38 (hE : gEX l dC dI ad ca X) {σ' : gM} (j : Nat) (hj : j < 3) (s0 : Int32)  (σ : gM) (h : fX2_keep_b38 j s0 σ = some σ') : g_G l dC dI ad ca shX X cX2_keep 2 RX2 none (gR 2) none σ' 38 [(0, .ref 29)] [.int s0, .ref 29] σ := by
  unfold fX2_keep_b38 at h
  obtain ⟨σ8, e9, h⟩ := g_ltd h
  refine g_putI (pc := 38) wfX2_15 rfl rfl rfl rfl e9 dX2_keep_38 ?_
  refine g_aload_n (pc := 41) dX2_keep_41 rfl 0 rfl ?_
  refine g_aload_n (pc := 42) dX2_keep_42 rfl 0 rfl ?_
  refine g_getI (pc := 43) wfX2_19 rfl rfl dX2_keep_43 ?_
  refine g_iconst (pc := 46) (v := 1) dX2_keep_46 (by decide) ?_
  refine g_iadd (pc := 47) dX2_keep_47 ?_
  refine g_bipush (pc := 48) (v := 40) dX2_keep_48 (by decide) ?_
  refine g_min (pc := 50) (st := [.ref 29]) wmX2_26 ⟨by decide, by decide⟩ dX2_keep_50 ?_
  obtain ⟨σ10, e11, h⟩ := g_ltd h
  refine g_putI (pc := 53) wfX2_19 rfl rfl rfl rfl e11 dX2_keep_53 ?_
  cases h
  exact g_vret (pc := 56) rfl rfl rfl dX2_keep_56
def fX2_keep (j : Nat) (σ : gM) : Option (gM) := g_bV (fX9_saveTo j ((σ.1 29 1) * 144) σ) (fun σ13 => if 40 ≤ ((σ13.1 29 1) + 1) then (fX2_keep_b38 j 0 σ13) else (fX2_keep_b38 j ((σ13.1 29 1) + 1) σ13))
set_option maxRecDepth 100000 in
theorem kX2_keep (hE : gEX l dC dI ad ca X) (j : Nat) (hj : j < 3)  (σ : gM) {σ' : gM} (h : fX2_keep j σ = some σ') : g_C l dC dI ad ca shX X yX2_keep cX2_keep 2 none (gR 2) [.ref 29, .ref (10 + 5 * j)] σ none σ' := by
  refine g_entry (by decide +kernel) (Nat.le_of_ble_eq_true rfl) ?_
  refine g_lvE (lv1 := [(0, .ref 29), (1, .ref (10 + 5 * j))]) rfl ?_
  unfold fX2_keep at h
  refine g_aload_n (pc := 0) dX2_keep_0 rfl 1 rfl ?_
  refine g_aload_n (pc := 1) dX2_keep_1 rfl 0 rfl ?_
  refine g_getR (pc := 2) wfX2_11 rfl rfl dX2_keep_2 ?_
  refine g_aload_n (pc := 5) dX2_keep_5 rfl 0 rfl ?_
  refine g_getI (pc := 6) wfX2_15 rfl rfl dX2_keep_6 ?_
  refine g_sipush (pc := 9) (v := 144) dX2_keep_9 (by decide) ?_
  refine g_imul (pc := 12) dX2_keep_12 ?_
  obtain ⟨σ13, h12, h⟩ := g_bVd h
  refine g_callVv (pc := 13) (st := []) hE.1 wvX2_22 (sX_state hj) rfl (kX9_saveTo hE j hj ((σ.1 29 1) * 144) σ h12) rfl (gR_ok (by decide) (by decide)) (Nat.le_of_ble_eq_true rfl) rfl dX2_keep_13 ?_
  refine g_aload_n (pc := 16) dX2_keep_16 rfl 0 rfl ?_
  refine g_aload_n (pc := 17) dX2_keep_17 rfl 0 rfl ?_
  refine g_getI (pc := 18) wfX2_15 rfl rfl dX2_keep_18 ?_
  refine g_iconst (pc := 21) (v := 1) dX2_keep_21 (by decide) ?_
  refine g_iadd (pc := 22) dX2_keep_22 ?_
  refine g_bipush (pc := 23) (v := 40) dX2_keep_23 (by decide) ?_
  refine g_icmp_ge (pc := 25) (tgt := 37) dX2_keep_25 (by decide) (fun c14 => ?_) (fun c14 => ?_)
  · have h := g_ift c14 h
    refine g_iconst (pc := 37) (v := 0) dX2_keep_37 (by decide) ?_
    exact g_lv [0] rfl (tX2_keep_b38 hE j hj 0 σ13 h)
  · have h := g_iff c14 h
    refine g_aload_n (pc := 28) dX2_keep_28 rfl 0 rfl ?_
    refine g_getI (pc := 29) wfX2_15 rfl rfl dX2_keep_29 ?_
    refine g_iconst (pc := 32) (v := 1) dX2_keep_32 (by decide) ?_
    refine g_iadd (pc := 33) dX2_keep_33 ?_
    refine g_goto (pc := 34) (tgt := 38) dX2_keep_34 (by decide) ?_
    exact g_lv [0] rfl (tX2_keep_b38 hE j hj ((σ13.1 29 1) + 1) σ13 h)
def fX9_loadFrom (i : Nat) (v2 : Int32) (σ : gM) : Option (gM) := if v2 < 0 then (some σ) else (if (5760 - 144) < v2 then (some σ) else (if ¬ v2 < 0 then (if ¬ (0 : Int32) < 0 then (if ¬ (144 : Int32) < 0 then (if v2.toNatClampNeg + (144 : Int32).toNatClampNeg ≤ 5760 then (if (0 : Int32).toNatClampNeg + (144 : Int32).toNatClampNeg ≤ 144 then (g_let (g_row σ (11 + 5 * i) (va_cpy (σ.1 30) (σ.1 (11 + 5 * i)) v2.toNatClampNeg (0 : Int32).toNatClampNeg (144 : Int32).toNatClampNeg)) (fun σ17 => some σ17)) else none) else none) else none) else none) else none))
set_option maxRecDepth 100000 in
theorem kX9_loadFrom (hE : gEX l dC dI ad ca X) (i : Nat) (hi : i < 3)  (v2 : Int32) (σ : gM) {σ' : gM} (h : fX9_loadFrom i v2 σ = some σ') : g_C l dC dI ad ca shX X yX9_loadFrom cX9_loadFrom 3 none (gR 1) [.ref (10 + 5 * i), .ref 30, .int v2] σ none σ' := by
  refine g_entry (by decide +kernel) (Nat.le_of_ble_eq_true rfl) ?_
  refine g_lvE (lv1 := [(0, .ref (10 + 5 * i)), (1, .ref 30), (2, .int v2)]) rfl ?_
  unfold fX9_loadFrom at h
  refine g_iload_n (pc := 0) dX9_loadFrom_0 rfl 2 rfl ?_
  refine g_if_lt (pc := 1) (tgt := 27) dX9_loadFrom_1 (by decide) (fun c10 => ?_) (fun c10 => ?_)
  · have h := g_ift c10 h
    cases h
    exact g_vret (pc := 27) rfl rfl rfl dX9_loadFrom_27
  · have h := g_iff c10 h
    refine g_iload_n (pc := 4) dX9_loadFrom_4 rfl 2 rfl ?_
    refine g_aload_n (pc := 5) dX9_loadFrom_5 rfl 1 rfl ?_
    refine g_alen (pc := 6) rfl dX9_loadFrom_6 ?_
    refine g_sipush (pc := 7) (v := 144) dX9_loadFrom_7 (by decide) ?_
    refine g_isub (pc := 10) dX9_loadFrom_10 ?_
    refine g_icmp_gt (pc := 11) (tgt := 27) dX9_loadFrom_11 (by decide) (fun c11 => ?_) (fun c11 => ?_)
    · have h := g_ift c11 h
      cases h
      exact g_vret (pc := 27) rfl rfl rfl dX9_loadFrom_27
    · have h := g_iff c11 h
      refine g_aload_n (pc := 14) dX9_loadFrom_14 rfl 1 rfl ?_
      refine g_iload_n (pc := 15) dX9_loadFrom_15 rfl 2 rfl ?_
      refine g_aload_n (pc := 16) dX9_loadFrom_16 rfl 0 rfl ?_
      refine g_getR (pc := 17) wfX9_11 (sX_state hi) rfl dX9_loadFrom_17 ?_
      refine g_iconst (pc := 20) (v := 0) dX9_loadFrom_20 (by decide) ?_
      refine g_sipush (pc := 21) (v := 144) dX9_loadFrom_21 (by decide) ?_
      obtain ⟨c12, h⟩ := g_gd h
      obtain ⟨c13, h⟩ := g_gd h
      obtain ⟨c14, h⟩ := g_gd h
      obtain ⟨c15, h⟩ := g_gd h
      obtain ⟨c16, h⟩ := g_gd h
      obtain ⟨σ17, e18, h⟩ := g_ltd h
      refine g_copy (pc := 24) (st := []) waX9_31 rfl (sX_slots hi) c12 c13 c14 c15 c16 ⟨by decide, by decide⟩ e18 dX9_loadFrom_24 ?_
      cases h
      exact g_vret (pc := 27) rfl rfl rfl dX9_loadFrom_27
def fX2_bringBack_b26 (j : Nat) (s0 : Int32) (σ : gM) : Option (gM) := g_let (g_put σ 29 1 s0) (fun σ9 => g_bV (fX9_loadFrom j ((σ9.1 29 1) * 144) σ9) (fun σ12 => g_let (g_put σ12 29 2 ((σ12.1 29 2) - 1)) (fun σ13 => some σ13)))
set_option maxRecDepth 100000 in
theorem tX2_bringBack_b26 (hE : gEX l dC dI ad ca X) {σ' : gM} (j : Nat) (hj : j < 3) (s0 : Int32)  (σ : gM) (h : fX2_bringBack_b26 j s0 σ = some σ') : g_G l dC dI ad ca shX X cX2_bringBack 2 RX2 none (gR 2) none σ' 26 [(0, .ref 29), (1, .ref (10 + 5 * j))] [.int s0, .ref 29] σ := by
  unfold fX2_bringBack_b26 at h
  obtain ⟨σ9, e10, h⟩ := g_ltd h
  refine g_putI (pc := 26) wfX2_15 rfl rfl rfl rfl e10 dX2_bringBack_26 ?_
  refine g_aload_n (pc := 29) dX2_bringBack_29 rfl 1 rfl ?_
  refine g_aload_n (pc := 30) dX2_bringBack_30 rfl 0 rfl ?_
  refine g_getR (pc := 31) wfX2_11 rfl rfl dX2_bringBack_31 ?_
  refine g_aload_n (pc := 34) dX2_bringBack_34 rfl 0 rfl ?_
  refine g_getI (pc := 35) wfX2_15 rfl rfl dX2_bringBack_35 ?_
  refine g_sipush (pc := 38) (v := 144) dX2_bringBack_38 (by decide) ?_
  refine g_imul (pc := 41) dX2_bringBack_41 ?_
  obtain ⟨σ12, h11, h⟩ := g_bVd h
  refine g_callVv (pc := 42) (st := []) hE.1 wvX2_32 (sX_state hj) rfl (kX9_loadFrom hE j hj ((σ9.1 29 1) * 144) σ9 h11) rfl (gR_ok (by decide) (by decide)) (Nat.le_of_ble_eq_true rfl) rfl dX2_bringBack_42 ?_
  refine g_aload_n (pc := 45) dX2_bringBack_45 rfl 0 rfl ?_
  refine g_dup (pc := 46) dX2_bringBack_46 rfl ?_
  refine g_getI (pc := 47) wfX2_19 rfl rfl dX2_bringBack_47 ?_
  refine g_iconst (pc := 50) (v := 1) dX2_bringBack_50 (by decide) ?_
  refine g_isub (pc := 51) dX2_bringBack_51 ?_
  obtain ⟨σ13, e14, h⟩ := g_ltd h
  refine g_putI (pc := 52) wfX2_19 rfl rfl rfl rfl e14 dX2_bringBack_52 ?_
  cases h
  exact g_vret (pc := 55) rfl rfl rfl dX2_bringBack_55
def fX2_bringBack (j : Nat) (σ : gM) : Option (gM) := if (σ.1 29 2) ≤ 0 then (some σ) else (if (σ.1 29 1) ≤ 0 then (fX2_bringBack_b26 j 39 σ) else (fX2_bringBack_b26 j ((σ.1 29 1) - 1) σ))
set_option maxRecDepth 100000 in
theorem kX2_bringBack (hE : gEX l dC dI ad ca X) (j : Nat) (hj : j < 3)  (σ : gM) {σ' : gM} (h : fX2_bringBack j σ = some σ') : g_C l dC dI ad ca shX X yX2_bringBack cX2_bringBack 2 none (gR 2) [.ref 29, .ref (10 + 5 * j)] σ none σ' := by
  refine g_entry (by decide +kernel) (Nat.le_of_ble_eq_true rfl) ?_
  refine g_lvE (lv1 := [(0, .ref 29), (1, .ref (10 + 5 * j))]) rfl ?_
  unfold fX2_bringBack at h
  refine g_aload_n (pc := 0) dX2_bringBack_0 rfl 0 rfl ?_
  refine g_getI (pc := 1) wfX2_19 rfl rfl dX2_bringBack_1 ?_
  refine g_if_le (pc := 4) (tgt := 55) dX2_bringBack_4 (by decide) (fun c15 => ?_) (fun c15 => ?_)
  · have h := g_ift c15 h
    cases h
    exact g_vret (pc := 55) rfl rfl rfl dX2_bringBack_55
  · have h := g_iff c15 h
    refine g_aload_n (pc := 7) dX2_bringBack_7 rfl 0 rfl ?_
    refine g_aload_n (pc := 8) dX2_bringBack_8 rfl 0 rfl ?_
    refine g_getI (pc := 9) wfX2_15 rfl rfl dX2_bringBack_9 ?_
    refine g_if_le (pc := 12) (tgt := 24) dX2_bringBack_12 (by decide) (fun c16 => ?_) (fun c16 => ?_)
    · have h := g_ift c16 h
      refine g_bipush (pc := 24) (v := 39) dX2_bringBack_24 (by decide) ?_
      exact g_lv [0, 1] rfl (tX2_bringBack_b26 hE j hj 39 σ h)
    · have h := g_iff c16 h
      refine g_aload_n (pc := 15) dX2_bringBack_15 rfl 0 rfl ?_
      refine g_getI (pc := 16) wfX2_15 rfl rfl dX2_bringBack_16 ?_
      refine g_iconst (pc := 19) (v := 1) dX2_bringBack_19 (by decide) ?_
      refine g_isub (pc := 20) dX2_bringBack_20 ?_
      refine g_goto (pc := 21) (tgt := 26) dX2_bringBack_21 (by decide) ?_
      exact g_lv [0, 1] rfl (tX2_bringBack_b26 hE j hj ((σ.1 29 1) - 1) σ h)
def fX2_forget (σ : gM) : Option (gM) := g_let (g_put σ 29 2 0) (fun σ3 => some σ3)
set_option maxRecDepth 100000 in
theorem kX2_forget (hE : gEX l dC dI ad ca X)  (σ : gM) {σ' : gM} (h : fX2_forget σ = some σ') : g_C l dC dI ad ca shX X yX2_forget cX2_forget 1 none (gR 0) [.ref 29] σ none σ' := by
  refine g_entry (by decide +kernel) (Nat.le_of_ble_eq_true rfl) ?_
  refine g_lvE (lv1 := [(0, .ref 29)]) rfl ?_
  unfold fX2_forget at h
  refine g_aload_n (pc := 0) dX2_forget_0 rfl 0 rfl ?_
  refine g_iconst (pc := 1) (v := 0) dX2_forget_1 (by decide) ?_
  obtain ⟨σ3, e4, h⟩ := g_ltd h
  refine g_putI (pc := 2) wfX2_19 rfl rfl rfl rfl e4 dX2_forget_2 ?_
  cases h
  exact g_vret (pc := 5) rfl rfl rfl dX2_forget_5
def fX3_add (i : Nat) (v1 : Int32) (v2 : Int32) (v3 : Int32) (σ : gM) : Option (gM) := g_bI (fJ9_floorMod_7cf53 (σ.1 (25 + 2 * i) 1) 100 σ) (fun r17 σ16 => if ¬ ((3 * r17) < 0 ∨ 300 ≤ (3 * r17).toNatClampNeg) then (g_let (g_put σ16 (26 + 2 * i) ((3 * r17).toNatClampNeg) v1) (fun σ19 => if ¬ (((3 * r17) + 1) < 0 ∨ 300 ≤ ((3 * r17) + 1).toNatClampNeg) then (g_let (g_put σ19 (26 + 2 * i) (((3 * r17) + 1).toNatClampNeg) v2) (fun σ22 => if ¬ (((3 * r17) + 2) < 0 ∨ 300 ≤ ((3 * r17) + 2).toNatClampNeg) then (g_let (g_put σ22 (26 + 2 * i) (((3 * r17) + 2).toNatClampNeg) v3) (fun σ25 => g_let (g_put σ25 (25 + 2 * i) 1 ((σ25.1 (25 + 2 * i) 1) + 1)) (fun σ27 => some σ27))) else none)) else none)) else none)
set_option maxRecDepth 100000 in
theorem kX3_add (hE : gEX l dC dI ad ca X) (i : Nat) (hi : i < 2)  (v1 : Int32) (v2 : Int32) (v3 : Int32) (σ : gM) {σ' : gM} (h : fX3_add i v1 v2 v3 σ = some σ') : g_C l dC dI ad ca shX X yX3_add cX3_add 5 none (gR 1) [.ref (25 + 2 * i), .int v1, .int v2, .int v3] σ none σ' := by
  refine g_entry (by decide +kernel) (Nat.le_of_ble_eq_true rfl) ?_
  refine g_lvE (lv1 := [(0, .ref (25 + 2 * i)), (1, .int v1), (2, .int v2), (3, .int v3)]) rfl ?_
  unfold fX3_add at h
  refine g_iconst (pc := 0) (v := 3) dX3_add_0 (by decide) ?_
  refine g_aload_n (pc := 1) dX3_add_1 rfl 0 rfl ?_
  refine g_getI (pc := 2) wfX3_17 (sX_log hi) rfl dX3_add_2 ?_
  refine g_bipush (pc := 5) (v := 100) dX3_add_5 (by decide) ?_
  obtain ⟨r17, σ16, h15, h⟩ := g_bId h
  refine g_callSi (pc := 7) (st := [.int 3]) hE.1 wsX3_21 (kJ9_floorMod_7cf53 hE (σ.1 (25 + 2 * i) 1) 100 σ h15) rfl (gR_ok (by decide) (by decide)) (Nat.le_of_ble_eq_true rfl) rfl dX3_add_7 ?_
  refine g_imul (pc := 10) dX3_add_10 ?_
  refine g_istore (pc := 11) (lv1 := [(4, .int (3 * r17)), (0, .ref (25 + 2 * i)), (1, .int v1), (2, .int v2), (3, .int v3)]) dX3_add_11 (by decide) rfl ?_
  refine g_aload_n (pc := 13) dX3_add_13 rfl 1 rfl ?_
  refine g_getR (pc := 14) wfX3_13 (sX_log hi) rfl dX3_add_14 ?_
  refine g_iload (pc := 17) dX3_add_17 0 rfl ?_
  refine g_iload_n (pc := 19) dX3_add_19 rfl 2 rfl ?_
  obtain ⟨c18, h⟩ := g_gd h
  obtain ⟨σ19, e20, h⟩ := g_ltd h
  refine g_iast (pc := 20) (sX_ents hi) c18 rfl e20 dX3_add_20 ?_
  refine g_aload_n (pc := 21) dX3_add_21 rfl 1 rfl ?_
  refine g_getR (pc := 22) wfX3_13 (sX_log hi) rfl dX3_add_22 ?_
  refine g_iload (pc := 25) dX3_add_25 0 rfl ?_
  refine g_iconst (pc := 27) (v := 1) dX3_add_27 (by decide) ?_
  refine g_iadd (pc := 28) dX3_add_28 ?_
  refine g_iload_n (pc := 29) dX3_add_29 rfl 3 rfl ?_
  obtain ⟨c21, h⟩ := g_gd h
  obtain ⟨σ22, e23, h⟩ := g_ltd h
  refine g_iast (pc := 30) (sX_ents hi) c21 rfl e23 dX3_add_30 ?_
  refine g_aload_n (pc := 31) dX3_add_31 rfl 1 rfl ?_
  refine g_getR (pc := 32) wfX3_13 (sX_log hi) rfl dX3_add_32 ?_
  refine g_iload (pc := 35) dX3_add_35 0 rfl ?_
  refine g_iconst (pc := 37) (v := 2) dX3_add_37 (by decide) ?_
  refine g_iadd (pc := 38) dX3_add_38 ?_
  refine g_iload_n (pc := 39) dX3_add_39 rfl 4 rfl ?_
  obtain ⟨c24, h⟩ := g_gd h
  obtain ⟨σ25, e26, h⟩ := g_ltd h
  refine g_iast (pc := 40) (sX_ents hi) c24 rfl e26 dX3_add_40 ?_
  refine g_aload_n (pc := 41) dX3_add_41 rfl 1 rfl ?_
  refine g_dup (pc := 42) dX3_add_42 rfl ?_
  refine g_getI (pc := 43) wfX3_17 (sX_log hi) rfl dX3_add_43 ?_
  refine g_iconst (pc := 46) (v := 1) dX3_add_46 (by decide) ?_
  refine g_iadd (pc := 47) dX3_add_47 ?_
  obtain ⟨σ27, e28, h⟩ := g_ltd h
  refine g_putI (pc := 48) wfX3_17 (sX_log hi) rfl rfl rfl e28 dX3_add_48 ?_
  cases h
  exact g_vret (pc := 51) rfl rfl rfl dX3_add_51
def fX3_drop (i : Nat) (σ : gM) : Option (gM) := if (σ.1 (25 + 2 * i) 1) ≤ 0 then (some σ) else (g_let (g_put σ (25 + 2 * i) 1 ((σ.1 (25 + 2 * i) 1) - 1)) (fun σ5 => some σ5))
set_option maxRecDepth 100000 in
theorem kX3_drop (hE : gEX l dC dI ad ca X) (i : Nat) (hi : i < 2)  (σ : gM) {σ' : gM} (h : fX3_drop i σ = some σ') : g_C l dC dI ad ca shX X yX3_drop cX3_drop 1 none (gR 0) [.ref (25 + 2 * i)] σ none σ' := by
  refine g_entry (by decide +kernel) (Nat.le_of_ble_eq_true rfl) ?_
  refine g_lvE (lv1 := [(0, .ref (25 + 2 * i))]) rfl ?_
  unfold fX3_drop at h
  refine g_aload_n (pc := 0) dX3_drop_0 rfl 0 rfl ?_
  refine g_getI (pc := 1) wfX3_17 (sX_log hi) rfl dX3_drop_1 ?_
  refine g_if_le (pc := 4) (tgt := 17) dX3_drop_4 (by decide) (fun c4 => ?_) (fun c4 => ?_)
  · have h := g_ift c4 h
    cases h
    exact g_vret (pc := 17) rfl rfl rfl dX3_drop_17
  · have h := g_iff c4 h
    refine g_aload_n (pc := 7) dX3_drop_7 rfl 0 rfl ?_
    refine g_dup (pc := 8) dX3_drop_8 rfl ?_
    refine g_getI (pc := 9) wfX3_17 (sX_log hi) rfl dX3_drop_9 ?_
    refine g_iconst (pc := 12) (v := 1) dX3_drop_12 (by decide) ?_
    refine g_isub (pc := 13) dX3_drop_13 ?_
    obtain ⟨σ5, e6, h⟩ := g_ltd h
    refine g_putI (pc := 14) wfX3_17 (sX_log hi) rfl rfl rfl e6 dX3_drop_14 ?_
    cases h
    exact g_vret (pc := 17) rfl rfl rfl dX3_drop_17
def fX3_forget (i : Nat) (σ : gM) : Option (gM) := g_let (g_put σ (25 + 2 * i) 1 0) (fun σ3 => some σ3)
set_option maxRecDepth 100000 in
theorem kX3_forget (hE : gEX l dC dI ad ca X) (i : Nat) (hi : i < 2)  (σ : gM) {σ' : gM} (h : fX3_forget i σ = some σ') : g_C l dC dI ad ca shX X yX3_forget cX3_forget 1 none (gR 0) [.ref (25 + 2 * i)] σ none σ' := by
  refine g_entry (by decide +kernel) (Nat.le_of_ble_eq_true rfl) ?_
  refine g_lvE (lv1 := [(0, .ref (25 + 2 * i))]) rfl ?_
  unfold fX3_forget at h
  refine g_aload_n (pc := 0) dX3_forget_0 rfl 0 rfl ?_
  refine g_iconst (pc := 1) (v := 0) dX3_forget_1 (by decide) ?_
  obtain ⟨σ3, e4, h⟩ := g_ltd h
  refine g_putI (pc := 2) wfX3_17 (sX_log hi) rfl rfl rfl e4 dX3_forget_2 ?_
  cases h
  exact g_vret (pc := 5) rfl rfl rfl dX3_forget_5
def fX3_length (i : Nat) (σ : gM) : Option (Int32 × gM) := some (if 60 < (σ.1 (25 + 2 * i) 1) then 60 else (σ.1 (25 + 2 * i) 1), σ)
set_option maxRecDepth 100000 in
theorem kX3_length (hE : gEX l dC dI ad ca X) (i : Nat) (hi : i < 2)  (σ : gM) {r0 : Int32} {σ' : gM} (h : fX3_length i σ = some (r0, σ')) : g_C l dC dI ad ca shX X yX3_length cX3_length 1 (some .int) (gR 1) [.ref (25 + 2 * i)] σ (some (.int r0)) σ' := by
  refine g_entry (by decide +kernel) (Nat.le_of_ble_eq_true rfl) ?_
  refine g_lvE (lv1 := [(0, .ref (25 + 2 * i))]) rfl ?_
  unfold fX3_length at h
  refine g_aload_n (pc := 0) dX3_length_0 rfl 0 rfl ?_
  refine g_getI (pc := 1) wfX3_17 (sX_log hi) rfl dX3_length_1 ?_
  refine g_bipush (pc := 4) (v := 60) dX3_length_4 (by decide) ?_
  refine g_min (pc := 6) (st := []) wmX3_27 ⟨by decide, by decide⟩ dX3_length_6 ?_
  cases h
  exact g_iret (pc := 9) rfl rfl rfl rfl dX3_length_9
def fX3_tell_b21 (i : Nat) (σ : gM) : Option (Int32 × gM) := some ((-1000000), σ)
set_option maxRecDepth 100000 in
theorem tX3_tell_b21 (hE : gEX l dC dI ad ca X) {r0 : Int32} {σ' : gM} (i : Nat) (hi : i < 2)  (σ : gM) (h : fX3_tell_b21 i σ = some (r0, σ')) : g_G l dC dI ad ca shX X cX3_tell 3 RX3 (some .int) (gR 2) (some (.int r0)) σ' 21 [] [] σ := by
  unfold fX3_tell_b21 at h
  refine g_ldc (pc := 21) wkX3_34 dX3_tell_21 ?_
  cases h
  exact g_iret (pc := 23) rfl rfl rfl rfl dX3_tell_23
def fX3_tell (i : Nat) (v1 : Int32) (v2 : Int32) (σ : gM) : Option (Int32 × gM) := if v1 < 0 then (fX3_tell_b21 i σ) else (g_bI (fX3_length i σ) (fun r15 σ14 => if r15 ≤ v1 then (fX3_tell_b21 i σ14) else (if v2 < 0 then (fX3_tell_b21 i σ14) else (if v2 < 3 then (g_bI (fJ9_floorMod_7cf53 (((σ14.1 (25 + 2 * i) 1) - 1) - v1) 100 σ14) (fun r21 σ20 => if ¬ (((3 * r21) + v2) < 0 ∨ 300 ≤ ((3 * r21) + v2).toNatClampNeg) then (some (σ20.1 (26 + 2 * i) (((3 * r21) + v2).toNatClampNeg), σ20)) else none)) else (fX3_tell_b21 i σ14)))))
set_option maxRecDepth 100000 in
theorem kX3_tell (hE : gEX l dC dI ad ca X) (i : Nat) (hi : i < 2)  (v1 : Int32) (v2 : Int32) (σ : gM) {r0 : Int32} {σ' : gM} (h : fX3_tell i v1 v2 σ = some (r0, σ')) : g_C l dC dI ad ca shX X yX3_tell cX3_tell 3 (some .int) (gR 2) [.ref (25 + 2 * i), .int v1, .int v2] σ (some (.int r0)) σ' := by
  refine g_entry (by decide +kernel) (Nat.le_of_ble_eq_true rfl) ?_
  refine g_lvE (lv1 := [(0, .ref (25 + 2 * i)), (1, .int v1), (2, .int v2)]) rfl ?_
  unfold fX3_tell at h
  refine g_iload_n (pc := 0) dX3_tell_0 rfl 1 rfl ?_
  refine g_if_lt (pc := 1) (tgt := 21) dX3_tell_1 (by decide) (fun c12 => ?_) (fun c12 => ?_)
  · have h := g_ift c12 h
    exact g_lv [] rfl (tX3_tell_b21 hE i hi σ h)
  · have h := g_iff c12 h
    refine g_iload_n (pc := 4) dX3_tell_4 rfl 1 rfl ?_
    refine g_aload_n (pc := 5) dX3_tell_5 rfl 0 rfl ?_
    obtain ⟨r15, σ14, h13, h⟩ := g_bId h
    refine g_callVi (pc := 6) (st := [.int v1]) hE.1 wvX3_30 (sX_log hi) rfl (kX3_length hE i hi σ h13) rfl (gR_ok (by decide) (by decide)) (Nat.le_of_ble_eq_true rfl) rfl dX3_tell_6 ?_
    refine g_icmp_ge (pc := 9) (tgt := 21) dX3_tell_9 (by decide) (fun c16 => ?_) (fun c16 => ?_)
    · have h := g_ift c16 h
      exact g_lv [] rfl (tX3_tell_b21 hE i hi σ14 h)
    · have h := g_iff c16 h
      refine g_iload_n (pc := 12) dX3_tell_12 rfl 2 rfl ?_
      refine g_if_lt (pc := 13) (tgt := 21) dX3_tell_13 (by decide) (fun c17 => ?_) (fun c17 => ?_)
      · have h := g_ift c17 h
        exact g_lv [] rfl (tX3_tell_b21 hE i hi σ14 h)
      · have h := g_iff c17 h
        refine g_iload_n (pc := 16) dX3_tell_16 rfl 2 rfl ?_
        refine g_iconst (pc := 17) (v := 3) dX3_tell_17 (by decide) ?_
        refine g_icmp_lt (pc := 18) (tgt := 24) dX3_tell_18 (by decide) (fun c18 => ?_) (fun c18 => ?_)
        · have h := g_ift c18 h
          refine g_aload_n (pc := 24) dX3_tell_24 rfl 0 rfl ?_
          refine g_getR (pc := 25) wfX3_13 (sX_log hi) rfl dX3_tell_25 ?_
          refine g_iconst (pc := 28) (v := 3) dX3_tell_28 (by decide) ?_
          refine g_aload_n (pc := 29) dX3_tell_29 rfl 0 rfl ?_
          refine g_getI (pc := 30) wfX3_17 (sX_log hi) rfl dX3_tell_30 ?_
          refine g_iconst (pc := 33) (v := 1) dX3_tell_33 (by decide) ?_
          refine g_isub (pc := 34) dX3_tell_34 ?_
          refine g_iload_n (pc := 35) dX3_tell_35 rfl 1 rfl ?_
          refine g_isub (pc := 36) dX3_tell_36 ?_
          refine g_bipush (pc := 37) (v := 100) dX3_tell_37 (by decide) ?_
          obtain ⟨r21, σ20, h19, h⟩ := g_bId h
          refine g_callSi (pc := 39) (st := [.int 3, .ref (26 + 2 * i)]) hE.1 wsX3_21 (kJ9_floorMod_7cf53 hE (((σ14.1 (25 + 2 * i) 1) - 1) - v1) 100 σ14 h19) rfl (gR_ok (by decide) (by decide)) (Nat.le_of_ble_eq_true rfl) rfl dX3_tell_39 ?_
          refine g_imul (pc := 42) dX3_tell_42 ?_
          refine g_iload_n (pc := 43) dX3_tell_43 rfl 2 rfl ?_
          refine g_iadd (pc := 44) dX3_tell_44 ?_
          obtain ⟨c22, h⟩ := g_gd h
          refine g_iald (pc := 45) (sX_ents hi) c22 rfl dX3_tell_45 ?_
          cases h
          exact g_iret (pc := 46) rfl rfl rfl rfl dX3_tell_46
        · have h := g_iff c18 h
          exact g_lv [] rfl (tX3_tell_b21 hE i hi σ14 h)
def fX3_copy (i : Nat) (j : Nat) (σ : gM) : Option (gM) := if ¬ (0 : Int32) < 0 then (if ¬ (0 : Int32) < 0 then (if ¬ (300 : Int32) < 0 then (if (0 : Int32).toNatClampNeg + (300 : Int32).toNatClampNeg ≤ 300 then (if (0 : Int32).toNatClampNeg + (300 : Int32).toNatClampNeg ≤ 300 then (g_let (g_row σ (26 + 2 * i) (va_cpy (σ.1 (26 + 2 * j)) (σ.1 (26 + 2 * i)) (0 : Int32).toNatClampNeg (0 : Int32).toNatClampNeg (300 : Int32).toNatClampNeg)) (fun σ15 => g_let (g_put σ15 (25 + 2 * i) 1 (σ15.1 (25 + 2 * j) 1)) (fun σ17 => some σ17))) else none) else none) else none) else none) else none
set_option maxRecDepth 100000 in
theorem kX3_copy (hE : gEX l dC dI ad ca X) (i : Nat) (hi : i < 2) (j : Nat) (hj : j < 2)  (σ : gM) {σ' : gM} (h : fX3_copy i j σ = some σ') : g_C l dC dI ad ca shX X yX3_copy cX3_copy 2 none (gR 1) [.ref (25 + 2 * i), .ref (25 + 2 * j)] σ none σ' := by
  refine g_entry (by decide +kernel) (Nat.le_of_ble_eq_true rfl) ?_
  refine g_lvE (lv1 := [(0, .ref (25 + 2 * i)), (1, .ref (25 + 2 * j))]) rfl ?_
  unfold fX3_copy at h
  refine g_aload_n (pc := 0) dX3_copy_0 rfl 1 rfl ?_
  refine g_getR (pc := 1) wfX3_13 (sX_log hj) rfl dX3_copy_1 ?_
  refine g_iconst (pc := 4) (v := 0) dX3_copy_4 (by decide) ?_
  refine g_aload_n (pc := 5) dX3_copy_5 rfl 0 rfl ?_
  refine g_getR (pc := 6) wfX3_13 (sX_log hi) rfl dX3_copy_6 ?_
  refine g_iconst (pc := 9) (v := 0) dX3_copy_9 (by decide) ?_
  refine g_sipush (pc := 10) (v := 300) dX3_copy_10 (by decide) ?_
  obtain ⟨c10, h⟩ := g_gd h
  obtain ⟨c11, h⟩ := g_gd h
  obtain ⟨c12, h⟩ := g_gd h
  obtain ⟨c13, h⟩ := g_gd h
  obtain ⟨c14, h⟩ := g_gd h
  obtain ⟨σ15, e16, h⟩ := g_ltd h
  refine g_copy (pc := 13) (st := []) waX3_35 (sX_ents hj) (sX_ents hi) c10 c11 c12 c13 c14 ⟨by decide, by decide⟩ e16 dX3_copy_13 ?_
  refine g_aload_n (pc := 16) dX3_copy_16 rfl 0 rfl ?_
  refine g_aload_n (pc := 17) dX3_copy_17 rfl 1 rfl ?_
  refine g_getI (pc := 18) wfX3_17 (sX_log hj) rfl dX3_copy_18 ?_
  obtain ⟨σ17, e18, h⟩ := g_ltd h
  refine g_putI (pc := 21) wfX3_17 (sX_log hi) rfl rfl rfl e18 dX3_copy_21 ?_
  cases h
  exact g_vret (pc := 24) rfl rfl rfl dX3_copy_24
def fX6_partOf_b16 (σ : gM) : Option (Int32 × gM) := some (0, σ)
set_option maxRecDepth 100000 in
theorem tX6_partOf_b16 (hE : gEX l dC dI ad ca X) {r0 : Int32} {σ' : gM}  (σ : gM) (h : fX6_partOf_b16 σ = some (r0, σ')) : g_G l dC dI ad ca shX X cX6_partOf 2 RX6 (some .int) (gR 0) (some (.int r0)) σ' 16 [] [] σ := by
  unfold fX6_partOf_b16 at h
  refine g_iconst (pc := 16) (v := 0) dX6_partOf_16 (by decide) ?_
  refine g_goto (pc := 17) (tgt := 31) dX6_partOf_17 (by decide) ?_
  cases h
  exact g_iret (pc := 31) rfl rfl rfl rfl dX6_partOf_31
def fX6_partOf (v1 : Int32) (σ : gM) : Option (Int32 × gM) := if (σ.1 5 2) < 1 then (fX6_partOf_b16 σ) else (if 1 ≤ (σ.1 5 0) then (if (σ.1 5 2) = 0 then none else (if (σ.1 5 0) = 0 then none else (some ((v1 / (σ.1 5 2)) - (v1 / (σ.1 5 2)) / (σ.1 5 0) * (σ.1 5 0), σ)))) else (fX6_partOf_b16 σ))
set_option maxRecDepth 100000 in
theorem kX6_partOf (hE : gEX l dC dI ad ca X)  (v1 : Int32) (σ : gM) {r0 : Int32} {σ' : gM} (h : fX6_partOf v1 σ = some (r0, σ')) : g_C l dC dI ad ca shX X yX6_partOf cX6_partOf 2 (some .int) (gR 0) [.ref 5, .int v1] σ (some (.int r0)) σ' := by
  refine g_entry (by decide +kernel) (Nat.le_of_ble_eq_true rfl) ?_
  refine g_lvE (lv1 := [(0, .ref 5), (1, .int v1)]) rfl ?_
  unfold fX6_partOf at h
  refine g_aload_n (pc := 0) dX6_partOf_0 rfl 0 rfl ?_
  refine g_getI (pc := 1) wfX6_16 rfl rfl dX6_partOf_1 ?_
  refine g_iconst (pc := 4) (v := 1) dX6_partOf_4 (by decide) ?_
  refine g_icmp_lt (pc := 5) (tgt := 16) dX6_partOf_5 (by decide) (fun c5 => ?_) (fun c5 => ?_)
  · have h := g_ift c5 h
    exact g_lv [] rfl (tX6_partOf_b16 hE σ h)
  · have h := g_iff c5 h
    refine g_aload_n (pc := 8) dX6_partOf_8 rfl 0 rfl ?_
    refine g_getI (pc := 9) wfX6_7 rfl rfl dX6_partOf_9 ?_
    refine g_iconst (pc := 12) (v := 1) dX6_partOf_12 (by decide) ?_
    refine g_icmp_ge (pc := 13) (tgt := 20) dX6_partOf_13 (by decide) (fun c6 => ?_) (fun c6 => ?_)
    · have h := g_ift c6 h
      refine g_iload_n (pc := 20) dX6_partOf_20 rfl 1 rfl ?_
      refine g_aload_n (pc := 21) dX6_partOf_21 rfl 0 rfl ?_
      refine g_getI (pc := 22) wfX6_16 rfl rfl dX6_partOf_22 ?_
      obtain ⟨c7, h⟩ := g_gn h
      refine g_idiv (pc := 25) dX6_partOf_25 c7 ?_
      refine g_aload_n (pc := 26) dX6_partOf_26 rfl 0 rfl ?_
      refine g_getI (pc := 27) wfX6_7 rfl rfl dX6_partOf_27 ?_
      obtain ⟨c8, h⟩ := g_gn h
      refine g_irem (pc := 30) dX6_partOf_30 c8 ?_
      cases h
      exact g_iret (pc := 31) rfl rfl rfl rfl dX6_partOf_31
    · have h := g_iff c6 h
      exact g_lv [] rfl (tX6_partOf_b16 hE σ h)
def fX6_stripeOf_b16 (σ : gM) : Option (Int32 × gM) := some (0, σ)
set_option maxRecDepth 100000 in
theorem tX6_stripeOf_b16 (hE : gEX l dC dI ad ca X) {r0 : Int32} {σ' : gM}  (σ : gM) (h : fX6_stripeOf_b16 σ = some (r0, σ')) : g_G l dC dI ad ca shX X cX6_stripeOf 2 RX6 (some .int) (gR 0) (some (.int r0)) σ' 16 [] [] σ := by
  unfold fX6_stripeOf_b16 at h
  refine g_iconst (pc := 16) (v := 0) dX6_stripeOf_16 (by decide) ?_
  refine g_goto (pc := 17) (tgt := 31) dX6_stripeOf_17 (by decide) ?_
  cases h
  exact g_iret (pc := 31) rfl rfl rfl rfl dX6_stripeOf_31
def fX6_stripeOf (v1 : Int32) (σ : gM) : Option (Int32 × gM) := if (σ.1 5 2) < 1 then (fX6_stripeOf_b16 σ) else (if 1 ≤ (σ.1 5 0) then (if (σ.1 5 2) = 0 then none else (if (σ.1 5 0) = 0 then none else (some ((v1 / (σ.1 5 2)) / (σ.1 5 0), σ)))) else (fX6_stripeOf_b16 σ))
set_option maxRecDepth 100000 in
theorem kX6_stripeOf (hE : gEX l dC dI ad ca X)  (v1 : Int32) (σ : gM) {r0 : Int32} {σ' : gM} (h : fX6_stripeOf v1 σ = some (r0, σ')) : g_C l dC dI ad ca shX X yX6_stripeOf cX6_stripeOf 2 (some .int) (gR 0) [.ref 5, .int v1] σ (some (.int r0)) σ' := by
  refine g_entry (by decide +kernel) (Nat.le_of_ble_eq_true rfl) ?_
  refine g_lvE (lv1 := [(0, .ref 5), (1, .int v1)]) rfl ?_
  unfold fX6_stripeOf at h
  refine g_aload_n (pc := 0) dX6_stripeOf_0 rfl 0 rfl ?_
  refine g_getI (pc := 1) wfX6_16 rfl rfl dX6_stripeOf_1 ?_
  refine g_iconst (pc := 4) (v := 1) dX6_stripeOf_4 (by decide) ?_
  refine g_icmp_lt (pc := 5) (tgt := 16) dX6_stripeOf_5 (by decide) (fun c5 => ?_) (fun c5 => ?_)
  · have h := g_ift c5 h
    exact g_lv [] rfl (tX6_stripeOf_b16 hE σ h)
  · have h := g_iff c5 h
    refine g_aload_n (pc := 8) dX6_stripeOf_8 rfl 0 rfl ?_
    refine g_getI (pc := 9) wfX6_7 rfl rfl dX6_stripeOf_9 ?_
    refine g_iconst (pc := 12) (v := 1) dX6_stripeOf_12 (by decide) ?_
    refine g_icmp_ge (pc := 13) (tgt := 20) dX6_stripeOf_13 (by decide) (fun c6 => ?_) (fun c6 => ?_)
    · have h := g_ift c6 h
      refine g_iload_n (pc := 20) dX6_stripeOf_20 rfl 1 rfl ?_
      refine g_aload_n (pc := 21) dX6_stripeOf_21 rfl 0 rfl ?_
      refine g_getI (pc := 22) wfX6_16 rfl rfl dX6_stripeOf_22 ?_
      obtain ⟨c7, h⟩ := g_gn h
      refine g_idiv (pc := 25) dX6_stripeOf_25 c7 ?_
      refine g_aload_n (pc := 26) dX6_stripeOf_26 rfl 0 rfl ?_
      refine g_getI (pc := 27) wfX6_7 rfl rfl dX6_stripeOf_27 ?_
      obtain ⟨c8, h⟩ := g_gn h
      refine g_idiv (pc := 30) dX6_stripeOf_30 c8 ?_
      cases h
      exact g_iret (pc := 31) rfl rfl rfl rfl dX6_stripeOf_31
    · have h := g_iff c6 h
      exact g_lv [] rfl (tX6_stripeOf_b16 hE σ h)
def fX6_diskOf_b30 (v2 : Int32) (s0 : Int32) (σ : gM) : Option (Int32 × gM) := if (σ.1 5 5) = 0 then none else (g_bI (fJ9_floorMod_7cf53 ((((σ.1 5 5) - 1) - (v2 - v2 / (σ.1 5 5) * (σ.1 5 5))) + s0) (σ.1 5 5) σ) (fun r10 σ9 => some (r10, σ9)))
set_option maxRecDepth 100000 in
theorem tX6_diskOf_b30 (hE : gEX l dC dI ad ca X) {r0 : Int32} {σ' : gM} (v2 : Int32) (s0 : Int32)  (σ : gM) (h : fX6_diskOf_b30 v2 s0 σ = some (r0, σ')) : g_G l dC dI ad ca shX X cX6_diskOf 4 RX6 (some .int) (gR 1) (some (.int r0)) σ' 30 [(0, .ref 5), (2, .int v2)] [.int s0] σ := by
  unfold fX6_diskOf_b30 at h
  refine g_istore_n (pc := 30) (lv1 := [(3, .int s0), (0, .ref 5), (2, .int v2)]) dX6_diskOf_30 rfl (by decide) rfl ?_
  refine g_aload_n (pc := 31) dX6_diskOf_31 rfl 1 rfl ?_
  refine g_getI (pc := 32) wfX6_25 rfl rfl dX6_diskOf_32 ?_
  refine g_iconst (pc := 35) (v := 1) dX6_diskOf_35 (by decide) ?_
  refine g_isub (pc := 36) dX6_diskOf_36 ?_
  refine g_iload_n (pc := 37) dX6_diskOf_37 rfl 2 rfl ?_
  refine g_aload_n (pc := 38) dX6_diskOf_38 rfl 1 rfl ?_
  refine g_getI (pc := 39) wfX6_25 rfl rfl dX6_diskOf_39 ?_
  obtain ⟨c7, h⟩ := g_gn h
  refine g_irem (pc := 42) dX6_diskOf_42 c7 ?_
  refine g_isub (pc := 43) dX6_diskOf_43 ?_
  refine g_iload_n (pc := 44) dX6_diskOf_44 rfl 0 rfl ?_
  refine g_iadd (pc := 45) dX6_diskOf_45 ?_
  refine g_aload_n (pc := 46) dX6_diskOf_46 rfl 1 rfl ?_
  refine g_getI (pc := 47) wfX6_25 rfl rfl dX6_diskOf_47 ?_
  obtain ⟨r10, σ9, h8, h⟩ := g_bId h
  refine g_callSi (pc := 50) (st := []) hE.1 wsX6_60 (kJ9_floorMod_7cf53 hE ((((σ.1 5 5) - 1) - (v2 - v2 / (σ.1 5 5) * (σ.1 5 5))) + s0) (σ.1 5 5) σ h8) rfl (gR_ok (by decide) (by decide)) (Nat.le_of_ble_eq_true rfl) rfl dX6_diskOf_50 ?_
  cases h
  exact g_iret (pc := 53) rfl rfl rfl rfl dX6_diskOf_53
def fX6_diskOf (v1 : Int32) (v2 : Int32) (σ : gM) : Option (Int32 × gM) := if 1 ≤ (σ.1 5 5) then (if v1 < (σ.1 5 0) then (fX6_diskOf_b30 v2 (v1 + 2) σ) else (fX6_diskOf_b30 v2 (v1 - (σ.1 5 0)) σ)) else (some (0, σ))
set_option maxRecDepth 100000 in
theorem kX6_diskOf (hE : gEX l dC dI ad ca X)  (v1 : Int32) (v2 : Int32) (σ : gM) {r0 : Int32} {σ' : gM} (h : fX6_diskOf v1 v2 σ = some (r0, σ')) : g_C l dC dI ad ca shX X yX6_diskOf cX6_diskOf 4 (some .int) (gR 1) [.ref 5, .int v1, .int v2] σ (some (.int r0)) σ' := by
  refine g_entry (by decide +kernel) (Nat.le_of_ble_eq_true rfl) ?_
  refine g_lvE (lv1 := [(0, .ref 5), (1, .int v1), (2, .int v2)]) rfl ?_
  unfold fX6_diskOf at h
  refine g_aload_n (pc := 0) dX6_diskOf_0 rfl 0 rfl ?_
  refine g_getI (pc := 1) wfX6_25 rfl rfl dX6_diskOf_1 ?_
  refine g_iconst (pc := 4) (v := 1) dX6_diskOf_4 (by decide) ?_
  refine g_icmp_ge (pc := 5) (tgt := 10) dX6_diskOf_5 (by decide) (fun c11 => ?_) (fun c11 => ?_)
  · have h := g_ift c11 h
    refine g_iload_n (pc := 10) dX6_diskOf_10 rfl 1 rfl ?_
    refine g_aload_n (pc := 11) dX6_diskOf_11 rfl 0 rfl ?_
    refine g_getI (pc := 12) wfX6_7 rfl rfl dX6_diskOf_12 ?_
    refine g_icmp_lt (pc := 15) (tgt := 27) dX6_diskOf_15 (by decide) (fun c12 => ?_) (fun c12 => ?_)
    · have h := g_ift c12 h
      refine g_iload_n (pc := 27) dX6_diskOf_27 rfl 1 rfl ?_
      refine g_iconst (pc := 28) (v := 2) dX6_diskOf_28 (by decide) ?_
      refine g_iadd (pc := 29) dX6_diskOf_29 ?_
      exact g_lv [0, 2] rfl (tX6_diskOf_b30 hE v2 (v1 + 2) σ h)
    · have h := g_iff c12 h
      refine g_iload_n (pc := 18) dX6_diskOf_18 rfl 1 rfl ?_
      refine g_aload_n (pc := 19) dX6_diskOf_19 rfl 0 rfl ?_
      refine g_getI (pc := 20) wfX6_7 rfl rfl dX6_diskOf_20 ?_
      refine g_isub (pc := 23) dX6_diskOf_23 ?_
      refine g_goto (pc := 24) (tgt := 30) dX6_diskOf_24 (by decide) ?_
      exact g_lv [0, 2] rfl (tX6_diskOf_b30 hE v2 (v1 - (σ.1 5 0)) σ h)
  · have h := g_iff c11 h
    refine g_iconst (pc := 8) (v := 0) dX6_diskOf_8 (by decide) ?_
    cases h
    exact g_iret (pc := 9) rfl rfl rfl rfl dX6_diskOf_9
def fX9_get (i : Nat) (v1 : Int32) (σ : gM) : Option (Int32 × gM) := if v1 < 0 then (some (0, σ)) else (if 144 ≤ v1 then (some (0, σ)) else (if ¬ (v1 < 0 ∨ 144 ≤ v1.toNatClampNeg) then (some (σ.1 (11 + 5 * i) v1.toNatClampNeg, σ)) else none))
set_option maxRecDepth 100000 in
theorem kX9_get (hE : gEX l dC dI ad ca X) (i : Nat) (hi : i < 3)  (v1 : Int32) (σ : gM) {r0 : Int32} {σ' : gM} (h : fX9_get i v1 σ = some (r0, σ')) : g_C l dC dI ad ca shX X yX9_get cX9_get 2 (some .int) (gR 0) [.ref (10 + 5 * i), .int v1] σ (some (.int r0)) σ' := by
  refine g_entry (by decide +kernel) (Nat.le_of_ble_eq_true rfl) ?_
  refine g_lvE (lv1 := [(0, .ref (10 + 5 * i)), (1, .int v1)]) rfl ?_
  unfold fX9_get at h
  refine g_iload_n (pc := 0) dX9_get_0 rfl 1 rfl ?_
  refine g_if_lt (pc := 1) (tgt := 20) dX9_get_1 (by decide) (fun c4 => ?_) (fun c4 => ?_)
  · have h := g_ift c4 h
    refine g_iconst (pc := 20) (v := 0) dX9_get_20 (by decide) ?_
    cases h
    exact g_iret (pc := 21) rfl rfl rfl rfl dX9_get_21
  · have h := g_iff c4 h
    refine g_iload_n (pc := 4) dX9_get_4 rfl 1 rfl ?_
    refine g_sipush (pc := 5) (v := 144) dX9_get_5 (by decide) ?_
    refine g_icmp_ge (pc := 8) (tgt := 20) dX9_get_8 (by decide) (fun c5 => ?_) (fun c5 => ?_)
    · have h := g_ift c5 h
      refine g_iconst (pc := 20) (v := 0) dX9_get_20 (by decide) ?_
      cases h
      exact g_iret (pc := 21) rfl rfl rfl rfl dX9_get_21
    · have h := g_iff c5 h
      refine g_aload_n (pc := 11) dX9_get_11 rfl 0 rfl ?_
      refine g_getR (pc := 12) wfX9_11 (sX_state hi) rfl dX9_get_12 ?_
      refine g_iload_n (pc := 15) dX9_get_15 rfl 1 rfl ?_
      obtain ⟨c6, h⟩ := g_gd h
      refine g_iald (pc := 16) (sX_slots hi) c6 rfl dX9_get_16 ?_
      refine g_goto (pc := 17) (tgt := 21) dX9_get_17 (by decide) ?_
      cases h
      exact g_iret (pc := 21) rfl rfl rfl rfl dX9_get_21
def fJ6_bitCount_0f7a4 (v0 : Int32) (σ : gM) : Option (Int32 × gM) := some ((((((((v0 - ((g_us v0 1) &&& 1431655765)) &&& 858993459) + ((g_us (v0 - ((g_us v0 1) &&& 1431655765)) 2) &&& 858993459)) + (g_us (((v0 - ((g_us v0 1) &&& 1431655765)) &&& 858993459) + ((g_us (v0 - ((g_us v0 1) &&& 1431655765)) 2) &&& 858993459)) 4)) &&& 252645135) + (g_us (((((v0 - ((g_us v0 1) &&& 1431655765)) &&& 858993459) + ((g_us (v0 - ((g_us v0 1) &&& 1431655765)) 2) &&& 858993459)) + (g_us (((v0 - ((g_us v0 1) &&& 1431655765)) &&& 858993459) + ((g_us (v0 - ((g_us v0 1) &&& 1431655765)) 2) &&& 858993459)) 4)) &&& 252645135) 8)) + (g_us ((((((v0 - ((g_us v0 1) &&& 1431655765)) &&& 858993459) + ((g_us (v0 - ((g_us v0 1) &&& 1431655765)) 2) &&& 858993459)) + (g_us (((v0 - ((g_us v0 1) &&& 1431655765)) &&& 858993459) + ((g_us (v0 - ((g_us v0 1) &&& 1431655765)) 2) &&& 858993459)) 4)) &&& 252645135) + (g_us (((((v0 - ((g_us v0 1) &&& 1431655765)) &&& 858993459) + ((g_us (v0 - ((g_us v0 1) &&& 1431655765)) 2) &&& 858993459)) + (g_us (((v0 - ((g_us v0 1) &&& 1431655765)) &&& 858993459) + ((g_us (v0 - ((g_us v0 1) &&& 1431655765)) 2) &&& 858993459)) 4)) &&& 252645135) 8)) 16)) &&& 63, σ)
set_option maxRecDepth 100000 in
theorem kJ6_bitCount_0f7a4 (hE : gEX l dC dI ad ca X)  (v0 : Int32) (σ : gM) {r0 : Int32} {σ' : gM} (h : fJ6_bitCount_0f7a4 v0 σ = some (r0, σ')) : g_C l dC dI ad ca shX X yJ6_bitCount_0f7a4 cJ6_bitCount_0f7a4 1 (some .int) (gR 0) [.int v0] σ (some (.int r0)) σ' := by
  refine g_entry (by decide +kernel) (Nat.le_of_ble_eq_true rfl) ?_
  refine g_lvE (lv1 := [(0, .int v0)]) rfl ?_
  unfold fJ6_bitCount_0f7a4 at h
  refine g_iload_n (pc := 0) dJ6_bitCount_0f7a4_0 rfl 0 rfl ?_
  refine g_iload_n (pc := 1) dJ6_bitCount_0f7a4_1 rfl 0 rfl ?_
  refine g_iconst (pc := 2) (v := 1) dJ6_bitCount_0f7a4_2 (by decide) ?_
  refine g_iushr (pc := 3) dJ6_bitCount_0f7a4_3 ?_
  refine g_ldcw (pc := 4) wkJ6_265 dJ6_bitCount_0f7a4_4 ?_
  refine g_iand (pc := 7) dJ6_bitCount_0f7a4_7 ?_
  refine g_isub (pc := 8) dJ6_bitCount_0f7a4_8 ?_
  refine g_istore_n (pc := 9) (lv1 := [(0, .int (v0 - ((g_us v0 1) &&& 1431655765)))]) dJ6_bitCount_0f7a4_9 rfl (by decide) rfl ?_
  refine g_iload_n (pc := 10) dJ6_bitCount_0f7a4_10 rfl 0 rfl ?_
  refine g_ldcw (pc := 11) wkJ6_266 dJ6_bitCount_0f7a4_11 ?_
  refine g_iand (pc := 14) dJ6_bitCount_0f7a4_14 ?_
  refine g_iload_n (pc := 15) dJ6_bitCount_0f7a4_15 rfl 0 rfl ?_
  refine g_iconst (pc := 16) (v := 2) dJ6_bitCount_0f7a4_16 (by decide) ?_
  refine g_iushr (pc := 17) dJ6_bitCount_0f7a4_17 ?_
  refine g_ldcw (pc := 18) wkJ6_266 dJ6_bitCount_0f7a4_18 ?_
  refine g_iand (pc := 21) dJ6_bitCount_0f7a4_21 ?_
  refine g_iadd (pc := 22) dJ6_bitCount_0f7a4_22 ?_
  refine g_istore_n (pc := 23) (lv1 := [(0, .int (((v0 - ((g_us v0 1) &&& 1431655765)) &&& 858993459) + ((g_us (v0 - ((g_us v0 1) &&& 1431655765)) 2) &&& 858993459)))]) dJ6_bitCount_0f7a4_23 rfl (by decide) rfl ?_
  refine g_iload_n (pc := 24) dJ6_bitCount_0f7a4_24 rfl 0 rfl ?_
  refine g_iload_n (pc := 25) dJ6_bitCount_0f7a4_25 rfl 0 rfl ?_
  refine g_iconst (pc := 26) (v := 4) dJ6_bitCount_0f7a4_26 (by decide) ?_
  refine g_iushr (pc := 27) dJ6_bitCount_0f7a4_27 ?_
  refine g_iadd (pc := 28) dJ6_bitCount_0f7a4_28 ?_
  refine g_ldcw (pc := 29) wkJ6_267 dJ6_bitCount_0f7a4_29 ?_
  refine g_iand (pc := 32) dJ6_bitCount_0f7a4_32 ?_
  refine g_istore_n (pc := 33) (lv1 := [(0, .int (((((v0 - ((g_us v0 1) &&& 1431655765)) &&& 858993459) + ((g_us (v0 - ((g_us v0 1) &&& 1431655765)) 2) &&& 858993459)) + (g_us (((v0 - ((g_us v0 1) &&& 1431655765)) &&& 858993459) + ((g_us (v0 - ((g_us v0 1) &&& 1431655765)) 2) &&& 858993459)) 4)) &&& 252645135))]) dJ6_bitCount_0f7a4_33 rfl (by decide) rfl ?_
  refine g_iload_n (pc := 34) dJ6_bitCount_0f7a4_34 rfl 0 rfl ?_
  refine g_iload_n (pc := 35) dJ6_bitCount_0f7a4_35 rfl 0 rfl ?_
  refine g_bipush (pc := 36) (v := 8) dJ6_bitCount_0f7a4_36 (by decide) ?_
  refine g_iushr (pc := 38) dJ6_bitCount_0f7a4_38 ?_
  refine g_iadd (pc := 39) dJ6_bitCount_0f7a4_39 ?_
  refine g_istore_n (pc := 40) (lv1 := [(0, .int ((((((v0 - ((g_us v0 1) &&& 1431655765)) &&& 858993459) + ((g_us (v0 - ((g_us v0 1) &&& 1431655765)) 2) &&& 858993459)) + (g_us (((v0 - ((g_us v0 1) &&& 1431655765)) &&& 858993459) + ((g_us (v0 - ((g_us v0 1) &&& 1431655765)) 2) &&& 858993459)) 4)) &&& 252645135) + (g_us (((((v0 - ((g_us v0 1) &&& 1431655765)) &&& 858993459) + ((g_us (v0 - ((g_us v0 1) &&& 1431655765)) 2) &&& 858993459)) + (g_us (((v0 - ((g_us v0 1) &&& 1431655765)) &&& 858993459) + ((g_us (v0 - ((g_us v0 1) &&& 1431655765)) 2) &&& 858993459)) 4)) &&& 252645135) 8)))]) dJ6_bitCount_0f7a4_40 rfl (by decide) rfl ?_
  refine g_iload_n (pc := 41) dJ6_bitCount_0f7a4_41 rfl 0 rfl ?_
  refine g_iload_n (pc := 42) dJ6_bitCount_0f7a4_42 rfl 0 rfl ?_
  refine g_bipush (pc := 43) (v := 16) dJ6_bitCount_0f7a4_43 (by decide) ?_
  refine g_iushr (pc := 45) dJ6_bitCount_0f7a4_45 ?_
  refine g_iadd (pc := 46) dJ6_bitCount_0f7a4_46 ?_
  refine g_istore_n (pc := 47) (lv1 := [(0, .int (((((((v0 - ((g_us v0 1) &&& 1431655765)) &&& 858993459) + ((g_us (v0 - ((g_us v0 1) &&& 1431655765)) 2) &&& 858993459)) + (g_us (((v0 - ((g_us v0 1) &&& 1431655765)) &&& 858993459) + ((g_us (v0 - ((g_us v0 1) &&& 1431655765)) 2) &&& 858993459)) 4)) &&& 252645135) + (g_us (((((v0 - ((g_us v0 1) &&& 1431655765)) &&& 858993459) + ((g_us (v0 - ((g_us v0 1) &&& 1431655765)) 2) &&& 858993459)) + (g_us (((v0 - ((g_us v0 1) &&& 1431655765)) &&& 858993459) + ((g_us (v0 - ((g_us v0 1) &&& 1431655765)) 2) &&& 858993459)) 4)) &&& 252645135) 8)) + (g_us ((((((v0 - ((g_us v0 1) &&& 1431655765)) &&& 858993459) + ((g_us (v0 - ((g_us v0 1) &&& 1431655765)) 2) &&& 858993459)) + (g_us (((v0 - ((g_us v0 1) &&& 1431655765)) &&& 858993459) + ((g_us (v0 - ((g_us v0 1) &&& 1431655765)) 2) &&& 858993459)) 4)) &&& 252645135) + (g_us (((((v0 - ((g_us v0 1) &&& 1431655765)) &&& 858993459) + ((g_us (v0 - ((g_us v0 1) &&& 1431655765)) 2) &&& 858993459)) + (g_us (((v0 - ((g_us v0 1) &&& 1431655765)) &&& 858993459) + ((g_us (v0 - ((g_us v0 1) &&& 1431655765)) 2) &&& 858993459)) 4)) &&& 252645135) 8)) 16)))]) dJ6_bitCount_0f7a4_47 rfl (by decide) rfl ?_
  refine g_iload_n (pc := 48) dJ6_bitCount_0f7a4_48 rfl 0 rfl ?_
  refine g_bipush (pc := 49) (v := 63) dJ6_bitCount_0f7a4_49 (by decide) ?_
  refine g_iand (pc := 51) dJ6_bitCount_0f7a4_51 ?_
  cases h
  exact g_iret (pc := 52) rfl rfl rfl rfl dJ6_bitCount_0f7a4_52
def fX6_partOn (v1 : Int32) (v2 : Int32) (σ : gM) : Option (Int32 × gM) := if 1 ≤ (σ.1 5 5) then (if (σ.1 5 5) = 0 then none else (g_bI (fJ9_floorMod_7cf53 (v1 - (((σ.1 5 5) - 1) - (v2 - v2 / (σ.1 5 5) * (σ.1 5 5)))) (σ.1 5 5) σ) (fun r11 σ10 => if 2 ≤ r11 then (some (r11 - 2, σ10)) else (some ((σ10.1 5 0) + r11, σ10))))) else (some (0, σ))
set_option maxRecDepth 100000 in
theorem kX6_partOn (hE : gEX l dC dI ad ca X)  (v1 : Int32) (v2 : Int32) (σ : gM) {r0 : Int32} {σ' : gM} (h : fX6_partOn v1 v2 σ = some (r0, σ')) : g_C l dC dI ad ca shX X yX6_partOn cX6_partOn 4 (some .int) (gR 1) [.ref 5, .int v1, .int v2] σ (some (.int r0)) σ' := by
  refine g_entry (by decide +kernel) (Nat.le_of_ble_eq_true rfl) ?_
  refine g_lvE (lv1 := [(0, .ref 5), (1, .int v1), (2, .int v2)]) rfl ?_
  unfold fX6_partOn at h
  refine g_aload_n (pc := 0) dX6_partOn_0 rfl 0 rfl ?_
  refine g_getI (pc := 1) wfX6_25 rfl rfl dX6_partOn_1 ?_
  refine g_iconst (pc := 4) (v := 1) dX6_partOn_4 (by decide) ?_
  refine g_icmp_ge (pc := 5) (tgt := 10) dX6_partOn_5 (by decide) (fun c7 => ?_) (fun c7 => ?_)
  · have h := g_ift c7 h
    refine g_iload_n (pc := 10) dX6_partOn_10 rfl 1 rfl ?_
    refine g_aload_n (pc := 11) dX6_partOn_11 rfl 0 rfl ?_
    refine g_getI (pc := 12) wfX6_25 rfl rfl dX6_partOn_12 ?_
    refine g_iconst (pc := 15) (v := 1) dX6_partOn_15 (by decide) ?_
    refine g_isub (pc := 16) dX6_partOn_16 ?_
    refine g_iload_n (pc := 17) dX6_partOn_17 rfl 2 rfl ?_
    refine g_aload_n (pc := 18) dX6_partOn_18 rfl 0 rfl ?_
    refine g_getI (pc := 19) wfX6_25 rfl rfl dX6_partOn_19 ?_
    obtain ⟨c8, h⟩ := g_gn h
    refine g_irem (pc := 22) dX6_partOn_22 c8 ?_
    refine g_isub (pc := 23) dX6_partOn_23 ?_
    refine g_isub (pc := 24) dX6_partOn_24 ?_
    refine g_aload_n (pc := 25) dX6_partOn_25 rfl 0 rfl ?_
    refine g_getI (pc := 26) wfX6_25 rfl rfl dX6_partOn_26 ?_
    obtain ⟨r11, σ10, h9, h⟩ := g_bId h
    refine g_callSi (pc := 29) (st := []) hE.1 wsX6_60 (kJ9_floorMod_7cf53 hE (v1 - (((σ.1 5 5) - 1) - (v2 - v2 / (σ.1 5 5) * (σ.1 5 5)))) (σ.1 5 5) σ h9) rfl (gR_ok (by decide) (by decide)) (Nat.le_of_ble_eq_true rfl) rfl dX6_partOn_29 ?_
    refine g_istore_n (pc := 32) (lv1 := [(3, .int r11), (0, .ref 5), (1, .int v1), (2, .int v2)]) dX6_partOn_32 rfl (by decide) rfl ?_
    refine g_iload_n (pc := 33) dX6_partOn_33 rfl 0 rfl ?_
    refine g_iconst (pc := 34) (v := 2) dX6_partOn_34 (by decide) ?_
    refine g_icmp_ge (pc := 35) (tgt := 47) dX6_partOn_35 (by decide) (fun c12 => ?_) (fun c12 => ?_)
    · have h := g_ift c12 h
      refine g_iload_n (pc := 47) dX6_partOn_47 rfl 0 rfl ?_
      refine g_iconst (pc := 48) (v := 2) dX6_partOn_48 (by decide) ?_
      refine g_isub (pc := 49) dX6_partOn_49 ?_
      cases h
      exact g_iret (pc := 50) rfl rfl rfl rfl dX6_partOn_50
    · have h := g_iff c12 h
      refine g_aload_n (pc := 38) dX6_partOn_38 rfl 1 rfl ?_
      refine g_getI (pc := 39) wfX6_7 rfl rfl dX6_partOn_39 ?_
      refine g_iload_n (pc := 42) dX6_partOn_42 rfl 0 rfl ?_
      refine g_iadd (pc := 43) dX6_partOn_43 ?_
      refine g_goto (pc := 44) (tgt := 50) dX6_partOn_44 (by decide) ?_
      cases h
      exact g_iret (pc := 50) rfl rfl rfl rfl dX6_partOn_50
  · have h := g_iff c7 h
    refine g_iconst (pc := 8) (v := 0) dX6_partOn_8 (by decide) ?_
    cases h
    exact g_iret (pc := 9) rfl rfl rfl rfl dX6_partOn_9
def fX9_byteAt (i : Nat) (v1 : Int32) (v2 : Int32) (v3 : Int32) (σ : gM) : Option (Int32 × gM) := if ((v1 * 12) + v2) < 0 then (some (0, σ)) else (if 96 ≤ ((v1 * 12) + v2) then (some (0, σ)) else (if v3 < 0 then (some (0, σ)) else (if 4 ≤ v3 then (some (0, σ)) else (if ¬ (((v1 * 12) + v2) < 0 ∨ 144 ≤ ((v1 * 12) + v2).toNatClampNeg) then (some ((g_us (σ.1 (11 + 5 * i) (((v1 * 12) + v2).toNatClampNeg)) (8 * v3)) &&& 255, σ)) else none))))
set_option maxRecDepth 100000 in
theorem kX9_byteAt (hE : gEX l dC dI ad ca X) (i : Nat) (hi : i < 3)  (v1 : Int32) (v2 : Int32) (v3 : Int32) (σ : gM) {r0 : Int32} {σ' : gM} (h : fX9_byteAt i v1 v2 v3 σ = some (r0, σ')) : g_C l dC dI ad ca shX X yX9_byteAt cX9_byteAt 5 (some .int) (gR 0) [.ref (10 + 5 * i), .int v1, .int v2, .int v3] σ (some (.int r0)) σ' := by
  refine g_entry (by decide +kernel) (Nat.le_of_ble_eq_true rfl) ?_
  refine g_lvE (lv1 := [(0, .ref (10 + 5 * i)), (1, .int v1), (2, .int v2), (3, .int v3)]) rfl ?_
  unfold fX9_byteAt at h
  refine g_iload_n (pc := 0) dX9_byteAt_0 rfl 1 rfl ?_
  refine g_bipush (pc := 1) (v := 12) dX9_byteAt_1 (by decide) ?_
  refine g_imul (pc := 3) dX9_byteAt_3 ?_
  refine g_iload_n (pc := 4) dX9_byteAt_4 rfl 2 rfl ?_
  refine g_iadd (pc := 5) dX9_byteAt_5 ?_
  refine g_istore (pc := 6) (lv1 := [(4, .int ((v1 * 12) + v2)), (0, .ref (10 + 5 * i)), (1, .int v1), (2, .int v2), (3, .int v3)]) dX9_byteAt_6 (by decide) rfl ?_
  refine g_iload (pc := 8) dX9_byteAt_8 0 rfl ?_
  refine g_if_lt (pc := 10) (tgt := 48) dX9_byteAt_10 (by decide) (fun c6 => ?_) (fun c6 => ?_)
  · have h := g_ift c6 h
    refine g_iconst (pc := 48) (v := 0) dX9_byteAt_48 (by decide) ?_
    cases h
    exact g_iret (pc := 49) rfl rfl rfl rfl dX9_byteAt_49
  · have h := g_iff c6 h
    refine g_iload (pc := 13) dX9_byteAt_13 0 rfl ?_
    refine g_bipush (pc := 15) (v := 96) dX9_byteAt_15 (by decide) ?_
    refine g_icmp_ge (pc := 17) (tgt := 48) dX9_byteAt_17 (by decide) (fun c7 => ?_) (fun c7 => ?_)
    · have h := g_ift c7 h
      refine g_iconst (pc := 48) (v := 0) dX9_byteAt_48 (by decide) ?_
      cases h
      exact g_iret (pc := 49) rfl rfl rfl rfl dX9_byteAt_49
    · have h := g_iff c7 h
      refine g_iload_n (pc := 20) dX9_byteAt_20 rfl 4 rfl ?_
      refine g_if_lt (pc := 21) (tgt := 48) dX9_byteAt_21 (by decide) (fun c8 => ?_) (fun c8 => ?_)
      · have h := g_ift c8 h
        refine g_iconst (pc := 48) (v := 0) dX9_byteAt_48 (by decide) ?_
        cases h
        exact g_iret (pc := 49) rfl rfl rfl rfl dX9_byteAt_49
      · have h := g_iff c8 h
        refine g_iload_n (pc := 24) dX9_byteAt_24 rfl 4 rfl ?_
        refine g_iconst (pc := 25) (v := 4) dX9_byteAt_25 (by decide) ?_
        refine g_icmp_ge (pc := 26) (tgt := 48) dX9_byteAt_26 (by decide) (fun c9 => ?_) (fun c9 => ?_)
        · have h := g_ift c9 h
          refine g_iconst (pc := 48) (v := 0) dX9_byteAt_48 (by decide) ?_
          cases h
          exact g_iret (pc := 49) rfl rfl rfl rfl dX9_byteAt_49
        · have h := g_iff c9 h
          refine g_aload_n (pc := 29) dX9_byteAt_29 rfl 1 rfl ?_
          refine g_getR (pc := 30) wfX9_11 (sX_state hi) rfl dX9_byteAt_30 ?_
          refine g_iload (pc := 33) dX9_byteAt_33 0 rfl ?_
          obtain ⟨c10, h⟩ := g_gd h
          refine g_iald (pc := 35) (sX_slots hi) c10 rfl dX9_byteAt_35 ?_
          refine g_bipush (pc := 36) (v := 8) dX9_byteAt_36 (by decide) ?_
          refine g_iload_n (pc := 38) dX9_byteAt_38 rfl 4 rfl ?_
          refine g_imul (pc := 39) dX9_byteAt_39 ?_
          refine g_iushr (pc := 40) dX9_byteAt_40 ?_
          refine g_sipush (pc := 41) (v := 255) dX9_byteAt_41 (by decide) ?_
          refine g_iand (pc := 44) dX9_byteAt_44 ?_
          refine g_goto (pc := 45) (tgt := 49) dX9_byteAt_45 (by decide) ?_
          cases h
          exact g_iret (pc := 49) rfl rfl rfl rfl dX9_byteAt_49
def fX5_load_b73 (n : Nat) (i : Nat) (j : Nat) (K3 : Int32 → Int32 → Int32 → Int32 → gM → Option (gM)) (v2 : Int32) (v3 : Int32) (v4 : Int32) (v5 : Int32) (s0 : Int32) (s1 : Int32) (σ : gM) : Option (gM) := if ¬ (s1 < 0 ∨ 8 ≤ s1.toNatClampNeg) then (g_let (g_put σ (13 + 5 * i) s1.toNatClampNeg s0) (fun σ15 => K3 v2 v3 v4 (v5 + 1) σ15)) else none
set_option maxRecDepth 100000 in
theorem tX5_load_b73 (hE : gEX l dC dI ad ca X) {σ' : gM} (n : Nat) (i : Nat) (hi : i < 3) (j : Nat) (hj : j < 3) (K3 : Int32 → Int32 → Int32 → Int32 → gM → Option (gM)) (hK3 : ∀ (v2 : Int32) (v3 : Int32) (v4 : Int32) (v5 : Int32) (σ : gM), K3 v2 v3 v4 v5 σ = some σ' → g_G l dC dI ad ca shX X cX5_load 7 RX5 none (gR 2) none σ' 3 [(0, .ref (12 + 5 * i)), (1, .ref (10 + 5 * j)), (2, .int v2), (3, .int v3), (4, .int v4), (5, .int v5)] [] σ) (v2 : Int32) (v3 : Int32) (v4 : Int32) (v5 : Int32) (s0 : Int32) (s1 : Int32)  (σ : gM) (h : fX5_load_b73 n i j K3 v2 v3 v4 v5 s0 s1 σ = some σ') : g_G l dC dI ad ca shX X cX5_load 7 RX5 none (gR 2) none σ' 73 [(0, .ref (12 + 5 * i)), (1, .ref (10 + 5 * j)), (2, .int v2), (3, .int v3), (4, .int v4), (5, .int v5)] [.int s0, .int s1, .ref (13 + 5 * i)] σ := by
  unfold fX5_load_b73 at h
  obtain ⟨c14, h⟩ := g_gd h
  obtain ⟨σ15, e16, h⟩ := g_ltd h
  refine g_iast (pc := 73) (sX_rb hi) c14 rfl e16 dX5_load_73 ?_
  refine g_iinc (pc := 74) (v := v5 + 1) (lv1 := [(5, .int (v5 + 1)), (0, .ref (12 + 5 * i)), (1, .ref (10 + 5 * j)), (2, .int v2), (3, .int v3), (4, .int v4)]) dX5_load_74 5 rfl rfl (by decide) rfl ?_
  refine g_goto (pc := 77) (tgt := 3) dX5_load_77 (by decide) ?_
  exact g_lv [1, 2, 3, 4, 5, 0] rfl (hK3 v2 v3 v4 (v5 + 1) σ15 h)
def fX5_load_b40 (n : Nat) (i : Nat) (j : Nat) (K3 : Int32 → Int32 → Int32 → Int32 → gM → Option (gM)) (v2 : Int32) (v3 : Int32) (v4 : Int32) (v5 : Int32) (s0 : Int32) (σ : gM) : Option (gM) := if s0 = 0 then (fX5_load_b73 n i j K3 v2 v3 v4 v5 0 v5 σ) else (g_bI (fX6_diskOf v5 v2 σ) (fun r20 σ19 => g_bI (fX9_byteAt j r20 v2 v3 σ19) (fun r23 σ22 => fX5_load_b73 n i j K3 v2 v3 v4 v5 r23 v5 σ22)))
set_option maxRecDepth 100000 in
theorem tX5_load_b40 (hE : gEX l dC dI ad ca X) {σ' : gM} (n : Nat) (i : Nat) (hi : i < 3) (j : Nat) (hj : j < 3) (K3 : Int32 → Int32 → Int32 → Int32 → gM → Option (gM)) (hK3 : ∀ (v2 : Int32) (v3 : Int32) (v4 : Int32) (v5 : Int32) (σ : gM), K3 v2 v3 v4 v5 σ = some σ' → g_G l dC dI ad ca shX X cX5_load 7 RX5 none (gR 2) none σ' 3 [(0, .ref (12 + 5 * i)), (1, .ref (10 + 5 * j)), (2, .int v2), (3, .int v3), (4, .int v4), (5, .int v5)] [] σ) (v2 : Int32) (v3 : Int32) (v4 : Int32) (v5 : Int32) (s0 : Int32)  (σ : gM) (h : fX5_load_b40 n i j K3 v2 v3 v4 v5 s0 σ = some σ') : g_G l dC dI ad ca shX X cX5_load 7 RX5 none (gR 2) none σ' 40 [(0, .ref (12 + 5 * i)), (1, .ref (10 + 5 * j)), (2, .int v2), (3, .int v3), (4, .int v4), (5, .int v5)] [.int s0] σ := by
  unfold fX5_load_b40 at h
  refine g_istore (pc := 40) (lv1 := [(6, .int s0), (0, .ref (12 + 5 * i)), (1, .ref (10 + 5 * j)), (2, .int v2), (3, .int v3), (4, .int v4), (5, .int v5)]) dX5_load_40 (by decide) rfl ?_
  refine g_aload_n (pc := 42) dX5_load_42 rfl 1 rfl ?_
  refine g_getR (pc := 43) wfX5_11 (sX_row hi) rfl dX5_load_43 ?_
  refine g_iload (pc := 46) dX5_load_46 6 rfl ?_
  refine g_iload (pc := 48) dX5_load_48 0 rfl ?_
  refine g_if_eq (pc := 50) (tgt := 72) dX5_load_50 (by decide) (fun c17 => ?_) (fun c17 => ?_)
  · have h := g_ift c17 h
    refine g_iconst (pc := 72) (v := 0) dX5_load_72 (by decide) ?_
    exact g_lv [1, 2, 3, 4, 5, 6] rfl (tX5_load_b73 hE n i hi j hj K3 hK3 v2 v3 v4 v5 0 v5 σ h)
  · have h := g_iff c17 h
    refine g_aload_n (pc := 53) dX5_load_53 rfl 2 rfl ?_
    refine g_aload_n (pc := 54) dX5_load_54 rfl 1 rfl ?_
    refine g_getR (pc := 55) wfX5_17 (sX_row hi) rfl dX5_load_55 ?_
    refine g_iload (pc := 58) dX5_load_58 6 rfl ?_
    refine g_iload_n (pc := 60) dX5_load_60 rfl 3 rfl ?_
    obtain ⟨r20, σ19, h18, h⟩ := g_bId h
    refine g_callVi (pc := 61) (st := [.ref (10 + 5 * j), .int v5, .ref (13 + 5 * i)]) hE.1 wvX5_31 rfl rfl (kX6_diskOf hE v5 v2 σ h18) rfl (gR_ok (by decide) (by decide)) (Nat.le_of_ble_eq_true rfl) rfl dX5_load_61 ?_
    refine g_iload_n (pc := 64) dX5_load_64 rfl 3 rfl ?_
    refine g_iload_n (pc := 65) dX5_load_65 rfl 4 rfl ?_
    obtain ⟨r23, σ22, h21, h⟩ := g_bId h
    refine g_callVi (pc := 66) (st := [.int v5, .ref (13 + 5 * i)]) hE.1 wvX5_35 (sX_state hj) rfl (kX9_byteAt hE j hj r20 v2 v3 σ19 h21) rfl (gR_ok (by decide) (by decide)) (Nat.le_of_ble_eq_true rfl) rfl dX5_load_66 ?_
    refine g_goto (pc := 69) (tgt := 73) dX5_load_69 (by decide) ?_
    exact g_lv [1, 2, 3, 4, 5, 6] rfl (tX5_load_b73 hE n i hi j hj K3 hK3 v2 v3 v4 v5 r23 v5 σ22 h)
def fX5_load_b3 (n : Nat) (i : Nat) (j : Nat) (K3 : Int32 → Int32 → Int32 → Int32 → gM → Option (gM)) (v2 : Int32) (v3 : Int32) (v4 : Int32) (v5 : Int32) (σ : gM) : Option (gM) := if (σ.1 5 5) ≤ v5 then (some σ) else (if 8 ≤ v5 then (some σ) else (if ((v4 >>> (v5 &&& 31)) &&& 1) = 0 then (fX5_load_b40 n i j K3 v2 v3 v4 v5 1 σ) else (fX5_load_b40 n i j K3 v2 v3 v4 v5 0 σ)))
set_option maxRecDepth 100000 in
theorem tX5_load_b3 (hE : gEX l dC dI ad ca X) {σ' : gM} (n : Nat) (i : Nat) (hi : i < 3) (j : Nat) (hj : j < 3) (K3 : Int32 → Int32 → Int32 → Int32 → gM → Option (gM)) (hK3 : ∀ (v2 : Int32) (v3 : Int32) (v4 : Int32) (v5 : Int32) (σ : gM), K3 v2 v3 v4 v5 σ = some σ' → g_G l dC dI ad ca shX X cX5_load 7 RX5 none (gR 2) none σ' 3 [(0, .ref (12 + 5 * i)), (1, .ref (10 + 5 * j)), (2, .int v2), (3, .int v3), (4, .int v4), (5, .int v5)] [] σ) (v2 : Int32) (v3 : Int32) (v4 : Int32) (v5 : Int32)  (σ : gM) (h : fX5_load_b3 n i j K3 v2 v3 v4 v5 σ = some σ') : g_G l dC dI ad ca shX X cX5_load 7 RX5 none (gR 2) none σ' 3 [(0, .ref (12 + 5 * i)), (1, .ref (10 + 5 * j)), (2, .int v2), (3, .int v3), (4, .int v4), (5, .int v5)] [] σ := by
  unfold fX5_load_b3 at h
  refine g_iload (pc := 3) dX5_load_3 5 rfl ?_
  refine g_aload_n (pc := 5) dX5_load_5 rfl 0 rfl ?_
  refine g_getR (pc := 6) wfX5_17 (sX_row hi) rfl dX5_load_6 ?_
  refine g_getI (pc := 9) wfX5_25 rfl rfl dX5_load_9 ?_
  refine g_icmp_ge (pc := 12) (tgt := 80) dX5_load_12 (by decide) (fun c24 => ?_) (fun c24 => ?_)
  · have h := g_ift c24 h
    cases h
    exact g_vret (pc := 80) rfl rfl rfl dX5_load_80
  · have h := g_iff c24 h
    refine g_iload (pc := 15) dX5_load_15 5 rfl ?_
    refine g_aload_n (pc := 17) dX5_load_17 rfl 0 rfl ?_
    refine g_getR (pc := 18) wfX5_11 (sX_row hi) rfl dX5_load_18 ?_
    refine g_alen (pc := 21) (sX_rb hi) dX5_load_21 ?_
    refine g_icmp_ge (pc := 22) (tgt := 80) dX5_load_22 (by decide) (fun c25 => ?_) (fun c25 => ?_)
    · have h := g_ift c25 h
      cases h
      exact g_vret (pc := 80) rfl rfl rfl dX5_load_80
    · have h := g_iff c25 h
      refine g_iload (pc := 25) dX5_load_25 4 rfl ?_
      refine g_iload (pc := 27) dX5_load_27 5 rfl ?_
      refine g_ishr (pc := 29) dX5_load_29 ?_
      refine g_iconst (pc := 30) (v := 1) dX5_load_30 (by decide) ?_
      refine g_iand (pc := 31) dX5_load_31 ?_
      refine g_if_ne (pc := 32) (tgt := 39) dX5_load_32 (by decide) (fun c26 => ?_) (fun c26 => ?_)
      · have h := g_iff c26 h
        refine g_iconst (pc := 39) (v := 0) dX5_load_39 (by decide) ?_
        exact g_lv [0, 1, 2, 3, 4, 5] rfl (tX5_load_b40 hE n i hi j hj K3 hK3 v2 v3 v4 v5 0 σ h)
      · have h := g_ift c26 h
        refine g_iconst (pc := 35) (v := 1) dX5_load_35 (by decide) ?_
        refine g_goto (pc := 36) (tgt := 40) dX5_load_36 (by decide) ?_
        exact g_lv [0, 1, 2, 3, 4, 5] rfl (tX5_load_b40 hE n i hi j hj K3 hK3 v2 v3 v4 v5 1 σ h)
def fX5_load_L3 (n : Nat) (i : Nat) (j : Nat) : Nat → Int32 → Int32 → Int32 → Int32 → gM → Option (gM)
  | 0 => fun _ _ _ _ _ => none
  | k + 1 => fX5_load_b3 n i j (fX5_load_L3 n i j k)
theorem tX5_load_L3 (hE : gEX l dC dI ad ca X) {σ' : gM} (n : Nat) (i : Nat) (hi : i < 3) (j : Nat) (hj : j < 3)  : ∀ (k : Nat) (v2 : Int32) (v3 : Int32) (v4 : Int32) (v5 : Int32) (σ : gM), fX5_load_L3 n i j k v2 v3 v4 v5 σ = some σ' → g_G l dC dI ad ca shX X cX5_load 7 RX5 none (gR 2) none σ' 3 [(0, .ref (12 + 5 * i)), (1, .ref (10 + 5 * j)), (2, .int v2), (3, .int v3), (4, .int v4), (5, .int v5)] [] σ := by
  intro k
  induction k with
  | zero => intro v2 v3 v4 v5 σ h; cases h
  | succ k ih => intro v2 v3 v4 v5 σ h; exact tX5_load_b3 hE n i hi j hj (fX5_load_L3 n i j k) ih v2 v3 v4 v5 σ h
def fX5_load (n : Nat) (i : Nat) (j : Nat) (v2 : Int32) (v3 : Int32) (v4 : Int32) (σ : gM) : Option (gM) := fX5_load_L3 n i j n v2 v3 v4 0 σ
set_option maxRecDepth 100000 in
theorem kX5_load (hE : gEX l dC dI ad ca X) (n : Nat) (i : Nat) (hi : i < 3) (j : Nat) (hj : j < 3)  (v2 : Int32) (v3 : Int32) (v4 : Int32) (σ : gM) {σ' : gM} (h : fX5_load n i j v2 v3 v4 σ = some σ') : g_C l dC dI ad ca shX X yX5_load cX5_load 7 none (gR 2) [.ref (12 + 5 * i), .ref (10 + 5 * j), .int v2, .int v3, .int v4] σ none σ' := by
  refine g_entry (by decide +kernel) (Nat.le_of_ble_eq_true rfl) ?_
  refine g_lvE (lv1 := [(0, .ref (12 + 5 * i)), (1, .ref (10 + 5 * j)), (2, .int v2), (3, .int v3), (4, .int v4)]) rfl ?_
  unfold fX5_load at h
  refine g_iconst (pc := 0) (v := 0) dX5_load_0 (by decide) ?_
  refine g_istore (pc := 1) (lv1 := [(5, .int 0), (0, .ref (12 + 5 * i)), (1, .ref (10 + 5 * j)), (2, .int v2), (3, .int v3), (4, .int v4)]) dX5_load_1 (by decide) rfl ?_
  exact g_lv [1, 2, 3, 4, 5, 0] rfl (tX5_load_L3 hE n i hi j hj n v2 v3 v4 0 σ h)
def fJ6_numberOfTrailingZeros_0f7a4_b74 (v0 : Int32) (v1 : Int32) (σ : gM) : Option (Int32 × gM) := some (v1 + (g_us v0 1), σ)
set_option maxRecDepth 100000 in
theorem tJ6_numberOfTrailingZeros_0f7a4_b74 (hE : gEX l dC dI ad ca X) {r0 : Int32} {σ' : gM} (v0 : Int32) (v1 : Int32)  (σ : gM) (h : fJ6_numberOfTrailingZeros_0f7a4_b74 v0 v1 σ = some (r0, σ')) : g_G l dC dI ad ca shX X cJ6_numberOfTrailingZeros_0f7a4 2 RJ6 (some .int) (gR 0) (some (.int r0)) σ' 74 [(0, .int v0), (1, .int v1)] [] σ := by
  unfold fJ6_numberOfTrailingZeros_0f7a4_b74 at h
  refine g_iload_n (pc := 74) dJ6_numberOfTrailingZeros_0f7a4_74 rfl 1 rfl ?_
  refine g_iload_n (pc := 75) dJ6_numberOfTrailingZeros_0f7a4_75 rfl 0 rfl ?_
  refine g_iconst (pc := 76) (v := 1) dJ6_numberOfTrailingZeros_0f7a4_76 (by decide) ?_
  refine g_iushr (pc := 77) dJ6_numberOfTrailingZeros_0f7a4_77 ?_
  refine g_iadd (pc := 78) dJ6_numberOfTrailingZeros_0f7a4_78 ?_
  cases h
  exact g_iret (pc := 79) rfl rfl rfl rfl dJ6_numberOfTrailingZeros_0f7a4_79
def fJ6_numberOfTrailingZeros_0f7a4_b62 (v0 : Int32) (v1 : Int32) (σ : gM) : Option (Int32 × gM) := if v0 ≤ 4 then (fJ6_numberOfTrailingZeros_0f7a4_b74 v0 v1 σ) else (fJ6_numberOfTrailingZeros_0f7a4_b74 (g_us v0 2) (v1 + 2) σ)
set_option maxRecDepth 100000 in
theorem tJ6_numberOfTrailingZeros_0f7a4_b62 (hE : gEX l dC dI ad ca X) {r0 : Int32} {σ' : gM} (v0 : Int32) (v1 : Int32)  (σ : gM) (h : fJ6_numberOfTrailingZeros_0f7a4_b62 v0 v1 σ = some (r0, σ')) : g_G l dC dI ad ca shX X cJ6_numberOfTrailingZeros_0f7a4 2 RJ6 (some .int) (gR 0) (some (.int r0)) σ' 62 [(0, .int v0), (1, .int v1)] [] σ := by
  unfold fJ6_numberOfTrailingZeros_0f7a4_b62 at h
  refine g_iload_n (pc := 62) dJ6_numberOfTrailingZeros_0f7a4_62 rfl 0 rfl ?_
  refine g_iconst (pc := 63) (v := 4) dJ6_numberOfTrailingZeros_0f7a4_63 (by decide) ?_
  refine g_icmp_le (pc := 64) (tgt := 74) dJ6_numberOfTrailingZeros_0f7a4_64 (by decide) (fun c6 => ?_) (fun c6 => ?_)
  · have h := g_ift c6 h
    exact g_lv [0, 1] rfl (tJ6_numberOfTrailingZeros_0f7a4_b74 hE v0 v1 σ h)
  · have h := g_iff c6 h
    refine g_iinc (pc := 67) (v := v1 + 2) (lv1 := [(1, .int (v1 + 2)), (0, .int v0)]) dJ6_numberOfTrailingZeros_0f7a4_67 1 rfl rfl (by decide) rfl ?_
    refine g_iload_n (pc := 70) dJ6_numberOfTrailingZeros_0f7a4_70 rfl 1 rfl ?_
    refine g_iconst (pc := 71) (v := 2) dJ6_numberOfTrailingZeros_0f7a4_71 (by decide) ?_
    refine g_iushr (pc := 72) dJ6_numberOfTrailingZeros_0f7a4_72 ?_
    refine g_istore_n (pc := 73) (lv1 := [(0, .int (g_us v0 2)), (1, .int (v1 + 2))]) dJ6_numberOfTrailingZeros_0f7a4_73 rfl (by decide) rfl ?_
    exact g_lv [0, 1] rfl (tJ6_numberOfTrailingZeros_0f7a4_b74 hE (g_us v0 2) (v1 + 2) σ h)
def fJ6_numberOfTrailingZeros_0f7a4_b49 (v0 : Int32) (v1 : Int32) (σ : gM) : Option (Int32 × gM) := if v0 ≤ 16 then (fJ6_numberOfTrailingZeros_0f7a4_b62 v0 v1 σ) else (fJ6_numberOfTrailingZeros_0f7a4_b62 (g_us v0 4) (v1 + 4) σ)
set_option maxRecDepth 100000 in
theorem tJ6_numberOfTrailingZeros_0f7a4_b49 (hE : gEX l dC dI ad ca X) {r0 : Int32} {σ' : gM} (v0 : Int32) (v1 : Int32)  (σ : gM) (h : fJ6_numberOfTrailingZeros_0f7a4_b49 v0 v1 σ = some (r0, σ')) : g_G l dC dI ad ca shX X cJ6_numberOfTrailingZeros_0f7a4 2 RJ6 (some .int) (gR 0) (some (.int r0)) σ' 49 [(0, .int v0), (1, .int v1)] [] σ := by
  unfold fJ6_numberOfTrailingZeros_0f7a4_b49 at h
  refine g_iload_n (pc := 49) dJ6_numberOfTrailingZeros_0f7a4_49 rfl 0 rfl ?_
  refine g_bipush (pc := 50) (v := 16) dJ6_numberOfTrailingZeros_0f7a4_50 (by decide) ?_
  refine g_icmp_le (pc := 52) (tgt := 62) dJ6_numberOfTrailingZeros_0f7a4_52 (by decide) (fun c7 => ?_) (fun c7 => ?_)
  · have h := g_ift c7 h
    exact g_lv [0, 1] rfl (tJ6_numberOfTrailingZeros_0f7a4_b62 hE v0 v1 σ h)
  · have h := g_iff c7 h
    refine g_iinc (pc := 55) (v := v1 + 4) (lv1 := [(1, .int (v1 + 4)), (0, .int v0)]) dJ6_numberOfTrailingZeros_0f7a4_55 1 rfl rfl (by decide) rfl ?_
    refine g_iload_n (pc := 58) dJ6_numberOfTrailingZeros_0f7a4_58 rfl 1 rfl ?_
    refine g_iconst (pc := 59) (v := 4) dJ6_numberOfTrailingZeros_0f7a4_59 (by decide) ?_
    refine g_iushr (pc := 60) dJ6_numberOfTrailingZeros_0f7a4_60 ?_
    refine g_istore_n (pc := 61) (lv1 := [(0, .int (g_us v0 4)), (1, .int (v1 + 4))]) dJ6_numberOfTrailingZeros_0f7a4_61 rfl (by decide) rfl ?_
    exact g_lv [0, 1] rfl (tJ6_numberOfTrailingZeros_0f7a4_b62 hE (g_us v0 4) (v1 + 4) σ h)
def fJ6_numberOfTrailingZeros_0f7a4_b34 (v0 : Int32) (v1 : Int32) (σ : gM) : Option (Int32 × gM) := if v0 ≤ 256 then (fJ6_numberOfTrailingZeros_0f7a4_b49 v0 v1 σ) else (fJ6_numberOfTrailingZeros_0f7a4_b49 (g_us v0 8) (v1 + 8) σ)
set_option maxRecDepth 100000 in
theorem tJ6_numberOfTrailingZeros_0f7a4_b34 (hE : gEX l dC dI ad ca X) {r0 : Int32} {σ' : gM} (v0 : Int32) (v1 : Int32)  (σ : gM) (h : fJ6_numberOfTrailingZeros_0f7a4_b34 v0 v1 σ = some (r0, σ')) : g_G l dC dI ad ca shX X cJ6_numberOfTrailingZeros_0f7a4 2 RJ6 (some .int) (gR 0) (some (.int r0)) σ' 34 [(0, .int v0), (1, .int v1)] [] σ := by
  unfold fJ6_numberOfTrailingZeros_0f7a4_b34 at h
  refine g_iload_n (pc := 34) dJ6_numberOfTrailingZeros_0f7a4_34 rfl 0 rfl ?_
  refine g_sipush (pc := 35) (v := 256) dJ6_numberOfTrailingZeros_0f7a4_35 (by decide) ?_
  refine g_icmp_le (pc := 38) (tgt := 49) dJ6_numberOfTrailingZeros_0f7a4_38 (by decide) (fun c8 => ?_) (fun c8 => ?_)
  · have h := g_ift c8 h
    exact g_lv [0, 1] rfl (tJ6_numberOfTrailingZeros_0f7a4_b49 hE v0 v1 σ h)
  · have h := g_iff c8 h
    refine g_iinc (pc := 41) (v := v1 + 8) (lv1 := [(1, .int (v1 + 8)), (0, .int v0)]) dJ6_numberOfTrailingZeros_0f7a4_41 1 rfl rfl (by decide) rfl ?_
    refine g_iload_n (pc := 44) dJ6_numberOfTrailingZeros_0f7a4_44 rfl 1 rfl ?_
    refine g_bipush (pc := 45) (v := 8) dJ6_numberOfTrailingZeros_0f7a4_45 (by decide) ?_
    refine g_iushr (pc := 47) dJ6_numberOfTrailingZeros_0f7a4_47 ?_
    refine g_istore_n (pc := 48) (lv1 := [(0, .int (g_us v0 8)), (1, .int (v1 + 8))]) dJ6_numberOfTrailingZeros_0f7a4_48 rfl (by decide) rfl ?_
    exact g_lv [0, 1] rfl (tJ6_numberOfTrailingZeros_0f7a4_b49 hE (g_us v0 8) (v1 + 8) σ h)
def fJ6_numberOfTrailingZeros_0f7a4 (v0 : Int32) (σ : gM) : Option (Int32 × gM) := if 0 < ((v0 ^^^ (-1)) &&& (v0 - 1)) then (if ((v0 ^^^ (-1)) &&& (v0 - 1)) ≤ 65536 then (fJ6_numberOfTrailingZeros_0f7a4_b34 ((v0 ^^^ (-1)) &&& (v0 - 1)) 1 σ) else (fJ6_numberOfTrailingZeros_0f7a4_b34 (g_us ((v0 ^^^ (-1)) &&& (v0 - 1)) 16) (1 + 16) σ)) else (some (((v0 ^^^ (-1)) &&& (v0 - 1)) &&& 32, σ))
set_option maxRecDepth 100000 in
theorem kJ6_numberOfTrailingZeros_0f7a4 (hE : gEX l dC dI ad ca X)  (v0 : Int32) (σ : gM) {r0 : Int32} {σ' : gM} (h : fJ6_numberOfTrailingZeros_0f7a4 v0 σ = some (r0, σ')) : g_C l dC dI ad ca shX X yJ6_numberOfTrailingZeros_0f7a4 cJ6_numberOfTrailingZeros_0f7a4 2 (some .int) (gR 0) [.int v0] σ (some (.int r0)) σ' := by
  refine g_entry (by decide +kernel) (Nat.le_of_ble_eq_true rfl) ?_
  refine g_lvE (lv1 := [(0, .int v0)]) rfl ?_
  unfold fJ6_numberOfTrailingZeros_0f7a4 at h
  refine g_iload_n (pc := 0) dJ6_numberOfTrailingZeros_0f7a4_0 rfl 0 rfl ?_
  refine g_iconst (pc := 1) (v := (-1)) dJ6_numberOfTrailingZeros_0f7a4_1 (by decide) ?_
  refine g_ixor (pc := 2) dJ6_numberOfTrailingZeros_0f7a4_2 ?_
  refine g_iload_n (pc := 3) dJ6_numberOfTrailingZeros_0f7a4_3 rfl 0 rfl ?_
  refine g_iconst (pc := 4) (v := 1) dJ6_numberOfTrailingZeros_0f7a4_4 (by decide) ?_
  refine g_isub (pc := 5) dJ6_numberOfTrailingZeros_0f7a4_5 ?_
  refine g_iand (pc := 6) dJ6_numberOfTrailingZeros_0f7a4_6 ?_
  refine g_istore_n (pc := 7) (lv1 := [(0, .int ((v0 ^^^ (-1)) &&& (v0 - 1)))]) dJ6_numberOfTrailingZeros_0f7a4_7 rfl (by decide) rfl ?_
  refine g_iload_n (pc := 8) dJ6_numberOfTrailingZeros_0f7a4_8 rfl 0 rfl ?_
  refine g_if_gt (pc := 9) (tgt := 17) dJ6_numberOfTrailingZeros_0f7a4_9 (by decide) (fun c9 => ?_) (fun c9 => ?_)
  · have h := g_ift c9 h
    refine g_iconst (pc := 17) (v := 1) dJ6_numberOfTrailingZeros_0f7a4_17 (by decide) ?_
    refine g_istore_n (pc := 18) (lv1 := [(1, .int 1), (0, .int ((v0 ^^^ (-1)) &&& (v0 - 1)))]) dJ6_numberOfTrailingZeros_0f7a4_18 rfl (by decide) rfl ?_
    refine g_iload_n (pc := 19) dJ6_numberOfTrailingZeros_0f7a4_19 rfl 1 rfl ?_
    refine g_ldcw (pc := 20) wkJ6_264 dJ6_numberOfTrailingZeros_0f7a4_20 ?_
    refine g_icmp_le (pc := 23) (tgt := 34) dJ6_numberOfTrailingZeros_0f7a4_23 (by decide) (fun c10 => ?_) (fun c10 => ?_)
    · have h := g_ift c10 h
      exact g_lv [1, 0] rfl (tJ6_numberOfTrailingZeros_0f7a4_b34 hE ((v0 ^^^ (-1)) &&& (v0 - 1)) 1 σ h)
    · have h := g_iff c10 h
      refine g_iinc (pc := 26) (v := 1 + 16) (lv1 := [(1, .int (1 + 16)), (0, .int ((v0 ^^^ (-1)) &&& (v0 - 1)))]) dJ6_numberOfTrailingZeros_0f7a4_26 0 rfl rfl (by decide) rfl ?_
      refine g_iload_n (pc := 29) dJ6_numberOfTrailingZeros_0f7a4_29 rfl 1 rfl ?_
      refine g_bipush (pc := 30) (v := 16) dJ6_numberOfTrailingZeros_0f7a4_30 (by decide) ?_
      refine g_iushr (pc := 32) dJ6_numberOfTrailingZeros_0f7a4_32 ?_
      refine g_istore_n (pc := 33) (lv1 := [(0, .int (g_us ((v0 ^^^ (-1)) &&& (v0 - 1)) 16)), (1, .int (1 + 16))]) dJ6_numberOfTrailingZeros_0f7a4_33 rfl (by decide) rfl ?_
      exact g_lv [0, 1] rfl (tJ6_numberOfTrailingZeros_0f7a4_b34 hE (g_us ((v0 ^^^ (-1)) &&& (v0 - 1)) 16) (1 + 16) σ h)
  · have h := g_iff c9 h
    refine g_iload_n (pc := 12) dJ6_numberOfTrailingZeros_0f7a4_12 rfl 0 rfl ?_
    refine g_bipush (pc := 13) (v := 32) dJ6_numberOfTrailingZeros_0f7a4_13 (by decide) ?_
    refine g_iand (pc := 15) dJ6_numberOfTrailingZeros_0f7a4_15 ?_
    cases h
    exact g_iret (pc := 16) rfl rfl rfl rfl dJ6_numberOfTrailingZeros_0f7a4_16
def fJ6_numberOfLeadingZeros_0f7a4_b73 (v0 : Int32) (v1 : Int32) (σ : gM) : Option (Int32 × gM) := some (v1 - (g_us v0 1), σ)
set_option maxRecDepth 100000 in
theorem tJ6_numberOfLeadingZeros_0f7a4_b73 (hE : gEX l dC dI ad ca X) {r0 : Int32} {σ' : gM} (v0 : Int32) (v1 : Int32)  (σ : gM) (h : fJ6_numberOfLeadingZeros_0f7a4_b73 v0 v1 σ = some (r0, σ')) : g_G l dC dI ad ca shX X cJ6_numberOfLeadingZeros_0f7a4 2 RJ6 (some .int) (gR 0) (some (.int r0)) σ' 73 [(0, .int v0), (1, .int v1)] [] σ := by
  unfold fJ6_numberOfLeadingZeros_0f7a4_b73 at h
  refine g_iload_n (pc := 73) dJ6_numberOfLeadingZeros_0f7a4_73 rfl 1 rfl ?_
  refine g_iload_n (pc := 74) dJ6_numberOfLeadingZeros_0f7a4_74 rfl 0 rfl ?_
  refine g_iconst (pc := 75) (v := 1) dJ6_numberOfLeadingZeros_0f7a4_75 (by decide) ?_
  refine g_iushr (pc := 76) dJ6_numberOfLeadingZeros_0f7a4_76 ?_
  refine g_isub (pc := 77) dJ6_numberOfLeadingZeros_0f7a4_77 ?_
  cases h
  exact g_iret (pc := 78) rfl rfl rfl rfl dJ6_numberOfLeadingZeros_0f7a4_78
def fJ6_numberOfLeadingZeros_0f7a4_b61 (v0 : Int32) (v1 : Int32) (σ : gM) : Option (Int32 × gM) := if v0 < 4 then (fJ6_numberOfLeadingZeros_0f7a4_b73 v0 v1 σ) else (fJ6_numberOfLeadingZeros_0f7a4_b73 (g_us v0 2) (v1 + (-2)) σ)
set_option maxRecDepth 100000 in
theorem tJ6_numberOfLeadingZeros_0f7a4_b61 (hE : gEX l dC dI ad ca X) {r0 : Int32} {σ' : gM} (v0 : Int32) (v1 : Int32)  (σ : gM) (h : fJ6_numberOfLeadingZeros_0f7a4_b61 v0 v1 σ = some (r0, σ')) : g_G l dC dI ad ca shX X cJ6_numberOfLeadingZeros_0f7a4 2 RJ6 (some .int) (gR 0) (some (.int r0)) σ' 61 [(0, .int v0), (1, .int v1)] [] σ := by
  unfold fJ6_numberOfLeadingZeros_0f7a4_b61 at h
  refine g_iload_n (pc := 61) dJ6_numberOfLeadingZeros_0f7a4_61 rfl 0 rfl ?_
  refine g_iconst (pc := 62) (v := 4) dJ6_numberOfLeadingZeros_0f7a4_62 (by decide) ?_
  refine g_icmp_lt (pc := 63) (tgt := 73) dJ6_numberOfLeadingZeros_0f7a4_63 (by decide) (fun c7 => ?_) (fun c7 => ?_)
  · have h := g_ift c7 h
    exact g_lv [0, 1] rfl (tJ6_numberOfLeadingZeros_0f7a4_b73 hE v0 v1 σ h)
  · have h := g_iff c7 h
    refine g_iinc (pc := 66) (v := v1 + (-2)) (lv1 := [(1, .int (v1 + (-2))), (0, .int v0)]) dJ6_numberOfLeadingZeros_0f7a4_66 1 rfl rfl (by decide) rfl ?_
    refine g_iload_n (pc := 69) dJ6_numberOfLeadingZeros_0f7a4_69 rfl 1 rfl ?_
    refine g_iconst (pc := 70) (v := 2) dJ6_numberOfLeadingZeros_0f7a4_70 (by decide) ?_
    refine g_iushr (pc := 71) dJ6_numberOfLeadingZeros_0f7a4_71 ?_
    refine g_istore_n (pc := 72) (lv1 := [(0, .int (g_us v0 2)), (1, .int (v1 + (-2)))]) dJ6_numberOfLeadingZeros_0f7a4_72 rfl (by decide) rfl ?_
    exact g_lv [0, 1] rfl (tJ6_numberOfLeadingZeros_0f7a4_b73 hE (g_us v0 2) (v1 + (-2)) σ h)
def fJ6_numberOfLeadingZeros_0f7a4_b48 (v0 : Int32) (v1 : Int32) (σ : gM) : Option (Int32 × gM) := if v0 < 16 then (fJ6_numberOfLeadingZeros_0f7a4_b61 v0 v1 σ) else (fJ6_numberOfLeadingZeros_0f7a4_b61 (g_us v0 4) (v1 + (-4)) σ)
set_option maxRecDepth 100000 in
theorem tJ6_numberOfLeadingZeros_0f7a4_b48 (hE : gEX l dC dI ad ca X) {r0 : Int32} {σ' : gM} (v0 : Int32) (v1 : Int32)  (σ : gM) (h : fJ6_numberOfLeadingZeros_0f7a4_b48 v0 v1 σ = some (r0, σ')) : g_G l dC dI ad ca shX X cJ6_numberOfLeadingZeros_0f7a4 2 RJ6 (some .int) (gR 0) (some (.int r0)) σ' 48 [(0, .int v0), (1, .int v1)] [] σ := by
  unfold fJ6_numberOfLeadingZeros_0f7a4_b48 at h
  refine g_iload_n (pc := 48) dJ6_numberOfLeadingZeros_0f7a4_48 rfl 0 rfl ?_
  refine g_bipush (pc := 49) (v := 16) dJ6_numberOfLeadingZeros_0f7a4_49 (by decide) ?_
  refine g_icmp_lt (pc := 51) (tgt := 61) dJ6_numberOfLeadingZeros_0f7a4_51 (by decide) (fun c8 => ?_) (fun c8 => ?_)
  · have h := g_ift c8 h
    exact g_lv [0, 1] rfl (tJ6_numberOfLeadingZeros_0f7a4_b61 hE v0 v1 σ h)
  · have h := g_iff c8 h
    refine g_iinc (pc := 54) (v := v1 + (-4)) (lv1 := [(1, .int (v1 + (-4))), (0, .int v0)]) dJ6_numberOfLeadingZeros_0f7a4_54 1 rfl rfl (by decide) rfl ?_
    refine g_iload_n (pc := 57) dJ6_numberOfLeadingZeros_0f7a4_57 rfl 1 rfl ?_
    refine g_iconst (pc := 58) (v := 4) dJ6_numberOfLeadingZeros_0f7a4_58 (by decide) ?_
    refine g_iushr (pc := 59) dJ6_numberOfLeadingZeros_0f7a4_59 ?_
    refine g_istore_n (pc := 60) (lv1 := [(0, .int (g_us v0 4)), (1, .int (v1 + (-4)))]) dJ6_numberOfLeadingZeros_0f7a4_60 rfl (by decide) rfl ?_
    exact g_lv [0, 1] rfl (tJ6_numberOfLeadingZeros_0f7a4_b61 hE (g_us v0 4) (v1 + (-4)) σ h)
def fJ6_numberOfLeadingZeros_0f7a4_b33 (v0 : Int32) (v1 : Int32) (σ : gM) : Option (Int32 × gM) := if v0 < 256 then (fJ6_numberOfLeadingZeros_0f7a4_b48 v0 v1 σ) else (fJ6_numberOfLeadingZeros_0f7a4_b48 (g_us v0 8) (v1 + (-8)) σ)
set_option maxRecDepth 100000 in
theorem tJ6_numberOfLeadingZeros_0f7a4_b33 (hE : gEX l dC dI ad ca X) {r0 : Int32} {σ' : gM} (v0 : Int32) (v1 : Int32)  (σ : gM) (h : fJ6_numberOfLeadingZeros_0f7a4_b33 v0 v1 σ = some (r0, σ')) : g_G l dC dI ad ca shX X cJ6_numberOfLeadingZeros_0f7a4 2 RJ6 (some .int) (gR 0) (some (.int r0)) σ' 33 [(0, .int v0), (1, .int v1)] [] σ := by
  unfold fJ6_numberOfLeadingZeros_0f7a4_b33 at h
  refine g_iload_n (pc := 33) dJ6_numberOfLeadingZeros_0f7a4_33 rfl 0 rfl ?_
  refine g_sipush (pc := 34) (v := 256) dJ6_numberOfLeadingZeros_0f7a4_34 (by decide) ?_
  refine g_icmp_lt (pc := 37) (tgt := 48) dJ6_numberOfLeadingZeros_0f7a4_37 (by decide) (fun c9 => ?_) (fun c9 => ?_)
  · have h := g_ift c9 h
    exact g_lv [0, 1] rfl (tJ6_numberOfLeadingZeros_0f7a4_b48 hE v0 v1 σ h)
  · have h := g_iff c9 h
    refine g_iinc (pc := 40) (v := v1 + (-8)) (lv1 := [(1, .int (v1 + (-8))), (0, .int v0)]) dJ6_numberOfLeadingZeros_0f7a4_40 1 rfl rfl (by decide) rfl ?_
    refine g_iload_n (pc := 43) dJ6_numberOfLeadingZeros_0f7a4_43 rfl 1 rfl ?_
    refine g_bipush (pc := 44) (v := 8) dJ6_numberOfLeadingZeros_0f7a4_44 (by decide) ?_
    refine g_iushr (pc := 46) dJ6_numberOfLeadingZeros_0f7a4_46 ?_
    refine g_istore_n (pc := 47) (lv1 := [(0, .int (g_us v0 8)), (1, .int (v1 + (-8)))]) dJ6_numberOfLeadingZeros_0f7a4_47 rfl (by decide) rfl ?_
    exact g_lv [0, 1] rfl (tJ6_numberOfLeadingZeros_0f7a4_b48 hE (g_us v0 8) (v1 + (-8)) σ h)
def fJ6_numberOfLeadingZeros_0f7a4 (v0 : Int32) (σ : gM) : Option (Int32 × gM) := if 0 < v0 then (if v0 < 65536 then (fJ6_numberOfLeadingZeros_0f7a4_b33 v0 31 σ) else (fJ6_numberOfLeadingZeros_0f7a4_b33 (g_us v0 16) (31 + (-16)) σ)) else (if v0 = 0 then (some (32, σ)) else (some (0, σ)))
set_option maxRecDepth 100000 in
theorem kJ6_numberOfLeadingZeros_0f7a4 (hE : gEX l dC dI ad ca X)  (v0 : Int32) (σ : gM) {r0 : Int32} {σ' : gM} (h : fJ6_numberOfLeadingZeros_0f7a4 v0 σ = some (r0, σ')) : g_C l dC dI ad ca shX X yJ6_numberOfLeadingZeros_0f7a4 cJ6_numberOfLeadingZeros_0f7a4 2 (some .int) (gR 0) [.int v0] σ (some (.int r0)) σ' := by
  refine g_entry (by decide +kernel) (Nat.le_of_ble_eq_true rfl) ?_
  refine g_lvE (lv1 := [(0, .int v0)]) rfl ?_
  unfold fJ6_numberOfLeadingZeros_0f7a4 at h
  refine g_iload_n (pc := 0) dJ6_numberOfLeadingZeros_0f7a4_0 rfl 0 rfl ?_
  refine g_if_gt (pc := 1) (tgt := 15) dJ6_numberOfLeadingZeros_0f7a4_1 (by decide) (fun c10 => ?_) (fun c10 => ?_)
  · have h := g_ift c10 h
    refine g_bipush (pc := 15) (v := 31) dJ6_numberOfLeadingZeros_0f7a4_15 (by decide) ?_
    refine g_istore_n (pc := 17) (lv1 := [(1, .int 31), (0, .int v0)]) dJ6_numberOfLeadingZeros_0f7a4_17 rfl (by decide) rfl ?_
    refine g_iload_n (pc := 18) dJ6_numberOfLeadingZeros_0f7a4_18 rfl 1 rfl ?_
    refine g_ldcw (pc := 19) wkJ6_264 dJ6_numberOfLeadingZeros_0f7a4_19 ?_
    refine g_icmp_lt (pc := 22) (tgt := 33) dJ6_numberOfLeadingZeros_0f7a4_22 (by decide) (fun c11 => ?_) (fun c11 => ?_)
    · have h := g_ift c11 h
      exact g_lv [1, 0] rfl (tJ6_numberOfLeadingZeros_0f7a4_b33 hE v0 31 σ h)
    · have h := g_iff c11 h
      refine g_iinc (pc := 25) (v := 31 + (-16)) (lv1 := [(1, .int (31 + (-16))), (0, .int v0)]) dJ6_numberOfLeadingZeros_0f7a4_25 0 rfl rfl (by decide) rfl ?_
      refine g_iload_n (pc := 28) dJ6_numberOfLeadingZeros_0f7a4_28 rfl 1 rfl ?_
      refine g_bipush (pc := 29) (v := 16) dJ6_numberOfLeadingZeros_0f7a4_29 (by decide) ?_
      refine g_iushr (pc := 31) dJ6_numberOfLeadingZeros_0f7a4_31 ?_
      refine g_istore_n (pc := 32) (lv1 := [(0, .int (g_us v0 16)), (1, .int (31 + (-16)))]) dJ6_numberOfLeadingZeros_0f7a4_32 rfl (by decide) rfl ?_
      exact g_lv [0, 1] rfl (tJ6_numberOfLeadingZeros_0f7a4_b33 hE (g_us v0 16) (31 + (-16)) σ h)
  · have h := g_iff c10 h
    refine g_iload_n (pc := 4) dJ6_numberOfLeadingZeros_0f7a4_4 rfl 0 rfl ?_
    refine g_if_ne (pc := 5) (tgt := 13) dJ6_numberOfLeadingZeros_0f7a4_5 (by decide) (fun c12 => ?_) (fun c12 => ?_)
    · have h := g_iff c12 h
      refine g_iconst (pc := 13) (v := 0) dJ6_numberOfLeadingZeros_0f7a4_13 (by decide) ?_
      cases h
      exact g_iret (pc := 14) rfl rfl rfl rfl dJ6_numberOfLeadingZeros_0f7a4_14
    · have h := g_ift c12 h
      refine g_bipush (pc := 8) (v := 32) dJ6_numberOfLeadingZeros_0f7a4_8 (by decide) ?_
      refine g_goto (pc := 10) (tgt := 14) dJ6_numberOfLeadingZeros_0f7a4_10 (by decide) ?_
      cases h
      exact g_iret (pc := 14) rfl rfl rfl rfl dJ6_numberOfLeadingZeros_0f7a4_14
def fX5_sumForP_b39 (n : Nat) (i : Nat) (v1 : Int32) (σ : gM) : Option (Int32 × gM) := some (v1, σ)
set_option maxRecDepth 100000 in
theorem tX5_sumForP_b39 (hE : gEX l dC dI ad ca X) {r0 : Int32} {σ' : gM} (n : Nat) (i : Nat) (hi : i < 3) (v1 : Int32)  (σ : gM) (h : fX5_sumForP_b39 n i v1 σ = some (r0, σ')) : g_G l dC dI ad ca shX X cX5_sumForP 3 RX5 (some .int) (gR 0) (some (.int r0)) σ' 39 [(1, .int v1)] [] σ := by
  unfold fX5_sumForP_b39 at h
  refine g_iload_n (pc := 39) dX5_sumForP_39 rfl 0 rfl ?_
  cases h
  exact g_iret (pc := 40) rfl rfl rfl rfl dX5_sumForP_40
def fX5_sumForP_b4 (n : Nat) (i : Nat) (K4 : Int32 → Int32 → gM → Option (Int32 × gM)) (v1 : Int32) (v2 : Int32) (σ : gM) : Option (Int32 × gM) := if (σ.1 5 0) ≤ v2 then (fX5_sumForP_b39 n i v1 σ) else (if 8 ≤ v2 then (fX5_sumForP_b39 n i v1 σ) else (if ¬ (v2 < 0 ∨ 8 ≤ v2.toNatClampNeg) then (K4 (v1 ^^^ (σ.1 (13 + 5 * i) v2.toNatClampNeg)) (v2 + 1) σ) else none))
set_option maxRecDepth 100000 in
theorem tX5_sumForP_b4 (hE : gEX l dC dI ad ca X) {r0 : Int32} {σ' : gM} (n : Nat) (i : Nat) (hi : i < 3) (K4 : Int32 → Int32 → gM → Option (Int32 × gM)) (hK4 : ∀ (v1 : Int32) (v2 : Int32) (σ : gM), K4 v1 v2 σ = some (r0, σ') → g_G l dC dI ad ca shX X cX5_sumForP 3 RX5 (some .int) (gR 0) (some (.int r0)) σ' 4 [(0, .ref (12 + 5 * i)), (1, .int v1), (2, .int v2)] [] σ) (v1 : Int32) (v2 : Int32)  (σ : gM) (h : fX5_sumForP_b4 n i K4 v1 v2 σ = some (r0, σ')) : g_G l dC dI ad ca shX X cX5_sumForP 3 RX5 (some .int) (gR 0) (some (.int r0)) σ' 4 [(0, .ref (12 + 5 * i)), (1, .int v1), (2, .int v2)] [] σ := by
  unfold fX5_sumForP_b4 at h
  refine g_iload_n (pc := 4) dX5_sumForP_4 rfl 2 rfl ?_
  refine g_aload_n (pc := 5) dX5_sumForP_5 rfl 0 rfl ?_
  refine g_getR (pc := 6) wfX5_17 (sX_row hi) rfl dX5_sumForP_6 ?_
  refine g_getI (pc := 9) wfX5_64 rfl rfl dX5_sumForP_9 ?_
  refine g_icmp_ge (pc := 12) (tgt := 39) dX5_sumForP_12 (by decide) (fun c4 => ?_) (fun c4 => ?_)
  · have h := g_ift c4 h
    exact g_lv [1] rfl (tX5_sumForP_b39 hE n i hi v1 σ h)
  · have h := g_iff c4 h
    refine g_iload_n (pc := 15) dX5_sumForP_15 rfl 2 rfl ?_
    refine g_aload_n (pc := 16) dX5_sumForP_16 rfl 0 rfl ?_
    refine g_getR (pc := 17) wfX5_11 (sX_row hi) rfl dX5_sumForP_17 ?_
    refine g_alen (pc := 20) (sX_rb hi) dX5_sumForP_20 ?_
    refine g_icmp_ge (pc := 21) (tgt := 39) dX5_sumForP_21 (by decide) (fun c5 => ?_) (fun c5 => ?_)
    · have h := g_ift c5 h
      exact g_lv [1] rfl (tX5_sumForP_b39 hE n i hi v1 σ h)
    · have h := g_iff c5 h
      refine g_iload_n (pc := 24) dX5_sumForP_24 rfl 1 rfl ?_
      refine g_aload_n (pc := 25) dX5_sumForP_25 rfl 0 rfl ?_
      refine g_getR (pc := 26) wfX5_11 (sX_row hi) rfl dX5_sumForP_26 ?_
      refine g_iload_n (pc := 29) dX5_sumForP_29 rfl 2 rfl ?_
      obtain ⟨c6, h⟩ := g_gd h
      refine g_iald (pc := 30) (sX_rb hi) c6 rfl dX5_sumForP_30 ?_
      refine g_ixor (pc := 31) dX5_sumForP_31 ?_
      refine g_istore_n (pc := 32) (lv1 := [(1, .int (v1 ^^^ (σ.1 (13 + 5 * i) v2.toNatClampNeg))), (0, .ref (12 + 5 * i)), (2, .int v2)]) dX5_sumForP_32 rfl (by decide) rfl ?_
      refine g_iinc (pc := 33) (v := v2 + 1) (lv1 := [(2, .int (v2 + 1)), (1, .int (v1 ^^^ (σ.1 (13 + 5 * i) v2.toNatClampNeg))), (0, .ref (12 + 5 * i))]) dX5_sumForP_33 2 rfl rfl (by decide) rfl ?_
      refine g_goto (pc := 36) (tgt := 4) dX5_sumForP_36 (by decide) ?_
      exact g_lv [2, 1, 0] rfl (hK4 (v1 ^^^ (σ.1 (13 + 5 * i) v2.toNatClampNeg)) (v2 + 1) σ h)
def fX5_sumForP_L4 (n : Nat) (i : Nat) : Nat → Int32 → Int32 → gM → Option (Int32 × gM)
  | 0 => fun _ _ _ => none
  | k + 1 => fX5_sumForP_b4 n i (fX5_sumForP_L4 n i k)
theorem tX5_sumForP_L4 (hE : gEX l dC dI ad ca X) {r0 : Int32} {σ' : gM} (n : Nat) (i : Nat) (hi : i < 3)  : ∀ (k : Nat) (v1 : Int32) (v2 : Int32) (σ : gM), fX5_sumForP_L4 n i k v1 v2 σ = some (r0, σ') → g_G l dC dI ad ca shX X cX5_sumForP 3 RX5 (some .int) (gR 0) (some (.int r0)) σ' 4 [(0, .ref (12 + 5 * i)), (1, .int v1), (2, .int v2)] [] σ := by
  intro k
  induction k with
  | zero => intro v1 v2 σ h; cases h
  | succ k ih => intro v1 v2 σ h; exact tX5_sumForP_b4 hE n i hi (fX5_sumForP_L4 n i k) ih v1 v2 σ h
def fX5_sumForP (n : Nat) (i : Nat) (σ : gM) : Option (Int32 × gM) := fX5_sumForP_L4 n i n 0 0 σ
set_option maxRecDepth 100000 in
theorem kX5_sumForP (hE : gEX l dC dI ad ca X) (n : Nat) (i : Nat) (hi : i < 3)  (σ : gM) {r0 : Int32} {σ' : gM} (h : fX5_sumForP n i σ = some (r0, σ')) : g_C l dC dI ad ca shX X yX5_sumForP cX5_sumForP 3 (some .int) (gR 0) [.ref (12 + 5 * i)] σ (some (.int r0)) σ' := by
  refine g_entry (by decide +kernel) (Nat.le_of_ble_eq_true rfl) ?_
  refine g_lvE (lv1 := [(0, .ref (12 + 5 * i))]) rfl ?_
  unfold fX5_sumForP at h
  refine g_iconst (pc := 0) (v := 0) dX5_sumForP_0 (by decide) ?_
  refine g_istore_n (pc := 1) (lv1 := [(1, .int 0), (0, .ref (12 + 5 * i))]) dX5_sumForP_1 rfl (by decide) rfl ?_
  refine g_iconst (pc := 2) (v := 0) dX5_sumForP_2 (by decide) ?_
  refine g_istore_n (pc := 3) (lv1 := [(2, .int 0), (1, .int 0), (0, .ref (12 + 5 * i))]) dX5_sumForP_3 rfl (by decide) rfl ?_
  exact g_lv [2, 1, 0] rfl (tX5_sumForP_L4 hE n i hi n 0 0 σ h)
def fX5_get (i : Nat) (v1 : Int32) (σ : gM) : Option (Int32 × gM) := if v1 < 0 then (some (0, σ)) else (if 8 ≤ v1 then (some (0, σ)) else (if ¬ (v1 < 0 ∨ 8 ≤ v1.toNatClampNeg) then (some (σ.1 (13 + 5 * i) v1.toNatClampNeg, σ)) else none))
set_option maxRecDepth 100000 in
theorem kX5_get (hE : gEX l dC dI ad ca X) (i : Nat) (hi : i < 3)  (v1 : Int32) (σ : gM) {r0 : Int32} {σ' : gM} (h : fX5_get i v1 σ = some (r0, σ')) : g_C l dC dI ad ca shX X yX5_get cX5_get 2 (some .int) (gR 0) [.ref (12 + 5 * i), .int v1] σ (some (.int r0)) σ' := by
  refine g_entry (by decide +kernel) (Nat.le_of_ble_eq_true rfl) ?_
  refine g_lvE (lv1 := [(0, .ref (12 + 5 * i)), (1, .int v1)]) rfl ?_
  unfold fX5_get at h
  refine g_iload_n (pc := 0) dX5_get_0 rfl 1 rfl ?_
  refine g_if_lt (pc := 1) (tgt := 22) dX5_get_1 (by decide) (fun c4 => ?_) (fun c4 => ?_)
  · have h := g_ift c4 h
    refine g_iconst (pc := 22) (v := 0) dX5_get_22 (by decide) ?_
    cases h
    exact g_iret (pc := 23) rfl rfl rfl rfl dX5_get_23
  · have h := g_iff c4 h
    refine g_iload_n (pc := 4) dX5_get_4 rfl 1 rfl ?_
    refine g_aload_n (pc := 5) dX5_get_5 rfl 0 rfl ?_
    refine g_getR (pc := 6) wfX5_11 (sX_row hi) rfl dX5_get_6 ?_
    refine g_alen (pc := 9) (sX_rb hi) dX5_get_9 ?_
    refine g_icmp_ge (pc := 10) (tgt := 22) dX5_get_10 (by decide) (fun c5 => ?_) (fun c5 => ?_)
    · have h := g_ift c5 h
      refine g_iconst (pc := 22) (v := 0) dX5_get_22 (by decide) ?_
      cases h
      exact g_iret (pc := 23) rfl rfl rfl rfl dX5_get_23
    · have h := g_iff c5 h
      refine g_aload_n (pc := 13) dX5_get_13 rfl 0 rfl ?_
      refine g_getR (pc := 14) wfX5_11 (sX_row hi) rfl dX5_get_14 ?_
      refine g_iload_n (pc := 17) dX5_get_17 rfl 1 rfl ?_
      obtain ⟨c6, h⟩ := g_gd h
      refine g_iald (pc := 18) (sX_rb hi) c6 rfl dX5_get_18 ?_
      refine g_goto (pc := 19) (tgt := 23) dX5_get_19 (by decide) ?_
      cases h
      exact g_iret (pc := 23) rfl rfl rfl rfl dX5_get_23
def fX5_set (i : Nat) (v1 : Int32) (v2 : Int32) (σ : gM) : Option (gM) := if v1 < 0 then (some σ) else (if 8 ≤ v1 then (some σ) else (if ¬ (v1 < 0 ∨ 8 ≤ v1.toNatClampNeg) then (g_let (g_put σ (13 + 5 * i) v1.toNatClampNeg (v2 &&& 255)) (fun σ9 => some σ9)) else none))
set_option maxRecDepth 100000 in
theorem kX5_set (hE : gEX l dC dI ad ca X) (i : Nat) (hi : i < 3)  (v1 : Int32) (v2 : Int32) (σ : gM) {σ' : gM} (h : fX5_set i v1 v2 σ = some σ') : g_C l dC dI ad ca shX X yX5_set cX5_set 3 none (gR 0) [.ref (12 + 5 * i), .int v1, .int v2] σ none σ' := by
  refine g_entry (by decide +kernel) (Nat.le_of_ble_eq_true rfl) ?_
  refine g_lvE (lv1 := [(0, .ref (12 + 5 * i)), (1, .int v1), (2, .int v2)]) rfl ?_
  unfold fX5_set at h
  refine g_iload_n (pc := 0) dX5_set_0 rfl 1 rfl ?_
  refine g_if_lt (pc := 1) (tgt := 24) dX5_set_1 (by decide) (fun c6 => ?_) (fun c6 => ?_)
  · have h := g_ift c6 h
    cases h
    exact g_vret (pc := 24) rfl rfl rfl dX5_set_24
  · have h := g_iff c6 h
    refine g_iload_n (pc := 4) dX5_set_4 rfl 1 rfl ?_
    refine g_aload_n (pc := 5) dX5_set_5 rfl 0 rfl ?_
    refine g_getR (pc := 6) wfX5_11 (sX_row hi) rfl dX5_set_6 ?_
    refine g_alen (pc := 9) (sX_rb hi) dX5_set_9 ?_
    refine g_icmp_ge (pc := 10) (tgt := 24) dX5_set_10 (by decide) (fun c7 => ?_) (fun c7 => ?_)
    · have h := g_ift c7 h
      cases h
      exact g_vret (pc := 24) rfl rfl rfl dX5_set_24
    · have h := g_iff c7 h
      refine g_aload_n (pc := 13) dX5_set_13 rfl 0 rfl ?_
      refine g_getR (pc := 14) wfX5_11 (sX_row hi) rfl dX5_set_14 ?_
      refine g_iload_n (pc := 17) dX5_set_17 rfl 1 rfl ?_
      refine g_iload_n (pc := 18) dX5_set_18 rfl 2 rfl ?_
      refine g_sipush (pc := 19) (v := 255) dX5_set_19 (by decide) ?_
      refine g_iand (pc := 22) dX5_set_22 ?_
      obtain ⟨c8, h⟩ := g_gd h
      obtain ⟨σ9, e10, h⟩ := g_ltd h
      refine g_iast (pc := 23) (sX_rb hi) c8 rfl e10 dX5_set_23 ?_
      cases h
      exact g_vret (pc := 24) rfl rfl rfl dX5_set_24
def fX5_solveParts_b113 (n : Nat) (i : Nat) (s0 : Int32) (s1 : Int32) (σ : gM) : Option (gM) := g_bV (fX5_set i s1 s0 σ) (fun σ46 => some σ46)
set_option maxRecDepth 100000 in
theorem tX5_solveParts_b113 (hE : gEX l dC dI ad ca X) {σ' : gM} (n : Nat) (i : Nat) (hi : i < 3) (s0 : Int32) (s1 : Int32)  (σ : gM) (h : fX5_solveParts_b113 n i s0 s1 σ = some σ') : g_G l dC dI ad ca shX X cX5_solveParts 9 RX5 none (gR 2) none σ' 113 [] [.int s0, .int s1, .ref (12 + 5 * i)] σ := by
  unfold fX5_solveParts_b113 at h
  obtain ⟨σ46, h45, h⟩ := g_bVd h
  refine g_callVv (pc := 113) (st := []) hE.1 wvX5_57 (sX_row hi) rfl (kX5_set hE i hi s1 s0 σ h45) rfl (gR_ok (by decide) (by decide)) (Nat.le_of_ble_eq_true rfl) rfl dX5_solveParts_113 ?_
  refine g_goto (pc := 116) (tgt := 164) dX5_solveParts_116 (by decide) ?_
  cases h
  exact g_vret (pc := 164) rfl rfl rfl dX5_solveParts_164
def fX5_solveParts (n : Nat) (i : Nat) (v1 : Int32) (v2 : Int32) (σ : gM) : Option (gM) := g_bI (fJ6_numberOfTrailingZeros_0f7a4 v1 σ) (fun r49 σ48 => g_bI (fJ6_numberOfLeadingZeros_0f7a4 v1 σ48) (fun r52 σ51 => g_bI (fX1_powerOfTwo r49 σ51) (fun r55 σ54 => g_bI (fX1_powerOfTwo (31 - r52) σ54) (fun r58 σ57 => g_bI (fX5_sumForP n i σ57) (fun r61 σ60 => g_bI (fX5_get i (σ60.1 5 6) σ60) (fun r64 σ63 => g_bI (fX1_sumByPowers n i (σ63.1 5 0) σ63) (fun r67 σ66 => g_bI (fX5_get i (σ66.1 5 7) σ66) (fun r70 σ69 => if r49 = (31 - r52) then (if v2 = 0 then (g_bI (fX1_quotient (r67 ^^^ r70) r55 σ69) (fun r88 σ87 => fX5_solveParts_b113 n i r88 r49 σ87)) else (fX5_solveParts_b113 n i (r61 ^^^ r64) r49 σ69)) else (g_bI (fX1_product (r61 ^^^ r64) r58 σ69) (fun r74 σ73 => g_bI (fX1_quotient ((r67 ^^^ r70) ^^^ r74) (r55 ^^^ r58) σ73) (fun r77 σ76 => g_bV (fX5_set i r49 r77 σ76) (fun σ79 => g_bI (fX5_get i r49 σ79) (fun r82 σ81 => g_bV (fX5_set i (31 - r52) ((r61 ^^^ r64) ^^^ r82) σ81) (fun σ84 => some σ84))))))))))))))
set_option maxRecDepth 100000 in
theorem kX5_solveParts (hE : gEX l dC dI ad ca X) (n : Nat) (i : Nat) (hi : i < 3)  (v1 : Int32) (v2 : Int32) (σ : gM) {σ' : gM} (h : fX5_solveParts n i v1 v2 σ = some σ') : g_C l dC dI ad ca shX X yX5_solveParts cX5_solveParts 9 none (gR 2) [.ref (12 + 5 * i), .int v1, .int v2] σ none σ' := by
  refine g_entry (by decide +kernel) (Nat.le_of_ble_eq_true rfl) ?_
  refine g_lvE (lv1 := [(0, .ref (12 + 5 * i)), (1, .int v1), (2, .int v2)]) rfl ?_
  unfold fX5_solveParts at h
  refine g_iload_n (pc := 0) dX5_solveParts_0 rfl 1 rfl ?_
  obtain ⟨r49, σ48, h47, h⟩ := g_bId h
  refine g_callSi (pc := 1) (st := []) hE.1 wsX5_73 (kJ6_numberOfTrailingZeros_0f7a4 hE v1 σ h47) rfl (gR_ok (by decide) (by decide)) (Nat.le_of_ble_eq_true rfl) rfl dX5_solveParts_1 ?_
  refine g_istore_n (pc := 4) (lv1 := [(3, .int r49), (0, .ref (12 + 5 * i)), (1, .int v1), (2, .int v2)]) dX5_solveParts_4 rfl (by decide) rfl ?_
  refine g_bipush (pc := 5) (v := 31) dX5_solveParts_5 (by decide) ?_
  refine g_iload_n (pc := 7) dX5_solveParts_7 rfl 2 rfl ?_
  obtain ⟨r52, σ51, h50, h⟩ := g_bId h
  refine g_callSi (pc := 8) (st := [.int 31]) hE.1 wsX5_79 (kJ6_numberOfLeadingZeros_0f7a4 hE v1 σ48 h50) rfl (gR_ok (by decide) (by decide)) (Nat.le_of_ble_eq_true rfl) rfl dX5_solveParts_8 ?_
  refine g_isub (pc := 11) dX5_solveParts_11 ?_
  refine g_istore (pc := 12) (lv1 := [(4, .int (31 - r52)), (3, .int r49), (0, .ref (12 + 5 * i)), (1, .int v1), (2, .int v2)]) dX5_solveParts_12 (by decide) rfl ?_
  refine g_aload_n (pc := 14) dX5_solveParts_14 rfl 2 rfl ?_
  refine g_getR (pc := 15) wfX5_21 (sX_row hi) rfl dX5_solveParts_15 ?_
  refine g_iload_n (pc := 18) dX5_solveParts_18 rfl 1 rfl ?_
  obtain ⟨r55, σ54, h53, h⟩ := g_bId h
  refine g_callVi (pc := 19) (st := []) hE.1 wvX5_82 rfl rfl (kX1_powerOfTwo hE r49 σ51 h53) rfl (gR_ok (by decide) (by decide)) (Nat.le_of_ble_eq_true rfl) rfl dX5_solveParts_19 ?_
  refine g_istore (pc := 22) (lv1 := [(5, .int r55), (4, .int (31 - r52)), (3, .int r49), (0, .ref (12 + 5 * i)), (1, .int v1), (2, .int v2)]) dX5_solveParts_22 (by decide) rfl ?_
  refine g_aload_n (pc := 24) dX5_solveParts_24 rfl 3 rfl ?_
  refine g_getR (pc := 25) wfX5_21 (sX_row hi) rfl dX5_solveParts_25 ?_
  refine g_iload (pc := 28) dX5_solveParts_28 1 rfl ?_
  obtain ⟨r58, σ57, h56, h⟩ := g_bId h
  refine g_callVi (pc := 30) (st := []) hE.1 wvX5_82 rfl rfl (kX1_powerOfTwo hE (31 - r52) σ54 h56) rfl (gR_ok (by decide) (by decide)) (Nat.le_of_ble_eq_true rfl) rfl dX5_solveParts_30 ?_
  refine g_istore (pc := 33) (lv1 := [(6, .int r58), (5, .int r55), (4, .int (31 - r52)), (3, .int r49), (0, .ref (12 + 5 * i)), (1, .int v1), (2, .int v2)]) dX5_solveParts_33 (by decide) rfl ?_
  refine g_aload_n (pc := 35) dX5_solveParts_35 rfl 4 rfl ?_
  obtain ⟨r61, σ60, h59, h⟩ := g_bId h
  refine g_callVi (pc := 36) (st := []) hE.1 wvX5_53 (sX_row hi) rfl (kX5_sumForP hE n i hi σ57 h59) rfl (gR_ok (by decide) (by decide)) (Nat.le_of_ble_eq_true rfl) rfl dX5_solveParts_36 ?_
  refine g_aload_n (pc := 39) dX5_solveParts_39 rfl 4 rfl ?_
  refine g_aload_n (pc := 40) dX5_solveParts_40 rfl 4 rfl ?_
  refine g_getR (pc := 41) wfX5_17 (sX_row hi) rfl dX5_solveParts_41 ?_
  refine g_getI (pc := 44) wfX5_46 rfl rfl dX5_solveParts_44 ?_
  obtain ⟨r64, σ63, h62, h⟩ := g_bId h
  refine g_callVi (pc := 47) (st := [.int r61]) hE.1 wvX5_85 (sX_row hi) rfl (kX5_get hE i hi (σ60.1 5 6) σ60 h62) rfl (gR_ok (by decide) (by decide)) (Nat.le_of_ble_eq_true rfl) rfl dX5_solveParts_47 ?_
  refine g_ixor (pc := 50) dX5_solveParts_50 ?_
  refine g_istore (pc := 51) (lv1 := [(7, .int (r61 ^^^ r64)), (6, .int r58), (5, .int r55), (4, .int (31 - r52)), (3, .int r49), (0, .ref (12 + 5 * i)), (1, .int v1), (2, .int v2)]) dX5_solveParts_51 (by decide) rfl ?_
  refine g_aload_n (pc := 53) dX5_solveParts_53 rfl 5 rfl ?_
  refine g_getR (pc := 54) wfX5_21 (sX_row hi) rfl dX5_solveParts_54 ?_
  refine g_aload_n (pc := 57) dX5_solveParts_57 rfl 5 rfl ?_
  refine g_getR (pc := 58) wfX5_11 (sX_row hi) rfl dX5_solveParts_58 ?_
  refine g_aload_n (pc := 61) dX5_solveParts_61 rfl 5 rfl ?_
  refine g_getR (pc := 62) wfX5_17 (sX_row hi) rfl dX5_solveParts_62 ?_
  refine g_getI (pc := 65) wfX5_64 rfl rfl dX5_solveParts_65 ?_
  obtain ⟨r67, σ66, h65, h⟩ := g_bId h
  refine g_callVi (pc := 68) (st := []) hE.1 wvX5_67 rfl rfl (kX1_sumByPowers hE n i hi (σ63.1 5 0) σ63 h65) rfl (gR_ok (by decide) (by decide)) (Nat.le_of_ble_eq_true rfl) rfl dX5_solveParts_68 ?_
  refine g_aload_n (pc := 71) dX5_solveParts_71 rfl 5 rfl ?_
  refine g_aload_n (pc := 72) dX5_solveParts_72 rfl 5 rfl ?_
  refine g_getR (pc := 73) wfX5_17 (sX_row hi) rfl dX5_solveParts_73 ?_
  refine g_getI (pc := 76) wfX5_61 rfl rfl dX5_solveParts_76 ?_
  obtain ⟨r70, σ69, h68, h⟩ := g_bId h
  refine g_callVi (pc := 79) (st := [.int r67]) hE.1 wvX5_85 (sX_row hi) rfl (kX5_get hE i hi (σ66.1 5 7) σ66 h68) rfl (gR_ok (by decide) (by decide)) (Nat.le_of_ble_eq_true rfl) rfl dX5_solveParts_79 ?_
  refine g_ixor (pc := 82) dX5_solveParts_82 ?_
  refine g_istore (pc := 83) (lv1 := [(8, .int (r67 ^^^ r70)), (7, .int (r61 ^^^ r64)), (6, .int r58), (5, .int r55), (4, .int (31 - r52)), (3, .int r49), (0, .ref (12 + 5 * i)), (1, .int v1), (2, .int v2)]) dX5_solveParts_83 (by decide) rfl ?_
  refine g_iload_n (pc := 85) dX5_solveParts_85 rfl 5 rfl ?_
  refine g_iload (pc := 86) dX5_solveParts_86 4 rfl ?_
  refine g_icmp_ne (pc := 88) (tgt := 119) dX5_solveParts_88 (by decide) (fun c71 => ?_) (fun c71 => ?_)
  · have h := g_iff c71 h
    refine g_aload_n (pc := 119) dX5_solveParts_119 rfl 6 rfl ?_
    refine g_iload_n (pc := 120) dX5_solveParts_120 rfl 5 rfl ?_
    refine g_aload_n (pc := 121) dX5_solveParts_121 rfl 6 rfl ?_
    refine g_getR (pc := 122) wfX5_21 (sX_row hi) rfl dX5_solveParts_122 ?_
    refine g_iload (pc := 125) dX5_solveParts_125 0 rfl ?_
    refine g_aload_n (pc := 127) dX5_solveParts_127 rfl 6 rfl ?_
    refine g_getR (pc := 128) wfX5_21 (sX_row hi) rfl dX5_solveParts_128 ?_
    refine g_iload (pc := 131) dX5_solveParts_131 1 rfl ?_
    refine g_iload (pc := 133) dX5_solveParts_133 2 rfl ?_
    obtain ⟨r74, σ73, h72, h⟩ := g_bId h
    refine g_callVi (pc := 135) (st := [.int (r67 ^^^ r70), .ref 6, .int r49, .ref (12 + 5 * i)]) hE.1 wvX5_91 rfl rfl (kX1_product hE (r61 ^^^ r64) r58 σ69 h72) rfl (gR_ok (by decide) (by decide)) (Nat.le_of_ble_eq_true rfl) rfl dX5_solveParts_135 ?_
    refine g_ixor (pc := 138) dX5_solveParts_138 ?_
    refine g_iload (pc := 139) dX5_solveParts_139 3 rfl ?_
    refine g_iload (pc := 141) dX5_solveParts_141 2 rfl ?_
    refine g_ixor (pc := 143) dX5_solveParts_143 ?_
    obtain ⟨r77, σ76, h75, h⟩ := g_bId h
    refine g_callVi (pc := 144) (st := [.int r49, .ref (12 + 5 * i)]) hE.1 wvX5_88 rfl rfl (kX1_quotient hE ((r67 ^^^ r70) ^^^ r74) (r55 ^^^ r58) σ73 h75) rfl (gR_ok (by decide) (by decide)) (Nat.le_of_ble_eq_true rfl) rfl dX5_solveParts_144 ?_
    obtain ⟨σ79, h78, h⟩ := g_bVd h
    refine g_callVv (pc := 147) (st := []) hE.1 wvX5_57 (sX_row hi) rfl (kX5_set hE i hi r49 r77 σ76 h78) rfl (gR_ok (by decide) (by decide)) (Nat.le_of_ble_eq_true rfl) rfl dX5_solveParts_147 ?_
    refine g_aload_n (pc := 150) dX5_solveParts_150 rfl 6 rfl ?_
    refine g_iload (pc := 151) dX5_solveParts_151 4 rfl ?_
    refine g_iload (pc := 153) dX5_solveParts_153 1 rfl ?_
    refine g_aload_n (pc := 155) dX5_solveParts_155 rfl 6 rfl ?_
    refine g_iload_n (pc := 156) dX5_solveParts_156 rfl 5 rfl ?_
    obtain ⟨r82, σ81, h80, h⟩ := g_bId h
    refine g_callVi (pc := 157) (st := [.int (r61 ^^^ r64), .int (31 - r52), .ref (12 + 5 * i)]) hE.1 wvX5_85 (sX_row hi) rfl (kX5_get hE i hi r49 σ79 h80) rfl (gR_ok (by decide) (by decide)) (Nat.le_of_ble_eq_true rfl) rfl dX5_solveParts_157 ?_
    refine g_ixor (pc := 160) dX5_solveParts_160 ?_
    obtain ⟨σ84, h83, h⟩ := g_bVd h
    refine g_callVv (pc := 161) (st := []) hE.1 wvX5_57 (sX_row hi) rfl (kX5_set hE i hi (31 - r52) ((r61 ^^^ r64) ^^^ r82) σ81 h83) rfl (gR_ok (by decide) (by decide)) (Nat.le_of_ble_eq_true rfl) rfl dX5_solveParts_161 ?_
    cases h
    exact g_vret (pc := 164) rfl rfl rfl dX5_solveParts_164
  · have h := g_ift c71 h
    refine g_aload_n (pc := 91) dX5_solveParts_91 rfl 6 rfl ?_
    refine g_iload_n (pc := 92) dX5_solveParts_92 rfl 5 rfl ?_
    refine g_iload_n (pc := 93) dX5_solveParts_93 rfl 8 rfl ?_
    refine g_if_eq (pc := 94) (tgt := 102) dX5_solveParts_94 (by decide) (fun c85 => ?_) (fun c85 => ?_)
    · have h := g_ift c85 h
      refine g_aload_n (pc := 102) dX5_solveParts_102 rfl 6 rfl ?_
      refine g_getR (pc := 103) wfX5_21 (sX_row hi) rfl dX5_solveParts_103 ?_
      refine g_iload (pc := 106) dX5_solveParts_106 0 rfl ?_
      refine g_iload (pc := 108) dX5_solveParts_108 3 rfl ?_
      obtain ⟨r88, σ87, h86, h⟩ := g_bId h
      refine g_callVi (pc := 110) (st := [.int r49, .ref (12 + 5 * i)]) hE.1 wvX5_88 rfl rfl (kX1_quotient hE (r67 ^^^ r70) r55 σ69 h86) rfl (gR_ok (by decide) (by decide)) (Nat.le_of_ble_eq_true rfl) rfl dX5_solveParts_110 ?_
      exact g_lv [] rfl (tX5_solveParts_b113 hE n i hi r88 r49 σ87 h)
    · have h := g_iff c85 h
      refine g_iload (pc := 97) dX5_solveParts_97 1 rfl ?_
      refine g_goto (pc := 99) (tgt := 113) dX5_solveParts_99 (by decide) ?_
      exact g_lv [] rfl (tX5_solveParts_b113 hE n i hi (r61 ^^^ r64) r49 σ69 h)
def fX5_gather_b76 (n : Nat) (i : Nat) (j : Nat) (v4 : Int32) (σ : gM) : Option (gM) := if ((v4 >>> ((σ.1 5 7) &&& 31)) &&& 1) = 0 then (some σ) else (g_bI (fX1_sumByPowers n i (σ.1 5 0) σ) (fun r22 σ21 => g_bV (fX5_set i (σ.1 5 7) r22 σ21) (fun σ24 => some σ24)))
set_option maxRecDepth 100000 in
theorem tX5_gather_b76 (hE : gEX l dC dI ad ca X) {σ' : gM} (n : Nat) (i : Nat) (hi : i < 3) (j : Nat) (hj : j < 3) (v4 : Int32)  (σ : gM) (h : fX5_gather_b76 n i j v4 σ = some σ') : g_G l dC dI ad ca shX X cX5_gather 7 RX5 none (gR 3) none σ' 76 [(0, .ref (12 + 5 * i)), (4, .int v4)] [] σ := by
  unfold fX5_gather_b76 at h
  refine g_iload (pc := 76) dX5_gather_76 1 rfl ?_
  refine g_aload_n (pc := 78) dX5_gather_78 rfl 0 rfl ?_
  refine g_getR (pc := 79) wfX5_17 (sX_row hi) rfl dX5_gather_79 ?_
  refine g_getI (pc := 82) wfX5_61 rfl rfl dX5_gather_82 ?_
  refine g_ishr (pc := 85) dX5_gather_85 ?_
  refine g_iconst (pc := 86) (v := 1) dX5_gather_86 (by decide) ?_
  refine g_iand (pc := 87) dX5_gather_87 ?_
  refine g_if_eq (pc := 88) (tgt := 120) dX5_gather_88 (by decide) (fun c19 => ?_) (fun c19 => ?_)
  · have h := g_ift c19 h
    cases h
    exact g_vret (pc := 120) rfl rfl rfl dX5_gather_120
  · have h := g_iff c19 h
    refine g_aload_n (pc := 91) dX5_gather_91 rfl 0 rfl ?_
    refine g_aload_n (pc := 92) dX5_gather_92 rfl 0 rfl ?_
    refine g_getR (pc := 93) wfX5_17 (sX_row hi) rfl dX5_gather_93 ?_
    refine g_getI (pc := 96) wfX5_61 rfl rfl dX5_gather_96 ?_
    refine g_aload_n (pc := 99) dX5_gather_99 rfl 0 rfl ?_
    refine g_getR (pc := 100) wfX5_21 (sX_row hi) rfl dX5_gather_100 ?_
    refine g_aload_n (pc := 103) dX5_gather_103 rfl 0 rfl ?_
    refine g_getR (pc := 104) wfX5_11 (sX_row hi) rfl dX5_gather_104 ?_
    refine g_aload_n (pc := 107) dX5_gather_107 rfl 0 rfl ?_
    refine g_getR (pc := 108) wfX5_17 (sX_row hi) rfl dX5_gather_108 ?_
    refine g_getI (pc := 111) wfX5_64 rfl rfl dX5_gather_111 ?_
    obtain ⟨r22, σ21, h20, h⟩ := g_bId h
    refine g_callVi (pc := 114) (st := [.int (σ.1 5 7), .ref (12 + 5 * i)]) hE.1 wvX5_67 rfl rfl (kX1_sumByPowers hE n i hi (σ.1 5 0) σ h20) rfl (gR_ok (by decide) (by decide)) (Nat.le_of_ble_eq_true rfl) rfl dX5_gather_114 ?_
    obtain ⟨σ24, h23, h⟩ := g_bVd h
    refine g_callVv (pc := 117) (st := []) hE.1 wvX5_57 (sX_row hi) rfl (kX5_set hE i hi (σ.1 5 7) r22 σ21 h23) rfl (gR_ok (by decide) (by decide)) (Nat.le_of_ble_eq_true rfl) rfl dX5_gather_117 ?_
    cases h
    exact g_vret (pc := 120) rfl rfl rfl dX5_gather_120
def fX5_gather_b56 (n : Nat) (i : Nat) (j : Nat) (v4 : Int32) (v6 : Int32) (σ : gM) : Option (gM) := if v6 = 0 then (g_bI (fX5_sumForP n i σ) (fun r28 σ27 => g_bV (fX5_set i (σ.1 5 6) r28 σ27) (fun σ30 => fX5_gather_b76 n i j v4 σ30))) else (fX5_gather_b76 n i j v4 σ)
set_option maxRecDepth 100000 in
theorem tX5_gather_b56 (hE : gEX l dC dI ad ca X) {σ' : gM} (n : Nat) (i : Nat) (hi : i < 3) (j : Nat) (hj : j < 3) (v4 : Int32) (v6 : Int32)  (σ : gM) (h : fX5_gather_b56 n i j v4 v6 σ = some σ') : g_G l dC dI ad ca shX X cX5_gather 7 RX5 none (gR 3) none σ' 56 [(0, .ref (12 + 5 * i)), (4, .int v4), (6, .int v6)] [] σ := by
  unfold fX5_gather_b56 at h
  refine g_iload (pc := 56) dX5_gather_56 2 rfl ?_
  refine g_if_ne (pc := 58) (tgt := 76) dX5_gather_58 (by decide) (fun c25 => ?_) (fun c25 => ?_)
  · have h := g_iff c25 h
    exact g_lv [0, 1] rfl (tX5_gather_b76 hE n i hi j hj v4 σ h)
  · have h := g_ift c25 h
    refine g_aload_n (pc := 61) dX5_gather_61 rfl 0 rfl ?_
    refine g_aload_n (pc := 62) dX5_gather_62 rfl 0 rfl ?_
    refine g_getR (pc := 63) wfX5_17 (sX_row hi) rfl dX5_gather_63 ?_
    refine g_getI (pc := 66) wfX5_46 rfl rfl dX5_gather_66 ?_
    refine g_aload_n (pc := 69) dX5_gather_69 rfl 0 rfl ?_
    obtain ⟨r28, σ27, h26, h⟩ := g_bId h
    refine g_callVi (pc := 70) (st := [.int (σ.1 5 6), .ref (12 + 5 * i)]) hE.1 wvX5_53 (sX_row hi) rfl (kX5_sumForP hE n i hi σ h26) rfl (gR_ok (by decide) (by decide)) (Nat.le_of_ble_eq_true rfl) rfl dX5_gather_70 ?_
    obtain ⟨σ30, h29, h⟩ := g_bVd h
    refine g_callVv (pc := 73) (st := []) hE.1 wvX5_57 (sX_row hi) rfl (kX5_set hE i hi (σ.1 5 6) r28 σ27 h29) rfl (gR_ok (by decide) (by decide)) (Nat.le_of_ble_eq_true rfl) rfl dX5_gather_73 ?_
    exact g_lv [0, 1] rfl (tX5_gather_b76 hE n i hi j hj v4 σ30 h)
def fX5_gather_b41 (n : Nat) (i : Nat) (j : Nat) (v4 : Int32) (v5 : Int32) (s0 : Int32) (σ : gM) : Option (gM) := if v5 = 0 then (fX5_gather_b56 n i j v4 s0 σ) else (g_bV (fX5_solveParts n i v5 s0 σ) (fun σ33 => fX5_gather_b56 n i j v4 s0 σ33))
set_option maxRecDepth 100000 in
theorem tX5_gather_b41 (hE : gEX l dC dI ad ca X) {σ' : gM} (n : Nat) (i : Nat) (hi : i < 3) (j : Nat) (hj : j < 3) (v4 : Int32) (v5 : Int32) (s0 : Int32)  (σ : gM) (h : fX5_gather_b41 n i j v4 v5 s0 σ = some σ') : g_G l dC dI ad ca shX X cX5_gather 7 RX5 none (gR 3) none σ' 41 [(0, .ref (12 + 5 * i)), (4, .int v4), (5, .int v5)] [.int s0] σ := by
  unfold fX5_gather_b41 at h
  refine g_istore (pc := 41) (lv1 := [(6, .int s0), (0, .ref (12 + 5 * i)), (4, .int v4), (5, .int v5)]) dX5_gather_41 (by decide) rfl ?_
  refine g_iload (pc := 43) dX5_gather_43 3 rfl ?_
  refine g_if_eq (pc := 45) (tgt := 56) dX5_gather_45 (by decide) (fun c31 => ?_) (fun c31 => ?_)
  · have h := g_ift c31 h
    exact g_lv [1, 2, 0] rfl (tX5_gather_b56 hE n i hi j hj v4 s0 σ h)
  · have h := g_iff c31 h
    refine g_aload_n (pc := 48) dX5_gather_48 rfl 1 rfl ?_
    refine g_iload (pc := 49) dX5_gather_49 3 rfl ?_
    refine g_iload (pc := 51) dX5_gather_51 0 rfl ?_
    obtain ⟨σ33, h32, h⟩ := g_bVd h
    refine g_callVv (pc := 53) (st := []) hE.1 wvX5_49 (sX_row hi) rfl (kX5_solveParts hE n i hi v5 s0 σ h32) rfl (gR_ok (by decide) (by decide)) (Nat.le_of_ble_eq_true rfl) rfl dX5_gather_53 ?_
    exact g_lv [1, 2, 0] rfl (tX5_gather_b56 hE n i hi j hj v4 s0 σ33 h)
def fX5_gather (n : Nat) (i : Nat) (j : Nat) (v2 : Int32) (v3 : Int32) (v4 : Int32) (σ : gM) : Option (gM) := g_bV (fX5_load n i j v2 v3 v4 σ) (fun σ35 => if ((v4 >>> ((σ35.1 5 6) &&& 31)) &&& 1) = 0 then (fX5_gather_b41 n i j v4 (v4 &&& (σ35.1 5 8)) 1 σ35) else (fX5_gather_b41 n i j v4 (v4 &&& (σ35.1 5 8)) 0 σ35))
set_option maxRecDepth 100000 in
theorem kX5_gather (hE : gEX l dC dI ad ca X) (n : Nat) (i : Nat) (hi : i < 3) (j : Nat) (hj : j < 3)  (v2 : Int32) (v3 : Int32) (v4 : Int32) (σ : gM) {σ' : gM} (h : fX5_gather n i j v2 v3 v4 σ = some σ') : g_C l dC dI ad ca shX X yX5_gather cX5_gather 7 none (gR 3) [.ref (12 + 5 * i), .ref (10 + 5 * j), .int v2, .int v3, .int v4] σ none σ' := by
  refine g_entry (by decide +kernel) (Nat.le_of_ble_eq_true rfl) ?_
  refine g_lvE (lv1 := [(0, .ref (12 + 5 * i)), (1, .ref (10 + 5 * j)), (2, .int v2), (3, .int v3), (4, .int v4)]) rfl ?_
  unfold fX5_gather at h
  refine g_aload_n (pc := 0) dX5_gather_0 rfl 0 rfl ?_
  refine g_aload_n (pc := 1) dX5_gather_1 rfl 1 rfl ?_
  refine g_iload_n (pc := 2) dX5_gather_2 rfl 2 rfl ?_
  refine g_iload_n (pc := 3) dX5_gather_3 rfl 3 rfl ?_
  refine g_iload (pc := 4) dX5_gather_4 4 rfl ?_
  obtain ⟨σ35, h34, h⟩ := g_bVd h
  refine g_callVv (pc := 6) (st := []) hE.1 wvX5_39 (sX_row hi) rfl (kX5_load hE n i hi j hj v2 v3 v4 σ h34) rfl (gR_ok (by decide) (by decide)) (Nat.le_of_ble_eq_true rfl) rfl dX5_gather_6 ?_
  refine g_iload (pc := 9) dX5_gather_9 4 rfl ?_
  refine g_aload_n (pc := 11) dX5_gather_11 rfl 0 rfl ?_
  refine g_getR (pc := 12) wfX5_17 (sX_row hi) rfl dX5_gather_12 ?_
  refine g_getI (pc := 15) wfX5_43 rfl rfl dX5_gather_15 ?_
  refine g_iand (pc := 18) dX5_gather_18 ?_
  refine g_istore (pc := 19) (lv1 := [(5, .int (v4 &&& (σ35.1 5 8))), (0, .ref (12 + 5 * i)), (1, .ref (10 + 5 * j)), (2, .int v2), (3, .int v3), (4, .int v4)]) dX5_gather_19 (by decide) rfl ?_
  refine g_iload (pc := 21) dX5_gather_21 5 rfl ?_
  refine g_aload_n (pc := 23) dX5_gather_23 rfl 1 rfl ?_
  refine g_getR (pc := 24) wfX5_17 (sX_row hi) rfl dX5_gather_24 ?_
  refine g_getI (pc := 27) wfX5_46 rfl rfl dX5_gather_27 ?_
  refine g_ishr (pc := 30) dX5_gather_30 ?_
  refine g_iconst (pc := 31) (v := 1) dX5_gather_31 (by decide) ?_
  refine g_iand (pc := 32) dX5_gather_32 ?_
  refine g_if_ne (pc := 33) (tgt := 40) dX5_gather_33 (by decide) (fun c36 => ?_) (fun c36 => ?_)
  · have h := g_iff c36 h
    refine g_iconst (pc := 40) (v := 0) dX5_gather_40 (by decide) ?_
    exact g_lv [1, 5, 0] rfl (tX5_gather_b41 hE n i hi j hj v4 (v4 &&& (σ35.1 5 8)) 0 σ35 h)
  · have h := g_ift c36 h
    refine g_iconst (pc := 36) (v := 1) dX5_gather_36 (by decide) ?_
    refine g_goto (pc := 37) (tgt := 41) dX5_gather_37 (by decide) ?_
    exact g_lv [1, 5, 0] rfl (tX5_gather_b41 hE n i hi j hj v4 (v4 &&& (σ35.1 5 8)) 1 σ35 h)
def fX5_wrongPart_b58 (n : Nat) (i : Nat) (v1 : Int32) (v2 : Int32) (σ : gM) : Option (Int32 × gM) := if v2 = 0 then (some (σ.1 5 6, σ)) else (if v1 = 0 then (some (σ.1 5 7, σ)) else (g_bI (fX1_quotient v2 v1 σ) (fun r28 σ27 => g_bI (fX1_logarithm r28 σ27) (fun r31 σ30 => if (σ30.1 5 0) ≤ r31 then (some ((-2), σ30)) else (some (r31, σ30))))))
set_option maxRecDepth 100000 in
theorem tX5_wrongPart_b58 (hE : gEX l dC dI ad ca X) {r0 : Int32} {σ' : gM} (n : Nat) (i : Nat) (hi : i < 3) (v1 : Int32) (v2 : Int32)  (σ : gM) (h : fX5_wrongPart_b58 n i v1 v2 σ = some (r0, σ')) : g_G l dC dI ad ca shX X cX5_wrongPart 4 RX5 (some .int) (gR 2) (some (.int r0)) σ' 58 [(0, .ref (12 + 5 * i)), (1, .int v1), (2, .int v2)] [] σ := by
  unfold fX5_wrongPart_b58 at h
  refine g_iload_n (pc := 58) dX5_wrongPart_58 rfl 2 rfl ?_
  refine g_if_ne (pc := 59) (tgt := 70) dX5_wrongPart_59 (by decide) (fun c24 => ?_) (fun c24 => ?_)
  · have h := g_iff c24 h
    refine g_iload_n (pc := 70) dX5_wrongPart_70 rfl 1 rfl ?_
    refine g_if_ne (pc := 71) (tgt := 82) dX5_wrongPart_71 (by decide) (fun c25 => ?_) (fun c25 => ?_)
    · have h := g_iff c25 h
      refine g_aload_n (pc := 82) dX5_wrongPart_82 rfl 0 rfl ?_
      refine g_getR (pc := 83) wfX5_21 (sX_row hi) rfl dX5_wrongPart_83 ?_
      refine g_aload_n (pc := 86) dX5_wrongPart_86 rfl 0 rfl ?_
      refine g_getR (pc := 87) wfX5_21 (sX_row hi) rfl dX5_wrongPart_87 ?_
      refine g_iload_n (pc := 90) dX5_wrongPart_90 rfl 2 rfl ?_
      refine g_iload_n (pc := 91) dX5_wrongPart_91 rfl 1 rfl ?_
      obtain ⟨r28, σ27, h26, h⟩ := g_bId h
      refine g_callVi (pc := 92) (st := [.ref 6]) hE.1 wvX5_88 rfl rfl (kX1_quotient hE v2 v1 σ h26) rfl (gR_ok (by decide) (by decide)) (Nat.le_of_ble_eq_true rfl) rfl dX5_wrongPart_92 ?_
      obtain ⟨r31, σ30, h29, h⟩ := g_bId h
      refine g_callVi (pc := 95) (st := []) hE.1 wvX5_94 rfl rfl (kX1_logarithm hE r28 σ27 h29) rfl (gR_ok (by decide) (by decide)) (Nat.le_of_ble_eq_true rfl) rfl dX5_wrongPart_95 ?_
      refine g_istore_n (pc := 98) (lv1 := [(3, .int r31), (0, .ref (12 + 5 * i)), (1, .int v1), (2, .int v2)]) dX5_wrongPart_98 rfl (by decide) rfl ?_
      refine g_iload_n (pc := 99) dX5_wrongPart_99 rfl 0 rfl ?_
      refine g_aload_n (pc := 100) dX5_wrongPart_100 rfl 1 rfl ?_
      refine g_getR (pc := 101) wfX5_17 (sX_row hi) rfl dX5_wrongPart_101 ?_
      refine g_getI (pc := 104) wfX5_64 rfl rfl dX5_wrongPart_104 ?_
      refine g_icmp_ge (pc := 107) (tgt := 114) dX5_wrongPart_107 (by decide) (fun c32 => ?_) (fun c32 => ?_)
      · have h := g_ift c32 h
        refine g_bipush (pc := 114) (v := (-2)) dX5_wrongPart_114 (by decide) ?_
        cases h
        exact g_iret (pc := 116) rfl rfl rfl rfl dX5_wrongPart_116
      · have h := g_iff c32 h
        refine g_iload_n (pc := 110) dX5_wrongPart_110 rfl 0 rfl ?_
        refine g_goto (pc := 111) (tgt := 116) dX5_wrongPart_111 (by decide) ?_
        cases h
        exact g_iret (pc := 116) rfl rfl rfl rfl dX5_wrongPart_116
    · have h := g_ift c25 h
      refine g_aload_n (pc := 74) dX5_wrongPart_74 rfl 0 rfl ?_
      refine g_getR (pc := 75) wfX5_17 (sX_row hi) rfl dX5_wrongPart_75 ?_
      refine g_getI (pc := 78) wfX5_61 rfl rfl dX5_wrongPart_78 ?_
      cases h
      exact g_iret (pc := 81) rfl rfl rfl rfl dX5_wrongPart_81
  · have h := g_ift c24 h
    refine g_aload_n (pc := 62) dX5_wrongPart_62 rfl 0 rfl ?_
    refine g_getR (pc := 63) wfX5_17 (sX_row hi) rfl dX5_wrongPart_63 ?_
    refine g_getI (pc := 66) wfX5_46 rfl rfl dX5_wrongPart_66 ?_
    cases h
    exact g_iret (pc := 69) rfl rfl rfl rfl dX5_wrongPart_69
def fX5_wrongPart (n : Nat) (i : Nat) (σ : gM) : Option (Int32 × gM) := g_bI (fX5_sumForP n i σ) (fun r35 σ34 => g_bI (fX5_get i (σ34.1 5 6) σ34) (fun r38 σ37 => g_bI (fX1_sumByPowers n i (σ37.1 5 0) σ37) (fun r41 σ40 => g_bI (fX5_get i (σ40.1 5 7) σ40) (fun r44 σ43 => if (r35 ^^^ r38) = 0 then (if (r41 ^^^ r44) = 0 then (some ((-1), σ43)) else (fX5_wrongPart_b58 n i (r35 ^^^ r38) (r41 ^^^ r44) σ43)) else (fX5_wrongPart_b58 n i (r35 ^^^ r38) (r41 ^^^ r44) σ43)))))
set_option maxRecDepth 100000 in
theorem kX5_wrongPart (hE : gEX l dC dI ad ca X) (n : Nat) (i : Nat) (hi : i < 3)  (σ : gM) {r0 : Int32} {σ' : gM} (h : fX5_wrongPart n i σ = some (r0, σ')) : g_C l dC dI ad ca shX X yX5_wrongPart cX5_wrongPart 4 (some .int) (gR 2) [.ref (12 + 5 * i)] σ (some (.int r0)) σ' := by
  refine g_entry (by decide +kernel) (Nat.le_of_ble_eq_true rfl) ?_
  refine g_lvE (lv1 := [(0, .ref (12 + 5 * i))]) rfl ?_
  unfold fX5_wrongPart at h
  refine g_aload_n (pc := 0) dX5_wrongPart_0 rfl 0 rfl ?_
  obtain ⟨r35, σ34, h33, h⟩ := g_bId h
  refine g_callVi (pc := 1) (st := []) hE.1 wvX5_53 (sX_row hi) rfl (kX5_sumForP hE n i hi σ h33) rfl (gR_ok (by decide) (by decide)) (Nat.le_of_ble_eq_true rfl) rfl dX5_wrongPart_1 ?_
  refine g_aload_n (pc := 4) dX5_wrongPart_4 rfl 0 rfl ?_
  refine g_aload_n (pc := 5) dX5_wrongPart_5 rfl 0 rfl ?_
  refine g_getR (pc := 6) wfX5_17 (sX_row hi) rfl dX5_wrongPart_6 ?_
  refine g_getI (pc := 9) wfX5_46 rfl rfl dX5_wrongPart_9 ?_
  obtain ⟨r38, σ37, h36, h⟩ := g_bId h
  refine g_callVi (pc := 12) (st := [.int r35]) hE.1 wvX5_85 (sX_row hi) rfl (kX5_get hE i hi (σ34.1 5 6) σ34 h36) rfl (gR_ok (by decide) (by decide)) (Nat.le_of_ble_eq_true rfl) rfl dX5_wrongPart_12 ?_
  refine g_ixor (pc := 15) dX5_wrongPart_15 ?_
  refine g_istore_n (pc := 16) (lv1 := [(1, .int (r35 ^^^ r38)), (0, .ref (12 + 5 * i))]) dX5_wrongPart_16 rfl (by decide) rfl ?_
  refine g_aload_n (pc := 17) dX5_wrongPart_17 rfl 1 rfl ?_
  refine g_getR (pc := 18) wfX5_21 (sX_row hi) rfl dX5_wrongPart_18 ?_
  refine g_aload_n (pc := 21) dX5_wrongPart_21 rfl 1 rfl ?_
  refine g_getR (pc := 22) wfX5_11 (sX_row hi) rfl dX5_wrongPart_22 ?_
  refine g_aload_n (pc := 25) dX5_wrongPart_25 rfl 1 rfl ?_
  refine g_getR (pc := 26) wfX5_17 (sX_row hi) rfl dX5_wrongPart_26 ?_
  refine g_getI (pc := 29) wfX5_64 rfl rfl dX5_wrongPart_29 ?_
  obtain ⟨r41, σ40, h39, h⟩ := g_bId h
  refine g_callVi (pc := 32) (st := []) hE.1 wvX5_67 rfl rfl (kX1_sumByPowers hE n i hi (σ37.1 5 0) σ37 h39) rfl (gR_ok (by decide) (by decide)) (Nat.le_of_ble_eq_true rfl) rfl dX5_wrongPart_32 ?_
  refine g_aload_n (pc := 35) dX5_wrongPart_35 rfl 1 rfl ?_
  refine g_aload_n (pc := 36) dX5_wrongPart_36 rfl 1 rfl ?_
  refine g_getR (pc := 37) wfX5_17 (sX_row hi) rfl dX5_wrongPart_37 ?_
  refine g_getI (pc := 40) wfX5_61 rfl rfl dX5_wrongPart_40 ?_
  obtain ⟨r44, σ43, h42, h⟩ := g_bId h
  refine g_callVi (pc := 43) (st := [.int r41]) hE.1 wvX5_85 (sX_row hi) rfl (kX5_get hE i hi (σ40.1 5 7) σ40 h42) rfl (gR_ok (by decide) (by decide)) (Nat.le_of_ble_eq_true rfl) rfl dX5_wrongPart_43 ?_
  refine g_ixor (pc := 46) dX5_wrongPart_46 ?_
  refine g_istore_n (pc := 47) (lv1 := [(2, .int (r41 ^^^ r44)), (1, .int (r35 ^^^ r38)), (0, .ref (12 + 5 * i))]) dX5_wrongPart_47 rfl (by decide) rfl ?_
  refine g_iload_n (pc := 48) dX5_wrongPart_48 rfl 1 rfl ?_
  refine g_if_ne (pc := 49) (tgt := 58) dX5_wrongPart_49 (by decide) (fun c45 => ?_) (fun c45 => ?_)
  · have h := g_iff c45 h
    exact g_lv [2, 1, 0] rfl (tX5_wrongPart_b58 hE n i hi (r35 ^^^ r38) (r41 ^^^ r44) σ43 h)
  · have h := g_ift c45 h
    refine g_iload_n (pc := 52) dX5_wrongPart_52 rfl 0 rfl ?_
    refine g_if_ne (pc := 53) (tgt := 58) dX5_wrongPart_53 (by decide) (fun c46 => ?_) (fun c46 => ?_)
    · have h := g_iff c46 h
      exact g_lv [2, 1, 0] rfl (tX5_wrongPart_b58 hE n i hi (r35 ^^^ r38) (r41 ^^^ r44) σ43 h)
    · have h := g_ift c46 h
      refine g_iconst (pc := 56) (v := (-1)) dX5_wrongPart_56 (by decide) ?_
      cases h
      exact g_iret (pc := 57) rfl rfl rfl rfl dX5_wrongPart_57
def fX6_byteOf (v1 : Int32) (σ : gM) : Option (Int32 × gM) := if 1 ≤ (σ.1 5 2) then (if (σ.1 5 2) = 0 then none else (some (v1 - v1 / (σ.1 5 2) * (σ.1 5 2), σ))) else (some (0, σ))
set_option maxRecDepth 100000 in
theorem kX6_byteOf (hE : gEX l dC dI ad ca X)  (v1 : Int32) (σ : gM) {r0 : Int32} {σ' : gM} (h : fX6_byteOf v1 σ = some (r0, σ')) : g_C l dC dI ad ca shX X yX6_byteOf cX6_byteOf 2 (some .int) (gR 0) [.ref 5, .int v1] σ (some (.int r0)) σ' := by
  refine g_entry (by decide +kernel) (Nat.le_of_ble_eq_true rfl) ?_
  refine g_lvE (lv1 := [(0, .ref 5), (1, .int v1)]) rfl ?_
  unfold fX6_byteOf at h
  refine g_aload_n (pc := 0) dX6_byteOf_0 rfl 0 rfl ?_
  refine g_getI (pc := 1) wfX6_16 rfl rfl dX6_byteOf_1 ?_
  refine g_iconst (pc := 4) (v := 1) dX6_byteOf_4 (by decide) ?_
  refine g_icmp_ge (pc := 5) (tgt := 12) dX6_byteOf_5 (by decide) (fun c3 => ?_) (fun c3 => ?_)
  · have h := g_ift c3 h
    refine g_iload_n (pc := 12) dX6_byteOf_12 rfl 1 rfl ?_
    refine g_aload_n (pc := 13) dX6_byteOf_13 rfl 0 rfl ?_
    refine g_getI (pc := 14) wfX6_16 rfl rfl dX6_byteOf_14 ?_
    obtain ⟨c4, h⟩ := g_gn h
    refine g_irem (pc := 17) dX6_byteOf_17 c4 ?_
    cases h
    exact g_iret (pc := 18) rfl rfl rfl rfl dX6_byteOf_18
  · have h := g_iff c3 h
    refine g_iconst (pc := 8) (v := 0) dX6_byteOf_8 (by decide) ?_
    refine g_goto (pc := 9) (tgt := 18) dX6_byteOf_9 (by decide) ?_
    cases h
    exact g_iret (pc := 18) rfl rfl rfl rfl dX6_byteOf_18
def fX5_mend_b73 (n : Nat) (i : Nat) (v1 : Int32) (v2 : Int32) (s0 : Int32) (σ : gM) : Option (gM) := g_bI (fX5_get i v1 σ) (fun r22 σ21 => g_bV (fX5_set i v1 ((r22 ^^^ v2) ^^^ s0) σ21) (fun σ24 => some σ24))
set_option maxRecDepth 100000 in
theorem tX5_mend_b73 (hE : gEX l dC dI ad ca X) {σ' : gM} (n : Nat) (i : Nat) (hi : i < 3) (v1 : Int32) (v2 : Int32) (s0 : Int32)  (σ : gM) (h : fX5_mend_b73 n i v1 v2 s0 σ = some σ') : g_G l dC dI ad ca shX X cX5_mend 4 RX5 none (gR 2) none σ' 73 [(0, .ref (12 + 5 * i)), (1, .int v1), (2, .int v2)] [.int s0] σ := by
  unfold fX5_mend_b73 at h
  refine g_istore_n (pc := 73) (lv1 := [(3, .int s0), (0, .ref (12 + 5 * i)), (1, .int v1), (2, .int v2)]) dX5_mend_73 rfl (by decide) rfl ?_
  refine g_aload_n (pc := 74) dX5_mend_74 rfl 1 rfl ?_
  refine g_iload_n (pc := 75) dX5_mend_75 rfl 2 rfl ?_
  refine g_aload_n (pc := 76) dX5_mend_76 rfl 1 rfl ?_
  refine g_iload_n (pc := 77) dX5_mend_77 rfl 2 rfl ?_
  obtain ⟨r22, σ21, h20, h⟩ := g_bId h
  refine g_callVi (pc := 78) (st := [.int v1, .ref (12 + 5 * i)]) hE.1 wvX5_85 (sX_row hi) rfl (kX5_get hE i hi v1 σ h20) rfl (gR_ok (by decide) (by decide)) (Nat.le_of_ble_eq_true rfl) rfl dX5_mend_78 ?_
  refine g_iload_n (pc := 81) dX5_mend_81 rfl 3 rfl ?_
  refine g_ixor (pc := 82) dX5_mend_82 ?_
  refine g_iload_n (pc := 83) dX5_mend_83 rfl 0 rfl ?_
  refine g_ixor (pc := 84) dX5_mend_84 ?_
  obtain ⟨σ24, h23, h⟩ := g_bVd h
  refine g_callVv (pc := 85) (st := []) hE.1 wvX5_57 (sX_row hi) rfl (kX5_set hE i hi v1 ((r22 ^^^ v2) ^^^ s0) σ21 h23) rfl (gR_ok (by decide) (by decide)) (Nat.le_of_ble_eq_true rfl) rfl dX5_mend_85 ?_
  cases h
  exact g_vret (pc := 88) rfl rfl rfl dX5_mend_88
def fX5_mend_b36 (n : Nat) (i : Nat) (v1 : Int32) (s0 : Int32) (σ : gM) : Option (gM) := if v1 = (σ.1 5 7) then (g_bI (fX5_get i (σ.1 5 7) σ) (fun r31 σ30 => fX5_mend_b73 n i v1 s0 r31 σ30)) else (g_bI (fX5_get i (σ.1 5 6) σ) (fun r28 σ27 => fX5_mend_b73 n i v1 s0 r28 σ27))
set_option maxRecDepth 100000 in
theorem tX5_mend_b36 (hE : gEX l dC dI ad ca X) {σ' : gM} (n : Nat) (i : Nat) (hi : i < 3) (v1 : Int32) (s0 : Int32)  (σ : gM) (h : fX5_mend_b36 n i v1 s0 σ = some σ') : g_G l dC dI ad ca shX X cX5_mend 4 RX5 none (gR 2) none σ' 36 [(0, .ref (12 + 5 * i)), (1, .int v1)] [.int s0] σ := by
  unfold fX5_mend_b36 at h
  refine g_istore_n (pc := 36) (lv1 := [(2, .int s0), (0, .ref (12 + 5 * i)), (1, .int v1)]) dX5_mend_36 rfl (by decide) rfl ?_
  refine g_iload_n (pc := 37) dX5_mend_37 rfl 2 rfl ?_
  refine g_aload_n (pc := 38) dX5_mend_38 rfl 1 rfl ?_
  refine g_getR (pc := 39) wfX5_17 (sX_row hi) rfl dX5_mend_39 ?_
  refine g_getI (pc := 42) wfX5_61 rfl rfl dX5_mend_42 ?_
  refine g_icmp_ne (pc := 45) (tgt := 62) dX5_mend_45 (by decide) (fun c25 => ?_) (fun c25 => ?_)
  · have h := g_iff c25 h
    refine g_aload_n (pc := 62) dX5_mend_62 rfl 1 rfl ?_
    refine g_aload_n (pc := 63) dX5_mend_63 rfl 1 rfl ?_
    refine g_getR (pc := 64) wfX5_17 (sX_row hi) rfl dX5_mend_64 ?_
    refine g_getI (pc := 67) wfX5_46 rfl rfl dX5_mend_67 ?_
    obtain ⟨r28, σ27, h26, h⟩ := g_bId h
    refine g_callVi (pc := 70) (st := []) hE.1 wvX5_85 (sX_row hi) rfl (kX5_get hE i hi (σ.1 5 6) σ h26) rfl (gR_ok (by decide) (by decide)) (Nat.le_of_ble_eq_true rfl) rfl dX5_mend_70 ?_
    exact g_lv [1, 2, 0] rfl (tX5_mend_b73 hE n i hi v1 s0 r28 σ27 h)
  · have h := g_ift c25 h
    refine g_aload_n (pc := 48) dX5_mend_48 rfl 1 rfl ?_
    refine g_aload_n (pc := 49) dX5_mend_49 rfl 1 rfl ?_
    refine g_getR (pc := 50) wfX5_17 (sX_row hi) rfl dX5_mend_50 ?_
    refine g_getI (pc := 53) wfX5_61 rfl rfl dX5_mend_53 ?_
    obtain ⟨r31, σ30, h29, h⟩ := g_bId h
    refine g_callVi (pc := 56) (st := []) hE.1 wvX5_85 (sX_row hi) rfl (kX5_get hE i hi (σ.1 5 7) σ h29) rfl (gR_ok (by decide) (by decide)) (Nat.le_of_ble_eq_true rfl) rfl dX5_mend_56 ?_
    refine g_goto (pc := 59) (tgt := 73) dX5_mend_59 (by decide) ?_
    exact g_lv [1, 2, 0] rfl (tX5_mend_b73 hE n i hi v1 s0 r31 σ30 h)
def fX5_mend (n : Nat) (i : Nat) (v1 : Int32) (σ : gM) : Option (gM) := if v1 = (σ.1 5 7) then (g_bI (fX1_sumByPowers n i (σ.1 5 0) σ) (fun r38 σ37 => fX5_mend_b36 n i v1 r38 σ37)) else (g_bI (fX5_sumForP n i σ) (fun r35 σ34 => fX5_mend_b36 n i v1 r35 σ34))
set_option maxRecDepth 100000 in
theorem kX5_mend (hE : gEX l dC dI ad ca X) (n : Nat) (i : Nat) (hi : i < 3)  (v1 : Int32) (σ : gM) {σ' : gM} (h : fX5_mend n i v1 σ = some σ') : g_C l dC dI ad ca shX X yX5_mend cX5_mend 4 none (gR 2) [.ref (12 + 5 * i), .int v1] σ none σ' := by
  refine g_entry (by decide +kernel) (Nat.le_of_ble_eq_true rfl) ?_
  refine g_lvE (lv1 := [(0, .ref (12 + 5 * i)), (1, .int v1)]) rfl ?_
  unfold fX5_mend at h
  refine g_iload_n (pc := 0) dX5_mend_0 rfl 1 rfl ?_
  refine g_aload_n (pc := 1) dX5_mend_1 rfl 0 rfl ?_
  refine g_getR (pc := 2) wfX5_17 (sX_row hi) rfl dX5_mend_2 ?_
  refine g_getI (pc := 5) wfX5_61 rfl rfl dX5_mend_5 ?_
  refine g_icmp_ne (pc := 8) (tgt := 32) dX5_mend_8 (by decide) (fun c32 => ?_) (fun c32 => ?_)
  · have h := g_iff c32 h
    refine g_aload_n (pc := 32) dX5_mend_32 rfl 0 rfl ?_
    obtain ⟨r35, σ34, h33, h⟩ := g_bId h
    refine g_callVi (pc := 33) (st := []) hE.1 wvX5_53 (sX_row hi) rfl (kX5_sumForP hE n i hi σ h33) rfl (gR_ok (by decide) (by decide)) (Nat.le_of_ble_eq_true rfl) rfl dX5_mend_33 ?_
    exact g_lv [0, 1] rfl (tX5_mend_b36 hE n i hi v1 r35 σ34 h)
  · have h := g_ift c32 h
    refine g_aload_n (pc := 11) dX5_mend_11 rfl 0 rfl ?_
    refine g_getR (pc := 12) wfX5_21 (sX_row hi) rfl dX5_mend_12 ?_
    refine g_aload_n (pc := 15) dX5_mend_15 rfl 0 rfl ?_
    refine g_getR (pc := 16) wfX5_11 (sX_row hi) rfl dX5_mend_16 ?_
    refine g_aload_n (pc := 19) dX5_mend_19 rfl 0 rfl ?_
    refine g_getR (pc := 20) wfX5_17 (sX_row hi) rfl dX5_mend_20 ?_
    refine g_getI (pc := 23) wfX5_64 rfl rfl dX5_mend_23 ?_
    obtain ⟨r38, σ37, h36, h⟩ := g_bId h
    refine g_callVi (pc := 26) (st := []) hE.1 wvX5_67 rfl rfl (kX1_sumByPowers hE n i hi (σ.1 5 0) σ h36) rfl (gR_ok (by decide) (by decide)) (Nat.le_of_ble_eq_true rfl) rfl dX5_mend_26 ?_
    refine g_goto (pc := 29) (tgt := 36) dX5_mend_29 (by decide) ?_
    exact g_lv [0, 1] rfl (tX5_mend_b36 hE n i hi v1 r38 σ37 h)
def fX5_reckonSums (n : Nat) (i : Nat) (σ : gM) : Option (gM) := g_bI (fX5_sumForP n i σ) (fun r13 σ12 => g_bV (fX5_set i (σ.1 5 6) r13 σ12) (fun σ15 => g_bI (fX1_sumByPowers n i (σ15.1 5 0) σ15) (fun r18 σ17 => g_bV (fX5_set i (σ15.1 5 7) r18 σ17) (fun σ20 => some σ20))))
set_option maxRecDepth 100000 in
theorem kX5_reckonSums (hE : gEX l dC dI ad ca X) (n : Nat) (i : Nat) (hi : i < 3)  (σ : gM) {σ' : gM} (h : fX5_reckonSums n i σ = some σ') : g_C l dC dI ad ca shX X yX5_reckonSums cX5_reckonSums 1 none (gR 2) [.ref (12 + 5 * i)] σ none σ' := by
  refine g_entry (by decide +kernel) (Nat.le_of_ble_eq_true rfl) ?_
  refine g_lvE (lv1 := [(0, .ref (12 + 5 * i))]) rfl ?_
  unfold fX5_reckonSums at h
  refine g_aload_n (pc := 0) dX5_reckonSums_0 rfl 0 rfl ?_
  refine g_aload_n (pc := 1) dX5_reckonSums_1 rfl 0 rfl ?_
  refine g_getR (pc := 2) wfX5_17 (sX_row hi) rfl dX5_reckonSums_2 ?_
  refine g_getI (pc := 5) wfX5_46 rfl rfl dX5_reckonSums_5 ?_
  refine g_aload_n (pc := 8) dX5_reckonSums_8 rfl 0 rfl ?_
  obtain ⟨r13, σ12, h11, h⟩ := g_bId h
  refine g_callVi (pc := 9) (st := [.int (σ.1 5 6), .ref (12 + 5 * i)]) hE.1 wvX5_53 (sX_row hi) rfl (kX5_sumForP hE n i hi σ h11) rfl (gR_ok (by decide) (by decide)) (Nat.le_of_ble_eq_true rfl) rfl dX5_reckonSums_9 ?_
  obtain ⟨σ15, h14, h⟩ := g_bVd h
  refine g_callVv (pc := 12) (st := []) hE.1 wvX5_57 (sX_row hi) rfl (kX5_set hE i hi (σ.1 5 6) r13 σ12 h14) rfl (gR_ok (by decide) (by decide)) (Nat.le_of_ble_eq_true rfl) rfl dX5_reckonSums_12 ?_
  refine g_aload_n (pc := 15) dX5_reckonSums_15 rfl 0 rfl ?_
  refine g_aload_n (pc := 16) dX5_reckonSums_16 rfl 0 rfl ?_
  refine g_getR (pc := 17) wfX5_17 (sX_row hi) rfl dX5_reckonSums_17 ?_
  refine g_getI (pc := 20) wfX5_61 rfl rfl dX5_reckonSums_20 ?_
  refine g_aload_n (pc := 23) dX5_reckonSums_23 rfl 0 rfl ?_
  refine g_getR (pc := 24) wfX5_21 (sX_row hi) rfl dX5_reckonSums_24 ?_
  refine g_aload_n (pc := 27) dX5_reckonSums_27 rfl 0 rfl ?_
  refine g_getR (pc := 28) wfX5_11 (sX_row hi) rfl dX5_reckonSums_28 ?_
  refine g_aload_n (pc := 31) dX5_reckonSums_31 rfl 0 rfl ?_
  refine g_getR (pc := 32) wfX5_17 (sX_row hi) rfl dX5_reckonSums_32 ?_
  refine g_getI (pc := 35) wfX5_64 rfl rfl dX5_reckonSums_35 ?_
  obtain ⟨r18, σ17, h16, h⟩ := g_bId h
  refine g_callVi (pc := 38) (st := [.int (σ15.1 5 7), .ref (12 + 5 * i)]) hE.1 wvX5_67 rfl rfl (kX1_sumByPowers hE n i hi (σ15.1 5 0) σ15 h16) rfl (gR_ok (by decide) (by decide)) (Nat.le_of_ble_eq_true rfl) rfl dX5_reckonSums_38 ?_
  obtain ⟨σ20, h19, h⟩ := g_bVd h
  refine g_callVv (pc := 41) (st := []) hE.1 wvX5_57 (sX_row hi) rfl (kX5_set hE i hi (σ15.1 5 7) r18 σ17 h19) rfl (gR_ok (by decide) (by decide)) (Nat.le_of_ble_eq_true rfl) rfl dX5_reckonSums_41 ?_
  cases h
  exact g_vret (pc := 44) rfl rfl rfl dX5_reckonSums_44
def fX5_change (i : Nat) (v1 : Int32) (v2 : Int32) (σ : gM) : Option (gM) := g_bI (fX5_get i v1 σ) (fun r24 σ23 => g_bV (fX5_set i v1 v2 σ23) (fun σ26 => g_bI (fX5_get i (σ26.1 5 6) σ26) (fun r29 σ28 => g_bV (fX5_set i (σ26.1 5 6) (r29 ^^^ (r24 ^^^ v2)) σ28) (fun σ31 => g_bI (fX5_get i (σ31.1 5 7) σ31) (fun r34 σ33 => g_bI (fX1_powerOfTwo v1 σ33) (fun r37 σ36 => g_bI (fX1_product (r24 ^^^ v2) r37 σ36) (fun r40 σ39 => g_bV (fX5_set i (σ31.1 5 7) (r34 ^^^ r40) σ39) (fun σ42 => some σ42))))))))
set_option maxRecDepth 100000 in
theorem kX5_change (hE : gEX l dC dI ad ca X) (i : Nat) (hi : i < 3)  (v1 : Int32) (v2 : Int32) (σ : gM) {σ' : gM} (h : fX5_change i v1 v2 σ = some σ') : g_C l dC dI ad ca shX X yX5_change cX5_change 4 none (gR 2) [.ref (12 + 5 * i), .int v1, .int v2] σ none σ' := by
  refine g_entry (by decide +kernel) (Nat.le_of_ble_eq_true rfl) ?_
  refine g_lvE (lv1 := [(0, .ref (12 + 5 * i)), (1, .int v1), (2, .int v2)]) rfl ?_
  unfold fX5_change at h
  refine g_aload_n (pc := 0) dX5_change_0 rfl 0 rfl ?_
  refine g_iload_n (pc := 1) dX5_change_1 rfl 1 rfl ?_
  obtain ⟨r24, σ23, h22, h⟩ := g_bId h
  refine g_callVi (pc := 2) (st := []) hE.1 wvX5_85 (sX_row hi) rfl (kX5_get hE i hi v1 σ h22) rfl (gR_ok (by decide) (by decide)) (Nat.le_of_ble_eq_true rfl) rfl dX5_change_2 ?_
  refine g_iload_n (pc := 5) dX5_change_5 rfl 2 rfl ?_
  refine g_ixor (pc := 6) dX5_change_6 ?_
  refine g_istore_n (pc := 7) (lv1 := [(3, .int (r24 ^^^ v2)), (0, .ref (12 + 5 * i)), (1, .int v1), (2, .int v2)]) dX5_change_7 rfl (by decide) rfl ?_
  refine g_aload_n (pc := 8) dX5_change_8 rfl 1 rfl ?_
  refine g_iload_n (pc := 9) dX5_change_9 rfl 2 rfl ?_
  refine g_iload_n (pc := 10) dX5_change_10 rfl 3 rfl ?_
  obtain ⟨σ26, h25, h⟩ := g_bVd h
  refine g_callVv (pc := 11) (st := []) hE.1 wvX5_57 (sX_row hi) rfl (kX5_set hE i hi v1 v2 σ23 h25) rfl (gR_ok (by decide) (by decide)) (Nat.le_of_ble_eq_true rfl) rfl dX5_change_11 ?_
  refine g_aload_n (pc := 14) dX5_change_14 rfl 1 rfl ?_
  refine g_aload_n (pc := 15) dX5_change_15 rfl 1 rfl ?_
  refine g_getR (pc := 16) wfX5_17 (sX_row hi) rfl dX5_change_16 ?_
  refine g_getI (pc := 19) wfX5_46 rfl rfl dX5_change_19 ?_
  refine g_aload_n (pc := 22) dX5_change_22 rfl 1 rfl ?_
  refine g_aload_n (pc := 23) dX5_change_23 rfl 1 rfl ?_
  refine g_getR (pc := 24) wfX5_17 (sX_row hi) rfl dX5_change_24 ?_
  refine g_getI (pc := 27) wfX5_46 rfl rfl dX5_change_27 ?_
  obtain ⟨r29, σ28, h27, h⟩ := g_bId h
  refine g_callVi (pc := 30) (st := [.int (σ26.1 5 6), .ref (12 + 5 * i)]) hE.1 wvX5_85 (sX_row hi) rfl (kX5_get hE i hi (σ26.1 5 6) σ26 h27) rfl (gR_ok (by decide) (by decide)) (Nat.le_of_ble_eq_true rfl) rfl dX5_change_30 ?_
  refine g_iload_n (pc := 33) dX5_change_33 rfl 0 rfl ?_
  refine g_ixor (pc := 34) dX5_change_34 ?_
  obtain ⟨σ31, h30, h⟩ := g_bVd h
  refine g_callVv (pc := 35) (st := []) hE.1 wvX5_57 (sX_row hi) rfl (kX5_set hE i hi (σ26.1 5 6) (r29 ^^^ (r24 ^^^ v2)) σ28 h30) rfl (gR_ok (by decide) (by decide)) (Nat.le_of_ble_eq_true rfl) rfl dX5_change_35 ?_
  refine g_aload_n (pc := 38) dX5_change_38 rfl 1 rfl ?_
  refine g_aload_n (pc := 39) dX5_change_39 rfl 1 rfl ?_
  refine g_getR (pc := 40) wfX5_17 (sX_row hi) rfl dX5_change_40 ?_
  refine g_getI (pc := 43) wfX5_61 rfl rfl dX5_change_43 ?_
  refine g_aload_n (pc := 46) dX5_change_46 rfl 1 rfl ?_
  refine g_aload_n (pc := 47) dX5_change_47 rfl 1 rfl ?_
  refine g_getR (pc := 48) wfX5_17 (sX_row hi) rfl dX5_change_48 ?_
  refine g_getI (pc := 51) wfX5_61 rfl rfl dX5_change_51 ?_
  obtain ⟨r34, σ33, h32, h⟩ := g_bId h
  refine g_callVi (pc := 54) (st := [.int (σ31.1 5 7), .ref (12 + 5 * i)]) hE.1 wvX5_85 (sX_row hi) rfl (kX5_get hE i hi (σ31.1 5 7) σ31 h32) rfl (gR_ok (by decide) (by decide)) (Nat.le_of_ble_eq_true rfl) rfl dX5_change_54 ?_
  refine g_aload_n (pc := 57) dX5_change_57 rfl 1 rfl ?_
  refine g_getR (pc := 58) wfX5_21 (sX_row hi) rfl dX5_change_58 ?_
  refine g_iload_n (pc := 61) dX5_change_61 rfl 0 rfl ?_
  refine g_aload_n (pc := 62) dX5_change_62 rfl 1 rfl ?_
  refine g_getR (pc := 63) wfX5_21 (sX_row hi) rfl dX5_change_63 ?_
  refine g_iload_n (pc := 66) dX5_change_66 rfl 2 rfl ?_
  obtain ⟨r37, σ36, h35, h⟩ := g_bId h
  refine g_callVi (pc := 67) (st := [.int (r24 ^^^ v2), .ref 6, .int r34, .int (σ31.1 5 7), .ref (12 + 5 * i)]) hE.1 wvX5_82 rfl rfl (kX1_powerOfTwo hE v1 σ33 h35) rfl (gR_ok (by decide) (by decide)) (Nat.le_of_ble_eq_true rfl) rfl dX5_change_67 ?_
  obtain ⟨r40, σ39, h38, h⟩ := g_bId h
  refine g_callVi (pc := 70) (st := [.int r34, .int (σ31.1 5 7), .ref (12 + 5 * i)]) hE.1 wvX5_91 rfl rfl (kX1_product hE (r24 ^^^ v2) r37 σ36 h38) rfl (gR_ok (by decide) (by decide)) (Nat.le_of_ble_eq_true rfl) rfl dX5_change_70 ?_
  refine g_ixor (pc := 73) dX5_change_73 ?_
  obtain ⟨σ42, h41, h⟩ := g_bVd h
  refine g_callVv (pc := 74) (st := []) hE.1 wvX5_57 (sX_row hi) rfl (kX5_set hE i hi (σ31.1 5 7) (r34 ^^^ r40) σ39 h41) rfl (gR_ok (by decide) (by decide)) (Nat.le_of_ble_eq_true rfl) rfl dX5_change_74 ?_
  cases h
  exact g_vret (pc := 77) rfl rfl rfl dX5_change_77
def fX6_take (σ : gM) : Option (gM) := g_bI (fX10_item 0 σ) (fun r38 σ37 => g_let (g_put σ37 5 0 r38) (fun σ39 => g_bI (fX10_item 1 σ39) (fun r43 σ42 => g_let (g_put σ42 5 1 r43) (fun σ44 => g_bI (fX10_item 2 σ44) (fun r48 σ47 => g_let (g_put σ47 5 2 r48) (fun σ49 => g_bI (fX10_item 3 σ49) (fun r53 σ52 => g_let (g_put σ52 5 3 r53) (fun σ54 => g_bI (fX10_item 4 σ54) (fun r58 σ57 => g_let (g_put σ57 5 4 r58) (fun σ59 => g_let (g_put σ59 5 5 ((σ59.1 5 0) + 2)) (fun σ61 => g_let (g_put σ61 5 6 (σ61.1 5 0)) (fun σ63 => g_let (g_put σ63 5 7 ((σ63.1 5 0) + 1)) (fun σ65 => g_let (g_put σ65 5 8 ((1 <<< ((σ65.1 5 0) &&& 31)) - 1)) (fun σ67 => g_let (g_put σ67 5 9 ((1 <<< ((σ67.1 5 5) &&& 31)) - 1)) (fun σ69 => some σ69)))))))))))))))
set_option maxRecDepth 100000 in
theorem kX6_take (hE : gEX l dC dI ad ca X)  (σ : gM) {σ' : gM} (h : fX6_take σ = some σ') : g_C l dC dI ad ca shX X yX6_take cX6_take 2 none (gR 1) [.ref 5, .ref 1] σ none σ' := by
  refine g_entry (by decide +kernel) (Nat.le_of_ble_eq_true rfl) ?_
  refine g_lvE (lv1 := [(0, .ref 5), (1, .ref 1)]) rfl ?_
  unfold fX6_take at h
  refine g_aload_n (pc := 0) dX6_take_0 rfl 0 rfl ?_
  refine g_aload_n (pc := 1) dX6_take_1 rfl 1 rfl ?_
  refine g_iconst (pc := 2) (v := 0) dX6_take_2 (by decide) ?_
  obtain ⟨r38, σ37, h36, h⟩ := g_bId h
  refine g_callVi (pc := 3) (st := [.ref 5]) hE.1 wvX6_40 rfl rfl (kX10_item hE 0 σ h36) rfl (gR_ok (by decide) (by decide)) (Nat.le_of_ble_eq_true rfl) rfl dX6_take_3 ?_
  obtain ⟨σ39, e40, h⟩ := g_ltd h
  refine g_putI (pc := 6) wfX6_7 rfl rfl rfl rfl e40 dX6_take_6 ?_
  refine g_aload_n (pc := 9) dX6_take_9 rfl 0 rfl ?_
  refine g_aload_n (pc := 10) dX6_take_10 rfl 1 rfl ?_
  refine g_iconst (pc := 11) (v := 1) dX6_take_11 (by decide) ?_
  obtain ⟨r43, σ42, h41, h⟩ := g_bId h
  refine g_callVi (pc := 12) (st := [.ref 5]) hE.1 wvX6_40 rfl rfl (kX10_item hE 1 σ39 h41) rfl (gR_ok (by decide) (by decide)) (Nat.le_of_ble_eq_true rfl) rfl dX6_take_12 ?_
  obtain ⟨σ44, e45, h⟩ := g_ltd h
  refine g_putI (pc := 15) wfX6_13 rfl rfl rfl rfl e45 dX6_take_15 ?_
  refine g_aload_n (pc := 18) dX6_take_18 rfl 0 rfl ?_
  refine g_aload_n (pc := 19) dX6_take_19 rfl 1 rfl ?_
  refine g_iconst (pc := 20) (v := 2) dX6_take_20 (by decide) ?_
  obtain ⟨r48, σ47, h46, h⟩ := g_bId h
  refine g_callVi (pc := 21) (st := [.ref 5]) hE.1 wvX6_40 rfl rfl (kX10_item hE 2 σ44 h46) rfl (gR_ok (by decide) (by decide)) (Nat.le_of_ble_eq_true rfl) rfl dX6_take_21 ?_
  obtain ⟨σ49, e50, h⟩ := g_ltd h
  refine g_putI (pc := 24) wfX6_16 rfl rfl rfl rfl e50 dX6_take_24 ?_
  refine g_aload_n (pc := 27) dX6_take_27 rfl 0 rfl ?_
  refine g_aload_n (pc := 28) dX6_take_28 rfl 1 rfl ?_
  refine g_iconst (pc := 29) (v := 3) dX6_take_29 (by decide) ?_
  obtain ⟨r53, σ52, h51, h⟩ := g_bId h
  refine g_callVi (pc := 30) (st := [.ref 5]) hE.1 wvX6_40 rfl rfl (kX10_item hE 3 σ49 h51) rfl (gR_ok (by decide) (by decide)) (Nat.le_of_ble_eq_true rfl) rfl dX6_take_30 ?_
  obtain ⟨σ54, e55, h⟩ := g_ltd h
  refine g_putI (pc := 33) wfX6_19 rfl rfl rfl rfl e55 dX6_take_33 ?_
  refine g_aload_n (pc := 36) dX6_take_36 rfl 0 rfl ?_
  refine g_aload_n (pc := 37) dX6_take_37 rfl 1 rfl ?_
  refine g_iconst (pc := 38) (v := 4) dX6_take_38 (by decide) ?_
  obtain ⟨r58, σ57, h56, h⟩ := g_bId h
  refine g_callVi (pc := 39) (st := [.ref 5]) hE.1 wvX6_40 rfl rfl (kX10_item hE 4 σ54 h56) rfl (gR_ok (by decide) (by decide)) (Nat.le_of_ble_eq_true rfl) rfl dX6_take_39 ?_
  obtain ⟨σ59, e60, h⟩ := g_ltd h
  refine g_putI (pc := 42) wfX6_22 rfl rfl rfl rfl e60 dX6_take_42 ?_
  refine g_aload_n (pc := 45) dX6_take_45 rfl 0 rfl ?_
  refine g_aload_n (pc := 46) dX6_take_46 rfl 0 rfl ?_
  refine g_getI (pc := 47) wfX6_7 rfl rfl dX6_take_47 ?_
  refine g_iconst (pc := 50) (v := 2) dX6_take_50 (by decide) ?_
  refine g_iadd (pc := 51) dX6_take_51 ?_
  obtain ⟨σ61, e62, h⟩ := g_ltd h
  refine g_putI (pc := 52) wfX6_25 rfl rfl rfl rfl e62 dX6_take_52 ?_
  refine g_aload_n (pc := 55) dX6_take_55 rfl 0 rfl ?_
  refine g_aload_n (pc := 56) dX6_take_56 rfl 0 rfl ?_
  refine g_getI (pc := 57) wfX6_7 rfl rfl dX6_take_57 ?_
  obtain ⟨σ63, e64, h⟩ := g_ltd h
  refine g_putI (pc := 60) wfX6_28 rfl rfl rfl rfl e64 dX6_take_60 ?_
  refine g_aload_n (pc := 63) dX6_take_63 rfl 0 rfl ?_
  refine g_aload_n (pc := 64) dX6_take_64 rfl 0 rfl ?_
  refine g_getI (pc := 65) wfX6_7 rfl rfl dX6_take_65 ?_
  refine g_iconst (pc := 68) (v := 1) dX6_take_68 (by decide) ?_
  refine g_iadd (pc := 69) dX6_take_69 ?_
  obtain ⟨σ65, e66, h⟩ := g_ltd h
  refine g_putI (pc := 70) wfX6_31 rfl rfl rfl rfl e66 dX6_take_70 ?_
  refine g_aload_n (pc := 73) dX6_take_73 rfl 0 rfl ?_
  refine g_iconst (pc := 74) (v := 1) dX6_take_74 (by decide) ?_
  refine g_aload_n (pc := 75) dX6_take_75 rfl 0 rfl ?_
  refine g_getI (pc := 76) wfX6_7 rfl rfl dX6_take_76 ?_
  refine g_ishl (pc := 79) dX6_take_79 ?_
  refine g_iconst (pc := 80) (v := 1) dX6_take_80 (by decide) ?_
  refine g_isub (pc := 81) dX6_take_81 ?_
  obtain ⟨σ67, e68, h⟩ := g_ltd h
  refine g_putI (pc := 82) wfX6_34 rfl rfl rfl rfl e68 dX6_take_82 ?_
  refine g_aload_n (pc := 85) dX6_take_85 rfl 0 rfl ?_
  refine g_iconst (pc := 86) (v := 1) dX6_take_86 (by decide) ?_
  refine g_aload_n (pc := 87) dX6_take_87 rfl 0 rfl ?_
  refine g_getI (pc := 88) wfX6_25 rfl rfl dX6_take_88 ?_
  refine g_ishl (pc := 91) dX6_take_91 ?_
  refine g_iconst (pc := 92) (v := 1) dX6_take_92 (by decide) ?_
  refine g_isub (pc := 93) dX6_take_93 ?_
  obtain ⟨σ69, e70, h⟩ := g_ltd h
  refine g_putI (pc := 94) wfX6_37 rfl rfl rfl rfl e70 dX6_take_94 ?_
  cases h
  exact g_vret (pc := 97) rfl rfl rfl dX6_take_97
def fX6_present (σ : gM) : Option (Int32 × gM) := if (σ.1 5 5) ≤ 0 then (some (0, σ)) else (some (1, σ))
set_option maxRecDepth 100000 in
theorem kX6_present (hE : gEX l dC dI ad ca X)  (σ : gM) {r0 : Int32} {σ' : gM} (h : fX6_present σ = some (r0, σ')) : g_C l dC dI ad ca shX X yX6_present cX6_present 1 (some .boolean) (gR 0) [.ref 5] σ (some (.int r0)) σ' := by
  refine g_entry (by decide +kernel) (Nat.le_of_ble_eq_true rfl) ?_
  refine g_lvE (lv1 := [(0, .ref 5)]) rfl ?_
  unfold fX6_present at h
  refine g_aload_n (pc := 0) dX6_present_0 rfl 0 rfl ?_
  refine g_getI (pc := 1) wfX6_25 rfl rfl dX6_present_1 ?_
  refine g_if_le (pc := 4) (tgt := 11) dX6_present_4 (by decide) (fun c2 => ?_) (fun c2 => ?_)
  · have h := g_ift c2 h
    refine g_iconst (pc := 11) (v := 0) dX6_present_11 (by decide) ?_
    cases h
    exact g_iret (pc := 12) rfl (by decide) rfl rfl dX6_present_12
  · have h := g_iff c2 h
    refine g_iconst (pc := 7) (v := 1) dX6_present_7 (by decide) ?_
    refine g_goto (pc := 8) (tgt := 12) dX6_present_8 (by decide) ?_
    cases h
    exact g_iret (pc := 12) rfl (by decide) rfl rfl dX6_present_12
def fX6_isAddress (v1 : Int32) (σ : gM) : Option (Int32 × gM) := if v1 < 0 then (some (0, σ)) else (g_bI (fX6_addresses σ) (fun r9 σ8 => if r9 ≤ v1 then (some (0, σ8)) else (some (1, σ8))))
set_option maxRecDepth 100000 in
theorem kX6_isAddress (hE : gEX l dC dI ad ca X)  (v1 : Int32) (σ : gM) {r0 : Int32} {σ' : gM} (h : fX6_isAddress v1 σ = some (r0, σ')) : g_C l dC dI ad ca shX X yX6_isAddress cX6_isAddress 2 (some .boolean) (gR 1) [.ref 5, .int v1] σ (some (.int r0)) σ' := by
  refine g_entry (by decide +kernel) (Nat.le_of_ble_eq_true rfl) ?_
  refine g_lvE (lv1 := [(0, .ref 5), (1, .int v1)]) rfl ?_
  unfold fX6_isAddress at h
  refine g_iload_n (pc := 0) dX6_isAddress_0 rfl 1 rfl ?_
  refine g_if_lt (pc := 1) (tgt := 16) dX6_isAddress_1 (by decide) (fun c6 => ?_) (fun c6 => ?_)
  · have h := g_ift c6 h
    refine g_iconst (pc := 16) (v := 0) dX6_isAddress_16 (by decide) ?_
    cases h
    exact g_iret (pc := 17) rfl (by decide) rfl rfl dX6_isAddress_17
  · have h := g_iff c6 h
    refine g_iload_n (pc := 4) dX6_isAddress_4 rfl 1 rfl ?_
    refine g_aload_n (pc := 5) dX6_isAddress_5 rfl 0 rfl ?_
    obtain ⟨r9, σ8, h7, h⟩ := g_bId h
    refine g_callVi (pc := 6) (st := [.int v1]) hE.1 wvX6_46 rfl rfl (kX6_addresses hE σ h7) rfl (gR_ok (by decide) (by decide)) (Nat.le_of_ble_eq_true rfl) rfl dX6_isAddress_6 ?_
    refine g_icmp_ge (pc := 9) (tgt := 16) dX6_isAddress_9 (by decide) (fun c10 => ?_) (fun c10 => ?_)
    · have h := g_ift c10 h
      refine g_iconst (pc := 16) (v := 0) dX6_isAddress_16 (by decide) ?_
      cases h
      exact g_iret (pc := 17) rfl (by decide) rfl rfl dX6_isAddress_17
    · have h := g_iff c10 h
      refine g_iconst (pc := 12) (v := 1) dX6_isAddress_12 (by decide) ?_
      refine g_goto (pc := 13) (tgt := 17) dX6_isAddress_13 (by decide) ?_
      cases h
      exact g_iret (pc := 17) rfl (by decide) rfl rfl dX6_isAddress_17
def fX6_isDisk (v1 : Int32) (σ : gM) : Option (Int32 × gM) := if v1 < 0 then (some (0, σ)) else (if (σ.1 5 5) ≤ v1 then (some (0, σ)) else (some (1, σ)))
set_option maxRecDepth 100000 in
theorem kX6_isDisk (hE : gEX l dC dI ad ca X)  (v1 : Int32) (σ : gM) {r0 : Int32} {σ' : gM} (h : fX6_isDisk v1 σ = some (r0, σ')) : g_C l dC dI ad ca shX X yX6_isDisk cX6_isDisk 2 (some .boolean) (gR 0) [.ref 5, .int v1] σ (some (.int r0)) σ' := by
  refine g_entry (by decide +kernel) (Nat.le_of_ble_eq_true rfl) ?_
  refine g_lvE (lv1 := [(0, .ref 5), (1, .int v1)]) rfl ?_
  unfold fX6_isDisk at h
  refine g_iload_n (pc := 0) dX6_isDisk_0 rfl 1 rfl ?_
  refine g_if_lt (pc := 1) (tgt := 16) dX6_isDisk_1 (by decide) (fun c3 => ?_) (fun c3 => ?_)
  · have h := g_ift c3 h
    refine g_iconst (pc := 16) (v := 0) dX6_isDisk_16 (by decide) ?_
    cases h
    exact g_iret (pc := 17) rfl (by decide) rfl rfl dX6_isDisk_17
  · have h := g_iff c3 h
    refine g_iload_n (pc := 4) dX6_isDisk_4 rfl 1 rfl ?_
    refine g_aload_n (pc := 5) dX6_isDisk_5 rfl 0 rfl ?_
    refine g_getI (pc := 6) wfX6_25 rfl rfl dX6_isDisk_6 ?_
    refine g_icmp_ge (pc := 9) (tgt := 16) dX6_isDisk_9 (by decide) (fun c4 => ?_) (fun c4 => ?_)
    · have h := g_ift c4 h
      refine g_iconst (pc := 16) (v := 0) dX6_isDisk_16 (by decide) ?_
      cases h
      exact g_iret (pc := 17) rfl (by decide) rfl rfl dX6_isDisk_17
    · have h := g_iff c4 h
      refine g_iconst (pc := 12) (v := 1) dX6_isDisk_12 (by decide) ?_
      refine g_goto (pc := 13) (tgt := 17) dX6_isDisk_13 (by decide) ?_
      cases h
      exact g_iret (pc := 17) rfl (by decide) rfl rfl dX6_isDisk_17
def fX6_isStripe (v1 : Int32) (σ : gM) : Option (Int32 × gM) := if v1 < 0 then (some (0, σ)) else (if (σ.1 5 1) ≤ v1 then (some (0, σ)) else (some (1, σ)))
set_option maxRecDepth 100000 in
theorem kX6_isStripe (hE : gEX l dC dI ad ca X)  (v1 : Int32) (σ : gM) {r0 : Int32} {σ' : gM} (h : fX6_isStripe v1 σ = some (r0, σ')) : g_C l dC dI ad ca shX X yX6_isStripe cX6_isStripe 2 (some .boolean) (gR 0) [.ref 5, .int v1] σ (some (.int r0)) σ' := by
  refine g_entry (by decide +kernel) (Nat.le_of_ble_eq_true rfl) ?_
  refine g_lvE (lv1 := [(0, .ref 5), (1, .int v1)]) rfl ?_
  unfold fX6_isStripe at h
  refine g_iload_n (pc := 0) dX6_isStripe_0 rfl 1 rfl ?_
  refine g_if_lt (pc := 1) (tgt := 16) dX6_isStripe_1 (by decide) (fun c3 => ?_) (fun c3 => ?_)
  · have h := g_ift c3 h
    refine g_iconst (pc := 16) (v := 0) dX6_isStripe_16 (by decide) ?_
    cases h
    exact g_iret (pc := 17) rfl (by decide) rfl rfl dX6_isStripe_17
  · have h := g_iff c3 h
    refine g_iload_n (pc := 4) dX6_isStripe_4 rfl 1 rfl ?_
    refine g_aload_n (pc := 5) dX6_isStripe_5 rfl 0 rfl ?_
    refine g_getI (pc := 6) wfX6_13 rfl rfl dX6_isStripe_6 ?_
    refine g_icmp_ge (pc := 9) (tgt := 16) dX6_isStripe_9 (by decide) (fun c4 => ?_) (fun c4 => ?_)
    · have h := g_ift c4 h
      refine g_iconst (pc := 16) (v := 0) dX6_isStripe_16 (by decide) ?_
      cases h
      exact g_iret (pc := 17) rfl (by decide) rfl rfl dX6_isStripe_17
    · have h := g_iff c4 h
      refine g_iconst (pc := 12) (v := 1) dX6_isStripe_12 (by decide) ?_
      refine g_goto (pc := 13) (tgt := 17) dX6_isStripe_13 (by decide) ?_
      cases h
      exact g_iret (pc := 17) rfl (by decide) rfl rfl dX6_isStripe_17
def fX6_isByteOfChunk (v1 : Int32) (σ : gM) : Option (Int32 × gM) := if v1 < 0 then (some (0, σ)) else (if (σ.1 5 2) ≤ v1 then (some (0, σ)) else (some (1, σ)))
set_option maxRecDepth 100000 in
theorem kX6_isByteOfChunk (hE : gEX l dC dI ad ca X)  (v1 : Int32) (σ : gM) {r0 : Int32} {σ' : gM} (h : fX6_isByteOfChunk v1 σ = some (r0, σ')) : g_C l dC dI ad ca shX X yX6_isByteOfChunk cX6_isByteOfChunk 2 (some .boolean) (gR 0) [.ref 5, .int v1] σ (some (.int r0)) σ' := by
  refine g_entry (by decide +kernel) (Nat.le_of_ble_eq_true rfl) ?_
  refine g_lvE (lv1 := [(0, .ref 5), (1, .int v1)]) rfl ?_
  unfold fX6_isByteOfChunk at h
  refine g_iload_n (pc := 0) dX6_isByteOfChunk_0 rfl 1 rfl ?_
  refine g_if_lt (pc := 1) (tgt := 16) dX6_isByteOfChunk_1 (by decide) (fun c3 => ?_) (fun c3 => ?_)
  · have h := g_ift c3 h
    refine g_iconst (pc := 16) (v := 0) dX6_isByteOfChunk_16 (by decide) ?_
    cases h
    exact g_iret (pc := 17) rfl (by decide) rfl rfl dX6_isByteOfChunk_17
  · have h := g_iff c3 h
    refine g_iload_n (pc := 4) dX6_isByteOfChunk_4 rfl 1 rfl ?_
    refine g_aload_n (pc := 5) dX6_isByteOfChunk_5 rfl 0 rfl ?_
    refine g_getI (pc := 6) wfX6_16 rfl rfl dX6_isByteOfChunk_6 ?_
    refine g_icmp_ge (pc := 9) (tgt := 16) dX6_isByteOfChunk_9 (by decide) (fun c4 => ?_) (fun c4 => ?_)
    · have h := g_ift c4 h
      refine g_iconst (pc := 16) (v := 0) dX6_isByteOfChunk_16 (by decide) ?_
      cases h
      exact g_iret (pc := 17) rfl (by decide) rfl rfl dX6_isByteOfChunk_17
    · have h := g_iff c4 h
      refine g_iconst (pc := 12) (v := 1) dX6_isByteOfChunk_12 (by decide) ?_
      refine g_goto (pc := 13) (tgt := 17) dX6_isByteOfChunk_13 (by decide) ?_
      cases h
      exact g_iret (pc := 17) rfl (by decide) rfl rfl dX6_isByteOfChunk_17
def fX6_isCell (v1 : Int32) (v2 : Int32) (v3 : Int32) (σ : gM) : Option (Int32 × gM) := g_bI (fX6_isDisk v1 σ) (fun r15 σ14 => if r15 = 0 then (some (0, σ14)) else (g_bI (fX6_isStripe v2 σ14) (fun r19 σ18 => if r19 = 0 then (some (0, σ18)) else (g_bI (fX6_isByteOfChunk v3 σ18) (fun r23 σ22 => if r23 = 0 then (some (0, σ22)) else (some (1, σ22)))))))
set_option maxRecDepth 100000 in
theorem kX6_isCell (hE : gEX l dC dI ad ca X)  (v1 : Int32) (v2 : Int32) (v3 : Int32) (σ : gM) {r0 : Int32} {σ' : gM} (h : fX6_isCell v1 v2 v3 σ = some (r0, σ')) : g_C l dC dI ad ca shX X yX6_isCell cX6_isCell 4 (some .boolean) (gR 1) [.ref 5, .int v1, .int v2, .int v3] σ (some (.int r0)) σ' := by
  refine g_entry (by decide +kernel) (Nat.le_of_ble_eq_true rfl) ?_
  refine g_lvE (lv1 := [(0, .ref 5), (1, .int v1), (2, .int v2), (3, .int v3)]) rfl ?_
  unfold fX6_isCell at h
  refine g_aload_n (pc := 0) dX6_isCell_0 rfl 0 rfl ?_
  refine g_iload_n (pc := 1) dX6_isCell_1 rfl 1 rfl ?_
  obtain ⟨r15, σ14, h13, h⟩ := g_bId h
  refine g_callVi (pc := 2) (st := []) hE.1 wvX6_50 rfl rfl (kX6_isDisk hE v1 σ h13) rfl (gR_ok (by decide) (by decide)) (Nat.le_of_ble_eq_true rfl) rfl dX6_isCell_2 ?_
  refine g_if_eq (pc := 5) (tgt := 28) dX6_isCell_5 (by decide) (fun c16 => ?_) (fun c16 => ?_)
  · have h := g_ift c16 h
    refine g_iconst (pc := 28) (v := 0) dX6_isCell_28 (by decide) ?_
    cases h
    exact g_iret (pc := 29) rfl (by decide) rfl rfl dX6_isCell_29
  · have h := g_iff c16 h
    refine g_aload_n (pc := 8) dX6_isCell_8 rfl 0 rfl ?_
    refine g_iload_n (pc := 9) dX6_isCell_9 rfl 2 rfl ?_
    obtain ⟨r19, σ18, h17, h⟩ := g_bId h
    refine g_callVi (pc := 10) (st := []) hE.1 wvX6_54 rfl rfl (kX6_isStripe hE v2 σ14 h17) rfl (gR_ok (by decide) (by decide)) (Nat.le_of_ble_eq_true rfl) rfl dX6_isCell_10 ?_
    refine g_if_eq (pc := 13) (tgt := 28) dX6_isCell_13 (by decide) (fun c20 => ?_) (fun c20 => ?_)
    · have h := g_ift c20 h
      refine g_iconst (pc := 28) (v := 0) dX6_isCell_28 (by decide) ?_
      cases h
      exact g_iret (pc := 29) rfl (by decide) rfl rfl dX6_isCell_29
    · have h := g_iff c20 h
      refine g_aload_n (pc := 16) dX6_isCell_16 rfl 0 rfl ?_
      refine g_iload_n (pc := 17) dX6_isCell_17 rfl 3 rfl ?_
      obtain ⟨r23, σ22, h21, h⟩ := g_bId h
      refine g_callVi (pc := 18) (st := []) hE.1 wvX6_57 rfl rfl (kX6_isByteOfChunk hE v3 σ18 h21) rfl (gR_ok (by decide) (by decide)) (Nat.le_of_ble_eq_true rfl) rfl dX6_isCell_18 ?_
      refine g_if_eq (pc := 21) (tgt := 28) dX6_isCell_21 (by decide) (fun c24 => ?_) (fun c24 => ?_)
      · have h := g_ift c24 h
        refine g_iconst (pc := 28) (v := 0) dX6_isCell_28 (by decide) ?_
        cases h
        exact g_iret (pc := 29) rfl (by decide) rfl rfl dX6_isCell_29
      · have h := g_iff c24 h
        refine g_iconst (pc := 24) (v := 1) dX6_isCell_24 (by decide) ?_
        refine g_goto (pc := 25) (tgt := 29) dX6_isCell_25 (by decide) ?_
        cases h
        exact g_iret (pc := 29) rfl (by decide) rfl rfl dX6_isCell_29
def fX7_numbersOf (v0 : Int32) (σ : gM) : Option (Int32 × gM) := if v0 < 0 then (some (0, σ)) else (if 9 ≤ v0 then (some (0, σ)) else (if ¬ (v0 < 0 ∨ 9 ≤ v0.toNatClampNeg) then (some (([2, 1, 1, 2, 1, 4, 3, 0, 4] : List Int32).getD v0.toNatClampNeg 0, σ)) else none))
set_option maxRecDepth 100000 in
theorem kX7_numbersOf (hE : gEX l dC dI ad ca X)  (v0 : Int32) (σ : gM) {r0 : Int32} {σ' : gM} (h : fX7_numbersOf v0 σ = some (r0, σ')) : g_C l dC dI ad ca shX X yX7_numbersOf cX7_numbersOf 1 (some .int) (gR 0) [.int v0] σ (some (.int r0)) σ' := by
  refine g_entry (by decide +kernel) (Nat.le_of_ble_eq_true rfl) ?_
  refine g_lvE (lv1 := [(0, .int v0)]) rfl ?_
  unfold fX7_numbersOf at h
  refine g_iload_n (pc := 0) dX7_numbersOf_0 rfl 0 rfl ?_
  refine g_if_lt (pc := 1) (tgt := 20) dX7_numbersOf_1 (by decide) (fun c4 => ?_) (fun c4 => ?_)
  · have h := g_ift c4 h
    refine g_iconst (pc := 20) (v := 0) dX7_numbersOf_20 (by decide) ?_
    cases h
    exact g_iret (pc := 21) rfl rfl rfl rfl dX7_numbersOf_21
  · have h := g_iff c4 h
    refine g_iload_n (pc := 4) dX7_numbersOf_4 rfl 0 rfl ?_
    refine g_gets (pc := 5) (xzA hE 3 rfl) wgX7_22 dX7_numbersOf_5 ?_
    refine g_tlen (pc := 8) (xtA hE 3 rfl) dX7_numbersOf_8 ?_
    refine g_icmp_ge (pc := 9) (tgt := 20) dX7_numbersOf_9 (by decide) (fun c5 => ?_) (fun c5 => ?_)
    · have h := g_ift c5 h
      refine g_iconst (pc := 20) (v := 0) dX7_numbersOf_20 (by decide) ?_
      cases h
      exact g_iret (pc := 21) rfl rfl rfl rfl dX7_numbersOf_21
    · have h := g_iff c5 h
      refine g_gets (pc := 12) (xzA hE 3 rfl) wgX7_22 dX7_numbersOf_12 ?_
      refine g_iload_n (pc := 15) dX7_numbersOf_15 rfl 0 rfl ?_
      obtain ⟨c6, h⟩ := g_gd h
      refine g_ti (pc := 16) (xtA hE 3 rfl) c6 rfl dX7_numbersOf_16 ?_
      refine g_goto (pc := 17) (tgt := 21) dX7_numbersOf_17 (by decide) ?_
      cases h
      exact g_iret (pc := 21) rfl rfl rfl rfl dX7_numbersOf_21
def fX7_size (i : Nat) (σ : gM) : Option (Int32 × gM) := some (σ.1 (35 + 3 * i) 2, σ)
set_option maxRecDepth 100000 in
theorem kX7_size (hE : gEX l dC dI ad ca X) (i : Nat) (hi : i < 5)  (σ : gM) {r0 : Int32} {σ' : gM} (h : fX7_size i σ = some (r0, σ')) : g_C l dC dI ad ca shX X yX7_size cX7_size 1 (some .int) (gR 0) [.ref (35 + 3 * i)] σ (some (.int r0)) σ' := by
  refine g_entry (by decide +kernel) (Nat.le_of_ble_eq_true rfl) ?_
  refine g_lvE (lv1 := [(0, .ref (35 + 3 * i))]) rfl ?_
  unfold fX7_size at h
  refine g_aload_n (pc := 0) dX7_size_0 rfl 0 rfl ?_
  refine g_getI (pc := 1) wfX7_18 (sX_script hi) rfl dX7_size_1 ?_
  cases h
  exact g_iret (pc := 4) rfl rfl rfl rfl dX7_size_4
def fX7_clear (i : Nat) (σ : gM) : Option (gM) := g_let (g_put σ (35 + 3 * i) 2 0) (fun σ3 => some σ3)
set_option maxRecDepth 100000 in
theorem kX7_clear (hE : gEX l dC dI ad ca X) (i : Nat) (hi : i < 5)  (σ : gM) {σ' : gM} (h : fX7_clear i σ = some σ') : g_C l dC dI ad ca shX X yX7_clear cX7_clear 1 none (gR 0) [.ref (35 + 3 * i)] σ none σ' := by
  refine g_entry (by decide +kernel) (Nat.le_of_ble_eq_true rfl) ?_
  refine g_lvE (lv1 := [(0, .ref (35 + 3 * i))]) rfl ?_
  unfold fX7_clear at h
  refine g_aload_n (pc := 0) dX7_clear_0 rfl 0 rfl ?_
  refine g_iconst (pc := 1) (v := 0) dX7_clear_1 (by decide) ?_
  obtain ⟨σ3, e4, h⟩ := g_ltd h
  refine g_putI (pc := 2) wfX7_18 (sX_script hi) rfl rfl rfl e4 dX7_clear_2 ?_
  cases h
  exact g_vret (pc := 5) rfl rfl rfl dX7_clear_5
def fX7_add (i : Nat) (v1 : Int32) (σ : gM) : Option (gM) := if 16 ≤ (σ.1 (35 + 3 * i) 2) then (some σ) else (if ¬ ((σ.1 (35 + 3 * i) 2) < 0 ∨ 16 ≤ (σ.1 (35 + 3 * i) 2).toNatClampNeg) then (g_let (g_put σ (36 + 3 * i) ((σ.1 (35 + 3 * i) 2).toNatClampNeg) v1) (fun σ9 => g_let (g_put σ9 (35 + 3 * i) 2 ((σ9.1 (35 + 3 * i) 2) + 1)) (fun σ11 => some σ11))) else none)
set_option maxRecDepth 100000 in
theorem kX7_add (hE : gEX l dC dI ad ca X) (i : Nat) (hi : i < 5)  (v1 : Int32) (σ : gM) {σ' : gM} (h : fX7_add i v1 σ = some σ') : g_C l dC dI ad ca shX X yX7_add cX7_add 2 none (gR 0) [.ref (35 + 3 * i), .int v1] σ none σ' := by
  refine g_entry (by decide +kernel) (Nat.le_of_ble_eq_true rfl) ?_
  refine g_lvE (lv1 := [(0, .ref (35 + 3 * i)), (1, .int v1)]) rfl ?_
  unfold fX7_add at h
  refine g_aload_n (pc := 0) dX7_add_0 rfl 0 rfl ?_
  refine g_getI (pc := 1) wfX7_18 (sX_script hi) rfl dX7_add_1 ?_
  refine g_bipush (pc := 4) (v := 16) dX7_add_4 (by decide) ?_
  refine g_icmp_ge (pc := 6) (tgt := 29) dX7_add_6 (by decide) (fun c7 => ?_) (fun c7 => ?_)
  · have h := g_ift c7 h
    cases h
    exact g_vret (pc := 29) rfl rfl rfl dX7_add_29
  · have h := g_iff c7 h
    refine g_aload_n (pc := 9) dX7_add_9 rfl 0 rfl ?_
    refine g_getR (pc := 10) wfX7_11 (sX_script hi) rfl dX7_add_10 ?_
    refine g_aload_n (pc := 13) dX7_add_13 rfl 0 rfl ?_
    refine g_getI (pc := 14) wfX7_18 (sX_script hi) rfl dX7_add_14 ?_
    refine g_iload_n (pc := 17) dX7_add_17 rfl 1 rfl ?_
    obtain ⟨c8, h⟩ := g_gd h
    obtain ⟨σ9, e10, h⟩ := g_ltd h
    refine g_iast (pc := 18) (sX_sorts hi) c8 rfl e10 dX7_add_18 ?_
    refine g_aload_n (pc := 19) dX7_add_19 rfl 0 rfl ?_
    refine g_dup (pc := 20) dX7_add_20 rfl ?_
    refine g_getI (pc := 21) wfX7_18 (sX_script hi) rfl dX7_add_21 ?_
    refine g_iconst (pc := 24) (v := 1) dX7_add_24 (by decide) ?_
    refine g_iadd (pc := 25) dX7_add_25 ?_
    obtain ⟨σ11, e12, h⟩ := g_ltd h
    refine g_putI (pc := 26) wfX7_18 (sX_script hi) rfl rfl rfl e12 dX7_add_26 ?_
    cases h
    exact g_vret (pc := 29) rfl rfl rfl dX7_add_29
def fX7_isStep (i : Nat) (v1 : Int32) (σ : gM) : Option (Int32 × gM) := if v1 < 0 then (some (0, σ)) else (if (σ.1 (35 + 3 * i) 2) ≤ v1 then (some (0, σ)) else (if 16 ≤ v1 then (some (0, σ)) else (some (1, σ))))
set_option maxRecDepth 100000 in
theorem kX7_isStep (hE : gEX l dC dI ad ca X) (i : Nat) (hi : i < 5)  (v1 : Int32) (σ : gM) {r0 : Int32} {σ' : gM} (h : fX7_isStep i v1 σ = some (r0, σ')) : g_C l dC dI ad ca shX X yX7_isStep cX7_isStep 2 (some .boolean) (gR 0) [.ref (35 + 3 * i), .int v1] σ (some (.int r0)) σ' := by
  refine g_entry (by decide +kernel) (Nat.le_of_ble_eq_true rfl) ?_
  refine g_lvE (lv1 := [(0, .ref (35 + 3 * i)), (1, .int v1)]) rfl ?_
  unfold fX7_isStep at h
  refine g_iload_n (pc := 0) dX7_isStep_0 rfl 1 rfl ?_
  refine g_if_lt (pc := 1) (tgt := 22) dX7_isStep_1 (by decide) (fun c4 => ?_) (fun c4 => ?_)
  · have h := g_ift c4 h
    refine g_iconst (pc := 22) (v := 0) dX7_isStep_22 (by decide) ?_
    cases h
    exact g_iret (pc := 23) rfl (by decide) rfl rfl dX7_isStep_23
  · have h := g_iff c4 h
    refine g_iload_n (pc := 4) dX7_isStep_4 rfl 1 rfl ?_
    refine g_aload_n (pc := 5) dX7_isStep_5 rfl 0 rfl ?_
    refine g_getI (pc := 6) wfX7_18 (sX_script hi) rfl dX7_isStep_6 ?_
    refine g_icmp_ge (pc := 9) (tgt := 22) dX7_isStep_9 (by decide) (fun c5 => ?_) (fun c5 => ?_)
    · have h := g_ift c5 h
      refine g_iconst (pc := 22) (v := 0) dX7_isStep_22 (by decide) ?_
      cases h
      exact g_iret (pc := 23) rfl (by decide) rfl rfl dX7_isStep_23
    · have h := g_iff c5 h
      refine g_iload_n (pc := 12) dX7_isStep_12 rfl 1 rfl ?_
      refine g_bipush (pc := 13) (v := 16) dX7_isStep_13 (by decide) ?_
      refine g_icmp_ge (pc := 15) (tgt := 22) dX7_isStep_15 (by decide) (fun c6 => ?_) (fun c6 => ?_)
      · have h := g_ift c6 h
        refine g_iconst (pc := 22) (v := 0) dX7_isStep_22 (by decide) ?_
        cases h
        exact g_iret (pc := 23) rfl (by decide) rfl rfl dX7_isStep_23
      · have h := g_iff c6 h
        refine g_iconst (pc := 18) (v := 1) dX7_isStep_18 (by decide) ?_
        refine g_goto (pc := 19) (tgt := 23) dX7_isStep_19 (by decide) ?_
        cases h
        exact g_iret (pc := 23) rfl (by decide) rfl rfl dX7_isStep_23
def fX7_put (i : Nat) (v1 : Int32) (v2 : Int32) (v3 : Int32) (σ : gM) : Option (gM) := g_bI (fX7_isStep i v1 σ) (fun r12 σ11 => if r12 = 0 then (some σ11) else (if v2 < 0 then (some σ11) else (if 4 ≤ v2 then (some σ11) else (if ¬ (((4 * v1) + v2) < 0 ∨ 64 ≤ ((4 * v1) + v2).toNatClampNeg) then (g_let (g_put σ11 (37 + 3 * i) (((4 * v1) + v2).toNatClampNeg) v3) (fun σ17 => some σ17)) else none))))
set_option maxRecDepth 100000 in
theorem kX7_put (hE : gEX l dC dI ad ca X) (i : Nat) (hi : i < 5)  (v1 : Int32) (v2 : Int32) (v3 : Int32) (σ : gM) {σ' : gM} (h : fX7_put i v1 v2 v3 σ = some σ') : g_C l dC dI ad ca shX X yX7_put cX7_put 4 none (gR 1) [.ref (35 + 3 * i), .int v1, .int v2, .int v3] σ none σ' := by
  refine g_entry (by decide +kernel) (Nat.le_of_ble_eq_true rfl) ?_
  refine g_lvE (lv1 := [(0, .ref (35 + 3 * i)), (1, .int v1), (2, .int v2), (3, .int v3)]) rfl ?_
  unfold fX7_put at h
  refine g_aload_n (pc := 0) dX7_put_0 rfl 0 rfl ?_
  refine g_iload_n (pc := 1) dX7_put_1 rfl 1 rfl ?_
  obtain ⟨r12, σ11, h10, h⟩ := g_bId h
  refine g_callVi (pc := 2) (st := []) hE.1 wvX7_25 (sX_script hi) rfl (kX7_isStep hE i hi v1 σ h10) rfl (gR_ok (by decide) (by decide)) (Nat.le_of_ble_eq_true rfl) rfl dX7_put_2 ?_
  refine g_if_eq (pc := 5) (tgt := 28) dX7_put_5 (by decide) (fun c13 => ?_) (fun c13 => ?_)
  · have h := g_ift c13 h
    cases h
    exact g_vret (pc := 28) rfl rfl rfl dX7_put_28
  · have h := g_iff c13 h
    refine g_iload_n (pc := 8) dX7_put_8 rfl 2 rfl ?_
    refine g_if_lt (pc := 9) (tgt := 28) dX7_put_9 (by decide) (fun c14 => ?_) (fun c14 => ?_)
    · have h := g_ift c14 h
      cases h
      exact g_vret (pc := 28) rfl rfl rfl dX7_put_28
    · have h := g_iff c14 h
      refine g_iload_n (pc := 12) dX7_put_12 rfl 2 rfl ?_
      refine g_iconst (pc := 13) (v := 4) dX7_put_13 (by decide) ?_
      refine g_icmp_ge (pc := 14) (tgt := 28) dX7_put_14 (by decide) (fun c15 => ?_) (fun c15 => ?_)
      · have h := g_ift c15 h
        cases h
        exact g_vret (pc := 28) rfl rfl rfl dX7_put_28
      · have h := g_iff c15 h
        refine g_aload_n (pc := 17) dX7_put_17 rfl 0 rfl ?_
        refine g_getR (pc := 18) wfX7_15 (sX_script hi) rfl dX7_put_18 ?_
        refine g_iconst (pc := 21) (v := 4) dX7_put_21 (by decide) ?_
        refine g_iload_n (pc := 22) dX7_put_22 rfl 1 rfl ?_
        refine g_imul (pc := 23) dX7_put_23 ?_
        refine g_iload_n (pc := 24) dX7_put_24 rfl 2 rfl ?_
        refine g_iadd (pc := 25) dX7_put_25 ?_
        refine g_iload_n (pc := 26) dX7_put_26 rfl 3 rfl ?_
        obtain ⟨c16, h⟩ := g_gd h
        obtain ⟨σ17, e18, h⟩ := g_ltd h
        refine g_iast (pc := 27) (sX_nums hi) c16 rfl e18 dX7_put_27 ?_
        cases h
        exact g_vret (pc := 28) rfl rfl rfl dX7_put_28
def fX7_sort (i : Nat) (v1 : Int32) (σ : gM) : Option (Int32 × gM) := g_bI (fX7_isStep i v1 σ) (fun r8 σ7 => if r8 = 0 then (some ((-1), σ7)) else (if ¬ (v1 < 0 ∨ 16 ≤ v1.toNatClampNeg) then (some (σ7.1 (36 + 3 * i) v1.toNatClampNeg, σ7)) else none))
set_option maxRecDepth 100000 in
theorem kX7_sort (hE : gEX l dC dI ad ca X) (i : Nat) (hi : i < 5)  (v1 : Int32) (σ : gM) {r0 : Int32} {σ' : gM} (h : fX7_sort i v1 σ = some (r0, σ')) : g_C l dC dI ad ca shX X yX7_sort cX7_sort 2 (some .int) (gR 1) [.ref (35 + 3 * i), .int v1] σ (some (.int r0)) σ' := by
  refine g_entry (by decide +kernel) (Nat.le_of_ble_eq_true rfl) ?_
  refine g_lvE (lv1 := [(0, .ref (35 + 3 * i)), (1, .int v1)]) rfl ?_
  unfold fX7_sort at h
  refine g_aload_n (pc := 0) dX7_sort_0 rfl 0 rfl ?_
  refine g_iload_n (pc := 1) dX7_sort_1 rfl 1 rfl ?_
  obtain ⟨r8, σ7, h6, h⟩ := g_bId h
  refine g_callVi (pc := 2) (st := []) hE.1 wvX7_25 (sX_script hi) rfl (kX7_isStep hE i hi v1 σ h6) rfl (gR_ok (by decide) (by decide)) (Nat.le_of_ble_eq_true rfl) rfl dX7_sort_2 ?_
  refine g_if_eq (pc := 5) (tgt := 17) dX7_sort_5 (by decide) (fun c9 => ?_) (fun c9 => ?_)
  · have h := g_ift c9 h
    refine g_iconst (pc := 17) (v := (-1)) dX7_sort_17 (by decide) ?_
    cases h
    exact g_iret (pc := 18) rfl rfl rfl rfl dX7_sort_18
  · have h := g_iff c9 h
    refine g_aload_n (pc := 8) dX7_sort_8 rfl 0 rfl ?_
    refine g_getR (pc := 9) wfX7_11 (sX_script hi) rfl dX7_sort_9 ?_
    refine g_iload_n (pc := 12) dX7_sort_12 rfl 1 rfl ?_
    obtain ⟨c10, h⟩ := g_gd h
    refine g_iald (pc := 13) (sX_sorts hi) c10 rfl dX7_sort_13 ?_
    refine g_goto (pc := 14) (tgt := 18) dX7_sort_14 (by decide) ?_
    cases h
    exact g_iret (pc := 18) rfl rfl rfl rfl dX7_sort_18
def fX7_number (i : Nat) (v1 : Int32) (v2 : Int32) (σ : gM) : Option (Int32 × gM) := g_bI (fX7_isStep i v1 σ) (fun r10 σ9 => if r10 = 0 then (some (0, σ9)) else (if v2 < 0 then (some (0, σ9)) else (if 4 ≤ v2 then (some (0, σ9)) else (if ¬ (((4 * v1) + v2) < 0 ∨ 64 ≤ ((4 * v1) + v2).toNatClampNeg) then (some (σ9.1 (37 + 3 * i) (((4 * v1) + v2).toNatClampNeg), σ9)) else none))))
set_option maxRecDepth 100000 in
theorem kX7_number (hE : gEX l dC dI ad ca X) (i : Nat) (hi : i < 5)  (v1 : Int32) (v2 : Int32) (σ : gM) {r0 : Int32} {σ' : gM} (h : fX7_number i v1 v2 σ = some (r0, σ')) : g_C l dC dI ad ca shX X yX7_number cX7_number 3 (some .int) (gR 1) [.ref (35 + 3 * i), .int v1, .int v2] σ (some (.int r0)) σ' := by
  refine g_entry (by decide +kernel) (Nat.le_of_ble_eq_true rfl) ?_
  refine g_lvE (lv1 := [(0, .ref (35 + 3 * i)), (1, .int v1), (2, .int v2)]) rfl ?_
  unfold fX7_number at h
  refine g_aload_n (pc := 0) dX7_number_0 rfl 0 rfl ?_
  refine g_iload_n (pc := 1) dX7_number_1 rfl 1 rfl ?_
  obtain ⟨r10, σ9, h8, h⟩ := g_bId h
  refine g_callVi (pc := 2) (st := []) hE.1 wvX7_25 (sX_script hi) rfl (kX7_isStep hE i hi v1 σ h8) rfl (gR_ok (by decide) (by decide)) (Nat.le_of_ble_eq_true rfl) rfl dX7_number_2 ?_
  refine g_if_eq (pc := 5) (tgt := 30) dX7_number_5 (by decide) (fun c11 => ?_) (fun c11 => ?_)
  · have h := g_ift c11 h
    refine g_iconst (pc := 30) (v := 0) dX7_number_30 (by decide) ?_
    cases h
    exact g_iret (pc := 31) rfl rfl rfl rfl dX7_number_31
  · have h := g_iff c11 h
    refine g_iload_n (pc := 8) dX7_number_8 rfl 2 rfl ?_
    refine g_if_lt (pc := 9) (tgt := 30) dX7_number_9 (by decide) (fun c12 => ?_) (fun c12 => ?_)
    · have h := g_ift c12 h
      refine g_iconst (pc := 30) (v := 0) dX7_number_30 (by decide) ?_
      cases h
      exact g_iret (pc := 31) rfl rfl rfl rfl dX7_number_31
    · have h := g_iff c12 h
      refine g_iload_n (pc := 12) dX7_number_12 rfl 2 rfl ?_
      refine g_iconst (pc := 13) (v := 4) dX7_number_13 (by decide) ?_
      refine g_icmp_ge (pc := 14) (tgt := 30) dX7_number_14 (by decide) (fun c13 => ?_) (fun c13 => ?_)
      · have h := g_ift c13 h
        refine g_iconst (pc := 30) (v := 0) dX7_number_30 (by decide) ?_
        cases h
        exact g_iret (pc := 31) rfl rfl rfl rfl dX7_number_31
      · have h := g_iff c13 h
        refine g_aload_n (pc := 17) dX7_number_17 rfl 0 rfl ?_
        refine g_getR (pc := 18) wfX7_15 (sX_script hi) rfl dX7_number_18 ?_
        refine g_iconst (pc := 21) (v := 4) dX7_number_21 (by decide) ?_
        refine g_iload_n (pc := 22) dX7_number_22 rfl 1 rfl ?_
        refine g_imul (pc := 23) dX7_number_23 ?_
        refine g_iload_n (pc := 24) dX7_number_24 rfl 2 rfl ?_
        refine g_iadd (pc := 25) dX7_number_25 ?_
        obtain ⟨c14, h⟩ := g_gd h
        refine g_iald (pc := 26) (sX_nums hi) c14 rfl dX7_number_26 ?_
        refine g_goto (pc := 27) (tgt := 31) dX7_number_27 (by decide) ?_
        cases h
        exact g_iret (pc := 31) rfl rfl rfl rfl dX7_number_31
def fX7_tell_b17 (i : Nat) (σ : gM) : Option (Int32 × gM) := some ((-1000000), σ)
set_option maxRecDepth 100000 in
theorem tX7_tell_b17 (hE : gEX l dC dI ad ca X) {r0 : Int32} {σ' : gM} (i : Nat) (hi : i < 5)  (σ : gM) (h : fX7_tell_b17 i σ = some (r0, σ')) : g_G l dC dI ad ca shX X cX7_tell 3 RX7 (some .int) (gR 1) (some (.int r0)) σ' 17 [] [] σ := by
  unfold fX7_tell_b17 at h
  refine g_ldc (pc := 17) wkX7_29 dX7_tell_17 ?_
  cases h
  exact g_iret (pc := 19) rfl rfl rfl rfl dX7_tell_19
def fX7_tell (i : Nat) (v1 : Int32) (v2 : Int32) (σ : gM) : Option (Int32 × gM) := g_bI (fX7_isStep i v1 σ) (fun r17 σ16 => if r17 = 0 then (fX7_tell_b17 i σ16) else (if v2 < 0 then (fX7_tell_b17 i σ16) else (if v2 ≤ 4 then (if v2 = 0 then (if ¬ (v1 < 0 ∨ 16 ≤ v1.toNatClampNeg) then (some (σ16.1 (36 + 3 * i) v1.toNatClampNeg, σ16)) else none) else (if ¬ (v1 < 0 ∨ 16 ≤ v1.toNatClampNeg) then (g_bI (fX7_numbersOf (σ16.1 (36 + 3 * i) v1.toNatClampNeg) σ16) (fun r25 σ24 => if r25 < v2 then (some ((-1), σ24)) else (if ¬ ((((4 * v1) + v2) - 1) < 0 ∨ 64 ≤ (((4 * v1) + v2) - 1).toNatClampNeg) then (some (σ24.1 (37 + 3 * i) ((((4 * v1) + v2) - 1).toNatClampNeg), σ24)) else none))) else none)) else (fX7_tell_b17 i σ16))))
set_option maxRecDepth 100000 in
theorem kX7_tell (hE : gEX l dC dI ad ca X) (i : Nat) (hi : i < 5)  (v1 : Int32) (v2 : Int32) (σ : gM) {r0 : Int32} {σ' : gM} (h : fX7_tell i v1 v2 σ = some (r0, σ')) : g_C l dC dI ad ca shX X yX7_tell cX7_tell 3 (some .int) (gR 1) [.ref (35 + 3 * i), .int v1, .int v2] σ (some (.int r0)) σ' := by
  refine g_entry (by decide +kernel) (Nat.le_of_ble_eq_true rfl) ?_
  refine g_lvE (lv1 := [(0, .ref (35 + 3 * i)), (1, .int v1), (2, .int v2)]) rfl ?_
  unfold fX7_tell at h
  refine g_aload_n (pc := 0) dX7_tell_0 rfl 0 rfl ?_
  refine g_iload_n (pc := 1) dX7_tell_1 rfl 1 rfl ?_
  obtain ⟨r17, σ16, h15, h⟩ := g_bId h
  refine g_callVi (pc := 2) (st := []) hE.1 wvX7_25 (sX_script hi) rfl (kX7_isStep hE i hi v1 σ h15) rfl (gR_ok (by decide) (by decide)) (Nat.le_of_ble_eq_true rfl) rfl dX7_tell_2 ?_
  refine g_if_eq (pc := 5) (tgt := 17) dX7_tell_5 (by decide) (fun c18 => ?_) (fun c18 => ?_)
  · have h := g_ift c18 h
    exact g_lv [] rfl (tX7_tell_b17 hE i hi σ16 h)
  · have h := g_iff c18 h
    refine g_iload_n (pc := 8) dX7_tell_8 rfl 2 rfl ?_
    refine g_if_lt (pc := 9) (tgt := 17) dX7_tell_9 (by decide) (fun c19 => ?_) (fun c19 => ?_)
    · have h := g_ift c19 h
      exact g_lv [] rfl (tX7_tell_b17 hE i hi σ16 h)
    · have h := g_iff c19 h
      refine g_iload_n (pc := 12) dX7_tell_12 rfl 2 rfl ?_
      refine g_iconst (pc := 13) (v := 4) dX7_tell_13 (by decide) ?_
      refine g_icmp_le (pc := 14) (tgt := 20) dX7_tell_14 (by decide) (fun c20 => ?_) (fun c20 => ?_)
      · have h := g_ift c20 h
        refine g_iload_n (pc := 20) dX7_tell_20 rfl 2 rfl ?_
        refine g_if_ne (pc := 21) (tgt := 31) dX7_tell_21 (by decide) (fun c21 => ?_) (fun c21 => ?_)
        · have h := g_iff c21 h
          refine g_iload_n (pc := 31) dX7_tell_31 rfl 2 rfl ?_
          refine g_aload_n (pc := 32) dX7_tell_32 rfl 0 rfl ?_
          refine g_getR (pc := 33) wfX7_11 (sX_script hi) rfl dX7_tell_33 ?_
          refine g_iload_n (pc := 36) dX7_tell_36 rfl 1 rfl ?_
          obtain ⟨c22, h⟩ := g_gd h
          refine g_iald (pc := 37) (sX_sorts hi) c22 rfl dX7_tell_37 ?_
          obtain ⟨r25, σ24, h23, h⟩ := g_bId h
          refine g_callSi (pc := 38) (st := [.int v2]) hE.1 wsX7_30 (kX7_numbersOf hE (σ16.1 (36 + 3 * i) v1.toNatClampNeg) σ16 h23) rfl (gR_ok (by decide) (by decide)) (Nat.le_of_ble_eq_true rfl) rfl dX7_tell_38 ?_
          refine g_icmp_gt (pc := 41) (tgt := 59) dX7_tell_41 (by decide) (fun c26 => ?_) (fun c26 => ?_)
          · have h := g_ift c26 h
            refine g_iconst (pc := 59) (v := (-1)) dX7_tell_59 (by decide) ?_
            cases h
            exact g_iret (pc := 60) rfl rfl rfl rfl dX7_tell_60
          · have h := g_iff c26 h
            refine g_aload_n (pc := 44) dX7_tell_44 rfl 0 rfl ?_
            refine g_getR (pc := 45) wfX7_15 (sX_script hi) rfl dX7_tell_45 ?_
            refine g_iconst (pc := 48) (v := 4) dX7_tell_48 (by decide) ?_
            refine g_iload_n (pc := 49) dX7_tell_49 rfl 1 rfl ?_
            refine g_imul (pc := 50) dX7_tell_50 ?_
            refine g_iload_n (pc := 51) dX7_tell_51 rfl 2 rfl ?_
            refine g_iadd (pc := 52) dX7_tell_52 ?_
            refine g_iconst (pc := 53) (v := 1) dX7_tell_53 (by decide) ?_
            refine g_isub (pc := 54) dX7_tell_54 ?_
            obtain ⟨c27, h⟩ := g_gd h
            refine g_iald (pc := 55) (sX_nums hi) c27 rfl dX7_tell_55 ?_
            refine g_goto (pc := 56) (tgt := 60) dX7_tell_56 (by decide) ?_
            cases h
            exact g_iret (pc := 60) rfl rfl rfl rfl dX7_tell_60
        · have h := g_ift c21 h
          refine g_aload_n (pc := 24) dX7_tell_24 rfl 0 rfl ?_
          refine g_getR (pc := 25) wfX7_11 (sX_script hi) rfl dX7_tell_25 ?_
          refine g_iload_n (pc := 28) dX7_tell_28 rfl 1 rfl ?_
          obtain ⟨c28, h⟩ := g_gd h
          refine g_iald (pc := 29) (sX_sorts hi) c28 rfl dX7_tell_29 ?_
          cases h
          exact g_iret (pc := 30) rfl rfl rfl rfl dX7_tell_30
      · have h := g_iff c20 h
        exact g_lv [] rfl (tX7_tell_b17 hE i hi σ16 h)
def fX7_copy (i : Nat) (j : Nat) (σ : gM) : Option (gM) := if ¬ (0 : Int32) < 0 then (if ¬ (0 : Int32) < 0 then (if ¬ (16 : Int32) < 0 then (if (0 : Int32).toNatClampNeg + (16 : Int32).toNatClampNeg ≤ 16 then (if (0 : Int32).toNatClampNeg + (16 : Int32).toNatClampNeg ≤ 16 then (g_let (g_row σ (36 + 3 * i) (va_cpy (σ.1 (36 + 3 * j)) (σ.1 (36 + 3 * i)) (0 : Int32).toNatClampNeg (0 : Int32).toNatClampNeg (16 : Int32).toNatClampNeg)) (fun σ22 => if ¬ (0 : Int32) < 0 then (if ¬ (0 : Int32) < 0 then (if ¬ (64 : Int32) < 0 then (if (0 : Int32).toNatClampNeg + (64 : Int32).toNatClampNeg ≤ 64 then (if (0 : Int32).toNatClampNeg + (64 : Int32).toNatClampNeg ≤ 64 then (g_let (g_row σ22 (37 + 3 * i) (va_cpy (σ22.1 (37 + 3 * j)) (σ22.1 (37 + 3 * i)) (0 : Int32).toNatClampNeg (0 : Int32).toNatClampNeg (64 : Int32).toNatClampNeg)) (fun σ29 => g_let (g_put σ29 (35 + 3 * i) 2 (σ29.1 (35 + 3 * j) 2)) (fun σ31 => some σ31))) else none) else none) else none) else none) else none)) else none) else none) else none) else none) else none
set_option maxRecDepth 100000 in
theorem kX7_copy (hE : gEX l dC dI ad ca X) (i : Nat) (hi : i < 5) (j : Nat) (hj : j < 5)  (σ : gM) {σ' : gM} (h : fX7_copy i j σ = some σ') : g_C l dC dI ad ca shX X yX7_copy cX7_copy 2 none (gR 1) [.ref (35 + 3 * i), .ref (35 + 3 * j)] σ none σ' := by
  refine g_entry (by decide +kernel) (Nat.le_of_ble_eq_true rfl) ?_
  refine g_lvE (lv1 := [(0, .ref (35 + 3 * i)), (1, .ref (35 + 3 * j))]) rfl ?_
  unfold fX7_copy at h
  refine g_aload_n (pc := 0) dX7_copy_0 rfl 1 rfl ?_
  refine g_getR (pc := 1) wfX7_11 (sX_script hj) rfl dX7_copy_1 ?_
  refine g_iconst (pc := 4) (v := 0) dX7_copy_4 (by decide) ?_
  refine g_aload_n (pc := 5) dX7_copy_5 rfl 0 rfl ?_
  refine g_getR (pc := 6) wfX7_11 (sX_script hi) rfl dX7_copy_6 ?_
  refine g_iconst (pc := 9) (v := 0) dX7_copy_9 (by decide) ?_
  refine g_bipush (pc := 10) (v := 16) dX7_copy_10 (by decide) ?_
  obtain ⟨c17, h⟩ := g_gd h
  obtain ⟨c18, h⟩ := g_gd h
  obtain ⟨c19, h⟩ := g_gd h
  obtain ⟨c20, h⟩ := g_gd h
  obtain ⟨c21, h⟩ := g_gd h
  obtain ⟨σ22, e23, h⟩ := g_ltd h
  refine g_copy (pc := 12) (st := []) waX7_34 (sX_sorts hj) (sX_sorts hi) c17 c18 c19 c20 c21 ⟨by decide, by decide⟩ e23 dX7_copy_12 ?_
  refine g_aload_n (pc := 15) dX7_copy_15 rfl 1 rfl ?_
  refine g_getR (pc := 16) wfX7_15 (sX_script hj) rfl dX7_copy_16 ?_
  refine g_iconst (pc := 19) (v := 0) dX7_copy_19 (by decide) ?_
  refine g_aload_n (pc := 20) dX7_copy_20 rfl 0 rfl ?_
  refine g_getR (pc := 21) wfX7_15 (sX_script hi) rfl dX7_copy_21 ?_
  refine g_iconst (pc := 24) (v := 0) dX7_copy_24 (by decide) ?_
  refine g_bipush (pc := 25) (v := 64) dX7_copy_25 (by decide) ?_
  obtain ⟨c24, h⟩ := g_gd h
  obtain ⟨c25, h⟩ := g_gd h
  obtain ⟨c26, h⟩ := g_gd h
  obtain ⟨c27, h⟩ := g_gd h
  obtain ⟨c28, h⟩ := g_gd h
  obtain ⟨σ29, e30, h⟩ := g_ltd h
  refine g_copy (pc := 27) (st := []) waX7_34 (sX_nums hj) (sX_nums hi) c24 c25 c26 c27 c28 ⟨by decide, by decide⟩ e30 dX7_copy_27 ?_
  refine g_aload_n (pc := 30) dX7_copy_30 rfl 0 rfl ?_
  refine g_aload_n (pc := 31) dX7_copy_31 rfl 1 rfl ?_
  refine g_getI (pc := 32) wfX7_18 (sX_script hj) rfl dX7_copy_32 ?_
  obtain ⟨σ31, e32, h⟩ := g_ltd h
  refine g_putI (pc := 35) wfX7_18 (sX_script hi) rfl rfl rfl e32 dX7_copy_35 ?_
  cases h
  exact g_vret (pc := 38) rfl rfl rfl dX7_copy_38
def fX9_add (i : Nat) (v1 : Int32) (v2 : Int32) (σ : gM) : Option (gM) := if v1 < 0 then (some σ) else (if 144 ≤ v1 then (some σ) else (if ¬ (v1 < 0 ∨ 144 ≤ v1.toNatClampNeg) then (if ¬ (v1 < 0 ∨ 144 ≤ v1.toNatClampNeg) then (g_let (g_put σ (11 + 5 * i) v1.toNatClampNeg ((σ.1 (11 + 5 * i) v1.toNatClampNeg) + v2)) (fun σ11 => some σ11)) else none) else none))
set_option maxRecDepth 100000 in
theorem kX9_add (hE : gEX l dC dI ad ca X) (i : Nat) (hi : i < 3)  (v1 : Int32) (v2 : Int32) (σ : gM) {σ' : gM} (h : fX9_add i v1 v2 σ = some σ') : g_C l dC dI ad ca shX X yX9_add cX9_add 3 none (gR 0) [.ref (10 + 5 * i), .int v1, .int v2] σ none σ' := by
  refine g_entry (by decide +kernel) (Nat.le_of_ble_eq_true rfl) ?_
  refine g_lvE (lv1 := [(0, .ref (10 + 5 * i)), (1, .int v1), (2, .int v2)]) rfl ?_
  unfold fX9_add at h
  refine g_iload_n (pc := 0) dX9_add_0 rfl 1 rfl ?_
  refine g_if_lt (pc := 1) (tgt := 21) dX9_add_1 (by decide) (fun c7 => ?_) (fun c7 => ?_)
  · have h := g_ift c7 h
    cases h
    exact g_vret (pc := 21) rfl rfl rfl dX9_add_21
  · have h := g_iff c7 h
    refine g_iload_n (pc := 4) dX9_add_4 rfl 1 rfl ?_
    refine g_sipush (pc := 5) (v := 144) dX9_add_5 (by decide) ?_
    refine g_icmp_ge (pc := 8) (tgt := 21) dX9_add_8 (by decide) (fun c8 => ?_) (fun c8 => ?_)
    · have h := g_ift c8 h
      cases h
      exact g_vret (pc := 21) rfl rfl rfl dX9_add_21
    · have h := g_iff c8 h
      refine g_aload_n (pc := 11) dX9_add_11 rfl 0 rfl ?_
      refine g_getR (pc := 12) wfX9_11 (sX_state hi) rfl dX9_add_12 ?_
      refine g_iload_n (pc := 15) dX9_add_15 rfl 1 rfl ?_
      refine g_dup2 (pc := 16) dX9_add_16 rfl rfl ?_
      obtain ⟨c9, h⟩ := g_gd h
      refine g_iald (pc := 17) (sX_slots hi) c9 rfl dX9_add_17 ?_
      refine g_iload_n (pc := 18) dX9_add_18 rfl 2 rfl ?_
      refine g_iadd (pc := 19) dX9_add_19 ?_
      obtain ⟨c10, h⟩ := g_gd h
      obtain ⟨σ11, e12, h⟩ := g_ltd h
      refine g_iast (pc := 20) (sX_slots hi) c10 rfl e12 dX9_add_20 ?_
      cases h
      exact g_vret (pc := 21) rfl rfl rfl dX9_add_21
def fX9_putByte (i : Nat) (v1 : Int32) (v2 : Int32) (v3 : Int32) (v4 : Int32) (σ : gM) : Option (gM) := if ((v1 * 12) + v2) < 0 then (some σ) else (if 96 ≤ ((v1 * 12) + v2) then (some σ) else (if v3 < 0 then (some σ) else (if 4 ≤ v3 then (some σ) else (if ¬ (((v1 * 12) + v2) < 0 ∨ 144 ≤ ((v1 * 12) + v2).toNatClampNeg) then (if ¬ (((v1 * 12) + v2) < 0 ∨ 144 ≤ ((v1 * 12) + v2).toNatClampNeg) then (g_let (g_put σ (11 + 5 * i) (((v1 * 12) + v2).toNatClampNeg) (((σ.1 (11 + 5 * i) (((v1 * 12) + v2).toNatClampNeg)) &&& ((255 <<< ((8 * v3) &&& 31)) ^^^ (-1))) ||| ((v4 &&& 255) <<< ((8 * v3) &&& 31)))) (fun σ15 => some σ15)) else none) else none))))
set_option maxRecDepth 100000 in
theorem kX9_putByte (hE : gEX l dC dI ad ca X) (i : Nat) (hi : i < 3)  (v1 : Int32) (v2 : Int32) (v3 : Int32) (v4 : Int32) (σ : gM) {σ' : gM} (h : fX9_putByte i v1 v2 v3 v4 σ = some σ') : g_C l dC dI ad ca shX X yX9_putByte cX9_putByte 6 none (gR 0) [.ref (10 + 5 * i), .int v1, .int v2, .int v3, .int v4] σ none σ' := by
  refine g_entry (by decide +kernel) (Nat.le_of_ble_eq_true rfl) ?_
  refine g_lvE (lv1 := [(0, .ref (10 + 5 * i)), (1, .int v1), (2, .int v2), (3, .int v3), (4, .int v4)]) rfl ?_
  unfold fX9_putByte at h
  refine g_iload_n (pc := 0) dX9_putByte_0 rfl 1 rfl ?_
  refine g_bipush (pc := 1) (v := 12) dX9_putByte_1 (by decide) ?_
  refine g_imul (pc := 3) dX9_putByte_3 ?_
  refine g_iload_n (pc := 4) dX9_putByte_4 rfl 2 rfl ?_
  refine g_iadd (pc := 5) dX9_putByte_5 ?_
  refine g_istore (pc := 6) (lv1 := [(5, .int ((v1 * 12) + v2)), (0, .ref (10 + 5 * i)), (1, .int v1), (2, .int v2), (3, .int v3), (4, .int v4)]) dX9_putByte_6 (by decide) rfl ?_
  refine g_iload (pc := 8) dX9_putByte_8 0 rfl ?_
  refine g_if_lt (pc := 10) (tgt := 66) dX9_putByte_10 (by decide) (fun c9 => ?_) (fun c9 => ?_)
  · have h := g_ift c9 h
    cases h
    exact g_vret (pc := 66) rfl rfl rfl dX9_putByte_66
  · have h := g_iff c9 h
    refine g_iload (pc := 13) dX9_putByte_13 0 rfl ?_
    refine g_bipush (pc := 15) (v := 96) dX9_putByte_15 (by decide) ?_
    refine g_icmp_ge (pc := 17) (tgt := 66) dX9_putByte_17 (by decide) (fun c10 => ?_) (fun c10 => ?_)
    · have h := g_ift c10 h
      cases h
      exact g_vret (pc := 66) rfl rfl rfl dX9_putByte_66
    · have h := g_iff c10 h
      refine g_iload_n (pc := 20) dX9_putByte_20 rfl 4 rfl ?_
      refine g_if_lt (pc := 21) (tgt := 66) dX9_putByte_21 (by decide) (fun c11 => ?_) (fun c11 => ?_)
      · have h := g_ift c11 h
        cases h
        exact g_vret (pc := 66) rfl rfl rfl dX9_putByte_66
      · have h := g_iff c11 h
        refine g_iload_n (pc := 24) dX9_putByte_24 rfl 4 rfl ?_
        refine g_iconst (pc := 25) (v := 4) dX9_putByte_25 (by decide) ?_
        refine g_icmp_ge (pc := 26) (tgt := 66) dX9_putByte_26 (by decide) (fun c12 => ?_) (fun c12 => ?_)
        · have h := g_ift c12 h
          cases h
          exact g_vret (pc := 66) rfl rfl rfl dX9_putByte_66
        · have h := g_iff c12 h
          refine g_aload_n (pc := 29) dX9_putByte_29 rfl 1 rfl ?_
          refine g_getR (pc := 30) wfX9_11 (sX_state hi) rfl dX9_putByte_30 ?_
          refine g_iload (pc := 33) dX9_putByte_33 0 rfl ?_
          refine g_aload_n (pc := 35) dX9_putByte_35 rfl 1 rfl ?_
          refine g_getR (pc := 36) wfX9_11 (sX_state hi) rfl dX9_putByte_36 ?_
          refine g_iload (pc := 39) dX9_putByte_39 0 rfl ?_
          obtain ⟨c13, h⟩ := g_gd h
          refine g_iald (pc := 41) (sX_slots hi) c13 rfl dX9_putByte_41 ?_
          refine g_sipush (pc := 42) (v := 255) dX9_putByte_42 (by decide) ?_
          refine g_bipush (pc := 45) (v := 8) dX9_putByte_45 (by decide) ?_
          refine g_iload_n (pc := 47) dX9_putByte_47 rfl 4 rfl ?_
          refine g_imul (pc := 48) dX9_putByte_48 ?_
          refine g_ishl (pc := 49) dX9_putByte_49 ?_
          refine g_iconst (pc := 50) (v := (-1)) dX9_putByte_50 (by decide) ?_
          refine g_ixor (pc := 51) dX9_putByte_51 ?_
          refine g_iand (pc := 52) dX9_putByte_52 ?_
          refine g_iload (pc := 53) dX9_putByte_53 5 rfl ?_
          refine g_sipush (pc := 55) (v := 255) dX9_putByte_55 (by decide) ?_
          refine g_iand (pc := 58) dX9_putByte_58 ?_
          refine g_bipush (pc := 59) (v := 8) dX9_putByte_59 (by decide) ?_
          refine g_iload_n (pc := 61) dX9_putByte_61 rfl 4 rfl ?_
          refine g_imul (pc := 62) dX9_putByte_62 ?_
          refine g_ishl (pc := 63) dX9_putByte_63 ?_
          refine g_ior (pc := 64) dX9_putByte_64 ?_
          obtain ⟨c14, h⟩ := g_gd h
          obtain ⟨σ15, e16, h⟩ := g_ltd h
          refine g_iast (pc := 65) (sX_slots hi) c14 rfl e16 dX9_putByte_65 ?_
          cases h
          exact g_vret (pc := 66) rfl rfl rfl dX9_putByte_66
def fX9_set (i : Nat) (v1 : Int32) (v2 : Int32) (σ : gM) : Option (gM) := if v1 < 0 then (some σ) else (if 144 ≤ v1 then (some σ) else (if ¬ (v1 < 0 ∨ 144 ≤ v1.toNatClampNeg) then (g_let (g_put σ (11 + 5 * i) v1.toNatClampNeg v2) (fun σ9 => some σ9)) else none))
set_option maxRecDepth 100000 in
theorem kX9_set (hE : gEX l dC dI ad ca X) (i : Nat) (hi : i < 3)  (v1 : Int32) (v2 : Int32) (σ : gM) {σ' : gM} (h : fX9_set i v1 v2 σ = some σ') : g_C l dC dI ad ca shX X yX9_set cX9_set 3 none (gR 0) [.ref (10 + 5 * i), .int v1, .int v2] σ none σ' := by
  refine g_entry (by decide +kernel) (Nat.le_of_ble_eq_true rfl) ?_
  refine g_lvE (lv1 := [(0, .ref (10 + 5 * i)), (1, .int v1), (2, .int v2)]) rfl ?_
  unfold fX9_set at h
  refine g_iload_n (pc := 0) dX9_set_0 rfl 1 rfl ?_
  refine g_if_lt (pc := 1) (tgt := 18) dX9_set_1 (by decide) (fun c6 => ?_) (fun c6 => ?_)
  · have h := g_ift c6 h
    cases h
    exact g_vret (pc := 18) rfl rfl rfl dX9_set_18
  · have h := g_iff c6 h
    refine g_iload_n (pc := 4) dX9_set_4 rfl 1 rfl ?_
    refine g_sipush (pc := 5) (v := 144) dX9_set_5 (by decide) ?_
    refine g_icmp_ge (pc := 8) (tgt := 18) dX9_set_8 (by decide) (fun c7 => ?_) (fun c7 => ?_)
    · have h := g_ift c7 h
      cases h
      exact g_vret (pc := 18) rfl rfl rfl dX9_set_18
    · have h := g_iff c7 h
      refine g_aload_n (pc := 11) dX9_set_11 rfl 0 rfl ?_
      refine g_getR (pc := 12) wfX9_11 (sX_state hi) rfl dX9_set_12 ?_
      refine g_iload_n (pc := 15) dX9_set_15 rfl 1 rfl ?_
      refine g_iload_n (pc := 16) dX9_set_16 rfl 2 rfl ?_
      obtain ⟨c8, h⟩ := g_gd h
      obtain ⟨σ9, e10, h⟩ := g_ltd h
      refine g_iast (pc := 17) (sX_slots hi) c8 rfl e10 dX9_set_17 ?_
      cases h
      exact g_vret (pc := 18) rfl rfl rfl dX9_set_18
def fX9_start_b24 (n : Nat) (i : Nat) (K24 : Int32 → gM → Option (gM)) (v2 : Int32) (σ : gM) : Option (gM) := if 8 ≤ v2 then (g_let (g_put σ (11 + 5 * i) 136 (σ.1 5 4)) (fun σ18 => g_let (g_put σ18 (11 + 5 * i) 141 (-1)) (fun σ20 => g_let (g_put σ20 (11 + 5 * i) 142 (-1)) (fun σ22 => g_let (g_put σ22 (11 + 5 * i) 143 (-1)) (fun σ24 => some σ24))))) else (if ¬ ((104 + v2) < 0 ∨ 144 ≤ (104 + v2).toNatClampNeg) then (g_let (g_put σ (11 + 5 * i) ((104 + v2).toNatClampNeg) (σ.1 5 1)) (fun σ27 => K24 (v2 + 1) σ27)) else none)
set_option maxRecDepth 100000 in
theorem tX9_start_b24 (hE : gEX l dC dI ad ca X) {σ' : gM} (n : Nat) (i : Nat) (hi : i < 3) (K24 : Int32 → gM → Option (gM)) (hK24 : ∀ (v2 : Int32) (σ : gM), K24 v2 σ = some σ' → g_G l dC dI ad ca shX X cX9_start 3 RX9 none (gR 0) none σ' 24 [(0, .ref (10 + 5 * i)), (1, .ref 5), (2, .int v2)] [] σ) (v2 : Int32)  (σ : gM) (h : fX9_start_b24 n i K24 v2 σ = some σ') : g_G l dC dI ad ca shX X cX9_start 3 RX9 none (gR 0) none σ' 24 [(0, .ref (10 + 5 * i)), (1, .ref 5), (2, .int v2)] [] σ := by
  unfold fX9_start_b24 at h
  refine g_iload_n (pc := 24) dX9_start_24 rfl 2 rfl ?_
  refine g_bipush (pc := 25) (v := 8) dX9_start_25 (by decide) ?_
  refine g_icmp_ge (pc := 27) (tgt := 49) dX9_start_27 (by decide) (fun c17 => ?_) (fun c17 => ?_)
  · have h := g_ift c17 h
    refine g_aload_n (pc := 49) dX9_start_49 rfl 0 rfl ?_
    refine g_getR (pc := 50) wfX9_11 (sX_state hi) rfl dX9_start_50 ?_
    refine g_sipush (pc := 53) (v := 136) dX9_start_53 (by decide) ?_
    refine g_aload_n (pc := 56) dX9_start_56 rfl 1 rfl ?_
    refine g_getI (pc := 57) wfX9_21 rfl rfl dX9_start_57 ?_
    obtain ⟨σ18, e19, h⟩ := g_ltd h
    refine g_iast (pc := 60) (sX_slots hi) (by decide) (j := 136) (by decide) e19 dX9_start_60 ?_
    refine g_aload_n (pc := 61) dX9_start_61 rfl 0 rfl ?_
    refine g_getR (pc := 62) wfX9_11 (sX_state hi) rfl dX9_start_62 ?_
    refine g_sipush (pc := 65) (v := 141) dX9_start_65 (by decide) ?_
    refine g_iconst (pc := 68) (v := (-1)) dX9_start_68 (by decide) ?_
    obtain ⟨σ20, e21, h⟩ := g_ltd h
    refine g_iast (pc := 69) (sX_slots hi) (by decide) (j := 141) (by decide) e21 dX9_start_69 ?_
    refine g_aload_n (pc := 70) dX9_start_70 rfl 0 rfl ?_
    refine g_getR (pc := 71) wfX9_11 (sX_state hi) rfl dX9_start_71 ?_
    refine g_sipush (pc := 74) (v := 142) dX9_start_74 (by decide) ?_
    refine g_iconst (pc := 77) (v := (-1)) dX9_start_77 (by decide) ?_
    obtain ⟨σ22, e23, h⟩ := g_ltd h
    refine g_iast (pc := 78) (sX_slots hi) (by decide) (j := 142) (by decide) e23 dX9_start_78 ?_
    refine g_aload_n (pc := 79) dX9_start_79 rfl 0 rfl ?_
    refine g_getR (pc := 80) wfX9_11 (sX_state hi) rfl dX9_start_80 ?_
    refine g_sipush (pc := 83) (v := 143) dX9_start_83 (by decide) ?_
    refine g_iconst (pc := 86) (v := (-1)) dX9_start_86 (by decide) ?_
    obtain ⟨σ24, e25, h⟩ := g_ltd h
    refine g_iast (pc := 87) (sX_slots hi) (by decide) (j := 143) (by decide) e25 dX9_start_87 ?_
    cases h
    exact g_vret (pc := 88) rfl rfl rfl dX9_start_88
  · have h := g_iff c17 h
    refine g_aload_n (pc := 30) dX9_start_30 rfl 0 rfl ?_
    refine g_getR (pc := 31) wfX9_11 (sX_state hi) rfl dX9_start_31 ?_
    refine g_bipush (pc := 34) (v := 104) dX9_start_34 (by decide) ?_
    refine g_iload_n (pc := 36) dX9_start_36 rfl 2 rfl ?_
    refine g_iadd (pc := 37) dX9_start_37 ?_
    refine g_aload_n (pc := 38) dX9_start_38 rfl 1 rfl ?_
    refine g_getI (pc := 39) wfX9_15 rfl rfl dX9_start_39 ?_
    obtain ⟨c26, h⟩ := g_gd h
    obtain ⟨σ27, e28, h⟩ := g_ltd h
    refine g_iast (pc := 42) (sX_slots hi) c26 rfl e28 dX9_start_42 ?_
    refine g_iinc (pc := 43) (v := v2 + 1) (lv1 := [(2, .int (v2 + 1)), (0, .ref (10 + 5 * i)), (1, .ref 5)]) dX9_start_43 2 rfl rfl (by decide) rfl ?_
    refine g_goto (pc := 46) (tgt := 24) dX9_start_46 (by decide) ?_
    exact g_lv [1, 2, 0] rfl (hK24 (v2 + 1) σ27 h)
def fX9_start_L24 (n : Nat) (i : Nat) : Nat → Int32 → gM → Option (gM)
  | 0 => fun _ _ => none
  | k + 1 => fX9_start_b24 n i (fX9_start_L24 n i k)
theorem tX9_start_L24 (hE : gEX l dC dI ad ca X) {σ' : gM} (n : Nat) (i : Nat) (hi : i < 3)  : ∀ (k : Nat) (v2 : Int32) (σ : gM), fX9_start_L24 n i k v2 σ = some σ' → g_G l dC dI ad ca shX X cX9_start 3 RX9 none (gR 0) none σ' 24 [(0, .ref (10 + 5 * i)), (1, .ref 5), (2, .int v2)] [] σ := by
  intro k
  induction k with
  | zero => intro v2 σ h; cases h
  | succ k ih => intro v2 σ h; exact tX9_start_b24 hE n i hi (fX9_start_L24 n i k) ih v2 σ h
def fX9_start_b2 (n : Nat) (i : Nat) (K2 : Int32 → gM → Option (gM)) (v2 : Int32) (σ : gM) : Option (gM) := if 144 ≤ v2 then (fX9_start_L24 n i n 0 σ) else (if ¬ (v2 < 0 ∨ 144 ≤ v2.toNatClampNeg) then (g_let (g_put σ (11 + 5 * i) v2.toNatClampNeg 0) (fun σ31 => K2 (v2 + 1) σ31)) else none)
set_option maxRecDepth 100000 in
theorem tX9_start_b2 (hE : gEX l dC dI ad ca X) {σ' : gM} (n : Nat) (i : Nat) (hi : i < 3) (K2 : Int32 → gM → Option (gM)) (hK2 : ∀ (v2 : Int32) (σ : gM), K2 v2 σ = some σ' → g_G l dC dI ad ca shX X cX9_start 3 RX9 none (gR 0) none σ' 2 [(0, .ref (10 + 5 * i)), (1, .ref 5), (2, .int v2)] [] σ) (v2 : Int32)  (σ : gM) (h : fX9_start_b2 n i K2 v2 σ = some σ') : g_G l dC dI ad ca shX X cX9_start 3 RX9 none (gR 0) none σ' 2 [(0, .ref (10 + 5 * i)), (1, .ref 5), (2, .int v2)] [] σ := by
  unfold fX9_start_b2 at h
  refine g_iload_n (pc := 2) dX9_start_2 rfl 2 rfl ?_
  refine g_sipush (pc := 3) (v := 144) dX9_start_3 (by decide) ?_
  refine g_icmp_ge (pc := 6) (tgt := 22) dX9_start_6 (by decide) (fun c29 => ?_) (fun c29 => ?_)
  · have h := g_ift c29 h
    refine g_iconst (pc := 22) (v := 0) dX9_start_22 (by decide) ?_
    refine g_istore_n (pc := 23) (lv1 := [(2, .int 0), (0, .ref (10 + 5 * i)), (1, .ref 5)]) dX9_start_23 rfl (by decide) rfl ?_
    exact g_lv [1, 2, 0] rfl (tX9_start_L24 hE n i hi n 0 σ h)
  · have h := g_iff c29 h
    refine g_aload_n (pc := 9) dX9_start_9 rfl 0 rfl ?_
    refine g_getR (pc := 10) wfX9_11 (sX_state hi) rfl dX9_start_10 ?_
    refine g_iload_n (pc := 13) dX9_start_13 rfl 2 rfl ?_
    refine g_iconst (pc := 14) (v := 0) dX9_start_14 (by decide) ?_
    obtain ⟨c30, h⟩ := g_gd h
    obtain ⟨σ31, e32, h⟩ := g_ltd h
    refine g_iast (pc := 15) (sX_slots hi) c30 rfl e32 dX9_start_15 ?_
    refine g_iinc (pc := 16) (v := v2 + 1) (lv1 := [(2, .int (v2 + 1)), (0, .ref (10 + 5 * i)), (1, .ref 5)]) dX9_start_16 2 rfl rfl (by decide) rfl ?_
    refine g_goto (pc := 19) (tgt := 2) dX9_start_19 (by decide) ?_
    exact g_lv [1, 2, 0] rfl (hK2 (v2 + 1) σ31 h)
def fX9_start_L2 (n : Nat) (i : Nat) : Nat → Int32 → gM → Option (gM)
  | 0 => fun _ _ => none
  | k + 1 => fX9_start_b2 n i (fX9_start_L2 n i k)
theorem tX9_start_L2 (hE : gEX l dC dI ad ca X) {σ' : gM} (n : Nat) (i : Nat) (hi : i < 3)  : ∀ (k : Nat) (v2 : Int32) (σ : gM), fX9_start_L2 n i k v2 σ = some σ' → g_G l dC dI ad ca shX X cX9_start 3 RX9 none (gR 0) none σ' 2 [(0, .ref (10 + 5 * i)), (1, .ref 5), (2, .int v2)] [] σ := by
  intro k
  induction k with
  | zero => intro v2 σ h; cases h
  | succ k ih => intro v2 σ h; exact tX9_start_b2 hE n i hi (fX9_start_L2 n i k) ih v2 σ h
def fX9_start (n : Nat) (i : Nat) (σ : gM) : Option (gM) := fX9_start_L2 n i n 0 σ
set_option maxRecDepth 100000 in
theorem kX9_start (hE : gEX l dC dI ad ca X) (n : Nat) (i : Nat) (hi : i < 3)  (σ : gM) {σ' : gM} (h : fX9_start n i σ = some σ') : g_C l dC dI ad ca shX X yX9_start cX9_start 3 none (gR 0) [.ref (10 + 5 * i), .ref 5] σ none σ' := by
  refine g_entry (by decide +kernel) (Nat.le_of_ble_eq_true rfl) ?_
  refine g_lvE (lv1 := [(0, .ref (10 + 5 * i)), (1, .ref 5)]) rfl ?_
  unfold fX9_start at h
  refine g_iconst (pc := 0) (v := 0) dX9_start_0 (by decide) ?_
  refine g_istore_n (pc := 1) (lv1 := [(2, .int 0), (0, .ref (10 + 5 * i)), (1, .ref 5)]) dX9_start_1 rfl (by decide) rfl ?_
  exact g_lv [1, 2, 0] rfl (tX9_start_L2 hE n i hi n 0 σ h)
def fX9_forgetCosts_b2 (n : Nat) (i : Nat) (K2 : Int32 → gM → Option (gM)) (v1 : Int32) (σ : gM) : Option (gM) := if 8 ≤ v1 then (some σ) else (if ¬ ((112 + v1) < 0 ∨ 144 ≤ (112 + v1).toNatClampNeg) then (g_let (g_put σ (11 + 5 * i) ((112 + v1).toNatClampNeg) 0) (fun σ10 => if ¬ ((120 + v1) < 0 ∨ 144 ≤ (120 + v1).toNatClampNeg) then (g_let (g_put σ10 (11 + 5 * i) ((120 + v1).toNatClampNeg) 0) (fun σ13 => K2 (v1 + 1) σ13)) else none)) else none)
set_option maxRecDepth 100000 in
theorem tX9_forgetCosts_b2 (hE : gEX l dC dI ad ca X) {σ' : gM} (n : Nat) (i : Nat) (hi : i < 3) (K2 : Int32 → gM → Option (gM)) (hK2 : ∀ (v1 : Int32) (σ : gM), K2 v1 σ = some σ' → g_G l dC dI ad ca shX X cX9_forgetCosts 2 RX9 none (gR 0) none σ' 2 [(0, .ref (10 + 5 * i)), (1, .int v1)] [] σ) (v1 : Int32)  (σ : gM) (h : fX9_forgetCosts_b2 n i K2 v1 σ = some σ') : g_G l dC dI ad ca shX X cX9_forgetCosts 2 RX9 none (gR 0) none σ' 2 [(0, .ref (10 + 5 * i)), (1, .int v1)] [] σ := by
  unfold fX9_forgetCosts_b2 at h
  refine g_iload_n (pc := 2) dX9_forgetCosts_2 rfl 1 rfl ?_
  refine g_bipush (pc := 3) (v := 8) dX9_forgetCosts_3 (by decide) ?_
  refine g_icmp_ge (pc := 5) (tgt := 34) dX9_forgetCosts_5 (by decide) (fun c8 => ?_) (fun c8 => ?_)
  · have h := g_ift c8 h
    cases h
    exact g_vret (pc := 34) rfl rfl rfl dX9_forgetCosts_34
  · have h := g_iff c8 h
    refine g_aload_n (pc := 8) dX9_forgetCosts_8 rfl 0 rfl ?_
    refine g_getR (pc := 9) wfX9_11 (sX_state hi) rfl dX9_forgetCosts_9 ?_
    refine g_bipush (pc := 12) (v := 112) dX9_forgetCosts_12 (by decide) ?_
    refine g_iload_n (pc := 14) dX9_forgetCosts_14 rfl 1 rfl ?_
    refine g_iadd (pc := 15) dX9_forgetCosts_15 ?_
    refine g_iconst (pc := 16) (v := 0) dX9_forgetCosts_16 (by decide) ?_
    obtain ⟨c9, h⟩ := g_gd h
    obtain ⟨σ10, e11, h⟩ := g_ltd h
    refine g_iast (pc := 17) (sX_slots hi) c9 rfl e11 dX9_forgetCosts_17 ?_
    refine g_aload_n (pc := 18) dX9_forgetCosts_18 rfl 0 rfl ?_
    refine g_getR (pc := 19) wfX9_11 (sX_state hi) rfl dX9_forgetCosts_19 ?_
    refine g_bipush (pc := 22) (v := 120) dX9_forgetCosts_22 (by decide) ?_
    refine g_iload_n (pc := 24) dX9_forgetCosts_24 rfl 1 rfl ?_
    refine g_iadd (pc := 25) dX9_forgetCosts_25 ?_
    refine g_iconst (pc := 26) (v := 0) dX9_forgetCosts_26 (by decide) ?_
    obtain ⟨c12, h⟩ := g_gd h
    obtain ⟨σ13, e14, h⟩ := g_ltd h
    refine g_iast (pc := 27) (sX_slots hi) c12 rfl e14 dX9_forgetCosts_27 ?_
    refine g_iinc (pc := 28) (v := v1 + 1) (lv1 := [(1, .int (v1 + 1)), (0, .ref (10 + 5 * i))]) dX9_forgetCosts_28 1 rfl rfl (by decide) rfl ?_
    refine g_goto (pc := 31) (tgt := 2) dX9_forgetCosts_31 (by decide) ?_
    exact g_lv [1, 0] rfl (hK2 (v1 + 1) σ13 h)
def fX9_forgetCosts_L2 (n : Nat) (i : Nat) : Nat → Int32 → gM → Option (gM)
  | 0 => fun _ _ => none
  | k + 1 => fX9_forgetCosts_b2 n i (fX9_forgetCosts_L2 n i k)
theorem tX9_forgetCosts_L2 (hE : gEX l dC dI ad ca X) {σ' : gM} (n : Nat) (i : Nat) (hi : i < 3)  : ∀ (k : Nat) (v1 : Int32) (σ : gM), fX9_forgetCosts_L2 n i k v1 σ = some σ' → g_G l dC dI ad ca shX X cX9_forgetCosts 2 RX9 none (gR 0) none σ' 2 [(0, .ref (10 + 5 * i)), (1, .int v1)] [] σ := by
  intro k
  induction k with
  | zero => intro v1 σ h; cases h
  | succ k ih => intro v1 σ h; exact tX9_forgetCosts_b2 hE n i hi (fX9_forgetCosts_L2 n i k) ih v1 σ h
def fX9_forgetCosts (n : Nat) (i : Nat) (σ : gM) : Option (gM) := fX9_forgetCosts_L2 n i n 0 σ
set_option maxRecDepth 100000 in
theorem kX9_forgetCosts (hE : gEX l dC dI ad ca X) (n : Nat) (i : Nat) (hi : i < 3)  (σ : gM) {σ' : gM} (h : fX9_forgetCosts n i σ = some σ') : g_C l dC dI ad ca shX X yX9_forgetCosts cX9_forgetCosts 2 none (gR 0) [.ref (10 + 5 * i)] σ none σ' := by
  refine g_entry (by decide +kernel) (Nat.le_of_ble_eq_true rfl) ?_
  refine g_lvE (lv1 := [(0, .ref (10 + 5 * i))]) rfl ?_
  unfold fX9_forgetCosts at h
  refine g_iconst (pc := 0) (v := 0) dX9_forgetCosts_0 (by decide) ?_
  refine g_istore_n (pc := 1) (lv1 := [(1, .int 0), (0, .ref (10 + 5 * i))]) dX9_forgetCosts_1 rfl (by decide) rfl ?_
  exact g_lv [1, 0] rfl (tX9_forgetCosts_L2 hE n i hi n 0 σ h)
def fX9_sumOfDisks_b4 (n : Nat) (i : Nat) (K4 : Int32 → Int32 → Int32 → gM → Option (Int32 × gM)) (v1 : Int32) (v2 : Int32) (v3 : Int32) (σ : gM) : Option (Int32 × gM) := if 8 ≤ v3 then (some (v2, σ)) else (g_bI (fX9_get i (v1 + v3) σ) (fun r8 σ7 => K4 v1 (v2 + r8) (v3 + 1) σ7))
set_option maxRecDepth 100000 in
theorem tX9_sumOfDisks_b4 (hE : gEX l dC dI ad ca X) {r0 : Int32} {σ' : gM} (n : Nat) (i : Nat) (hi : i < 3) (K4 : Int32 → Int32 → Int32 → gM → Option (Int32 × gM)) (hK4 : ∀ (v1 : Int32) (v2 : Int32) (v3 : Int32) (σ : gM), K4 v1 v2 v3 σ = some (r0, σ') → g_G l dC dI ad ca shX X cX9_sumOfDisks 4 RX9 (some .int) (gR 1) (some (.int r0)) σ' 4 [(0, .ref (10 + 5 * i)), (1, .int v1), (2, .int v2), (3, .int v3)] [] σ) (v1 : Int32) (v2 : Int32) (v3 : Int32)  (σ : gM) (h : fX9_sumOfDisks_b4 n i K4 v1 v2 v3 σ = some (r0, σ')) : g_G l dC dI ad ca shX X cX9_sumOfDisks 4 RX9 (some .int) (gR 1) (some (.int r0)) σ' 4 [(0, .ref (10 + 5 * i)), (1, .int v1), (2, .int v2), (3, .int v3)] [] σ := by
  unfold fX9_sumOfDisks_b4 at h
  refine g_iload_n (pc := 4) dX9_sumOfDisks_4 rfl 3 rfl ?_
  refine g_bipush (pc := 5) (v := 8) dX9_sumOfDisks_5 (by decide) ?_
  refine g_icmp_ge (pc := 7) (tgt := 26) dX9_sumOfDisks_7 (by decide) (fun c5 => ?_) (fun c5 => ?_)
  · have h := g_ift c5 h
    refine g_iload_n (pc := 26) dX9_sumOfDisks_26 rfl 2 rfl ?_
    cases h
    exact g_iret (pc := 27) rfl rfl rfl rfl dX9_sumOfDisks_27
  · have h := g_iff c5 h
    refine g_iload_n (pc := 10) dX9_sumOfDisks_10 rfl 2 rfl ?_
    refine g_aload_n (pc := 11) dX9_sumOfDisks_11 rfl 0 rfl ?_
    refine g_iload_n (pc := 12) dX9_sumOfDisks_12 rfl 1 rfl ?_
    refine g_iload_n (pc := 13) dX9_sumOfDisks_13 rfl 3 rfl ?_
    refine g_iadd (pc := 14) dX9_sumOfDisks_14 ?_
    obtain ⟨r8, σ7, h6, h⟩ := g_bId h
    refine g_callVi (pc := 15) (st := [.int v2]) hE.1 wvX9_24 (sX_state hi) rfl (kX9_get hE i hi (v1 + v3) σ h6) rfl (gR_ok (by decide) (by decide)) (Nat.le_of_ble_eq_true rfl) rfl dX9_sumOfDisks_15 ?_
    refine g_iadd (pc := 18) dX9_sumOfDisks_18 ?_
    refine g_istore_n (pc := 19) (lv1 := [(2, .int (v2 + r8)), (0, .ref (10 + 5 * i)), (1, .int v1), (3, .int v3)]) dX9_sumOfDisks_19 rfl (by decide) rfl ?_
    refine g_iinc (pc := 20) (v := v3 + 1) (lv1 := [(3, .int (v3 + 1)), (2, .int (v2 + r8)), (0, .ref (10 + 5 * i)), (1, .int v1)]) dX9_sumOfDisks_20 3 rfl rfl (by decide) rfl ?_
    refine g_goto (pc := 23) (tgt := 4) dX9_sumOfDisks_23 (by decide) ?_
    exact g_lv [2, 3, 1, 0] rfl (hK4 v1 (v2 + r8) (v3 + 1) σ7 h)
def fX9_sumOfDisks_L4 (n : Nat) (i : Nat) : Nat → Int32 → Int32 → Int32 → gM → Option (Int32 × gM)
  | 0 => fun _ _ _ _ => none
  | k + 1 => fX9_sumOfDisks_b4 n i (fX9_sumOfDisks_L4 n i k)
theorem tX9_sumOfDisks_L4 (hE : gEX l dC dI ad ca X) {r0 : Int32} {σ' : gM} (n : Nat) (i : Nat) (hi : i < 3)  : ∀ (k : Nat) (v1 : Int32) (v2 : Int32) (v3 : Int32) (σ : gM), fX9_sumOfDisks_L4 n i k v1 v2 v3 σ = some (r0, σ') → g_G l dC dI ad ca shX X cX9_sumOfDisks 4 RX9 (some .int) (gR 1) (some (.int r0)) σ' 4 [(0, .ref (10 + 5 * i)), (1, .int v1), (2, .int v2), (3, .int v3)] [] σ := by
  intro k
  induction k with
  | zero => intro v1 v2 v3 σ h; cases h
  | succ k ih => intro v1 v2 v3 σ h; exact tX9_sumOfDisks_b4 hE n i hi (fX9_sumOfDisks_L4 n i k) ih v1 v2 v3 σ h
def fX9_sumOfDisks (n : Nat) (i : Nat) (v1 : Int32) (σ : gM) : Option (Int32 × gM) := fX9_sumOfDisks_L4 n i n v1 0 0 σ
set_option maxRecDepth 100000 in
theorem kX9_sumOfDisks (hE : gEX l dC dI ad ca X) (n : Nat) (i : Nat) (hi : i < 3)  (v1 : Int32) (σ : gM) {r0 : Int32} {σ' : gM} (h : fX9_sumOfDisks n i v1 σ = some (r0, σ')) : g_C l dC dI ad ca shX X yX9_sumOfDisks cX9_sumOfDisks 4 (some .int) (gR 1) [.ref (10 + 5 * i), .int v1] σ (some (.int r0)) σ' := by
  refine g_entry (by decide +kernel) (Nat.le_of_ble_eq_true rfl) ?_
  refine g_lvE (lv1 := [(0, .ref (10 + 5 * i)), (1, .int v1)]) rfl ?_
  unfold fX9_sumOfDisks at h
  refine g_iconst (pc := 0) (v := 0) dX9_sumOfDisks_0 (by decide) ?_
  refine g_istore_n (pc := 1) (lv1 := [(2, .int 0), (0, .ref (10 + 5 * i)), (1, .int v1)]) dX9_sumOfDisks_1 rfl (by decide) rfl ?_
  refine g_iconst (pc := 2) (v := 0) dX9_sumOfDisks_2 (by decide) ?_
  refine g_istore_n (pc := 3) (lv1 := [(3, .int 0), (2, .int 0), (0, .ref (10 + 5 * i)), (1, .int v1)]) dX9_sumOfDisks_3 rfl (by decide) rfl ?_
  exact g_lv [2, 3, 1, 0] rfl (tX9_sumOfDisks_L4 hE n i hi n v1 0 0 σ h)
def fX9_costEver (n : Nat) (i : Nat) (σ : gM) : Option (Int32 × gM) := g_bI (fX9_sumOfDisks n i 112 σ) (fun r9 σ8 => g_bI (fX9_sumOfDisks n i 120 σ8) (fun r12 σ11 => some (r9 + r12, σ11)))
set_option maxRecDepth 100000 in
theorem kX9_costEver (hE : gEX l dC dI ad ca X) (n : Nat) (i : Nat) (hi : i < 3)  (σ : gM) {r0 : Int32} {σ' : gM} (h : fX9_costEver n i σ = some (r0, σ')) : g_C l dC dI ad ca shX X yX9_costEver cX9_costEver 1 (some .int) (gR 2) [.ref (10 + 5 * i)] σ (some (.int r0)) σ' := by
  refine g_entry (by decide +kernel) (Nat.le_of_ble_eq_true rfl) ?_
  refine g_lvE (lv1 := [(0, .ref (10 + 5 * i))]) rfl ?_
  unfold fX9_costEver at h
  refine g_aload_n (pc := 0) dX9_costEver_0 rfl 0 rfl ?_
  refine g_bipush (pc := 1) (v := 112) dX9_costEver_1 (by decide) ?_
  obtain ⟨r9, σ8, h7, h⟩ := g_bId h
  refine g_callVi (pc := 3) (st := []) hE.1 wvX9_28 (sX_state hi) rfl (kX9_sumOfDisks hE n i hi 112 σ h7) rfl (gR_ok (by decide) (by decide)) (Nat.le_of_ble_eq_true rfl) rfl dX9_costEver_3 ?_
  refine g_aload_n (pc := 6) dX9_costEver_6 rfl 0 rfl ?_
  refine g_bipush (pc := 7) (v := 120) dX9_costEver_7 (by decide) ?_
  obtain ⟨r12, σ11, h10, h⟩ := g_bId h
  refine g_callVi (pc := 9) (st := [.int r9]) hE.1 wvX9_28 (sX_state hi) rfl (kX9_sumOfDisks hE n i hi 120 σ8 h10) rfl (gR_ok (by decide) (by decide)) (Nat.le_of_ble_eq_true rfl) rfl dX9_costEver_9 ?_
  refine g_iadd (pc := 12) dX9_costEver_12 ?_
  cases h
  exact g_iret (pc := 13) rfl rfl rfl rfl dX9_costEver_13
def fX9_copy (i : Nat) (j : Nat) (σ : gM) : Option (gM) := if ¬ (0 : Int32) < 0 then (if ¬ (0 : Int32) < 0 then (if ¬ (144 : Int32) < 0 then (if (0 : Int32).toNatClampNeg + (144 : Int32).toNatClampNeg ≤ 144 then (if (0 : Int32).toNatClampNeg + (144 : Int32).toNatClampNeg ≤ 144 then (g_let (g_row σ (11 + 5 * i) (va_cpy (σ.1 (11 + 5 * j)) (σ.1 (11 + 5 * i)) (0 : Int32).toNatClampNeg (0 : Int32).toNatClampNeg (144 : Int32).toNatClampNeg)) (fun σ13 => some σ13)) else none) else none) else none) else none) else none
set_option maxRecDepth 100000 in
theorem kX9_copy (hE : gEX l dC dI ad ca X) (i : Nat) (hi : i < 3) (j : Nat) (hj : j < 3)  (σ : gM) {σ' : gM} (h : fX9_copy i j σ = some σ') : g_C l dC dI ad ca shX X yX9_copy cX9_copy 2 none (gR 1) [.ref (10 + 5 * i), .ref (10 + 5 * j)] σ none σ' := by
  refine g_entry (by decide +kernel) (Nat.le_of_ble_eq_true rfl) ?_
  refine g_lvE (lv1 := [(0, .ref (10 + 5 * i)), (1, .ref (10 + 5 * j))]) rfl ?_
  unfold fX9_copy at h
  refine g_aload_n (pc := 0) dX9_copy_0 rfl 1 rfl ?_
  refine g_getR (pc := 1) wfX9_11 (sX_state hj) rfl dX9_copy_1 ?_
  refine g_iconst (pc := 4) (v := 0) dX9_copy_4 (by decide) ?_
  refine g_aload_n (pc := 5) dX9_copy_5 rfl 0 rfl ?_
  refine g_getR (pc := 6) wfX9_11 (sX_state hi) rfl dX9_copy_6 ?_
  refine g_iconst (pc := 9) (v := 0) dX9_copy_9 (by decide) ?_
  refine g_sipush (pc := 10) (v := 144) dX9_copy_10 (by decide) ?_
  obtain ⟨c8, h⟩ := g_gd h
  obtain ⟨c9, h⟩ := g_gd h
  obtain ⟨c10, h⟩ := g_gd h
  obtain ⟨c11, h⟩ := g_gd h
  obtain ⟨c12, h⟩ := g_gd h
  obtain ⟨σ13, e14, h⟩ := g_ltd h
  refine g_copy (pc := 13) (st := []) waX9_31 (sX_slots hj) (sX_slots hi) c8 c9 c10 c11 c12 ⟨by decide, by decide⟩ e14 dX9_copy_13 ?_
  cases h
  exact g_vret (pc := 16) rfl rfl rfl dX9_copy_16
def fX11_isByte (v0 : Int32) (σ : gM) : Option (Int32 × gM) := if v0 < 0 then (some (0, σ)) else (if 255 < v0 then (some (0, σ)) else (some (1, σ)))
set_option maxRecDepth 100000 in
theorem kX11_isByte (hE : gEX l dC dI ad ca X)  (v0 : Int32) (σ : gM) {r0 : Int32} {σ' : gM} (h : fX11_isByte v0 σ = some (r0, σ')) : g_C l dC dI ad ca shX X yX11_isByte cX11_isByte 1 (some .boolean) (gR 0) [.int v0] σ (some (.int r0)) σ' := by
  refine g_entry (by decide +kernel) (Nat.le_of_ble_eq_true rfl) ?_
  refine g_lvE (lv1 := [(0, .int v0)]) rfl ?_
  unfold fX11_isByte at h
  refine g_iload_n (pc := 0) dX11_isByte_0 rfl 0 rfl ?_
  refine g_if_lt (pc := 1) (tgt := 15) dX11_isByte_1 (by decide) (fun c3 => ?_) (fun c3 => ?_)
  · have h := g_ift c3 h
    refine g_iconst (pc := 15) (v := 0) dX11_isByte_15 (by decide) ?_
    cases h
    exact g_iret (pc := 16) rfl (by decide) rfl rfl dX11_isByte_16
  · have h := g_iff c3 h
    refine g_iload_n (pc := 4) dX11_isByte_4 rfl 0 rfl ?_
    refine g_sipush (pc := 5) (v := 255) dX11_isByte_5 (by decide) ?_
    refine g_icmp_gt (pc := 8) (tgt := 15) dX11_isByte_8 (by decide) (fun c4 => ?_) (fun c4 => ?_)
    · have h := g_ift c4 h
      refine g_iconst (pc := 15) (v := 0) dX11_isByte_15 (by decide) ?_
      cases h
      exact g_iret (pc := 16) rfl (by decide) rfl rfl dX11_isByte_16
    · have h := g_iff c4 h
      refine g_iconst (pc := 11) (v := 1) dX11_isByte_11 (by decide) ?_
      refine g_goto (pc := 12) (tgt := 16) dX11_isByte_12 (by decide) ?_
      cases h
      exact g_iret (pc := 16) rfl (by decide) rfl rfl dX11_isByte_16
end WKA1
