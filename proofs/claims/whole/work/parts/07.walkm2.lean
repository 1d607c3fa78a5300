section WKM2
variable {l : Launch} {dC : Nat → ClassId} {dI : Nat → Nat → Nat} {ad : Nat → Nat} {ca : Nat → ClassId} {X : (Nat → Prop) → State → Heap → Prop}

def fX12_sum_b66 (n : Nat) (K6 : Int32 → Int32 → Int32 → Int32 → Int32 → gM → Option (Int32 × gM)) (v1 : Int32) (v2 : Int32) (v3 : Int32) (v4 : Int32) (v5 : Int32) (σ : gM) : Option (Int32 × gM) := K6 v1 v2 v3 v4 (v5 + 1) σ
set_option maxRecDepth 100000 in
theorem tX12_sum_b66 (hE : gEM l dC dI ad ca X) {r0 : Int32} {σ' : gM} (n : Nat) (K6 : Int32 → Int32 → Int32 → Int32 → Int32 → gM → Option (Int32 × gM)) (hK6 : ∀ (v1 : Int32) (v2 : Int32) (v3 : Int32) (v4 : Int32) (v5 : Int32) (σ : gM), K6 v1 v2 v3 v4 v5 σ = some (r0, σ') → g_G l dC dI ad ca shM X cX12_sum 6 RX12 (some .int) (gR 1) (some (.int r0)) σ' 6 [(0, .ref 0), (1, .int v1), (2, .int v2), (3, .int v3), (4, .int v4), (5, .int v5)] [] σ) (v1 : Int32) (v2 : Int32) (v3 : Int32) (v4 : Int32) (v5 : Int32)  (σ : gM) (h : fX12_sum_b66 n K6 v1 v2 v3 v4 v5 σ = some (r0, σ')) : g_G l dC dI ad ca shM X cX12_sum 6 RX12 (some .int) (gR 1) (some (.int r0)) σ' 66 [(0, .ref 0), (1, .int v1), (2, .int v2), (3, .int v3), (4, .int v4), (5, .int v5)] [] σ := by
  unfold fX12_sum_b66 at h
  refine g_iinc (pc := 66) (v := v5 + 1) (lv1 := [(5, .int (v5 + 1)), (0, .ref 0), (1, .int v1), (2, .int v2), (3, .int v3), (4, .int v4)]) dX12_sum_66 5 rfl rfl (by decide) rfl ?_
  refine g_goto (pc := 69) (tgt := 6) dX12_sum_69 (by decide) ?_
  exact g_lv [1, 2, 3, 4, 5, 0] rfl (hK6 v1 v2 v3 v4 (v5 + 1) σ h)
def fX12_sum_b63 (n : Nat) (K6 : Int32 → Int32 → Int32 → Int32 → Int32 → gM → Option (Int32 × gM)) (v1 : Int32) (v2 : Int32) (v3 : Int32) (v5 : Int32) (s0 : Int32) (s1 : Int32) (σ : gM) : Option (Int32 × gM) := fX12_sum_b66 n K6 v1 v2 v3 (s1 ^^^ s0) v5 σ
set_option maxRecDepth 100000 in
theorem tX12_sum_b63 (hE : gEM l dC dI ad ca X) {r0 : Int32} {σ' : gM} (n : Nat) (K6 : Int32 → Int32 → Int32 → Int32 → Int32 → gM → Option (Int32 × gM)) (hK6 : ∀ (v1 : Int32) (v2 : Int32) (v3 : Int32) (v4 : Int32) (v5 : Int32) (σ : gM), K6 v1 v2 v3 v4 v5 σ = some (r0, σ') → g_G l dC dI ad ca shM X cX12_sum 6 RX12 (some .int) (gR 1) (some (.int r0)) σ' 6 [(0, .ref 0), (1, .int v1), (2, .int v2), (3, .int v3), (4, .int v4), (5, .int v5)] [] σ) (v1 : Int32) (v2 : Int32) (v3 : Int32) (v5 : Int32) (s0 : Int32) (s1 : Int32)  (σ : gM) (h : fX12_sum_b63 n K6 v1 v2 v3 v5 s0 s1 σ = some (r0, σ')) : g_G l dC dI ad ca shM X cX12_sum 6 RX12 (some .int) (gR 1) (some (.int r0)) σ' 63 [(0, .ref 0), (1, .int v1), (2, .int v2), (3, .int v3), (5, .int v5)] [.int s0, .int s1] σ := by
  unfold fX12_sum_b63 at h
  refine g_ixor (pc := 63) dX12_sum_63 ?_
  refine g_istore (pc := 64) (lv1 := [(4, .int (s1 ^^^ s0)), (0, .ref 0), (1, .int v1), (2, .int v2), (3, .int v3), (5, .int v5)]) dX12_sum_64 (by decide) rfl ?_
  exact g_lv [1, 2, 3, 4, 0, 5] rfl (tX12_sum_b66 hE n K6 hK6 v1 v2 v3 (s1 ^^^ s0) v5 σ h)
def fX12_sum_b6 (n : Nat) (K6 : Int32 → Int32 → Int32 → Int32 → Int32 → gM → Option (Int32 × gM)) (v1 : Int32) (v2 : Int32) (v3 : Int32) (v4 : Int32) (v5 : Int32) (σ : gM) : Option (Int32 × gM) := if (σ.1 3 0) ≤ v5 then (some (v4, σ)) else (if v5 = v2 then (fX12_sum_b66 n K6 v1 v2 v3 v4 v5 σ) else (if v5 = v3 then (fX12_sum_b66 n K6 v1 v2 v3 v4 v5 σ) else (if v1 = 0 then (if ¬ (v5 < 0 ∨ 8 ≤ v5.toNatClampNeg) then (fX12_sum_b63 n K6 v1 v2 v3 v5 (σ.1 14 v5.toNatClampNeg) v4 σ) else none) else (if ¬ (v5 < 0 ∨ 8 ≤ v5.toNatClampNeg) then (if ¬ (v5 < 0 ∨ 255 ≤ v5.toNatClampNeg) then (g_bI (fX12_product (σ.1 14 v5.toNatClampNeg) (σ.1 8 v5.toNatClampNeg) σ) (fun r20 σ19 => fX12_sum_b63 n K6 v1 v2 v3 v5 r20 v4 σ19)) else none) else none))))
set_option maxRecDepth 100000 in
theorem tX12_sum_b6 (hE : gEM l dC dI ad ca X) {r0 : Int32} {σ' : gM} (n : Nat) (K6 : Int32 → Int32 → Int32 → Int32 → Int32 → gM → Option (Int32 × gM)) (hK6 : ∀ (v1 : Int32) (v2 : Int32) (v3 : Int32) (v4 : Int32) (v5 : Int32) (σ : gM), K6 v1 v2 v3 v4 v5 σ = some (r0, σ') → g_G l dC dI ad ca shM X cX12_sum 6 RX12 (some .int) (gR 1) (some (.int r0)) σ' 6 [(0, .ref 0), (1, .int v1), (2, .int v2), (3, .int v3), (4, .int v4), (5, .int v5)] [] σ) (v1 : Int32) (v2 : Int32) (v3 : Int32) (v4 : Int32) (v5 : Int32)  (σ : gM) (h : fX12_sum_b6 n K6 v1 v2 v3 v4 v5 σ = some (r0, σ')) : g_G l dC dI ad ca shM X cX12_sum 6 RX12 (some .int) (gR 1) (some (.int r0)) σ' 6 [(0, .ref 0), (1, .int v1), (2, .int v2), (3, .int v3), (4, .int v4), (5, .int v5)] [] σ := by
  unfold fX12_sum_b6 at h
  refine g_iload (pc := 6) dX12_sum_6 5 rfl ?_
  refine g_aload_n (pc := 8) dX12_sum_8 rfl 0 rfl ?_
  refine g_getR (pc := 9) wfX12_17 rfl rfl dX12_sum_9 ?_
  refine g_iconst (pc := 12) (v := 0) dX12_sum_12 (by decide) ?_
  refine g_iald (pc := 13) rfl (by decide) (j := 0) (by decide) dX12_sum_13 ?_
  refine g_icmp_ge (pc := 14) (tgt := 72) dX12_sum_14 (by decide) (fun c11 => ?_) (fun c11 => ?_)
  · have h := g_ift c11 h
    refine g_iload (pc := 72) dX12_sum_72 4 rfl ?_
    cases h
    exact g_iret (pc := 74) rfl rfl rfl rfl dX12_sum_74
  · have h := g_iff c11 h
    refine g_iload (pc := 17) dX12_sum_17 5 rfl ?_
    refine g_iload_n (pc := 19) dX12_sum_19 rfl 2 rfl ?_
    refine g_icmp_eq (pc := 20) (tgt := 66) dX12_sum_20 (by decide) (fun c12 => ?_) (fun c12 => ?_)
    · have h := g_ift c12 h
      exact g_lv [0, 1, 2, 3, 4, 5] rfl (tX12_sum_b66 hE n K6 hK6 v1 v2 v3 v4 v5 σ h)
    · have h := g_iff c12 h
      refine g_iload (pc := 23) dX12_sum_23 5 rfl ?_
      refine g_iload_n (pc := 25) dX12_sum_25 rfl 3 rfl ?_
      refine g_icmp_eq (pc := 26) (tgt := 66) dX12_sum_26 (by decide) (fun c13 => ?_) (fun c13 => ?_)
      · have h := g_ift c13 h
        exact g_lv [0, 1, 2, 3, 4, 5] rfl (tX12_sum_b66 hE n K6 hK6 v1 v2 v3 v4 v5 σ h)
      · have h := g_iff c13 h
        refine g_iload (pc := 29) dX12_sum_29 4 rfl ?_
        refine g_iload_n (pc := 31) dX12_sum_31 rfl 1 rfl ?_
        refine g_if_eq (pc := 32) (tgt := 56) dX12_sum_32 (by decide) (fun c14 => ?_) (fun c14 => ?_)
        · have h := g_ift c14 h
          refine g_aload_n (pc := 56) dX12_sum_56 rfl 0 rfl ?_
          refine g_getR (pc := 57) wfX12_50 rfl rfl dX12_sum_57 ?_
          refine g_iload (pc := 60) dX12_sum_60 5 rfl ?_
          obtain ⟨c15, h⟩ := g_gd h
          refine g_iald (pc := 62) rfl c15 rfl dX12_sum_62 ?_
          exact g_lv [0, 1, 2, 3, 5] rfl (tX12_sum_b63 hE n K6 hK6 v1 v2 v3 v5 (σ.1 14 v5.toNatClampNeg) v4 σ h)
        · have h := g_iff c14 h
          refine g_aload_n (pc := 35) dX12_sum_35 rfl 0 rfl ?_
          refine g_aload_n (pc := 36) dX12_sum_36 rfl 0 rfl ?_
          refine g_getR (pc := 37) wfX12_50 rfl rfl dX12_sum_37 ?_
          refine g_iload (pc := 40) dX12_sum_40 5 rfl ?_
          obtain ⟨c16, h⟩ := g_gd h
          refine g_iald (pc := 42) rfl c16 rfl dX12_sum_42 ?_
          refine g_aload_n (pc := 43) dX12_sum_43 rfl 0 rfl ?_
          refine g_getR (pc := 44) wfX12_32 rfl rfl dX12_sum_44 ?_
          refine g_iload (pc := 47) dX12_sum_47 5 rfl ?_
          obtain ⟨c17, h⟩ := g_gd h
          refine g_iald (pc := 49) rfl c17 rfl dX12_sum_49 ?_
          obtain ⟨r20, σ19, h18, h⟩ := g_bId h
          refine g_callVi (pc := 50) (st := [.int v4]) hE.1 wvX12_160 rfl rfl (kX12_product hE (σ.1 14 v5.toNatClampNeg) (σ.1 8 v5.toNatClampNeg) σ h18) rfl (gR_ok (by decide) (by decide)) (Nat.le_of_ble_eq_true rfl) rfl dX12_sum_50 ?_
          refine g_goto (pc := 53) (tgt := 63) dX12_sum_53 (by decide) ?_
          exact g_lv [0, 1, 2, 3, 5] rfl (tX12_sum_b63 hE n K6 hK6 v1 v2 v3 v5 r20 v4 σ19 h)
def fX12_sum_L6 (n : Nat) : Nat → Int32 → Int32 → Int32 → Int32 → Int32 → gM → Option (Int32 × gM)
  | 0 => fun _ _ _ _ _ _ => none
  | k + 1 => fX12_sum_b6 n (fX12_sum_L6 n k)
theorem tX12_sum_L6 (hE : gEM l dC dI ad ca X) {r0 : Int32} {σ' : gM} (n : Nat)  : ∀ (k : Nat) (v1 : Int32) (v2 : Int32) (v3 : Int32) (v4 : Int32) (v5 : Int32) (σ : gM), fX12_sum_L6 n k v1 v2 v3 v4 v5 σ = some (r0, σ') → g_G l dC dI ad ca shM X cX12_sum 6 RX12 (some .int) (gR 1) (some (.int r0)) σ' 6 [(0, .ref 0), (1, .int v1), (2, .int v2), (3, .int v3), (4, .int v4), (5, .int v5)] [] σ := by
  intro k
  induction k with
  | zero => intro v1 v2 v3 v4 v5 σ h; cases h
  | succ k ih => intro v1 v2 v3 v4 v5 σ h; exact tX12_sum_b6 hE n (fX12_sum_L6 n k) ih v1 v2 v3 v4 v5 σ h
def fX12_sum (n : Nat) (v1 : Int32) (v2 : Int32) (v3 : Int32) (σ : gM) : Option (Int32 × gM) := fX12_sum_L6 n n v1 v2 v3 0 0 σ
set_option maxRecDepth 100000 in
theorem kX12_sum (hE : gEM l dC dI ad ca X) (n : Nat)  (v1 : Int32) (v2 : Int32) (v3 : Int32) (σ : gM) {r0 : Int32} {σ' : gM} (h : fX12_sum n v1 v2 v3 σ = some (r0, σ')) : g_C l dC dI ad ca shM X yX12_sum cX12_sum 6 (some .int) (gR 1) [.ref 0, .int v1, .int v2, .int v3] σ (some (.int r0)) σ' := by
  refine g_entry (by decide +kernel) (Nat.le_of_ble_eq_true rfl) ?_
  refine g_lvE (lv1 := [(0, .ref 0), (1, .int v1), (2, .int v2), (3, .int v3)]) rfl ?_
  unfold fX12_sum at h
  refine g_iconst (pc := 0) (v := 0) dX12_sum_0 (by decide) ?_
  refine g_istore (pc := 1) (lv1 := [(4, .int 0), (0, .ref 0), (1, .int v1), (2, .int v2), (3, .int v3)]) dX12_sum_1 (by decide) rfl ?_
  refine g_iconst (pc := 3) (v := 0) dX12_sum_3 (by decide) ?_
  refine g_istore (pc := 4) (lv1 := [(5, .int 0), (4, .int 0), (0, .ref 0), (1, .int v1), (2, .int v2), (3, .int v3)]) dX12_sum_4 (by decide) rfl ?_
  exact g_lv [2, 3, 4, 5, 1, 0] rfl (tX12_sum_L6 hE n n v1 v2 v3 0 0 σ h)
def fX12_solves_b217 (n : Nat) (v2 : Int32) (σ : gM) : Option (gM) := if ¬ (v2 < 0 ∨ 8 ≤ v2.toNatClampNeg) then (if (σ.1 15 v2.toNatClampNeg) = 0 then (g_bI (fX12_sum n 1 (-1) (-1) σ) (fun r71 σ70 => if ¬ (v2 < 0 ∨ 8 ≤ v2.toNatClampNeg) then (g_let (g_put σ70 14 v2.toNatClampNeg r71) (fun σ73 => some σ73)) else none)) else (some σ)) else none
set_option maxRecDepth 100000 in
theorem tX12_solves_b217 (hE : gEM l dC dI ad ca X) {σ' : gM} (n : Nat) (v2 : Int32)  (σ : gM) (h : fX12_solves_b217 n v2 σ = some σ') : g_G l dC dI ad ca shM X cX12_solves 7 RX12 none (gR 2) none σ' 217 [(0, .ref 0), (2, .int v2)] [] σ := by
  unfold fX12_solves_b217 at h
  refine g_aload_n (pc := 217) dX12_solves_217 rfl 0 rfl ?_
  refine g_getR (pc := 218) wfX12_53 rfl rfl dX12_solves_218 ?_
  refine g_iload_n (pc := 221) dX12_solves_221 rfl 1 rfl ?_
  obtain ⟨c67, h⟩ := g_gd h
  refine g_zald (pc := 222) rfl c67 rfl dX12_solves_222 ?_
  refine g_if_ne (pc := 223) (tgt := 239) dX12_solves_223 (by decide) (fun c68 => ?_) (fun c68 => ?_)
  · have h := g_iff c68 h
    cases h
    exact g_vret (pc := 239) rfl rfl rfl dX12_solves_239
  · have h := g_ift c68 h
    refine g_aload_n (pc := 226) dX12_solves_226 rfl 0 rfl ?_
    refine g_getR (pc := 227) wfX12_50 rfl rfl dX12_solves_227 ?_
    refine g_iload_n (pc := 230) dX12_solves_230 rfl 1 rfl ?_
    refine g_aload_n (pc := 231) dX12_solves_231 rfl 0 rfl ?_
    refine g_iconst (pc := 232) (v := 1) dX12_solves_232 (by decide) ?_
    refine g_iconst (pc := 233) (v := (-1)) dX12_solves_233 (by decide) ?_
    refine g_iconst (pc := 234) (v := (-1)) dX12_solves_234 (by decide) ?_
    obtain ⟨r71, σ70, h69, h⟩ := g_bId h
    refine g_callVi (pc := 235) (st := [.int v2, .ref 14]) hE.1 wvX12_213 rfl rfl (kX12_sum hE n 1 (-1) (-1) σ h69) rfl (gR_ok (by decide) (by decide)) (Nat.le_of_ble_eq_true rfl) rfl dX12_solves_235 ?_
    obtain ⟨c72, h⟩ := g_gd h
    obtain ⟨σ73, e74, h⟩ := g_ltd h
    refine g_iast (pc := 238) rfl c72 rfl e74 dX12_solves_238 ?_
    cases h
    exact g_vret (pc := 239) rfl rfl rfl dX12_solves_239
def fX12_solves_b195 (n : Nat) (v1 : Int32) (v2 : Int32) (σ : gM) : Option (gM) := if ¬ (v1 < 0 ∨ 8 ≤ v1.toNatClampNeg) then (if (σ.1 15 v1.toNatClampNeg) = 0 then (g_bI (fX12_sum n 0 (-1) (-1) σ) (fun r79 σ78 => if ¬ (v1 < 0 ∨ 8 ≤ v1.toNatClampNeg) then (g_let (g_put σ78 14 v1.toNatClampNeg r79) (fun σ81 => fX12_solves_b217 n v2 σ81)) else none)) else (fX12_solves_b217 n v2 σ)) else none
set_option maxRecDepth 100000 in
theorem tX12_solves_b195 (hE : gEM l dC dI ad ca X) {σ' : gM} (n : Nat) (v1 : Int32) (v2 : Int32)  (σ : gM) (h : fX12_solves_b195 n v1 v2 σ = some σ') : g_G l dC dI ad ca shM X cX12_solves 7 RX12 none (gR 2) none σ' 195 [(0, .ref 0), (1, .int v1), (2, .int v2)] [] σ := by
  unfold fX12_solves_b195 at h
  refine g_aload_n (pc := 195) dX12_solves_195 rfl 0 rfl ?_
  refine g_getR (pc := 196) wfX12_53 rfl rfl dX12_solves_196 ?_
  refine g_iload_n (pc := 199) dX12_solves_199 rfl 1 rfl ?_
  obtain ⟨c75, h⟩ := g_gd h
  refine g_zald (pc := 200) rfl c75 rfl dX12_solves_200 ?_
  refine g_if_ne (pc := 201) (tgt := 217) dX12_solves_201 (by decide) (fun c76 => ?_) (fun c76 => ?_)
  · have h := g_iff c76 h
    exact g_lv [0, 2] rfl (tX12_solves_b217 hE n v2 σ h)
  · have h := g_ift c76 h
    refine g_aload_n (pc := 204) dX12_solves_204 rfl 0 rfl ?_
    refine g_getR (pc := 205) wfX12_50 rfl rfl dX12_solves_205 ?_
    refine g_iload_n (pc := 208) dX12_solves_208 rfl 1 rfl ?_
    refine g_aload_n (pc := 209) dX12_solves_209 rfl 0 rfl ?_
    refine g_iconst (pc := 210) (v := 0) dX12_solves_210 (by decide) ?_
    refine g_iconst (pc := 211) (v := (-1)) dX12_solves_211 (by decide) ?_
    refine g_iconst (pc := 212) (v := (-1)) dX12_solves_212 (by decide) ?_
    obtain ⟨r79, σ78, h77, h⟩ := g_bId h
    refine g_callVi (pc := 213) (st := [.int v1, .ref 14]) hE.1 wvX12_213 rfl rfl (kX12_sum hE n 0 (-1) (-1) σ h77) rfl (gR_ok (by decide) (by decide)) (Nat.le_of_ble_eq_true rfl) rfl dX12_solves_213 ?_
    obtain ⟨c80, h⟩ := g_gd h
    obtain ⟨σ81, e82, h⟩ := g_ltd h
    refine g_iast (pc := 216) rfl c80 rfl e82 dX12_solves_216 ?_
    exact g_lv [0, 2] rfl (tX12_solves_b217 hE n v2 σ81 h)
def fX12_solves_b194 (n : Nat) (v1 : Int32) (v2 : Int32) (s0 : Int32) (s1 : Int32) (σ : gM) : Option (gM) := if ¬ (s1 < 0 ∨ 8 ≤ s1.toNatClampNeg) then (g_let (g_put σ 14 s1.toNatClampNeg s0) (fun σ84 => fX12_solves_b195 n v1 v2 σ84)) else none
set_option maxRecDepth 100000 in
theorem tX12_solves_b194 (hE : gEM l dC dI ad ca X) {σ' : gM} (n : Nat) (v1 : Int32) (v2 : Int32) (s0 : Int32) (s1 : Int32)  (σ : gM) (h : fX12_solves_b194 n v1 v2 s0 s1 σ = some σ') : g_G l dC dI ad ca shM X cX12_solves 7 RX12 none (gR 2) none σ' 194 [(0, .ref 0), (1, .int v1), (2, .int v2)] [.int s0, .int s1, .ref 14] σ := by
  unfold fX12_solves_b194 at h
  obtain ⟨c83, h⟩ := g_gd h
  obtain ⟨σ84, e85, h⟩ := g_ltd h
  refine g_iast (pc := 194) rfl c83 rfl e85 dX12_solves_194 ?_
  exact g_lv [0, 1, 2] rfl (tX12_solves_b195 hE n v1 v2 σ84 h)
def fX12_solves_b33 (n : Nat) (v1 : Int32) (v2 : Int32) (v3 : Int32) (s0 : Int32) (σ : gM) : Option (gM) := if s0 = (-1) then (if v3 = (-1) then (fX12_solves_b195 n v1 v2 σ) else (if ¬ (v1 < 0 ∨ 8 ≤ v1.toNatClampNeg) then (if (σ.1 15 v1.toNatClampNeg) = 0 then (if ¬ (v2 < 0 ∨ 8 ≤ v2.toNatClampNeg) then (g_bI (fX12_sum n 1 v3 (-1) σ) (fun r93 σ92 => if ¬ (v3 < 0 ∨ 255 ≤ v3.toNatClampNeg) then (g_bI (fX12_quotient ((σ.1 14 v2.toNatClampNeg) ^^^ r93) (σ92.1 8 v3.toNatClampNeg) σ92) (fun r97 σ96 => fX12_solves_b194 n v1 v2 r97 v3 σ96)) else none)) else none) else (if ¬ (v1 < 0 ∨ 8 ≤ v1.toNatClampNeg) then (g_bI (fX12_sum n 0 v3 (-1) σ) (fun r101 σ100 => fX12_solves_b194 n v1 v2 ((σ.1 14 v1.toNatClampNeg) ^^^ r101) v3 σ100)) else none)) else none)) else (if ¬ (v1 < 0 ∨ 8 ≤ v1.toNatClampNeg) then (g_bI (fX12_sum n 0 v3 s0 σ) (fun r105 σ104 => if ¬ (v2 < 0 ∨ 8 ≤ v2.toNatClampNeg) then (g_bI (fX12_sum n 1 v3 s0 σ104) (fun r109 σ108 => if ¬ (s0 < 0 ∨ 255 ≤ s0.toNatClampNeg) then (g_bI (fX12_product ((σ.1 14 v1.toNatClampNeg) ^^^ r105) (σ108.1 8 s0.toNatClampNeg) σ108) (fun r113 σ112 => if ¬ (v3 < 0 ∨ 255 ≤ v3.toNatClampNeg) then (if ¬ (s0 < 0 ∨ 255 ≤ s0.toNatClampNeg) then (g_bI (fX12_quotient (((σ104.1 14 v2.toNatClampNeg) ^^^ r109) ^^^ r113) ((σ112.1 8 v3.toNatClampNeg) ^^^ (σ112.1 8 s0.toNatClampNeg)) σ112) (fun r118 σ117 => if ¬ (v3 < 0 ∨ 8 ≤ v3.toNatClampNeg) then (g_let (g_put σ117 14 v3.toNatClampNeg r118) (fun σ120 => if ¬ (v3 < 0 ∨ 8 ≤ v3.toNatClampNeg) then (if ¬ (s0 < 0 ∨ 8 ≤ s0.toNatClampNeg) then (g_let (g_put σ120 14 s0.toNatClampNeg (((σ.1 14 v1.toNatClampNeg) ^^^ r105) ^^^ (σ120.1 14 v3.toNatClampNeg))) (fun σ124 => fX12_solves_b195 n v1 v2 σ124)) else none) else none)) else none)) else none) else none)) else none)) else none)) else none)
set_option maxRecDepth 100000 in
theorem tX12_solves_b33 (hE : gEM l dC dI ad ca X) {σ' : gM} (n : Nat) (v1 : Int32) (v2 : Int32) (v3 : Int32) (s0 : Int32)  (σ : gM) (h : fX12_solves_b33 n v1 v2 v3 s0 σ = some σ') : g_G l dC dI ad ca shM X cX12_solves 7 RX12 none (gR 2) none σ' 33 [(0, .ref 0), (1, .int v1), (2, .int v2), (3, .int v3)] [.int s0] σ := by
  unfold fX12_solves_b33 at h
  refine g_istore (pc := 33) (lv1 := [(4, .int s0), (0, .ref 0), (1, .int v1), (2, .int v2), (3, .int v3)]) dX12_solves_33 (by decide) rfl ?_
  refine g_iload (pc := 35) dX12_solves_35 0 rfl ?_
  refine g_iconst (pc := 37) (v := (-1)) dX12_solves_37 (by decide) ?_
  refine g_icmp_eq (pc := 38) (tgt := 134) dX12_solves_38 (by decide) (fun c86 => ?_) (fun c86 => ?_)
  · have h := g_ift c86 h
    refine g_iload_n (pc := 134) dX12_solves_134 rfl 4 rfl ?_
    refine g_iconst (pc := 135) (v := (-1)) dX12_solves_135 (by decide) ?_
    refine g_icmp_eq (pc := 136) (tgt := 195) dX12_solves_136 (by decide) (fun c87 => ?_) (fun c87 => ?_)
    · have h := g_ift c87 h
      exact g_lv [1, 2, 3] rfl (tX12_solves_b195 hE n v1 v2 σ h)
    · have h := g_iff c87 h
      refine g_aload_n (pc := 139) dX12_solves_139 rfl 1 rfl ?_
      refine g_getR (pc := 140) wfX12_50 rfl rfl dX12_solves_140 ?_
      refine g_iload_n (pc := 143) dX12_solves_143 rfl 4 rfl ?_
      refine g_aload_n (pc := 144) dX12_solves_144 rfl 1 rfl ?_
      refine g_getR (pc := 145) wfX12_53 rfl rfl dX12_solves_145 ?_
      refine g_iload_n (pc := 148) dX12_solves_148 rfl 2 rfl ?_
      obtain ⟨c88, h⟩ := g_gd h
      refine g_zald (pc := 149) rfl c88 rfl dX12_solves_149 ?_
      refine g_if_eq (pc := 150) (tgt := 170) dX12_solves_150 (by decide) (fun c89 => ?_) (fun c89 => ?_)
      · have h := g_ift c89 h
        refine g_aload_n (pc := 170) dX12_solves_170 rfl 1 rfl ?_
        refine g_aload_n (pc := 171) dX12_solves_171 rfl 1 rfl ?_
        refine g_getR (pc := 172) wfX12_50 rfl rfl dX12_solves_172 ?_
        refine g_iload_n (pc := 175) dX12_solves_175 rfl 3 rfl ?_
        obtain ⟨c90, h⟩ := g_gd h
        refine g_iald (pc := 176) rfl c90 rfl dX12_solves_176 ?_
        refine g_aload_n (pc := 177) dX12_solves_177 rfl 1 rfl ?_
        refine g_iconst (pc := 178) (v := 1) dX12_solves_178 (by decide) ?_
        refine g_iload_n (pc := 179) dX12_solves_179 rfl 4 rfl ?_
        refine g_iconst (pc := 180) (v := (-1)) dX12_solves_180 (by decide) ?_
        obtain ⟨r93, σ92, h91, h⟩ := g_bId h
        refine g_callVi (pc := 181) (st := [.int (σ.1 14 v2.toNatClampNeg), .ref 0, .int v3, .ref 14]) hE.1 wvX12_213 rfl rfl (kX12_sum hE n 1 v3 (-1) σ h91) rfl (gR_ok (by decide) (by decide)) (Nat.le_of_ble_eq_true rfl) rfl dX12_solves_181 ?_
        refine g_ixor (pc := 184) dX12_solves_184 ?_
        refine g_aload_n (pc := 185) dX12_solves_185 rfl 1 rfl ?_
        refine g_getR (pc := 186) wfX12_32 rfl rfl dX12_solves_186 ?_
        refine g_iload_n (pc := 189) dX12_solves_189 rfl 4 rfl ?_
        obtain ⟨c94, h⟩ := g_gd h
        refine g_iald (pc := 190) rfl c94 rfl dX12_solves_190 ?_
        obtain ⟨r97, σ96, h95, h⟩ := g_bId h
        refine g_callVi (pc := 191) (st := [.int v3, .ref 14]) hE.1 wvX12_164 rfl rfl (kX12_quotient hE ((σ.1 14 v2.toNatClampNeg) ^^^ r93) (σ92.1 8 v3.toNatClampNeg) σ92 h95) rfl (gR_ok (by decide) (by decide)) (Nat.le_of_ble_eq_true rfl) rfl dX12_solves_191 ?_
        exact g_lv [1, 2, 3] rfl (tX12_solves_b194 hE n v1 v2 r97 v3 σ96 h)
      · have h := g_iff c89 h
        refine g_aload_n (pc := 153) dX12_solves_153 rfl 1 rfl ?_
        refine g_getR (pc := 154) wfX12_50 rfl rfl dX12_solves_154 ?_
        refine g_iload_n (pc := 157) dX12_solves_157 rfl 2 rfl ?_
        obtain ⟨c98, h⟩ := g_gd h
        refine g_iald (pc := 158) rfl c98 rfl dX12_solves_158 ?_
        refine g_aload_n (pc := 159) dX12_solves_159 rfl 1 rfl ?_
        refine g_iconst (pc := 160) (v := 0) dX12_solves_160 (by decide) ?_
        refine g_iload_n (pc := 161) dX12_solves_161 rfl 4 rfl ?_
        refine g_iconst (pc := 162) (v := (-1)) dX12_solves_162 (by decide) ?_
        obtain ⟨r101, σ100, h99, h⟩ := g_bId h
        refine g_callVi (pc := 163) (st := [.int (σ.1 14 v1.toNatClampNeg), .int v3, .ref 14]) hE.1 wvX12_213 rfl rfl (kX12_sum hE n 0 v3 (-1) σ h99) rfl (gR_ok (by decide) (by decide)) (Nat.le_of_ble_eq_true rfl) rfl dX12_solves_163 ?_
        refine g_ixor (pc := 166) dX12_solves_166 ?_
        refine g_goto (pc := 167) (tgt := 194) dX12_solves_167 (by decide) ?_
        exact g_lv [1, 2, 3] rfl (tX12_solves_b194 hE n v1 v2 ((σ.1 14 v1.toNatClampNeg) ^^^ r101) v3 σ100 h)
  · have h := g_iff c86 h
    refine g_aload_n (pc := 41) dX12_solves_41 rfl 1 rfl ?_
    refine g_getR (pc := 42) wfX12_50 rfl rfl dX12_solves_42 ?_
    refine g_iload_n (pc := 45) dX12_solves_45 rfl 2 rfl ?_
    obtain ⟨c102, h⟩ := g_gd h
    refine g_iald (pc := 46) rfl c102 rfl dX12_solves_46 ?_
    refine g_aload_n (pc := 47) dX12_solves_47 rfl 1 rfl ?_
    refine g_iconst (pc := 48) (v := 0) dX12_solves_48 (by decide) ?_
    refine g_iload_n (pc := 49) dX12_solves_49 rfl 4 rfl ?_
    refine g_iload (pc := 50) dX12_solves_50 0 rfl ?_
    obtain ⟨r105, σ104, h103, h⟩ := g_bId h
    refine g_callVi (pc := 52) (st := [.int (σ.1 14 v1.toNatClampNeg)]) hE.1 wvX12_213 rfl rfl (kX12_sum hE n 0 v3 s0 σ h103) rfl (gR_ok (by decide) (by decide)) (Nat.le_of_ble_eq_true rfl) rfl dX12_solves_52 ?_
    refine g_ixor (pc := 55) dX12_solves_55 ?_
    refine g_istore (pc := 56) (lv1 := [(5, .int ((σ.1 14 v1.toNatClampNeg) ^^^ r105)), (4, .int s0), (0, .ref 0), (1, .int v1), (2, .int v2), (3, .int v3)]) dX12_solves_56 (by decide) rfl ?_
    refine g_aload_n (pc := 58) dX12_solves_58 rfl 2 rfl ?_
    refine g_getR (pc := 59) wfX12_50 rfl rfl dX12_solves_59 ?_
    refine g_iload_n (pc := 62) dX12_solves_62 rfl 4 rfl ?_
    obtain ⟨c106, h⟩ := g_gd h
    refine g_iald (pc := 63) rfl c106 rfl dX12_solves_63 ?_
    refine g_aload_n (pc := 64) dX12_solves_64 rfl 2 rfl ?_
    refine g_iconst (pc := 65) (v := 1) dX12_solves_65 (by decide) ?_
    refine g_iload_n (pc := 66) dX12_solves_66 rfl 5 rfl ?_
    refine g_iload (pc := 67) dX12_solves_67 1 rfl ?_
    obtain ⟨r109, σ108, h107, h⟩ := g_bId h
    refine g_callVi (pc := 69) (st := [.int (σ104.1 14 v2.toNatClampNeg)]) hE.1 wvX12_213 rfl rfl (kX12_sum hE n 1 v3 s0 σ104 h107) rfl (gR_ok (by decide) (by decide)) (Nat.le_of_ble_eq_true rfl) rfl dX12_solves_69 ?_
    refine g_ixor (pc := 72) dX12_solves_72 ?_
    refine g_istore (pc := 73) (lv1 := [(6, .int ((σ104.1 14 v2.toNatClampNeg) ^^^ r109)), (5, .int ((σ.1 14 v1.toNatClampNeg) ^^^ r105)), (4, .int s0), (0, .ref 0), (1, .int v1), (2, .int v2), (3, .int v3)]) dX12_solves_73 (by decide) rfl ?_
    refine g_aload_n (pc := 75) dX12_solves_75 rfl 3 rfl ?_
    refine g_getR (pc := 76) wfX12_50 rfl rfl dX12_solves_76 ?_
    refine g_iload_n (pc := 79) dX12_solves_79 rfl 6 rfl ?_
    refine g_aload_n (pc := 80) dX12_solves_80 rfl 3 rfl ?_
    refine g_iload (pc := 81) dX12_solves_81 0 rfl ?_
    refine g_aload_n (pc := 83) dX12_solves_83 rfl 3 rfl ?_
    refine g_iload (pc := 84) dX12_solves_84 1 rfl ?_
    refine g_aload_n (pc := 86) dX12_solves_86 rfl 3 rfl ?_
    refine g_getR (pc := 87) wfX12_32 rfl rfl dX12_solves_87 ?_
    refine g_iload (pc := 90) dX12_solves_90 2 rfl ?_
    obtain ⟨c110, h⟩ := g_gd h
    refine g_iald (pc := 92) rfl c110 rfl dX12_solves_92 ?_
    obtain ⟨r113, σ112, h111, h⟩ := g_bId h
    refine g_callVi (pc := 93) (st := [.int ((σ104.1 14 v2.toNatClampNeg) ^^^ r109), .ref 0, .int v3, .ref 14]) hE.1 wvX12_160 rfl rfl (kX12_product hE ((σ.1 14 v1.toNatClampNeg) ^^^ r105) (σ108.1 8 s0.toNatClampNeg) σ108 h111) rfl (gR_ok (by decide) (by decide)) (Nat.le_of_ble_eq_true rfl) rfl dX12_solves_93 ?_
    refine g_ixor (pc := 96) dX12_solves_96 ?_
    refine g_aload_n (pc := 97) dX12_solves_97 rfl 3 rfl ?_
    refine g_getR (pc := 98) wfX12_32 rfl rfl dX12_solves_98 ?_
    refine g_iload_n (pc := 101) dX12_solves_101 rfl 6 rfl ?_
    obtain ⟨c114, h⟩ := g_gd h
    refine g_iald (pc := 102) rfl c114 rfl dX12_solves_102 ?_
    refine g_aload_n (pc := 103) dX12_solves_103 rfl 3 rfl ?_
    refine g_getR (pc := 104) wfX12_32 rfl rfl dX12_solves_104 ?_
    refine g_iload (pc := 107) dX12_solves_107 2 rfl ?_
    obtain ⟨c115, h⟩ := g_gd h
    refine g_iald (pc := 109) rfl c115 rfl dX12_solves_109 ?_
    refine g_ixor (pc := 110) dX12_solves_110 ?_
    obtain ⟨r118, σ117, h116, h⟩ := g_bId h
    refine g_callVi (pc := 111) (st := [.int v3, .ref 14]) hE.1 wvX12_164 rfl rfl (kX12_quotient hE (((σ104.1 14 v2.toNatClampNeg) ^^^ r109) ^^^ r113) ((σ112.1 8 v3.toNatClampNeg) ^^^ (σ112.1 8 s0.toNatClampNeg)) σ112 h116) rfl (gR_ok (by decide) (by decide)) (Nat.le_of_ble_eq_true rfl) rfl dX12_solves_111 ?_
    obtain ⟨c119, h⟩ := g_gd h
    obtain ⟨σ120, e121, h⟩ := g_ltd h
    refine g_iast (pc := 114) rfl c119 rfl e121 dX12_solves_114 ?_
    refine g_aload_n (pc := 115) dX12_solves_115 rfl 3 rfl ?_
    refine g_getR (pc := 116) wfX12_50 rfl rfl dX12_solves_116 ?_
    refine g_iload (pc := 119) dX12_solves_119 2 rfl ?_
    refine g_iload (pc := 121) dX12_solves_121 1 rfl ?_
    refine g_aload_n (pc := 123) dX12_solves_123 rfl 3 rfl ?_
    refine g_getR (pc := 124) wfX12_50 rfl rfl dX12_solves_124 ?_
    refine g_iload_n (pc := 127) dX12_solves_127 rfl 6 rfl ?_
    obtain ⟨c122, h⟩ := g_gd h
    refine g_iald (pc := 128) rfl c122 rfl dX12_solves_128 ?_
    refine g_ixor (pc := 129) dX12_solves_129 ?_
    obtain ⟨c123, h⟩ := g_gd h
    obtain ⟨σ124, e125, h⟩ := g_ltd h
    refine g_iast (pc := 130) rfl c123 rfl e125 dX12_solves_130 ?_
    refine g_goto (pc := 131) (tgt := 195) dX12_solves_131 (by decide) ?_
    exact g_lv [3, 4, 5] rfl (tX12_solves_b195 hE n v1 v2 σ124 h)
def fX12_solves (n : Nat) (σ : gM) : Option (gM) := g_bI (fX12_missing n 0 σ) (fun r128 σ127 => if r128 = (-1) then (fX12_solves_b33 n (σ.1 3 0) ((σ.1 3 0) + 1) r128 (-1) σ127) else (g_bI (fX12_missing n (r128 + 1) σ127) (fun r132 σ131 => fX12_solves_b33 n (σ.1 3 0) ((σ.1 3 0) + 1) r128 r132 σ131)))
set_option maxRecDepth 100000 in
theorem kX12_solves (hE : gEM l dC dI ad ca X) (n : Nat)  (σ : gM) {σ' : gM} (h : fX12_solves n σ = some σ') : g_C l dC dI ad ca shM X yX12_solves cX12_solves 7 none (gR 2) [.ref 0] σ none σ' := by
  refine g_entry (by decide +kernel) (Nat.le_of_ble_eq_true rfl) ?_
  refine g_lvE (lv1 := [(0, .ref 0)]) rfl ?_
  unfold fX12_solves at h
  refine g_aload_n (pc := 0) dX12_solves_0 rfl 0 rfl ?_
  refine g_getR (pc := 1) wfX12_17 rfl rfl dX12_solves_1 ?_
  refine g_iconst (pc := 4) (v := 0) dX12_solves_4 (by decide) ?_
  refine g_iald (pc := 5) rfl (by decide) (j := 0) (by decide) dX12_solves_5 ?_
  refine g_istore_n (pc := 6) (lv1 := [(1, .int (σ.1 3 0)), (0, .ref 0)]) dX12_solves_6 rfl (by decide) rfl ?_
  refine g_iload_n (pc := 7) dX12_solves_7 rfl 0 rfl ?_
  refine g_iconst (pc := 8) (v := 1) dX12_solves_8 (by decide) ?_
  refine g_iadd (pc := 9) dX12_solves_9 ?_
  refine g_istore_n (pc := 10) (lv1 := [(2, .int ((σ.1 3 0) + 1)), (1, .int (σ.1 3 0)), (0, .ref 0)]) dX12_solves_10 rfl (by decide) rfl ?_
  refine g_aload_n (pc := 11) dX12_solves_11 rfl 2 rfl ?_
  refine g_iconst (pc := 12) (v := 0) dX12_solves_12 (by decide) ?_
  obtain ⟨r128, σ127, h126, h⟩ := g_bId h
  refine g_callVi (pc := 13) (st := []) hE.1 wvX12_210 rfl rfl (kX12_missing hE n 0 σ h126) rfl (gR_ok (by decide) (by decide)) (Nat.le_of_ble_eq_true rfl) rfl dX12_solves_13 ?_
  refine g_istore_n (pc := 16) (lv1 := [(3, .int r128), (2, .int ((σ.1 3 0) + 1)), (1, .int (σ.1 3 0)), (0, .ref 0)]) dX12_solves_16 rfl (by decide) rfl ?_
  refine g_iload_n (pc := 17) dX12_solves_17 rfl 0 rfl ?_
  refine g_iconst (pc := 18) (v := (-1)) dX12_solves_18 (by decide) ?_
  refine g_icmp_ne (pc := 19) (tgt := 26) dX12_solves_19 (by decide) (fun c129 => ?_) (fun c129 => ?_)
  · have h := g_iff c129 h
    refine g_aload_n (pc := 26) dX12_solves_26 rfl 3 rfl ?_
    refine g_iload_n (pc := 27) dX12_solves_27 rfl 0 rfl ?_
    refine g_iconst (pc := 28) (v := 1) dX12_solves_28 (by decide) ?_
    refine g_iadd (pc := 29) dX12_solves_29 ?_
    obtain ⟨r132, σ131, h130, h⟩ := g_bId h
    refine g_callVi (pc := 30) (st := []) hE.1 wvX12_210 rfl rfl (kX12_missing hE n (r128 + 1) σ127 h130) rfl (gR_ok (by decide) (by decide)) (Nat.le_of_ble_eq_true rfl) rfl dX12_solves_30 ?_
    exact g_lv [3, 2, 1, 0] rfl (tX12_solves_b33 hE n (σ.1 3 0) ((σ.1 3 0) + 1) r128 r132 σ131 h)
  · have h := g_ift c129 h
    refine g_iconst (pc := 22) (v := (-1)) dX12_solves_22 (by decide) ?_
    refine g_goto (pc := 23) (tgt := 33) dX12_solves_23 (by decide) ?_
    exact g_lv [3, 2, 1, 0] rfl (tX12_solves_b33 hE n (σ.1 3 0) ((σ.1 3 0) + 1) r128 (-1) σ127 h)
def fX12_puts (w : Nat) (v2 : Int32) (v3 : Int32) (v4 : Int32) (v5 : Int32) (σ : gM) : Option (gM) := g_bI (fX12_diskOf v2 v4 σ) (fun r14 σ13 => g_bI (fX12_spot r14 v2 v3 σ13) (fun r17 σ16 => if ¬ (r17 < 0 ∨ 616 ≤ r17.toNatClampNeg) then (g_let (g_put σ16 w r17.toNatClampNeg v5) (fun σ19 => g_bV (fX12_counts w r14 1 σ19) (fun σ22 => some σ22))) else none))
set_option maxRecDepth 100000 in
theorem kX12_puts (hE : gEM l dC dI ad ca X) (w : Nat) (hw : shM[w]? = some (.inl (.int, 616)))  (v2 : Int32) (v3 : Int32) (v4 : Int32) (v5 : Int32) (σ : gM) {σ' : gM} (h : fX12_puts w v2 v3 v4 v5 σ = some σ') : g_C l dC dI ad ca shM X yX12_puts cX12_puts 7 none (gR 2) [.ref 0, .ref w, .int v2, .int v3, .int v4, .int v5] σ none σ' := by
  refine g_entry (by decide +kernel) (Nat.le_of_ble_eq_true rfl) ?_
  refine g_lvE (lv1 := [(0, .ref 0), (1, .ref w), (2, .int v2), (3, .int v3), (4, .int v4), (5, .int v5)]) rfl ?_
  unfold fX12_puts at h
  refine g_aload_n (pc := 0) dX12_puts_0 rfl 0 rfl ?_
  refine g_iload_n (pc := 1) dX12_puts_1 rfl 2 rfl ?_
  refine g_iload (pc := 2) dX12_puts_2 4 rfl ?_
  obtain ⟨r14, σ13, h12, h⟩ := g_bId h
  refine g_callVi (pc := 4) (st := []) hE.1 wvX12_199 rfl rfl (kX12_diskOf hE v2 v4 σ h12) rfl (gR_ok (by decide) (by decide)) (Nat.le_of_ble_eq_true rfl) rfl dX12_puts_4 ?_
  refine g_istore (pc := 7) (lv1 := [(6, .int r14), (0, .ref 0), (1, .ref w), (2, .int v2), (3, .int v3), (4, .int v4), (5, .int v5)]) dX12_puts_7 (by decide) rfl ?_
  refine g_aload_n (pc := 9) dX12_puts_9 rfl 2 rfl ?_
  refine g_iload (pc := 10) dX12_puts_10 0 rfl ?_
  refine g_iload_n (pc := 12) dX12_puts_12 rfl 3 rfl ?_
  refine g_iload_n (pc := 13) dX12_puts_13 rfl 4 rfl ?_
  obtain ⟨r17, σ16, h15, h⟩ := g_bId h
  refine g_callSi (pc := 14) (st := [.ref w]) hE.1 wsX12_206 (kX12_spot hE r14 v2 v3 σ13 h15) rfl (gR_ok (by decide) (by decide)) (Nat.le_of_ble_eq_true rfl) rfl dX12_puts_14 ?_
  refine g_iload (pc := 17) dX12_puts_17 6 rfl ?_
  obtain ⟨c18, h⟩ := g_gd h
  obtain ⟨σ19, e20, h⟩ := g_ltd h
  refine g_iast (pc := 19) hw c18 rfl e20 dX12_puts_19 ?_
  refine g_aload_n (pc := 20) dX12_puts_20 rfl 1 rfl ?_
  refine g_aload_n (pc := 21) dX12_puts_21 rfl 2 rfl ?_
  refine g_iload (pc := 22) dX12_puts_22 0 rfl ?_
  refine g_iconst (pc := 24) (v := 1) dX12_puts_24 (by decide) ?_
  obtain ⟨σ22, h21, h⟩ := g_bVd h
  refine g_callVv (pc := 25) (st := []) hE.1 wvX12_233 rfl rfl (kX12_counts hE w hw r14 1 σ19 h21) rfl (gR_ok (by decide) (by decide)) (Nat.le_of_ble_eq_true rfl) rfl dX12_puts_25 ?_
  cases h
  exact g_vret (pc := 28) rfl rfl rfl dX12_puts_28
def fX12_writes_b89 (n : Nat) (w : Nat) (K49 : Int32 → Int32 → Int32 → Int32 → Int32 → Int32 → gM → Option (gM)) (v3 : Int32) (v4 : Int32) (v5 : Int32) (v6 : Int32) (v7 : Int32) (v8 : Int32) (σ : gM) : Option (gM) := K49 v3 v4 v5 v6 v7 (v8 + 1) σ
set_option maxRecDepth 100000 in
theorem tX12_writes_b89 (hE : gEM l dC dI ad ca X) {σ' : gM} (n : Nat) (w : Nat) (hw : shM[w]? = some (.inl (.int, 616))) (K49 : Int32 → Int32 → Int32 → Int32 → Int32 → Int32 → gM → Option (gM)) (hK49 : ∀ (v3 : Int32) (v4 : Int32) (v5 : Int32) (v6 : Int32) (v7 : Int32) (v8 : Int32) (σ : gM), K49 v3 v4 v5 v6 v7 v8 σ = some σ' → g_G l dC dI ad ca shM X cX12_writes 12 RX12 none (gR 3) none σ' 49 [(0, .ref 0), (1, .ref w), (3, .int v3), (4, .int v4), (5, .int v5), (6, .int v6), (7, .int v7), (8, .int v8)] [] σ) (v3 : Int32) (v4 : Int32) (v5 : Int32) (v6 : Int32) (v7 : Int32) (v8 : Int32)  (σ : gM) (h : fX12_writes_b89 n w K49 v3 v4 v5 v6 v7 v8 σ = some σ') : g_G l dC dI ad ca shM X cX12_writes 12 RX12 none (gR 3) none σ' 89 [(0, .ref 0), (1, .ref w), (3, .int v3), (4, .int v4), (5, .int v5), (6, .int v6), (7, .int v7), (8, .int v8)] [] σ := by
  unfold fX12_writes_b89 at h
  refine g_iinc (pc := 89) (v := v8 + 1) (lv1 := [(8, .int (v8 + 1)), (0, .ref 0), (1, .ref w), (3, .int v3), (4, .int v4), (5, .int v5), (6, .int v6), (7, .int v7)]) dX12_writes_89 7 rfl rfl (by decide) rfl ?_
  refine g_goto (pc := 92) (tgt := 49) dX12_writes_92 (by decide) ?_
  exact g_lv [1, 2, 3, 4, 5, 6, 7, 0] rfl (hK49 v3 v4 v5 v6 v7 (v8 + 1) σ h)
def fX12_writes_b266 (n : Nat) (w : Nat) (v4 : Int32) (v5 : Int32) (v7 : Int32) (v10 : Int32) (σ : gM) : Option (gM) := if v10 = 0 then (some σ) else (if ¬ ((v7 + 1) < 0 ∨ 8 ≤ (v7 + 1).toNatClampNeg) then (g_bV (fX12_puts w v4 v5 (v7 + 1) (σ.1 14 ((v7 + 1).toNatClampNeg)) σ) (fun σ71 => some σ71)) else none)
set_option maxRecDepth 100000 in
theorem tX12_writes_b266 (hE : gEM l dC dI ad ca X) {σ' : gM} (n : Nat) (w : Nat) (hw : shM[w]? = some (.inl (.int, 616))) (v4 : Int32) (v5 : Int32) (v7 : Int32) (v10 : Int32)  (σ : gM) (h : fX12_writes_b266 n w v4 v5 v7 v10 σ = some σ') : g_G l dC dI ad ca shM X cX12_writes 12 RX12 none (gR 3) none σ' 266 [(0, .ref 0), (1, .ref w), (4, .int v4), (5, .int v5), (7, .int v7), (10, .int v10)] [] σ := by
  unfold fX12_writes_b266 at h
  refine g_iload (pc := 266) dX12_writes_266 5 rfl ?_
  refine g_if_eq (pc := 268) (tgt := 293) dX12_writes_268 (by decide) (fun c68 => ?_) (fun c68 => ?_)
  · have h := g_ift c68 h
    cases h
    exact g_vret (pc := 293) rfl rfl rfl dX12_writes_293
  · have h := g_iff c68 h
    refine g_aload_n (pc := 271) dX12_writes_271 rfl 0 rfl ?_
    refine g_aload_n (pc := 272) dX12_writes_272 rfl 1 rfl ?_
    refine g_iload (pc := 273) dX12_writes_273 2 rfl ?_
    refine g_iload (pc := 275) dX12_writes_275 3 rfl ?_
    refine g_iload (pc := 277) dX12_writes_277 4 rfl ?_
    refine g_iconst (pc := 279) (v := 1) dX12_writes_279 (by decide) ?_
    refine g_iadd (pc := 280) dX12_writes_280 ?_
    refine g_aload_n (pc := 281) dX12_writes_281 rfl 0 rfl ?_
    refine g_getR (pc := 282) wfX12_50 rfl rfl dX12_writes_282 ?_
    refine g_iload (pc := 285) dX12_writes_285 4 rfl ?_
    refine g_iconst (pc := 287) (v := 1) dX12_writes_287 (by decide) ?_
    refine g_iadd (pc := 288) dX12_writes_288 ?_
    obtain ⟨c69, h⟩ := g_gd h
    refine g_iald (pc := 289) rfl c69 rfl dX12_writes_289 ?_
    obtain ⟨σ71, h70, h⟩ := g_bVd h
    refine g_callVv (pc := 290) (st := []) hE.1 wvX12_261 rfl rfl (kX12_puts hE w hw v4 v5 (v7 + 1) (σ.1 14 ((v7 + 1).toNatClampNeg)) σ h70) rfl (gR_ok (by decide) (by decide)) (Nat.le_of_ble_eq_true rfl) rfl dX12_writes_290 ?_
    cases h
    exact g_vret (pc := 293) rfl rfl rfl dX12_writes_293
def fX12_writes_b243 (n : Nat) (w : Nat) (v4 : Int32) (v5 : Int32) (v7 : Int32) (v9 : Int32) (v10 : Int32) (σ : gM) : Option (gM) := if v9 = 0 then (fX12_writes_b266 n w v4 v5 v7 v10 σ) else (if ¬ (v7 < 0 ∨ 8 ≤ v7.toNatClampNeg) then (g_bV (fX12_puts w v4 v5 v7 (σ.1 14 v7.toNatClampNeg) σ) (fun σ75 => fX12_writes_b266 n w v4 v5 v7 v10 σ75)) else none)
set_option maxRecDepth 100000 in
theorem tX12_writes_b243 (hE : gEM l dC dI ad ca X) {σ' : gM} (n : Nat) (w : Nat) (hw : shM[w]? = some (.inl (.int, 616))) (v4 : Int32) (v5 : Int32) (v7 : Int32) (v9 : Int32) (v10 : Int32)  (σ : gM) (h : fX12_writes_b243 n w v4 v5 v7 v9 v10 σ = some σ') : g_G l dC dI ad ca shM X cX12_writes 12 RX12 none (gR 3) none σ' 243 [(0, .ref 0), (1, .ref w), (4, .int v4), (5, .int v5), (7, .int v7), (9, .int v9), (10, .int v10)] [] σ := by
  unfold fX12_writes_b243 at h
  refine g_iload (pc := 243) dX12_writes_243 5 rfl ?_
  refine g_if_eq (pc := 245) (tgt := 266) dX12_writes_245 (by decide) (fun c72 => ?_) (fun c72 => ?_)
  · have h := g_ift c72 h
    exact g_lv [0, 1, 2, 3, 4, 6] rfl (tX12_writes_b266 hE n w hw v4 v5 v7 v10 σ h)
  · have h := g_iff c72 h
    refine g_aload_n (pc := 248) dX12_writes_248 rfl 0 rfl ?_
    refine g_aload_n (pc := 249) dX12_writes_249 rfl 1 rfl ?_
    refine g_iload (pc := 250) dX12_writes_250 2 rfl ?_
    refine g_iload (pc := 252) dX12_writes_252 3 rfl ?_
    refine g_iload (pc := 254) dX12_writes_254 4 rfl ?_
    refine g_aload_n (pc := 256) dX12_writes_256 rfl 0 rfl ?_
    refine g_getR (pc := 257) wfX12_50 rfl rfl dX12_writes_257 ?_
    refine g_iload (pc := 260) dX12_writes_260 4 rfl ?_
    obtain ⟨c73, h⟩ := g_gd h
    refine g_iald (pc := 262) rfl c73 rfl dX12_writes_262 ?_
    obtain ⟨σ75, h74, h⟩ := g_bVd h
    refine g_callVv (pc := 263) (st := []) hE.1 wvX12_261 rfl rfl (kX12_puts hE w hw v4 v5 v7 (σ.1 14 v7.toNatClampNeg) σ h74) rfl (gR_ok (by decide) (by decide)) (Nat.le_of_ble_eq_true rfl) rfl dX12_writes_263 ?_
    exact g_lv [0, 1, 2, 3, 4, 6] rfl (tX12_writes_b266 hE n w hw v4 v5 v7 v10 σ75 h)
def fX12_writes_b226 (n : Nat) (w : Nat) (v3 : Int32) (v4 : Int32) (v5 : Int32) (v6 : Int32) (v7 : Int32) (v8 : Int32) (v9 : Int32) (v10 : Int32) (σ : gM) : Option (gM) := if v8 = 0 then (fX12_writes_b243 n w v4 v5 v7 v9 v10 σ) else (g_bV (fX12_puts w v4 v5 v6 v3 σ) (fun σ78 => fX12_writes_b243 n w v4 v5 v7 v9 v10 σ78))
set_option maxRecDepth 100000 in
theorem tX12_writes_b226 (hE : gEM l dC dI ad ca X) {σ' : gM} (n : Nat) (w : Nat) (hw : shM[w]? = some (.inl (.int, 616))) (v3 : Int32) (v4 : Int32) (v5 : Int32) (v6 : Int32) (v7 : Int32) (v8 : Int32) (v9 : Int32) (v10 : Int32)  (σ : gM) (h : fX12_writes_b226 n w v3 v4 v5 v6 v7 v8 v9 v10 σ = some σ') : g_G l dC dI ad ca shM X cX12_writes 12 RX12 none (gR 3) none σ' 226 [(0, .ref 0), (1, .ref w), (3, .int v3), (4, .int v4), (5, .int v5), (6, .int v6), (7, .int v7), (8, .int v8), (9, .int v9), (10, .int v10)] [] σ := by
  unfold fX12_writes_b226 at h
  refine g_iload (pc := 226) dX12_writes_226 7 rfl ?_
  refine g_if_eq (pc := 228) (tgt := 243) dX12_writes_228 (by decide) (fun c76 => ?_) (fun c76 => ?_)
  · have h := g_ift c76 h
    exact g_lv [0, 1, 3, 4, 6, 8, 9] rfl (tX12_writes_b243 hE n w hw v4 v5 v7 v9 v10 σ h)
  · have h := g_iff c76 h
    refine g_aload_n (pc := 231) dX12_writes_231 rfl 0 rfl ?_
    refine g_aload_n (pc := 232) dX12_writes_232 rfl 1 rfl ?_
    refine g_iload (pc := 233) dX12_writes_233 3 rfl ?_
    refine g_iload (pc := 235) dX12_writes_235 4 rfl ?_
    refine g_iload (pc := 237) dX12_writes_237 5 rfl ?_
    refine g_iload_n (pc := 239) dX12_writes_239 rfl 2 rfl ?_
    obtain ⟨σ78, h77, h⟩ := g_bVd h
    refine g_callVv (pc := 240) (st := []) hE.1 wvX12_261 rfl rfl (kX12_puts hE w hw v4 v5 v6 v3 σ h77) rfl (gR_ok (by decide) (by decide)) (Nat.le_of_ble_eq_true rfl) rfl dX12_writes_240 ?_
    exact g_lv [0, 1, 3, 4, 6, 8, 9] rfl (tX12_writes_b243 hE n w hw v4 v5 v7 v9 v10 σ78 h)
def fX12_writes_b49 (n : Nat) (w : Nat) (K49 : Int32 → Int32 → Int32 → Int32 → Int32 → Int32 → gM → Option (gM)) (v3 : Int32) (v4 : Int32) (v5 : Int32) (v6 : Int32) (v7 : Int32) (v8 : Int32) (σ : gM) : Option (gM) := if (σ.1 0 13) ≤ v8 then (if ¬ (v6 < 0 ∨ 8 ≤ v6.toNatClampNeg) then (if ¬ (v7 < 0 ∨ 8 ≤ v7.toNatClampNeg) then (if ¬ ((v7 + 1) < 0 ∨ 8 ≤ (v7 + 1).toNatClampNeg) then (if ¬ (v6 < 0 ∨ 8 ≤ v6.toNatClampNeg) then (if (σ.1 0 26) = 0 then (if ¬ (v7 < 0 ∨ 8 ≤ v7.toNatClampNeg) then (if ¬ (v7 < 0 ∨ 8 ≤ v7.toNatClampNeg) then (g_let (g_put σ 14 v7.toNatClampNeg ((σ.1 14 v7.toNatClampNeg) ^^^ ((σ.1 14 v6.toNatClampNeg) ^^^ v3))) (fun σ104 => if ¬ ((v7 + 1) < 0 ∨ 8 ≤ (v7 + 1).toNatClampNeg) then (if ¬ (v6 < 0 ∨ 255 ≤ v6.toNatClampNeg) then (g_bI (fX12_product ((σ.1 14 v6.toNatClampNeg) ^^^ v3) (σ104.1 8 v6.toNatClampNeg) σ104) (fun r110 σ109 => if ¬ ((v7 + 1) < 0 ∨ 8 ≤ (v7 + 1).toNatClampNeg) then (g_let (g_put σ109 14 ((v7 + 1).toNatClampNeg) ((σ104.1 14 ((v7 + 1).toNatClampNeg)) ^^^ r110)) (fun σ112 => fX12_writes_b226 n w v3 v4 v5 v6 v7 (σ.1 15 v6.toNatClampNeg) (σ.1 15 v7.toNatClampNeg) (σ.1 15 ((v7 + 1).toNatClampNeg)) σ112)) else none)) else none) else none)) else none) else none) else (g_bV (fX12_solves n σ) (fun σ86 => if ¬ (v6 < 0 ∨ 8 ≤ v6.toNatClampNeg) then (g_let (g_put σ86 14 v6.toNatClampNeg v3) (fun σ88 => g_bI (fX12_sum n 0 (-1) (-1) σ88) (fun r92 σ91 => if ¬ (v7 < 0 ∨ 8 ≤ v7.toNatClampNeg) then (g_let (g_put σ91 14 v7.toNatClampNeg r92) (fun σ94 => g_bI (fX12_sum n 1 (-1) (-1) σ94) (fun r98 σ97 => if ¬ ((v7 + 1) < 0 ∨ 8 ≤ (v7 + 1).toNatClampNeg) then (g_let (g_put σ97 14 ((v7 + 1).toNatClampNeg) r98) (fun σ100 => fX12_writes_b226 n w v3 v4 v5 v6 v7 (σ.1 15 v6.toNatClampNeg) (σ.1 15 v7.toNatClampNeg) (σ.1 15 ((v7 + 1).toNatClampNeg)) σ100)) else none))) else none))) else none))) else none) else none) else none) else none) else (if ¬ (v8 < 0 ∨ 8 ≤ v8.toNatClampNeg) then (if (σ.1 15 v8.toNatClampNeg) = 0 then (fX12_writes_b89 n w K49 v3 v4 v5 v6 v7 v8 σ) else (g_bI (fX12_isRead v8 v6 σ) (fun r118 σ117 => if r118 = 0 then (fX12_writes_b89 n w K49 v3 v4 v5 v6 v7 v8 σ117) else (g_bV (fX12_countsRole w v4 v8 0 σ117) (fun σ121 => fX12_writes_b89 n w K49 v3 v4 v5 v6 v7 v8 σ121))))) else none)
set_option maxRecDepth 100000 in
theorem tX12_writes_b49 (hE : gEM l dC dI ad ca X) {σ' : gM} (n : Nat) (w : Nat) (hw : shM[w]? = some (.inl (.int, 616))) (K49 : Int32 → Int32 → Int32 → Int32 → Int32 → Int32 → gM → Option (gM)) (hK49 : ∀ (v3 : Int32) (v4 : Int32) (v5 : Int32) (v6 : Int32) (v7 : Int32) (v8 : Int32) (σ : gM), K49 v3 v4 v5 v6 v7 v8 σ = some σ' → g_G l dC dI ad ca shM X cX12_writes 12 RX12 none (gR 3) none σ' 49 [(0, .ref 0), (1, .ref w), (3, .int v3), (4, .int v4), (5, .int v5), (6, .int v6), (7, .int v7), (8, .int v8)] [] σ) (v3 : Int32) (v4 : Int32) (v5 : Int32) (v6 : Int32) (v7 : Int32) (v8 : Int32)  (σ : gM) (h : fX12_writes_b49 n w K49 v3 v4 v5 v6 v7 v8 σ = some σ') : g_G l dC dI ad ca shM X cX12_writes 12 RX12 none (gR 3) none σ' 49 [(0, .ref 0), (1, .ref w), (3, .int v3), (4, .int v4), (5, .int v5), (6, .int v6), (7, .int v7), (8, .int v8)] [] σ := by
  unfold fX12_writes_b49 at h
  refine g_iload (pc := 49) dX12_writes_49 7 rfl ?_
  refine g_aload_n (pc := 51) dX12_writes_51 rfl 0 rfl ?_
  refine g_getI (pc := 52) wfX12_171 rfl rfl dX12_writes_52 ?_
  refine g_icmp_ge (pc := 55) (tgt := 95) dX12_writes_55 (by decide) (fun c79 => ?_) (fun c79 => ?_)
  · have h := g_ift c79 h
    refine g_aload_n (pc := 95) dX12_writes_95 rfl 0 rfl ?_
    refine g_getR (pc := 96) wfX12_53 rfl rfl dX12_writes_96 ?_
    refine g_iload (pc := 99) dX12_writes_99 5 rfl ?_
    obtain ⟨c80, h⟩ := g_gd h
    refine g_zald (pc := 101) rfl c80 rfl dX12_writes_101 ?_
    refine g_istore (pc := 102) (lv1 := [(8, .int (σ.1 15 v6.toNatClampNeg)), (0, .ref 0), (1, .ref w), (3, .int v3), (4, .int v4), (5, .int v5), (6, .int v6), (7, .int v7)]) dX12_writes_102 (by decide) rfl ?_
    refine g_aload_n (pc := 104) dX12_writes_104 rfl 1 rfl ?_
    refine g_getR (pc := 105) wfX12_53 rfl rfl dX12_writes_105 ?_
    refine g_iload (pc := 108) dX12_writes_108 7 rfl ?_
    obtain ⟨c81, h⟩ := g_gd h
    refine g_zald (pc := 110) rfl c81 rfl dX12_writes_110 ?_
    refine g_istore (pc := 111) (lv1 := [(9, .int (σ.1 15 v7.toNatClampNeg)), (8, .int (σ.1 15 v6.toNatClampNeg)), (0, .ref 0), (1, .ref w), (3, .int v3), (4, .int v4), (5, .int v5), (6, .int v6), (7, .int v7)]) dX12_writes_111 (by decide) rfl ?_
    refine g_aload_n (pc := 113) dX12_writes_113 rfl 2 rfl ?_
    refine g_getR (pc := 114) wfX12_53 rfl rfl dX12_writes_114 ?_
    refine g_iload (pc := 117) dX12_writes_117 8 rfl ?_
    refine g_iconst (pc := 119) (v := 1) dX12_writes_119 (by decide) ?_
    refine g_iadd (pc := 120) dX12_writes_120 ?_
    obtain ⟨c82, h⟩ := g_gd h
    refine g_zald (pc := 121) rfl c82 rfl dX12_writes_121 ?_
    refine g_istore (pc := 122) (lv1 := [(10, .int (σ.1 15 ((v7 + 1).toNatClampNeg))), (9, .int (σ.1 15 v7.toNatClampNeg)), (8, .int (σ.1 15 v6.toNatClampNeg)), (0, .ref 0), (1, .ref w), (3, .int v3), (4, .int v4), (5, .int v5), (6, .int v6), (7, .int v7)]) dX12_writes_122 (by decide) rfl ?_
    refine g_aload_n (pc := 124) dX12_writes_124 rfl 3 rfl ?_
    refine g_getR (pc := 125) wfX12_50 rfl rfl dX12_writes_125 ?_
    refine g_iload (pc := 128) dX12_writes_128 8 rfl ?_
    obtain ⟨c83, h⟩ := g_gd h
    refine g_iald (pc := 130) rfl c83 rfl dX12_writes_130 ?_
    refine g_istore (pc := 131) (lv1 := [(11, .int (σ.1 14 v6.toNatClampNeg)), (10, .int (σ.1 15 ((v7 + 1).toNatClampNeg))), (9, .int (σ.1 15 v7.toNatClampNeg)), (8, .int (σ.1 15 v6.toNatClampNeg)), (0, .ref 0), (1, .ref w), (3, .int v3), (4, .int v4), (5, .int v5), (6, .int v6), (7, .int v7)]) dX12_writes_131 (by decide) rfl ?_
    refine g_aload_n (pc := 133) dX12_writes_133 rfl 4 rfl ?_
    refine g_getI (pc := 134) wfX12_237 rfl rfl dX12_writes_134 ?_
    refine g_if_ne (pc := 137) (tgt := 184) dX12_writes_137 (by decide) (fun c84 => ?_) (fun c84 => ?_)
    · have h := g_iff c84 h
      refine g_aload_n (pc := 184) dX12_writes_184 rfl 4 rfl ?_
      obtain ⟨σ86, h85, h⟩ := g_bVd h
      refine g_callVv (pc := 185) (st := []) hE.1 wvX12_227 rfl rfl (kX12_solves hE n σ h85) rfl (gR_ok (by decide) (by decide)) (Nat.le_of_ble_eq_true rfl) rfl dX12_writes_185 ?_
      refine g_aload_n (pc := 188) dX12_writes_188 rfl 4 rfl ?_
      refine g_getR (pc := 189) wfX12_50 rfl rfl dX12_writes_189 ?_
      refine g_iload (pc := 192) dX12_writes_192 9 rfl ?_
      refine g_iload_n (pc := 194) dX12_writes_194 rfl 6 rfl ?_
      obtain ⟨c87, h⟩ := g_gd h
      obtain ⟨σ88, e89, h⟩ := g_ltd h
      refine g_iast (pc := 195) rfl c87 rfl e89 dX12_writes_195 ?_
      refine g_aload_n (pc := 196) dX12_writes_196 rfl 4 rfl ?_
      refine g_getR (pc := 197) wfX12_50 rfl rfl dX12_writes_197 ?_
      refine g_iload (pc := 200) dX12_writes_200 10 rfl ?_
      refine g_aload_n (pc := 202) dX12_writes_202 rfl 4 rfl ?_
      refine g_iconst (pc := 203) (v := 0) dX12_writes_203 (by decide) ?_
      refine g_iconst (pc := 204) (v := (-1)) dX12_writes_204 (by decide) ?_
      refine g_iconst (pc := 205) (v := (-1)) dX12_writes_205 (by decide) ?_
      obtain ⟨r92, σ91, h90, h⟩ := g_bId h
      refine g_callVi (pc := 206) (st := [.int v7, .ref 14]) hE.1 wvX12_213 rfl rfl (kX12_sum hE n 0 (-1) (-1) σ88 h90) rfl (gR_ok (by decide) (by decide)) (Nat.le_of_ble_eq_true rfl) rfl dX12_writes_206 ?_
      obtain ⟨c93, h⟩ := g_gd h
      obtain ⟨σ94, e95, h⟩ := g_ltd h
      refine g_iast (pc := 209) rfl c93 rfl e95 dX12_writes_209 ?_
      refine g_aload_n (pc := 210) dX12_writes_210 rfl 4 rfl ?_
      refine g_getR (pc := 211) wfX12_50 rfl rfl dX12_writes_211 ?_
      refine g_iload (pc := 214) dX12_writes_214 10 rfl ?_
      refine g_iconst (pc := 216) (v := 1) dX12_writes_216 (by decide) ?_
      refine g_iadd (pc := 217) dX12_writes_217 ?_
      refine g_aload_n (pc := 218) dX12_writes_218 rfl 4 rfl ?_
      refine g_iconst (pc := 219) (v := 1) dX12_writes_219 (by decide) ?_
      refine g_iconst (pc := 220) (v := (-1)) dX12_writes_220 (by decide) ?_
      refine g_iconst (pc := 221) (v := (-1)) dX12_writes_221 (by decide) ?_
      obtain ⟨r98, σ97, h96, h⟩ := g_bId h
      refine g_callVi (pc := 222) (st := [.int (v7 + 1), .ref 14]) hE.1 wvX12_213 rfl rfl (kX12_sum hE n 1 (-1) (-1) σ94 h96) rfl (gR_ok (by decide) (by decide)) (Nat.le_of_ble_eq_true rfl) rfl dX12_writes_222 ?_
      obtain ⟨c99, h⟩ := g_gd h
      obtain ⟨σ100, e101, h⟩ := g_ltd h
      refine g_iast (pc := 225) rfl c99 rfl e101 dX12_writes_225 ?_
      exact g_lv [4, 5, 6, 7, 8, 9, 10, 3, 2, 1] rfl (tX12_writes_b226 hE n w hw v3 v4 v5 v6 v7 (σ.1 15 v6.toNatClampNeg) (σ.1 15 v7.toNatClampNeg) (σ.1 15 ((v7 + 1).toNatClampNeg)) σ100 h)
    · have h := g_ift c84 h
      refine g_aload_n (pc := 140) dX12_writes_140 rfl 4 rfl ?_
      refine g_getR (pc := 141) wfX12_50 rfl rfl dX12_writes_141 ?_
      refine g_iload (pc := 144) dX12_writes_144 10 rfl ?_
      refine g_dup2 (pc := 146) dX12_writes_146 rfl rfl ?_
      obtain ⟨c102, h⟩ := g_gd h
      refine g_iald (pc := 147) rfl c102 rfl dX12_writes_147 ?_
      refine g_iload (pc := 148) dX12_writes_148 0 rfl ?_
      refine g_iload_n (pc := 150) dX12_writes_150 rfl 6 rfl ?_
      refine g_ixor (pc := 151) dX12_writes_151 ?_
      refine g_ixor (pc := 152) dX12_writes_152 ?_
      obtain ⟨c103, h⟩ := g_gd h
      obtain ⟨σ104, e105, h⟩ := g_ltd h
      refine g_iast (pc := 153) rfl c103 rfl e105 dX12_writes_153 ?_
      refine g_aload_n (pc := 154) dX12_writes_154 rfl 4 rfl ?_
      refine g_getR (pc := 155) wfX12_50 rfl rfl dX12_writes_155 ?_
      refine g_iload (pc := 158) dX12_writes_158 10 rfl ?_
      refine g_iconst (pc := 160) (v := 1) dX12_writes_160 (by decide) ?_
      refine g_iadd (pc := 161) dX12_writes_161 ?_
      refine g_dup2 (pc := 162) dX12_writes_162 rfl rfl ?_
      obtain ⟨c106, h⟩ := g_gd h
      refine g_iald (pc := 163) rfl c106 rfl dX12_writes_163 ?_
      refine g_aload_n (pc := 164) dX12_writes_164 rfl 4 rfl ?_
      refine g_iload (pc := 165) dX12_writes_165 0 rfl ?_
      refine g_iload_n (pc := 167) dX12_writes_167 rfl 6 rfl ?_
      refine g_ixor (pc := 168) dX12_writes_168 ?_
      refine g_aload_n (pc := 169) dX12_writes_169 rfl 4 rfl ?_
      refine g_getR (pc := 170) wfX12_32 rfl rfl dX12_writes_170 ?_
      refine g_iload (pc := 173) dX12_writes_173 9 rfl ?_
      obtain ⟨c107, h⟩ := g_gd h
      refine g_iald (pc := 175) rfl c107 rfl dX12_writes_175 ?_
      obtain ⟨r110, σ109, h108, h⟩ := g_bId h
      refine g_callVi (pc := 176) (st := [.int (σ104.1 14 ((v7 + 1).toNatClampNeg)), .int (v7 + 1), .ref 14]) hE.1 wvX12_160 rfl rfl (kX12_product hE ((σ.1 14 v6.toNatClampNeg) ^^^ v3) (σ104.1 8 v6.toNatClampNeg) σ104 h108) rfl (gR_ok (by decide) (by decide)) (Nat.le_of_ble_eq_true rfl) rfl dX12_writes_176 ?_
      refine g_ixor (pc := 179) dX12_writes_179 ?_
      obtain ⟨c111, h⟩ := g_gd h
      obtain ⟨σ112, e113, h⟩ := g_ltd h
      refine g_iast (pc := 180) rfl c111 rfl e113 dX12_writes_180 ?_
      refine g_goto (pc := 181) (tgt := 226) dX12_writes_181 (by decide) ?_
      exact g_lv [4, 5, 6, 7, 8, 9, 10, 3, 2, 1] rfl (tX12_writes_b226 hE n w hw v3 v4 v5 v6 v7 (σ.1 15 v6.toNatClampNeg) (σ.1 15 v7.toNatClampNeg) (σ.1 15 ((v7 + 1).toNatClampNeg)) σ112 h)
  · have h := g_iff c79 h
    refine g_aload_n (pc := 58) dX12_writes_58 rfl 0 rfl ?_
    refine g_getR (pc := 59) wfX12_53 rfl rfl dX12_writes_59 ?_
    refine g_iload (pc := 62) dX12_writes_62 7 rfl ?_
    obtain ⟨c114, h⟩ := g_gd h
    refine g_zald (pc := 64) rfl c114 rfl dX12_writes_64 ?_
    refine g_if_eq (pc := 65) (tgt := 89) dX12_writes_65 (by decide) (fun c115 => ?_) (fun c115 => ?_)
    · have h := g_ift c115 h
      exact g_lv [0, 1, 2, 3, 4, 5, 6, 7] rfl (tX12_writes_b89 hE n w hw K49 hK49 v3 v4 v5 v6 v7 v8 σ h)
    · have h := g_iff c115 h
      refine g_aload_n (pc := 68) dX12_writes_68 rfl 0 rfl ?_
      refine g_iload (pc := 69) dX12_writes_69 7 rfl ?_
      refine g_iload (pc := 71) dX12_writes_71 5 rfl ?_
      obtain ⟨r118, σ117, h116, h⟩ := g_bId h
      refine g_callVi (pc := 73) (st := []) hE.1 wvX12_253 rfl rfl (kX12_isRead hE v8 v6 σ h116) rfl (gR_ok (by decide) (by decide)) (Nat.le_of_ble_eq_true rfl) rfl dX12_writes_73 ?_
      refine g_if_eq (pc := 76) (tgt := 89) dX12_writes_76 (by decide) (fun c119 => ?_) (fun c119 => ?_)
      · have h := g_ift c119 h
        exact g_lv [0, 1, 2, 3, 4, 5, 6, 7] rfl (tX12_writes_b89 hE n w hw K49 hK49 v3 v4 v5 v6 v7 v8 σ117 h)
      · have h := g_iff c119 h
        refine g_aload_n (pc := 79) dX12_writes_79 rfl 0 rfl ?_
        refine g_aload_n (pc := 80) dX12_writes_80 rfl 1 rfl ?_
        refine g_iload (pc := 81) dX12_writes_81 3 rfl ?_
        refine g_iload (pc := 83) dX12_writes_83 7 rfl ?_
        refine g_iconst (pc := 85) (v := 0) dX12_writes_85 (by decide) ?_
        obtain ⟨σ121, h120, h⟩ := g_bVd h
        refine g_callVv (pc := 86) (st := []) hE.1 wvX12_257 rfl rfl (kX12_countsRole hE w hw v4 v8 0 σ117 h120) rfl (gR_ok (by decide) (by decide)) (Nat.le_of_ble_eq_true rfl) rfl dX12_writes_86 ?_
        exact g_lv [0, 1, 2, 3, 4, 5, 6, 7] rfl (tX12_writes_b89 hE n w hw K49 hK49 v3 v4 v5 v6 v7 v8 σ121 h)
def fX12_writes_L49 (n : Nat) (w : Nat) : Nat → Int32 → Int32 → Int32 → Int32 → Int32 → Int32 → gM → Option (gM)
  | 0 => fun _ _ _ _ _ _ _ => none
  | k + 1 => fX12_writes_b49 n w (fX12_writes_L49 n w k)
theorem tX12_writes_L49 (hE : gEM l dC dI ad ca X) {σ' : gM} (n : Nat) (w : Nat) (hw : shM[w]? = some (.inl (.int, 616)))  : ∀ (k : Nat) (v3 : Int32) (v4 : Int32) (v5 : Int32) (v6 : Int32) (v7 : Int32) (v8 : Int32) (σ : gM), fX12_writes_L49 n w k v3 v4 v5 v6 v7 v8 σ = some σ' → g_G l dC dI ad ca shM X cX12_writes 12 RX12 none (gR 3) none σ' 49 [(0, .ref 0), (1, .ref w), (3, .int v3), (4, .int v4), (5, .int v5), (6, .int v6), (7, .int v7), (8, .int v8)] [] σ := by
  intro k
  induction k with
  | zero => intro v3 v4 v5 v6 v7 v8 σ h; cases h
  | succ k ih => intro v3 v4 v5 v6 v7 v8 σ h; exact tX12_writes_b49 hE n w hw (fX12_writes_L49 n w k) ih v3 v4 v5 v6 v7 v8 σ h
def fX12_writes (n : Nat) (w : Nat) (v2 : Int32) (v3 : Int32) (σ : gM) : Option (gM) := g_bI (fX12_stripeOf v2 σ) (fun r124 σ123 => g_bI (fX12_byteOf v2 σ123) (fun r127 σ126 => g_bI (fX12_partOf v2 σ126) (fun r130 σ129 => g_bV (fX12_lays n w r124 r127 (-1) (-1) σ129) (fun σ132 => g_bV (fX12_chooses n r130 σ132) (fun σ134 => fX12_writes_L49 n w n v3 r124 r127 r130 (σ129.1 3 0) 0 σ134)))))
set_option maxRecDepth 100000 in
theorem kX12_writes (hE : gEM l dC dI ad ca X) (n : Nat) (w : Nat) (hw : shM[w]? = some (.inl (.int, 616)))  (v2 : Int32) (v3 : Int32) (σ : gM) {σ' : gM} (h : fX12_writes n w v2 v3 σ = some σ') : g_C l dC dI ad ca shM X yX12_writes cX12_writes 12 none (gR 3) [.ref 0, .ref w, .int v2, .int v3] σ none σ' := by
  refine g_entry (by decide +kernel) (Nat.le_of_ble_eq_true rfl) ?_
  refine g_lvE (lv1 := [(0, .ref 0), (1, .ref w), (2, .int v2), (3, .int v3)]) rfl ?_
  unfold fX12_writes at h
  refine g_aload_n (pc := 0) dX12_writes_0 rfl 0 rfl ?_
  refine g_iload_n (pc := 1) dX12_writes_1 rfl 2 rfl ?_
  obtain ⟨r124, σ123, h122, h⟩ := g_bId h
  refine g_callVi (pc := 2) (st := []) hE.1 wvX12_217 rfl rfl (kX12_stripeOf hE v2 σ h122) rfl (gR_ok (by decide) (by decide)) (Nat.le_of_ble_eq_true rfl) rfl dX12_writes_2 ?_
  refine g_istore (pc := 5) (lv1 := [(4, .int r124), (0, .ref 0), (1, .ref w), (2, .int v2), (3, .int v3)]) dX12_writes_5 (by decide) rfl ?_
  refine g_aload_n (pc := 7) dX12_writes_7 rfl 1 rfl ?_
  refine g_iload_n (pc := 8) dX12_writes_8 rfl 3 rfl ?_
  obtain ⟨r127, σ126, h125, h⟩ := g_bId h
  refine g_callVi (pc := 9) (st := []) hE.1 wvX12_220 rfl rfl (kX12_byteOf hE v2 σ123 h125) rfl (gR_ok (by decide) (by decide)) (Nat.le_of_ble_eq_true rfl) rfl dX12_writes_9 ?_
  refine g_istore (pc := 12) (lv1 := [(5, .int r127), (4, .int r124), (0, .ref 0), (1, .ref w), (2, .int v2), (3, .int v3)]) dX12_writes_12 (by decide) rfl ?_
  refine g_aload_n (pc := 14) dX12_writes_14 rfl 2 rfl ?_
  refine g_iload_n (pc := 15) dX12_writes_15 rfl 4 rfl ?_
  obtain ⟨r130, σ129, h128, h⟩ := g_bId h
  refine g_callVi (pc := 16) (st := []) hE.1 wvX12_230 rfl rfl (kX12_partOf hE v2 σ126 h128) rfl (gR_ok (by decide) (by decide)) (Nat.le_of_ble_eq_true rfl) rfl dX12_writes_16 ?_
  refine g_istore (pc := 19) (lv1 := [(6, .int r130), (5, .int r127), (4, .int r124), (0, .ref 0), (1, .ref w), (2, .int v2), (3, .int v3)]) dX12_writes_19 (by decide) rfl ?_
  refine g_aload_n (pc := 21) dX12_writes_21 rfl 3 rfl ?_
  refine g_getR (pc := 22) wfX12_17 rfl rfl dX12_writes_22 ?_
  refine g_iconst (pc := 25) (v := 0) dX12_writes_25 (by decide) ?_
  refine g_iald (pc := 26) rfl (by decide) (j := 0) (by decide) dX12_writes_26 ?_
  refine g_istore (pc := 27) (lv1 := [(7, .int (σ129.1 3 0)), (6, .int r130), (5, .int r127), (4, .int r124), (0, .ref 0), (1, .ref w), (2, .int v2), (3, .int v3)]) dX12_writes_27 (by decide) rfl ?_
  refine g_aload_n (pc := 29) dX12_writes_29 rfl 4 rfl ?_
  refine g_aload_n (pc := 30) dX12_writes_30 rfl 5 rfl ?_
  refine g_iload (pc := 31) dX12_writes_31 3 rfl ?_
  refine g_iload (pc := 33) dX12_writes_33 2 rfl ?_
  refine g_iconst (pc := 35) (v := (-1)) dX12_writes_35 (by decide) ?_
  refine g_iconst (pc := 36) (v := (-1)) dX12_writes_36 (by decide) ?_
  obtain ⟨σ132, h131, h⟩ := g_bVd h
  refine g_callVv (pc := 37) (st := []) hE.1 wvX12_223 rfl rfl (kX12_lays hE n w hw r124 r127 (-1) (-1) σ129 h131) rfl (gR_ok (by decide) (by decide)) (Nat.le_of_ble_eq_true rfl) rfl dX12_writes_37 ?_
  refine g_aload_n (pc := 40) dX12_writes_40 rfl 4 rfl ?_
  refine g_iload (pc := 41) dX12_writes_41 1 rfl ?_
  obtain ⟨σ134, h133, h⟩ := g_bVd h
  refine g_callVv (pc := 43) (st := []) hE.1 wvX12_250 rfl rfl (kX12_chooses hE n r130 σ132 h133) rfl (gR_ok (by decide) (by decide)) (Nat.le_of_ble_eq_true rfl) rfl dX12_writes_43 ?_
  refine g_iconst (pc := 46) (v := 0) dX12_writes_46 (by decide) ?_
  refine g_istore (pc := 47) (lv1 := [(8, .int 0), (7, .int (σ129.1 3 0)), (6, .int r130), (5, .int r127), (4, .int r124), (0, .ref 0), (1, .ref w), (2, .int v2), (3, .int v3)]) dX12_writes_47 (by decide) rfl ?_
  exact g_lv [5, 6, 8, 4, 3, 2, 1, 0] rfl (tX12_writes_L49 hE n w hw n v3 r124 r127 r130 (σ129.1 3 0) 0 σ134 h)
def fX12_begins_b176 (n : Nat) (K127 : Int32 → gM → Option (gM)) (v1 : Int32) (σ : gM) : Option (gM) := K127 (v1 + 1) σ
set_option maxRecDepth 100000 in
theorem tX12_begins_b176 (hE : gEM l dC dI ad ca X) {σ' : gM} (n : Nat) (K127 : Int32 → gM → Option (gM)) (hK127 : ∀ (v1 : Int32) (σ : gM), K127 v1 σ = some σ' → g_G l dC dI ad ca shM X cX12_begins 2 RX12 none (gR 4) none σ' 127 [(0, .ref 0), (1, .int v1)] [] σ) (v1 : Int32)  (σ : gM) (h : fX12_begins_b176 n K127 v1 σ = some σ') : g_G l dC dI ad ca shM X cX12_begins 2 RX12 none (gR 4) none σ' 176 [(0, .ref 0), (1, .int v1)] [] σ := by
  unfold fX12_begins_b176 at h
  refine g_iinc (pc := 176) (v := v1 + 1) (lv1 := [(1, .int (v1 + 1)), (0, .ref 0)]) dX12_begins_176 1 rfl rfl (by decide) rfl ?_
  refine g_goto (pc := 179) (tgt := 127) dX12_begins_179 (by decide) ?_
  exact g_lv [1, 0] rfl (hK127 (v1 + 1) σ h)
def fX12_begins_b184 (n : Nat) (K184 : Int32 → gM → Option (gM)) (v1 : Int32) (σ : gM) : Option (gM) := if 8 ≤ v1 then (g_let (g_put σ 10 427 0) (fun σ45 => g_let (g_put σ45 10 428 0) (fun σ47 => g_let (g_put σ47 0 22 0) (fun σ49 => g_let (g_put σ49 0 23 0) (fun σ51 => some σ51))))) else (if ¬ ((400 + v1) < 0 ∨ 616 ≤ (400 + v1).toNatClampNeg) then (g_let (g_put σ 10 ((400 + v1).toNatClampNeg) 0) (fun σ54 => if ¬ ((408 + v1) < 0 ∨ 616 ≤ (408 + v1).toNatClampNeg) then (g_let (g_put σ54 10 ((408 + v1).toNatClampNeg) 0) (fun σ57 => K184 (v1 + 1) σ57)) else none)) else none)
set_option maxRecDepth 100000 in
theorem tX12_begins_b184 (hE : gEM l dC dI ad ca X) {σ' : gM} (n : Nat) (K184 : Int32 → gM → Option (gM)) (hK184 : ∀ (v1 : Int32) (σ : gM), K184 v1 σ = some σ' → g_G l dC dI ad ca shM X cX12_begins 2 RX12 none (gR 4) none σ' 184 [(0, .ref 0), (1, .int v1)] [] σ) (v1 : Int32)  (σ : gM) (h : fX12_begins_b184 n K184 v1 σ = some σ') : g_G l dC dI ad ca shM X cX12_begins 2 RX12 none (gR 4) none σ' 184 [(0, .ref 0), (1, .int v1)] [] σ := by
  unfold fX12_begins_b184 at h
  refine g_iload_n (pc := 184) dX12_begins_184 rfl 1 rfl ?_
  refine g_bipush (pc := 185) (v := 8) dX12_begins_185 (by decide) ?_
  refine g_icmp_ge (pc := 187) (tgt := 218) dX12_begins_187 (by decide) (fun c44 => ?_) (fun c44 => ?_)
  · have h := g_ift c44 h
    refine g_aload_n (pc := 218) dX12_begins_218 rfl 0 rfl ?_
    refine g_getR (pc := 219) wfX12_38 rfl rfl dX12_begins_219 ?_
    refine g_sipush (pc := 222) (v := 427) dX12_begins_222 (by decide) ?_
    refine g_iconst (pc := 225) (v := 0) dX12_begins_225 (by decide) ?_
    obtain ⟨σ45, e46, h⟩ := g_ltd h
    refine g_iast (pc := 226) rfl (by decide) (j := 427) (by decide) e46 dX12_begins_226 ?_
    refine g_aload_n (pc := 227) dX12_begins_227 rfl 0 rfl ?_
    refine g_getR (pc := 228) wfX12_38 rfl rfl dX12_begins_228 ?_
    refine g_sipush (pc := 231) (v := 428) dX12_begins_231 (by decide) ?_
    refine g_iconst (pc := 234) (v := 0) dX12_begins_234 (by decide) ?_
    obtain ⟨σ47, e48, h⟩ := g_ltd h
    refine g_iast (pc := 235) rfl (by decide) (j := 428) (by decide) e48 dX12_begins_235 ?_
    refine g_aload_n (pc := 236) dX12_begins_236 rfl 0 rfl ?_
    refine g_iconst (pc := 237) (v := 0) dX12_begins_237 (by decide) ?_
    obtain ⟨σ49, e50, h⟩ := g_ltd h
    refine g_putI (pc := 238) wfX12_181 rfl rfl rfl rfl e50 dX12_begins_238 ?_
    refine g_aload_n (pc := 241) dX12_begins_241 rfl 0 rfl ?_
    refine g_iconst (pc := 242) (v := 0) dX12_begins_242 (by decide) ?_
    obtain ⟨σ51, e52, h⟩ := g_ltd h
    refine g_putI (pc := 243) wfX12_184 rfl rfl (by decide) (by decide) e52 dX12_begins_243 ?_
    cases h
    exact g_vret (pc := 246) rfl rfl rfl dX12_begins_246
  · have h := g_iff c44 h
    refine g_aload_n (pc := 190) dX12_begins_190 rfl 0 rfl ?_
    refine g_getR (pc := 191) wfX12_38 rfl rfl dX12_begins_191 ?_
    refine g_sipush (pc := 194) (v := 400) dX12_begins_194 (by decide) ?_
    refine g_iload_n (pc := 197) dX12_begins_197 rfl 1 rfl ?_
    refine g_iadd (pc := 198) dX12_begins_198 ?_
    refine g_iconst (pc := 199) (v := 0) dX12_begins_199 (by decide) ?_
    obtain ⟨c53, h⟩ := g_gd h
    obtain ⟨σ54, e55, h⟩ := g_ltd h
    refine g_iast (pc := 200) rfl c53 rfl e55 dX12_begins_200 ?_
    refine g_aload_n (pc := 201) dX12_begins_201 rfl 0 rfl ?_
    refine g_getR (pc := 202) wfX12_38 rfl rfl dX12_begins_202 ?_
    refine g_sipush (pc := 205) (v := 408) dX12_begins_205 (by decide) ?_
    refine g_iload_n (pc := 208) dX12_begins_208 rfl 1 rfl ?_
    refine g_iadd (pc := 209) dX12_begins_209 ?_
    refine g_iconst (pc := 210) (v := 0) dX12_begins_210 (by decide) ?_
    obtain ⟨c56, h⟩ := g_gd h
    obtain ⟨σ57, e58, h⟩ := g_ltd h
    refine g_iast (pc := 211) rfl c56 rfl e58 dX12_begins_211 ?_
    refine g_iinc (pc := 212) (v := v1 + 1) (lv1 := [(1, .int (v1 + 1)), (0, .ref 0)]) dX12_begins_212 1 rfl rfl (by decide) rfl ?_
    refine g_goto (pc := 215) (tgt := 184) dX12_begins_215 (by decide) ?_
    exact g_lv [1, 0] rfl (hK184 (v1 + 1) σ57 h)
def fX12_begins_L184 (n : Nat) : Nat → Int32 → gM → Option (gM)
  | 0 => fun _ _ => none
  | k + 1 => fX12_begins_b184 n (fX12_begins_L184 n k)
theorem tX12_begins_L184 (hE : gEM l dC dI ad ca X) {σ' : gM} (n : Nat)  : ∀ (k : Nat) (v1 : Int32) (σ : gM), fX12_begins_L184 n k v1 σ = some σ' → g_G l dC dI ad ca shM X cX12_begins 2 RX12 none (gR 4) none σ' 184 [(0, .ref 0), (1, .int v1)] [] σ := by
  intro k
  induction k with
  | zero => intro v1 σ h; cases h
  | succ k ih => intro v1 σ h; exact tX12_begins_b184 hE n (fX12_begins_L184 n k) ih v1 σ h
def fX12_begins_b127 (n : Nat) (K127 : Int32 → gM → Option (gM)) (v1 : Int32) (σ : gM) : Option (gM) := if (σ.1 0 11) ≤ v1 then (fX12_begins_L184 n n 0 σ) else (if ¬ ((2 * v1) < 0 ∨ 32 ≤ (2 * v1).toNatClampNeg) then (if (σ.1 0 14) ≤ (σ.1 4 ((2 * v1).toNatClampNeg)) then (fX12_begins_b176 n K127 v1 σ) else (if ¬ ((2 * v1) < 0 ∨ 32 ≤ (2 * v1).toNatClampNeg) then (if ¬ (((2 * v1) + 1) < 0 ∨ 32 ≤ ((2 * v1) + 1).toNatClampNeg) then (g_bV (fX12_writes n 10 (σ.1 4 ((2 * v1).toNatClampNeg)) (σ.1 4 (((2 * v1) + 1).toNatClampNeg)) σ) (fun σ65 => fX12_begins_b176 n K127 v1 σ65)) else none) else none)) else none)
set_option maxRecDepth 100000 in
theorem tX12_begins_b127 (hE : gEM l dC dI ad ca X) {σ' : gM} (n : Nat) (K127 : Int32 → gM → Option (gM)) (hK127 : ∀ (v1 : Int32) (σ : gM), K127 v1 σ = some σ' → g_G l dC dI ad ca shM X cX12_begins 2 RX12 none (gR 4) none σ' 127 [(0, .ref 0), (1, .int v1)] [] σ) (v1 : Int32)  (σ : gM) (h : fX12_begins_b127 n K127 v1 σ = some σ') : g_G l dC dI ad ca shM X cX12_begins 2 RX12 none (gR 4) none σ' 127 [(0, .ref 0), (1, .int v1)] [] σ := by
  unfold fX12_begins_b127 at h
  refine g_iload_n (pc := 127) dX12_begins_127 rfl 1 rfl ?_
  refine g_aload_n (pc := 128) dX12_begins_128 rfl 0 rfl ?_
  refine g_getI (pc := 129) wfX12_121 rfl rfl dX12_begins_129 ?_
  refine g_icmp_ge (pc := 132) (tgt := 182) dX12_begins_132 (by decide) (fun c59 => ?_) (fun c59 => ?_)
  · have h := g_ift c59 h
    refine g_iconst (pc := 182) (v := 0) dX12_begins_182 (by decide) ?_
    refine g_istore_n (pc := 183) (lv1 := [(1, .int 0), (0, .ref 0)]) dX12_begins_183 rfl (by decide) rfl ?_
    exact g_lv [1, 0] rfl (tX12_begins_L184 hE n n 0 σ h)
  · have h := g_iff c59 h
    refine g_aload_n (pc := 135) dX12_begins_135 rfl 0 rfl ?_
    refine g_getR (pc := 136) wfX12_20 rfl rfl dX12_begins_136 ?_
    refine g_iconst (pc := 139) (v := 2) dX12_begins_139 (by decide) ?_
    refine g_iload_n (pc := 140) dX12_begins_140 rfl 1 rfl ?_
    refine g_imul (pc := 141) dX12_begins_141 ?_
    obtain ⟨c60, h⟩ := g_gd h
    refine g_iald (pc := 142) rfl c60 rfl dX12_begins_142 ?_
    refine g_aload_n (pc := 143) dX12_begins_143 rfl 0 rfl ?_
    refine g_getI (pc := 144) wfX12_153 rfl rfl dX12_begins_144 ?_
    refine g_icmp_ge (pc := 147) (tgt := 176) dX12_begins_147 (by decide) (fun c61 => ?_) (fun c61 => ?_)
    · have h := g_ift c61 h
      exact g_lv [0, 1] rfl (tX12_begins_b176 hE n K127 hK127 v1 σ h)
    · have h := g_iff c61 h
      refine g_aload_n (pc := 150) dX12_begins_150 rfl 0 rfl ?_
      refine g_aload_n (pc := 151) dX12_begins_151 rfl 0 rfl ?_
      refine g_getR (pc := 152) wfX12_38 rfl rfl dX12_begins_152 ?_
      refine g_aload_n (pc := 155) dX12_begins_155 rfl 0 rfl ?_
      refine g_getR (pc := 156) wfX12_20 rfl rfl dX12_begins_156 ?_
      refine g_iconst (pc := 159) (v := 2) dX12_begins_159 (by decide) ?_
      refine g_iload_n (pc := 160) dX12_begins_160 rfl 1 rfl ?_
      refine g_imul (pc := 161) dX12_begins_161 ?_
      obtain ⟨c62, h⟩ := g_gd h
      refine g_iald (pc := 162) rfl c62 rfl dX12_begins_162 ?_
      refine g_aload_n (pc := 163) dX12_begins_163 rfl 0 rfl ?_
      refine g_getR (pc := 164) wfX12_20 rfl rfl dX12_begins_164 ?_
      refine g_iconst (pc := 167) (v := 2) dX12_begins_167 (by decide) ?_
      refine g_iload_n (pc := 168) dX12_begins_168 rfl 1 rfl ?_
      refine g_imul (pc := 169) dX12_begins_169 ?_
      refine g_iconst (pc := 170) (v := 1) dX12_begins_170 (by decide) ?_
      refine g_iadd (pc := 171) dX12_begins_171 ?_
      obtain ⟨c63, h⟩ := g_gd h
      refine g_iald (pc := 172) rfl c63 rfl dX12_begins_172 ?_
      obtain ⟨σ65, h64, h⟩ := g_bVd h
      refine g_callVv (pc := 173) (st := []) hE.1 wvX12_177 rfl rfl (kX12_writes hE n 10 rfl (σ.1 4 ((2 * v1).toNatClampNeg)) (σ.1 4 (((2 * v1) + 1).toNatClampNeg)) σ h64) rfl (gR_ok (by decide) (by decide)) (Nat.le_of_ble_eq_true rfl) rfl dX12_begins_173 ?_
      exact g_lv [0, 1] rfl (tX12_begins_b176 hE n K127 hK127 v1 σ65 h)
def fX12_begins_L127 (n : Nat) : Nat → Int32 → gM → Option (gM)
  | 0 => fun _ _ => none
  | k + 1 => fX12_begins_b127 n (fX12_begins_L127 n k)
theorem tX12_begins_L127 (hE : gEM l dC dI ad ca X) {σ' : gM} (n : Nat)  : ∀ (k : Nat) (v1 : Int32) (σ : gM), fX12_begins_L127 n k v1 σ = some σ' → g_G l dC dI ad ca shM X cX12_begins 2 RX12 none (gR 4) none σ' 127 [(0, .ref 0), (1, .int v1)] [] σ := by
  intro k
  induction k with
  | zero => intro v1 σ h; cases h
  | succ k ih => intro v1 σ h; exact tX12_begins_b127 hE n (fX12_begins_L127 n k) ih v1 σ h
def fX12_begins_b103 (n : Nat) (K103 : Int32 → gM → Option (gM)) (v1 : Int32) (σ : gM) : Option (gM) := if 3 ≤ v1 then (fX12_begins_L127 n n 0 σ) else (if ¬ ((432 + v1) < 0 ∨ 616 ≤ (432 + v1).toNatClampNeg) then (g_let (g_put σ 10 ((432 + v1).toNatClampNeg) (-1)) (fun σ68 => K103 (v1 + 1) σ68)) else none)
set_option maxRecDepth 100000 in
theorem tX12_begins_b103 (hE : gEM l dC dI ad ca X) {σ' : gM} (n : Nat) (K103 : Int32 → gM → Option (gM)) (hK103 : ∀ (v1 : Int32) (σ : gM), K103 v1 σ = some σ' → g_G l dC dI ad ca shM X cX12_begins 2 RX12 none (gR 4) none σ' 103 [(0, .ref 0), (1, .int v1)] [] σ) (v1 : Int32)  (σ : gM) (h : fX12_begins_b103 n K103 v1 σ = some σ') : g_G l dC dI ad ca shM X cX12_begins 2 RX12 none (gR 4) none σ' 103 [(0, .ref 0), (1, .int v1)] [] σ := by
  unfold fX12_begins_b103 at h
  refine g_iload_n (pc := 103) dX12_begins_103 rfl 1 rfl ?_
  refine g_iconst (pc := 104) (v := 3) dX12_begins_104 (by decide) ?_
  refine g_icmp_ge (pc := 105) (tgt := 125) dX12_begins_105 (by decide) (fun c66 => ?_) (fun c66 => ?_)
  · have h := g_ift c66 h
    refine g_iconst (pc := 125) (v := 0) dX12_begins_125 (by decide) ?_
    refine g_istore_n (pc := 126) (lv1 := [(1, .int 0), (0, .ref 0)]) dX12_begins_126 rfl (by decide) rfl ?_
    exact g_lv [1, 0] rfl (tX12_begins_L127 hE n n 0 σ h)
  · have h := g_iff c66 h
    refine g_aload_n (pc := 108) dX12_begins_108 rfl 0 rfl ?_
    refine g_getR (pc := 109) wfX12_38 rfl rfl dX12_begins_109 ?_
    refine g_sipush (pc := 112) (v := 432) dX12_begins_112 (by decide) ?_
    refine g_iload_n (pc := 115) dX12_begins_115 rfl 1 rfl ?_
    refine g_iadd (pc := 116) dX12_begins_116 ?_
    refine g_iconst (pc := 117) (v := (-1)) dX12_begins_117 (by decide) ?_
    obtain ⟨c67, h⟩ := g_gd h
    obtain ⟨σ68, e69, h⟩ := g_ltd h
    refine g_iast (pc := 118) rfl c67 rfl e69 dX12_begins_118 ?_
    refine g_iinc (pc := 119) (v := v1 + 1) (lv1 := [(1, .int (v1 + 1)), (0, .ref 0)]) dX12_begins_119 1 rfl rfl (by decide) rfl ?_
    refine g_goto (pc := 122) (tgt := 103) dX12_begins_122 (by decide) ?_
    exact g_lv [1, 0] rfl (hK103 (v1 + 1) σ68 h)
def fX12_begins_L103 (n : Nat) : Nat → Int32 → gM → Option (gM)
  | 0 => fun _ _ => none
  | k + 1 => fX12_begins_b103 n (fX12_begins_L103 n k)
theorem tX12_begins_L103 (hE : gEM l dC dI ad ca X) {σ' : gM} (n : Nat)  : ∀ (k : Nat) (v1 : Int32) (σ : gM), fX12_begins_L103 n k v1 σ = some σ' → g_G l dC dI ad ca shM X cX12_begins 2 RX12 none (gR 4) none σ' 103 [(0, .ref 0), (1, .int v1)] [] σ := by
  intro k
  induction k with
  | zero => intro v1 σ h; cases h
  | succ k ih => intro v1 σ h; exact tX12_begins_b103 hE n (fX12_begins_L103 n k) ih v1 σ h
def fX12_begins_b67 (n : Nat) (K67 : Int32 → gM → Option (gM)) (v1 : Int32) (σ : gM) : Option (gM) := if 616 ≤ v1 then (g_let (g_put σ 10 424 (σ.1 3 4)) (fun σ71 => fX12_begins_L103 n n 0 σ71)) else (if ¬ (v1 < 0 ∨ 616 ≤ v1.toNatClampNeg) then (g_let (g_put σ 10 v1.toNatClampNeg 0) (fun σ74 => K67 (v1 + 1) σ74)) else none)
set_option maxRecDepth 100000 in
theorem tX12_begins_b67 (hE : gEM l dC dI ad ca X) {σ' : gM} (n : Nat) (K67 : Int32 → gM → Option (gM)) (hK67 : ∀ (v1 : Int32) (σ : gM), K67 v1 σ = some σ' → g_G l dC dI ad ca shM X cX12_begins 2 RX12 none (gR 4) none σ' 67 [(0, .ref 0), (1, .int v1)] [] σ) (v1 : Int32)  (σ : gM) (h : fX12_begins_b67 n K67 v1 σ = some σ') : g_G l dC dI ad ca shM X cX12_begins 2 RX12 none (gR 4) none σ' 67 [(0, .ref 0), (1, .int v1)] [] σ := by
  unfold fX12_begins_b67 at h
  refine g_iload_n (pc := 67) dX12_begins_67 rfl 1 rfl ?_
  refine g_sipush (pc := 68) (v := 616) dX12_begins_68 (by decide) ?_
  refine g_icmp_ge (pc := 71) (tgt := 87) dX12_begins_71 (by decide) (fun c70 => ?_) (fun c70 => ?_)
  · have h := g_ift c70 h
    refine g_aload_n (pc := 87) dX12_begins_87 rfl 0 rfl ?_
    refine g_getR (pc := 88) wfX12_38 rfl rfl dX12_begins_88 ?_
    refine g_sipush (pc := 91) (v := 424) dX12_begins_91 (by decide) ?_
    refine g_aload_n (pc := 94) dX12_begins_94 rfl 0 rfl ?_
    refine g_getR (pc := 95) wfX12_17 rfl rfl dX12_begins_95 ?_
    refine g_iconst (pc := 98) (v := 4) dX12_begins_98 (by decide) ?_
    refine g_iald (pc := 99) rfl (by decide) (j := 4) (by decide) dX12_begins_99 ?_
    obtain ⟨σ71, e72, h⟩ := g_ltd h
    refine g_iast (pc := 100) rfl (by decide) (j := 424) (by decide) e72 dX12_begins_100 ?_
    refine g_iconst (pc := 101) (v := 0) dX12_begins_101 (by decide) ?_
    refine g_istore_n (pc := 102) (lv1 := [(1, .int 0), (0, .ref 0)]) dX12_begins_102 rfl (by decide) rfl ?_
    exact g_lv [1, 0] rfl (tX12_begins_L103 hE n n 0 σ71 h)
  · have h := g_iff c70 h
    refine g_aload_n (pc := 74) dX12_begins_74 rfl 0 rfl ?_
    refine g_getR (pc := 75) wfX12_38 rfl rfl dX12_begins_75 ?_
    refine g_iload_n (pc := 78) dX12_begins_78 rfl 1 rfl ?_
    refine g_iconst (pc := 79) (v := 0) dX12_begins_79 (by decide) ?_
    obtain ⟨c73, h⟩ := g_gd h
    obtain ⟨σ74, e75, h⟩ := g_ltd h
    refine g_iast (pc := 80) rfl c73 rfl e75 dX12_begins_80 ?_
    refine g_iinc (pc := 81) (v := v1 + 1) (lv1 := [(1, .int (v1 + 1)), (0, .ref 0)]) dX12_begins_81 1 rfl rfl (by decide) rfl ?_
    refine g_goto (pc := 84) (tgt := 67) dX12_begins_84 (by decide) ?_
    exact g_lv [1, 0] rfl (hK67 (v1 + 1) σ74 h)
def fX12_begins_L67 (n : Nat) : Nat → Int32 → gM → Option (gM)
  | 0 => fun _ _ => none
  | k + 1 => fX12_begins_b67 n (fX12_begins_L67 n k)
theorem tX12_begins_L67 (hE : gEM l dC dI ad ca X) {σ' : gM} (n : Nat)  : ∀ (k : Nat) (v1 : Int32) (σ : gM), fX12_begins_L67 n k v1 σ = some σ' → g_G l dC dI ad ca shM X cX12_begins 2 RX12 none (gR 4) none σ' 67 [(0, .ref 0), (1, .int v1)] [] σ := by
  intro k
  induction k with
  | zero => intro v1 σ h; cases h
  | succ k ih => intro v1 σ h; exact tX12_begins_b67 hE n (fX12_begins_L67 n k) ih v1 σ h
def fX12_begins_b2 (n : Nat) (K2 : Int32 → gM → Option (gM)) (v1 : Int32) (σ : gM) : Option (gM) := if 5 ≤ v1 then (g_let (g_put σ 0 13 ((σ.1 3 0) + 2)) (fun σ77 => g_let (g_put σ77 0 14 (((σ77.1 3 0) * (σ77.1 3 1)) * (σ77.1 3 2))) (fun σ79 => g_bV (fX12_laysField n σ79) (fun σ82 => fX12_begins_L67 n n 0 σ82)))) else (if ¬ (v1 < 0 ∨ 5 ≤ v1.toNatClampNeg) then (if ¬ (v1 < 0 ∨ 5 ≤ v1.toNatClampNeg) then (g_let (g_put σ 3 v1.toNatClampNeg (σ.1 2 v1.toNatClampNeg)) (fun σ85 => K2 (v1 + 1) σ85)) else none) else none)
set_option maxRecDepth 100000 in
theorem tX12_begins_b2 (hE : gEM l dC dI ad ca X) {σ' : gM} (n : Nat) (K2 : Int32 → gM → Option (gM)) (hK2 : ∀ (v1 : Int32) (σ : gM), K2 v1 σ = some σ' → g_G l dC dI ad ca shM X cX12_begins 2 RX12 none (gR 4) none σ' 2 [(0, .ref 0), (1, .int v1)] [] σ) (v1 : Int32)  (σ : gM) (h : fX12_begins_b2 n K2 v1 σ = some σ') : g_G l dC dI ad ca shM X cX12_begins 2 RX12 none (gR 4) none σ' 2 [(0, .ref 0), (1, .int v1)] [] σ := by
  unfold fX12_begins_b2 at h
  refine g_iload_n (pc := 2) dX12_begins_2 rfl 1 rfl ?_
  refine g_iconst (pc := 3) (v := 5) dX12_begins_3 (by decide) ?_
  refine g_icmp_ge (pc := 4) (tgt := 25) dX12_begins_4 (by decide) (fun c76 => ?_) (fun c76 => ?_)
  · have h := g_ift c76 h
    refine g_aload_n (pc := 25) dX12_begins_25 rfl 0 rfl ?_
    refine g_aload_n (pc := 26) dX12_begins_26 rfl 0 rfl ?_
    refine g_getR (pc := 27) wfX12_17 rfl rfl dX12_begins_27 ?_
    refine g_iconst (pc := 30) (v := 0) dX12_begins_30 (by decide) ?_
    refine g_iald (pc := 31) rfl (by decide) (j := 0) (by decide) dX12_begins_31 ?_
    refine g_iconst (pc := 32) (v := 2) dX12_begins_32 (by decide) ?_
    refine g_iadd (pc := 33) dX12_begins_33 ?_
    obtain ⟨σ77, e78, h⟩ := g_ltd h
    refine g_putI (pc := 34) wfX12_171 rfl rfl rfl rfl e78 dX12_begins_34 ?_
    refine g_aload_n (pc := 37) dX12_begins_37 rfl 0 rfl ?_
    refine g_aload_n (pc := 38) dX12_begins_38 rfl 0 rfl ?_
    refine g_getR (pc := 39) wfX12_17 rfl rfl dX12_begins_39 ?_
    refine g_iconst (pc := 42) (v := 0) dX12_begins_42 (by decide) ?_
    refine g_iald (pc := 43) rfl (by decide) (j := 0) (by decide) dX12_begins_43 ?_
    refine g_aload_n (pc := 44) dX12_begins_44 rfl 0 rfl ?_
    refine g_getR (pc := 45) wfX12_17 rfl rfl dX12_begins_45 ?_
    refine g_iconst (pc := 48) (v := 1) dX12_begins_48 (by decide) ?_
    refine g_iald (pc := 49) rfl (by decide) (j := 1) (by decide) dX12_begins_49 ?_
    refine g_imul (pc := 50) dX12_begins_50 ?_
    refine g_aload_n (pc := 51) dX12_begins_51 rfl 0 rfl ?_
    refine g_getR (pc := 52) wfX12_17 rfl rfl dX12_begins_52 ?_
    refine g_iconst (pc := 55) (v := 2) dX12_begins_55 (by decide) ?_
    refine g_iald (pc := 56) rfl (by decide) (j := 2) (by decide) dX12_begins_56 ?_
    refine g_imul (pc := 57) dX12_begins_57 ?_
    obtain ⟨σ79, e80, h⟩ := g_ltd h
    refine g_putI (pc := 58) wfX12_153 rfl rfl rfl rfl e80 dX12_begins_58 ?_
    refine g_aload_n (pc := 61) dX12_begins_61 rfl 0 rfl ?_
    obtain ⟨σ82, h81, h⟩ := g_bVd h
    refine g_callVv (pc := 62) (st := []) hE.1 wvX12_174 rfl rfl (kX12_laysField hE n σ79 h81) rfl (gR_ok (by decide) (by decide)) (Nat.le_of_ble_eq_true rfl) rfl dX12_begins_62 ?_
    refine g_iconst (pc := 65) (v := 0) dX12_begins_65 (by decide) ?_
    refine g_istore_n (pc := 66) (lv1 := [(1, .int 0), (0, .ref 0)]) dX12_begins_66 rfl (by decide) rfl ?_
    exact g_lv [1, 0] rfl (tX12_begins_L67 hE n n 0 σ82 h)
  · have h := g_iff c76 h
    refine g_aload_n (pc := 7) dX12_begins_7 rfl 0 rfl ?_
    refine g_getR (pc := 8) wfX12_17 rfl rfl dX12_begins_8 ?_
    refine g_iload_n (pc := 11) dX12_begins_11 rfl 1 rfl ?_
    refine g_aload_n (pc := 12) dX12_begins_12 rfl 0 rfl ?_
    refine g_getR (pc := 13) wfX12_13 rfl rfl dX12_begins_13 ?_
    refine g_iload_n (pc := 16) dX12_begins_16 rfl 1 rfl ?_
    obtain ⟨c83, h⟩ := g_gd h
    refine g_iald (pc := 17) rfl c83 rfl dX12_begins_17 ?_
    obtain ⟨c84, h⟩ := g_gd h
    obtain ⟨σ85, e86, h⟩ := g_ltd h
    refine g_iast (pc := 18) rfl c84 rfl e86 dX12_begins_18 ?_
    refine g_iinc (pc := 19) (v := v1 + 1) (lv1 := [(1, .int (v1 + 1)), (0, .ref 0)]) dX12_begins_19 1 rfl rfl (by decide) rfl ?_
    refine g_goto (pc := 22) (tgt := 2) dX12_begins_22 (by decide) ?_
    exact g_lv [1, 0] rfl (hK2 (v1 + 1) σ85 h)
def fX12_begins_L2 (n : Nat) : Nat → Int32 → gM → Option (gM)
  | 0 => fun _ _ => none
  | k + 1 => fX12_begins_b2 n (fX12_begins_L2 n k)
theorem tX12_begins_L2 (hE : gEM l dC dI ad ca X) {σ' : gM} (n : Nat)  : ∀ (k : Nat) (v1 : Int32) (σ : gM), fX12_begins_L2 n k v1 σ = some σ' → g_G l dC dI ad ca shM X cX12_begins 2 RX12 none (gR 4) none σ' 2 [(0, .ref 0), (1, .int v1)] [] σ := by
  intro k
  induction k with
  | zero => intro v1 σ h; cases h
  | succ k ih => intro v1 σ h; exact tX12_begins_b2 hE n (fX12_begins_L2 n k) ih v1 σ h
def fX12_begins (n : Nat) (σ : gM) : Option (gM) := fX12_begins_L2 n n 0 σ
set_option maxRecDepth 100000 in
theorem kX12_begins (hE : gEM l dC dI ad ca X) (n : Nat)  (σ : gM) {σ' : gM} (h : fX12_begins n σ = some σ') : g_C l dC dI ad ca shM X yX12_begins cX12_begins 2 none (gR 4) [.ref 0] σ none σ' := by
  refine g_entry (by decide +kernel) (Nat.le_of_ble_eq_true rfl) ?_
  refine g_lvE (lv1 := [(0, .ref 0)]) rfl ?_
  unfold fX12_begins at h
  refine g_iconst (pc := 0) (v := 0) dX12_begins_0 (by decide) ?_
  refine g_istore_n (pc := 1) (lv1 := [(1, .int 0), (0, .ref 0)]) dX12_begins_1 rfl (by decide) rfl ?_
  exact g_lv [1, 0] rfl (tX12_begins_L2 hE n n 0 σ h)
def fX12_text_b54 (n : Nat) (K54 : Int32 → Int32 → gM → Option (Int32 × gM)) (v2 : Int32) (v3 : Int32) (σ : gM) : Option (Int32 × gM) := if v2 ≤ v3 then (if ¬ ((σ.1 0 12) < 0 ∨ 5 ≤ (σ.1 0 12).toNatClampNeg) then (g_let (g_put σ 7 ((σ.1 0 12).toNatClampNeg) (σ.1 7 4)) (fun σ30 => g_let (g_put σ30 0 12 ((σ30.1 0 12) + 1)) (fun σ32 => some ((σ32.1 0 12) - 1, σ32)))) else none) else (if ¬ (((v2 * 4) + v3) < 0 ∨ 400 ≤ ((v2 * 4) + v3).toNatClampNeg) then (if ¬ (((v2 * (σ.1 0 12)) + v3) < 0 ∨ 400 ≤ ((v2 * (σ.1 0 12)) + v3).toNatClampNeg) then (g_let (g_put σ 6 (((v2 * (σ.1 0 12)) + v3).toNatClampNeg) (σ.1 6 (((v2 * 4) + v3).toNatClampNeg))) (fun σ36 => K54 v2 (v3 + 1) σ36)) else none) else none)
set_option maxRecDepth 100000 in
theorem tX12_text_b54 (hE : gEM l dC dI ad ca X) {r0 : Int32} {σ' : gM} (n : Nat) (K54 : Int32 → Int32 → gM → Option (Int32 × gM)) (hK54 : ∀ (v2 : Int32) (v3 : Int32) (σ : gM), K54 v2 v3 σ = some (r0, σ') → g_G l dC dI ad ca shM X cX12_text 4 RX12 (some .int) (gR 11) (some (.int r0)) σ' 54 [(0, .ref 0), (2, .int v2), (3, .int v3)] [] σ) (v2 : Int32) (v3 : Int32)  (σ : gM) (h : fX12_text_b54 n K54 v2 v3 σ = some (r0, σ')) : g_G l dC dI ad ca shM X cX12_text 4 RX12 (some .int) (gR 11) (some (.int r0)) σ' 54 [(0, .ref 0), (2, .int v2), (3, .int v3)] [] σ := by
  unfold fX12_text_b54 at h
  refine g_iload_n (pc := 54) dX12_text_54 rfl 2 rfl ?_
  refine g_iload_n (pc := 55) dX12_text_55 rfl 1 rfl ?_
  refine g_icmp_ge (pc := 56) (tgt := 88) dX12_text_56 (by decide) (fun c28 => ?_) (fun c28 => ?_)
  · have h := g_ift c28 h
    refine g_aload_n (pc := 88) dX12_text_88 rfl 0 rfl ?_
    refine g_getR (pc := 89) wfX12_29 rfl rfl dX12_text_89 ?_
    refine g_aload_n (pc := 92) dX12_text_92 rfl 0 rfl ?_
    refine g_getI (pc := 93) wfX12_188 rfl rfl dX12_text_93 ?_
    refine g_aload_n (pc := 96) dX12_text_96 rfl 0 rfl ?_
    refine g_getR (pc := 97) wfX12_29 rfl rfl dX12_text_97 ?_
    refine g_iconst (pc := 100) (v := 4) dX12_text_100 (by decide) ?_
    refine g_iald (pc := 101) rfl (by decide) (j := 4) (by decide) dX12_text_101 ?_
    obtain ⟨c29, h⟩ := g_gd h
    obtain ⟨σ30, e31, h⟩ := g_ltd h
    refine g_iast (pc := 102) rfl c29 rfl e31 dX12_text_102 ?_
    refine g_aload_n (pc := 103) dX12_text_103 rfl 0 rfl ?_
    refine g_dup (pc := 104) dX12_text_104 rfl ?_
    refine g_getI (pc := 105) wfX12_188 rfl rfl dX12_text_105 ?_
    refine g_iconst (pc := 108) (v := 1) dX12_text_108 (by decide) ?_
    refine g_iadd (pc := 109) dX12_text_109 ?_
    obtain ⟨σ32, e33, h⟩ := g_ltd h
    refine g_putI (pc := 110) wfX12_188 rfl rfl rfl rfl e33 dX12_text_110 ?_
    refine g_aload_n (pc := 113) dX12_text_113 rfl 0 rfl ?_
    refine g_getI (pc := 114) wfX12_188 rfl rfl dX12_text_114 ?_
    refine g_iconst (pc := 117) (v := 1) dX12_text_117 (by decide) ?_
    refine g_isub (pc := 118) dX12_text_118 ?_
    cases h
    exact g_iret (pc := 119) rfl rfl rfl rfl dX12_text_119
  · have h := g_iff c28 h
    refine g_aload_n (pc := 59) dX12_text_59 rfl 0 rfl ?_
    refine g_getR (pc := 60) wfX12_26 rfl rfl dX12_text_60 ?_
    refine g_iload_n (pc := 63) dX12_text_63 rfl 1 rfl ?_
    refine g_aload_n (pc := 64) dX12_text_64 rfl 0 rfl ?_
    refine g_getI (pc := 65) wfX12_188 rfl rfl dX12_text_65 ?_
    refine g_imul (pc := 68) dX12_text_68 ?_
    refine g_iload_n (pc := 69) dX12_text_69 rfl 2 rfl ?_
    refine g_iadd (pc := 70) dX12_text_70 ?_
    refine g_aload_n (pc := 71) dX12_text_71 rfl 0 rfl ?_
    refine g_getR (pc := 72) wfX12_26 rfl rfl dX12_text_72 ?_
    refine g_iload_n (pc := 75) dX12_text_75 rfl 1 rfl ?_
    refine g_iconst (pc := 76) (v := 4) dX12_text_76 (by decide) ?_
    refine g_imul (pc := 77) dX12_text_77 ?_
    refine g_iload_n (pc := 78) dX12_text_78 rfl 2 rfl ?_
    refine g_iadd (pc := 79) dX12_text_79 ?_
    obtain ⟨c34, h⟩ := g_gd h
    refine g_iald (pc := 80) rfl c34 rfl dX12_text_80 ?_
    obtain ⟨c35, h⟩ := g_gd h
    obtain ⟨σ36, e37, h⟩ := g_ltd h
    refine g_iast (pc := 81) rfl c35 rfl e37 dX12_text_81 ?_
    refine g_iinc (pc := 82) (v := v3 + 1) (lv1 := [(3, .int (v3 + 1)), (0, .ref 0), (2, .int v2)]) dX12_text_82 2 rfl rfl (by decide) rfl ?_
    refine g_goto (pc := 85) (tgt := 54) dX12_text_85 (by decide) ?_
    exact g_lv [1, 2, 0] rfl (hK54 v2 (v3 + 1) σ36 h)
def fX12_text_L54 (n : Nat) : Nat → Int32 → Int32 → gM → Option (Int32 × gM)
  | 0 => fun _ _ _ => none
  | k + 1 => fX12_text_b54 n (fX12_text_L54 n k)
theorem tX12_text_L54 (hE : gEM l dC dI ad ca X) {r0 : Int32} {σ' : gM} (n : Nat)  : ∀ (k : Nat) (v2 : Int32) (v3 : Int32) (σ : gM), fX12_text_L54 n k v2 v3 σ = some (r0, σ') → g_G l dC dI ad ca shM X cX12_text 4 RX12 (some .int) (gR 11) (some (.int r0)) σ' 54 [(0, .ref 0), (2, .int v2), (3, .int v3)] [] σ := by
  intro k
  induction k with
  | zero => intro v2 v3 σ h; cases h
  | succ k ih => intro v2 v3 σ h; exact tX12_text_b54 hE n (fX12_text_L54 n k) ih v2 v3 σ h
def fX12_text_b28 (n : Nat) (v1 : Int32) (σ : gM) : Option (Int32 × gM) := g_bI (fX12_fault n v1 σ) (fun r40 σ39 => if r40 = (-1) then (g_let (g_put σ39 0 2 0) (fun σ42 => if v1 = 1 then (fX12_text_L54 n n 80 0 σ42) else (g_bV (fX12_begins n σ42) (fun σ46 => some (σ46.1 0 14, σ46))))) else (some ((-1), σ39)))
set_option maxRecDepth 100000 in
theorem tX12_text_b28 (hE : gEM l dC dI ad ca X) {r0 : Int32} {σ' : gM} (n : Nat) (v1 : Int32)  (σ : gM) (h : fX12_text_b28 n v1 σ = some (r0, σ')) : g_G l dC dI ad ca shM X cX12_text 4 RX12 (some .int) (gR 11) (some (.int r0)) σ' 28 [(0, .ref 0), (1, .int v1)] [] σ := by
  unfold fX12_text_b28 at h
  refine g_aload_n (pc := 28) dX12_text_28 rfl 0 rfl ?_
  refine g_iload_n (pc := 29) dX12_text_29 rfl 1 rfl ?_
  obtain ⟨r40, σ39, h38, h⟩ := g_bId h
  refine g_callVi (pc := 30) (st := []) hE.1 wvX12_191 rfl rfl (kX12_fault hE n v1 σ h38) rfl (gR_ok (by decide) (by decide)) (Nat.le_of_ble_eq_true rfl) rfl dX12_text_30 ?_
  refine g_iconst (pc := 33) (v := (-1)) dX12_text_33 (by decide) ?_
  refine g_icmp_eq (pc := 34) (tgt := 39) dX12_text_34 (by decide) (fun c41 => ?_) (fun c41 => ?_)
  · have h := g_ift c41 h
    refine g_aload_n (pc := 39) dX12_text_39 rfl 0 rfl ?_
    refine g_iconst (pc := 40) (v := 0) dX12_text_40 (by decide) ?_
    obtain ⟨σ42, e43, h⟩ := g_ltd h
    refine g_putI (pc := 41) wfX12_61 rfl rfl rfl rfl e43 dX12_text_41 ?_
    refine g_iload_n (pc := 44) dX12_text_44 rfl 1 rfl ?_
    refine g_iconst (pc := 45) (v := 1) dX12_text_45 (by decide) ?_
    refine g_icmp_ne (pc := 46) (tgt := 120) dX12_text_46 (by decide) (fun c44 => ?_) (fun c44 => ?_)
    · have h := g_iff c44 h
      refine g_aload_n (pc := 120) dX12_text_120 rfl 0 rfl ?_
      obtain ⟨σ46, h45, h⟩ := g_bVd h
      refine g_callVv (pc := 121) (st := []) hE.1 wvX12_193 rfl rfl (kX12_begins hE n σ42 h45) rfl (gR_ok (by decide) (by decide)) (Nat.le_of_ble_eq_true rfl) rfl dX12_text_121 ?_
      refine g_aload_n (pc := 124) dX12_text_124 rfl 0 rfl ?_
      refine g_getI (pc := 125) wfX12_153 rfl rfl dX12_text_125 ?_
      cases h
      exact g_iret (pc := 128) rfl rfl rfl rfl dX12_text_128
    · have h := g_ift c44 h
      refine g_bipush (pc := 49) (v := 80) dX12_text_49 (by decide) ?_
      refine g_istore_n (pc := 51) (lv1 := [(2, .int 80), (0, .ref 0), (1, .int v1)]) dX12_text_51 rfl (by decide) rfl ?_
      refine g_iconst (pc := 52) (v := 0) dX12_text_52 (by decide) ?_
      refine g_istore_n (pc := 53) (lv1 := [(3, .int 0), (2, .int 80), (0, .ref 0), (1, .int v1)]) dX12_text_53 rfl (by decide) rfl ?_
      exact g_lv [2, 1, 0] rfl (tX12_text_L54 hE n n 80 0 σ42 h)
  · have h := g_iff c41 h
    refine g_iconst (pc := 37) (v := (-1)) dX12_text_37 (by decide) ?_
    cases h
    exact g_iret (pc := 38) rfl rfl rfl rfl dX12_text_38
def fX12_text (n : Nat) (v1 : Int32) (σ : gM) : Option (Int32 × gM) := g_let (g_put σ 0 0 0) (fun σ47 => g_bI (fX12_isIn v1.toInt64 0 1 σ47) (fun r51 σ50 => if r51 = 0 then (some ((-1), σ50)) else (if v1 = 1 then (if (σ50.1 0 12) = 4 then (some ((-1), σ50)) else (fX12_text_b28 n v1 σ50)) else (fX12_text_b28 n v1 σ50))))
set_option maxRecDepth 100000 in
theorem kX12_text (hE : gEM l dC dI ad ca X) (n : Nat)  (v1 : Int32) (σ : gM) {r0 : Int32} {σ' : gM} (h : fX12_text n v1 σ = some (r0, σ')) : g_C l dC dI ad ca shM X yX12_text cX12_text 4 (some .int) (gR 11) [.ref 0, .int v1] σ (some (.int r0)) σ' := by
  refine g_entry (by decide +kernel) (Nat.le_of_ble_eq_true rfl) ?_
  refine g_lvE (lv1 := [(0, .ref 0), (1, .int v1)]) rfl ?_
  unfold fX12_text at h
  refine g_aload_n (pc := 0) dX12_text_0 rfl 0 rfl ?_
  refine g_iconst (pc := 1) (v := 0) dX12_text_1 (by decide) ?_
  obtain ⟨σ47, e48, h⟩ := g_ltd h
  refine g_putI (pc := 2) wfX12_57 rfl rfl rfl rfl e48 dX12_text_2 ?_
  refine g_iload_n (pc := 5) dX12_text_5 rfl 1 rfl ?_
  refine g_i2l (pc := 6) dX12_text_6 ?_
  refine g_lconst (pc := 7) (v := 0) dX12_text_7 (by decide) ?_
  refine g_lconst (pc := 8) (v := 1) dX12_text_8 (by decide) ?_
  obtain ⟨r51, σ50, h49, h⟩ := g_bId h
  refine g_callSi (pc := 9) (st := []) hE.1 wsX12_117 (kX12_isIn hE v1.toInt64 0 1 σ47 h49) rfl (gR_ok (by decide) (by decide)) (Nat.le_of_ble_eq_true rfl) rfl dX12_text_9 ?_
  refine g_if_eq (pc := 12) (tgt := 37) dX12_text_12 (by decide) (fun c52 => ?_) (fun c52 => ?_)
  · have h := g_ift c52 h
    refine g_iconst (pc := 37) (v := (-1)) dX12_text_37 (by decide) ?_
    cases h
    exact g_iret (pc := 38) rfl rfl rfl rfl dX12_text_38
  · have h := g_iff c52 h
    refine g_iload_n (pc := 15) dX12_text_15 rfl 1 rfl ?_
    refine g_iconst (pc := 16) (v := 1) dX12_text_16 (by decide) ?_
    refine g_icmp_ne (pc := 17) (tgt := 28) dX12_text_17 (by decide) (fun c53 => ?_) (fun c53 => ?_)
    · have h := g_iff c53 h
      exact g_lv [0, 1] rfl (tX12_text_b28 hE n v1 σ50 h)
    · have h := g_ift c53 h
      refine g_aload_n (pc := 20) dX12_text_20 rfl 0 rfl ?_
      refine g_getI (pc := 21) wfX12_188 rfl rfl dX12_text_21 ?_
      refine g_iconst (pc := 24) (v := 4) dX12_text_24 (by decide) ?_
      refine g_icmp_eq (pc := 25) (tgt := 37) dX12_text_25 (by decide) (fun c54 => ?_) (fun c54 => ?_)
      · have h := g_ift c54 h
        refine g_iconst (pc := 37) (v := (-1)) dX12_text_37 (by decide) ?_
        cases h
        exact g_iret (pc := 38) rfl rfl rfl rfl dX12_text_38
      · have h := g_iff c54 h
        exact g_lv [0, 1] rfl (tX12_text_b28 hE n v1 σ50 h)
def fX12_copyRow_b3 (n : Nat) (w : Nat) (nw : Nat) (u : Nat) (nu : Nat) (K3 : Int32 → Int32 → Int32 → gM → Option (gM)) (v1 : Int32) (v3 : Int32) (v4 : Int32) (σ : gM) : Option (gM) := if 616 ≤ v4 then (some σ) else (if ¬ ((v1 + v4) < 0 ∨ nw ≤ (v1 + v4).toNatClampNeg) then (if ¬ ((v3 + v4) < 0 ∨ nu ≤ (v3 + v4).toNatClampNeg) then (g_let (g_put σ u ((v3 + v4).toNatClampNeg) (σ.1 w ((v1 + v4).toNatClampNeg))) (fun σ9 => K3 v1 v3 (v4 + 1) σ9)) else none) else none)
set_option maxRecDepth 100000 in
theorem tX12_copyRow_b3 (hE : gEM l dC dI ad ca X) {σ' : gM} (n : Nat) (w : Nat) (nw : Nat) (hw : shM[w]? = some (.inl (.int, nw))) (u : Nat) (nu : Nat) (hu : shM[u]? = some (.inl (.int, nu))) (K3 : Int32 → Int32 → Int32 → gM → Option (gM)) (hK3 : ∀ (v1 : Int32) (v3 : Int32) (v4 : Int32) (σ : gM), K3 v1 v3 v4 σ = some σ' → g_G l dC dI ad ca shM X cX12_copyRow 5 RX12 none (gR 0) none σ' 3 [(0, .ref w), (1, .int v1), (2, .ref u), (3, .int v3), (4, .int v4)] [] σ) (v1 : Int32) (v3 : Int32) (v4 : Int32)  (σ : gM) (h : fX12_copyRow_b3 n w nw u nu K3 v1 v3 v4 σ = some σ') : g_G l dC dI ad ca shM X cX12_copyRow 5 RX12 none (gR 0) none σ' 3 [(0, .ref w), (1, .int v1), (2, .ref u), (3, .int v3), (4, .int v4)] [] σ := by
  unfold fX12_copyRow_b3 at h
  refine g_iload (pc := 3) dX12_copyRow_3 4 rfl ?_
  refine g_sipush (pc := 5) (v := 616) dX12_copyRow_5 (by decide) ?_
  refine g_icmp_ge (pc := 8) (tgt := 29) dX12_copyRow_8 (by decide) (fun c6 => ?_) (fun c6 => ?_)
  · have h := g_ift c6 h
    cases h
    exact g_vret (pc := 29) rfl rfl rfl dX12_copyRow_29
  · have h := g_iff c6 h
    refine g_aload_n (pc := 11) dX12_copyRow_11 rfl 2 rfl ?_
    refine g_iload_n (pc := 12) dX12_copyRow_12 rfl 3 rfl ?_
    refine g_iload (pc := 13) dX12_copyRow_13 4 rfl ?_
    refine g_iadd (pc := 15) dX12_copyRow_15 ?_
    refine g_aload_n (pc := 16) dX12_copyRow_16 rfl 0 rfl ?_
    refine g_iload_n (pc := 17) dX12_copyRow_17 rfl 1 rfl ?_
    refine g_iload (pc := 18) dX12_copyRow_18 4 rfl ?_
    refine g_iadd (pc := 20) dX12_copyRow_20 ?_
    obtain ⟨c7, h⟩ := g_gd h
    refine g_iald (pc := 21) hw c7 rfl dX12_copyRow_21 ?_
    obtain ⟨c8, h⟩ := g_gd h
    obtain ⟨σ9, e10, h⟩ := g_ltd h
    refine g_iast (pc := 22) hu c8 rfl e10 dX12_copyRow_22 ?_
    refine g_iinc (pc := 23) (v := v4 + 1) (lv1 := [(4, .int (v4 + 1)), (0, .ref w), (1, .int v1), (2, .ref u), (3, .int v3)]) dX12_copyRow_23 4 rfl rfl (by decide) rfl ?_
    refine g_goto (pc := 26) (tgt := 3) dX12_copyRow_26 (by decide) ?_
    exact g_lv [1, 2, 3, 4, 0] rfl (hK3 v1 v3 (v4 + 1) σ9 h)
def fX12_copyRow_L3 (n : Nat) (w : Nat) (nw : Nat) (u : Nat) (nu : Nat) : Nat → Int32 → Int32 → Int32 → gM → Option (gM)
  | 0 => fun _ _ _ _ => none
  | k + 1 => fX12_copyRow_b3 n w nw u nu (fX12_copyRow_L3 n w nw u nu k)
theorem tX12_copyRow_L3 (hE : gEM l dC dI ad ca X) {σ' : gM} (n : Nat) (w : Nat) (nw : Nat) (hw : shM[w]? = some (.inl (.int, nw))) (u : Nat) (nu : Nat) (hu : shM[u]? = some (.inl (.int, nu)))  : ∀ (k : Nat) (v1 : Int32) (v3 : Int32) (v4 : Int32) (σ : gM), fX12_copyRow_L3 n w nw u nu k v1 v3 v4 σ = some σ' → g_G l dC dI ad ca shM X cX12_copyRow 5 RX12 none (gR 0) none σ' 3 [(0, .ref w), (1, .int v1), (2, .ref u), (3, .int v3), (4, .int v4)] [] σ := by
  intro k
  induction k with
  | zero => intro v1 v3 v4 σ h; cases h
  | succ k ih => intro v1 v3 v4 σ h; exact tX12_copyRow_b3 hE n w nw hw u nu hu (fX12_copyRow_L3 n w nw u nu k) ih v1 v3 v4 σ h
def fX12_copyRow (n : Nat) (w : Nat) (nw : Nat) (u : Nat) (nu : Nat) (v1 : Int32) (v3 : Int32) (σ : gM) : Option (gM) := fX12_copyRow_L3 n w nw u nu n v1 v3 0 σ
set_option maxRecDepth 100000 in
theorem kX12_copyRow (hE : gEM l dC dI ad ca X) (n : Nat) (w : Nat) (nw : Nat) (hw : shM[w]? = some (.inl (.int, nw))) (u : Nat) (nu : Nat) (hu : shM[u]? = some (.inl (.int, nu)))  (v1 : Int32) (v3 : Int32) (σ : gM) {σ' : gM} (h : fX12_copyRow n w nw u nu v1 v3 σ = some σ') : g_C l dC dI ad ca shM X yX12_copyRow cX12_copyRow 5 none (gR 0) [.ref w, .int v1, .ref u, .int v3] σ none σ' := by
  refine g_entry (by decide +kernel) (Nat.le_of_ble_eq_true rfl) ?_
  refine g_lvE (lv1 := [(0, .ref w), (1, .int v1), (2, .ref u), (3, .int v3)]) rfl ?_
  unfold fX12_copyRow at h
  refine g_iconst (pc := 0) (v := 0) dX12_copyRow_0 (by decide) ?_
  refine g_istore (pc := 1) (lv1 := [(4, .int 0), (0, .ref w), (1, .int v1), (2, .ref u), (3, .int v3)]) dX12_copyRow_1 (by decide) rfl ?_
  exact g_lv [1, 2, 3, 4, 0] rfl (tX12_copyRow_L3 hE n w nw hw u nu hu n v1 v3 0 σ h)
def fX12_roleOf (v1 : Int32) (v2 : Int32) (σ : gM) : Option (Int32 × gM) := g_bI (fX12_pDisk v1 σ) (fun r9 σ8 => if (σ8.1 0 13) = 0 then none else (if (((v2 - r9) + (σ8.1 0 13)) - ((v2 - r9) + (σ8.1 0 13)) / (σ8.1 0 13) * (σ8.1 0 13)) = 0 then (some (σ8.1 3 0, σ8)) else (if (((v2 - r9) + (σ8.1 0 13)) - ((v2 - r9) + (σ8.1 0 13)) / (σ8.1 0 13) * (σ8.1 0 13)) = 1 then (some ((σ8.1 3 0) + 1, σ8)) else (some ((((v2 - r9) + (σ8.1 0 13)) - ((v2 - r9) + (σ8.1 0 13)) / (σ8.1 0 13) * (σ8.1 0 13)) - 2, σ8)))))
set_option maxRecDepth 100000 in
theorem kX12_roleOf (hE : gEM l dC dI ad ca X)  (v1 : Int32) (v2 : Int32) (σ : gM) {r0 : Int32} {σ' : gM} (h : fX12_roleOf v1 v2 σ = some (r0, σ')) : g_C l dC dI ad ca shM X yX12_roleOf cX12_roleOf 4 (some .int) (gR 1) [.ref 0, .int v1, .int v2] σ (some (.int r0)) σ' := by
  refine g_entry (by decide +kernel) (Nat.le_of_ble_eq_true rfl) ?_
  refine g_lvE (lv1 := [(0, .ref 0), (1, .int v1), (2, .int v2)]) rfl ?_
  unfold fX12_roleOf at h
  refine g_iload_n (pc := 0) dX12_roleOf_0 rfl 2 rfl ?_
  refine g_aload_n (pc := 1) dX12_roleOf_1 rfl 0 rfl ?_
  refine g_iload_n (pc := 2) dX12_roleOf_2 rfl 1 rfl ?_
  obtain ⟨r9, σ8, h7, h⟩ := g_bId h
  refine g_callVi (pc := 3) (st := [.int v2]) hE.1 wvX12_196 rfl rfl (kX12_pDisk hE v1 σ h7) rfl (gR_ok (by decide) (by decide)) (Nat.le_of_ble_eq_true rfl) rfl dX12_roleOf_3 ?_
  refine g_isub (pc := 6) dX12_roleOf_6 ?_
  refine g_aload_n (pc := 7) dX12_roleOf_7 rfl 0 rfl ?_
  refine g_getI (pc := 8) wfX12_171 rfl rfl dX12_roleOf_8 ?_
  refine g_iadd (pc := 11) dX12_roleOf_11 ?_
  refine g_aload_n (pc := 12) dX12_roleOf_12 rfl 0 rfl ?_
  refine g_getI (pc := 13) wfX12_171 rfl rfl dX12_roleOf_13 ?_
  obtain ⟨c10, h⟩ := g_gn h
  refine g_irem (pc := 16) dX12_roleOf_16 c10 ?_
  refine g_istore_n (pc := 17) (lv1 := [(3, .int (((v2 - r9) + (σ8.1 0 13)) - ((v2 - r9) + (σ8.1 0 13)) / (σ8.1 0 13) * (σ8.1 0 13))), (0, .ref 0), (1, .int v1), (2, .int v2)]) dX12_roleOf_17 rfl (by decide) rfl ?_
  refine g_iload_n (pc := 18) dX12_roleOf_18 rfl 0 rfl ?_
  refine g_if_ne (pc := 19) (tgt := 31) dX12_roleOf_19 (by decide) (fun c11 => ?_) (fun c11 => ?_)
  · have h := g_iff c11 h
    refine g_iload_n (pc := 31) dX12_roleOf_31 rfl 0 rfl ?_
    refine g_iconst (pc := 32) (v := 1) dX12_roleOf_32 (by decide) ?_
    refine g_icmp_ne (pc := 33) (tgt := 47) dX12_roleOf_33 (by decide) (fun c12 => ?_) (fun c12 => ?_)
    · have h := g_iff c12 h
      refine g_iload_n (pc := 47) dX12_roleOf_47 rfl 0 rfl ?_
      refine g_iconst (pc := 48) (v := 2) dX12_roleOf_48 (by decide) ?_
      refine g_isub (pc := 49) dX12_roleOf_49 ?_
      cases h
      exact g_iret (pc := 50) rfl rfl rfl rfl dX12_roleOf_50
    · have h := g_ift c12 h
      refine g_aload_n (pc := 36) dX12_roleOf_36 rfl 1 rfl ?_
      refine g_getR (pc := 37) wfX12_17 rfl rfl dX12_roleOf_37 ?_
      refine g_iconst (pc := 40) (v := 0) dX12_roleOf_40 (by decide) ?_
      refine g_iald (pc := 41) rfl (by decide) (j := 0) (by decide) dX12_roleOf_41 ?_
      refine g_iconst (pc := 42) (v := 1) dX12_roleOf_42 (by decide) ?_
      refine g_iadd (pc := 43) dX12_roleOf_43 ?_
      refine g_goto (pc := 44) (tgt := 50) dX12_roleOf_44 (by decide) ?_
      cases h
      exact g_iret (pc := 50) rfl rfl rfl rfl dX12_roleOf_50
  · have h := g_ift c11 h
    refine g_aload_n (pc := 22) dX12_roleOf_22 rfl 1 rfl ?_
    refine g_getR (pc := 23) wfX12_17 rfl rfl dX12_roleOf_23 ?_
    refine g_iconst (pc := 26) (v := 0) dX12_roleOf_26 (by decide) ?_
    refine g_iald (pc := 27) rfl (by decide) (j := 0) (by decide) dX12_roleOf_27 ?_
    refine g_goto (pc := 28) (tgt := 50) dX12_roleOf_28 (by decide) ?_
    cases h
    exact g_iret (pc := 50) rfl rfl rfl rfl dX12_roleOf_50
def fX12_reads (n : Nat) (w : Nat) (v2 : Int32) (σ : gM) : Option (Int32 × gM) := g_bI (fX12_stripeOf v2 σ) (fun r17 σ16 => g_bI (fX12_byteOf v2 σ16) (fun r20 σ19 => g_bV (fX12_lays n w r17 r20 (-1) (-1) σ19) (fun σ22 => g_bV (fX12_solves n σ22) (fun σ24 => g_bI (fX12_partOf v2 σ24) (fun r27 σ26 => if ¬ (r27 < 0 ∨ 8 ≤ r27.toNatClampNeg) then (some (σ26.1 14 r27.toNatClampNeg, σ26)) else none)))))
set_option maxRecDepth 100000 in
theorem kX12_reads (hE : gEM l dC dI ad ca X) (n : Nat) (w : Nat) (hw : shM[w]? = some (.inl (.int, 616)))  (v2 : Int32) (σ : gM) {r0 : Int32} {σ' : gM} (h : fX12_reads n w v2 σ = some (r0, σ')) : g_C l dC dI ad ca shM X yX12_reads cX12_reads 3 (some .int) (gR 3) [.ref 0, .ref w, .int v2] σ (some (.int r0)) σ' := by
  refine g_entry (by decide +kernel) (Nat.le_of_ble_eq_true rfl) ?_
  refine g_lvE (lv1 := [(0, .ref 0), (1, .ref w), (2, .int v2)]) rfl ?_
  unfold fX12_reads at h
  refine g_aload_n (pc := 0) dX12_reads_0 rfl 0 rfl ?_
  refine g_aload_n (pc := 1) dX12_reads_1 rfl 1 rfl ?_
  refine g_aload_n (pc := 2) dX12_reads_2 rfl 0 rfl ?_
  refine g_iload_n (pc := 3) dX12_reads_3 rfl 2 rfl ?_
  obtain ⟨r17, σ16, h15, h⟩ := g_bId h
  refine g_callVi (pc := 4) (st := [.ref w, .ref 0]) hE.1 wvX12_217 rfl rfl (kX12_stripeOf hE v2 σ h15) rfl (gR_ok (by decide) (by decide)) (Nat.le_of_ble_eq_true rfl) rfl dX12_reads_4 ?_
  refine g_aload_n (pc := 7) dX12_reads_7 rfl 0 rfl ?_
  refine g_iload_n (pc := 8) dX12_reads_8 rfl 2 rfl ?_
  obtain ⟨r20, σ19, h18, h⟩ := g_bId h
  refine g_callVi (pc := 9) (st := [.int r17, .ref w, .ref 0]) hE.1 wvX12_220 rfl rfl (kX12_byteOf hE v2 σ16 h18) rfl (gR_ok (by decide) (by decide)) (Nat.le_of_ble_eq_true rfl) rfl dX12_reads_9 ?_
  refine g_iconst (pc := 12) (v := (-1)) dX12_reads_12 (by decide) ?_
  refine g_iconst (pc := 13) (v := (-1)) dX12_reads_13 (by decide) ?_
  obtain ⟨σ22, h21, h⟩ := g_bVd h
  refine g_callVv (pc := 14) (st := []) hE.1 wvX12_223 rfl rfl (kX12_lays hE n w hw r17 r20 (-1) (-1) σ19 h21) rfl (gR_ok (by decide) (by decide)) (Nat.le_of_ble_eq_true rfl) rfl dX12_reads_14 ?_
  refine g_aload_n (pc := 17) dX12_reads_17 rfl 0 rfl ?_
  obtain ⟨σ24, h23, h⟩ := g_bVd h
  refine g_callVv (pc := 18) (st := []) hE.1 wvX12_227 rfl rfl (kX12_solves hE n σ22 h23) rfl (gR_ok (by decide) (by decide)) (Nat.le_of_ble_eq_true rfl) rfl dX12_reads_18 ?_
  refine g_aload_n (pc := 21) dX12_reads_21 rfl 0 rfl ?_
  refine g_getR (pc := 22) wfX12_50 rfl rfl dX12_reads_22 ?_
  refine g_aload_n (pc := 25) dX12_reads_25 rfl 0 rfl ?_
  refine g_iload_n (pc := 26) dX12_reads_26 rfl 2 rfl ?_
  obtain ⟨r27, σ26, h25, h⟩ := g_bId h
  refine g_callVi (pc := 27) (st := [.ref 14]) hE.1 wvX12_230 rfl rfl (kX12_partOf hE v2 σ24 h25) rfl (gR_ok (by decide) (by decide)) (Nat.le_of_ble_eq_true rfl) rfl dX12_reads_27 ?_
  obtain ⟨c28, h⟩ := g_gd h
  refine g_iald (pc := 30) rfl c28 rfl dX12_reads_30 ?_
  cases h
  exact g_iret (pc := 31) rfl rfl rfl rfl dX12_reads_31
def fX12_wrong_b49 (n : Nat) (v1 : Int32) (v2 : Int32) (v3 : Int32) (σ : gM) : Option (Int32 × gM) := if v3 = 0 then (some (v1, σ)) else (if v2 = 0 then (some (v1 + 1, σ)) else (g_bI (fX12_quotient v3 v2 σ) (fun r22 σ21 => if ¬ (r22 < 0 ∨ 256 ≤ r22.toNatClampNeg) then (if v1 ≤ (σ21.1 9 r22.toNatClampNeg) then (some ((-2), σ21)) else (some (σ21.1 9 r22.toNatClampNeg, σ21))) else none)))
set_option maxRecDepth 100000 in
theorem tX12_wrong_b49 (hE : gEM l dC dI ad ca X) {r0 : Int32} {σ' : gM} (n : Nat) (v1 : Int32) (v2 : Int32) (v3 : Int32)  (σ : gM) (h : fX12_wrong_b49 n v1 v2 v3 σ = some (r0, σ')) : g_G l dC dI ad ca shM X cX12_wrong 5 RX12 (some .int) (gR 2) (some (.int r0)) σ' 49 [(0, .ref 0), (1, .int v1), (2, .int v2), (3, .int v3)] [] σ := by
  unfold fX12_wrong_b49 at h
  refine g_iload_n (pc := 49) dX12_wrong_49 rfl 3 rfl ?_
  refine g_if_ne (pc := 50) (tgt := 55) dX12_wrong_50 (by decide) (fun c18 => ?_) (fun c18 => ?_)
  · have h := g_iff c18 h
    refine g_iload_n (pc := 55) dX12_wrong_55 rfl 2 rfl ?_
    refine g_if_ne (pc := 56) (tgt := 63) dX12_wrong_56 (by decide) (fun c19 => ?_) (fun c19 => ?_)
    · have h := g_iff c19 h
      refine g_aload_n (pc := 63) dX12_wrong_63 rfl 0 rfl ?_
      refine g_getR (pc := 64) wfX12_35 rfl rfl dX12_wrong_64 ?_
      refine g_aload_n (pc := 67) dX12_wrong_67 rfl 0 rfl ?_
      refine g_iload_n (pc := 68) dX12_wrong_68 rfl 3 rfl ?_
      refine g_iload_n (pc := 69) dX12_wrong_69 rfl 2 rfl ?_
      obtain ⟨r22, σ21, h20, h⟩ := g_bId h
      refine g_callVi (pc := 70) (st := [.ref 9]) hE.1 wvX12_164 rfl rfl (kX12_quotient hE v3 v2 σ h20) rfl (gR_ok (by decide) (by decide)) (Nat.le_of_ble_eq_true rfl) rfl dX12_wrong_70 ?_
      obtain ⟨c23, h⟩ := g_gd h
      refine g_iald (pc := 73) rfl c23 rfl dX12_wrong_73 ?_
      refine g_istore (pc := 74) (lv1 := [(4, .int (σ21.1 9 r22.toNatClampNeg)), (0, .ref 0), (1, .int v1), (2, .int v2), (3, .int v3)]) dX12_wrong_74 (by decide) rfl ?_
      refine g_iload (pc := 76) dX12_wrong_76 0 rfl ?_
      refine g_iload_n (pc := 78) dX12_wrong_78 rfl 2 rfl ?_
      refine g_icmp_ge (pc := 79) (tgt := 87) dX12_wrong_79 (by decide) (fun c24 => ?_) (fun c24 => ?_)
      · have h := g_ift c24 h
        refine g_bipush (pc := 87) (v := (-2)) dX12_wrong_87 (by decide) ?_
        cases h
        exact g_iret (pc := 89) rfl rfl rfl rfl dX12_wrong_89
      · have h := g_iff c24 h
        refine g_iload (pc := 82) dX12_wrong_82 0 rfl ?_
        refine g_goto (pc := 84) (tgt := 89) dX12_wrong_84 (by decide) ?_
        cases h
        exact g_iret (pc := 89) rfl rfl rfl rfl dX12_wrong_89
    · have h := g_ift c19 h
      refine g_iload_n (pc := 59) dX12_wrong_59 rfl 1 rfl ?_
      refine g_iconst (pc := 60) (v := 1) dX12_wrong_60 (by decide) ?_
      refine g_iadd (pc := 61) dX12_wrong_61 ?_
      cases h
      exact g_iret (pc := 62) rfl rfl rfl rfl dX12_wrong_62
  · have h := g_ift c18 h
    refine g_iload_n (pc := 53) dX12_wrong_53 rfl 1 rfl ?_
    cases h
    exact g_iret (pc := 54) rfl rfl rfl rfl dX12_wrong_54
def fX12_wrong (n : Nat) (σ : gM) : Option (Int32 × gM) := if ¬ ((σ.1 3 0) < 0 ∨ 8 ≤ (σ.1 3 0).toNatClampNeg) then (g_bI (fX12_sum n 0 (-1) (-1) σ) (fun r28 σ27 => if ¬ (((σ.1 3 0) + 1) < 0 ∨ 8 ≤ ((σ.1 3 0) + 1).toNatClampNeg) then (g_bI (fX12_sum n 1 (-1) (-1) σ27) (fun r32 σ31 => if ((σ.1 14 ((σ.1 3 0).toNatClampNeg)) ^^^ r28) = 0 then (if ((σ27.1 14 (((σ.1 3 0) + 1).toNatClampNeg)) ^^^ r32) = 0 then (some ((-1), σ31)) else (fX12_wrong_b49 n (σ.1 3 0) ((σ.1 14 ((σ.1 3 0).toNatClampNeg)) ^^^ r28) ((σ27.1 14 (((σ.1 3 0) + 1).toNatClampNeg)) ^^^ r32) σ31)) else (fX12_wrong_b49 n (σ.1 3 0) ((σ.1 14 ((σ.1 3 0).toNatClampNeg)) ^^^ r28) ((σ27.1 14 (((σ.1 3 0) + 1).toNatClampNeg)) ^^^ r32) σ31))) else none)) else none
set_option maxRecDepth 100000 in
theorem kX12_wrong (hE : gEM l dC dI ad ca X) (n : Nat)  (σ : gM) {r0 : Int32} {σ' : gM} (h : fX12_wrong n σ = some (r0, σ')) : g_C l dC dI ad ca shM X yX12_wrong cX12_wrong 5 (some .int) (gR 2) [.ref 0] σ (some (.int r0)) σ' := by
  refine g_entry (by decide +kernel) (Nat.le_of_ble_eq_true rfl) ?_
  refine g_lvE (lv1 := [(0, .ref 0)]) rfl ?_
  unfold fX12_wrong at h
  refine g_aload_n (pc := 0) dX12_wrong_0 rfl 0 rfl ?_
  refine g_getR (pc := 1) wfX12_17 rfl rfl dX12_wrong_1 ?_
  refine g_iconst (pc := 4) (v := 0) dX12_wrong_4 (by decide) ?_
  refine g_iald (pc := 5) rfl (by decide) (j := 0) (by decide) dX12_wrong_5 ?_
  refine g_istore_n (pc := 6) (lv1 := [(1, .int (σ.1 3 0)), (0, .ref 0)]) dX12_wrong_6 rfl (by decide) rfl ?_
  refine g_aload_n (pc := 7) dX12_wrong_7 rfl 1 rfl ?_
  refine g_getR (pc := 8) wfX12_50 rfl rfl dX12_wrong_8 ?_
  refine g_iload_n (pc := 11) dX12_wrong_11 rfl 0 rfl ?_
  obtain ⟨c25, h⟩ := g_gd h
  refine g_iald (pc := 12) rfl c25 rfl dX12_wrong_12 ?_
  refine g_aload_n (pc := 13) dX12_wrong_13 rfl 1 rfl ?_
  refine g_iconst (pc := 14) (v := 0) dX12_wrong_14 (by decide) ?_
  refine g_iconst (pc := 15) (v := (-1)) dX12_wrong_15 (by decide) ?_
  refine g_iconst (pc := 16) (v := (-1)) dX12_wrong_16 (by decide) ?_
  obtain ⟨r28, σ27, h26, h⟩ := g_bId h
  refine g_callVi (pc := 17) (st := [.int (σ.1 14 ((σ.1 3 0).toNatClampNeg))]) hE.1 wvX12_213 rfl rfl (kX12_sum hE n 0 (-1) (-1) σ h26) rfl (gR_ok (by decide) (by decide)) (Nat.le_of_ble_eq_true rfl) rfl dX12_wrong_17 ?_
  refine g_ixor (pc := 20) dX12_wrong_20 ?_
  refine g_istore_n (pc := 21) (lv1 := [(2, .int ((σ.1 14 ((σ.1 3 0).toNatClampNeg)) ^^^ r28)), (1, .int (σ.1 3 0)), (0, .ref 0)]) dX12_wrong_21 rfl (by decide) rfl ?_
  refine g_aload_n (pc := 22) dX12_wrong_22 rfl 2 rfl ?_
  refine g_getR (pc := 23) wfX12_50 rfl rfl dX12_wrong_23 ?_
  refine g_iload_n (pc := 26) dX12_wrong_26 rfl 1 rfl ?_
  refine g_iconst (pc := 27) (v := 1) dX12_wrong_27 (by decide) ?_
  refine g_iadd (pc := 28) dX12_wrong_28 ?_
  obtain ⟨c29, h⟩ := g_gd h
  refine g_iald (pc := 29) rfl c29 rfl dX12_wrong_29 ?_
  refine g_aload_n (pc := 30) dX12_wrong_30 rfl 2 rfl ?_
  refine g_iconst (pc := 31) (v := 1) dX12_wrong_31 (by decide) ?_
  refine g_iconst (pc := 32) (v := (-1)) dX12_wrong_32 (by decide) ?_
  refine g_iconst (pc := 33) (v := (-1)) dX12_wrong_33 (by decide) ?_
  obtain ⟨r32, σ31, h30, h⟩ := g_bId h
  refine g_callVi (pc := 34) (st := [.int (σ27.1 14 (((σ.1 3 0) + 1).toNatClampNeg))]) hE.1 wvX12_213 rfl rfl (kX12_sum hE n 1 (-1) (-1) σ27 h30) rfl (gR_ok (by decide) (by decide)) (Nat.le_of_ble_eq_true rfl) rfl dX12_wrong_34 ?_
  refine g_ixor (pc := 37) dX12_wrong_37 ?_
  refine g_istore_n (pc := 38) (lv1 := [(3, .int ((σ27.1 14 (((σ.1 3 0) + 1).toNatClampNeg)) ^^^ r32)), (2, .int ((σ.1 14 ((σ.1 3 0).toNatClampNeg)) ^^^ r28)), (1, .int (σ.1 3 0)), (0, .ref 0)]) dX12_wrong_38 rfl (by decide) rfl ?_
  refine g_iload_n (pc := 39) dX12_wrong_39 rfl 1 rfl ?_
  refine g_if_ne (pc := 40) (tgt := 49) dX12_wrong_40 (by decide) (fun c33 => ?_) (fun c33 => ?_)
  · have h := g_iff c33 h
    exact g_lv [3, 2, 1, 0] rfl (tX12_wrong_b49 hE n (σ.1 3 0) ((σ.1 14 ((σ.1 3 0).toNatClampNeg)) ^^^ r28) ((σ27.1 14 (((σ.1 3 0) + 1).toNatClampNeg)) ^^^ r32) σ31 h)
  · have h := g_ift c33 h
    refine g_iload_n (pc := 43) dX12_wrong_43 rfl 0 rfl ?_
    refine g_if_ne (pc := 44) (tgt := 49) dX12_wrong_44 (by decide) (fun c34 => ?_) (fun c34 => ?_)
    · have h := g_iff c34 h
      exact g_lv [3, 2, 1, 0] rfl (tX12_wrong_b49 hE n (σ.1 3 0) ((σ.1 14 ((σ.1 3 0).toNatClampNeg)) ^^^ r28) ((σ27.1 14 (((σ.1 3 0) + 1).toNatClampNeg)) ^^^ r32) σ31 h)
    · have h := g_ift c34 h
      refine g_iconst (pc := 47) (v := (-1)) dX12_wrong_47 (by decide) ?_
      cases h
      exact g_iret (pc := 48) rfl rfl rfl rfl dX12_wrong_48
def fX12_isAll_b2 (n : Nat) (w : Nat) (K2 : Int32 → Int32 → gM → Option (Int32 × gM)) (v2 : Int32) (v3 : Int32) (σ : gM) : Option (Int32 × gM) := if (σ.1 0 13) ≤ v3 then (some (1, σ)) else (g_bI (fX12_isThere w v3 v2 σ) (fun r9 σ8 => if r9 = 0 then (some (0, σ8)) else (K2 v2 (v3 + 1) σ8)))
set_option maxRecDepth 100000 in
theorem tX12_isAll_b2 (hE : gEM l dC dI ad ca X) {r0 : Int32} {σ' : gM} (n : Nat) (w : Nat) (hw : shM[w]? = some (.inl (.int, 616))) (K2 : Int32 → Int32 → gM → Option (Int32 × gM)) (hK2 : ∀ (v2 : Int32) (v3 : Int32) (σ : gM), K2 v2 v3 σ = some (r0, σ') → g_G l dC dI ad ca shM X cX12_isAll 4 RX12 (some .boolean) (gR 1) (some (.int r0)) σ' 2 [(0, .ref 0), (1, .ref w), (2, .int v2), (3, .int v3)] [] σ) (v2 : Int32) (v3 : Int32)  (σ : gM) (h : fX12_isAll_b2 n w K2 v2 v3 σ = some (r0, σ')) : g_G l dC dI ad ca shM X cX12_isAll 4 RX12 (some .boolean) (gR 1) (some (.int r0)) σ' 2 [(0, .ref 0), (1, .ref w), (2, .int v2), (3, .int v3)] [] σ := by
  unfold fX12_isAll_b2 at h
  refine g_iload_n (pc := 2) dX12_isAll_2 rfl 3 rfl ?_
  refine g_aload_n (pc := 3) dX12_isAll_3 rfl 0 rfl ?_
  refine g_getI (pc := 4) wfX12_171 rfl rfl dX12_isAll_4 ?_
  refine g_icmp_ge (pc := 7) (tgt := 27) dX12_isAll_7 (by decide) (fun c6 => ?_) (fun c6 => ?_)
  · have h := g_ift c6 h
    refine g_iconst (pc := 27) (v := 1) dX12_isAll_27 (by decide) ?_
    cases h
    exact g_iret (pc := 28) rfl (by decide) rfl rfl dX12_isAll_28
  · have h := g_iff c6 h
    refine g_aload_n (pc := 10) dX12_isAll_10 rfl 1 rfl ?_
    refine g_iload_n (pc := 11) dX12_isAll_11 rfl 3 rfl ?_
    refine g_iload_n (pc := 12) dX12_isAll_12 rfl 2 rfl ?_
    obtain ⟨r9, σ8, h7, h⟩ := g_bId h
    refine g_callSi (pc := 13) (st := []) hE.1 wsX12_202 (kX12_isThere hE w hw v3 v2 σ h7) rfl (gR_ok (by decide) (by decide)) (Nat.le_of_ble_eq_true rfl) rfl dX12_isAll_13 ?_
    refine g_if_ne (pc := 16) (tgt := 21) dX12_isAll_16 (by decide) (fun c10 => ?_) (fun c10 => ?_)
    · have h := g_iff c10 h
      refine g_iinc (pc := 21) (v := v3 + 1) (lv1 := [(3, .int (v3 + 1)), (0, .ref 0), (1, .ref w), (2, .int v2)]) dX12_isAll_21 3 rfl rfl (by decide) rfl ?_
      refine g_goto (pc := 24) (tgt := 2) dX12_isAll_24 (by decide) ?_
      exact g_lv [1, 2, 3, 0] rfl (hK2 v2 (v3 + 1) σ8 h)
    · have h := g_ift c10 h
      refine g_iconst (pc := 19) (v := 0) dX12_isAll_19 (by decide) ?_
      cases h
      exact g_iret (pc := 20) rfl (by decide) rfl rfl dX12_isAll_20
def fX12_isAll_L2 (n : Nat) (w : Nat) : Nat → Int32 → Int32 → gM → Option (Int32 × gM)
  | 0 => fun _ _ _ => none
  | k + 1 => fX12_isAll_b2 n w (fX12_isAll_L2 n w k)
theorem tX12_isAll_L2 (hE : gEM l dC dI ad ca X) {r0 : Int32} {σ' : gM} (n : Nat) (w : Nat) (hw : shM[w]? = some (.inl (.int, 616)))  : ∀ (k : Nat) (v2 : Int32) (v3 : Int32) (σ : gM), fX12_isAll_L2 n w k v2 v3 σ = some (r0, σ') → g_G l dC dI ad ca shM X cX12_isAll 4 RX12 (some .boolean) (gR 1) (some (.int r0)) σ' 2 [(0, .ref 0), (1, .ref w), (2, .int v2), (3, .int v3)] [] σ := by
  intro k
  induction k with
  | zero => intro v2 v3 σ h; cases h
  | succ k ih => intro v2 v3 σ h; exact tX12_isAll_b2 hE n w hw (fX12_isAll_L2 n w k) ih v2 v3 σ h
def fX12_isAll (n : Nat) (w : Nat) (v2 : Int32) (σ : gM) : Option (Int32 × gM) := fX12_isAll_L2 n w n v2 0 σ
set_option maxRecDepth 100000 in
theorem kX12_isAll (hE : gEM l dC dI ad ca X) (n : Nat) (w : Nat) (hw : shM[w]? = some (.inl (.int, 616)))  (v2 : Int32) (σ : gM) {r0 : Int32} {σ' : gM} (h : fX12_isAll n w v2 σ = some (r0, σ')) : g_C l dC dI ad ca shM X yX12_isAll cX12_isAll 4 (some .boolean) (gR 1) [.ref 0, .ref w, .int v2] σ (some (.int r0)) σ' := by
  refine g_entry (by decide +kernel) (Nat.le_of_ble_eq_true rfl) ?_
  refine g_lvE (lv1 := [(0, .ref 0), (1, .ref w), (2, .int v2)]) rfl ?_
  unfold fX12_isAll at h
  refine g_iconst (pc := 0) (v := 0) dX12_isAll_0 (by decide) ?_
  refine g_istore_n (pc := 1) (lv1 := [(3, .int 0), (0, .ref 0), (1, .ref w), (2, .int v2)]) dX12_isAll_1 rfl (by decide) rfl ?_
  exact g_lv [1, 2, 3, 0] rfl (tX12_isAll_L2 hE n w hw n v2 0 σ h)
def fX12_isDirty (w : Nat) (v1 : Int32) (σ : gM) : Option (Int32 × gM) := if (((σ.1 w 425) >>> (v1 &&& 31)) &&& 1) = 1 then (some (1, σ)) else (some (0, σ))
set_option maxRecDepth 100000 in
theorem kX12_isDirty (hE : gEM l dC dI ad ca X) (w : Nat) (hw : shM[w]? = some (.inl (.int, 616)))  (v1 : Int32) (σ : gM) {r0 : Int32} {σ' : gM} (h : fX12_isDirty w v1 σ = some (r0, σ')) : g_C l dC dI ad ca shM X yX12_isDirty cX12_isDirty 2 (some .boolean) (gR 0) [.ref w, .int v1] σ (some (.int r0)) σ' := by
  refine g_entry (by decide +kernel) (Nat.le_of_ble_eq_true rfl) ?_
  refine g_lvE (lv1 := [(0, .ref w), (1, .int v1)]) rfl ?_
  unfold fX12_isDirty at h
  refine g_aload_n (pc := 0) dX12_isDirty_0 rfl 0 rfl ?_
  refine g_sipush (pc := 1) (v := 425) dX12_isDirty_1 (by decide) ?_
  refine g_iald (pc := 4) hw (by decide) (j := 425) (by decide) dX12_isDirty_4 ?_
  refine g_iload_n (pc := 5) dX12_isDirty_5 rfl 1 rfl ?_
  refine g_ishr (pc := 6) dX12_isDirty_6 ?_
  refine g_iconst (pc := 7) (v := 1) dX12_isDirty_7 (by decide) ?_
  refine g_iand (pc := 8) dX12_isDirty_8 ?_
  refine g_iconst (pc := 9) (v := 1) dX12_isDirty_9 (by decide) ?_
  refine g_icmp_ne (pc := 10) (tgt := 17) dX12_isDirty_10 (by decide) (fun c2 => ?_) (fun c2 => ?_)
  · have h := g_iff c2 h
    refine g_iconst (pc := 17) (v := 0) dX12_isDirty_17 (by decide) ?_
    cases h
    exact g_iret (pc := 18) rfl (by decide) rfl rfl dX12_isDirty_18
  · have h := g_ift c2 h
    refine g_iconst (pc := 13) (v := 1) dX12_isDirty_13 (by decide) ?_
    refine g_goto (pc := 14) (tgt := 18) dX12_isDirty_14 (by decide) ?_
    cases h
    exact g_iret (pc := 18) rfl (by decide) rfl rfl dX12_isDirty_18
def fX12_mends_b90 (n : Nat) (w : Nat) (v2 : Int32) (v3 : Int32) (v5 : Int32) (s0 : Int32) (σ : gM) : Option (Int32 × gM) := if ¬ (v5 < 0 ∨ 8 ≤ v5.toNatClampNeg) then (g_bV (fX12_puts w v2 v3 v5 ((σ.1 14 v5.toNatClampNeg) ^^^ s0) σ) (fun σ42 => g_bI (fX12_diskOf v2 v5 σ42) (fun r45 σ44 => if ¬ ((416 + r45) < 0 ∨ 616 ≤ (416 + r45).toNatClampNeg) then (if ¬ ((416 + r45) < 0 ∨ 616 ≤ (416 + r45).toNatClampNeg) then (g_let (g_put σ44 w ((416 + r45).toNatClampNeg) ((σ44.1 w ((416 + r45).toNatClampNeg)) + 1)) (fun σ48 => g_let (g_put σ48 w 429 ((σ48.1 w 429) + 1)) (fun σ50 => g_bI (fX12_diskOf v2 v5 σ50) (fun r54 σ53 => g_let (g_put σ53 w 432 r54) (fun σ55 => g_let (g_put σ55 w 433 v2) (fun σ57 => g_let (g_put σ57 w 434 v3) (fun σ59 => some (1, σ59)))))))) else none) else none))) else none
set_option maxRecDepth 100000 in
theorem tX12_mends_b90 (hE : gEM l dC dI ad ca X) {r0 : Int32} {σ' : gM} (n : Nat) (w : Nat) (hw : shM[w]? = some (.inl (.int, 616))) (v2 : Int32) (v3 : Int32) (v5 : Int32) (s0 : Int32)  (σ : gM) (h : fX12_mends_b90 n w v2 v3 v5 s0 σ = some (r0, σ')) : g_G l dC dI ad ca shM X cX12_mends 7 RX12 (some .int) (gR 3) (some (.int r0)) σ' 90 [(0, .ref 0), (1, .ref w), (2, .int v2), (3, .int v3), (5, .int v5)] [.int s0] σ := by
  unfold fX12_mends_b90 at h
  refine g_istore (pc := 90) (lv1 := [(6, .int s0), (0, .ref 0), (1, .ref w), (2, .int v2), (3, .int v3), (5, .int v5)]) dX12_mends_90 (by decide) rfl ?_
  refine g_aload_n (pc := 92) dX12_mends_92 rfl 1 rfl ?_
  refine g_aload_n (pc := 93) dX12_mends_93 rfl 2 rfl ?_
  refine g_iload_n (pc := 94) dX12_mends_94 rfl 3 rfl ?_
  refine g_iload_n (pc := 95) dX12_mends_95 rfl 4 rfl ?_
  refine g_iload (pc := 96) dX12_mends_96 5 rfl ?_
  refine g_aload_n (pc := 98) dX12_mends_98 rfl 1 rfl ?_
  refine g_getR (pc := 99) wfX12_50 rfl rfl dX12_mends_99 ?_
  refine g_iload (pc := 102) dX12_mends_102 5 rfl ?_
  obtain ⟨c40, h⟩ := g_gd h
  refine g_iald (pc := 104) rfl c40 rfl dX12_mends_104 ?_
  refine g_iload (pc := 105) dX12_mends_105 0 rfl ?_
  refine g_ixor (pc := 107) dX12_mends_107 ?_
  obtain ⟨σ42, h41, h⟩ := g_bVd h
  refine g_callVv (pc := 108) (st := []) hE.1 wvX12_261 rfl rfl (kX12_puts hE w hw v2 v3 v5 ((σ.1 14 v5.toNatClampNeg) ^^^ s0) σ h41) rfl (gR_ok (by decide) (by decide)) (Nat.le_of_ble_eq_true rfl) rfl dX12_mends_108 ?_
  refine g_aload_n (pc := 111) dX12_mends_111 rfl 2 rfl ?_
  refine g_sipush (pc := 112) (v := 416) dX12_mends_112 (by decide) ?_
  refine g_aload_n (pc := 115) dX12_mends_115 rfl 1 rfl ?_
  refine g_iload_n (pc := 116) dX12_mends_116 rfl 3 rfl ?_
  refine g_iload (pc := 117) dX12_mends_117 5 rfl ?_
  obtain ⟨r45, σ44, h43, h⟩ := g_bId h
  refine g_callVi (pc := 119) (st := [.int 416, .ref w]) hE.1 wvX12_199 rfl rfl (kX12_diskOf hE v2 v5 σ42 h43) rfl (gR_ok (by decide) (by decide)) (Nat.le_of_ble_eq_true rfl) rfl dX12_mends_119 ?_
  refine g_iadd (pc := 122) dX12_mends_122 ?_
  refine g_dup2 (pc := 123) dX12_mends_123 rfl rfl ?_
  obtain ⟨c46, h⟩ := g_gd h
  refine g_iald (pc := 124) hw c46 rfl dX12_mends_124 ?_
  refine g_iconst (pc := 125) (v := 1) dX12_mends_125 (by decide) ?_
  refine g_iadd (pc := 126) dX12_mends_126 ?_
  obtain ⟨c47, h⟩ := g_gd h
  obtain ⟨σ48, e49, h⟩ := g_ltd h
  refine g_iast (pc := 127) hw c47 rfl e49 dX12_mends_127 ?_
  refine g_aload_n (pc := 128) dX12_mends_128 rfl 2 rfl ?_
  refine g_sipush (pc := 129) (v := 429) dX12_mends_129 (by decide) ?_
  refine g_dup2 (pc := 132) dX12_mends_132 rfl rfl ?_
  refine g_iald (pc := 133) hw (by decide) (j := 429) (by decide) dX12_mends_133 ?_
  refine g_iconst (pc := 134) (v := 1) dX12_mends_134 (by decide) ?_
  refine g_iadd (pc := 135) dX12_mends_135 ?_
  obtain ⟨σ50, e51, h⟩ := g_ltd h
  refine g_iast (pc := 136) hw (by decide) (j := 429) (by decide) e51 dX12_mends_136 ?_
  refine g_aload_n (pc := 137) dX12_mends_137 rfl 2 rfl ?_
  refine g_sipush (pc := 138) (v := 432) dX12_mends_138 (by decide) ?_
  refine g_aload_n (pc := 141) dX12_mends_141 rfl 1 rfl ?_
  refine g_iload_n (pc := 142) dX12_mends_142 rfl 3 rfl ?_
  refine g_iload (pc := 143) dX12_mends_143 5 rfl ?_
  obtain ⟨r54, σ53, h52, h⟩ := g_bId h
  refine g_callVi (pc := 145) (st := [.int 432, .ref w]) hE.1 wvX12_199 rfl rfl (kX12_diskOf hE v2 v5 σ50 h52) rfl (gR_ok (by decide) (by decide)) (Nat.le_of_ble_eq_true rfl) rfl dX12_mends_145 ?_
  obtain ⟨σ55, e56, h⟩ := g_ltd h
  refine g_iast (pc := 148) hw (by decide) (j := 432) (by decide) e56 dX12_mends_148 ?_
  refine g_aload_n (pc := 149) dX12_mends_149 rfl 2 rfl ?_
  refine g_sipush (pc := 150) (v := 433) dX12_mends_150 (by decide) ?_
  refine g_iload_n (pc := 153) dX12_mends_153 rfl 3 rfl ?_
  obtain ⟨σ57, e58, h⟩ := g_ltd h
  refine g_iast (pc := 154) hw (by decide) (j := 433) (by decide) e58 dX12_mends_154 ?_
  refine g_aload_n (pc := 155) dX12_mends_155 rfl 2 rfl ?_
  refine g_sipush (pc := 156) (v := 434) dX12_mends_156 (by decide) ?_
  refine g_iload_n (pc := 159) dX12_mends_159 rfl 4 rfl ?_
  obtain ⟨σ59, e60, h⟩ := g_ltd h
  refine g_iast (pc := 160) hw (by decide) (j := 434) (by decide) e60 dX12_mends_160 ?_
  refine g_iconst (pc := 161) (v := 1) dX12_mends_161 (by decide) ?_
  cases h
  exact g_iret (pc := 162) rfl rfl rfl rfl dX12_mends_162
def fX12_mends_b39 (n : Nat) (w : Nat) (v2 : Int32) (v3 : Int32) (v4 : Int32) (v5 : Int32) (σ : gM) : Option (Int32 × gM) := if 0 ≤ v5 then (if v5 = (v4 + 1) then (if ¬ ((v4 + 1) < 0 ∨ 8 ≤ (v4 + 1).toNatClampNeg) then (g_bI (fX12_sum n 1 (-1) (-1) σ) (fun r70 σ69 => fX12_mends_b90 n w v2 v3 v5 ((σ.1 14 ((v4 + 1).toNatClampNeg)) ^^^ r70) σ69)) else none) else (if ¬ (v4 < 0 ∨ 8 ≤ v4.toNatClampNeg) then (g_bI (fX12_sum n 0 (-1) (-1) σ) (fun r66 σ65 => fX12_mends_b90 n w v2 v3 v5 ((σ.1 14 v4.toNatClampNeg) ^^^ r66) σ65)) else none)) else (some (0, σ))
set_option maxRecDepth 100000 in
theorem tX12_mends_b39 (hE : gEM l dC dI ad ca X) {r0 : Int32} {σ' : gM} (n : Nat) (w : Nat) (hw : shM[w]? = some (.inl (.int, 616))) (v2 : Int32) (v3 : Int32) (v4 : Int32) (v5 : Int32)  (σ : gM) (h : fX12_mends_b39 n w v2 v3 v4 v5 σ = some (r0, σ')) : g_G l dC dI ad ca shM X cX12_mends 7 RX12 (some .int) (gR 3) (some (.int r0)) σ' 39 [(0, .ref 0), (1, .ref w), (2, .int v2), (3, .int v3), (4, .int v4), (5, .int v5)] [] σ := by
  unfold fX12_mends_b39 at h
  refine g_iload (pc := 39) dX12_mends_39 5 rfl ?_
  refine g_if_ge (pc := 41) (tgt := 46) dX12_mends_41 (by decide) (fun c61 => ?_) (fun c61 => ?_)
  · have h := g_ift c61 h
    refine g_iload (pc := 46) dX12_mends_46 5 rfl ?_
    refine g_iload (pc := 48) dX12_mends_48 4 rfl ?_
    refine g_iconst (pc := 50) (v := 1) dX12_mends_50 (by decide) ?_
    refine g_iadd (pc := 51) dX12_mends_51 ?_
    refine g_icmp_ne (pc := 52) (tgt := 75) dX12_mends_52 (by decide) (fun c62 => ?_) (fun c62 => ?_)
    · have h := g_iff c62 h
      refine g_aload_n (pc := 75) dX12_mends_75 rfl 0 rfl ?_
      refine g_getR (pc := 76) wfX12_50 rfl rfl dX12_mends_76 ?_
      refine g_iload (pc := 79) dX12_mends_79 4 rfl ?_
      obtain ⟨c63, h⟩ := g_gd h
      refine g_iald (pc := 81) rfl c63 rfl dX12_mends_81 ?_
      refine g_aload_n (pc := 82) dX12_mends_82 rfl 0 rfl ?_
      refine g_iconst (pc := 83) (v := 0) dX12_mends_83 (by decide) ?_
      refine g_iconst (pc := 84) (v := (-1)) dX12_mends_84 (by decide) ?_
      refine g_iconst (pc := 85) (v := (-1)) dX12_mends_85 (by decide) ?_
      obtain ⟨r66, σ65, h64, h⟩ := g_bId h
      refine g_callVi (pc := 86) (st := [.int (σ.1 14 v4.toNatClampNeg)]) hE.1 wvX12_213 rfl rfl (kX12_sum hE n 0 (-1) (-1) σ h64) rfl (gR_ok (by decide) (by decide)) (Nat.le_of_ble_eq_true rfl) rfl dX12_mends_86 ?_
      refine g_ixor (pc := 89) dX12_mends_89 ?_
      exact g_lv [0, 1, 2, 3, 5] rfl (tX12_mends_b90 hE n w hw v2 v3 v5 ((σ.1 14 v4.toNatClampNeg) ^^^ r66) σ65 h)
    · have h := g_ift c62 h
      refine g_aload_n (pc := 55) dX12_mends_55 rfl 0 rfl ?_
      refine g_getR (pc := 56) wfX12_50 rfl rfl dX12_mends_56 ?_
      refine g_iload (pc := 59) dX12_mends_59 4 rfl ?_
      refine g_iconst (pc := 61) (v := 1) dX12_mends_61 (by decide) ?_
      refine g_iadd (pc := 62) dX12_mends_62 ?_
      obtain ⟨c67, h⟩ := g_gd h
      refine g_iald (pc := 63) rfl c67 rfl dX12_mends_63 ?_
      refine g_aload_n (pc := 64) dX12_mends_64 rfl 0 rfl ?_
      refine g_iconst (pc := 65) (v := 1) dX12_mends_65 (by decide) ?_
      refine g_iconst (pc := 66) (v := (-1)) dX12_mends_66 (by decide) ?_
      refine g_iconst (pc := 67) (v := (-1)) dX12_mends_67 (by decide) ?_
      obtain ⟨r70, σ69, h68, h⟩ := g_bId h
      refine g_callVi (pc := 68) (st := [.int (σ.1 14 ((v4 + 1).toNatClampNeg))]) hE.1 wvX12_213 rfl rfl (kX12_sum hE n 1 (-1) (-1) σ h68) rfl (gR_ok (by decide) (by decide)) (Nat.le_of_ble_eq_true rfl) rfl dX12_mends_68 ?_
      refine g_ixor (pc := 71) dX12_mends_71 ?_
      refine g_goto (pc := 72) (tgt := 90) dX12_mends_72 (by decide) ?_
      exact g_lv [0, 1, 2, 3, 5] rfl (tX12_mends_b90 hE n w hw v2 v3 v5 ((σ.1 14 ((v4 + 1).toNatClampNeg)) ^^^ r70) σ69 h)
  · have h := g_iff c61 h
    refine g_iconst (pc := 44) (v := 0) dX12_mends_44 (by decide) ?_
    cases h
    exact g_iret (pc := 45) rfl rfl rfl rfl dX12_mends_45
def fX12_mends (n : Nat) (w : Nat) (v2 : Int32) (v3 : Int32) (σ : gM) : Option (Int32 × gM) := g_bV (fX12_lays n w v2 v3 (-1) (-1) σ) (fun σ72 => g_bI (fX12_wrong n σ72) (fun r75 σ74 => if r75 = (-2) then (g_let (g_put σ74 w 430 ((σ74.1 w 430) + 1)) (fun σ77 => fX12_mends_b39 n w v2 v3 (σ72.1 3 0) r75 σ77)) else (fX12_mends_b39 n w v2 v3 (σ72.1 3 0) r75 σ74)))
set_option maxRecDepth 100000 in
theorem kX12_mends (hE : gEM l dC dI ad ca X) (n : Nat) (w : Nat) (hw : shM[w]? = some (.inl (.int, 616)))  (v2 : Int32) (v3 : Int32) (σ : gM) {r0 : Int32} {σ' : gM} (h : fX12_mends n w v2 v3 σ = some (r0, σ')) : g_C l dC dI ad ca shM X yX12_mends cX12_mends 7 (some .int) (gR 3) [.ref 0, .ref w, .int v2, .int v3] σ (some (.int r0)) σ' := by
  refine g_entry (by decide +kernel) (Nat.le_of_ble_eq_true rfl) ?_
  refine g_lvE (lv1 := [(0, .ref 0), (1, .ref w), (2, .int v2), (3, .int v3)]) rfl ?_
  unfold fX12_mends at h
  refine g_aload_n (pc := 0) dX12_mends_0 rfl 0 rfl ?_
  refine g_aload_n (pc := 1) dX12_mends_1 rfl 1 rfl ?_
  refine g_iload_n (pc := 2) dX12_mends_2 rfl 2 rfl ?_
  refine g_iload_n (pc := 3) dX12_mends_3 rfl 3 rfl ?_
  refine g_iconst (pc := 4) (v := (-1)) dX12_mends_4 (by decide) ?_
  refine g_iconst (pc := 5) (v := (-1)) dX12_mends_5 (by decide) ?_
  obtain ⟨σ72, h71, h⟩ := g_bVd h
  refine g_callVv (pc := 6) (st := []) hE.1 wvX12_223 rfl rfl (kX12_lays hE n w hw v2 v3 (-1) (-1) σ h71) rfl (gR_ok (by decide) (by decide)) (Nat.le_of_ble_eq_true rfl) rfl dX12_mends_6 ?_
  refine g_aload_n (pc := 9) dX12_mends_9 rfl 0 rfl ?_
  refine g_getR (pc := 10) wfX12_17 rfl rfl dX12_mends_10 ?_
  refine g_iconst (pc := 13) (v := 0) dX12_mends_13 (by decide) ?_
  refine g_iald (pc := 14) rfl (by decide) (j := 0) (by decide) dX12_mends_14 ?_
  refine g_istore (pc := 15) (lv1 := [(4, .int (σ72.1 3 0)), (0, .ref 0), (1, .ref w), (2, .int v2), (3, .int v3)]) dX12_mends_15 (by decide) rfl ?_
  refine g_aload_n (pc := 17) dX12_mends_17 rfl 1 rfl ?_
  obtain ⟨r75, σ74, h73, h⟩ := g_bId h
  refine g_callVi (pc := 18) (st := []) hE.1 wvX12_264 rfl rfl (kX12_wrong hE n σ72 h73) rfl (gR_ok (by decide) (by decide)) (Nat.le_of_ble_eq_true rfl) rfl dX12_mends_18 ?_
  refine g_istore (pc := 21) (lv1 := [(5, .int r75), (4, .int (σ72.1 3 0)), (0, .ref 0), (1, .ref w), (2, .int v2), (3, .int v3)]) dX12_mends_21 (by decide) rfl ?_
  refine g_iload (pc := 23) dX12_mends_23 0 rfl ?_
  refine g_bipush (pc := 25) (v := (-2)) dX12_mends_25 (by decide) ?_
  refine g_icmp_ne (pc := 27) (tgt := 39) dX12_mends_27 (by decide) (fun c76 => ?_) (fun c76 => ?_)
  · have h := g_iff c76 h
    exact g_lv [2, 3, 4, 5, 1, 0] rfl (tX12_mends_b39 hE n w hw v2 v3 (σ72.1 3 0) r75 σ74 h)
  · have h := g_ift c76 h
    refine g_aload_n (pc := 30) dX12_mends_30 rfl 3 rfl ?_
    refine g_sipush (pc := 31) (v := 430) dX12_mends_31 (by decide) ?_
    refine g_dup2 (pc := 34) dX12_mends_34 rfl rfl ?_
    refine g_iald (pc := 35) hw (by decide) (j := 430) (by decide) dX12_mends_35 ?_
    refine g_iconst (pc := 36) (v := 1) dX12_mends_36 (by decide) ?_
    refine g_iadd (pc := 37) dX12_mends_37 ?_
    obtain ⟨σ77, e78, h⟩ := g_ltd h
    refine g_iast (pc := 38) hw (by decide) (j := 430) (by decide) e78 dX12_mends_38 ?_
    exact g_lv [2, 3, 4, 5, 1, 0] rfl (tX12_mends_b39 hE n w hw v2 v3 (σ72.1 3 0) r75 σ77 h)
def fX12_scrubs_b17 (n : Nat) (w : Nat) (σ : gM) : Option (Int32 × gM) := g_let (g_put σ w 431 ((σ.1 w 431) + 1)) (fun σ18 => some (0, σ18))
set_option maxRecDepth 100000 in
theorem tX12_scrubs_b17 (hE : gEM l dC dI ad ca X) {r0 : Int32} {σ' : gM} (n : Nat) (w : Nat) (hw : shM[w]? = some (.inl (.int, 616)))  (σ : gM) (h : fX12_scrubs_b17 n w σ = some (r0, σ')) : g_G l dC dI ad ca shM X cX12_scrubs 6 RX12 (some .int) (gR 4) (some (.int r0)) σ' 17 [(1, .ref w)] [] σ := by
  unfold fX12_scrubs_b17 at h
  refine g_aload_n (pc := 17) dX12_scrubs_17 rfl 0 rfl ?_
  refine g_sipush (pc := 18) (v := 431) dX12_scrubs_18 (by decide) ?_
  refine g_dup2 (pc := 21) dX12_scrubs_21 rfl rfl ?_
  refine g_iald (pc := 22) hw (by decide) (j := 431) (by decide) dX12_scrubs_22 ?_
  refine g_iconst (pc := 23) (v := 1) dX12_scrubs_23 (by decide) ?_
  refine g_iadd (pc := 24) dX12_scrubs_24 ?_
  obtain ⟨σ18, e19, h⟩ := g_ltd h
  refine g_iast (pc := 25) hw (by decide) (j := 431) (by decide) e19 dX12_scrubs_25 ?_
  refine g_iconst (pc := 26) (v := 0) dX12_scrubs_26 (by decide) ?_
  cases h
  exact g_iret (pc := 27) rfl rfl rfl rfl dX12_scrubs_27
def fX12_scrubs_b47 (n : Nat) (w : Nat) (K33 : Int32 → Int32 → Int32 → gM → Option (Int32 × gM)) (K47 : Int32 → Int32 → Int32 → Int32 → gM → Option (Int32 × gM)) (v2 : Int32) (v3 : Int32) (v4 : Int32) (v5 : Int32) (σ : gM) : Option (Int32 × gM) := if (σ.1 0 13) ≤ v5 then (g_bI (fX12_mends n w v2 v4 σ) (fun r23 σ22 => K33 v2 (v3 + r23) (v4 + 1) σ22)) else (g_bV (fX12_counts w v5 0 σ) (fun σ25 => K47 v2 v3 v4 (v5 + 1) σ25))
set_option maxRecDepth 100000 in
theorem tX12_scrubs_b47 (hE : gEM l dC dI ad ca X) {r0 : Int32} {σ' : gM} (n : Nat) (w : Nat) (hw : shM[w]? = some (.inl (.int, 616))) (K33 : Int32 → Int32 → Int32 → gM → Option (Int32 × gM)) (hK33 : ∀ (v2 : Int32) (v3 : Int32) (v4 : Int32) (σ : gM), K33 v2 v3 v4 σ = some (r0, σ') → g_G l dC dI ad ca shM X cX12_scrubs 6 RX12 (some .int) (gR 4) (some (.int r0)) σ' 33 [(0, .ref 0), (1, .ref w), (2, .int v2), (3, .int v3), (4, .int v4)] [] σ) (K47 : Int32 → Int32 → Int32 → Int32 → gM → Option (Int32 × gM)) (hK47 : ∀ (v2 : Int32) (v3 : Int32) (v4 : Int32) (v5 : Int32) (σ : gM), K47 v2 v3 v4 v5 σ = some (r0, σ') → g_G l dC dI ad ca shM X cX12_scrubs 6 RX12 (some .int) (gR 4) (some (.int r0)) σ' 47 [(0, .ref 0), (1, .ref w), (2, .int v2), (3, .int v3), (4, .int v4), (5, .int v5)] [] σ) (v2 : Int32) (v3 : Int32) (v4 : Int32) (v5 : Int32)  (σ : gM) (h : fX12_scrubs_b47 n w K33 K47 v2 v3 v4 v5 σ = some (r0, σ')) : g_G l dC dI ad ca shM X cX12_scrubs 6 RX12 (some .int) (gR 4) (some (.int r0)) σ' 47 [(0, .ref 0), (1, .ref w), (2, .int v2), (3, .int v3), (4, .int v4), (5, .int v5)] [] σ := by
  unfold fX12_scrubs_b47 at h
  refine g_iload (pc := 47) dX12_scrubs_47 5 rfl ?_
  refine g_aload_n (pc := 49) dX12_scrubs_49 rfl 0 rfl ?_
  refine g_getI (pc := 50) wfX12_171 rfl rfl dX12_scrubs_50 ?_
  refine g_icmp_ge (pc := 53) (tgt := 70) dX12_scrubs_53 (by decide) (fun c20 => ?_) (fun c20 => ?_)
  · have h := g_ift c20 h
    refine g_iload_n (pc := 70) dX12_scrubs_70 rfl 3 rfl ?_
    refine g_aload_n (pc := 71) dX12_scrubs_71 rfl 0 rfl ?_
    refine g_aload_n (pc := 72) dX12_scrubs_72 rfl 1 rfl ?_
    refine g_iload_n (pc := 73) dX12_scrubs_73 rfl 2 rfl ?_
    refine g_iload (pc := 74) dX12_scrubs_74 4 rfl ?_
    obtain ⟨r23, σ22, h21, h⟩ := g_bId h
    refine g_callVi (pc := 76) (st := [.int v3]) hE.1 wvX12_274 rfl rfl (kX12_mends hE n w hw v2 v4 σ h21) rfl (gR_ok (by decide) (by decide)) (Nat.le_of_ble_eq_true rfl) rfl dX12_scrubs_76 ?_
    refine g_iadd (pc := 79) dX12_scrubs_79 ?_
    refine g_istore_n (pc := 80) (lv1 := [(3, .int (v3 + r23)), (0, .ref 0), (1, .ref w), (2, .int v2), (4, .int v4), (5, .int v5)]) dX12_scrubs_80 rfl (by decide) rfl ?_
    refine g_iinc (pc := 81) (v := v4 + 1) (lv1 := [(4, .int (v4 + 1)), (3, .int (v3 + r23)), (0, .ref 0), (1, .ref w), (2, .int v2), (5, .int v5)]) dX12_scrubs_81 4 rfl rfl (by decide) rfl ?_
    refine g_goto (pc := 84) (tgt := 33) dX12_scrubs_84 (by decide) ?_
    exact g_lv [2, 3, 4, 1, 0] rfl (hK33 v2 (v3 + r23) (v4 + 1) σ22 h)
  · have h := g_iff c20 h
    refine g_aload_n (pc := 56) dX12_scrubs_56 rfl 0 rfl ?_
    refine g_aload_n (pc := 57) dX12_scrubs_57 rfl 1 rfl ?_
    refine g_iload (pc := 58) dX12_scrubs_58 5 rfl ?_
    refine g_iconst (pc := 60) (v := 0) dX12_scrubs_60 (by decide) ?_
    obtain ⟨σ25, h24, h⟩ := g_bVd h
    refine g_callVv (pc := 61) (st := []) hE.1 wvX12_233 rfl rfl (kX12_counts hE w hw v5 0 σ h24) rfl (gR_ok (by decide) (by decide)) (Nat.le_of_ble_eq_true rfl) rfl dX12_scrubs_61 ?_
    refine g_iinc (pc := 64) (v := v5 + 1) (lv1 := [(5, .int (v5 + 1)), (0, .ref 0), (1, .ref w), (2, .int v2), (3, .int v3), (4, .int v4)]) dX12_scrubs_64 5 rfl rfl (by decide) rfl ?_
    refine g_goto (pc := 67) (tgt := 47) dX12_scrubs_67 (by decide) ?_
    exact g_lv [1, 2, 3, 4, 5, 0] rfl (hK47 v2 v3 v4 (v5 + 1) σ25 h)
def fX12_scrubs_L47 (n : Nat) (w : Nat) (K33 : Int32 → Int32 → Int32 → gM → Option (Int32 × gM)) : Nat → Int32 → Int32 → Int32 → Int32 → gM → Option (Int32 × gM)
  | 0 => fun _ _ _ _ _ => none
  | k + 1 => fX12_scrubs_b47 n w K33 (fX12_scrubs_L47 n w K33 k)
theorem tX12_scrubs_L47 (hE : gEM l dC dI ad ca X) {r0 : Int32} {σ' : gM} (n : Nat) (w : Nat) (hw : shM[w]? = some (.inl (.int, 616))) (K33 : Int32 → Int32 → Int32 → gM → Option (Int32 × gM)) (hK33 : ∀ (v2 : Int32) (v3 : Int32) (v4 : Int32) (σ : gM), K33 v2 v3 v4 σ = some (r0, σ') → g_G l dC dI ad ca shM X cX12_scrubs 6 RX12 (some .int) (gR 4) (some (.int r0)) σ' 33 [(0, .ref 0), (1, .ref w), (2, .int v2), (3, .int v3), (4, .int v4)] [] σ)  : ∀ (k : Nat) (v2 : Int32) (v3 : Int32) (v4 : Int32) (v5 : Int32) (σ : gM), fX12_scrubs_L47 n w K33 k v2 v3 v4 v5 σ = some (r0, σ') → g_G l dC dI ad ca shM X cX12_scrubs 6 RX12 (some .int) (gR 4) (some (.int r0)) σ' 47 [(0, .ref 0), (1, .ref w), (2, .int v2), (3, .int v3), (4, .int v4), (5, .int v5)] [] σ := by
  intro k
  induction k with
  | zero => intro v2 v3 v4 v5 σ h; cases h
  | succ k ih => intro v2 v3 v4 v5 σ h; exact tX12_scrubs_b47 hE n w hw K33 hK33 (fX12_scrubs_L47 n w K33 k) ih v2 v3 v4 v5 σ h
def fX12_scrubs_b33 (n : Nat) (w : Nat) (K33 : Int32 → Int32 → Int32 → gM → Option (Int32 × gM)) (v2 : Int32) (v3 : Int32) (v4 : Int32) (σ : gM) : Option (Int32 × gM) := if (σ.1 3 2) ≤ v4 then (some (v3, σ)) else (fX12_scrubs_L47 n w K33 n v2 v3 v4 0 σ)
set_option maxRecDepth 100000 in
theorem tX12_scrubs_b33 (hE : gEM l dC dI ad ca X) {r0 : Int32} {σ' : gM} (n : Nat) (w : Nat) (hw : shM[w]? = some (.inl (.int, 616))) (K33 : Int32 → Int32 → Int32 → gM → Option (Int32 × gM)) (hK33 : ∀ (v2 : Int32) (v3 : Int32) (v4 : Int32) (σ : gM), K33 v2 v3 v4 σ = some (r0, σ') → g_G l dC dI ad ca shM X cX12_scrubs 6 RX12 (some .int) (gR 4) (some (.int r0)) σ' 33 [(0, .ref 0), (1, .ref w), (2, .int v2), (3, .int v3), (4, .int v4)] [] σ) (v2 : Int32) (v3 : Int32) (v4 : Int32)  (σ : gM) (h : fX12_scrubs_b33 n w K33 v2 v3 v4 σ = some (r0, σ')) : g_G l dC dI ad ca shM X cX12_scrubs 6 RX12 (some .int) (gR 4) (some (.int r0)) σ' 33 [(0, .ref 0), (1, .ref w), (2, .int v2), (3, .int v3), (4, .int v4)] [] σ := by
  unfold fX12_scrubs_b33 at h
  refine g_iload (pc := 33) dX12_scrubs_33 4 rfl ?_
  refine g_aload_n (pc := 35) dX12_scrubs_35 rfl 0 rfl ?_
  refine g_getR (pc := 36) wfX12_17 rfl rfl dX12_scrubs_36 ?_
  refine g_iconst (pc := 39) (v := 2) dX12_scrubs_39 (by decide) ?_
  refine g_iald (pc := 40) rfl (by decide) (j := 2) (by decide) dX12_scrubs_40 ?_
  refine g_icmp_ge (pc := 41) (tgt := 87) dX12_scrubs_41 (by decide) (fun c26 => ?_) (fun c26 => ?_)
  · have h := g_ift c26 h
    refine g_iload_n (pc := 87) dX12_scrubs_87 rfl 3 rfl ?_
    cases h
    exact g_iret (pc := 88) rfl rfl rfl rfl dX12_scrubs_88
  · have h := g_iff c26 h
    refine g_iconst (pc := 44) (v := 0) dX12_scrubs_44 (by decide) ?_
    refine g_istore (pc := 45) (lv1 := [(5, .int 0), (0, .ref 0), (1, .ref w), (2, .int v2), (3, .int v3), (4, .int v4)]) dX12_scrubs_45 (by decide) rfl ?_
    exact g_lv [1, 2, 3, 4, 5, 0] rfl (tX12_scrubs_L47 hE n w hw K33 hK33 n v2 v3 v4 0 σ h)
def fX12_scrubs_L33 (n : Nat) (w : Nat) : Nat → Int32 → Int32 → Int32 → gM → Option (Int32 × gM)
  | 0 => fun _ _ _ _ => none
  | k + 1 => fX12_scrubs_b33 n w (fX12_scrubs_L33 n w k)
theorem tX12_scrubs_L33 (hE : gEM l dC dI ad ca X) {r0 : Int32} {σ' : gM} (n : Nat) (w : Nat) (hw : shM[w]? = some (.inl (.int, 616)))  : ∀ (k : Nat) (v2 : Int32) (v3 : Int32) (v4 : Int32) (σ : gM), fX12_scrubs_L33 n w k v2 v3 v4 σ = some (r0, σ') → g_G l dC dI ad ca shM X cX12_scrubs 6 RX12 (some .int) (gR 4) (some (.int r0)) σ' 33 [(0, .ref 0), (1, .ref w), (2, .int v2), (3, .int v3), (4, .int v4)] [] σ := by
  intro k
  induction k with
  | zero => intro v2 v3 v4 σ h; cases h
  | succ k ih => intro v2 v3 v4 σ h; exact tX12_scrubs_b33 hE n w hw (fX12_scrubs_L33 n w k) ih v2 v3 v4 σ h
def fX12_scrubs (n : Nat) (w : Nat) (v2 : Int32) (σ : gM) : Option (Int32 × gM) := g_bI (fX12_isAll n w v2 σ) (fun r29 σ28 => if r29 = 0 then (fX12_scrubs_b17 n w σ28) else (g_bI (fX12_isDirty w v2 σ28) (fun r33 σ32 => if r33 = 0 then (fX12_scrubs_L33 n w n v2 0 0 σ32) else (fX12_scrubs_b17 n w σ32))))
set_option maxRecDepth 100000 in
theorem kX12_scrubs (hE : gEM l dC dI ad ca X) (n : Nat) (w : Nat) (hw : shM[w]? = some (.inl (.int, 616)))  (v2 : Int32) (σ : gM) {r0 : Int32} {σ' : gM} (h : fX12_scrubs n w v2 σ = some (r0, σ')) : g_C l dC dI ad ca shM X yX12_scrubs cX12_scrubs 6 (some .int) (gR 4) [.ref 0, .ref w, .int v2] σ (some (.int r0)) σ' := by
  refine g_entry (by decide +kernel) (Nat.le_of_ble_eq_true rfl) ?_
  refine g_lvE (lv1 := [(0, .ref 0), (1, .ref w), (2, .int v2)]) rfl ?_
  unfold fX12_scrubs at h
  refine g_aload_n (pc := 0) dX12_scrubs_0 rfl 0 rfl ?_
  refine g_aload_n (pc := 1) dX12_scrubs_1 rfl 1 rfl ?_
  refine g_iload_n (pc := 2) dX12_scrubs_2 rfl 2 rfl ?_
  obtain ⟨r29, σ28, h27, h⟩ := g_bId h
  refine g_callVi (pc := 3) (st := []) hE.1 wvX12_267 rfl rfl (kX12_isAll hE n w hw v2 σ h27) rfl (gR_ok (by decide) (by decide)) (Nat.le_of_ble_eq_true rfl) rfl dX12_scrubs_3 ?_
  refine g_if_eq (pc := 6) (tgt := 17) dX12_scrubs_6 (by decide) (fun c30 => ?_) (fun c30 => ?_)
  · have h := g_ift c30 h
    exact g_lv [1] rfl (tX12_scrubs_b17 hE n w hw σ28 h)
  · have h := g_iff c30 h
    refine g_aload_n (pc := 9) dX12_scrubs_9 rfl 1 rfl ?_
    refine g_iload_n (pc := 10) dX12_scrubs_10 rfl 2 rfl ?_
    obtain ⟨r33, σ32, h31, h⟩ := g_bId h
    refine g_callSi (pc := 11) (st := []) hE.1 wsX12_271 (kX12_isDirty hE w hw v2 σ28 h31) rfl (gR_ok (by decide) (by decide)) (Nat.le_of_ble_eq_true rfl) rfl dX12_scrubs_11 ?_
    refine g_if_eq (pc := 14) (tgt := 28) dX12_scrubs_14 (by decide) (fun c34 => ?_) (fun c34 => ?_)
    · have h := g_ift c34 h
      refine g_iconst (pc := 28) (v := 0) dX12_scrubs_28 (by decide) ?_
      refine g_istore_n (pc := 29) (lv1 := [(3, .int 0), (0, .ref 0), (1, .ref w), (2, .int v2)]) dX12_scrubs_29 rfl (by decide) rfl ?_
      refine g_iconst (pc := 30) (v := 0) dX12_scrubs_30 (by decide) ?_
      refine g_istore (pc := 31) (lv1 := [(4, .int 0), (3, .int 0), (0, .ref 0), (1, .ref w), (2, .int v2)]) dX12_scrubs_31 (by decide) rfl ?_
      exact g_lv [2, 3, 4, 1, 0] rfl (tX12_scrubs_L33 hE n w hw n v2 0 0 σ32 h)
    · have h := g_iff c34 h
      exact g_lv [1] rfl (tX12_scrubs_b17 hE n w hw σ32 h)
def fX12_isAddress (v1 : Int32) (σ : gM) : Option (Int32 × gM) := if v1 < 0 then (some (0, σ)) else (if (σ.1 0 14) ≤ v1 then (some (0, σ)) else (some (1, σ)))
set_option maxRecDepth 100000 in
theorem kX12_isAddress (hE : gEM l dC dI ad ca X)  (v1 : Int32) (σ : gM) {r0 : Int32} {σ' : gM} (h : fX12_isAddress v1 σ = some (r0, σ')) : g_C l dC dI ad ca shM X yX12_isAddress cX12_isAddress 2 (some .boolean) (gR 0) [.ref 0, .int v1] σ (some (.int r0)) σ' := by
  refine g_entry (by decide +kernel) (Nat.le_of_ble_eq_true rfl) ?_
  refine g_lvE (lv1 := [(0, .ref 0), (1, .int v1)]) rfl ?_
  unfold fX12_isAddress at h
  refine g_iload_n (pc := 0) dX12_isAddress_0 rfl 1 rfl ?_
  refine g_if_lt (pc := 1) (tgt := 16) dX12_isAddress_1 (by decide) (fun c3 => ?_) (fun c3 => ?_)
  · have h := g_ift c3 h
    refine g_iconst (pc := 16) (v := 0) dX12_isAddress_16 (by decide) ?_
    cases h
    exact g_iret (pc := 17) rfl (by decide) rfl rfl dX12_isAddress_17
  · have h := g_iff c3 h
    refine g_iload_n (pc := 4) dX12_isAddress_4 rfl 1 rfl ?_
    refine g_aload_n (pc := 5) dX12_isAddress_5 rfl 0 rfl ?_
    refine g_getI (pc := 6) wfX12_153 rfl rfl dX12_isAddress_6 ?_
    refine g_icmp_ge (pc := 9) (tgt := 16) dX12_isAddress_9 (by decide) (fun c4 => ?_) (fun c4 => ?_)
    · have h := g_ift c4 h
      refine g_iconst (pc := 16) (v := 0) dX12_isAddress_16 (by decide) ?_
      cases h
      exact g_iret (pc := 17) rfl (by decide) rfl rfl dX12_isAddress_17
    · have h := g_iff c4 h
      refine g_iconst (pc := 12) (v := 1) dX12_isAddress_12 (by decide) ?_
      refine g_goto (pc := 13) (tgt := 17) dX12_isAddress_13 (by decide) ?_
      cases h
      exact g_iret (pc := 17) rfl (by decide) rfl rfl dX12_isAddress_17
def fX12_isDisk (v1 : Int32) (σ : gM) : Option (Int32 × gM) := if (σ.1 0 14) ≤ 0 then (some (0, σ)) else (if v1 < 0 then (some (0, σ)) else (if (σ.1 0 13) ≤ v1 then (some (0, σ)) else (some (1, σ))))
set_option maxRecDepth 100000 in
theorem kX12_isDisk (hE : gEM l dC dI ad ca X)  (v1 : Int32) (σ : gM) {r0 : Int32} {σ' : gM} (h : fX12_isDisk v1 σ = some (r0, σ')) : g_C l dC dI ad ca shM X yX12_isDisk cX12_isDisk 2 (some .boolean) (gR 0) [.ref 0, .int v1] σ (some (.int r0)) σ' := by
  refine g_entry (by decide +kernel) (Nat.le_of_ble_eq_true rfl) ?_
  refine g_lvE (lv1 := [(0, .ref 0), (1, .int v1)]) rfl ?_
  unfold fX12_isDisk at h
  refine g_aload_n (pc := 0) dX12_isDisk_0 rfl 0 rfl ?_
  refine g_getI (pc := 1) wfX12_153 rfl rfl dX12_isDisk_1 ?_
  refine g_if_le (pc := 4) (tgt := 23) dX12_isDisk_4 (by decide) (fun c4 => ?_) (fun c4 => ?_)
  · have h := g_ift c4 h
    refine g_iconst (pc := 23) (v := 0) dX12_isDisk_23 (by decide) ?_
    cases h
    exact g_iret (pc := 24) rfl (by decide) rfl rfl dX12_isDisk_24
  · have h := g_iff c4 h
    refine g_iload_n (pc := 7) dX12_isDisk_7 rfl 1 rfl ?_
    refine g_if_lt (pc := 8) (tgt := 23) dX12_isDisk_8 (by decide) (fun c5 => ?_) (fun c5 => ?_)
    · have h := g_ift c5 h
      refine g_iconst (pc := 23) (v := 0) dX12_isDisk_23 (by decide) ?_
      cases h
      exact g_iret (pc := 24) rfl (by decide) rfl rfl dX12_isDisk_24
    · have h := g_iff c5 h
      refine g_iload_n (pc := 11) dX12_isDisk_11 rfl 1 rfl ?_
      refine g_aload_n (pc := 12) dX12_isDisk_12 rfl 0 rfl ?_
      refine g_getI (pc := 13) wfX12_171 rfl rfl dX12_isDisk_13 ?_
      refine g_icmp_ge (pc := 16) (tgt := 23) dX12_isDisk_16 (by decide) (fun c6 => ?_) (fun c6 => ?_)
      · have h := g_ift c6 h
        refine g_iconst (pc := 23) (v := 0) dX12_isDisk_23 (by decide) ?_
        cases h
        exact g_iret (pc := 24) rfl (by decide) rfl rfl dX12_isDisk_24
      · have h := g_iff c6 h
        refine g_iconst (pc := 19) (v := 1) dX12_isDisk_19 (by decide) ?_
        refine g_goto (pc := 20) (tgt := 24) dX12_isDisk_20 (by decide) ?_
        cases h
        exact g_iret (pc := 24) rfl (by decide) rfl rfl dX12_isDisk_24
def fX12_isPlace (v1 : Int32) (v2 : Int32) (v3 : Int32) (σ : gM) : Option (Int32 × gM) := g_bI (fX12_isDisk v1 σ) (fun r15 σ14 => if r15 = 0 then (some (0, σ14)) else (g_bI (fX12_isIn v2.toInt64 0 (((σ14.1 3 1) - 1).toInt64) σ14) (fun r19 σ18 => if r19 = 0 then (some (0, σ18)) else (g_bI (fX12_isIn v3.toInt64 0 (((σ18.1 3 2) - 1).toInt64) σ18) (fun r23 σ22 => if r23 = 0 then (some (0, σ22)) else (some (1, σ22)))))))
set_option maxRecDepth 100000 in
theorem kX12_isPlace (hE : gEM l dC dI ad ca X)  (v1 : Int32) (v2 : Int32) (v3 : Int32) (σ : gM) {r0 : Int32} {σ' : gM} (h : fX12_isPlace v1 v2 v3 σ = some (r0, σ')) : g_C l dC dI ad ca shM X yX12_isPlace cX12_isPlace 4 (some .boolean) (gR 1) [.ref 0, .int v1, .int v2, .int v3] σ (some (.int r0)) σ' := by
  refine g_entry (by decide +kernel) (Nat.le_of_ble_eq_true rfl) ?_
  refine g_lvE (lv1 := [(0, .ref 0), (1, .int v1), (2, .int v2), (3, .int v3)]) rfl ?_
  unfold fX12_isPlace at h
  refine g_aload_n (pc := 0) dX12_isPlace_0 rfl 0 rfl ?_
  refine g_iload_n (pc := 1) dX12_isPlace_1 rfl 1 rfl ?_
  obtain ⟨r15, σ14, h13, h⟩ := g_bId h
  refine g_callVi (pc := 2) (st := []) hE.1 wvX12_278 rfl rfl (kX12_isDisk hE v1 σ h13) rfl (gR_ok (by decide) (by decide)) (Nat.le_of_ble_eq_true rfl) rfl dX12_isPlace_2 ?_
  refine g_if_eq (pc := 5) (tgt := 48) dX12_isPlace_5 (by decide) (fun c16 => ?_) (fun c16 => ?_)
  · have h := g_ift c16 h
    refine g_iconst (pc := 48) (v := 0) dX12_isPlace_48 (by decide) ?_
    cases h
    exact g_iret (pc := 49) rfl (by decide) rfl rfl dX12_isPlace_49
  · have h := g_iff c16 h
    refine g_iload_n (pc := 8) dX12_isPlace_8 rfl 2 rfl ?_
    refine g_i2l (pc := 9) dX12_isPlace_9 ?_
    refine g_lconst (pc := 10) (v := 0) dX12_isPlace_10 (by decide) ?_
    refine g_aload_n (pc := 11) dX12_isPlace_11 rfl 0 rfl ?_
    refine g_getR (pc := 12) wfX12_17 rfl rfl dX12_isPlace_12 ?_
    refine g_iconst (pc := 15) (v := 1) dX12_isPlace_15 (by decide) ?_
    refine g_iald (pc := 16) rfl (by decide) (j := 1) (by decide) dX12_isPlace_16 ?_
    refine g_iconst (pc := 17) (v := 1) dX12_isPlace_17 (by decide) ?_
    refine g_isub (pc := 18) dX12_isPlace_18 ?_
    refine g_i2l (pc := 19) dX12_isPlace_19 ?_
    obtain ⟨r19, σ18, h17, h⟩ := g_bId h
    refine g_callSi (pc := 20) (st := []) hE.1 wsX12_117 (kX12_isIn hE v2.toInt64 0 (((σ14.1 3 1) - 1).toInt64) σ14 h17) rfl (gR_ok (by decide) (by decide)) (Nat.le_of_ble_eq_true rfl) rfl dX12_isPlace_20 ?_
    refine g_if_eq (pc := 23) (tgt := 48) dX12_isPlace_23 (by decide) (fun c20 => ?_) (fun c20 => ?_)
    · have h := g_ift c20 h
      refine g_iconst (pc := 48) (v := 0) dX12_isPlace_48 (by decide) ?_
      cases h
      exact g_iret (pc := 49) rfl (by decide) rfl rfl dX12_isPlace_49
    · have h := g_iff c20 h
      refine g_iload_n (pc := 26) dX12_isPlace_26 rfl 3 rfl ?_
      refine g_i2l (pc := 27) dX12_isPlace_27 ?_
      refine g_lconst (pc := 28) (v := 0) dX12_isPlace_28 (by decide) ?_
      refine g_aload_n (pc := 29) dX12_isPlace_29 rfl 0 rfl ?_
      refine g_getR (pc := 30) wfX12_17 rfl rfl dX12_isPlace_30 ?_
      refine g_iconst (pc := 33) (v := 2) dX12_isPlace_33 (by decide) ?_
      refine g_iald (pc := 34) rfl (by decide) (j := 2) (by decide) dX12_isPlace_34 ?_
      refine g_iconst (pc := 35) (v := 1) dX12_isPlace_35 (by decide) ?_
      refine g_isub (pc := 36) dX12_isPlace_36 ?_
      refine g_i2l (pc := 37) dX12_isPlace_37 ?_
      obtain ⟨r23, σ22, h21, h⟩ := g_bId h
      refine g_callSi (pc := 38) (st := []) hE.1 wsX12_117 (kX12_isIn hE v3.toInt64 0 (((σ18.1 3 2) - 1).toInt64) σ18 h21) rfl (gR_ok (by decide) (by decide)) (Nat.le_of_ble_eq_true rfl) rfl dX12_isPlace_38 ?_
      refine g_if_eq (pc := 41) (tgt := 48) dX12_isPlace_41 (by decide) (fun c24 => ?_) (fun c24 => ?_)
      · have h := g_ift c24 h
        refine g_iconst (pc := 48) (v := 0) dX12_isPlace_48 (by decide) ?_
        cases h
        exact g_iret (pc := 49) rfl (by decide) rfl rfl dX12_isPlace_49
      · have h := g_iff c24 h
        refine g_iconst (pc := 44) (v := 1) dX12_isPlace_44 (by decide) ?_
        refine g_goto (pc := 45) (tgt := 49) dX12_isPlace_45 (by decide) ?_
        cases h
        exact g_iret (pc := 49) rfl (by decide) rfl rfl dX12_isPlace_49
def fX12_lost_b28 (n : Nat) (w : Nat) (K4 : Int32 → Int32 → gM → Option (Int32 × gM)) (v3 : Int32) (s0 : Int32) (s1 : Int32) (σ : gM) : Option (Int32 × gM) := K4 (s1 + s0) (v3 + 1) σ
set_option maxRecDepth 100000 in
theorem tX12_lost_b28 (hE : gEM l dC dI ad ca X) {r0 : Int32} {σ' : gM} (n : Nat) (w : Nat) (hw : shM[w]? = some (.inl (.int, 616))) (K4 : Int32 → Int32 → gM → Option (Int32 × gM)) (hK4 : ∀ (v2 : Int32) (v3 : Int32) (σ : gM), K4 v2 v3 σ = some (r0, σ') → g_G l dC dI ad ca shM X cX12_lost 4 RX12 (some .int) (gR 0) (some (.int r0)) σ' 4 [(0, .ref 0), (1, .ref w), (2, .int v2), (3, .int v3)] [] σ) (v3 : Int32) (s0 : Int32) (s1 : Int32)  (σ : gM) (h : fX12_lost_b28 n w K4 v3 s0 s1 σ = some (r0, σ')) : g_G l dC dI ad ca shM X cX12_lost 4 RX12 (some .int) (gR 0) (some (.int r0)) σ' 28 [(0, .ref 0), (1, .ref w), (3, .int v3)] [.int s0, .int s1] σ := by
  unfold fX12_lost_b28 at h
  refine g_iadd (pc := 28) dX12_lost_28 ?_
  refine g_istore_n (pc := 29) (lv1 := [(2, .int (s1 + s0)), (0, .ref 0), (1, .ref w), (3, .int v3)]) dX12_lost_29 rfl (by decide) rfl ?_
  refine g_iinc (pc := 30) (v := v3 + 1) (lv1 := [(3, .int (v3 + 1)), (2, .int (s1 + s0)), (0, .ref 0), (1, .ref w)]) dX12_lost_30 3 rfl rfl (by decide) rfl ?_
  refine g_goto (pc := 33) (tgt := 4) dX12_lost_33 (by decide) ?_
  exact g_lv [2, 3, 1, 0] rfl (hK4 (s1 + s0) (v3 + 1) σ h)
def fX12_lost_b4 (n : Nat) (w : Nat) (K4 : Int32 → Int32 → gM → Option (Int32 × gM)) (v2 : Int32) (v3 : Int32) (σ : gM) : Option (Int32 × gM) := if (σ.1 0 13) ≤ v3 then (some (v2, σ)) else (if ¬ ((384 + v3) < 0 ∨ 616 ≤ (384 + v3).toNatClampNeg) then (if (σ.1 w ((384 + v3).toNatClampNeg)) = 0 then (fX12_lost_b28 n w K4 v3 0 v2 σ) else (fX12_lost_b28 n w K4 v3 1 v2 σ)) else none)
set_option maxRecDepth 100000 in
theorem tX12_lost_b4 (hE : gEM l dC dI ad ca X) {r0 : Int32} {σ' : gM} (n : Nat) (w : Nat) (hw : shM[w]? = some (.inl (.int, 616))) (K4 : Int32 → Int32 → gM → Option (Int32 × gM)) (hK4 : ∀ (v2 : Int32) (v3 : Int32) (σ : gM), K4 v2 v3 σ = some (r0, σ') → g_G l dC dI ad ca shM X cX12_lost 4 RX12 (some .int) (gR 0) (some (.int r0)) σ' 4 [(0, .ref 0), (1, .ref w), (2, .int v2), (3, .int v3)] [] σ) (v2 : Int32) (v3 : Int32)  (σ : gM) (h : fX12_lost_b4 n w K4 v2 v3 σ = some (r0, σ')) : g_G l dC dI ad ca shM X cX12_lost 4 RX12 (some .int) (gR 0) (some (.int r0)) σ' 4 [(0, .ref 0), (1, .ref w), (2, .int v2), (3, .int v3)] [] σ := by
  unfold fX12_lost_b4 at h
  refine g_iload_n (pc := 4) dX12_lost_4 rfl 3 rfl ?_
  refine g_aload_n (pc := 5) dX12_lost_5 rfl 0 rfl ?_
  refine g_getI (pc := 6) wfX12_171 rfl rfl dX12_lost_6 ?_
  refine g_icmp_ge (pc := 9) (tgt := 36) dX12_lost_9 (by decide) (fun c4 => ?_) (fun c4 => ?_)
  · have h := g_ift c4 h
    refine g_iload_n (pc := 36) dX12_lost_36 rfl 2 rfl ?_
    cases h
    exact g_iret (pc := 37) rfl rfl rfl rfl dX12_lost_37
  · have h := g_iff c4 h
    refine g_iload_n (pc := 12) dX12_lost_12 rfl 2 rfl ?_
    refine g_aload_n (pc := 13) dX12_lost_13 rfl 1 rfl ?_
    refine g_sipush (pc := 14) (v := 384) dX12_lost_14 (by decide) ?_
    refine g_iload_n (pc := 17) dX12_lost_17 rfl 3 rfl ?_
    refine g_iadd (pc := 18) dX12_lost_18 ?_
    obtain ⟨c5, h⟩ := g_gd h
    refine g_iald (pc := 19) hw c5 rfl dX12_lost_19 ?_
    refine g_if_ne (pc := 20) (tgt := 27) dX12_lost_20 (by decide) (fun c6 => ?_) (fun c6 => ?_)
    · have h := g_iff c6 h
      refine g_iconst (pc := 27) (v := 1) dX12_lost_27 (by decide) ?_
      exact g_lv [0, 1, 3] rfl (tX12_lost_b28 hE n w hw K4 hK4 v3 1 v2 σ h)
    · have h := g_ift c6 h
      refine g_iconst (pc := 23) (v := 0) dX12_lost_23 (by decide) ?_
      refine g_goto (pc := 24) (tgt := 28) dX12_lost_24 (by decide) ?_
      exact g_lv [0, 1, 3] rfl (tX12_lost_b28 hE n w hw K4 hK4 v3 0 v2 σ h)
def fX12_lost_L4 (n : Nat) (w : Nat) : Nat → Int32 → Int32 → gM → Option (Int32 × gM)
  | 0 => fun _ _ _ => none
  | k + 1 => fX12_lost_b4 n w (fX12_lost_L4 n w k)
theorem tX12_lost_L4 (hE : gEM l dC dI ad ca X) {r0 : Int32} {σ' : gM} (n : Nat) (w : Nat) (hw : shM[w]? = some (.inl (.int, 616)))  : ∀ (k : Nat) (v2 : Int32) (v3 : Int32) (σ : gM), fX12_lost_L4 n w k v2 v3 σ = some (r0, σ') → g_G l dC dI ad ca shM X cX12_lost 4 RX12 (some .int) (gR 0) (some (.int r0)) σ' 4 [(0, .ref 0), (1, .ref w), (2, .int v2), (3, .int v3)] [] σ := by
  intro k
  induction k with
  | zero => intro v2 v3 σ h; cases h
  | succ k ih => intro v2 v3 σ h; exact tX12_lost_b4 hE n w hw (fX12_lost_L4 n w k) ih v2 v3 σ h
def fX12_lost (n : Nat) (w : Nat) (σ : gM) : Option (Int32 × gM) := fX12_lost_L4 n w n 0 0 σ
set_option maxRecDepth 100000 in
theorem kX12_lost (hE : gEM l dC dI ad ca X) (n : Nat) (w : Nat) (hw : shM[w]? = some (.inl (.int, 616)))  (σ : gM) {r0 : Int32} {σ' : gM} (h : fX12_lost n w σ = some (r0, σ')) : g_C l dC dI ad ca shM X yX12_lost cX12_lost 4 (some .int) (gR 0) [.ref 0, .ref w] σ (some (.int r0)) σ' := by
  refine g_entry (by decide +kernel) (Nat.le_of_ble_eq_true rfl) ?_
  refine g_lvE (lv1 := [(0, .ref 0), (1, .ref w)]) rfl ?_
  unfold fX12_lost at h
  refine g_iconst (pc := 0) (v := 0) dX12_lost_0 (by decide) ?_
  refine g_istore_n (pc := 1) (lv1 := [(2, .int 0), (0, .ref 0), (1, .ref w)]) dX12_lost_1 rfl (by decide) rfl ?_
  refine g_iconst (pc := 2) (v := 0) dX12_lost_2 (by decide) ?_
  refine g_istore_n (pc := 3) (lv1 := [(3, .int 0), (2, .int 0), (0, .ref 0), (1, .ref w)]) dX12_lost_3 rfl (by decide) rfl ?_
  exact g_lv [2, 3, 1, 0] rfl (tX12_lost_L4 hE n w hw n 0 0 σ h)
def fX12_isSmall (w : Nat) (v2 : Int32) (σ : gM) : Option (Int32 × gM) := g_bI (fX12_stripeOf v2 σ) (fun r30 σ29 => g_bI (fX12_partOf v2 σ29) (fun r33 σ32 => g_bI (fX12_diskOf r30 r33 σ32) (fun r36 σ35 => g_bI (fX12_isThere w r36 r30 σ35) (fun r39 σ38 => if r39 = 0 then (some (0, σ38)) else (g_bI (fX12_diskOf r30 (σ38.1 3 0) σ38) (fun r43 σ42 => g_bI (fX12_isThere w r43 r30 σ42) (fun r46 σ45 => if r46 = 0 then (some (0, σ45)) else (g_bI (fX12_diskOf r30 ((σ45.1 3 0) + 1) σ45) (fun r50 σ49 => g_bI (fX12_isThere w r50 r30 σ49) (fun r53 σ52 => if r53 = 0 then (some (0, σ52)) else (some (1, σ52))))))))))))
set_option maxRecDepth 100000 in
theorem kX12_isSmall (hE : gEM l dC dI ad ca X) (w : Nat) (hw : shM[w]? = some (.inl (.int, 616)))  (v2 : Int32) (σ : gM) {r0 : Int32} {σ' : gM} (h : fX12_isSmall w v2 σ = some (r0, σ')) : g_C l dC dI ad ca shM X yX12_isSmall cX12_isSmall 4 (some .boolean) (gR 2) [.ref 0, .ref w, .int v2] σ (some (.int r0)) σ' := by
  refine g_entry (by decide +kernel) (Nat.le_of_ble_eq_true rfl) ?_
  refine g_lvE (lv1 := [(0, .ref 0), (1, .ref w), (2, .int v2)]) rfl ?_
  unfold fX12_isSmall at h
  refine g_aload_n (pc := 0) dX12_isSmall_0 rfl 0 rfl ?_
  refine g_iload_n (pc := 1) dX12_isSmall_1 rfl 2 rfl ?_
  obtain ⟨r30, σ29, h28, h⟩ := g_bId h
  refine g_callVi (pc := 2) (st := []) hE.1 wvX12_217 rfl rfl (kX12_stripeOf hE v2 σ h28) rfl (gR_ok (by decide) (by decide)) (Nat.le_of_ble_eq_true rfl) rfl dX12_isSmall_2 ?_
  refine g_istore_n (pc := 5) (lv1 := [(3, .int r30), (0, .ref 0), (1, .ref w), (2, .int v2)]) dX12_isSmall_5 rfl (by decide) rfl ?_
  refine g_aload_n (pc := 6) dX12_isSmall_6 rfl 2 rfl ?_
  refine g_aload_n (pc := 7) dX12_isSmall_7 rfl 1 rfl ?_
  refine g_iload_n (pc := 8) dX12_isSmall_8 rfl 0 rfl ?_
  refine g_aload_n (pc := 9) dX12_isSmall_9 rfl 1 rfl ?_
  refine g_iload_n (pc := 10) dX12_isSmall_10 rfl 3 rfl ?_
  obtain ⟨r33, σ32, h31, h⟩ := g_bId h
  refine g_callVi (pc := 11) (st := [.int r30, .ref 0, .ref w]) hE.1 wvX12_230 rfl rfl (kX12_partOf hE v2 σ29 h31) rfl (gR_ok (by decide) (by decide)) (Nat.le_of_ble_eq_true rfl) rfl dX12_isSmall_11 ?_
  obtain ⟨r36, σ35, h34, h⟩ := g_bId h
  refine g_callVi (pc := 14) (st := [.ref w]) hE.1 wvX12_199 rfl rfl (kX12_diskOf hE r30 r33 σ32 h34) rfl (gR_ok (by decide) (by decide)) (Nat.le_of_ble_eq_true rfl) rfl dX12_isSmall_14 ?_
  refine g_iload_n (pc := 17) dX12_isSmall_17 rfl 0 rfl ?_
  obtain ⟨r39, σ38, h37, h⟩ := g_bId h
  refine g_callSi (pc := 18) (st := []) hE.1 wsX12_202 (kX12_isThere hE w hw r36 r30 σ35 h37) rfl (gR_ok (by decide) (by decide)) (Nat.le_of_ble_eq_true rfl) rfl dX12_isSmall_18 ?_
  refine g_if_eq (pc := 21) (tgt := 68) dX12_isSmall_21 (by decide) (fun c40 => ?_) (fun c40 => ?_)
  · have h := g_ift c40 h
    refine g_iconst (pc := 68) (v := 0) dX12_isSmall_68 (by decide) ?_
    cases h
    exact g_iret (pc := 69) rfl (by decide) rfl rfl dX12_isSmall_69
  · have h := g_iff c40 h
    refine g_aload_n (pc := 24) dX12_isSmall_24 rfl 2 rfl ?_
    refine g_aload_n (pc := 25) dX12_isSmall_25 rfl 1 rfl ?_
    refine g_iload_n (pc := 26) dX12_isSmall_26 rfl 0 rfl ?_
    refine g_aload_n (pc := 27) dX12_isSmall_27 rfl 1 rfl ?_
    refine g_getR (pc := 28) wfX12_17 rfl rfl dX12_isSmall_28 ?_
    refine g_iconst (pc := 31) (v := 0) dX12_isSmall_31 (by decide) ?_
    refine g_iald (pc := 32) rfl (by decide) (j := 0) (by decide) dX12_isSmall_32 ?_
    obtain ⟨r43, σ42, h41, h⟩ := g_bId h
    refine g_callVi (pc := 33) (st := [.ref w]) hE.1 wvX12_199 rfl rfl (kX12_diskOf hE r30 (σ38.1 3 0) σ38 h41) rfl (gR_ok (by decide) (by decide)) (Nat.le_of_ble_eq_true rfl) rfl dX12_isSmall_33 ?_
    refine g_iload_n (pc := 36) dX12_isSmall_36 rfl 0 rfl ?_
    obtain ⟨r46, σ45, h44, h⟩ := g_bId h
    refine g_callSi (pc := 37) (st := []) hE.1 wsX12_202 (kX12_isThere hE w hw r43 r30 σ42 h44) rfl (gR_ok (by decide) (by decide)) (Nat.le_of_ble_eq_true rfl) rfl dX12_isSmall_37 ?_
    refine g_if_eq (pc := 40) (tgt := 68) dX12_isSmall_40 (by decide) (fun c47 => ?_) (fun c47 => ?_)
    · have h := g_ift c47 h
      refine g_iconst (pc := 68) (v := 0) dX12_isSmall_68 (by decide) ?_
      cases h
      exact g_iret (pc := 69) rfl (by decide) rfl rfl dX12_isSmall_69
    · have h := g_iff c47 h
      refine g_aload_n (pc := 43) dX12_isSmall_43 rfl 2 rfl ?_
      refine g_aload_n (pc := 44) dX12_isSmall_44 rfl 1 rfl ?_
      refine g_iload_n (pc := 45) dX12_isSmall_45 rfl 0 rfl ?_
      refine g_aload_n (pc := 46) dX12_isSmall_46 rfl 1 rfl ?_
      refine g_getR (pc := 47) wfX12_17 rfl rfl dX12_isSmall_47 ?_
      refine g_iconst (pc := 50) (v := 0) dX12_isSmall_50 (by decide) ?_
      refine g_iald (pc := 51) rfl (by decide) (j := 0) (by decide) dX12_isSmall_51 ?_
      refine g_iconst (pc := 52) (v := 1) dX12_isSmall_52 (by decide) ?_
      refine g_iadd (pc := 53) dX12_isSmall_53 ?_
      obtain ⟨r50, σ49, h48, h⟩ := g_bId h
      refine g_callVi (pc := 54) (st := [.ref w]) hE.1 wvX12_199 rfl rfl (kX12_diskOf hE r30 ((σ45.1 3 0) + 1) σ45 h48) rfl (gR_ok (by decide) (by decide)) (Nat.le_of_ble_eq_true rfl) rfl dX12_isSmall_54 ?_
      refine g_iload_n (pc := 57) dX12_isSmall_57 rfl 0 rfl ?_
      obtain ⟨r53, σ52, h51, h⟩ := g_bId h
      refine g_callSi (pc := 58) (st := []) hE.1 wsX12_202 (kX12_isThere hE w hw r50 r30 σ49 h51) rfl (gR_ok (by decide) (by decide)) (Nat.le_of_ble_eq_true rfl) rfl dX12_isSmall_58 ?_
      refine g_if_eq (pc := 61) (tgt := 68) dX12_isSmall_61 (by decide) (fun c54 => ?_) (fun c54 => ?_)
      · have h := g_ift c54 h
        refine g_iconst (pc := 68) (v := 0) dX12_isSmall_68 (by decide) ?_
        cases h
        exact g_iret (pc := 69) rfl (by decide) rfl rfl dX12_isSmall_69
      · have h := g_iff c54 h
        refine g_iconst (pc := 64) (v := 1) dX12_isSmall_64 (by decide) ?_
        refine g_goto (pc := 65) (tgt := 69) dX12_isSmall_65 (by decide) ?_
        cases h
        exact g_iret (pc := 69) rfl (by decide) rfl rfl dX12_isSmall_69
def fX12_toClean_b39 (n : Nat) (w : Nat) (K4 : Int32 → Int32 → gM → Option (Int32 × gM)) (v3 : Int32) (s0 : Int32) (s1 : Int32) (σ : gM) : Option (Int32 × gM) := K4 (s1 ||| s0) (v3 + 1) σ
set_option maxRecDepth 100000 in
theorem tX12_toClean_b39 (hE : gEM l dC dI ad ca X) {r0 : Int32} {σ' : gM} (n : Nat) (w : Nat) (hw : shM[w]? = some (.inl (.int, 616))) (K4 : Int32 → Int32 → gM → Option (Int32 × gM)) (hK4 : ∀ (v2 : Int32) (v3 : Int32) (σ : gM), K4 v2 v3 σ = some (r0, σ') → g_G l dC dI ad ca shM X cX12_toClean 4 RX12 (some .int) (gR 2) (some (.int r0)) σ' 4 [(0, .ref 0), (1, .ref w), (2, .int v2), (3, .int v3)] [] σ) (v3 : Int32) (s0 : Int32) (s1 : Int32)  (σ : gM) (h : fX12_toClean_b39 n w K4 v3 s0 s1 σ = some (r0, σ')) : g_G l dC dI ad ca shM X cX12_toClean 4 RX12 (some .int) (gR 2) (some (.int r0)) σ' 39 [(0, .ref 0), (1, .ref w), (3, .int v3)] [.int s0, .int s1] σ := by
  unfold fX12_toClean_b39 at h
  refine g_ior (pc := 39) dX12_toClean_39 ?_
  refine g_istore_n (pc := 40) (lv1 := [(2, .int (s1 ||| s0)), (0, .ref 0), (1, .ref w), (3, .int v3)]) dX12_toClean_40 rfl (by decide) rfl ?_
  refine g_iinc (pc := 41) (v := v3 + 1) (lv1 := [(3, .int (v3 + 1)), (2, .int (s1 ||| s0)), (0, .ref 0), (1, .ref w)]) dX12_toClean_41 3 rfl rfl (by decide) rfl ?_
  refine g_goto (pc := 44) (tgt := 4) dX12_toClean_44 (by decide) ?_
  exact g_lv [2, 3, 1, 0] rfl (hK4 (s1 ||| s0) (v3 + 1) σ h)
def fX12_toClean_b38 (n : Nat) (w : Nat) (K4 : Int32 → Int32 → gM → Option (Int32 × gM)) (v3 : Int32) (s0 : Int32) (σ : gM) : Option (Int32 × gM) := fX12_toClean_b39 n w K4 v3 0 s0 σ
set_option maxRecDepth 100000 in
theorem tX12_toClean_b38 (hE : gEM l dC dI ad ca X) {r0 : Int32} {σ' : gM} (n : Nat) (w : Nat) (hw : shM[w]? = some (.inl (.int, 616))) (K4 : Int32 → Int32 → gM → Option (Int32 × gM)) (hK4 : ∀ (v2 : Int32) (v3 : Int32) (σ : gM), K4 v2 v3 σ = some (r0, σ') → g_G l dC dI ad ca shM X cX12_toClean 4 RX12 (some .int) (gR 2) (some (.int r0)) σ' 4 [(0, .ref 0), (1, .ref w), (2, .int v2), (3, .int v3)] [] σ) (v3 : Int32) (s0 : Int32)  (σ : gM) (h : fX12_toClean_b38 n w K4 v3 s0 σ = some (r0, σ')) : g_G l dC dI ad ca shM X cX12_toClean 4 RX12 (some .int) (gR 2) (some (.int r0)) σ' 38 [(0, .ref 0), (1, .ref w), (3, .int v3)] [.int s0] σ := by
  unfold fX12_toClean_b38 at h
  refine g_iconst (pc := 38) (v := 0) dX12_toClean_38 (by decide) ?_
  exact g_lv [0, 1, 2] rfl (tX12_toClean_b39 hE n w hw K4 hK4 v3 0 s0 σ h)
def fX12_toClean_b4 (n : Nat) (w : Nat) (K4 : Int32 → Int32 → gM → Option (Int32 × gM)) (v2 : Int32) (v3 : Int32) (σ : gM) : Option (Int32 × gM) := if (σ.1 3 1) ≤ v3 then (some (v2, σ)) else (g_bI (fX12_isDirty w v3 σ) (fun r13 σ12 => if r13 = 0 then (fX12_toClean_b38 n w K4 v3 v2 σ12) else (g_bI (fX12_isAll n w v3 σ12) (fun r17 σ16 => if r17 = 0 then (fX12_toClean_b38 n w K4 v3 v2 σ16) else (fX12_toClean_b39 n w K4 v3 (1 <<< (v3 &&& 31)) v2 σ16)))))
set_option maxRecDepth 100000 in
theorem tX12_toClean_b4 (hE : gEM l dC dI ad ca X) {r0 : Int32} {σ' : gM} (n : Nat) (w : Nat) (hw : shM[w]? = some (.inl (.int, 616))) (K4 : Int32 → Int32 → gM → Option (Int32 × gM)) (hK4 : ∀ (v2 : Int32) (v3 : Int32) (σ : gM), K4 v2 v3 σ = some (r0, σ') → g_G l dC dI ad ca shM X cX12_toClean 4 RX12 (some .int) (gR 2) (some (.int r0)) σ' 4 [(0, .ref 0), (1, .ref w), (2, .int v2), (3, .int v3)] [] σ) (v2 : Int32) (v3 : Int32)  (σ : gM) (h : fX12_toClean_b4 n w K4 v2 v3 σ = some (r0, σ')) : g_G l dC dI ad ca shM X cX12_toClean 4 RX12 (some .int) (gR 2) (some (.int r0)) σ' 4 [(0, .ref 0), (1, .ref w), (2, .int v2), (3, .int v3)] [] σ := by
  unfold fX12_toClean_b4 at h
  refine g_iload_n (pc := 4) dX12_toClean_4 rfl 3 rfl ?_
  refine g_aload_n (pc := 5) dX12_toClean_5 rfl 0 rfl ?_
  refine g_getR (pc := 6) wfX12_17 rfl rfl dX12_toClean_6 ?_
  refine g_iconst (pc := 9) (v := 1) dX12_toClean_9 (by decide) ?_
  refine g_iald (pc := 10) rfl (by decide) (j := 1) (by decide) dX12_toClean_10 ?_
  refine g_icmp_ge (pc := 11) (tgt := 47) dX12_toClean_11 (by decide) (fun c10 => ?_) (fun c10 => ?_)
  · have h := g_ift c10 h
    refine g_iload_n (pc := 47) dX12_toClean_47 rfl 2 rfl ?_
    cases h
    exact g_iret (pc := 48) rfl rfl rfl rfl dX12_toClean_48
  · have h := g_iff c10 h
    refine g_iload_n (pc := 14) dX12_toClean_14 rfl 2 rfl ?_
    refine g_aload_n (pc := 15) dX12_toClean_15 rfl 1 rfl ?_
    refine g_iload_n (pc := 16) dX12_toClean_16 rfl 3 rfl ?_
    obtain ⟨r13, σ12, h11, h⟩ := g_bId h
    refine g_callSi (pc := 17) (st := [.int v2]) hE.1 wsX12_271 (kX12_isDirty hE w hw v3 σ h11) rfl (gR_ok (by decide) (by decide)) (Nat.le_of_ble_eq_true rfl) rfl dX12_toClean_17 ?_
    refine g_if_eq (pc := 20) (tgt := 38) dX12_toClean_20 (by decide) (fun c14 => ?_) (fun c14 => ?_)
    · have h := g_ift c14 h
      exact g_lv [0, 1, 3] rfl (tX12_toClean_b38 hE n w hw K4 hK4 v3 v2 σ12 h)
    · have h := g_iff c14 h
      refine g_aload_n (pc := 23) dX12_toClean_23 rfl 0 rfl ?_
      refine g_aload_n (pc := 24) dX12_toClean_24 rfl 1 rfl ?_
      refine g_iload_n (pc := 25) dX12_toClean_25 rfl 3 rfl ?_
      obtain ⟨r17, σ16, h15, h⟩ := g_bId h
      refine g_callVi (pc := 26) (st := [.int v2]) hE.1 wvX12_267 rfl rfl (kX12_isAll hE n w hw v3 σ12 h15) rfl (gR_ok (by decide) (by decide)) (Nat.le_of_ble_eq_true rfl) rfl dX12_toClean_26 ?_
      refine g_if_eq (pc := 29) (tgt := 38) dX12_toClean_29 (by decide) (fun c18 => ?_) (fun c18 => ?_)
      · have h := g_ift c18 h
        exact g_lv [0, 1, 3] rfl (tX12_toClean_b38 hE n w hw K4 hK4 v3 v2 σ16 h)
      · have h := g_iff c18 h
        refine g_iconst (pc := 32) (v := 1) dX12_toClean_32 (by decide) ?_
        refine g_iload_n (pc := 33) dX12_toClean_33 rfl 3 rfl ?_
        refine g_ishl (pc := 34) dX12_toClean_34 ?_
        refine g_goto (pc := 35) (tgt := 39) dX12_toClean_35 (by decide) ?_
        exact g_lv [0, 1, 3] rfl (tX12_toClean_b39 hE n w hw K4 hK4 v3 (1 <<< (v3 &&& 31)) v2 σ16 h)
def fX12_toClean_L4 (n : Nat) (w : Nat) : Nat → Int32 → Int32 → gM → Option (Int32 × gM)
  | 0 => fun _ _ _ => none
  | k + 1 => fX12_toClean_b4 n w (fX12_toClean_L4 n w k)
theorem tX12_toClean_L4 (hE : gEM l dC dI ad ca X) {r0 : Int32} {σ' : gM} (n : Nat) (w : Nat) (hw : shM[w]? = some (.inl (.int, 616)))  : ∀ (k : Nat) (v2 : Int32) (v3 : Int32) (σ : gM), fX12_toClean_L4 n w k v2 v3 σ = some (r0, σ') → g_G l dC dI ad ca shM X cX12_toClean 4 RX12 (some .int) (gR 2) (some (.int r0)) σ' 4 [(0, .ref 0), (1, .ref w), (2, .int v2), (3, .int v3)] [] σ := by
  intro k
  induction k with
  | zero => intro v2 v3 σ h; cases h
  | succ k ih => intro v2 v3 σ h; exact tX12_toClean_b4 hE n w hw (fX12_toClean_L4 n w k) ih v2 v3 σ h
def fX12_toClean (n : Nat) (w : Nat) (σ : gM) : Option (Int32 × gM) := fX12_toClean_L4 n w n 0 0 σ
set_option maxRecDepth 100000 in
theorem kX12_toClean (hE : gEM l dC dI ad ca X) (n : Nat) (w : Nat) (hw : shM[w]? = some (.inl (.int, 616)))  (σ : gM) {r0 : Int32} {σ' : gM} (h : fX12_toClean n w σ = some (r0, σ')) : g_C l dC dI ad ca shM X yX12_toClean cX12_toClean 4 (some .int) (gR 2) [.ref 0, .ref w] σ (some (.int r0)) σ' := by
  refine g_entry (by decide +kernel) (Nat.le_of_ble_eq_true rfl) ?_
  refine g_lvE (lv1 := [(0, .ref 0), (1, .ref w)]) rfl ?_
  unfold fX12_toClean at h
  refine g_iconst (pc := 0) (v := 0) dX12_toClean_0 (by decide) ?_
  refine g_istore_n (pc := 1) (lv1 := [(2, .int 0), (0, .ref 0), (1, .ref w)]) dX12_toClean_1 rfl (by decide) rfl ?_
  refine g_iconst (pc := 2) (v := 0) dX12_toClean_2 (by decide) ?_
  refine g_istore_n (pc := 3) (lv1 := [(3, .int 0), (2, .int 0), (0, .ref 0), (1, .ref w)]) dX12_toClean_3 rfl (by decide) rfl ?_
  exact g_lv [2, 3, 1, 0] rfl (tX12_toClean_L4 hE n w hw n 0 0 σ h)
def fX12_bitsOf_b4 (n : Nat) (K4 : Int32 → Int32 → Int32 → gM → Option (Int32 × gM)) (v0 : Int32) (v1 : Int32) (v2 : Int32) (σ : gM) : Option (Int32 × gM) := if 31 ≤ v2 then (some (v1, σ)) else (K4 v0 (v1 + ((v0 >>> (v2 &&& 31)) &&& 1)) (v2 + 1) σ)
set_option maxRecDepth 100000 in
theorem tX12_bitsOf_b4 (hE : gEM l dC dI ad ca X) {r0 : Int32} {σ' : gM} (n : Nat) (K4 : Int32 → Int32 → Int32 → gM → Option (Int32 × gM)) (hK4 : ∀ (v0 : Int32) (v1 : Int32) (v2 : Int32) (σ : gM), K4 v0 v1 v2 σ = some (r0, σ') → g_G l dC dI ad ca shM X cX12_bitsOf 3 RX12 (some .int) (gR 0) (some (.int r0)) σ' 4 [(0, .int v0), (1, .int v1), (2, .int v2)] [] σ) (v0 : Int32) (v1 : Int32) (v2 : Int32)  (σ : gM) (h : fX12_bitsOf_b4 n K4 v0 v1 v2 σ = some (r0, σ')) : g_G l dC dI ad ca shM X cX12_bitsOf 3 RX12 (some .int) (gR 0) (some (.int r0)) σ' 4 [(0, .int v0), (1, .int v1), (2, .int v2)] [] σ := by
  unfold fX12_bitsOf_b4 at h
  refine g_iload_n (pc := 4) dX12_bitsOf_4 rfl 2 rfl ?_
  refine g_bipush (pc := 5) (v := 31) dX12_bitsOf_5 (by decide) ?_
  refine g_icmp_ge (pc := 7) (tgt := 24) dX12_bitsOf_7 (by decide) (fun c2 => ?_) (fun c2 => ?_)
  · have h := g_ift c2 h
    refine g_iload_n (pc := 24) dX12_bitsOf_24 rfl 1 rfl ?_
    cases h
    exact g_iret (pc := 25) rfl rfl rfl rfl dX12_bitsOf_25
  · have h := g_iff c2 h
    refine g_iload_n (pc := 10) dX12_bitsOf_10 rfl 1 rfl ?_
    refine g_iload_n (pc := 11) dX12_bitsOf_11 rfl 0 rfl ?_
    refine g_iload_n (pc := 12) dX12_bitsOf_12 rfl 2 rfl ?_
    refine g_ishr (pc := 13) dX12_bitsOf_13 ?_
    refine g_iconst (pc := 14) (v := 1) dX12_bitsOf_14 (by decide) ?_
    refine g_iand (pc := 15) dX12_bitsOf_15 ?_
    refine g_iadd (pc := 16) dX12_bitsOf_16 ?_
    refine g_istore_n (pc := 17) (lv1 := [(1, .int (v1 + ((v0 >>> (v2 &&& 31)) &&& 1))), (0, .int v0), (2, .int v2)]) dX12_bitsOf_17 rfl (by decide) rfl ?_
    refine g_iinc (pc := 18) (v := v2 + 1) (lv1 := [(2, .int (v2 + 1)), (1, .int (v1 + ((v0 >>> (v2 &&& 31)) &&& 1))), (0, .int v0)]) dX12_bitsOf_18 2 rfl rfl (by decide) rfl ?_
    refine g_goto (pc := 21) (tgt := 4) dX12_bitsOf_21 (by decide) ?_
    exact g_lv [2, 1, 0] rfl (hK4 v0 (v1 + ((v0 >>> (v2 &&& 31)) &&& 1)) (v2 + 1) σ h)
def fX12_bitsOf_L4 (n : Nat) : Nat → Int32 → Int32 → Int32 → gM → Option (Int32 × gM)
  | 0 => fun _ _ _ _ => none
  | k + 1 => fX12_bitsOf_b4 n (fX12_bitsOf_L4 n k)
theorem tX12_bitsOf_L4 (hE : gEM l dC dI ad ca X) {r0 : Int32} {σ' : gM} (n : Nat)  : ∀ (k : Nat) (v0 : Int32) (v1 : Int32) (v2 : Int32) (σ : gM), fX12_bitsOf_L4 n k v0 v1 v2 σ = some (r0, σ') → g_G l dC dI ad ca shM X cX12_bitsOf 3 RX12 (some .int) (gR 0) (some (.int r0)) σ' 4 [(0, .int v0), (1, .int v1), (2, .int v2)] [] σ := by
  intro k
  induction k with
  | zero => intro v0 v1 v2 σ h; cases h
  | succ k ih => intro v0 v1 v2 σ h; exact tX12_bitsOf_b4 hE n (fX12_bitsOf_L4 n k) ih v0 v1 v2 σ h
def fX12_bitsOf (n : Nat) (v0 : Int32) (σ : gM) : Option (Int32 × gM) := fX12_bitsOf_L4 n n v0 0 0 σ
set_option maxRecDepth 100000 in
theorem kX12_bitsOf (hE : gEM l dC dI ad ca X) (n : Nat)  (v0 : Int32) (σ : gM) {r0 : Int32} {σ' : gM} (h : fX12_bitsOf n v0 σ = some (r0, σ')) : g_C l dC dI ad ca shM X yX12_bitsOf cX12_bitsOf 3 (some .int) (gR 0) [.int v0] σ (some (.int r0)) σ' := by
  refine g_entry (by decide +kernel) (Nat.le_of_ble_eq_true rfl) ?_
  refine g_lvE (lv1 := [(0, .int v0)]) rfl ?_
  unfold fX12_bitsOf at h
  refine g_iconst (pc := 0) (v := 0) dX12_bitsOf_0 (by decide) ?_
  refine g_istore_n (pc := 1) (lv1 := [(1, .int 0), (0, .int v0)]) dX12_bitsOf_1 rfl (by decide) rfl ?_
  refine g_iconst (pc := 2) (v := 0) dX12_bitsOf_2 (by decide) ?_
  refine g_istore_n (pc := 3) (lv1 := [(2, .int 0), (1, .int 0), (0, .int v0)]) dX12_bitsOf_3 rfl (by decide) rfl ?_
  exact g_lv [2, 1, 0] rfl (tX12_bitsOf_L4 hE n n v0 0 0 σ h)
def fX12_stops_b321 (n : Nat) (w : Nat) (σ : gM) : Option (Int32 × gM) := some (1, σ)
set_option maxRecDepth 100000 in
theorem tX12_stops_b321 (hE : gEM l dC dI ad ca X) {r0 : Int32} {σ' : gM} (n : Nat) (w : Nat) (hw : shM[w]? = some (.inl (.int, 616)))  (σ : gM) (h : fX12_stops_b321 n w σ = some (r0, σ')) : g_G l dC dI ad ca shM X cX12_stops 7 RX12 (some .int) (gR 3) (some (.int r0)) σ' 321 [] [] σ := by
  unfold fX12_stops_b321 at h
  refine g_iconst (pc := 321) (v := 1) dX12_stops_321 (by decide) ?_
  refine g_goto (pc := 322) (tgt := 339) dX12_stops_322 (by decide) ?_
  cases h
  exact g_iret (pc := 339) rfl rfl rfl rfl dX12_stops_339
def fX12_stops_b385 (n : Nat) (w : Nat) (σ : gM) : Option (Int32 × gM) := some (1, σ)
set_option maxRecDepth 100000 in
theorem tX12_stops_b385 (hE : gEM l dC dI ad ca X) {r0 : Int32} {σ' : gM} (n : Nat) (w : Nat) (hw : shM[w]? = some (.inl (.int, 616)))  (σ : gM) (h : fX12_stops_b385 n w σ = some (r0, σ')) : g_G l dC dI ad ca shM X cX12_stops 7 RX12 (some .int) (gR 3) (some (.int r0)) σ' 385 [] [] σ := by
  unfold fX12_stops_b385 at h
  refine g_iconst (pc := 385) (v := 1) dX12_stops_385 (by decide) ?_
  refine g_goto (pc := 386) (tgt := 390) dX12_stops_386 (by decide) ?_
  cases h
  exact g_iret (pc := 390) rfl rfl rfl rfl dX12_stops_390
def fX12_stops (n : Nat) (w : Nat) (v2 : Int32) (v3 : Int32) (v4 : Int32) (v5 : Int32) (v6 : Int32) (σ : gM) : Option (Int32 × gM) := if (σ.1 0 14) = 0 then (some (0, σ)) else (if v2 = 0 then (g_bI (fX12_isAddress v3 σ) (fun r100 σ99 => if r100 = 0 then (some (0, σ99)) else (g_bI (fX12_isByte v4 σ99) (fun r104 σ103 => if r104 = 0 then (some (1, σ103)) else (some ((-1), σ103)))))) else (if v2 = 1 then (g_bI (fX12_isDisk v3 σ) (fun r109 σ108 => if r109 = 0 then (some (0, σ108)) else (if ¬ ((384 + v3) < 0 ∨ 616 ≤ (384 + v3).toNatClampNeg) then (if (σ108.1 w ((384 + v3).toNatClampNeg)) = 1 then (some (2, σ108)) else (if ¬ ((384 + v3) < 0 ∨ 616 ≤ (384 + v3).toNatClampNeg) then (if (σ108.1 w ((384 + v3).toNatClampNeg)) = 0 then (g_bI (fX12_lost n w σ108) (fun r117 σ116 => if r117 ≤ 1 then (some ((-1), σ116)) else (some (3, σ116)))) else (some ((-1), σ108))) else none)) else none))) else (if v2 = 2 then (g_bI (fX12_isDisk v3 σ) (fun r122 σ121 => if r122 = 0 then (some (0, σ121)) else (if ¬ ((384 + v3) < 0 ∨ 616 ≤ (384 + v3).toNatClampNeg) then (if (σ121.1 w ((384 + v3).toNatClampNeg)) = 1 then (if (σ121.1 w 424) = 0 then (some (3, σ121)) else (some ((-1), σ121))) else (some (2, σ121))) else none))) else (if v2 = 3 then (g_bI (fX12_isDisk v3 σ) (fun r130 σ129 => if r130 = 0 then (some (0, σ129)) else (g_bI (fX12_isIn v4.toInt64 1 12 σ129) (fun r134 σ133 => if r134 = 0 then (some (1, σ133)) else (if ¬ ((384 + v3) < 0 ∨ 616 ≤ (384 + v3).toNatClampNeg) then (if (σ133.1 w ((384 + v3).toNatClampNeg)) = 2 then (some ((-1), σ133)) else (some (2, σ133))) else none))))) else (if v2 = 4 then (g_bI (fX12_isIn v3.toInt64 1 12 σ) (fun r141 σ140 => if r141 = 0 then (some (1, σ140)) else (some ((-1), σ140)))) else (if v2 = 5 then (g_bI (fX12_isPlace v3 v4 v5 σ) (fun r146 σ145 => if r146 = 0 then (some (0, σ145)) else (g_bI (fX12_isIn v6.toInt64 1 255 σ145) (fun r150 σ149 => if r150 = 0 then (some (1, σ149)) else (g_bI (fX12_isThere w v3 v4 σ149) (fun r154 σ153 => if r154 = 0 then (some (2, σ153)) else (some ((-1), σ153)))))))) else (if v2 = 6 then (g_bI (fX12_isAddress v3 σ) (fun r159 σ158 => if r159 = 0 then (some (0, σ158)) else (g_bI (fX12_isByte v4 σ158) (fun r163 σ162 => if r163 = 0 then (fX12_stops_b321 n w σ162) else (g_bI (fX12_isIn v5.toInt64 0 2 σ162) (fun r167 σ166 => if r167 = 0 then (fX12_stops_b321 n w σ166) else (g_bI (fX12_isSmall w v3 σ166) (fun r171 σ170 => if r171 = 0 then (some (2, σ170)) else (some ((-1), σ170)))))))))) else (if v2 = 7 then (g_bI (fX12_toClean n w σ) (fun r176 σ175 => if r176 = 0 then (some (2, σ175)) else (some ((-1), σ175)))) else (g_bI (fX12_isPlace 0 v3 v4 σ) (fun r180 σ179 => if r180 = 0 then (some (0, σ179)) else (g_bI (fX12_isByte v5 σ179) (fun r184 σ183 => if r184 = 0 then (fX12_stops_b385 n w σ183) else (g_bI (fX12_isByte v6 σ183) (fun r188 σ187 => if r188 = 0 then (fX12_stops_b385 n w σ187) else (some ((-1), σ187))))))))))))))))
set_option maxRecDepth 100000 in
theorem kX12_stops (hE : gEM l dC dI ad ca X) (n : Nat) (w : Nat) (hw : shM[w]? = some (.inl (.int, 616)))  (v2 : Int32) (v3 : Int32) (v4 : Int32) (v5 : Int32) (v6 : Int32) (σ : gM) {r0 : Int32} {σ' : gM} (h : fX12_stops n w v2 v3 v4 v5 v6 σ = some (r0, σ')) : g_C l dC dI ad ca shM X yX12_stops cX12_stops 7 (some .int) (gR 3) [.ref 0, .ref w, .int v2, .int v3, .int v4, .int v5, .int v6] σ (some (.int r0)) σ' := by
  refine g_entry (by decide +kernel) (Nat.le_of_ble_eq_true rfl) ?_
  refine g_lvE (lv1 := [(0, .ref 0), (1, .ref w), (2, .int v2), (3, .int v3), (4, .int v4), (5, .int v5), (6, .int v6)]) rfl ?_
  unfold fX12_stops at h
  refine g_aload_n (pc := 0) dX12_stops_0 rfl 0 rfl ?_
  refine g_getI (pc := 1) wfX12_153 rfl rfl dX12_stops_1 ?_
  refine g_if_ne (pc := 4) (tgt := 9) dX12_stops_4 (by decide) (fun c96 => ?_) (fun c96 => ?_)
  · have h := g_iff c96 h
    refine g_iload_n (pc := 9) dX12_stops_9 rfl 2 rfl ?_
    by_cases c97 : v2 = 0
    · have h := g_ift c97 h
      refine g_tabIn (pc := 10) (tgt := 56) (off := 46) dX12_stops_10 (by rw [c97]; decide) (by rw [c97]; decide) (by rw [c97]; decide) (by decide) ?_
      refine g_aload_n (pc := 56) dX12_stops_56 rfl 0 rfl ?_
      refine g_iload_n (pc := 57) dX12_stops_57 rfl 3 rfl ?_
      obtain ⟨r100, σ99, h98, h⟩ := g_bId h
      refine g_callVi (pc := 58) (st := []) hE.1 wvX12_281 rfl rfl (kX12_isAddress hE v3 σ h98) rfl (gR_ok (by decide) (by decide)) (Nat.le_of_ble_eq_true rfl) rfl dX12_stops_58 ?_
      refine g_if_ne (pc := 61) (tgt := 68) dX12_stops_61 (by decide) (fun c101 => ?_) (fun c101 => ?_)
      · have h := g_iff c101 h
        refine g_iload (pc := 68) dX12_stops_68 4 rfl ?_
        obtain ⟨r104, σ103, h102, h⟩ := g_bId h
        refine g_callSi (pc := 70) (st := []) hE.1 wsX12_156 (kX12_isByte hE v4 σ99 h102) rfl (gR_ok (by decide) (by decide)) (Nat.le_of_ble_eq_true rfl) rfl dX12_stops_70 ?_
        refine g_if_eq (pc := 73) (tgt := 80) dX12_stops_73 (by decide) (fun c105 => ?_) (fun c105 => ?_)
        · have h := g_ift c105 h
          refine g_iconst (pc := 80) (v := 1) dX12_stops_80 (by decide) ?_
          cases h
          exact g_iret (pc := 81) rfl rfl rfl rfl dX12_stops_81
        · have h := g_iff c105 h
          refine g_iconst (pc := 76) (v := (-1)) dX12_stops_76 (by decide) ?_
          refine g_goto (pc := 77) (tgt := 81) dX12_stops_77 (by decide) ?_
          cases h
          exact g_iret (pc := 81) rfl rfl rfl rfl dX12_stops_81
      · have h := g_ift c101 h
        refine g_iconst (pc := 64) (v := 0) dX12_stops_64 (by decide) ?_
        refine g_goto (pc := 65) (tgt := 81) dX12_stops_65 (by decide) ?_
        cases h
        exact g_iret (pc := 81) rfl rfl rfl rfl dX12_stops_81
    have h := g_iff c97 h
    by_cases c106 : v2 = 1
    · have h := g_ift c106 h
      refine g_tabIn (pc := 10) (tgt := 82) (off := 72) dX12_stops_10 (by rw [c106]; decide) (by rw [c106]; decide) (by rw [c106]; decide) (by decide) ?_
      refine g_aload_n (pc := 82) dX12_stops_82 rfl 0 rfl ?_
      refine g_iload_n (pc := 83) dX12_stops_83 rfl 3 rfl ?_
      obtain ⟨r109, σ108, h107, h⟩ := g_bId h
      refine g_callVi (pc := 84) (st := []) hE.1 wvX12_278 rfl rfl (kX12_isDisk hE v3 σ h107) rfl (gR_ok (by decide) (by decide)) (Nat.le_of_ble_eq_true rfl) rfl dX12_stops_84 ?_
      refine g_if_ne (pc := 87) (tgt := 94) dX12_stops_87 (by decide) (fun c110 => ?_) (fun c110 => ?_)
      · have h := g_iff c110 h
        refine g_aload_n (pc := 94) dX12_stops_94 rfl 1 rfl ?_
        refine g_sipush (pc := 95) (v := 384) dX12_stops_95 (by decide) ?_
        refine g_iload_n (pc := 98) dX12_stops_98 rfl 3 rfl ?_
        refine g_iadd (pc := 99) dX12_stops_99 ?_
        obtain ⟨c111, h⟩ := g_gd h
        refine g_iald (pc := 100) hw c111 rfl dX12_stops_100 ?_
        refine g_iconst (pc := 101) (v := 1) dX12_stops_101 (by decide) ?_
        refine g_icmp_ne (pc := 102) (tgt := 109) dX12_stops_102 (by decide) (fun c112 => ?_) (fun c112 => ?_)
        · have h := g_iff c112 h
          refine g_aload_n (pc := 109) dX12_stops_109 rfl 1 rfl ?_
          refine g_sipush (pc := 110) (v := 384) dX12_stops_110 (by decide) ?_
          refine g_iload_n (pc := 113) dX12_stops_113 rfl 3 rfl ?_
          refine g_iadd (pc := 114) dX12_stops_114 ?_
          obtain ⟨c113, h⟩ := g_gd h
          refine g_iald (pc := 115) hw c113 rfl dX12_stops_115 ?_
          refine g_if_ne (pc := 116) (tgt := 132) dX12_stops_116 (by decide) (fun c114 => ?_) (fun c114 => ?_)
          · have h := g_iff c114 h
            refine g_iconst (pc := 132) (v := (-1)) dX12_stops_132 (by decide) ?_
            cases h
            exact g_iret (pc := 133) rfl rfl rfl rfl dX12_stops_133
          · have h := g_ift c114 h
            refine g_aload_n (pc := 119) dX12_stops_119 rfl 0 rfl ?_
            refine g_aload_n (pc := 120) dX12_stops_120 rfl 1 rfl ?_
            obtain ⟨r117, σ116, h115, h⟩ := g_bId h
            refine g_callVi (pc := 121) (st := []) hE.1 wvX12_284 rfl rfl (kX12_lost hE n w hw σ108 h115) rfl (gR_ok (by decide) (by decide)) (Nat.le_of_ble_eq_true rfl) rfl dX12_stops_121 ?_
            refine g_iconst (pc := 124) (v := 1) dX12_stops_124 (by decide) ?_
            refine g_icmp_le (pc := 125) (tgt := 132) dX12_stops_125 (by decide) (fun c118 => ?_) (fun c118 => ?_)
            · have h := g_ift c118 h
              refine g_iconst (pc := 132) (v := (-1)) dX12_stops_132 (by decide) ?_
              cases h
              exact g_iret (pc := 133) rfl rfl rfl rfl dX12_stops_133
            · have h := g_iff c118 h
              refine g_iconst (pc := 128) (v := 3) dX12_stops_128 (by decide) ?_
              refine g_goto (pc := 129) (tgt := 133) dX12_stops_129 (by decide) ?_
              cases h
              exact g_iret (pc := 133) rfl rfl rfl rfl dX12_stops_133
        · have h := g_ift c112 h
          refine g_iconst (pc := 105) (v := 2) dX12_stops_105 (by decide) ?_
          refine g_goto (pc := 106) (tgt := 133) dX12_stops_106 (by decide) ?_
          cases h
          exact g_iret (pc := 133) rfl rfl rfl rfl dX12_stops_133
      · have h := g_ift c110 h
        refine g_iconst (pc := 90) (v := 0) dX12_stops_90 (by decide) ?_
        refine g_goto (pc := 91) (tgt := 133) dX12_stops_91 (by decide) ?_
        cases h
        exact g_iret (pc := 133) rfl rfl rfl rfl dX12_stops_133
    have h := g_iff c106 h
    by_cases c119 : v2 = 2
    · have h := g_ift c119 h
      refine g_tabIn (pc := 10) (tgt := 134) (off := 124) dX12_stops_10 (by rw [c119]; decide) (by rw [c119]; decide) (by rw [c119]; decide) (by decide) ?_
      refine g_aload_n (pc := 134) dX12_stops_134 rfl 0 rfl ?_
      refine g_iload_n (pc := 135) dX12_stops_135 rfl 3 rfl ?_
      obtain ⟨r122, σ121, h120, h⟩ := g_bId h
      refine g_callVi (pc := 136) (st := []) hE.1 wvX12_278 rfl rfl (kX12_isDisk hE v3 σ h120) rfl (gR_ok (by decide) (by decide)) (Nat.le_of_ble_eq_true rfl) rfl dX12_stops_136 ?_
      refine g_if_ne (pc := 139) (tgt := 146) dX12_stops_139 (by decide) (fun c123 => ?_) (fun c123 => ?_)
      · have h := g_iff c123 h
        refine g_aload_n (pc := 146) dX12_stops_146 rfl 1 rfl ?_
        refine g_sipush (pc := 147) (v := 384) dX12_stops_147 (by decide) ?_
        refine g_iload_n (pc := 150) dX12_stops_150 rfl 3 rfl ?_
        refine g_iadd (pc := 151) dX12_stops_151 ?_
        obtain ⟨c124, h⟩ := g_gd h
        refine g_iald (pc := 152) hw c124 rfl dX12_stops_152 ?_
        refine g_iconst (pc := 153) (v := 1) dX12_stops_153 (by decide) ?_
        refine g_icmp_eq (pc := 154) (tgt := 161) dX12_stops_154 (by decide) (fun c125 => ?_) (fun c125 => ?_)
        · have h := g_ift c125 h
          refine g_aload_n (pc := 161) dX12_stops_161 rfl 1 rfl ?_
          refine g_sipush (pc := 162) (v := 424) dX12_stops_162 (by decide) ?_
          refine g_iald (pc := 165) hw (by decide) (j := 424) (by decide) dX12_stops_165 ?_
          refine g_if_ne (pc := 166) (tgt := 173) dX12_stops_166 (by decide) (fun c126 => ?_) (fun c126 => ?_)
          · have h := g_iff c126 h
            refine g_iconst (pc := 173) (v := (-1)) dX12_stops_173 (by decide) ?_
            cases h
            exact g_iret (pc := 174) rfl rfl rfl rfl dX12_stops_174
          · have h := g_ift c126 h
            refine g_iconst (pc := 169) (v := 3) dX12_stops_169 (by decide) ?_
            refine g_goto (pc := 170) (tgt := 174) dX12_stops_170 (by decide) ?_
            cases h
            exact g_iret (pc := 174) rfl rfl rfl rfl dX12_stops_174
        · have h := g_iff c125 h
          refine g_iconst (pc := 157) (v := 2) dX12_stops_157 (by decide) ?_
          refine g_goto (pc := 158) (tgt := 174) dX12_stops_158 (by decide) ?_
          cases h
          exact g_iret (pc := 174) rfl rfl rfl rfl dX12_stops_174
      · have h := g_ift c123 h
        refine g_iconst (pc := 142) (v := 0) dX12_stops_142 (by decide) ?_
        refine g_goto (pc := 143) (tgt := 174) dX12_stops_143 (by decide) ?_
        cases h
        exact g_iret (pc := 174) rfl rfl rfl rfl dX12_stops_174
    have h := g_iff c119 h
    by_cases c127 : v2 = 3
    · have h := g_ift c127 h
      refine g_tabIn (pc := 10) (tgt := 175) (off := 165) dX12_stops_10 (by rw [c127]; decide) (by rw [c127]; decide) (by rw [c127]; decide) (by decide) ?_
      refine g_aload_n (pc := 175) dX12_stops_175 rfl 0 rfl ?_
      refine g_iload_n (pc := 176) dX12_stops_176 rfl 3 rfl ?_
      obtain ⟨r130, σ129, h128, h⟩ := g_bId h
      refine g_callVi (pc := 177) (st := []) hE.1 wvX12_278 rfl rfl (kX12_isDisk hE v3 σ h128) rfl (gR_ok (by decide) (by decide)) (Nat.le_of_ble_eq_true rfl) rfl dX12_stops_177 ?_
      refine g_if_ne (pc := 180) (tgt := 187) dX12_stops_180 (by decide) (fun c131 => ?_) (fun c131 => ?_)
      · have h := g_iff c131 h
        refine g_iload (pc := 187) dX12_stops_187 4 rfl ?_
        refine g_i2l (pc := 189) dX12_stops_189 ?_
        refine g_lconst (pc := 190) (v := 1) dX12_stops_190 (by decide) ?_
        refine g_ldc2 (pc := 191) wkX12_288 dX12_stops_191 ?_
        obtain ⟨r134, σ133, h132, h⟩ := g_bId h
        refine g_callSi (pc := 194) (st := []) hE.1 wsX12_117 (kX12_isIn hE v4.toInt64 1 12 σ129 h132) rfl (gR_ok (by decide) (by decide)) (Nat.le_of_ble_eq_true rfl) rfl dX12_stops_194 ?_
        refine g_if_ne (pc := 197) (tgt := 204) dX12_stops_197 (by decide) (fun c135 => ?_) (fun c135 => ?_)
        · have h := g_iff c135 h
          refine g_aload_n (pc := 204) dX12_stops_204 rfl 1 rfl ?_
          refine g_sipush (pc := 205) (v := 384) dX12_stops_205 (by decide) ?_
          refine g_iload_n (pc := 208) dX12_stops_208 rfl 3 rfl ?_
          refine g_iadd (pc := 209) dX12_stops_209 ?_
          obtain ⟨c136, h⟩ := g_gd h
          refine g_iald (pc := 210) hw c136 rfl dX12_stops_210 ?_
          refine g_iconst (pc := 211) (v := 2) dX12_stops_211 (by decide) ?_
          refine g_icmp_eq (pc := 212) (tgt := 219) dX12_stops_212 (by decide) (fun c137 => ?_) (fun c137 => ?_)
          · have h := g_ift c137 h
            refine g_iconst (pc := 219) (v := (-1)) dX12_stops_219 (by decide) ?_
            cases h
            exact g_iret (pc := 220) rfl rfl rfl rfl dX12_stops_220
          · have h := g_iff c137 h
            refine g_iconst (pc := 215) (v := 2) dX12_stops_215 (by decide) ?_
            refine g_goto (pc := 216) (tgt := 220) dX12_stops_216 (by decide) ?_
            cases h
            exact g_iret (pc := 220) rfl rfl rfl rfl dX12_stops_220
        · have h := g_ift c135 h
          refine g_iconst (pc := 200) (v := 1) dX12_stops_200 (by decide) ?_
          refine g_goto (pc := 201) (tgt := 220) dX12_stops_201 (by decide) ?_
          cases h
          exact g_iret (pc := 220) rfl rfl rfl rfl dX12_stops_220
      · have h := g_ift c131 h
        refine g_iconst (pc := 183) (v := 0) dX12_stops_183 (by decide) ?_
        refine g_goto (pc := 184) (tgt := 220) dX12_stops_184 (by decide) ?_
        cases h
        exact g_iret (pc := 220) rfl rfl rfl rfl dX12_stops_220
    have h := g_iff c127 h
    by_cases c138 : v2 = 4
    · have h := g_ift c138 h
      refine g_tabIn (pc := 10) (tgt := 221) (off := 211) dX12_stops_10 (by rw [c138]; decide) (by rw [c138]; decide) (by rw [c138]; decide) (by decide) ?_
      refine g_iload_n (pc := 221) dX12_stops_221 rfl 3 rfl ?_
      refine g_i2l (pc := 222) dX12_stops_222 ?_
      refine g_lconst (pc := 223) (v := 1) dX12_stops_223 (by decide) ?_
      refine g_ldc2 (pc := 224) wkX12_288 dX12_stops_224 ?_
      obtain ⟨r141, σ140, h139, h⟩ := g_bId h
      refine g_callSi (pc := 227) (st := []) hE.1 wsX12_117 (kX12_isIn hE v3.toInt64 1 12 σ h139) rfl (gR_ok (by decide) (by decide)) (Nat.le_of_ble_eq_true rfl) rfl dX12_stops_227 ?_
      refine g_if_eq (pc := 230) (tgt := 237) dX12_stops_230 (by decide) (fun c142 => ?_) (fun c142 => ?_)
      · have h := g_ift c142 h
        refine g_iconst (pc := 237) (v := 1) dX12_stops_237 (by decide) ?_
        cases h
        exact g_iret (pc := 238) rfl rfl rfl rfl dX12_stops_238
      · have h := g_iff c142 h
        refine g_iconst (pc := 233) (v := (-1)) dX12_stops_233 (by decide) ?_
        refine g_goto (pc := 234) (tgt := 238) dX12_stops_234 (by decide) ?_
        cases h
        exact g_iret (pc := 238) rfl rfl rfl rfl dX12_stops_238
    have h := g_iff c138 h
    by_cases c143 : v2 = 5
    · have h := g_ift c143 h
      refine g_tabIn (pc := 10) (tgt := 239) (off := 229) dX12_stops_10 (by rw [c143]; decide) (by rw [c143]; decide) (by rw [c143]; decide) (by decide) ?_
      refine g_aload_n (pc := 239) dX12_stops_239 rfl 0 rfl ?_
      refine g_iload_n (pc := 240) dX12_stops_240 rfl 3 rfl ?_
      refine g_iload (pc := 241) dX12_stops_241 4 rfl ?_
      refine g_iload (pc := 243) dX12_stops_243 5 rfl ?_
      obtain ⟨r146, σ145, h144, h⟩ := g_bId h
      refine g_callVi (pc := 245) (st := []) hE.1 wvX12_290 rfl rfl (kX12_isPlace hE v3 v4 v5 σ h144) rfl (gR_ok (by decide) (by decide)) (Nat.le_of_ble_eq_true rfl) rfl dX12_stops_245 ?_
      refine g_if_ne (pc := 248) (tgt := 255) dX12_stops_248 (by decide) (fun c147 => ?_) (fun c147 => ?_)
      · have h := g_iff c147 h
        refine g_iload (pc := 255) dX12_stops_255 6 rfl ?_
        refine g_i2l (pc := 257) dX12_stops_257 ?_
        refine g_lconst (pc := 258) (v := 1) dX12_stops_258 (by decide) ?_
        refine g_ldc2 (pc := 259) wkX12_169 dX12_stops_259 ?_
        obtain ⟨r150, σ149, h148, h⟩ := g_bId h
        refine g_callSi (pc := 262) (st := []) hE.1 wsX12_117 (kX12_isIn hE v6.toInt64 1 255 σ145 h148) rfl (gR_ok (by decide) (by decide)) (Nat.le_of_ble_eq_true rfl) rfl dX12_stops_262 ?_
        refine g_if_ne (pc := 265) (tgt := 272) dX12_stops_265 (by decide) (fun c151 => ?_) (fun c151 => ?_)
        · have h := g_iff c151 h
          refine g_aload_n (pc := 272) dX12_stops_272 rfl 1 rfl ?_
          refine g_iload_n (pc := 273) dX12_stops_273 rfl 3 rfl ?_
          refine g_iload (pc := 274) dX12_stops_274 4 rfl ?_
          obtain ⟨r154, σ153, h152, h⟩ := g_bId h
          refine g_callSi (pc := 276) (st := []) hE.1 wsX12_202 (kX12_isThere hE w hw v3 v4 σ149 h152) rfl (gR_ok (by decide) (by decide)) (Nat.le_of_ble_eq_true rfl) rfl dX12_stops_276 ?_
          refine g_if_eq (pc := 279) (tgt := 286) dX12_stops_279 (by decide) (fun c155 => ?_) (fun c155 => ?_)
          · have h := g_ift c155 h
            refine g_iconst (pc := 286) (v := 2) dX12_stops_286 (by decide) ?_
            cases h
            exact g_iret (pc := 287) rfl rfl rfl rfl dX12_stops_287
          · have h := g_iff c155 h
            refine g_iconst (pc := 282) (v := (-1)) dX12_stops_282 (by decide) ?_
            refine g_goto (pc := 283) (tgt := 287) dX12_stops_283 (by decide) ?_
            cases h
            exact g_iret (pc := 287) rfl rfl rfl rfl dX12_stops_287
        · have h := g_ift c151 h
          refine g_iconst (pc := 268) (v := 1) dX12_stops_268 (by decide) ?_
          refine g_goto (pc := 269) (tgt := 287) dX12_stops_269 (by decide) ?_
          cases h
          exact g_iret (pc := 287) rfl rfl rfl rfl dX12_stops_287
      · have h := g_ift c147 h
        refine g_iconst (pc := 251) (v := 0) dX12_stops_251 (by decide) ?_
        refine g_goto (pc := 252) (tgt := 287) dX12_stops_252 (by decide) ?_
        cases h
        exact g_iret (pc := 287) rfl rfl rfl rfl dX12_stops_287
    have h := g_iff c143 h
    by_cases c156 : v2 = 6
    · have h := g_ift c156 h
      refine g_tabIn (pc := 10) (tgt := 288) (off := 278) dX12_stops_10 (by rw [c156]; decide) (by rw [c156]; decide) (by rw [c156]; decide) (by decide) ?_
      refine g_aload_n (pc := 288) dX12_stops_288 rfl 0 rfl ?_
      refine g_iload_n (pc := 289) dX12_stops_289 rfl 3 rfl ?_
      obtain ⟨r159, σ158, h157, h⟩ := g_bId h
      refine g_callVi (pc := 290) (st := []) hE.1 wvX12_281 rfl rfl (kX12_isAddress hE v3 σ h157) rfl (gR_ok (by decide) (by decide)) (Nat.le_of_ble_eq_true rfl) rfl dX12_stops_290 ?_
      refine g_if_ne (pc := 293) (tgt := 300) dX12_stops_293 (by decide) (fun c160 => ?_) (fun c160 => ?_)
      · have h := g_iff c160 h
        refine g_iload (pc := 300) dX12_stops_300 4 rfl ?_
        obtain ⟨r163, σ162, h161, h⟩ := g_bId h
        refine g_callSi (pc := 302) (st := []) hE.1 wsX12_156 (kX12_isByte hE v4 σ158 h161) rfl (gR_ok (by decide) (by decide)) (Nat.le_of_ble_eq_true rfl) rfl dX12_stops_302 ?_
        refine g_if_eq (pc := 305) (tgt := 321) dX12_stops_305 (by decide) (fun c164 => ?_) (fun c164 => ?_)
        · have h := g_ift c164 h
          exact g_lv [] rfl (tX12_stops_b321 hE n w hw σ162 h)
        · have h := g_iff c164 h
          refine g_iload (pc := 308) dX12_stops_308 5 rfl ?_
          refine g_i2l (pc := 310) dX12_stops_310 ?_
          refine g_lconst (pc := 311) (v := 0) dX12_stops_311 (by decide) ?_
          refine g_ldc2 (pc := 312) wkX12_294 dX12_stops_312 ?_
          obtain ⟨r167, σ166, h165, h⟩ := g_bId h
          refine g_callSi (pc := 315) (st := []) hE.1 wsX12_117 (kX12_isIn hE v5.toInt64 0 2 σ162 h165) rfl (gR_ok (by decide) (by decide)) (Nat.le_of_ble_eq_true rfl) rfl dX12_stops_315 ?_
          refine g_if_ne (pc := 318) (tgt := 325) dX12_stops_318 (by decide) (fun c168 => ?_) (fun c168 => ?_)
          · have h := g_iff c168 h
            refine g_aload_n (pc := 325) dX12_stops_325 rfl 0 rfl ?_
            refine g_aload_n (pc := 326) dX12_stops_326 rfl 1 rfl ?_
            refine g_iload_n (pc := 327) dX12_stops_327 rfl 3 rfl ?_
            obtain ⟨r171, σ170, h169, h⟩ := g_bId h
            refine g_callVi (pc := 328) (st := []) hE.1 wvX12_296 rfl rfl (kX12_isSmall hE w hw v3 σ166 h169) rfl (gR_ok (by decide) (by decide)) (Nat.le_of_ble_eq_true rfl) rfl dX12_stops_328 ?_
            refine g_if_eq (pc := 331) (tgt := 338) dX12_stops_331 (by decide) (fun c172 => ?_) (fun c172 => ?_)
            · have h := g_ift c172 h
              refine g_iconst (pc := 338) (v := 2) dX12_stops_338 (by decide) ?_
              cases h
              exact g_iret (pc := 339) rfl rfl rfl rfl dX12_stops_339
            · have h := g_iff c172 h
              refine g_iconst (pc := 334) (v := (-1)) dX12_stops_334 (by decide) ?_
              refine g_goto (pc := 335) (tgt := 339) dX12_stops_335 (by decide) ?_
              cases h
              exact g_iret (pc := 339) rfl rfl rfl rfl dX12_stops_339
          · have h := g_ift c168 h
            exact g_lv [] rfl (tX12_stops_b321 hE n w hw σ166 h)
      · have h := g_ift c160 h
        refine g_iconst (pc := 296) (v := 0) dX12_stops_296 (by decide) ?_
        refine g_goto (pc := 297) (tgt := 339) dX12_stops_297 (by decide) ?_
        cases h
        exact g_iret (pc := 339) rfl rfl rfl rfl dX12_stops_339
    have h := g_iff c156 h
    by_cases c173 : v2 = 7
    · have h := g_ift c173 h
      refine g_tabIn (pc := 10) (tgt := 340) (off := 330) dX12_stops_10 (by rw [c173]; decide) (by rw [c173]; decide) (by rw [c173]; decide) (by decide) ?_
      refine g_aload_n (pc := 340) dX12_stops_340 rfl 0 rfl ?_
      refine g_aload_n (pc := 341) dX12_stops_341 rfl 1 rfl ?_
      obtain ⟨r176, σ175, h174, h⟩ := g_bId h
      refine g_callVi (pc := 342) (st := []) hE.1 wvX12_299 rfl rfl (kX12_toClean hE n w hw σ h174) rfl (gR_ok (by decide) (by decide)) (Nat.le_of_ble_eq_true rfl) rfl dX12_stops_342 ?_
      refine g_if_ne (pc := 345) (tgt := 352) dX12_stops_345 (by decide) (fun c177 => ?_) (fun c177 => ?_)
      · have h := g_iff c177 h
        refine g_iconst (pc := 352) (v := (-1)) dX12_stops_352 (by decide) ?_
        cases h
        exact g_iret (pc := 353) rfl rfl rfl rfl dX12_stops_353
      · have h := g_ift c177 h
        refine g_iconst (pc := 348) (v := 2) dX12_stops_348 (by decide) ?_
        refine g_goto (pc := 349) (tgt := 353) dX12_stops_349 (by decide) ?_
        cases h
        exact g_iret (pc := 353) rfl rfl rfl rfl dX12_stops_353
    have h := g_iff c173 h
    have u190 : (v2).toInt < 0 ∨ 7 < (v2).toInt := by
      have ec97 := g_toInt c97
      have ec106 := g_toInt c106
      have ec119 := g_toInt c119
      have ec127 := g_toInt c127
      have ec138 := g_toInt c138
      have ec143 := g_toInt c143
      have ec156 := g_toInt c156
      have ec173 := g_toInt c173
      rw [show (0 : Int32).toInt = 0 from by decide] at ec97
      rw [show (1 : Int32).toInt = 1 from by decide] at ec106
      rw [show (2 : Int32).toInt = 2 from by decide] at ec119
      rw [show (3 : Int32).toInt = 3 from by decide] at ec127
      rw [show (4 : Int32).toInt = 4 from by decide] at ec138
      rw [show (5 : Int32).toInt = 5 from by decide] at ec143
      rw [show (6 : Int32).toInt = 6 from by decide] at ec156
      rw [show (7 : Int32).toInt = 7 from by decide] at ec173
      omega
    refine g_tabOut (pc := 10) (tgt := 354) dX12_stops_10 u190 (by decide) ?_
    refine g_aload_n (pc := 354) dX12_stops_354 rfl 0 rfl ?_
    refine g_iconst (pc := 355) (v := 0) dX12_stops_355 (by decide) ?_
    refine g_iload_n (pc := 356) dX12_stops_356 rfl 3 rfl ?_
    refine g_iload (pc := 357) dX12_stops_357 4 rfl ?_
    obtain ⟨r180, σ179, h178, h⟩ := g_bId h
    refine g_callVi (pc := 359) (st := []) hE.1 wvX12_290 rfl rfl (kX12_isPlace hE 0 v3 v4 σ h178) rfl (gR_ok (by decide) (by decide)) (Nat.le_of_ble_eq_true rfl) rfl dX12_stops_359 ?_
    refine g_if_ne (pc := 362) (tgt := 369) dX12_stops_362 (by decide) (fun c181 => ?_) (fun c181 => ?_)
    · have h := g_iff c181 h
      refine g_iload (pc := 369) dX12_stops_369 5 rfl ?_
      obtain ⟨r184, σ183, h182, h⟩ := g_bId h
      refine g_callSi (pc := 371) (st := []) hE.1 wsX12_156 (kX12_isByte hE v5 σ179 h182) rfl (gR_ok (by decide) (by decide)) (Nat.le_of_ble_eq_true rfl) rfl dX12_stops_371 ?_
      refine g_if_eq (pc := 374) (tgt := 385) dX12_stops_374 (by decide) (fun c185 => ?_) (fun c185 => ?_)
      · have h := g_ift c185 h
        exact g_lv [] rfl (tX12_stops_b385 hE n w hw σ183 h)
      · have h := g_iff c185 h
        refine g_iload (pc := 377) dX12_stops_377 6 rfl ?_
        obtain ⟨r188, σ187, h186, h⟩ := g_bId h
        refine g_callSi (pc := 379) (st := []) hE.1 wsX12_156 (kX12_isByte hE v6 σ183 h186) rfl (gR_ok (by decide) (by decide)) (Nat.le_of_ble_eq_true rfl) rfl dX12_stops_379 ?_
        refine g_if_ne (pc := 382) (tgt := 389) dX12_stops_382 (by decide) (fun c189 => ?_) (fun c189 => ?_)
        · have h := g_iff c189 h
          refine g_iconst (pc := 389) (v := (-1)) dX12_stops_389 (by decide) ?_
          cases h
          exact g_iret (pc := 390) rfl rfl rfl rfl dX12_stops_390
        · have h := g_ift c189 h
          exact g_lv [] rfl (tX12_stops_b385 hE n w hw σ187 h)
    · have h := g_ift c181 h
      refine g_iconst (pc := 365) (v := 0) dX12_stops_365 (by decide) ?_
      refine g_goto (pc := 366) (tgt := 390) dX12_stops_366 (by decide) ?_
      cases h
      exact g_iret (pc := 390) rfl rfl rfl rfl dX12_stops_390
  · have h := g_ift c96 h
    refine g_iconst (pc := 7) (v := 0) dX12_stops_7 (by decide) ?_
    cases h
    exact g_iret (pc := 8) rfl rfl rfl rfl dX12_stops_8
end WKM2
