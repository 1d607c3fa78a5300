/-! acts by their sort: the branch that is taken -/
theorem rf_0 (n i : Nat) (v2 v3 v4 v5 : Int32) (σ : gM) : fX8_refusal n i 0 v2 v3 v4 v5 σ = g_bI (fX8_refusalOfWrite i v2 v3 σ) (fun r41 σ40 => some (r41, σ40)) := rfl
theorem rf_1 (n i : Nat) (v2 v3 v4 v5 : Int32) (σ : gM) : fX8_refusal n i 1 v2 v3 v4 v5 σ = g_bI (fX8_refusalOfLoss n i v2 σ) (fun r45 σ44 => some (r45, σ44)) := rfl
theorem rf_2 (n i : Nat) (v2 v3 v4 v5 : Int32) (σ : gM) : fX8_refusal n i 2 v2 v3 v4 v5 σ = g_bI (fX8_refusalOfReplacing i v2 σ) (fun r49 σ48 => some (r49, σ48)) := rfl
theorem rf_3 (n i : Nat) (v2 v3 v4 v5 : Int32) (σ : gM) : fX8_refusal n i 3 v2 v3 v4 v5 σ = g_bI (fX8_refusalOfRebuilding i v2 v3 σ) (fun r53 σ52 => some (r53, σ52)) := rfl
theorem rf_4 (n i : Nat) (v2 v3 v4 v5 : Int32) (σ : gM) : fX8_refusal n i 4 v2 v3 v4 v5 σ = g_bI (fX8_refusalOfScrubbing i v2 σ) (fun r57 σ56 => some (r57, σ56)) := rfl
theorem rf_5 (n i : Nat) (v2 v3 v4 v5 : Int32) (σ : gM) : fX8_refusal n i 5 v2 v3 v4 v5 σ = g_bI (fX8_refusalOfSpoiling i v2 v3 v4 v5 σ) (fun r61 σ60 => some (r61, σ60)) := rfl
theorem rf_6 (n i : Nat) (v2 v3 v4 v5 : Int32) (σ : gM) : fX8_refusal n i 6 v2 v3 v4 v5 σ = g_bI (fX8_refusalOfTearing n i v2 v3 v4 σ) (fun r65 σ64 => some (r65, σ64)) := rfl
theorem rf_7 (n i : Nat) (v2 v3 v4 v5 : Int32) (σ : gM) : fX8_refusal n i 7 v2 v3 v4 v5 σ = g_bI (fX8_refusalOfCleaning n i σ) (fun r69 σ68 => some (r69, σ68)) := rfl
theorem rf_8 (n i : Nat) (v2 v3 v4 v5 : Int32) (σ : gM) : fX8_refusal n i 8 v2 v3 v4 v5 σ = g_bI (fX8_refusalOfFull i v2 v3 v4 v5 σ) (fun r73 σ72 => some (r73, σ72)) := rfl
theorem cr_0 (n i : Nat) (v2 v3 v4 v5 : Int32) (σ : gM) : fX8_carryOut n i 0 v2 v3 v4 v5 σ = g_bI (fX8_doWrite n i v2 v3 σ) (fun r41 σ40 => some (r41, σ40)) := rfl
theorem cr_1 (n i : Nat) (v2 v3 v4 v5 : Int32) (σ : gM) : fX8_carryOut n i 1 v2 v3 v4 v5 σ = g_bI (fX8_doLose n i v2 σ) (fun r45 σ44 => some (r45, σ44)) := rfl
theorem cr_2 (n i : Nat) (v2 v3 v4 v5 : Int32) (σ : gM) : fX8_carryOut n i 2 v2 v3 v4 v5 σ = g_bI (fX8_doReplace i v2 σ) (fun r49 σ48 => some (r49, σ48)) := rfl
theorem cr_3 (n i : Nat) (v2 v3 v4 v5 : Int32) (σ : gM) : fX8_carryOut n i 3 v2 v3 v4 v5 σ = g_bI (fX8_doRebuild n i v2 v3 σ) (fun r53 σ52 => some (r53, σ52)) := rfl
theorem cr_4 (n i : Nat) (v2 v3 v4 v5 : Int32) (σ : gM) : fX8_carryOut n i 4 v2 v3 v4 v5 σ = g_bI (fX8_doScrub n i v2 σ) (fun r57 σ56 => some (r57, σ56)) := rfl
theorem cr_5 (n i : Nat) (v2 v3 v4 v5 : Int32) (σ : gM) : fX8_carryOut n i 5 v2 v3 v4 v5 σ = g_bI (fX8_doSpoil i v2 v3 v4 v5 σ) (fun r61 σ60 => some (r61, σ60)) := rfl
theorem cr_6 (n i : Nat) (v2 v3 v4 v5 : Int32) (σ : gM) : fX8_carryOut n i 6 v2 v3 v4 v5 σ = g_bI (fX8_doTear n i v2 v3 v4 σ) (fun r65 σ64 => some (r65, σ64)) := rfl
theorem cr_7 (n i : Nat) (v2 v3 v4 v5 : Int32) (σ : gM) : fX8_carryOut n i 7 v2 v3 v4 v5 σ = g_bI (fX8_doClean n i σ) (fun r69 σ68 => some (r69, σ68)) := rfl
theorem cr_8 (n i : Nat) (v2 v3 v4 v5 : Int32) (σ : gM) : fX8_carryOut n i 8 v2 v3 v4 v5 σ = g_bI (fX8_doFull n i v2 v3 v4 v5 σ) (fun r73 σ72 => some (r73, σ72)) := rfl
theorem st_0 (n w : Nat) (v3 v4 v5 v6 : Int32) (σ : gM) (h : ¬ σ.1 0 14 = 0) : fX12_stops n w 0 v3 v4 v5 v6 σ = g_bI (fX12_isAddress v3 σ) (fun r100 σ99 => if r100 = 0 then (some (0, σ99)) else (g_bI (fX12_isByte v4 σ99) (fun r104 σ103 => if r104 = 0 then (some (1, σ103)) else (some ((-1), σ103))))) := if_neg h
theorem st_1 (n w : Nat) (v3 v4 v5 v6 : Int32) (σ : gM) (h : ¬ σ.1 0 14 = 0) : fX12_stops n w 1 v3 v4 v5 v6 σ = g_bI (fX12_isDisk v3 σ) (fun r109 σ108 => if r109 = 0 then (some (0, σ108)) else (if ¬ ((384 + v3) < 0 ∨ 616 ≤ (384 + v3).toNatClampNeg) then (if (σ108.1 w ((384 + v3).toNatClampNeg)) = 1 then (some (2, σ108)) else (if ¬ ((384 + v3) < 0 ∨ 616 ≤ (384 + v3).toNatClampNeg) then (if (σ108.1 w ((384 + v3).toNatClampNeg)) = 0 then (g_bI (fX12_lost n w σ108) (fun r117 σ116 => if r117 ≤ 1 then (some ((-1), σ116)) else (some (3, σ116)))) else (some ((-1), σ108))) else none)) else none)) := if_neg h
theorem st_2 (n w : Nat) (v3 v4 v5 v6 : Int32) (σ : gM) (h : ¬ σ.1 0 14 = 0) : fX12_stops n w 2 v3 v4 v5 v6 σ = g_bI (fX12_isDisk v3 σ) (fun r122 σ121 => if r122 = 0 then (some (0, σ121)) else (if ¬ ((384 + v3) < 0 ∨ 616 ≤ (384 + v3).toNatClampNeg) then (if (σ121.1 w ((384 + v3).toNatClampNeg)) = 1 then (if (σ121.1 w 424) = 0 then (some (3, σ121)) else (some ((-1), σ121))) else (some (2, σ121))) else none)) := if_neg h
theorem st_3 (n w : Nat) (v3 v4 v5 v6 : Int32) (σ : gM) (h : ¬ σ.1 0 14 = 0) : fX12_stops n w 3 v3 v4 v5 v6 σ = g_bI (fX12_isDisk v3 σ) (fun r130 σ129 => if r130 = 0 then (some (0, σ129)) else (g_bI (fX12_isIn v4.toInt64 1 12 σ129) (fun r134 σ133 => if r134 = 0 then (some (1, σ133)) else (if ¬ ((384 + v3) < 0 ∨ 616 ≤ (384 + v3).toNatClampNeg) then (if (σ133.1 w ((384 + v3).toNatClampNeg)) = 2 then (some ((-1), σ133)) else (some (2, σ133))) else none)))) := if_neg h
theorem st_4 (n w : Nat) (v3 v4 v5 v6 : Int32) (σ : gM) (h : ¬ σ.1 0 14 = 0) : fX12_stops n w 4 v3 v4 v5 v6 σ = g_bI (fX12_isIn v3.toInt64 1 12 σ) (fun r141 σ140 => if r141 = 0 then (some (1, σ140)) else (some ((-1), σ140))) := if_neg h
theorem st_5 (n w : Nat) (v3 v4 v5 v6 : Int32) (σ : gM) (h : ¬ σ.1 0 14 = 0) : fX12_stops n w 5 v3 v4 v5 v6 σ = g_bI (fX12_isPlace v3 v4 v5 σ) (fun r146 σ145 => if r146 = 0 then (some (0, σ145)) else (g_bI (fX12_isIn v6.toInt64 1 255 σ145) (fun r150 σ149 => if r150 = 0 then (some (1, σ149)) else (g_bI (fX12_isThere w v3 v4 σ149) (fun r154 σ153 => if r154 = 0 then (some (2, σ153)) else (some ((-1), σ153))))))) := if_neg h
theorem st_6 (n w : Nat) (v3 v4 v5 v6 : Int32) (σ : gM) (h : ¬ σ.1 0 14 = 0) : fX12_stops n w 6 v3 v4 v5 v6 σ = g_bI (fX12_isAddress v3 σ) (fun r159 σ158 => if r159 = 0 then (some (0, σ158)) else (g_bI (fX12_isByte v4 σ158) (fun r163 σ162 => if r163 = 0 then (fX12_stops_b321 n w σ162) else (g_bI (fX12_isIn v5.toInt64 0 2 σ162) (fun r167 σ166 => if r167 = 0 then (fX12_stops_b321 n w σ166) else (g_bI (fX12_isSmall w v3 σ166) (fun r171 σ170 => if r171 = 0 then (some (2, σ170)) else (some ((-1), σ170))))))))) := if_neg h
theorem st_7 (n w : Nat) (v3 v4 v5 v6 : Int32) (σ : gM) (h : ¬ σ.1 0 14 = 0) : fX12_stops n w 7 v3 v4 v5 v6 σ = g_bI (fX12_toClean n w σ) (fun r176 σ175 => if r176 = 0 then (some (2, σ175)) else (some ((-1), σ175))) := if_neg h
theorem st_8 (n w : Nat) (v3 v4 v5 v6 : Int32) (σ : gM) (h : ¬ σ.1 0 14 = 0) : fX12_stops n w 8 v3 v4 v5 v6 σ = g_bI (fX12_isPlace 0 v3 v4 σ) (fun r180 σ179 => if r180 = 0 then (some (0, σ179)) else (g_bI (fX12_isByte v5 σ179) (fun r184 σ183 => if r184 = 0 then (fX12_stops_b385 n w σ183) else (g_bI (fX12_isByte v6 σ183) (fun r188 σ187 => if r188 = 0 then (fX12_stops_b385 n w σ187) else (some ((-1), σ187))))))) := if_neg h
theorem st_no (n w : Nat) (v2 v3 v4 v5 v6 : Int32) (σ : gM) (h : σ.1 0 14 = 0) : fX12_stops n w v2 v3 v4 v5 v6 σ = some (0, σ) := if_pos h
theorem do_0 {n w : Nat} {v3 v4 v5 v6 : Int32} {σ : gM} (h : fX12_stops n w 0 v3 v4 v5 v6 σ = some (-1, σ)) : fX12_does n w 0 v3 v4 v5 v6 σ = g_let (g_put σ 0 30 v3) (fun σ94 => g_bI (fX12_reads n w v3 σ94) (fun r99 σ98 => g_let (g_put σ98 0 29 r99) (fun σ100 => g_bV (fX12_writes n w v3 v4 σ100) (fun σ103 => some ((-1), σ103))))) := by
  unfold fX12_does
  rw [h, b_I, if_pos rfl]
  rfl
theorem do_1 {n w : Nat} {v3 v4 v5 v6 : Int32} {σ : gM} (h : fX12_stops n w 1 v3 v4 v5 v6 σ = some (-1, σ)) : fX12_does n w 1 v3 v4 v5 v6 σ = g_let (g_put σ 0 30 v3) (fun σ94 => g_bV (fX12_loses n w v3 σ94) (fun σ106 => g_bI (fX12_lost n w σ106) (fun r109 σ108 => g_let (g_put σ108 0 29 r109) (fun σ110 => some ((-1), σ110))))) := by
  unfold fX12_does
  rw [h, b_I, if_pos rfl]
  rfl
theorem do_2 {n w : Nat} {v3 v4 v5 v6 : Int32} {σ : gM} (h : fX12_stops n w 2 v3 v4 v5 v6 σ = some (-1, σ)) : fX12_does n w 2 v3 v4 v5 v6 σ = g_let (g_put σ 0 30 v3) (fun σ94 => g_let (g_put σ94 w 424 ((σ94.1 w 424) - 1)) (fun σ113 => if ¬ ((384 + v3) < 0 ∨ 616 ≤ (384 + v3).toNatClampNeg) then (g_let (g_put σ113 w ((384 + v3).toNatClampNeg) 2) (fun σ116 => if ¬ ((392 + v3) < 0 ∨ 616 ≤ (392 + v3).toNatClampNeg) then (g_let (g_put σ116 w ((392 + v3).toNatClampNeg) 0) (fun σ119 => g_let (g_put σ119 0 29 (σ119.1 w 424)) (fun σ121 => some ((-1), σ121)))) else none)) else none)) := by
  unfold fX12_does
  rw [h, b_I, if_pos rfl]
  rfl
theorem do_3 {n w : Nat} {v3 v4 v5 v6 : Int32} {σ : gM} (h : fX12_stops n w 3 v3 v4 v5 v6 σ = some (-1, σ)) : fX12_does n w 3 v3 v4 v5 v6 σ = g_let (g_put σ 0 30 v3) (fun σ94 => fX12_does_L151 n w n v3 v4 0 σ94) := by
  unfold fX12_does
  rw [h, b_I, if_pos rfl]
  rfl
theorem do_4 {n w : Nat} {v3 v4 v5 v6 : Int32} {σ : gM} (h : fX12_stops n w 4 v3 v4 v5 v6 σ = some (-1, σ)) : fX12_does n w 4 v3 v4 v5 v6 σ = g_let (g_put σ 0 30 v3) (fun σ94 => g_bV (fX12_scrubsOn n w v3 σ94) (fun σ126 => some ((-1), σ126))) := by
  unfold fX12_does
  rw [h, b_I, if_pos rfl]
  rfl
theorem do_5 {n w : Nat} {v3 v4 v5 v6 : Int32} {σ : gM} (h : fX12_stops n w 5 v3 v4 v5 v6 σ = some (-1, σ)) : fX12_does n w 5 v3 v4 v5 v6 σ = g_let (g_put σ 0 30 v3) (fun σ94 => g_bI (fX12_spot v3 v4 v5 σ94) (fun r130 σ129 => if ¬ (r130 < 0 ∨ 616 ≤ r130.toNatClampNeg) then (if ¬ (r130 < 0 ∨ 616 ≤ r130.toNatClampNeg) then (g_let (g_put σ129 w r130.toNatClampNeg ((σ129.1 w r130.toNatClampNeg) ^^^ v6)) (fun σ133 => g_bI (fX12_spot v3 v4 v5 σ133) (fun r137 σ136 => if ¬ (r137 < 0 ∨ 616 ≤ r137.toNatClampNeg) then (g_let (g_put σ136 0 29 (σ136.1 w r137.toNatClampNeg)) (fun σ139 => some ((-1), σ139))) else none))) else none) else none)) := by
  unfold fX12_does
  rw [h, b_I, if_pos rfl]
  rfl
theorem do_6 {n w : Nat} {v3 v4 v5 v6 : Int32} {σ : gM} (h : fX12_stops n w 6 v3 v4 v5 v6 σ = some (-1, σ)) : fX12_does n w 6 v3 v4 v5 v6 σ = g_let (g_put σ 0 30 v3) (fun σ94 => g_bV (fX12_tears n w v3 v4 v5 σ94) (fun σ143 => g_bI (fX12_bitsOf n (σ143.1 w 425) σ143) (fun r146 σ145 => g_let (g_put σ145 0 29 r146) (fun σ147 => some ((-1), σ147))))) := by
  unfold fX12_does
  rw [h, b_I, if_pos rfl]
  rfl
theorem do_7 {n w : Nat} {v3 v4 v5 v6 : Int32} {σ : gM} (h : fX12_stops n w 7 v3 v4 v5 v6 σ = some (-1, σ)) : fX12_does n w 7 v3 v4 v5 v6 σ = g_let (g_put σ 0 30 v3) (fun σ94 => g_bI (fX12_cleans n w σ94) (fun r152 σ151 => g_let (g_put σ151 0 29 r152) (fun σ153 => g_let (g_put σ153 0 30 (σ153.1 0 29)) (fun σ155 => some ((-1), σ155))))) := by
  unfold fX12_does
  rw [h, b_I, if_pos rfl]
  rfl
theorem do_8 {n w : Nat} {v3 v4 v5 v6 : Int32} {σ : gM} (h : fX12_stops n w 8 v3 v4 v5 v6 σ = some (-1, σ)) : fX12_does n w 8 v3 v4 v5 v6 σ = g_let (g_put σ 0 30 v3) (fun σ94 => g_bI (fX12_fills n w v3 v4 v5 v6 σ94) (fun r159 σ158 => g_let (g_put σ158 0 29 r159) (fun σ160 => some ((-1), σ160)))) := by
  unfold fX12_does
  rw [h, b_I, if_pos rfl]
  rfl
theorem do_no {n w : Nat} {v2 v3 v4 v5 v6 : Int32} {σ : gM} {y : Nat} (h : fX12_stops n w v2 v3 v4 v5 v6 σ = some (nI y, σ)) (hy : y < 4) : fX12_does n w v2 v3 v4 v5 v6 σ = some (nI y, σ) := by
  unfold fX12_does
  rw [h, b_I, if_neg (nM1 (by omega))]
