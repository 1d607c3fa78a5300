section LCS
variable {l : Launch} {p : Program} {e : Env} {s : State} {m : MethodId} {below : List Frame} {meth : Method} {c : Code} {b L : Nat} {xs : Nat → Int32} {dC : Nat → ClassId} {dI : Nat → Nat → Nat} {adX adM : Nat → Nat} {caX caM : Nat → ClassId} {qo : Nat} {co : ClassId} {XX XM : (Nat → Prop) → State → Heap → Prop} {σX σM : gM} {fo : Nat → Int64} {H : Heap} {locs : List Loc} {cells slots : Nat} {Q : State → Prop} {ls : Array Slot} {Inv : Nat → gM → gM → Prop} {i : Nat}
theorem lw_in {i L k : Nat} (hL : L ≤ 3072) (hi : 6 * i + 6 ≤ L) (hk : k < 6) : vp_in (nI (6 * i) + nI k) L := by rw [nI_add]; exact vp_in_nI (by omega) (by omega)
set_option maxRecDepth 100000 in
theorem lc0 (hh : lwH l p s m meth c b L xs dC dI adX adM caX caM qo co XX XM) (hL : L ≤ 3072) (hi : 6 * i + 6 ≤ L) (hi5 : i < 512) (hB : opB0 Inv) (hI0 : Inv i σX σM) (hP : lwW dC dI adX adM caX caM qo co σX σM fo H) (hS : va_S (fun q => s.heap.size ≤ q) s.heap H locs) (hc1 : cells ≤ 1000 * (i + 1)) (hc2 : slots ≤ 100000 + 1000 * i) (hl : lv_has ls 7 [(0, .ref b), (1, .ref (adX 0)), (2, .ref (adM 0)), (3, .ref qo), (4, .int (nI (6 * i)))]) (K : ∀ (τX τM : gM) (fo : Nat → Int64) (H : Heap) (locs : List Loc) (cells slots : Nat) (ls : Array Slot), lwW dC dI adX adM caX caM qo co τX τM fo H → Inv (i + 1) τX τM → va_S (fun q => s.heap.size ≤ q) s.heap H locs → cells ≤ 1000 * (i + 2) → slots ≤ 100000 + 1000 * (i + 1) → lv_has ls 7 [(0, .ref b), (1, .ref (adX 0)), (2, .ref (adM 0)), (3, .ref qo), (4, .int (nI (6 * i)))] → W p l e room_1 s m #[Value.ref b] below meth c H locs cells slots Q (F0 m 1753 ls [])) : W p l e room_1 s m #[Value.ref b] below meth c H locs cells slots Q (F0 m 240 ls []) := by
  obtain ⟨hat, hKX, hKM, hKo, hEX, hEM, hXX, hXM, hD⟩ := id hh
  obtain ⟨hx, hb, hr, hml, hown, hts, hXs, hbl, hlocks, hgv⟩ := id hat
  have hbA : ¬ (fun q : Nat => s.heap.size ≤ q) b := Nat.not_le.mpr hbl
  obtain ⟨r, τX, τM, e1, e2, hI⟩ := hB i σX σM (xs (nI (6 * i) + 1).toNatClampNeg) (xs (nI (6 * i) + 2).toNatClampNeg) (xs (nI (6 * i) + 3).toNatClampNeg) (xs (nI (6 * i) + 4).toNatClampNeg) (xs (nI (6 * i) + 5).toNatClampNeg) hi5 hI0
  refine lv_aload_n hx hb dL_law_240 rfl (lv_at hl 1 rfl) ?_
  refine lv_aload_n hx hb dL_law_241 rfl (lv_at hl 0 rfl) ?_
  refine lv_iload hx hb dL_law_242 (lv_at hl 4 rfl) ?_
  refine lv_iconst (v := 1) hx hb dL_law_244 (by decide) ?_
  refine lv_iadd hx hb dL_law_245 ?_
  refine va_sld hx hb hXs hbl hbA hS (lw_in (k := 1) hL hi (by decide)) dL_law_246 ?_
  refine lv_aload_n hx hb dL_law_247 rfl (lv_at hl 0 rfl) ?_
  refine lv_iload hx hb dL_law_248 (lv_at hl 4 rfl) ?_
  refine lv_iconst (v := 2) hx hb dL_law_250 (by decide) ?_
  refine lv_iadd hx hb dL_law_251 ?_
  refine va_sld hx hb hXs hbl hbA hS (lw_in (k := 2) hL hi (by decide)) dL_law_252 ?_
  refine lv_aload_n hx hb dL_law_253 rfl (lv_at hl 0 rfl) ?_
  refine lv_iload hx hb dL_law_254 (lv_at hl 4 rfl) ?_
  refine lv_iconst (v := 3) hx hb dL_law_256 (by decide) ?_
  refine lv_iadd hx hb dL_law_257 ?_
  refine va_sld hx hb hXs hbl hbA hS (lw_in (k := 3) hL hi (by decide)) dL_law_258 ?_
  refine lv_aload_n hx hb dL_law_259 rfl (lv_at hl 0 rfl) ?_
  refine lv_iload hx hb dL_law_260 (lv_at hl 4 rfl) ?_
  refine lv_iconst (v := 4) hx hb dL_law_262 (by decide) ?_
  refine lv_iadd hx hb dL_law_263 ?_
  refine va_sld hx hb hXs hbl hbA hS (lw_in (k := 4) hL hi (by decide)) dL_law_264 ?_
  refine lv_aload_n hx hb dL_law_265 rfl (lv_at hl 0 rfl) ?_
  refine lv_iload hx hb dL_law_266 (lv_at hl 4 rfl) ?_
  refine lv_iconst (v := 5) hx hb dL_law_268 (by decide) ?_
  refine lv_iadd hx hb dL_law_269 ?_
  refine va_sld hx hb hXs hbl hbA hS (lw_in (k := 5) hL hi (by decide)) dL_law_270 ?_
  refine lw_callX (as := [.int (xs (nI (6 * i) + 1).toNatClampNeg), .int (xs (nI (6 * i) + 2).toNatClampNeg), .int (xs (nI (6 * i) + 3).toNatClampNeg), .int (xs (nI (6 * i) + 4).toNatClampNeg), .int (xs (nI (6 * i) + 5).toNatClampNeg)]) (st := []) hh wvL_19 rfl (kX11_feed hEX fl (xs (nI (6 * i) + 1).toNatClampNeg) (xs (nI (6 * i) + 2).toNatClampNeg) (xs (nI (6 * i) + 3).toNatClampNeg) (xs (nI (6 * i) + 4).toNatClampNeg) (xs (nI (6 * i) + 5).toNatClampNeg) σX e1) rfl (by decide) (Nat.le_of_ble_eq_true rfl) rfl rfl dL_law_271 hP hS hl.1 ⟨by omega, by omega⟩ (fun H locs hP hS => ?_)
  refine lv_aload_n hx hb dL_law_274 rfl (lv_at hl 2 rfl) ?_
  refine lv_aload_n hx hb dL_law_275 rfl (lv_at hl 0 rfl) ?_
  refine lv_iload hx hb dL_law_276 (lv_at hl 4 rfl) ?_
  refine lv_iconst (v := 1) hx hb dL_law_278 (by decide) ?_
  refine lv_iadd hx hb dL_law_279 ?_
  refine va_sld hx hb hXs hbl hbA hS (lw_in (k := 1) hL hi (by decide)) dL_law_280 ?_
  refine lv_aload_n hx hb dL_law_281 rfl (lv_at hl 0 rfl) ?_
  refine lv_iload hx hb dL_law_282 (lv_at hl 4 rfl) ?_
  refine lv_iconst (v := 2) hx hb dL_law_284 (by decide) ?_
  refine lv_iadd hx hb dL_law_285 ?_
  refine va_sld hx hb hXs hbl hbA hS (lw_in (k := 2) hL hi (by decide)) dL_law_286 ?_
  refine lv_aload_n hx hb dL_law_287 rfl (lv_at hl 0 rfl) ?_
  refine lv_iload hx hb dL_law_288 (lv_at hl 4 rfl) ?_
  refine lv_iconst (v := 3) hx hb dL_law_290 (by decide) ?_
  refine lv_iadd hx hb dL_law_291 ?_
  refine va_sld hx hb hXs hbl hbA hS (lw_in (k := 3) hL hi (by decide)) dL_law_292 ?_
  refine lv_aload_n hx hb dL_law_293 rfl (lv_at hl 0 rfl) ?_
  refine lv_iload hx hb dL_law_294 (lv_at hl 4 rfl) ?_
  refine lv_iconst (v := 4) hx hb dL_law_296 (by decide) ?_
  refine lv_iadd hx hb dL_law_297 ?_
  refine va_sld hx hb hXs hbl hbA hS (lw_in (k := 4) hL hi (by decide)) dL_law_298 ?_
  refine lv_aload_n hx hb dL_law_299 rfl (lv_at hl 0 rfl) ?_
  refine lv_iload hx hb dL_law_300 (lv_at hl 4 rfl) ?_
  refine lv_iconst (v := 5) hx hb dL_law_302 (by decide) ?_
  refine lv_iadd hx hb dL_law_303 ?_
  refine va_sld hx hb hXs hbl hbA hS (lw_in (k := 5) hL hi (by decide)) dL_law_304 ?_
  refine lw_callM (as := [.int (xs (nI (6 * i) + 1).toNatClampNeg), .int (xs (nI (6 * i) + 2).toNatClampNeg), .int (xs (nI (6 * i) + 3).toNatClampNeg), .int (xs (nI (6 * i) + 4).toNatClampNeg), .int (xs (nI (6 * i) + 5).toNatClampNeg)]) (st := [.int r]) hh wvL_23 rfl (kX12_feed hEM fl (xs (nI (6 * i) + 1).toNatClampNeg) (xs (nI (6 * i) + 2).toNatClampNeg) (xs (nI (6 * i) + 3).toNatClampNeg) (xs (nI (6 * i) + 4).toNatClampNeg) (xs (nI (6 * i) + 5).toNatClampNeg) σM e2) rfl (by decide) (Nat.le_of_ble_eq_true rfl) rfl rfl dL_law_305 hP hS hl.1 ⟨by omega, by omega⟩ (fun H locs hP hS => ?_)
  refine lv_icmp_eq (tgt := 1753) hx hb dL_law_308 (by decide) (fun _ => ?_) (fun c9 => absurd rfl c9)
  exact K τX τM fo H locs cells slots ls hP hI hS (by omega) (by omega) hl
set_option maxRecDepth 100000 in
theorem lc1 (hh : lwH l p s m meth c b L xs dC dI adX adM caX caM qo co XX XM) (hL : L ≤ 3072) (hi : 6 * i + 6 ≤ L) (hi5 : i < 512) (hB : opB1 Inv) (hI0 : Inv i σX σM) (hP : lwW dC dI adX adM caX caM qo co σX σM fo H) (hS : va_S (fun q => s.heap.size ≤ q) s.heap H locs) (hc1 : cells ≤ 1000 * (i + 1)) (hc2 : slots ≤ 100000 + 1000 * i) (hl : lv_has ls 7 [(0, .ref b), (1, .ref (adX 0)), (2, .ref (adM 0)), (3, .ref qo), (4, .int (nI (6 * i)))]) (K : ∀ (τX τM : gM) (fo : Nat → Int64) (H : Heap) (locs : List Loc) (cells slots : Nat) (ls : Array Slot), lwW dC dI adX adM caX caM qo co τX τM fo H → Inv (i + 1) τX τM → va_S (fun q => s.heap.size ≤ q) s.heap H locs → cells ≤ 1000 * (i + 2) → slots ≤ 100000 + 1000 * (i + 1) → lv_has ls 7 [(0, .ref b), (1, .ref (adX 0)), (2, .ref (adM 0)), (3, .ref qo), (4, .int (nI (6 * i)))] → W p l e room_1 s m #[Value.ref b] below meth c H locs cells slots Q (F0 m 1753 ls [])) : W p l e room_1 s m #[Value.ref b] below meth c H locs cells slots Q (F0 m 313 ls []) := by
  obtain ⟨hat, hKX, hKM, hKo, hEX, hEM, hXX, hXM, hD⟩ := id hh
  obtain ⟨hx, hb, hr, hml, hown, hts, hXs, hbl, hlocks, hgv⟩ := id hat
  have hbA : ¬ (fun q : Nat => s.heap.size ≤ q) b := Nat.not_le.mpr hbl
  obtain ⟨r, τX, τM, e1, e2, hI⟩ := hB i σX σM (xs (nI (6 * i) + 1).toNatClampNeg) hi5 hI0
  refine lv_aload_n hx hb dL_law_313 rfl (lv_at hl 1 rfl) ?_
  refine lv_aload_n hx hb dL_law_314 rfl (lv_at hl 0 rfl) ?_
  refine lv_iload hx hb dL_law_315 (lv_at hl 4 rfl) ?_
  refine lv_iconst (v := 1) hx hb dL_law_317 (by decide) ?_
  refine lv_iadd hx hb dL_law_318 ?_
  refine va_sld hx hb hXs hbl hbA hS (lw_in (k := 1) hL hi (by decide)) dL_law_319 ?_
  refine lw_callX (as := [.int (xs (nI (6 * i) + 1).toNatClampNeg)]) (st := []) hh wvL_24 rfl (kX11_end hEX (xs (nI (6 * i) + 1).toNatClampNeg) σX e1) rfl (by decide) (Nat.le_of_ble_eq_true rfl) rfl rfl dL_law_320 hP hS hl.1 ⟨by omega, by omega⟩ (fun H locs hP hS => ?_)
  refine lv_aload_n hx hb dL_law_323 rfl (lv_at hl 2 rfl) ?_
  refine lv_aload_n hx hb dL_law_324 rfl (lv_at hl 0 rfl) ?_
  refine lv_iload hx hb dL_law_325 (lv_at hl 4 rfl) ?_
  refine lv_iconst (v := 1) hx hb dL_law_327 (by decide) ?_
  refine lv_iadd hx hb dL_law_328 ?_
  refine va_sld hx hb hXs hbl hbA hS (lw_in (k := 1) hL hi (by decide)) dL_law_329 ?_
  refine lw_callM (as := [.int (xs (nI (6 * i) + 1).toNatClampNeg)]) (st := [.int r]) hh wvL_28 rfl (kX12_end hEM (xs (nI (6 * i) + 1).toNatClampNeg) σM e2) rfl (by decide) (Nat.le_of_ble_eq_true rfl) rfl rfl dL_law_330 hP hS hl.1 ⟨by omega, by omega⟩ (fun H locs hP hS => ?_)
  refine lv_icmp_eq (tgt := 1753) hx hb dL_law_333 (by decide) (fun _ => ?_) (fun c9 => absurd rfl c9)
  exact K τX τM fo H locs cells slots ls hP hI hS (by omega) (by omega) hl
set_option maxRecDepth 100000 in
theorem lc2 (hh : lwH l p s m meth c b L xs dC dI adX adM caX caM qo co XX XM) (hL : L ≤ 3072) (hi : 6 * i + 6 ≤ L) (hi5 : i < 512) (hB : opB2 Inv) (hI0 : Inv i σX σM) (hP : lwW dC dI adX adM caX caM qo co σX σM fo H) (hS : va_S (fun q => s.heap.size ≤ q) s.heap H locs) (hc1 : cells ≤ 1000 * (i + 1)) (hc2 : slots ≤ 100000 + 1000 * i) (hl : lv_has ls 7 [(0, .ref b), (1, .ref (adX 0)), (2, .ref (adM 0)), (3, .ref qo), (4, .int (nI (6 * i)))]) (K : ∀ (τX τM : gM) (fo : Nat → Int64) (H : Heap) (locs : List Loc) (cells slots : Nat) (ls : Array Slot), lwW dC dI adX adM caX caM qo co τX τM fo H → Inv (i + 1) τX τM → va_S (fun q => s.heap.size ≤ q) s.heap H locs → cells ≤ 1000 * (i + 2) → slots ≤ 100000 + 1000 * (i + 1) → lv_has ls 7 [(0, .ref b), (1, .ref (adX 0)), (2, .ref (adM 0)), (3, .ref qo), (4, .int (nI (6 * i)))] → W p l e room_1 s m #[Value.ref b] below meth c H locs cells slots Q (F0 m 1753 ls [])) : W p l e room_1 s m #[Value.ref b] below meth c H locs cells slots Q (F0 m 338 ls []) := by
  obtain ⟨hat, hKX, hKM, hKo, hEX, hEM, hXX, hXM, hD⟩ := id hh
  obtain ⟨hx, hb, hr, hml, hown, hts, hXs, hbl, hlocks, hgv⟩ := id hat
  have hbA : ¬ (fun q : Nat => s.heap.size ≤ q) b := Nat.not_le.mpr hbl
  obtain ⟨r, τX, τM, e1, e2, hI⟩ := hB i σX σM (xs (nI (6 * i) + 1).toNatClampNeg) hi5 hI0
  refine lv_aload_n hx hb dL_law_338 rfl (lv_at hl 1 rfl) ?_
  refine lv_aload_n hx hb dL_law_339 rfl (lv_at hl 0 rfl) ?_
  refine lv_iload hx hb dL_law_340 (lv_at hl 4 rfl) ?_
  refine lv_iconst (v := 1) hx hb dL_law_342 (by decide) ?_
  refine lv_iadd hx hb dL_law_343 ?_
  refine va_sld hx hb hXs hbl hbA hS (lw_in (k := 1) hL hi (by decide)) dL_law_344 ?_
  refine lw_callX (as := [.int (xs (nI (6 * i) + 1).toNatClampNeg)]) (st := []) hh wvL_29 rfl (kX11_fault hEX fl (xs (nI (6 * i) + 1).toNatClampNeg) σX e1) rfl (by decide) (Nat.le_of_ble_eq_true rfl) rfl rfl dL_law_345 hP hS hl.1 ⟨by omega, by omega⟩ (fun H locs hP hS => ?_)
  refine lv_aload_n hx hb dL_law_348 rfl (lv_at hl 2 rfl) ?_
  refine lv_aload_n hx hb dL_law_349 rfl (lv_at hl 0 rfl) ?_
  refine lv_iload hx hb dL_law_350 (lv_at hl 4 rfl) ?_
  refine lv_iconst (v := 1) hx hb dL_law_352 (by decide) ?_
  refine lv_iadd hx hb dL_law_353 ?_
  refine va_sld hx hb hXs hbl hbA hS (lw_in (k := 1) hL hi (by decide)) dL_law_354 ?_
  refine lw_callM (as := [.int (xs (nI (6 * i) + 1).toNatClampNeg)]) (st := [.int r]) hh wvL_32 rfl (kX12_fault hEM fl (xs (nI (6 * i) + 1).toNatClampNeg) σM e2) rfl (by decide) (Nat.le_of_ble_eq_true rfl) rfl rfl dL_law_355 hP hS hl.1 ⟨by omega, by omega⟩ (fun H locs hP hS => ?_)
  refine lv_icmp_eq (tgt := 1753) hx hb dL_law_358 (by decide) (fun _ => ?_) (fun c9 => absurd rfl c9)
  exact K τX τM fo H locs cells slots ls hP hI hS (by omega) (by omega) hl
set_option maxRecDepth 100000 in
theorem lc3 (hh : lwH l p s m meth c b L xs dC dI adX adM caX caM qo co XX XM) (hL : L ≤ 3072) (hi : 6 * i + 6 ≤ L) (hi5 : i < 512) (hB : opB3 Inv) (hI0 : Inv i σX σM) (hP : lwW dC dI adX adM caX caM qo co σX σM fo H) (hS : va_S (fun q => s.heap.size ≤ q) s.heap H locs) (hc1 : cells ≤ 1000 * (i + 1)) (hc2 : slots ≤ 100000 + 1000 * i) (hl : lv_has ls 7 [(0, .ref b), (1, .ref (adX 0)), (2, .ref (adM 0)), (3, .ref qo), (4, .int (nI (6 * i)))]) (K : ∀ (τX τM : gM) (fo : Nat → Int64) (H : Heap) (locs : List Loc) (cells slots : Nat) (ls : Array Slot), lwW dC dI adX adM caX caM qo co τX τM fo H → Inv (i + 1) τX τM → va_S (fun q => s.heap.size ≤ q) s.heap H locs → cells ≤ 1000 * (i + 2) → slots ≤ 100000 + 1000 * (i + 1) → lv_has ls 7 [(0, .ref b), (1, .ref (adX 0)), (2, .ref (adM 0)), (3, .ref qo), (4, .int (nI (6 * i)))] → W p l e room_1 s m #[Value.ref b] below meth c H locs cells slots Q (F0 m 1753 ls [])) : W p l e room_1 s m #[Value.ref b] below meth c H locs cells slots Q (F0 m 363 ls []) := by
  obtain ⟨hat, hKX, hKM, hKo, hEX, hEM, hXX, hXM, hD⟩ := id hh
  obtain ⟨hx, hb, hr, hml, hown, hts, hXs, hbl, hlocks, hgv⟩ := id hat
  have hbA : ¬ (fun q : Nat => s.heap.size ≤ q) b := Nat.not_le.mpr hbl
  obtain ⟨r, τX, τM, e1, e2, hI⟩ := hB i σX σM (xs (nI (6 * i) + 1).toNatClampNeg) hi5 hI0
  refine lv_aload_n hx hb dL_law_363 rfl (lv_at hl 1 rfl) ?_
  refine lv_aload_n hx hb dL_law_364 rfl (lv_at hl 0 rfl) ?_
  refine lv_iload hx hb dL_law_365 (lv_at hl 4 rfl) ?_
  refine lv_iconst (v := 1) hx hb dL_law_367 (by decide) ?_
  refine lv_iadd hx hb dL_law_368 ?_
  refine va_sld hx hb hXs hbl hbA hS (lw_in (k := 1) hL hi (by decide)) dL_law_369 ?_
  refine lw_callX (as := [.int (xs (nI (6 * i) + 1).toNatClampNeg)]) (st := []) hh wvL_33 rfl (kX11_text hEX fl (xs (nI (6 * i) + 1).toNatClampNeg) σX e1) rfl (by decide) (Nat.le_of_ble_eq_true rfl) rfl rfl dL_law_370 hP hS hl.1 ⟨by omega, by omega⟩ (fun H locs hP hS => ?_)
  refine lv_aload_n hx hb dL_law_373 rfl (lv_at hl 2 rfl) ?_
  refine lv_aload_n hx hb dL_law_374 rfl (lv_at hl 0 rfl) ?_
  refine lv_iload hx hb dL_law_375 (lv_at hl 4 rfl) ?_
  refine lv_iconst (v := 1) hx hb dL_law_377 (by decide) ?_
  refine lv_iadd hx hb dL_law_378 ?_
  refine va_sld hx hb hXs hbl hbA hS (lw_in (k := 1) hL hi (by decide)) dL_law_379 ?_
  refine lw_callM (as := [.int (xs (nI (6 * i) + 1).toNatClampNeg)]) (st := [.int r]) hh wvL_36 rfl (kX12_text hEM fl (xs (nI (6 * i) + 1).toNatClampNeg) σM e2) rfl (by decide) (Nat.le_of_ble_eq_true rfl) rfl rfl dL_law_380 hP hS hl.1 ⟨by omega, by omega⟩ (fun H locs hP hS => ?_)
  refine lv_icmp_eq (tgt := 1753) hx hb dL_law_383 (by decide) (fun _ => ?_) (fun c9 => absurd rfl c9)
  exact K τX τM fo H locs cells slots ls hP hI hS (by omega) (by omega) hl
set_option maxRecDepth 100000 in
theorem lc4 (hh : lwH l p s m meth c b L xs dC dI adX adM caX caM qo co XX XM) (hL : L ≤ 3072) (hi : 6 * i + 6 ≤ L) (hi5 : i < 512) (hB : opB4 Inv) (hI0 : Inv i σX σM) (hP : lwW dC dI adX adM caX caM qo co σX σM fo H) (hS : va_S (fun q => s.heap.size ≤ q) s.heap H locs) (hc1 : cells ≤ 1000 * (i + 1)) (hc2 : slots ≤ 100000 + 1000 * i) (hl : lv_has ls 7 [(0, .ref b), (1, .ref (adX 0)), (2, .ref (adM 0)), (3, .ref qo), (4, .int (nI (6 * i)))]) (K : ∀ (τX τM : gM) (fo : Nat → Int64) (H : Heap) (locs : List Loc) (cells slots : Nat) (ls : Array Slot), lwW dC dI adX adM caX caM qo co τX τM fo H → Inv (i + 1) τX τM → va_S (fun q => s.heap.size ≤ q) s.heap H locs → cells ≤ 1000 * (i + 2) → slots ≤ 100000 + 1000 * (i + 1) → lv_has ls 7 [(0, .ref b), (1, .ref (adX 0)), (2, .ref (adM 0)), (3, .ref qo), (4, .int (nI (6 * i)))] → W p l e room_1 s m #[Value.ref b] below meth c H locs cells slots Q (F0 m 1753 ls [])) : W p l e room_1 s m #[Value.ref b] below meth c H locs cells slots Q (F0 m 388 ls []) := by
  obtain ⟨hat, hKX, hKM, hKo, hEX, hEM, hXX, hXM, hD⟩ := id hh
  obtain ⟨hx, hb, hr, hml, hown, hts, hXs, hbl, hlocks, hgv⟩ := id hat
  have hbA : ¬ (fun q : Nat => s.heap.size ≤ q) b := Nat.not_le.mpr hbl
  obtain ⟨r, τX, τM, e1, e2, hI⟩ := hB i σX σM (xs (nI (6 * i) + 1).toNatClampNeg) hi5 hI0
  refine lv_aload_n hx hb dL_law_388 rfl (lv_at hl 1 rfl) ?_
  refine lv_aload_n hx hb dL_law_389 rfl (lv_at hl 0 rfl) ?_
  refine lv_iload hx hb dL_law_390 (lv_at hl 4 rfl) ?_
  refine lv_iconst (v := 1) hx hb dL_law_392 (by decide) ?_
  refine lv_iadd hx hb dL_law_393 ?_
  refine va_sld hx hb hXs hbl hbA hS (lw_in (k := 1) hL hi (by decide)) dL_law_394 ?_
  refine lw_callX (as := [.int (xs (nI (6 * i) + 1).toNatClampNeg)]) (st := []) hh wvL_37 rfl (kX11_rule hEX (xs (nI (6 * i) + 1).toNatClampNeg) σX e1) rfl (by decide) (Nat.le_of_ble_eq_true rfl) rfl rfl dL_law_395 hP hS hl.1 ⟨by omega, by omega⟩ (fun H locs hP hS => ?_)
  refine lv_aload_n hx hb dL_law_398 rfl (lv_at hl 2 rfl) ?_
  refine lv_aload_n hx hb dL_law_399 rfl (lv_at hl 0 rfl) ?_
  refine lv_iload hx hb dL_law_400 (lv_at hl 4 rfl) ?_
  refine lv_iconst (v := 1) hx hb dL_law_402 (by decide) ?_
  refine lv_iadd hx hb dL_law_403 ?_
  refine va_sld hx hb hXs hbl hbA hS (lw_in (k := 1) hL hi (by decide)) dL_law_404 ?_
  refine lw_callM (as := [.int (xs (nI (6 * i) + 1).toNatClampNeg)]) (st := [.int r]) hh wvL_40 rfl (kX12_rule hEM (xs (nI (6 * i) + 1).toNatClampNeg) σM e2) rfl (by decide) (Nat.le_of_ble_eq_true rfl) rfl rfl dL_law_405 hP hS hl.1 ⟨by omega, by omega⟩ (fun H locs hP hS => ?_)
  refine lv_icmp_eq (tgt := 1753) hx hb dL_law_408 (by decide) (fun _ => ?_) (fun c9 => absurd rfl c9)
  exact K τX τM fo H locs cells slots ls hP hI hS (by omega) (by omega) hl
set_option maxRecDepth 100000 in
theorem lc5 (hh : lwH l p s m meth c b L xs dC dI adX adM caX caM qo co XX XM) (hL : L ≤ 3072) (hi : 6 * i + 6 ≤ L) (hi5 : i < 512) (hB : opB5 Inv) (hI0 : Inv i σX σM) (hP : lwW dC dI adX adM caX caM qo co σX σM fo H) (hS : va_S (fun q => s.heap.size ≤ q) s.heap H locs) (hc1 : cells ≤ 1000 * (i + 1)) (hc2 : slots ≤ 100000 + 1000 * i) (hl : lv_has ls 7 [(0, .ref b), (1, .ref (adX 0)), (2, .ref (adM 0)), (3, .ref qo), (4, .int (nI (6 * i)))]) (K : ∀ (τX τM : gM) (fo : Nat → Int64) (H : Heap) (locs : List Loc) (cells slots : Nat) (ls : Array Slot), lwW dC dI adX adM caX caM qo co τX τM fo H → Inv (i + 1) τX τM → va_S (fun q => s.heap.size ≤ q) s.heap H locs → cells ≤ 1000 * (i + 2) → slots ≤ 100000 + 1000 * (i + 1) → lv_has ls 7 [(0, .ref b), (1, .ref (adX 0)), (2, .ref (adM 0)), (3, .ref qo), (4, .int (nI (6 * i)))] → W p l e room_1 s m #[Value.ref b] below meth c H locs cells slots Q (F0 m 1753 ls [])) : W p l e room_1 s m #[Value.ref b] below meth c H locs cells slots Q (F0 m 413 ls []) := by
  obtain ⟨hat, hKX, hKM, hKo, hEX, hEM, hXX, hXM, hD⟩ := id hh
  obtain ⟨hx, hb, hr, hml, hown, hts, hXs, hbl, hlocks, hgv⟩ := id hat
  have hbA : ¬ (fun q : Nat => s.heap.size ≤ q) b := Nat.not_le.mpr hbl
  obtain ⟨r, τX, τM, e1, e2, hI⟩ := hB i σX σM (xs (nI (6 * i) + 1).toNatClampNeg) (xs (nI (6 * i) + 2).toNatClampNeg) hi5 hI0
  refine lv_aload_n hx hb dL_law_413 rfl (lv_at hl 1 rfl) ?_
  refine lv_aload_n hx hb dL_law_414 rfl (lv_at hl 0 rfl) ?_
  refine lv_iload hx hb dL_law_415 (lv_at hl 4 rfl) ?_
  refine lv_iconst (v := 1) hx hb dL_law_417 (by decide) ?_
  refine lv_iadd hx hb dL_law_418 ?_
  refine va_sld hx hb hXs hbl hbA hS (lw_in (k := 1) hL hi (by decide)) dL_law_419 ?_
  refine lv_aload_n hx hb dL_law_420 rfl (lv_at hl 0 rfl) ?_
  refine lv_iload hx hb dL_law_421 (lv_at hl 4 rfl) ?_
  refine lv_iconst (v := 2) hx hb dL_law_423 (by decide) ?_
  refine lv_iadd hx hb dL_law_424 ?_
  refine va_sld hx hb hXs hbl hbA hS (lw_in (k := 2) hL hi (by decide)) dL_law_425 ?_
  refine lw_callX (as := [.int (xs (nI (6 * i) + 1).toNatClampNeg), .int (xs (nI (6 * i) + 2).toNatClampNeg)]) (st := []) hh wvL_41 rfl (kX11_times hEX (xs (nI (6 * i) + 1).toNatClampNeg) (xs (nI (6 * i) + 2).toNatClampNeg) σX e1) rfl (by decide) (Nat.le_of_ble_eq_true rfl) rfl rfl dL_law_426 hP hS hl.1 ⟨by omega, by omega⟩ (fun H locs hP hS => ?_)
  refine lv_aload_n hx hb dL_law_429 rfl (lv_at hl 2 rfl) ?_
  refine lv_aload_n hx hb dL_law_430 rfl (lv_at hl 0 rfl) ?_
  refine lv_iload hx hb dL_law_431 (lv_at hl 4 rfl) ?_
  refine lv_iconst (v := 1) hx hb dL_law_433 (by decide) ?_
  refine lv_iadd hx hb dL_law_434 ?_
  refine va_sld hx hb hXs hbl hbA hS (lw_in (k := 1) hL hi (by decide)) dL_law_435 ?_
  refine lv_aload_n hx hb dL_law_436 rfl (lv_at hl 0 rfl) ?_
  refine lv_iload hx hb dL_law_437 (lv_at hl 4 rfl) ?_
  refine lv_iconst (v := 2) hx hb dL_law_439 (by decide) ?_
  refine lv_iadd hx hb dL_law_440 ?_
  refine va_sld hx hb hXs hbl hbA hS (lw_in (k := 2) hL hi (by decide)) dL_law_441 ?_
  refine lw_callM (as := [.int (xs (nI (6 * i) + 1).toNatClampNeg), .int (xs (nI (6 * i) + 2).toNatClampNeg)]) (st := [.int r]) hh wvL_45 rfl (kX12_times hEM (xs (nI (6 * i) + 1).toNatClampNeg) (xs (nI (6 * i) + 2).toNatClampNeg) σM e2) rfl (by decide) (Nat.le_of_ble_eq_true rfl) rfl rfl dL_law_442 hP hS hl.1 ⟨by omega, by omega⟩ (fun H locs hP hS => ?_)
  refine lv_icmp_eq (tgt := 1753) hx hb dL_law_445 (by decide) (fun _ => ?_) (fun c9 => absurd rfl c9)
  exact K τX τM fo H locs cells slots ls hP hI hS (by omega) (by omega) hl
set_option maxRecDepth 100000 in
theorem lc6 (hh : lwH l p s m meth c b L xs dC dI adX adM caX caM qo co XX XM) (hL : L ≤ 3072) (hi : 6 * i + 6 ≤ L) (hi5 : i < 512) (hB : opB6 Inv) (hI0 : Inv i σX σM) (hP : lwW dC dI adX adM caX caM qo co σX σM fo H) (hS : va_S (fun q => s.heap.size ≤ q) s.heap H locs) (hc1 : cells ≤ 1000 * (i + 1)) (hc2 : slots ≤ 100000 + 1000 * i) (hl : lv_has ls 7 [(0, .ref b), (1, .ref (adX 0)), (2, .ref (adM 0)), (3, .ref qo), (4, .int (nI (6 * i)))]) (K : ∀ (τX τM : gM) (fo : Nat → Int64) (H : Heap) (locs : List Loc) (cells slots : Nat) (ls : Array Slot), lwW dC dI adX adM caX caM qo co τX τM fo H → Inv (i + 1) τX τM → va_S (fun q => s.heap.size ≤ q) s.heap H locs → cells ≤ 1000 * (i + 2) → slots ≤ 100000 + 1000 * (i + 1) → lv_has ls 7 [(0, .ref b), (1, .ref (adX 0)), (2, .ref (adM 0)), (3, .ref qo), (4, .int (nI (6 * i)))] → W p l e room_1 s m #[Value.ref b] below meth c H locs cells slots Q (F0 m 1753 ls [])) : W p l e room_1 s m #[Value.ref b] below meth c H locs cells slots Q (F0 m 450 ls []) := by
  obtain ⟨hat, hKX, hKM, hKo, hEX, hEM, hXX, hXM, hD⟩ := id hh
  obtain ⟨hx, hb, hr, hml, hown, hts, hXs, hbl, hlocks, hgv⟩ := id hat
  have hbA : ¬ (fun q : Nat => s.heap.size ≤ q) b := Nat.not_le.mpr hbl
  obtain ⟨r, τX, τM, e1, e2, hI⟩ := hB i σX σM (xs (nI (6 * i) + 1).toNatClampNeg) (xs (nI (6 * i) + 2).toNatClampNeg) hi5 hI0
  refine lv_aload_n hx hb dL_law_450 rfl (lv_at hl 1 rfl) ?_
  refine lv_aload_n hx hb dL_law_451 rfl (lv_at hl 0 rfl) ?_
  refine lv_iload hx hb dL_law_452 (lv_at hl 4 rfl) ?_
  refine lv_iconst (v := 1) hx hb dL_law_454 (by decide) ?_
  refine lv_iadd hx hb dL_law_455 ?_
  refine va_sld hx hb hXs hbl hbA hS (lw_in (k := 1) hL hi (by decide)) dL_law_456 ?_
  refine lv_aload_n hx hb dL_law_457 rfl (lv_at hl 0 rfl) ?_
  refine lv_iload hx hb dL_law_458 (lv_at hl 4 rfl) ?_
  refine lv_iconst (v := 2) hx hb dL_law_460 (by decide) ?_
  refine lv_iadd hx hb dL_law_461 ?_
  refine va_sld hx hb hXs hbl hbA hS (lw_in (k := 2) hL hi (by decide)) dL_law_462 ?_
  refine lw_callX (as := [.int (xs (nI (6 * i) + 1).toNatClampNeg), .int (xs (nI (6 * i) + 2).toNatClampNeg)]) (st := []) hh wvL_46 rfl (kX11_over hEX (xs (nI (6 * i) + 1).toNatClampNeg) (xs (nI (6 * i) + 2).toNatClampNeg) σX e1) rfl (by decide) (Nat.le_of_ble_eq_true rfl) rfl rfl dL_law_463 hP hS hl.1 ⟨by omega, by omega⟩ (fun H locs hP hS => ?_)
  refine lv_aload_n hx hb dL_law_466 rfl (lv_at hl 2 rfl) ?_
  refine lv_aload_n hx hb dL_law_467 rfl (lv_at hl 0 rfl) ?_
  refine lv_iload hx hb dL_law_468 (lv_at hl 4 rfl) ?_
  refine lv_iconst (v := 1) hx hb dL_law_470 (by decide) ?_
  refine lv_iadd hx hb dL_law_471 ?_
  refine va_sld hx hb hXs hbl hbA hS (lw_in (k := 1) hL hi (by decide)) dL_law_472 ?_
  refine lv_aload_n hx hb dL_law_473 rfl (lv_at hl 0 rfl) ?_
  refine lv_iload hx hb dL_law_474 (lv_at hl 4 rfl) ?_
  refine lv_iconst (v := 2) hx hb dL_law_476 (by decide) ?_
  refine lv_iadd hx hb dL_law_477 ?_
  refine va_sld hx hb hXs hbl hbA hS (lw_in (k := 2) hL hi (by decide)) dL_law_478 ?_
  refine lw_callM (as := [.int (xs (nI (6 * i) + 1).toNatClampNeg), .int (xs (nI (6 * i) + 2).toNatClampNeg)]) (st := [.int r]) hh wvL_49 rfl (kX12_over hEM (xs (nI (6 * i) + 1).toNatClampNeg) (xs (nI (6 * i) + 2).toNatClampNeg) σM e2) rfl (by decide) (Nat.le_of_ble_eq_true rfl) rfl rfl dL_law_479 hP hS hl.1 ⟨by omega, by omega⟩ (fun H locs hP hS => ?_)
  refine lv_icmp_eq (tgt := 1753) hx hb dL_law_482 (by decide) (fun _ => ?_) (fun c9 => absurd rfl c9)
  exact K τX τM fo H locs cells slots ls hP hI hS (by omega) (by omega) hl
set_option maxRecDepth 100000 in
theorem lc7 (hh : lwH l p s m meth c b L xs dC dI adX adM caX caM qo co XX XM) (hL : L ≤ 3072) (hi : 6 * i + 6 ≤ L) (hi5 : i < 512) (hB : opB7 Inv) (hI0 : Inv i σX σM) (hP : lwW dC dI adX adM caX caM qo co σX σM fo H) (hS : va_S (fun q => s.heap.size ≤ q) s.heap H locs) (hc1 : cells ≤ 1000 * (i + 1)) (hc2 : slots ≤ 100000 + 1000 * i) (hl : lv_has ls 7 [(0, .ref b), (1, .ref (adX 0)), (2, .ref (adM 0)), (3, .ref qo), (4, .int (nI (6 * i)))]) (K : ∀ (τX τM : gM) (fo : Nat → Int64) (H : Heap) (locs : List Loc) (cells slots : Nat) (ls : Array Slot), lwW dC dI adX adM caX caM qo co τX τM fo H → Inv (i + 1) τX τM → va_S (fun q => s.heap.size ≤ q) s.heap H locs → cells ≤ 1000 * (i + 2) → slots ≤ 100000 + 1000 * (i + 1) → lv_has ls 7 [(0, .ref b), (1, .ref (adX 0)), (2, .ref (adM 0)), (3, .ref qo), (4, .int (nI (6 * i)))] → W p l e room_1 s m #[Value.ref b] below meth c H locs cells slots Q (F0 m 1753 ls [])) : W p l e room_1 s m #[Value.ref b] below meth c H locs cells slots Q (F0 m 487 ls []) := by
  obtain ⟨hat, hKX, hKM, hKo, hEX, hEM, hXX, hXM, hD⟩ := id hh
  obtain ⟨hx, hb, hr, hml, hown, hts, hXs, hbl, hlocks, hgv⟩ := id hat
  have hbA : ¬ (fun q : Nat => s.heap.size ≤ q) b := Nat.not_le.mpr hbl
  obtain ⟨r, τX, τM, e1, e2, hI⟩ := hB i σX σM (xs (nI (6 * i) + 1).toNatClampNeg) hi5 hI0
  refine lv_aload_n hx hb dL_law_487 rfl (lv_at hl 1 rfl) ?_
  refine lv_aload_n hx hb dL_law_488 rfl (lv_at hl 0 rfl) ?_
  refine lv_iload hx hb dL_law_489 (lv_at hl 4 rfl) ?_
  refine lv_iconst (v := 1) hx hb dL_law_491 (by decide) ?_
  refine lv_iadd hx hb dL_law_492 ?_
  refine va_sld hx hb hXs hbl hbA hS (lw_in (k := 1) hL hi (by decide)) dL_law_493 ?_
  refine lw_callX (as := [.int (xs (nI (6 * i) + 1).toNatClampNeg)]) (st := []) hh wvL_50 rfl (kX11_power hEX (xs (nI (6 * i) + 1).toNatClampNeg) σX e1) rfl (by decide) (Nat.le_of_ble_eq_true rfl) rfl rfl dL_law_494 hP hS hl.1 ⟨by omega, by omega⟩ (fun H locs hP hS => ?_)
  refine lv_aload_n hx hb dL_law_497 rfl (lv_at hl 2 rfl) ?_
  refine lv_aload_n hx hb dL_law_498 rfl (lv_at hl 0 rfl) ?_
  refine lv_iload hx hb dL_law_499 (lv_at hl 4 rfl) ?_
  refine lv_iconst (v := 1) hx hb dL_law_501 (by decide) ?_
  refine lv_iadd hx hb dL_law_502 ?_
  refine va_sld hx hb hXs hbl hbA hS (lw_in (k := 1) hL hi (by decide)) dL_law_503 ?_
  refine lw_callM (as := [.int (xs (nI (6 * i) + 1).toNatClampNeg)]) (st := [.int r]) hh wvL_53 rfl (kX12_power hEM (xs (nI (6 * i) + 1).toNatClampNeg) σM e2) rfl (by decide) (Nat.le_of_ble_eq_true rfl) rfl rfl dL_law_504 hP hS hl.1 ⟨by omega, by omega⟩ (fun H locs hP hS => ?_)
  refine lv_icmp_eq (tgt := 1753) hx hb dL_law_507 (by decide) (fun _ => ?_) (fun c9 => absurd rfl c9)
  exact K τX τM fo H locs cells slots ls hP hI hS (by omega) (by omega) hl
set_option maxRecDepth 100000 in
theorem lc8 (hh : lwH l p s m meth c b L xs dC dI adX adM caX caM qo co XX XM) (hL : L ≤ 3072) (hi : 6 * i + 6 ≤ L) (hi5 : i < 512) (hB : opB8 Inv) (hI0 : Inv i σX σM) (hP : lwW dC dI adX adM caX caM qo co σX σM fo H) (hS : va_S (fun q => s.heap.size ≤ q) s.heap H locs) (hc1 : cells ≤ 1000 * (i + 1)) (hc2 : slots ≤ 100000 + 1000 * i) (hl : lv_has ls 7 [(0, .ref b), (1, .ref (adX 0)), (2, .ref (adM 0)), (3, .ref qo), (4, .int (nI (6 * i)))]) (K : ∀ (τX τM : gM) (fo : Nat → Int64) (H : Heap) (locs : List Loc) (cells slots : Nat) (ls : Array Slot), lwW dC dI adX adM caX caM qo co τX τM fo H → Inv (i + 1) τX τM → va_S (fun q => s.heap.size ≤ q) s.heap H locs → cells ≤ 1000 * (i + 2) → slots ≤ 100000 + 1000 * (i + 1) → lv_has ls 7 [(0, .ref b), (1, .ref (adX 0)), (2, .ref (adM 0)), (3, .ref qo), (4, .int (nI (6 * i)))] → W p l e room_1 s m #[Value.ref b] below meth c H locs cells slots Q (F0 m 1753 ls [])) : W p l e room_1 s m #[Value.ref b] below meth c H locs cells slots Q (F0 m 512 ls []) := by
  obtain ⟨hat, hKX, hKM, hKo, hEX, hEM, hXX, hXM, hD⟩ := id hh
  obtain ⟨hx, hb, hr, hml, hown, hts, hXs, hbl, hlocks, hgv⟩ := id hat
  have hbA : ¬ (fun q : Nat => s.heap.size ≤ q) b := Nat.not_le.mpr hbl
  obtain ⟨r, τX, τM, e1, e2, hI⟩ := hB i σX σM (xs (nI (6 * i) + 1).toNatClampNeg) hi5 hI0
  refine lv_aload_n hx hb dL_law_512 rfl (lv_at hl 1 rfl) ?_
  refine lv_aload_n hx hb dL_law_513 rfl (lv_at hl 0 rfl) ?_
  refine lv_iload hx hb dL_law_514 (lv_at hl 4 rfl) ?_
  refine lv_iconst (v := 1) hx hb dL_law_516 (by decide) ?_
  refine lv_iadd hx hb dL_law_517 ?_
  refine va_sld hx hb hXs hbl hbA hS (lw_in (k := 1) hL hi (by decide)) dL_law_518 ?_
  refine lw_callX (as := [.int (xs (nI (6 * i) + 1).toNatClampNeg)]) (st := []) hh wvL_54 rfl (kX11_logOf hEX (xs (nI (6 * i) + 1).toNatClampNeg) σX e1) rfl (by decide) (Nat.le_of_ble_eq_true rfl) rfl rfl dL_law_519 hP hS hl.1 ⟨by omega, by omega⟩ (fun H locs hP hS => ?_)
  refine lv_aload_n hx hb dL_law_522 rfl (lv_at hl 2 rfl) ?_
  refine lv_aload_n hx hb dL_law_523 rfl (lv_at hl 0 rfl) ?_
  refine lv_iload hx hb dL_law_524 (lv_at hl 4 rfl) ?_
  refine lv_iconst (v := 1) hx hb dL_law_526 (by decide) ?_
  refine lv_iadd hx hb dL_law_527 ?_
  refine va_sld hx hb hXs hbl hbA hS (lw_in (k := 1) hL hi (by decide)) dL_law_528 ?_
  refine lw_callM (as := [.int (xs (nI (6 * i) + 1).toNatClampNeg)]) (st := [.int r]) hh wvL_57 rfl (kX12_logOf hEM (xs (nI (6 * i) + 1).toNatClampNeg) σM e2) rfl (by decide) (Nat.le_of_ble_eq_true rfl) rfl rfl dL_law_529 hP hS hl.1 ⟨by omega, by omega⟩ (fun H locs hP hS => ?_)
  refine lv_icmp_eq (tgt := 1753) hx hb dL_law_532 (by decide) (fun _ => ?_) (fun c9 => absurd rfl c9)
  exact K τX τM fo H locs cells slots ls hP hI hS (by omega) (by omega) hl
set_option maxRecDepth 100000 in
theorem lc9 (hh : lwH l p s m meth c b L xs dC dI adX adM caX caM qo co XX XM) (hL : L ≤ 3072) (hi : 6 * i + 6 ≤ L) (hi5 : i < 512) (hB : opB9 Inv) (hI0 : Inv i σX σM) (hP : lwW dC dI adX adM caX caM qo co σX σM fo H) (hS : va_S (fun q => s.heap.size ≤ q) s.heap H locs) (hc1 : cells ≤ 1000 * (i + 1)) (hc2 : slots ≤ 100000 + 1000 * i) (hl : lv_has ls 7 [(0, .ref b), (1, .ref (adX 0)), (2, .ref (adM 0)), (3, .ref qo), (4, .int (nI (6 * i)))]) (K : ∀ (τX τM : gM) (fo : Nat → Int64) (H : Heap) (locs : List Loc) (cells slots : Nat) (ls : Array Slot), lwW dC dI adX adM caX caM qo co τX τM fo H → Inv (i + 1) τX τM → va_S (fun q => s.heap.size ≤ q) s.heap H locs → cells ≤ 1000 * (i + 2) → slots ≤ 100000 + 1000 * (i + 1) → lv_has ls 7 [(0, .ref b), (1, .ref (adX 0)), (2, .ref (adM 0)), (3, .ref qo), (4, .int (nI (6 * i)))] → W p l e room_1 s m #[Value.ref b] below meth c H locs cells slots Q (F0 m 1753 ls [])) : W p l e room_1 s m #[Value.ref b] below meth c H locs cells slots Q (F0 m 537 ls []) := by
  obtain ⟨hat, hKX, hKM, hKo, hEX, hEM, hXX, hXM, hD⟩ := id hh
  obtain ⟨hx, hb, hr, hml, hown, hts, hXs, hbl, hlocks, hgv⟩ := id hat
  have hbA : ¬ (fun q : Nat => s.heap.size ≤ q) b := Nat.not_le.mpr hbl
  obtain ⟨r, τX, τM, e1, e2, hI⟩ := hB i σX σM (xs (nI (6 * i) + 1).toNatClampNeg) (xs (nI (6 * i) + 2).toNatClampNeg) hi5 hI0
  refine lv_aload_n hx hb dL_law_537 rfl (lv_at hl 1 rfl) ?_
  refine lv_aload_n hx hb dL_law_538 rfl (lv_at hl 0 rfl) ?_
  refine lv_iload hx hb dL_law_539 (lv_at hl 4 rfl) ?_
  refine lv_iconst (v := 1) hx hb dL_law_541 (by decide) ?_
  refine lv_iadd hx hb dL_law_542 ?_
  refine va_sld hx hb hXs hbl hbA hS (lw_in (k := 1) hL hi (by decide)) dL_law_543 ?_
  refine lv_aload_n hx hb dL_law_544 rfl (lv_at hl 0 rfl) ?_
  refine lv_iload hx hb dL_law_545 (lv_at hl 4 rfl) ?_
  refine lv_iconst (v := 2) hx hb dL_law_547 (by decide) ?_
  refine lv_iadd hx hb dL_law_548 ?_
  refine va_sld hx hb hXs hbl hbA hS (lw_in (k := 2) hL hi (by decide)) dL_law_549 ?_
  refine lw_callX (as := [.int (xs (nI (6 * i) + 1).toNatClampNeg), .int (xs (nI (6 * i) + 2).toNatClampNeg)]) (st := []) hh wvL_58 rfl (kX11_place hEX (xs (nI (6 * i) + 1).toNatClampNeg) (xs (nI (6 * i) + 2).toNatClampNeg) σX e1) rfl (by decide) (Nat.le_of_ble_eq_true rfl) rfl rfl dL_law_550 hP hS hl.1 ⟨by omega, by omega⟩ (fun H locs hP hS => ?_)
  refine lv_aload_n hx hb dL_law_553 rfl (lv_at hl 2 rfl) ?_
  refine lv_aload_n hx hb dL_law_554 rfl (lv_at hl 0 rfl) ?_
  refine lv_iload hx hb dL_law_555 (lv_at hl 4 rfl) ?_
  refine lv_iconst (v := 1) hx hb dL_law_557 (by decide) ?_
  refine lv_iadd hx hb dL_law_558 ?_
  refine va_sld hx hb hXs hbl hbA hS (lw_in (k := 1) hL hi (by decide)) dL_law_559 ?_
  refine lv_aload_n hx hb dL_law_560 rfl (lv_at hl 0 rfl) ?_
  refine lv_iload hx hb dL_law_561 (lv_at hl 4 rfl) ?_
  refine lv_iconst (v := 2) hx hb dL_law_563 (by decide) ?_
  refine lv_iadd hx hb dL_law_564 ?_
  refine va_sld hx hb hXs hbl hbA hS (lw_in (k := 2) hL hi (by decide)) dL_law_565 ?_
  refine lw_callM (as := [.int (xs (nI (6 * i) + 1).toNatClampNeg), .int (xs (nI (6 * i) + 2).toNatClampNeg)]) (st := [.int r]) hh wvL_61 rfl (kX12_place hEM (xs (nI (6 * i) + 1).toNatClampNeg) (xs (nI (6 * i) + 2).toNatClampNeg) σM e2) rfl (by decide) (Nat.le_of_ble_eq_true rfl) rfl rfl dL_law_566 hP hS hl.1 ⟨by omega, by omega⟩ (fun H locs hP hS => ?_)
  refine lv_icmp_eq (tgt := 1753) hx hb dL_law_569 (by decide) (fun _ => ?_) (fun c9 => absurd rfl c9)
  exact K τX τM fo H locs cells slots ls hP hI hS (by omega) (by omega) hl
set_option maxRecDepth 100000 in
theorem lc10 (hh : lwH l p s m meth c b L xs dC dI adX adM caX caM qo co XX XM) (hL : L ≤ 3072) (hi : 6 * i + 6 ≤ L) (hi5 : i < 512) (hB : opB10 Inv) (hI0 : Inv i σX σM) (hP : lwW dC dI adX adM caX caM qo co σX σM fo H) (hS : va_S (fun q => s.heap.size ≤ q) s.heap H locs) (hc1 : cells ≤ 1000 * (i + 1)) (hc2 : slots ≤ 100000 + 1000 * i) (hl : lv_has ls 7 [(0, .ref b), (1, .ref (adX 0)), (2, .ref (adM 0)), (3, .ref qo), (4, .int (nI (6 * i)))]) (K : ∀ (τX τM : gM) (fo : Nat → Int64) (H : Heap) (locs : List Loc) (cells slots : Nat) (ls : Array Slot), lwW dC dI adX adM caX caM qo co τX τM fo H → Inv (i + 1) τX τM → va_S (fun q => s.heap.size ≤ q) s.heap H locs → cells ≤ 1000 * (i + 2) → slots ≤ 100000 + 1000 * (i + 1) → lv_has ls 7 [(0, .ref b), (1, .ref (adX 0)), (2, .ref (adM 0)), (3, .ref qo), (4, .int (nI (6 * i)))] → W p l e room_1 s m #[Value.ref b] below meth c H locs cells slots Q (F0 m 1753 ls [])) : W p l e room_1 s m #[Value.ref b] below meth c H locs cells slots Q (F0 m 574 ls []) := by
  obtain ⟨hat, hKX, hKM, hKo, hEX, hEM, hXX, hXM, hD⟩ := id hh
  obtain ⟨hx, hb, hr, hml, hown, hts, hXs, hbl, hlocks, hgv⟩ := id hat
  have hbA : ¬ (fun q : Nat => s.heap.size ≤ q) b := Nat.not_le.mpr hbl
  obtain ⟨r, τX, τM, e1, e2, hI⟩ := hB i σX σM (xs (nI (6 * i) + 1).toNatClampNeg) (xs (nI (6 * i) + 2).toNatClampNeg) hi5 hI0
  refine lv_aload_n hx hb dL_law_574 rfl (lv_at hl 1 rfl) ?_
  refine lv_aload_n hx hb dL_law_575 rfl (lv_at hl 0 rfl) ?_
  refine lv_iload hx hb dL_law_576 (lv_at hl 4 rfl) ?_
  refine lv_iconst (v := 1) hx hb dL_law_578 (by decide) ?_
  refine lv_iadd hx hb dL_law_579 ?_
  refine va_sld hx hb hXs hbl hbA hS (lw_in (k := 1) hL hi (by decide)) dL_law_580 ?_
  refine lv_aload_n hx hb dL_law_581 rfl (lv_at hl 0 rfl) ?_
  refine lv_iload hx hb dL_law_582 (lv_at hl 4 rfl) ?_
  refine lv_iconst (v := 2) hx hb dL_law_584 (by decide) ?_
  refine lv_iadd hx hb dL_law_585 ?_
  refine va_sld hx hb hXs hbl hbA hS (lw_in (k := 2) hL hi (by decide)) dL_law_586 ?_
  refine lw_callX (as := [.int (xs (nI (6 * i) + 1).toNatClampNeg), .int (xs (nI (6 * i) + 2).toNatClampNeg)]) (st := []) hh wvL_62 rfl (kX11_part hEX (xs (nI (6 * i) + 1).toNatClampNeg) (xs (nI (6 * i) + 2).toNatClampNeg) σX e1) rfl (by decide) (Nat.le_of_ble_eq_true rfl) rfl rfl dL_law_587 hP hS hl.1 ⟨by omega, by omega⟩ (fun H locs hP hS => ?_)
  refine lv_aload_n hx hb dL_law_590 rfl (lv_at hl 2 rfl) ?_
  refine lv_aload_n hx hb dL_law_591 rfl (lv_at hl 0 rfl) ?_
  refine lv_iload hx hb dL_law_592 (lv_at hl 4 rfl) ?_
  refine lv_iconst (v := 1) hx hb dL_law_594 (by decide) ?_
  refine lv_iadd hx hb dL_law_595 ?_
  refine va_sld hx hb hXs hbl hbA hS (lw_in (k := 1) hL hi (by decide)) dL_law_596 ?_
  refine lv_aload_n hx hb dL_law_597 rfl (lv_at hl 0 rfl) ?_
  refine lv_iload hx hb dL_law_598 (lv_at hl 4 rfl) ?_
  refine lv_iconst (v := 2) hx hb dL_law_600 (by decide) ?_
  refine lv_iadd hx hb dL_law_601 ?_
  refine va_sld hx hb hXs hbl hbA hS (lw_in (k := 2) hL hi (by decide)) dL_law_602 ?_
  refine lw_callM (as := [.int (xs (nI (6 * i) + 1).toNatClampNeg), .int (xs (nI (6 * i) + 2).toNatClampNeg)]) (st := [.int r]) hh wvL_65 rfl (kX12_part hEM (xs (nI (6 * i) + 1).toNatClampNeg) (xs (nI (6 * i) + 2).toNatClampNeg) σM e2) rfl (by decide) (Nat.le_of_ble_eq_true rfl) rfl rfl dL_law_603 hP hS hl.1 ⟨by omega, by omega⟩ (fun H locs hP hS => ?_)
  refine lv_icmp_eq (tgt := 1753) hx hb dL_law_606 (by decide) (fun _ => ?_) (fun c9 => absurd rfl c9)
  exact K τX τM fo H locs cells slots ls hP hI hS (by omega) (by omega) hl
set_option maxRecDepth 100000 in
theorem lc12 (hh : lwH l p s m meth c b L xs dC dI adX adM caX caM qo co XX XM) (hL : L ≤ 3072) (hi : 6 * i + 6 ≤ L) (hi5 : i < 512) (hB : opB12 Inv) (hI0 : Inv i σX σM) (hP : lwW dC dI adX adM caX caM qo co σX σM fo H) (hS : va_S (fun q => s.heap.size ≤ q) s.heap H locs) (hc1 : cells ≤ 1000 * (i + 1)) (hc2 : slots ≤ 100000 + 1000 * i) (hl : lv_has ls 7 [(0, .ref b), (1, .ref (adX 0)), (2, .ref (adM 0)), (3, .ref qo), (4, .int (nI (6 * i)))]) (K : ∀ (τX τM : gM) (fo : Nat → Int64) (H : Heap) (locs : List Loc) (cells slots : Nat) (ls : Array Slot), lwW dC dI adX adM caX caM qo co τX τM fo H → Inv (i + 1) τX τM → va_S (fun q => s.heap.size ≤ q) s.heap H locs → cells ≤ 1000 * (i + 2) → slots ≤ 100000 + 1000 * (i + 1) → lv_has ls 7 [(0, .ref b), (1, .ref (adX 0)), (2, .ref (adM 0)), (3, .ref qo), (4, .int (nI (6 * i)))] → W p l e room_1 s m #[Value.ref b] below meth c H locs cells slots Q (F0 m 1753 ls [])) : W p l e room_1 s m #[Value.ref b] below meth c H locs cells slots Q (F0 m 667 ls []) := by
  obtain ⟨hat, hKX, hKM, hKo, hEX, hEM, hXX, hXM, hD⟩ := id hh
  obtain ⟨hx, hb, hr, hml, hown, hts, hXs, hbl, hlocks, hgv⟩ := id hat
  have hbA : ¬ (fun q : Nat => s.heap.size ≤ q) b := Nat.not_le.mpr hbl
  obtain ⟨r, τX, τM, e1, e2, hI⟩ := hB i σX σM (xs (nI (6 * i) + 1).toNatClampNeg) (xs (nI (6 * i) + 2).toNatClampNeg) (xs (nI (6 * i) + 3).toNatClampNeg) hi5 hI0
  refine lv_aload_n hx hb dL_law_667 rfl (lv_at hl 1 rfl) ?_
  refine lv_aload_n hx hb dL_law_668 rfl (lv_at hl 0 rfl) ?_
  refine lv_iload hx hb dL_law_669 (lv_at hl 4 rfl) ?_
  refine lv_iconst (v := 1) hx hb dL_law_671 (by decide) ?_
  refine lv_iadd hx hb dL_law_672 ?_
  refine va_sld hx hb hXs hbl hbA hS (lw_in (k := 1) hL hi (by decide)) dL_law_673 ?_
  refine lv_aload_n hx hb dL_law_674 rfl (lv_at hl 0 rfl) ?_
  refine lv_iload hx hb dL_law_675 (lv_at hl 4 rfl) ?_
  refine lv_iconst (v := 2) hx hb dL_law_677 (by decide) ?_
  refine lv_iadd hx hb dL_law_678 ?_
  refine va_sld hx hb hXs hbl hbA hS (lw_in (k := 2) hL hi (by decide)) dL_law_679 ?_
  refine lv_aload_n hx hb dL_law_680 rfl (lv_at hl 0 rfl) ?_
  refine lv_iload hx hb dL_law_681 (lv_at hl 4 rfl) ?_
  refine lv_iconst (v := 3) hx hb dL_law_683 (by decide) ?_
  refine lv_iadd hx hb dL_law_684 ?_
  refine va_sld hx hb hXs hbl hbA hS (lw_in (k := 3) hL hi (by decide)) dL_law_685 ?_
  refine lw_callX (as := [.int (xs (nI (6 * i) + 1).toNatClampNeg), .int (xs (nI (6 * i) + 2).toNatClampNeg), .int (xs (nI (6 * i) + 3).toNatClampNeg)]) (st := []) hh wvL_76 rfl (kX11_cell hEX (xs (nI (6 * i) + 1).toNatClampNeg) (xs (nI (6 * i) + 2).toNatClampNeg) (xs (nI (6 * i) + 3).toNatClampNeg) σX e1) rfl (by decide) (Nat.le_of_ble_eq_true rfl) rfl rfl dL_law_686 hP hS hl.1 ⟨by omega, by omega⟩ (fun H locs hP hS => ?_)
  refine lv_aload_n hx hb dL_law_689 rfl (lv_at hl 2 rfl) ?_
  refine lv_aload_n hx hb dL_law_690 rfl (lv_at hl 0 rfl) ?_
  refine lv_iload hx hb dL_law_691 (lv_at hl 4 rfl) ?_
  refine lv_iconst (v := 1) hx hb dL_law_693 (by decide) ?_
  refine lv_iadd hx hb dL_law_694 ?_
  refine va_sld hx hb hXs hbl hbA hS (lw_in (k := 1) hL hi (by decide)) dL_law_695 ?_
  refine lv_aload_n hx hb dL_law_696 rfl (lv_at hl 0 rfl) ?_
  refine lv_iload hx hb dL_law_697 (lv_at hl 4 rfl) ?_
  refine lv_iconst (v := 2) hx hb dL_law_699 (by decide) ?_
  refine lv_iadd hx hb dL_law_700 ?_
  refine va_sld hx hb hXs hbl hbA hS (lw_in (k := 2) hL hi (by decide)) dL_law_701 ?_
  refine lv_aload_n hx hb dL_law_702 rfl (lv_at hl 0 rfl) ?_
  refine lv_iload hx hb dL_law_703 (lv_at hl 4 rfl) ?_
  refine lv_iconst (v := 3) hx hb dL_law_705 (by decide) ?_
  refine lv_iadd hx hb dL_law_706 ?_
  refine va_sld hx hb hXs hbl hbA hS (lw_in (k := 3) hL hi (by decide)) dL_law_707 ?_
  refine lw_callM (as := [.int (xs (nI (6 * i) + 1).toNatClampNeg), .int (xs (nI (6 * i) + 2).toNatClampNeg), .int (xs (nI (6 * i) + 3).toNatClampNeg)]) (st := [.int r]) hh wvL_80 rfl (kX12_cell hEM (xs (nI (6 * i) + 1).toNatClampNeg) (xs (nI (6 * i) + 2).toNatClampNeg) (xs (nI (6 * i) + 3).toNatClampNeg) σM e2) rfl (by decide) (Nat.le_of_ble_eq_true rfl) rfl rfl dL_law_708 hP hS hl.1 ⟨by omega, by omega⟩ (fun H locs hP hS => ?_)
  refine lv_icmp_eq (tgt := 1753) hx hb dL_law_711 (by decide) (fun _ => ?_) (fun c9 => absurd rfl c9)
  exact K τX τM fo H locs cells slots ls hP hI hS (by omega) (by omega) hl
set_option maxRecDepth 100000 in
theorem lc13 (hh : lwH l p s m meth c b L xs dC dI adX adM caX caM qo co XX XM) (hL : L ≤ 3072) (hi : 6 * i + 6 ≤ L) (hi5 : i < 512) (hB : opB13 Inv) (hI0 : Inv i σX σM) (hP : lwW dC dI adX adM caX caM qo co σX σM fo H) (hS : va_S (fun q => s.heap.size ≤ q) s.heap H locs) (hc1 : cells ≤ 1000 * (i + 1)) (hc2 : slots ≤ 100000 + 1000 * i) (hl : lv_has ls 7 [(0, .ref b), (1, .ref (adX 0)), (2, .ref (adM 0)), (3, .ref qo), (4, .int (nI (6 * i)))]) (K : ∀ (τX τM : gM) (fo : Nat → Int64) (H : Heap) (locs : List Loc) (cells slots : Nat) (ls : Array Slot), lwW dC dI adX adM caX caM qo co τX τM fo H → Inv (i + 1) τX τM → va_S (fun q => s.heap.size ≤ q) s.heap H locs → cells ≤ 1000 * (i + 2) → slots ≤ 100000 + 1000 * (i + 1) → lv_has ls 7 [(0, .ref b), (1, .ref (adX 0)), (2, .ref (adM 0)), (3, .ref qo), (4, .int (nI (6 * i)))] → W p l e room_1 s m #[Value.ref b] below meth c H locs cells slots Q (F0 m 1753 ls [])) : W p l e room_1 s m #[Value.ref b] below meth c H locs cells slots Q (F0 m 716 ls []) := by
  obtain ⟨hat, hKX, hKM, hKo, hEX, hEM, hXX, hXM, hD⟩ := id hh
  obtain ⟨hx, hb, hr, hml, hown, hts, hXs, hbl, hlocks, hgv⟩ := id hat
  have hbA : ¬ (fun q : Nat => s.heap.size ≤ q) b := Nat.not_le.mpr hbl
  obtain ⟨r, τX, τM, e1, e2, hI⟩ := hB i σX σM (xs (nI (6 * i) + 1).toNatClampNeg) (xs (nI (6 * i) + 2).toNatClampNeg) hi5 hI0
  refine lv_aload_n hx hb dL_law_716 rfl (lv_at hl 1 rfl) ?_
  refine lv_aload_n hx hb dL_law_717 rfl (lv_at hl 0 rfl) ?_
  refine lv_iload hx hb dL_law_718 (lv_at hl 4 rfl) ?_
  refine lv_iconst (v := 1) hx hb dL_law_720 (by decide) ?_
  refine lv_iadd hx hb dL_law_721 ?_
  refine va_sld hx hb hXs hbl hbA hS (lw_in (k := 1) hL hi (by decide)) dL_law_722 ?_
  refine lv_aload_n hx hb dL_law_723 rfl (lv_at hl 0 rfl) ?_
  refine lv_iload hx hb dL_law_724 (lv_at hl 4 rfl) ?_
  refine lv_iconst (v := 2) hx hb dL_law_726 (by decide) ?_
  refine lv_iadd hx hb dL_law_727 ?_
  refine va_sld hx hb hXs hbl hbA hS (lw_in (k := 2) hL hi (by decide)) dL_law_728 ?_
  refine lw_callX (as := [.int (xs (nI (6 * i) + 1).toNatClampNeg), .int (xs (nI (6 * i) + 2).toNatClampNeg)]) (st := []) hh wvL_81 rfl (kX11_disk hEX (xs (nI (6 * i) + 1).toNatClampNeg) (xs (nI (6 * i) + 2).toNatClampNeg) σX e1) rfl (by decide) (Nat.le_of_ble_eq_true rfl) rfl rfl dL_law_729 hP hS hl.1 ⟨by omega, by omega⟩ (fun H locs hP hS => ?_)
  refine lv_aload_n hx hb dL_law_732 rfl (lv_at hl 2 rfl) ?_
  refine lv_aload_n hx hb dL_law_733 rfl (lv_at hl 0 rfl) ?_
  refine lv_iload hx hb dL_law_734 (lv_at hl 4 rfl) ?_
  refine lv_iconst (v := 1) hx hb dL_law_736 (by decide) ?_
  refine lv_iadd hx hb dL_law_737 ?_
  refine va_sld hx hb hXs hbl hbA hS (lw_in (k := 1) hL hi (by decide)) dL_law_738 ?_
  refine lv_aload_n hx hb dL_law_739 rfl (lv_at hl 0 rfl) ?_
  refine lv_iload hx hb dL_law_740 (lv_at hl 4 rfl) ?_
  refine lv_iconst (v := 2) hx hb dL_law_742 (by decide) ?_
  refine lv_iadd hx hb dL_law_743 ?_
  refine va_sld hx hb hXs hbl hbA hS (lw_in (k := 2) hL hi (by decide)) dL_law_744 ?_
  refine lw_callM (as := [.int (xs (nI (6 * i) + 1).toNatClampNeg), .int (xs (nI (6 * i) + 2).toNatClampNeg)]) (st := [.int r]) hh wvL_84 rfl (kX12_disk hEM (xs (nI (6 * i) + 1).toNatClampNeg) (xs (nI (6 * i) + 2).toNatClampNeg) σM e2) rfl (by decide) (Nat.le_of_ble_eq_true rfl) rfl rfl dL_law_745 hP hS hl.1 ⟨by omega, by omega⟩ (fun H locs hP hS => ?_)
  refine lv_icmp_eq (tgt := 1753) hx hb dL_law_748 (by decide) (fun _ => ?_) (fun c9 => absurd rfl c9)
  exact K τX τM fo H locs cells slots ls hP hI hS (by omega) (by omega) hl
set_option maxRecDepth 100000 in
theorem lc14 (hh : lwH l p s m meth c b L xs dC dI adX adM caX caM qo co XX XM) (hL : L ≤ 3072) (hi : 6 * i + 6 ≤ L) (hi5 : i < 512) (hB : opB14 Inv) (hI0 : Inv i σX σM) (hP : lwW dC dI adX adM caX caM qo co σX σM fo H) (hS : va_S (fun q => s.heap.size ≤ q) s.heap H locs) (hc1 : cells ≤ 1000 * (i + 1)) (hc2 : slots ≤ 100000 + 1000 * i) (hl : lv_has ls 7 [(0, .ref b), (1, .ref (adX 0)), (2, .ref (adM 0)), (3, .ref qo), (4, .int (nI (6 * i)))]) (K : ∀ (τX τM : gM) (fo : Nat → Int64) (H : Heap) (locs : List Loc) (cells slots : Nat) (ls : Array Slot), lwW dC dI adX adM caX caM qo co τX τM fo H → Inv (i + 1) τX τM → va_S (fun q => s.heap.size ≤ q) s.heap H locs → cells ≤ 1000 * (i + 2) → slots ≤ 100000 + 1000 * (i + 1) → lv_has ls 7 [(0, .ref b), (1, .ref (adX 0)), (2, .ref (adM 0)), (3, .ref qo), (4, .int (nI (6 * i)))] → W p l e room_1 s m #[Value.ref b] below meth c H locs cells slots Q (F0 m 1753 ls [])) : W p l e room_1 s m #[Value.ref b] below meth c H locs cells slots Q (F0 m 753 ls []) := by
  obtain ⟨hat, hKX, hKM, hKo, hEX, hEM, hXX, hXM, hD⟩ := id hh
  obtain ⟨hx, hb, hr, hml, hown, hts, hXs, hbl, hlocks, hgv⟩ := id hat
  have hbA : ¬ (fun q : Nat => s.heap.size ≤ q) b := Nat.not_le.mpr hbl
  obtain ⟨r, τX, τM, e1, e2, hI⟩ := hB i σX σM (xs (nI (6 * i) + 1).toNatClampNeg) (xs (nI (6 * i) + 2).toNatClampNeg) hi5 hI0
  refine lv_aload_n hx hb dL_law_753 rfl (lv_at hl 1 rfl) ?_
  refine lv_aload_n hx hb dL_law_754 rfl (lv_at hl 0 rfl) ?_
  refine lv_iload hx hb dL_law_755 (lv_at hl 4 rfl) ?_
  refine lv_iconst (v := 1) hx hb dL_law_757 (by decide) ?_
  refine lv_iadd hx hb dL_law_758 ?_
  refine va_sld hx hb hXs hbl hbA hS (lw_in (k := 1) hL hi (by decide)) dL_law_759 ?_
  refine lv_aload_n hx hb dL_law_760 rfl (lv_at hl 0 rfl) ?_
  refine lv_iload hx hb dL_law_761 (lv_at hl 4 rfl) ?_
  refine lv_iconst (v := 2) hx hb dL_law_763 (by decide) ?_
  refine lv_iadd hx hb dL_law_764 ?_
  refine va_sld hx hb hXs hbl hbA hS (lw_in (k := 2) hL hi (by decide)) dL_law_765 ?_
  refine lw_callX (as := [.int (xs (nI (6 * i) + 1).toNatClampNeg), .int (xs (nI (6 * i) + 2).toNatClampNeg)]) (st := []) hh wvL_85 rfl (kX11_write hEX fl (xs (nI (6 * i) + 1).toNatClampNeg) (xs (nI (6 * i) + 2).toNatClampNeg) σX e1) rfl (by decide) (Nat.le_of_ble_eq_true rfl) rfl rfl dL_law_766 hP hS hl.1 ⟨by omega, by omega⟩ (fun H locs hP hS => ?_)
  refine lv_aload_n hx hb dL_law_769 rfl (lv_at hl 2 rfl) ?_
  refine lv_aload_n hx hb dL_law_770 rfl (lv_at hl 0 rfl) ?_
  refine lv_iload hx hb dL_law_771 (lv_at hl 4 rfl) ?_
  refine lv_iconst (v := 1) hx hb dL_law_773 (by decide) ?_
  refine lv_iadd hx hb dL_law_774 ?_
  refine va_sld hx hb hXs hbl hbA hS (lw_in (k := 1) hL hi (by decide)) dL_law_775 ?_
  refine lv_aload_n hx hb dL_law_776 rfl (lv_at hl 0 rfl) ?_
  refine lv_iload hx hb dL_law_777 (lv_at hl 4 rfl) ?_
  refine lv_iconst (v := 2) hx hb dL_law_779 (by decide) ?_
  refine lv_iadd hx hb dL_law_780 ?_
  refine va_sld hx hb hXs hbl hbA hS (lw_in (k := 2) hL hi (by decide)) dL_law_781 ?_
  refine lw_callM (as := [.int (xs (nI (6 * i) + 1).toNatClampNeg), .int (xs (nI (6 * i) + 2).toNatClampNeg)]) (st := [.int r]) hh wvL_88 rfl (kX12_write hEM fl (xs (nI (6 * i) + 1).toNatClampNeg) (xs (nI (6 * i) + 2).toNatClampNeg) σM e2) rfl (by decide) (Nat.le_of_ble_eq_true rfl) rfl rfl dL_law_782 hP hS hl.1 ⟨by omega, by omega⟩ (fun H locs hP hS => ?_)
  refine lv_icmp_eq (tgt := 1753) hx hb dL_law_785 (by decide) (fun _ => ?_) (fun c9 => absurd rfl c9)
  exact K τX τM fo H locs cells slots ls hP hI hS (by omega) (by omega) hl
set_option maxRecDepth 100000 in
theorem lc15 (hh : lwH l p s m meth c b L xs dC dI adX adM caX caM qo co XX XM) (hL : L ≤ 3072) (hi : 6 * i + 6 ≤ L) (hi5 : i < 512) (hB : opB15 Inv) (hI0 : Inv i σX σM) (hP : lwW dC dI adX adM caX caM qo co σX σM fo H) (hS : va_S (fun q => s.heap.size ≤ q) s.heap H locs) (hc1 : cells ≤ 1000 * (i + 1)) (hc2 : slots ≤ 100000 + 1000 * i) (hl : lv_has ls 7 [(0, .ref b), (1, .ref (adX 0)), (2, .ref (adM 0)), (3, .ref qo), (4, .int (nI (6 * i)))]) (K : ∀ (τX τM : gM) (fo : Nat → Int64) (H : Heap) (locs : List Loc) (cells slots : Nat) (ls : Array Slot), lwW dC dI adX adM caX caM qo co τX τM fo H → Inv (i + 1) τX τM → va_S (fun q => s.heap.size ≤ q) s.heap H locs → cells ≤ 1000 * (i + 2) → slots ≤ 100000 + 1000 * (i + 1) → lv_has ls 7 [(0, .ref b), (1, .ref (adX 0)), (2, .ref (adM 0)), (3, .ref qo), (4, .int (nI (6 * i)))] → W p l e room_1 s m #[Value.ref b] below meth c H locs cells slots Q (F0 m 1753 ls [])) : W p l e room_1 s m #[Value.ref b] below meth c H locs cells slots Q (F0 m 790 ls []) := by
  obtain ⟨hat, hKX, hKM, hKo, hEX, hEM, hXX, hXM, hD⟩ := id hh
  obtain ⟨hx, hb, hr, hml, hown, hts, hXs, hbl, hlocks, hgv⟩ := id hat
  have hbA : ¬ (fun q : Nat => s.heap.size ≤ q) b := Nat.not_le.mpr hbl
  obtain ⟨r, τX, τM, e1, e2, hI⟩ := hB i σX σM (xs (nI (6 * i) + 1).toNatClampNeg) hi5 hI0
  refine lv_aload_n hx hb dL_law_790 rfl (lv_at hl 1 rfl) ?_
  refine lv_aload_n hx hb dL_law_791 rfl (lv_at hl 0 rfl) ?_
  refine lv_iload hx hb dL_law_792 (lv_at hl 4 rfl) ?_
  refine lv_iconst (v := 1) hx hb dL_law_794 (by decide) ?_
  refine lv_iadd hx hb dL_law_795 ?_
  refine va_sld hx hb hXs hbl hbA hS (lw_in (k := 1) hL hi (by decide)) dL_law_796 ?_
  refine lw_callX (as := [.int (xs (nI (6 * i) + 1).toNatClampNeg)]) (st := []) hh wvL_89 rfl (kX11_lose hEX fl (xs (nI (6 * i) + 1).toNatClampNeg) σX e1) rfl (by decide) (Nat.le_of_ble_eq_true rfl) rfl rfl dL_law_797 hP hS hl.1 ⟨by omega, by omega⟩ (fun H locs hP hS => ?_)
  refine lv_aload_n hx hb dL_law_800 rfl (lv_at hl 2 rfl) ?_
  refine lv_aload_n hx hb dL_law_801 rfl (lv_at hl 0 rfl) ?_
  refine lv_iload hx hb dL_law_802 (lv_at hl 4 rfl) ?_
  refine lv_iconst (v := 1) hx hb dL_law_804 (by decide) ?_
  refine lv_iadd hx hb dL_law_805 ?_
  refine va_sld hx hb hXs hbl hbA hS (lw_in (k := 1) hL hi (by decide)) dL_law_806 ?_
  refine lw_callM (as := [.int (xs (nI (6 * i) + 1).toNatClampNeg)]) (st := [.int r]) hh wvL_92 rfl (kX12_lose hEM fl (xs (nI (6 * i) + 1).toNatClampNeg) σM e2) rfl (by decide) (Nat.le_of_ble_eq_true rfl) rfl rfl dL_law_807 hP hS hl.1 ⟨by omega, by omega⟩ (fun H locs hP hS => ?_)
  refine lv_icmp_eq (tgt := 1753) hx hb dL_law_810 (by decide) (fun _ => ?_) (fun c9 => absurd rfl c9)
  exact K τX τM fo H locs cells slots ls hP hI hS (by omega) (by omega) hl
set_option maxRecDepth 100000 in
theorem lc16 (hh : lwH l p s m meth c b L xs dC dI adX adM caX caM qo co XX XM) (hL : L ≤ 3072) (hi : 6 * i + 6 ≤ L) (hi5 : i < 512) (hB : opB16 Inv) (hI0 : Inv i σX σM) (hP : lwW dC dI adX adM caX caM qo co σX σM fo H) (hS : va_S (fun q => s.heap.size ≤ q) s.heap H locs) (hc1 : cells ≤ 1000 * (i + 1)) (hc2 : slots ≤ 100000 + 1000 * i) (hl : lv_has ls 7 [(0, .ref b), (1, .ref (adX 0)), (2, .ref (adM 0)), (3, .ref qo), (4, .int (nI (6 * i)))]) (K : ∀ (τX τM : gM) (fo : Nat → Int64) (H : Heap) (locs : List Loc) (cells slots : Nat) (ls : Array Slot), lwW dC dI adX adM caX caM qo co τX τM fo H → Inv (i + 1) τX τM → va_S (fun q => s.heap.size ≤ q) s.heap H locs → cells ≤ 1000 * (i + 2) → slots ≤ 100000 + 1000 * (i + 1) → lv_has ls 7 [(0, .ref b), (1, .ref (adX 0)), (2, .ref (adM 0)), (3, .ref qo), (4, .int (nI (6 * i)))] → W p l e room_1 s m #[Value.ref b] below meth c H locs cells slots Q (F0 m 1753 ls [])) : W p l e room_1 s m #[Value.ref b] below meth c H locs cells slots Q (F0 m 815 ls []) := by
  obtain ⟨hat, hKX, hKM, hKo, hEX, hEM, hXX, hXM, hD⟩ := id hh
  obtain ⟨hx, hb, hr, hml, hown, hts, hXs, hbl, hlocks, hgv⟩ := id hat
  have hbA : ¬ (fun q : Nat => s.heap.size ≤ q) b := Nat.not_le.mpr hbl
  obtain ⟨r, τX, τM, e1, e2, hI⟩ := hB i σX σM (xs (nI (6 * i) + 1).toNatClampNeg) hi5 hI0
  refine lv_aload_n hx hb dL_law_815 rfl (lv_at hl 1 rfl) ?_
  refine lv_aload_n hx hb dL_law_816 rfl (lv_at hl 0 rfl) ?_
  refine lv_iload hx hb dL_law_817 (lv_at hl 4 rfl) ?_
  refine lv_iconst (v := 1) hx hb dL_law_819 (by decide) ?_
  refine lv_iadd hx hb dL_law_820 ?_
  refine va_sld hx hb hXs hbl hbA hS (lw_in (k := 1) hL hi (by decide)) dL_law_821 ?_
  refine lw_callX (as := [.int (xs (nI (6 * i) + 1).toNatClampNeg)]) (st := []) hh wvL_93 rfl (kX11_replace hEX fl (xs (nI (6 * i) + 1).toNatClampNeg) σX e1) rfl (by decide) (Nat.le_of_ble_eq_true rfl) rfl rfl dL_law_822 hP hS hl.1 ⟨by omega, by omega⟩ (fun H locs hP hS => ?_)
  refine lv_aload_n hx hb dL_law_825 rfl (lv_at hl 2 rfl) ?_
  refine lv_aload_n hx hb dL_law_826 rfl (lv_at hl 0 rfl) ?_
  refine lv_iload hx hb dL_law_827 (lv_at hl 4 rfl) ?_
  refine lv_iconst (v := 1) hx hb dL_law_829 (by decide) ?_
  refine lv_iadd hx hb dL_law_830 ?_
  refine va_sld hx hb hXs hbl hbA hS (lw_in (k := 1) hL hi (by decide)) dL_law_831 ?_
  refine lw_callM (as := [.int (xs (nI (6 * i) + 1).toNatClampNeg)]) (st := [.int r]) hh wvL_96 rfl (kX12_replace hEM fl (xs (nI (6 * i) + 1).toNatClampNeg) σM e2) rfl (by decide) (Nat.le_of_ble_eq_true rfl) rfl rfl dL_law_832 hP hS hl.1 ⟨by omega, by omega⟩ (fun H locs hP hS => ?_)
  refine lv_icmp_eq (tgt := 1753) hx hb dL_law_835 (by decide) (fun _ => ?_) (fun c9 => absurd rfl c9)
  exact K τX τM fo H locs cells slots ls hP hI hS (by omega) (by omega) hl
set_option maxRecDepth 100000 in
theorem lc17 (hh : lwH l p s m meth c b L xs dC dI adX adM caX caM qo co XX XM) (hL : L ≤ 3072) (hi : 6 * i + 6 ≤ L) (hi5 : i < 512) (hB : opB17 Inv) (hI0 : Inv i σX σM) (hP : lwW dC dI adX adM caX caM qo co σX σM fo H) (hS : va_S (fun q => s.heap.size ≤ q) s.heap H locs) (hc1 : cells ≤ 1000 * (i + 1)) (hc2 : slots ≤ 100000 + 1000 * i) (hl : lv_has ls 7 [(0, .ref b), (1, .ref (adX 0)), (2, .ref (adM 0)), (3, .ref qo), (4, .int (nI (6 * i)))]) (K : ∀ (τX τM : gM) (fo : Nat → Int64) (H : Heap) (locs : List Loc) (cells slots : Nat) (ls : Array Slot), lwW dC dI adX adM caX caM qo co τX τM fo H → Inv (i + 1) τX τM → va_S (fun q => s.heap.size ≤ q) s.heap H locs → cells ≤ 1000 * (i + 2) → slots ≤ 100000 + 1000 * (i + 1) → lv_has ls 7 [(0, .ref b), (1, .ref (adX 0)), (2, .ref (adM 0)), (3, .ref qo), (4, .int (nI (6 * i)))] → W p l e room_1 s m #[Value.ref b] below meth c H locs cells slots Q (F0 m 1753 ls [])) : W p l e room_1 s m #[Value.ref b] below meth c H locs cells slots Q (F0 m 840 ls []) := by
  obtain ⟨hat, hKX, hKM, hKo, hEX, hEM, hXX, hXM, hD⟩ := id hh
  obtain ⟨hx, hb, hr, hml, hown, hts, hXs, hbl, hlocks, hgv⟩ := id hat
  have hbA : ¬ (fun q : Nat => s.heap.size ≤ q) b := Nat.not_le.mpr hbl
  obtain ⟨r, τX, τM, e1, e2, hI⟩ := hB i σX σM (xs (nI (6 * i) + 1).toNatClampNeg) (xs (nI (6 * i) + 2).toNatClampNeg) hi5 hI0
  refine lv_aload_n hx hb dL_law_840 rfl (lv_at hl 1 rfl) ?_
  refine lv_aload_n hx hb dL_law_841 rfl (lv_at hl 0 rfl) ?_
  refine lv_iload hx hb dL_law_842 (lv_at hl 4 rfl) ?_
  refine lv_iconst (v := 1) hx hb dL_law_844 (by decide) ?_
  refine lv_iadd hx hb dL_law_845 ?_
  refine va_sld hx hb hXs hbl hbA hS (lw_in (k := 1) hL hi (by decide)) dL_law_846 ?_
  refine lv_aload_n hx hb dL_law_847 rfl (lv_at hl 0 rfl) ?_
  refine lv_iload hx hb dL_law_848 (lv_at hl 4 rfl) ?_
  refine lv_iconst (v := 2) hx hb dL_law_850 (by decide) ?_
  refine lv_iadd hx hb dL_law_851 ?_
  refine va_sld hx hb hXs hbl hbA hS (lw_in (k := 2) hL hi (by decide)) dL_law_852 ?_
  refine lw_callX (as := [.int (xs (nI (6 * i) + 1).toNatClampNeg), .int (xs (nI (6 * i) + 2).toNatClampNeg)]) (st := []) hh wvL_97 rfl (kX11_rebuild hEX fl (xs (nI (6 * i) + 1).toNatClampNeg) (xs (nI (6 * i) + 2).toNatClampNeg) σX e1) rfl (by decide) (Nat.le_of_ble_eq_true rfl) rfl rfl dL_law_853 hP hS hl.1 ⟨by omega, by omega⟩ (fun H locs hP hS => ?_)
  refine lv_aload_n hx hb dL_law_856 rfl (lv_at hl 2 rfl) ?_
  refine lv_aload_n hx hb dL_law_857 rfl (lv_at hl 0 rfl) ?_
  refine lv_iload hx hb dL_law_858 (lv_at hl 4 rfl) ?_
  refine lv_iconst (v := 1) hx hb dL_law_860 (by decide) ?_
  refine lv_iadd hx hb dL_law_861 ?_
  refine va_sld hx hb hXs hbl hbA hS (lw_in (k := 1) hL hi (by decide)) dL_law_862 ?_
  refine lv_aload_n hx hb dL_law_863 rfl (lv_at hl 0 rfl) ?_
  refine lv_iload hx hb dL_law_864 (lv_at hl 4 rfl) ?_
  refine lv_iconst (v := 2) hx hb dL_law_866 (by decide) ?_
  refine lv_iadd hx hb dL_law_867 ?_
  refine va_sld hx hb hXs hbl hbA hS (lw_in (k := 2) hL hi (by decide)) dL_law_868 ?_
  refine lw_callM (as := [.int (xs (nI (6 * i) + 1).toNatClampNeg), .int (xs (nI (6 * i) + 2).toNatClampNeg)]) (st := [.int r]) hh wvL_100 rfl (kX12_rebuild hEM fl (xs (nI (6 * i) + 1).toNatClampNeg) (xs (nI (6 * i) + 2).toNatClampNeg) σM e2) rfl (by decide) (Nat.le_of_ble_eq_true rfl) rfl rfl dL_law_869 hP hS hl.1 ⟨by omega, by omega⟩ (fun H locs hP hS => ?_)
  refine lv_icmp_eq (tgt := 1753) hx hb dL_law_872 (by decide) (fun _ => ?_) (fun c9 => absurd rfl c9)
  exact K τX τM fo H locs cells slots ls hP hI hS (by omega) (by omega) hl
set_option maxRecDepth 100000 in
theorem lc18 (hh : lwH l p s m meth c b L xs dC dI adX adM caX caM qo co XX XM) (hL : L ≤ 3072) (hi : 6 * i + 6 ≤ L) (hi5 : i < 512) (hB : opB18 Inv) (hI0 : Inv i σX σM) (hP : lwW dC dI adX adM caX caM qo co σX σM fo H) (hS : va_S (fun q => s.heap.size ≤ q) s.heap H locs) (hc1 : cells ≤ 1000 * (i + 1)) (hc2 : slots ≤ 100000 + 1000 * i) (hl : lv_has ls 7 [(0, .ref b), (1, .ref (adX 0)), (2, .ref (adM 0)), (3, .ref qo), (4, .int (nI (6 * i)))]) (K : ∀ (τX τM : gM) (fo : Nat → Int64) (H : Heap) (locs : List Loc) (cells slots : Nat) (ls : Array Slot), lwW dC dI adX adM caX caM qo co τX τM fo H → Inv (i + 1) τX τM → va_S (fun q => s.heap.size ≤ q) s.heap H locs → cells ≤ 1000 * (i + 2) → slots ≤ 100000 + 1000 * (i + 1) → lv_has ls 7 [(0, .ref b), (1, .ref (adX 0)), (2, .ref (adM 0)), (3, .ref qo), (4, .int (nI (6 * i)))] → W p l e room_1 s m #[Value.ref b] below meth c H locs cells slots Q (F0 m 1753 ls [])) : W p l e room_1 s m #[Value.ref b] below meth c H locs cells slots Q (F0 m 877 ls []) := by
  obtain ⟨hat, hKX, hKM, hKo, hEX, hEM, hXX, hXM, hD⟩ := id hh
  obtain ⟨hx, hb, hr, hml, hown, hts, hXs, hbl, hlocks, hgv⟩ := id hat
  have hbA : ¬ (fun q : Nat => s.heap.size ≤ q) b := Nat.not_le.mpr hbl
  obtain ⟨r, τX, τM, e1, e2, hI⟩ := hB i σX σM (xs (nI (6 * i) + 1).toNatClampNeg) hi5 hI0
  refine lv_aload_n hx hb dL_law_877 rfl (lv_at hl 1 rfl) ?_
  refine lv_aload_n hx hb dL_law_878 rfl (lv_at hl 0 rfl) ?_
  refine lv_iload hx hb dL_law_879 (lv_at hl 4 rfl) ?_
  refine lv_iconst (v := 1) hx hb dL_law_881 (by decide) ?_
  refine lv_iadd hx hb dL_law_882 ?_
  refine va_sld hx hb hXs hbl hbA hS (lw_in (k := 1) hL hi (by decide)) dL_law_883 ?_
  refine lw_callX (as := [.int (xs (nI (6 * i) + 1).toNatClampNeg)]) (st := []) hh wvL_101 rfl (kX11_scrub hEX fl (xs (nI (6 * i) + 1).toNatClampNeg) σX e1) rfl (by decide) (Nat.le_of_ble_eq_true rfl) rfl rfl dL_law_884 hP hS hl.1 ⟨by omega, by omega⟩ (fun H locs hP hS => ?_)
  refine lv_aload_n hx hb dL_law_887 rfl (lv_at hl 2 rfl) ?_
  refine lv_aload_n hx hb dL_law_888 rfl (lv_at hl 0 rfl) ?_
  refine lv_iload hx hb dL_law_889 (lv_at hl 4 rfl) ?_
  refine lv_iconst (v := 1) hx hb dL_law_891 (by decide) ?_
  refine lv_iadd hx hb dL_law_892 ?_
  refine va_sld hx hb hXs hbl hbA hS (lw_in (k := 1) hL hi (by decide)) dL_law_893 ?_
  refine lw_callM (as := [.int (xs (nI (6 * i) + 1).toNatClampNeg)]) (st := [.int r]) hh wvL_104 rfl (kX12_scrub hEM fl (xs (nI (6 * i) + 1).toNatClampNeg) σM e2) rfl (by decide) (Nat.le_of_ble_eq_true rfl) rfl rfl dL_law_894 hP hS hl.1 ⟨by omega, by omega⟩ (fun H locs hP hS => ?_)
  refine lv_icmp_eq (tgt := 1753) hx hb dL_law_897 (by decide) (fun _ => ?_) (fun c9 => absurd rfl c9)
  exact K τX τM fo H locs cells slots ls hP hI hS (by omega) (by omega) hl
set_option maxRecDepth 100000 in
theorem lc19 (hh : lwH l p s m meth c b L xs dC dI adX adM caX caM qo co XX XM) (hL : L ≤ 3072) (hi : 6 * i + 6 ≤ L) (hi5 : i < 512) (hB : opB19 Inv) (hI0 : Inv i σX σM) (hP : lwW dC dI adX adM caX caM qo co σX σM fo H) (hS : va_S (fun q => s.heap.size ≤ q) s.heap H locs) (hc1 : cells ≤ 1000 * (i + 1)) (hc2 : slots ≤ 100000 + 1000 * i) (hl : lv_has ls 7 [(0, .ref b), (1, .ref (adX 0)), (2, .ref (adM 0)), (3, .ref qo), (4, .int (nI (6 * i)))]) (K : ∀ (τX τM : gM) (fo : Nat → Int64) (H : Heap) (locs : List Loc) (cells slots : Nat) (ls : Array Slot), lwW dC dI adX adM caX caM qo co τX τM fo H → Inv (i + 1) τX τM → va_S (fun q => s.heap.size ≤ q) s.heap H locs → cells ≤ 1000 * (i + 2) → slots ≤ 100000 + 1000 * (i + 1) → lv_has ls 7 [(0, .ref b), (1, .ref (adX 0)), (2, .ref (adM 0)), (3, .ref qo), (4, .int (nI (6 * i)))] → W p l e room_1 s m #[Value.ref b] below meth c H locs cells slots Q (F0 m 1753 ls [])) : W p l e room_1 s m #[Value.ref b] below meth c H locs cells slots Q (F0 m 902 ls []) := by
  obtain ⟨hat, hKX, hKM, hKo, hEX, hEM, hXX, hXM, hD⟩ := id hh
  obtain ⟨hx, hb, hr, hml, hown, hts, hXs, hbl, hlocks, hgv⟩ := id hat
  have hbA : ¬ (fun q : Nat => s.heap.size ≤ q) b := Nat.not_le.mpr hbl
  obtain ⟨r, τX, τM, e1, e2, hI⟩ := hB i σX σM (xs (nI (6 * i) + 1).toNatClampNeg) (xs (nI (6 * i) + 2).toNatClampNeg) (xs (nI (6 * i) + 3).toNatClampNeg) (xs (nI (6 * i) + 4).toNatClampNeg) hi5 hI0
  refine lv_aload_n hx hb dL_law_902 rfl (lv_at hl 1 rfl) ?_
  refine lv_aload_n hx hb dL_law_903 rfl (lv_at hl 0 rfl) ?_
  refine lv_iload hx hb dL_law_904 (lv_at hl 4 rfl) ?_
  refine lv_iconst (v := 1) hx hb dL_law_906 (by decide) ?_
  refine lv_iadd hx hb dL_law_907 ?_
  refine va_sld hx hb hXs hbl hbA hS (lw_in (k := 1) hL hi (by decide)) dL_law_908 ?_
  refine lv_aload_n hx hb dL_law_909 rfl (lv_at hl 0 rfl) ?_
  refine lv_iload hx hb dL_law_910 (lv_at hl 4 rfl) ?_
  refine lv_iconst (v := 2) hx hb dL_law_912 (by decide) ?_
  refine lv_iadd hx hb dL_law_913 ?_
  refine va_sld hx hb hXs hbl hbA hS (lw_in (k := 2) hL hi (by decide)) dL_law_914 ?_
  refine lv_aload_n hx hb dL_law_915 rfl (lv_at hl 0 rfl) ?_
  refine lv_iload hx hb dL_law_916 (lv_at hl 4 rfl) ?_
  refine lv_iconst (v := 3) hx hb dL_law_918 (by decide) ?_
  refine lv_iadd hx hb dL_law_919 ?_
  refine va_sld hx hb hXs hbl hbA hS (lw_in (k := 3) hL hi (by decide)) dL_law_920 ?_
  refine lv_aload_n hx hb dL_law_921 rfl (lv_at hl 0 rfl) ?_
  refine lv_iload hx hb dL_law_922 (lv_at hl 4 rfl) ?_
  refine lv_iconst (v := 4) hx hb dL_law_924 (by decide) ?_
  refine lv_iadd hx hb dL_law_925 ?_
  refine va_sld hx hb hXs hbl hbA hS (lw_in (k := 4) hL hi (by decide)) dL_law_926 ?_
  refine lw_callX (as := [.int (xs (nI (6 * i) + 1).toNatClampNeg), .int (xs (nI (6 * i) + 2).toNatClampNeg), .int (xs (nI (6 * i) + 3).toNatClampNeg), .int (xs (nI (6 * i) + 4).toNatClampNeg)]) (st := []) hh wvL_105 rfl (kX11_spoil hEX fl (xs (nI (6 * i) + 1).toNatClampNeg) (xs (nI (6 * i) + 2).toNatClampNeg) (xs (nI (6 * i) + 3).toNatClampNeg) (xs (nI (6 * i) + 4).toNatClampNeg) σX e1) rfl (by decide) (Nat.le_of_ble_eq_true rfl) rfl rfl dL_law_927 hP hS hl.1 ⟨by omega, by omega⟩ (fun H locs hP hS => ?_)
  refine lv_aload_n hx hb dL_law_930 rfl (lv_at hl 2 rfl) ?_
  refine lv_aload_n hx hb dL_law_931 rfl (lv_at hl 0 rfl) ?_
  refine lv_iload hx hb dL_law_932 (lv_at hl 4 rfl) ?_
  refine lv_iconst (v := 1) hx hb dL_law_934 (by decide) ?_
  refine lv_iadd hx hb dL_law_935 ?_
  refine va_sld hx hb hXs hbl hbA hS (lw_in (k := 1) hL hi (by decide)) dL_law_936 ?_
  refine lv_aload_n hx hb dL_law_937 rfl (lv_at hl 0 rfl) ?_
  refine lv_iload hx hb dL_law_938 (lv_at hl 4 rfl) ?_
  refine lv_iconst (v := 2) hx hb dL_law_940 (by decide) ?_
  refine lv_iadd hx hb dL_law_941 ?_
  refine va_sld hx hb hXs hbl hbA hS (lw_in (k := 2) hL hi (by decide)) dL_law_942 ?_
  refine lv_aload_n hx hb dL_law_943 rfl (lv_at hl 0 rfl) ?_
  refine lv_iload hx hb dL_law_944 (lv_at hl 4 rfl) ?_
  refine lv_iconst (v := 3) hx hb dL_law_946 (by decide) ?_
  refine lv_iadd hx hb dL_law_947 ?_
  refine va_sld hx hb hXs hbl hbA hS (lw_in (k := 3) hL hi (by decide)) dL_law_948 ?_
  refine lv_aload_n hx hb dL_law_949 rfl (lv_at hl 0 rfl) ?_
  refine lv_iload hx hb dL_law_950 (lv_at hl 4 rfl) ?_
  refine lv_iconst (v := 4) hx hb dL_law_952 (by decide) ?_
  refine lv_iadd hx hb dL_law_953 ?_
  refine va_sld hx hb hXs hbl hbA hS (lw_in (k := 4) hL hi (by decide)) dL_law_954 ?_
  refine lw_callM (as := [.int (xs (nI (6 * i) + 1).toNatClampNeg), .int (xs (nI (6 * i) + 2).toNatClampNeg), .int (xs (nI (6 * i) + 3).toNatClampNeg), .int (xs (nI (6 * i) + 4).toNatClampNeg)]) (st := [.int r]) hh wvL_109 rfl (kX12_spoil hEM fl (xs (nI (6 * i) + 1).toNatClampNeg) (xs (nI (6 * i) + 2).toNatClampNeg) (xs (nI (6 * i) + 3).toNatClampNeg) (xs (nI (6 * i) + 4).toNatClampNeg) σM e2) rfl (by decide) (Nat.le_of_ble_eq_true rfl) rfl rfl dL_law_955 hP hS hl.1 ⟨by omega, by omega⟩ (fun H locs hP hS => ?_)
  refine lv_icmp_eq (tgt := 1753) hx hb dL_law_958 (by decide) (fun _ => ?_) (fun c9 => absurd rfl c9)
  exact K τX τM fo H locs cells slots ls hP hI hS (by omega) (by omega) hl
set_option maxRecDepth 100000 in
theorem lc20 (hh : lwH l p s m meth c b L xs dC dI adX adM caX caM qo co XX XM) (hL : L ≤ 3072) (hi : 6 * i + 6 ≤ L) (hi5 : i < 512) (hB : opB20 Inv) (hI0 : Inv i σX σM) (hP : lwW dC dI adX adM caX caM qo co σX σM fo H) (hS : va_S (fun q => s.heap.size ≤ q) s.heap H locs) (hc1 : cells ≤ 1000 * (i + 1)) (hc2 : slots ≤ 100000 + 1000 * i) (hl : lv_has ls 7 [(0, .ref b), (1, .ref (adX 0)), (2, .ref (adM 0)), (3, .ref qo), (4, .int (nI (6 * i)))]) (K : ∀ (τX τM : gM) (fo : Nat → Int64) (H : Heap) (locs : List Loc) (cells slots : Nat) (ls : Array Slot), lwW dC dI adX adM caX caM qo co τX τM fo H → Inv (i + 1) τX τM → va_S (fun q => s.heap.size ≤ q) s.heap H locs → cells ≤ 1000 * (i + 2) → slots ≤ 100000 + 1000 * (i + 1) → lv_has ls 7 [(0, .ref b), (1, .ref (adX 0)), (2, .ref (adM 0)), (3, .ref qo), (4, .int (nI (6 * i)))] → W p l e room_1 s m #[Value.ref b] below meth c H locs cells slots Q (F0 m 1753 ls [])) : W p l e room_1 s m #[Value.ref b] below meth c H locs cells slots Q (F0 m 963 ls []) := by
  obtain ⟨hat, hKX, hKM, hKo, hEX, hEM, hXX, hXM, hD⟩ := id hh
  obtain ⟨hx, hb, hr, hml, hown, hts, hXs, hbl, hlocks, hgv⟩ := id hat
  have hbA : ¬ (fun q : Nat => s.heap.size ≤ q) b := Nat.not_le.mpr hbl
  obtain ⟨r, τX, τM, e1, e2, hI⟩ := hB i σX σM (xs (nI (6 * i) + 1).toNatClampNeg) (xs (nI (6 * i) + 2).toNatClampNeg) (xs (nI (6 * i) + 3).toNatClampNeg) hi5 hI0
  refine lv_aload_n hx hb dL_law_963 rfl (lv_at hl 1 rfl) ?_
  refine lv_aload_n hx hb dL_law_964 rfl (lv_at hl 0 rfl) ?_
  refine lv_iload hx hb dL_law_965 (lv_at hl 4 rfl) ?_
  refine lv_iconst (v := 1) hx hb dL_law_967 (by decide) ?_
  refine lv_iadd hx hb dL_law_968 ?_
  refine va_sld hx hb hXs hbl hbA hS (lw_in (k := 1) hL hi (by decide)) dL_law_969 ?_
  refine lv_aload_n hx hb dL_law_970 rfl (lv_at hl 0 rfl) ?_
  refine lv_iload hx hb dL_law_971 (lv_at hl 4 rfl) ?_
  refine lv_iconst (v := 2) hx hb dL_law_973 (by decide) ?_
  refine lv_iadd hx hb dL_law_974 ?_
  refine va_sld hx hb hXs hbl hbA hS (lw_in (k := 2) hL hi (by decide)) dL_law_975 ?_
  refine lv_aload_n hx hb dL_law_976 rfl (lv_at hl 0 rfl) ?_
  refine lv_iload hx hb dL_law_977 (lv_at hl 4 rfl) ?_
  refine lv_iconst (v := 3) hx hb dL_law_979 (by decide) ?_
  refine lv_iadd hx hb dL_law_980 ?_
  refine va_sld hx hb hXs hbl hbA hS (lw_in (k := 3) hL hi (by decide)) dL_law_981 ?_
  refine lw_callX (as := [.int (xs (nI (6 * i) + 1).toNatClampNeg), .int (xs (nI (6 * i) + 2).toNatClampNeg), .int (xs (nI (6 * i) + 3).toNatClampNeg)]) (st := []) hh wvL_110 rfl (kX11_tear hEX fl (xs (nI (6 * i) + 1).toNatClampNeg) (xs (nI (6 * i) + 2).toNatClampNeg) (xs (nI (6 * i) + 3).toNatClampNeg) σX e1) rfl (by decide) (Nat.le_of_ble_eq_true rfl) rfl rfl dL_law_982 hP hS hl.1 ⟨by omega, by omega⟩ (fun H locs hP hS => ?_)
  refine lv_aload_n hx hb dL_law_985 rfl (lv_at hl 2 rfl) ?_
  refine lv_aload_n hx hb dL_law_986 rfl (lv_at hl 0 rfl) ?_
  refine lv_iload hx hb dL_law_987 (lv_at hl 4 rfl) ?_
  refine lv_iconst (v := 1) hx hb dL_law_989 (by decide) ?_
  refine lv_iadd hx hb dL_law_990 ?_
  refine va_sld hx hb hXs hbl hbA hS (lw_in (k := 1) hL hi (by decide)) dL_law_991 ?_
  refine lv_aload_n hx hb dL_law_992 rfl (lv_at hl 0 rfl) ?_
  refine lv_iload hx hb dL_law_993 (lv_at hl 4 rfl) ?_
  refine lv_iconst (v := 2) hx hb dL_law_995 (by decide) ?_
  refine lv_iadd hx hb dL_law_996 ?_
  refine va_sld hx hb hXs hbl hbA hS (lw_in (k := 2) hL hi (by decide)) dL_law_997 ?_
  refine lv_aload_n hx hb dL_law_998 rfl (lv_at hl 0 rfl) ?_
  refine lv_iload hx hb dL_law_999 (lv_at hl 4 rfl) ?_
  refine lv_iconst (v := 3) hx hb dL_law_1001 (by decide) ?_
  refine lv_iadd hx hb dL_law_1002 ?_
  refine va_sld hx hb hXs hbl hbA hS (lw_in (k := 3) hL hi (by decide)) dL_law_1003 ?_
  refine lw_callM (as := [.int (xs (nI (6 * i) + 1).toNatClampNeg), .int (xs (nI (6 * i) + 2).toNatClampNeg), .int (xs (nI (6 * i) + 3).toNatClampNeg)]) (st := [.int r]) hh wvL_113 rfl (kX12_tear hEM fl (xs (nI (6 * i) + 1).toNatClampNeg) (xs (nI (6 * i) + 2).toNatClampNeg) (xs (nI (6 * i) + 3).toNatClampNeg) σM e2) rfl (by decide) (Nat.le_of_ble_eq_true rfl) rfl rfl dL_law_1004 hP hS hl.1 ⟨by omega, by omega⟩ (fun H locs hP hS => ?_)
  refine lv_icmp_eq (tgt := 1753) hx hb dL_law_1007 (by decide) (fun _ => ?_) (fun c9 => absurd rfl c9)
  exact K τX τM fo H locs cells slots ls hP hI hS (by omega) (by omega) hl
set_option maxRecDepth 100000 in
theorem lc21 (hh : lwH l p s m meth c b L xs dC dI adX adM caX caM qo co XX XM) (hL : L ≤ 3072) (hi : 6 * i + 6 ≤ L) (hi5 : i < 512) (hB : opB21 Inv) (hI0 : Inv i σX σM) (hP : lwW dC dI adX adM caX caM qo co σX σM fo H) (hS : va_S (fun q => s.heap.size ≤ q) s.heap H locs) (hc1 : cells ≤ 1000 * (i + 1)) (hc2 : slots ≤ 100000 + 1000 * i) (hl : lv_has ls 7 [(0, .ref b), (1, .ref (adX 0)), (2, .ref (adM 0)), (3, .ref qo), (4, .int (nI (6 * i)))]) (K : ∀ (τX τM : gM) (fo : Nat → Int64) (H : Heap) (locs : List Loc) (cells slots : Nat) (ls : Array Slot), lwW dC dI adX adM caX caM qo co τX τM fo H → Inv (i + 1) τX τM → va_S (fun q => s.heap.size ≤ q) s.heap H locs → cells ≤ 1000 * (i + 2) → slots ≤ 100000 + 1000 * (i + 1) → lv_has ls 7 [(0, .ref b), (1, .ref (adX 0)), (2, .ref (adM 0)), (3, .ref qo), (4, .int (nI (6 * i)))] → W p l e room_1 s m #[Value.ref b] below meth c H locs cells slots Q (F0 m 1753 ls [])) : W p l e room_1 s m #[Value.ref b] below meth c H locs cells slots Q (F0 m 1012 ls []) := by
  obtain ⟨hat, hKX, hKM, hKo, hEX, hEM, hXX, hXM, hD⟩ := id hh
  obtain ⟨hx, hb, hr, hml, hown, hts, hXs, hbl, hlocks, hgv⟩ := id hat
  have hbA : ¬ (fun q : Nat => s.heap.size ≤ q) b := Nat.not_le.mpr hbl
  obtain ⟨r, τX, τM, e1, e2, hI⟩ := hB i σX σM  hi5 hI0
  refine lv_aload_n hx hb dL_law_1012 rfl (lv_at hl 1 rfl) ?_
  refine lw_callX (as := []) (st := []) hh wvL_114 rfl (kX11_clean hEX fl σX e1) rfl (by decide) (Nat.le_of_ble_eq_true rfl) rfl rfl dL_law_1013 hP hS hl.1 ⟨by omega, by omega⟩ (fun H locs hP hS => ?_)
  refine lv_aload_n hx hb dL_law_1016 rfl (lv_at hl 2 rfl) ?_
  refine lw_callM (as := []) (st := [.int r]) hh wvL_117 rfl (kX12_clean hEM fl σM e2) rfl (by decide) (Nat.le_of_ble_eq_true rfl) rfl rfl dL_law_1017 hP hS hl.1 ⟨by omega, by omega⟩ (fun H locs hP hS => ?_)
  refine lv_icmp_eq (tgt := 1753) hx hb dL_law_1020 (by decide) (fun _ => ?_) (fun c9 => absurd rfl c9)
  exact K τX τM fo H locs cells slots ls hP hI hS (by omega) (by omega) hl
set_option maxRecDepth 100000 in
theorem lc22 (hh : lwH l p s m meth c b L xs dC dI adX adM caX caM qo co XX XM) (hL : L ≤ 3072) (hi : 6 * i + 6 ≤ L) (hi5 : i < 512) (hB : opB22 Inv) (hI0 : Inv i σX σM) (hP : lwW dC dI adX adM caX caM qo co σX σM fo H) (hS : va_S (fun q => s.heap.size ≤ q) s.heap H locs) (hc1 : cells ≤ 1000 * (i + 1)) (hc2 : slots ≤ 100000 + 1000 * i) (hl : lv_has ls 7 [(0, .ref b), (1, .ref (adX 0)), (2, .ref (adM 0)), (3, .ref qo), (4, .int (nI (6 * i)))]) (K : ∀ (τX τM : gM) (fo : Nat → Int64) (H : Heap) (locs : List Loc) (cells slots : Nat) (ls : Array Slot), lwW dC dI adX adM caX caM qo co τX τM fo H → Inv (i + 1) τX τM → va_S (fun q => s.heap.size ≤ q) s.heap H locs → cells ≤ 1000 * (i + 2) → slots ≤ 100000 + 1000 * (i + 1) → lv_has ls 7 [(0, .ref b), (1, .ref (adX 0)), (2, .ref (adM 0)), (3, .ref qo), (4, .int (nI (6 * i)))] → W p l e room_1 s m #[Value.ref b] below meth c H locs cells slots Q (F0 m 1753 ls [])) : W p l e room_1 s m #[Value.ref b] below meth c H locs cells slots Q (F0 m 1025 ls []) := by
  obtain ⟨hat, hKX, hKM, hKo, hEX, hEM, hXX, hXM, hD⟩ := id hh
  obtain ⟨hx, hb, hr, hml, hown, hts, hXs, hbl, hlocks, hgv⟩ := id hat
  have hbA : ¬ (fun q : Nat => s.heap.size ≤ q) b := Nat.not_le.mpr hbl
  obtain ⟨r, τX, τM, e1, e2, hI⟩ := hB i σX σM (xs (nI (6 * i) + 1).toNatClampNeg) (xs (nI (6 * i) + 2).toNatClampNeg) (xs (nI (6 * i) + 3).toNatClampNeg) (xs (nI (6 * i) + 4).toNatClampNeg) hi5 hI0
  refine lv_aload_n hx hb dL_law_1025 rfl (lv_at hl 1 rfl) ?_
  refine lv_aload_n hx hb dL_law_1026 rfl (lv_at hl 0 rfl) ?_
  refine lv_iload hx hb dL_law_1027 (lv_at hl 4 rfl) ?_
  refine lv_iconst (v := 1) hx hb dL_law_1029 (by decide) ?_
  refine lv_iadd hx hb dL_law_1030 ?_
  refine va_sld hx hb hXs hbl hbA hS (lw_in (k := 1) hL hi (by decide)) dL_law_1031 ?_
  refine lv_aload_n hx hb dL_law_1032 rfl (lv_at hl 0 rfl) ?_
  refine lv_iload hx hb dL_law_1033 (lv_at hl 4 rfl) ?_
  refine lv_iconst (v := 2) hx hb dL_law_1035 (by decide) ?_
  refine lv_iadd hx hb dL_law_1036 ?_
  refine va_sld hx hb hXs hbl hbA hS (lw_in (k := 2) hL hi (by decide)) dL_law_1037 ?_
  refine lv_aload_n hx hb dL_law_1038 rfl (lv_at hl 0 rfl) ?_
  refine lv_iload hx hb dL_law_1039 (lv_at hl 4 rfl) ?_
  refine lv_iconst (v := 3) hx hb dL_law_1041 (by decide) ?_
  refine lv_iadd hx hb dL_law_1042 ?_
  refine va_sld hx hb hXs hbl hbA hS (lw_in (k := 3) hL hi (by decide)) dL_law_1043 ?_
  refine lv_aload_n hx hb dL_law_1044 rfl (lv_at hl 0 rfl) ?_
  refine lv_iload hx hb dL_law_1045 (lv_at hl 4 rfl) ?_
  refine lv_iconst (v := 4) hx hb dL_law_1047 (by decide) ?_
  refine lv_iadd hx hb dL_law_1048 ?_
  refine va_sld hx hb hXs hbl hbA hS (lw_in (k := 4) hL hi (by decide)) dL_law_1049 ?_
  refine lw_callX (as := [.int (xs (nI (6 * i) + 1).toNatClampNeg), .int (xs (nI (6 * i) + 2).toNatClampNeg), .int (xs (nI (6 * i) + 3).toNatClampNeg), .int (xs (nI (6 * i) + 4).toNatClampNeg)]) (st := []) hh wvL_118 rfl (kX11_full hEX fl (xs (nI (6 * i) + 1).toNatClampNeg) (xs (nI (6 * i) + 2).toNatClampNeg) (xs (nI (6 * i) + 3).toNatClampNeg) (xs (nI (6 * i) + 4).toNatClampNeg) σX e1) rfl (by decide) (Nat.le_of_ble_eq_true rfl) rfl rfl dL_law_1050 hP hS hl.1 ⟨by omega, by omega⟩ (fun H locs hP hS => ?_)
  refine lv_aload_n hx hb dL_law_1053 rfl (lv_at hl 2 rfl) ?_
  refine lv_aload_n hx hb dL_law_1054 rfl (lv_at hl 0 rfl) ?_
  refine lv_iload hx hb dL_law_1055 (lv_at hl 4 rfl) ?_
  refine lv_iconst (v := 1) hx hb dL_law_1057 (by decide) ?_
  refine lv_iadd hx hb dL_law_1058 ?_
  refine va_sld hx hb hXs hbl hbA hS (lw_in (k := 1) hL hi (by decide)) dL_law_1059 ?_
  refine lv_aload_n hx hb dL_law_1060 rfl (lv_at hl 0 rfl) ?_
  refine lv_iload hx hb dL_law_1061 (lv_at hl 4 rfl) ?_
  refine lv_iconst (v := 2) hx hb dL_law_1063 (by decide) ?_
  refine lv_iadd hx hb dL_law_1064 ?_
  refine va_sld hx hb hXs hbl hbA hS (lw_in (k := 2) hL hi (by decide)) dL_law_1065 ?_
  refine lv_aload_n hx hb dL_law_1066 rfl (lv_at hl 0 rfl) ?_
  refine lv_iload hx hb dL_law_1067 (lv_at hl 4 rfl) ?_
  refine lv_iconst (v := 3) hx hb dL_law_1069 (by decide) ?_
  refine lv_iadd hx hb dL_law_1070 ?_
  refine va_sld hx hb hXs hbl hbA hS (lw_in (k := 3) hL hi (by decide)) dL_law_1071 ?_
  refine lv_aload_n hx hb dL_law_1072 rfl (lv_at hl 0 rfl) ?_
  refine lv_iload hx hb dL_law_1073 (lv_at hl 4 rfl) ?_
  refine lv_iconst (v := 4) hx hb dL_law_1075 (by decide) ?_
  refine lv_iadd hx hb dL_law_1076 ?_
  refine va_sld hx hb hXs hbl hbA hS (lw_in (k := 4) hL hi (by decide)) dL_law_1077 ?_
  refine lw_callM (as := [.int (xs (nI (6 * i) + 1).toNatClampNeg), .int (xs (nI (6 * i) + 2).toNatClampNeg), .int (xs (nI (6 * i) + 3).toNatClampNeg), .int (xs (nI (6 * i) + 4).toNatClampNeg)]) (st := [.int r]) hh wvL_121 rfl (kX12_full hEM fl (xs (nI (6 * i) + 1).toNatClampNeg) (xs (nI (6 * i) + 2).toNatClampNeg) (xs (nI (6 * i) + 3).toNatClampNeg) (xs (nI (6 * i) + 4).toNatClampNeg) σM e2) rfl (by decide) (Nat.le_of_ble_eq_true rfl) rfl rfl dL_law_1078 hP hS hl.1 ⟨by omega, by omega⟩ (fun H locs hP hS => ?_)
  refine lv_icmp_eq (tgt := 1753) hx hb dL_law_1081 (by decide) (fun _ => ?_) (fun c9 => absurd rfl c9)
  exact K τX τM fo H locs cells slots ls hP hI hS (by omega) (by omega) hl
set_option maxRecDepth 100000 in
theorem lc23 (hh : lwH l p s m meth c b L xs dC dI adX adM caX caM qo co XX XM) (hL : L ≤ 3072) (hi : 6 * i + 6 ≤ L) (hi5 : i < 512) (hB : opB23 Inv) (hI0 : Inv i σX σM) (hP : lwW dC dI adX adM caX caM qo co σX σM fo H) (hS : va_S (fun q => s.heap.size ≤ q) s.heap H locs) (hc1 : cells ≤ 1000 * (i + 1)) (hc2 : slots ≤ 100000 + 1000 * i) (hl : lv_has ls 7 [(0, .ref b), (1, .ref (adX 0)), (2, .ref (adM 0)), (3, .ref qo), (4, .int (nI (6 * i)))]) (K : ∀ (τX τM : gM) (fo : Nat → Int64) (H : Heap) (locs : List Loc) (cells slots : Nat) (ls : Array Slot), lwW dC dI adX adM caX caM qo co τX τM fo H → Inv (i + 1) τX τM → va_S (fun q => s.heap.size ≤ q) s.heap H locs → cells ≤ 1000 * (i + 2) → slots ≤ 100000 + 1000 * (i + 1) → lv_has ls 7 [(0, .ref b), (1, .ref (adX 0)), (2, .ref (adM 0)), (3, .ref qo), (4, .int (nI (6 * i)))] → W p l e room_1 s m #[Value.ref b] below meth c H locs cells slots Q (F0 m 1753 ls [])) : W p l e room_1 s m #[Value.ref b] below meth c H locs cells slots Q (F0 m 1086 ls []) := by
  obtain ⟨hat, hKX, hKM, hKo, hEX, hEM, hXX, hXM, hD⟩ := id hh
  obtain ⟨hx, hb, hr, hml, hown, hts, hXs, hbl, hlocks, hgv⟩ := id hat
  have hbA : ¬ (fun q : Nat => s.heap.size ≤ q) b := Nat.not_le.mpr hbl
  obtain ⟨r, τX, τM, e1, e2, hI⟩ := hB i σX σM (xs (nI (6 * i) + 1).toNatClampNeg) ((xs (nI (6 * i) + 2).toNatClampNeg).toInt64 <<< ((32 : Int32).toInt64 &&& 63) ||| ((xs (nI (6 * i) + 3).toNatClampNeg).toInt64 &&& 4294967295)) hi5 hI0
  refine lv_aload_n hx hb dL_law_1086 rfl (lv_at hl 1 rfl) ?_
  refine lv_aload_n hx hb dL_law_1087 rfl (lv_at hl 0 rfl) ?_
  refine lv_iload hx hb dL_law_1088 (lv_at hl 4 rfl) ?_
  refine lv_iconst (v := 1) hx hb dL_law_1090 (by decide) ?_
  refine lv_iadd hx hb dL_law_1091 ?_
  refine va_sld hx hb hXs hbl hbA hS (lw_in (k := 1) hL hi (by decide)) dL_law_1092 ?_
  refine lv_aload_n hx hb dL_law_1093 rfl (lv_at hl 0 rfl) ?_
  refine lv_iload hx hb dL_law_1094 (lv_at hl 4 rfl) ?_
  refine lv_iconst (v := 2) hx hb dL_law_1096 (by decide) ?_
  refine lv_iadd hx hb dL_law_1097 ?_
  refine va_sld hx hb hXs hbl hbA hS (lw_in (k := 2) hL hi (by decide)) dL_law_1098 ?_
  refine lv_i2l hx hb dL_law_1099 rfl ?_
  refine lv_bipush (v := 32) hx hb dL_law_1100 (by decide) ?_
  refine lv_lshl hx hb dL_law_1102 rfl ?_
  refine lv_aload_n hx hb dL_law_1103 rfl (lv_at hl 0 rfl) ?_
  refine lv_iload hx hb dL_law_1104 (lv_at hl 4 rfl) ?_
  refine lv_iconst (v := 3) hx hb dL_law_1106 (by decide) ?_
  refine lv_iadd hx hb dL_law_1107 ?_
  refine va_sld hx hb hXs hbl hbA hS (lw_in (k := 3) hL hi (by decide)) dL_law_1108 ?_
  refine lv_i2l hx hb dL_law_1109 rfl ?_
  refine lv_ldc2 hx hb hown (lw_gW hat _ wkL_122) dL_law_1110 ?_
  refine lv_land hx hb dL_law_1113 ?_
  refine lv_lor hx hb dL_law_1114 ?_
  refine lw_callX (as := [.int (xs (nI (6 * i) + 1).toNatClampNeg), .long (((xs (nI (6 * i) + 2).toNatClampNeg).toInt64 <<< ((32 : Int32).toInt64 &&& 63)) ||| ((xs (nI (6 * i) + 3).toNatClampNeg).toInt64 &&& 4294967295))]) (st := []) hh wvL_124 rfl (kX11_years hEX fl (xs (nI (6 * i) + 1).toNatClampNeg) ((xs (nI (6 * i) + 2).toNatClampNeg).toInt64 <<< ((32 : Int32).toInt64 &&& 63) ||| ((xs (nI (6 * i) + 3).toNatClampNeg).toInt64 &&& 4294967295)) σX e1) rfl (by decide) (Nat.le_of_ble_eq_true rfl) rfl rfl dL_law_1115 hP hS hl.1 ⟨by omega, by omega⟩ (fun H locs hP hS => ?_)
  refine lv_aload_n hx hb dL_law_1118 rfl (lv_at hl 2 rfl) ?_
  refine lv_aload_n hx hb dL_law_1119 rfl (lv_at hl 0 rfl) ?_
  refine lv_iload hx hb dL_law_1120 (lv_at hl 4 rfl) ?_
  refine lv_iconst (v := 1) hx hb dL_law_1122 (by decide) ?_
  refine lv_iadd hx hb dL_law_1123 ?_
  refine va_sld hx hb hXs hbl hbA hS (lw_in (k := 1) hL hi (by decide)) dL_law_1124 ?_
  refine lv_aload_n hx hb dL_law_1125 rfl (lv_at hl 0 rfl) ?_
  refine lv_iload hx hb dL_law_1126 (lv_at hl 4 rfl) ?_
  refine lv_iconst (v := 2) hx hb dL_law_1128 (by decide) ?_
  refine lv_iadd hx hb dL_law_1129 ?_
  refine va_sld hx hb hXs hbl hbA hS (lw_in (k := 2) hL hi (by decide)) dL_law_1130 ?_
  refine lv_i2l hx hb dL_law_1131 rfl ?_
  refine lv_bipush (v := 32) hx hb dL_law_1132 (by decide) ?_
  refine lv_lshl hx hb dL_law_1134 rfl ?_
  refine lv_aload_n hx hb dL_law_1135 rfl (lv_at hl 0 rfl) ?_
  refine lv_iload hx hb dL_law_1136 (lv_at hl 4 rfl) ?_
  refine lv_iconst (v := 3) hx hb dL_law_1138 (by decide) ?_
  refine lv_iadd hx hb dL_law_1139 ?_
  refine va_sld hx hb hXs hbl hbA hS (lw_in (k := 3) hL hi (by decide)) dL_law_1140 ?_
  refine lv_i2l hx hb dL_law_1141 rfl ?_
  refine lv_ldc2 hx hb hown (lw_gW hat _ wkL_122) dL_law_1142 ?_
  refine lv_land hx hb dL_law_1145 ?_
  refine lv_lor hx hb dL_law_1146 ?_
  refine lw_callM (as := [.int (xs (nI (6 * i) + 1).toNatClampNeg), .long (((xs (nI (6 * i) + 2).toNatClampNeg).toInt64 <<< ((32 : Int32).toInt64 &&& 63)) ||| ((xs (nI (6 * i) + 3).toNatClampNeg).toInt64 &&& 4294967295))]) (st := [.int r]) hh wvL_128 rfl (kX12_years hEM fl (xs (nI (6 * i) + 1).toNatClampNeg) ((xs (nI (6 * i) + 2).toNatClampNeg).toInt64 <<< ((32 : Int32).toInt64 &&& 63) ||| ((xs (nI (6 * i) + 3).toNatClampNeg).toInt64 &&& 4294967295)) σM e2) rfl (by decide) (Nat.le_of_ble_eq_true rfl) rfl rfl dL_law_1147 hP hS hl.1 ⟨by omega, by omega⟩ (fun H locs hP hS => ?_)
  refine lv_icmp_eq (tgt := 1753) hx hb dL_law_1150 (by decide) (fun _ => ?_) (fun c9 => absurd rfl c9)
  exact K τX τM fo H locs cells slots ls hP hI hS (by omega) (by omega) hl
set_option maxRecDepth 100000 in
theorem lc24 (hh : lwH l p s m meth c b L xs dC dI adX adM caX caM qo co XX XM) (hL : L ≤ 3072) (hi : 6 * i + 6 ≤ L) (hi5 : i < 512) (hB : opB24 Inv) (hI0 : Inv i σX σM) (hP : lwW dC dI adX adM caX caM qo co σX σM fo H) (hS : va_S (fun q => s.heap.size ≤ q) s.heap H locs) (hc1 : cells ≤ 1000 * (i + 1)) (hc2 : slots ≤ 100000 + 1000 * i) (hl : lv_has ls 7 [(0, .ref b), (1, .ref (adX 0)), (2, .ref (adM 0)), (3, .ref qo), (4, .int (nI (6 * i)))]) (K : ∀ (τX τM : gM) (fo : Nat → Int64) (H : Heap) (locs : List Loc) (cells slots : Nat) (ls : Array Slot), lwW dC dI adX adM caX caM qo co τX τM fo H → Inv (i + 1) τX τM → va_S (fun q => s.heap.size ≤ q) s.heap H locs → cells ≤ 1000 * (i + 2) → slots ≤ 100000 + 1000 * (i + 1) → lv_has ls 7 [(0, .ref b), (1, .ref (adX 0)), (2, .ref (adM 0)), (3, .ref qo), (4, .int (nI (6 * i)))] → W p l e room_1 s m #[Value.ref b] below meth c H locs cells slots Q (F0 m 1753 ls [])) : W p l e room_1 s m #[Value.ref b] below meth c H locs cells slots Q (F0 m 1155 ls []) := by
  obtain ⟨hat, hKX, hKM, hKo, hEX, hEM, hXX, hXM, hD⟩ := id hh
  obtain ⟨hx, hb, hr, hml, hown, hts, hXs, hbl, hlocks, hgv⟩ := id hat
  have hbA : ¬ (fun q : Nat => s.heap.size ≤ q) b := Nat.not_le.mpr hbl
  obtain ⟨r, τX, τM, e1, e2, hI⟩ := hB i σX σM (xs (nI (6 * i) + 1).toNatClampNeg) hi5 hI0
  refine lv_aload_n hx hb dL_law_1155 rfl (lv_at hl 1 rfl) ?_
  refine lv_aload_n hx hb dL_law_1156 rfl (lv_at hl 0 rfl) ?_
  refine lv_iload hx hb dL_law_1157 (lv_at hl 4 rfl) ?_
  refine lv_iconst (v := 1) hx hb dL_law_1159 (by decide) ?_
  refine lv_iadd hx hb dL_law_1160 ?_
  refine va_sld hx hb hXs hbl hbA hS (lw_in (k := 1) hL hi (by decide)) dL_law_1161 ?_
  refine lw_callX (as := [.int (xs (nI (6 * i) + 1).toNatClampNeg)]) (st := []) hh wvL_129 rfl (kX11_status hEX (xs (nI (6 * i) + 1).toNatClampNeg) σX e1) rfl (by decide) (Nat.le_of_ble_eq_true rfl) rfl rfl dL_law_1162 hP hS hl.1 ⟨by omega, by omega⟩ (fun H locs hP hS => ?_)
  refine lv_aload_n hx hb dL_law_1165 rfl (lv_at hl 2 rfl) ?_
  refine lv_aload_n hx hb dL_law_1166 rfl (lv_at hl 0 rfl) ?_
  refine lv_iload hx hb dL_law_1167 (lv_at hl 4 rfl) ?_
  refine lv_iconst (v := 1) hx hb dL_law_1169 (by decide) ?_
  refine lv_iadd hx hb dL_law_1170 ?_
  refine va_sld hx hb hXs hbl hbA hS (lw_in (k := 1) hL hi (by decide)) dL_law_1171 ?_
  refine lw_callM (as := [.int (xs (nI (6 * i) + 1).toNatClampNeg)]) (st := [.int r]) hh wvL_132 rfl (kX12_status hEM (xs (nI (6 * i) + 1).toNatClampNeg) σM e2) rfl (by decide) (Nat.le_of_ble_eq_true rfl) rfl rfl dL_law_1172 hP hS hl.1 ⟨by omega, by omega⟩ (fun H locs hP hS => ?_)
  refine lv_icmp_eq (tgt := 1753) hx hb dL_law_1175 (by decide) (fun _ => ?_) (fun c9 => absurd rfl c9)
  exact K τX τM fo H locs cells slots ls hP hI hS (by omega) (by omega) hl
set_option maxRecDepth 100000 in
theorem lc25 (hh : lwH l p s m meth c b L xs dC dI adX adM caX caM qo co XX XM) (hL : L ≤ 3072) (hi : 6 * i + 6 ≤ L) (hi5 : i < 512) (hB : opB25 Inv) (hI0 : Inv i σX σM) (hP : lwW dC dI adX adM caX caM qo co σX σM fo H) (hS : va_S (fun q => s.heap.size ≤ q) s.heap H locs) (hc1 : cells ≤ 1000 * (i + 1)) (hc2 : slots ≤ 100000 + 1000 * i) (hl : lv_has ls 7 [(0, .ref b), (1, .ref (adX 0)), (2, .ref (adM 0)), (3, .ref qo), (4, .int (nI (6 * i)))]) (K : ∀ (τX τM : gM) (fo : Nat → Int64) (H : Heap) (locs : List Loc) (cells slots : Nat) (ls : Array Slot), lwW dC dI adX adM caX caM qo co τX τM fo H → Inv (i + 1) τX τM → va_S (fun q => s.heap.size ≤ q) s.heap H locs → cells ≤ 1000 * (i + 2) → slots ≤ 100000 + 1000 * (i + 1) → lv_has ls 7 [(0, .ref b), (1, .ref (adX 0)), (2, .ref (adM 0)), (3, .ref qo), (4, .int (nI (6 * i)))] → W p l e room_1 s m #[Value.ref b] below meth c H locs cells slots Q (F0 m 1753 ls [])) : W p l e room_1 s m #[Value.ref b] below meth c H locs cells slots Q (F0 m 1180 ls []) := by
  obtain ⟨hat, hKX, hKM, hKo, hEX, hEM, hXX, hXM, hD⟩ := id hh
  obtain ⟨hx, hb, hr, hml, hown, hts, hXs, hbl, hlocks, hgv⟩ := id hat
  have hbA : ¬ (fun q : Nat => s.heap.size ≤ q) b := Nat.not_le.mpr hbl
  obtain ⟨r, τX, τM, e1, e2, hI⟩ := hB i σX σM  hi5 hI0
  refine lv_aload_n hx hb dL_law_1180 rfl (lv_at hl 1 rfl) ?_
  refine lw_callX (as := []) (st := []) hh wvL_133 rfl (kX11_undo hEX σX e1) rfl (by decide) (Nat.le_of_ble_eq_true rfl) rfl rfl dL_law_1181 hP hS hl.1 ⟨by omega, by omega⟩ (fun H locs hP hS => ?_)
  refine lv_aload_n hx hb dL_law_1184 rfl (lv_at hl 2 rfl) ?_
  refine lw_callM (as := []) (st := [.int r]) hh wvL_136 rfl (kX12_undo hEM fl σM e2) rfl (by decide) (Nat.le_of_ble_eq_true rfl) rfl rfl dL_law_1185 hP hS hl.1 ⟨by omega, by omega⟩ (fun H locs hP hS => ?_)
  refine lv_icmp_eq (tgt := 1753) hx hb dL_law_1188 (by decide) (fun _ => ?_) (fun c9 => absurd rfl c9)
  exact K τX τM fo H locs cells slots ls hP hI hS (by omega) (by omega) hl
set_option maxRecDepth 100000 in
theorem lc26 (hh : lwH l p s m meth c b L xs dC dI adX adM caX caM qo co XX XM) (hL : L ≤ 3072) (hi : 6 * i + 6 ≤ L) (hi5 : i < 512) (hB : opB26 Inv) (hI0 : Inv i σX σM) (hP : lwW dC dI adX adM caX caM qo co σX σM fo H) (hS : va_S (fun q => s.heap.size ≤ q) s.heap H locs) (hc1 : cells ≤ 1000 * (i + 1)) (hc2 : slots ≤ 100000 + 1000 * i) (hl : lv_has ls 7 [(0, .ref b), (1, .ref (adX 0)), (2, .ref (adM 0)), (3, .ref qo), (4, .int (nI (6 * i)))]) (K : ∀ (τX τM : gM) (fo : Nat → Int64) (H : Heap) (locs : List Loc) (cells slots : Nat) (ls : Array Slot), lwW dC dI adX adM caX caM qo co τX τM fo H → Inv (i + 1) τX τM → va_S (fun q => s.heap.size ≤ q) s.heap H locs → cells ≤ 1000 * (i + 2) → slots ≤ 100000 + 1000 * (i + 1) → lv_has ls 7 [(0, .ref b), (1, .ref (adX 0)), (2, .ref (adM 0)), (3, .ref qo), (4, .int (nI (6 * i)))] → W p l e room_1 s m #[Value.ref b] below meth c H locs cells slots Q (F0 m 1753 ls [])) : W p l e room_1 s m #[Value.ref b] below meth c H locs cells slots Q (F0 m 1193 ls []) := by
  obtain ⟨hat, hKX, hKM, hKo, hEX, hEM, hXX, hXM, hD⟩ := id hh
  obtain ⟨hx, hb, hr, hml, hown, hts, hXs, hbl, hlocks, hgv⟩ := id hat
  have hbA : ¬ (fun q : Nat => s.heap.size ≤ q) b := Nat.not_le.mpr hbl
  obtain ⟨r, τX, τM, e1, e2, hI⟩ := hB i σX σM (xs (nI (6 * i) + 1).toNatClampNeg) (xs (nI (6 * i) + 2).toNatClampNeg) hi5 hI0
  refine lv_aload_n hx hb dL_law_1193 rfl (lv_at hl 1 rfl) ?_
  refine lv_aload_n hx hb dL_law_1194 rfl (lv_at hl 0 rfl) ?_
  refine lv_iload hx hb dL_law_1195 (lv_at hl 4 rfl) ?_
  refine lv_iconst (v := 1) hx hb dL_law_1197 (by decide) ?_
  refine lv_iadd hx hb dL_law_1198 ?_
  refine va_sld hx hb hXs hbl hbA hS (lw_in (k := 1) hL hi (by decide)) dL_law_1199 ?_
  refine lv_aload_n hx hb dL_law_1200 rfl (lv_at hl 0 rfl) ?_
  refine lv_iload hx hb dL_law_1201 (lv_at hl 4 rfl) ?_
  refine lv_iconst (v := 2) hx hb dL_law_1203 (by decide) ?_
  refine lv_iadd hx hb dL_law_1204 ?_
  refine va_sld hx hb hXs hbl hbA hS (lw_in (k := 2) hL hi (by decide)) dL_law_1205 ?_
  refine lw_callX (as := [.int (xs (nI (6 * i) + 1).toNatClampNeg), .int (xs (nI (6 * i) + 2).toNatClampNeg)]) (st := []) hh wvL_137 rfl (kX11_log hEX (xs (nI (6 * i) + 1).toNatClampNeg) (xs (nI (6 * i) + 2).toNatClampNeg) σX e1) rfl (by decide) (Nat.le_of_ble_eq_true rfl) rfl rfl dL_law_1206 hP hS hl.1 ⟨by omega, by omega⟩ (fun H locs hP hS => ?_)
  refine lv_aload_n hx hb dL_law_1209 rfl (lv_at hl 2 rfl) ?_
  refine lv_aload_n hx hb dL_law_1210 rfl (lv_at hl 0 rfl) ?_
  refine lv_iload hx hb dL_law_1211 (lv_at hl 4 rfl) ?_
  refine lv_iconst (v := 1) hx hb dL_law_1213 (by decide) ?_
  refine lv_iadd hx hb dL_law_1214 ?_
  refine va_sld hx hb hXs hbl hbA hS (lw_in (k := 1) hL hi (by decide)) dL_law_1215 ?_
  refine lv_aload_n hx hb dL_law_1216 rfl (lv_at hl 0 rfl) ?_
  refine lv_iload hx hb dL_law_1217 (lv_at hl 4 rfl) ?_
  refine lv_iconst (v := 2) hx hb dL_law_1219 (by decide) ?_
  refine lv_iadd hx hb dL_law_1220 ?_
  refine va_sld hx hb hXs hbl hbA hS (lw_in (k := 2) hL hi (by decide)) dL_law_1221 ?_
  refine lw_callM (as := [.int (xs (nI (6 * i) + 1).toNatClampNeg), .int (xs (nI (6 * i) + 2).toNatClampNeg)]) (st := [.int r]) hh wvL_140 rfl (kX12_log hEM (xs (nI (6 * i) + 1).toNatClampNeg) (xs (nI (6 * i) + 2).toNatClampNeg) σM e2) rfl (by decide) (Nat.le_of_ble_eq_true rfl) rfl rfl dL_law_1222 hP hS hl.1 ⟨by omega, by omega⟩ (fun H locs hP hS => ?_)
  refine lv_icmp_eq (tgt := 1753) hx hb dL_law_1225 (by decide) (fun _ => ?_) (fun c9 => absurd rfl c9)
  exact K τX τM fo H locs cells slots ls hP hI hS (by omega) (by omega) hl
set_option maxRecDepth 100000 in
theorem lc27 (hh : lwH l p s m meth c b L xs dC dI adX adM caX caM qo co XX XM) (hL : L ≤ 3072) (hi : 6 * i + 6 ≤ L) (hi5 : i < 512) (hB : opB27 Inv) (hI0 : Inv i σX σM) (hP : lwW dC dI adX adM caX caM qo co σX σM fo H) (hS : va_S (fun q => s.heap.size ≤ q) s.heap H locs) (hc1 : cells ≤ 1000 * (i + 1)) (hc2 : slots ≤ 100000 + 1000 * i) (hl : lv_has ls 7 [(0, .ref b), (1, .ref (adX 0)), (2, .ref (adM 0)), (3, .ref qo), (4, .int (nI (6 * i)))]) (K : ∀ (τX τM : gM) (fo : Nat → Int64) (H : Heap) (locs : List Loc) (cells slots : Nat) (ls : Array Slot), lwW dC dI adX adM caX caM qo co τX τM fo H → Inv (i + 1) τX τM → va_S (fun q => s.heap.size ≤ q) s.heap H locs → cells ≤ 1000 * (i + 2) → slots ≤ 100000 + 1000 * (i + 1) → lv_has ls 7 [(0, .ref b), (1, .ref (adX 0)), (2, .ref (adM 0)), (3, .ref qo), (4, .int (nI (6 * i)))] → W p l e room_1 s m #[Value.ref b] below meth c H locs cells slots Q (F0 m 1753 ls [])) : W p l e room_1 s m #[Value.ref b] below meth c H locs cells slots Q (F0 m 1230 ls []) := by
  obtain ⟨hat, hKX, hKM, hKo, hEX, hEM, hXX, hXM, hD⟩ := id hh
  obtain ⟨hx, hb, hr, hml, hown, hts, hXs, hbl, hlocks, hgv⟩ := id hat
  have hbA : ¬ (fun q : Nat => s.heap.size ≤ q) b := Nat.not_le.mpr hbl
  obtain ⟨r, τX, τM, e1, e2, hI⟩ := hB i σX σM (xs (nI (6 * i) + 1).toNatClampNeg) (xs (nI (6 * i) + 2).toNatClampNeg) hi5 hI0
  refine lv_aload_n hx hb dL_law_1230 rfl (lv_at hl 1 rfl) ?_
  refine lv_aload_n hx hb dL_law_1231 rfl (lv_at hl 0 rfl) ?_
  refine lv_iload hx hb dL_law_1232 (lv_at hl 4 rfl) ?_
  refine lv_iconst (v := 1) hx hb dL_law_1234 (by decide) ?_
  refine lv_iadd hx hb dL_law_1235 ?_
  refine va_sld hx hb hXs hbl hbA hS (lw_in (k := 1) hL hi (by decide)) dL_law_1236 ?_
  refine lv_aload_n hx hb dL_law_1237 rfl (lv_at hl 0 rfl) ?_
  refine lv_iload hx hb dL_law_1238 (lv_at hl 4 rfl) ?_
  refine lv_iconst (v := 2) hx hb dL_law_1240 (by decide) ?_
  refine lv_iadd hx hb dL_law_1241 ?_
  refine va_sld hx hb hXs hbl hbA hS (lw_in (k := 2) hL hi (by decide)) dL_law_1242 ?_
  refine lw_callX (as := [.int (xs (nI (6 * i) + 1).toNatClampNeg), .int (xs (nI (6 * i) + 2).toNatClampNeg)]) (st := []) hh wvL_141 rfl (kX11_cost hEX fl (xs (nI (6 * i) + 1).toNatClampNeg) (xs (nI (6 * i) + 2).toNatClampNeg) σX e1) rfl (by decide) (Nat.le_of_ble_eq_true rfl) rfl rfl dL_law_1243 hP hS hl.1 ⟨by omega, by omega⟩ (fun H locs hP hS => ?_)
  refine lv_aload_n hx hb dL_law_1246 rfl (lv_at hl 2 rfl) ?_
  refine lv_aload_n hx hb dL_law_1247 rfl (lv_at hl 0 rfl) ?_
  refine lv_iload hx hb dL_law_1248 (lv_at hl 4 rfl) ?_
  refine lv_iconst (v := 1) hx hb dL_law_1250 (by decide) ?_
  refine lv_iadd hx hb dL_law_1251 ?_
  refine va_sld hx hb hXs hbl hbA hS (lw_in (k := 1) hL hi (by decide)) dL_law_1252 ?_
  refine lv_aload_n hx hb dL_law_1253 rfl (lv_at hl 0 rfl) ?_
  refine lv_iload hx hb dL_law_1254 (lv_at hl 4 rfl) ?_
  refine lv_iconst (v := 2) hx hb dL_law_1256 (by decide) ?_
  refine lv_iadd hx hb dL_law_1257 ?_
  refine va_sld hx hb hXs hbl hbA hS (lw_in (k := 2) hL hi (by decide)) dL_law_1258 ?_
  refine lw_callM (as := [.int (xs (nI (6 * i) + 1).toNatClampNeg), .int (xs (nI (6 * i) + 2).toNatClampNeg)]) (st := [.int r]) hh wvL_144 rfl (kX12_cost hEM fl (xs (nI (6 * i) + 1).toNatClampNeg) (xs (nI (6 * i) + 2).toNatClampNeg) σM e2) rfl (by decide) (Nat.le_of_ble_eq_true rfl) rfl rfl dL_law_1259 hP hS hl.1 ⟨by omega, by omega⟩ (fun H locs hP hS => ?_)
  refine lv_icmp_eq (tgt := 1753) hx hb dL_law_1262 (by decide) (fun _ => ?_) (fun c9 => absurd rfl c9)
  exact K τX τM fo H locs cells slots ls hP hI hS (by omega) (by omega) hl
set_option maxRecDepth 100000 in
theorem lc28 (hh : lwH l p s m meth c b L xs dC dI adX adM caX caM qo co XX XM) (hL : L ≤ 3072) (hi : 6 * i + 6 ≤ L) (hi5 : i < 512) (hB : opB28 Inv) (hI0 : Inv i σX σM) (hP : lwW dC dI adX adM caX caM qo co σX σM fo H) (hS : va_S (fun q => s.heap.size ≤ q) s.heap H locs) (hc1 : cells ≤ 1000 * (i + 1)) (hc2 : slots ≤ 100000 + 1000 * i) (hl : lv_has ls 7 [(0, .ref b), (1, .ref (adX 0)), (2, .ref (adM 0)), (3, .ref qo), (4, .int (nI (6 * i)))]) (K : ∀ (τX τM : gM) (fo : Nat → Int64) (H : Heap) (locs : List Loc) (cells slots : Nat) (ls : Array Slot), lwW dC dI adX adM caX caM qo co τX τM fo H → Inv (i + 1) τX τM → va_S (fun q => s.heap.size ≤ q) s.heap H locs → cells ≤ 1000 * (i + 2) → slots ≤ 100000 + 1000 * (i + 1) → lv_has ls 7 [(0, .ref b), (1, .ref (adX 0)), (2, .ref (adM 0)), (3, .ref qo), (4, .int (nI (6 * i)))] → W p l e room_1 s m #[Value.ref b] below meth c H locs cells slots Q (F0 m 1753 ls [])) : W p l e room_1 s m #[Value.ref b] below meth c H locs cells slots Q (F0 m 1267 ls []) := by
  obtain ⟨hat, hKX, hKM, hKo, hEX, hEM, hXX, hXM, hD⟩ := id hh
  obtain ⟨hx, hb, hr, hml, hown, hts, hXs, hbl, hlocks, hgv⟩ := id hat
  have hbA : ¬ (fun q : Nat => s.heap.size ≤ q) b := Nat.not_le.mpr hbl
  obtain ⟨r, τX, τM, e1, e2, hI⟩ := hB i σX σM (xs (nI (6 * i) + 1).toNatClampNeg) (xs (nI (6 * i) + 2).toNatClampNeg) (xs (nI (6 * i) + 3).toNatClampNeg) (xs (nI (6 * i) + 4).toNatClampNeg) (xs (nI (6 * i) + 5).toNatClampNeg) hi5 hI0
  refine lv_aload_n hx hb dL_law_1267 rfl (lv_at hl 1 rfl) ?_
  refine lv_aload_n hx hb dL_law_1268 rfl (lv_at hl 0 rfl) ?_
  refine lv_iload hx hb dL_law_1269 (lv_at hl 4 rfl) ?_
  refine lv_iconst (v := 1) hx hb dL_law_1271 (by decide) ?_
  refine lv_iadd hx hb dL_law_1272 ?_
  refine va_sld hx hb hXs hbl hbA hS (lw_in (k := 1) hL hi (by decide)) dL_law_1273 ?_
  refine lv_aload_n hx hb dL_law_1274 rfl (lv_at hl 0 rfl) ?_
  refine lv_iload hx hb dL_law_1275 (lv_at hl 4 rfl) ?_
  refine lv_iconst (v := 2) hx hb dL_law_1277 (by decide) ?_
  refine lv_iadd hx hb dL_law_1278 ?_
  refine va_sld hx hb hXs hbl hbA hS (lw_in (k := 2) hL hi (by decide)) dL_law_1279 ?_
  refine lv_aload_n hx hb dL_law_1280 rfl (lv_at hl 0 rfl) ?_
  refine lv_iload hx hb dL_law_1281 (lv_at hl 4 rfl) ?_
  refine lv_iconst (v := 3) hx hb dL_law_1283 (by decide) ?_
  refine lv_iadd hx hb dL_law_1284 ?_
  refine va_sld hx hb hXs hbl hbA hS (lw_in (k := 3) hL hi (by decide)) dL_law_1285 ?_
  refine lv_aload_n hx hb dL_law_1286 rfl (lv_at hl 0 rfl) ?_
  refine lv_iload hx hb dL_law_1287 (lv_at hl 4 rfl) ?_
  refine lv_iconst (v := 4) hx hb dL_law_1289 (by decide) ?_
  refine lv_iadd hx hb dL_law_1290 ?_
  refine va_sld hx hb hXs hbl hbA hS (lw_in (k := 4) hL hi (by decide)) dL_law_1291 ?_
  refine lv_aload_n hx hb dL_law_1292 rfl (lv_at hl 0 rfl) ?_
  refine lv_iload hx hb dL_law_1293 (lv_at hl 4 rfl) ?_
  refine lv_iconst (v := 5) hx hb dL_law_1295 (by decide) ?_
  refine lv_iadd hx hb dL_law_1296 ?_
  refine va_sld hx hb hXs hbl hbA hS (lw_in (k := 5) hL hi (by decide)) dL_law_1297 ?_
  refine lw_callX (as := [.int (xs (nI (6 * i) + 1).toNatClampNeg), .int (xs (nI (6 * i) + 2).toNatClampNeg), .int (xs (nI (6 * i) + 3).toNatClampNeg), .int (xs (nI (6 * i) + 4).toNatClampNeg), .int (xs (nI (6 * i) + 5).toNatClampNeg)]) (st := []) hh wvL_145 rfl (kX11_told hEX fl (xs (nI (6 * i) + 1).toNatClampNeg) (xs (nI (6 * i) + 2).toNatClampNeg) (xs (nI (6 * i) + 3).toNatClampNeg) (xs (nI (6 * i) + 4).toNatClampNeg) (xs (nI (6 * i) + 5).toNatClampNeg) σX e1) rfl (by decide) (Nat.le_of_ble_eq_true rfl) rfl rfl dL_law_1298 hP hS hl.1 ⟨by omega, by omega⟩ (fun H locs hP hS => ?_)
  refine lv_aload_n hx hb dL_law_1301 rfl (lv_at hl 2 rfl) ?_
  refine lv_aload_n hx hb dL_law_1302 rfl (lv_at hl 0 rfl) ?_
  refine lv_iload hx hb dL_law_1303 (lv_at hl 4 rfl) ?_
  refine lv_iconst (v := 1) hx hb dL_law_1305 (by decide) ?_
  refine lv_iadd hx hb dL_law_1306 ?_
  refine va_sld hx hb hXs hbl hbA hS (lw_in (k := 1) hL hi (by decide)) dL_law_1307 ?_
  refine lv_aload_n hx hb dL_law_1308 rfl (lv_at hl 0 rfl) ?_
  refine lv_iload hx hb dL_law_1309 (lv_at hl 4 rfl) ?_
  refine lv_iconst (v := 2) hx hb dL_law_1311 (by decide) ?_
  refine lv_iadd hx hb dL_law_1312 ?_
  refine va_sld hx hb hXs hbl hbA hS (lw_in (k := 2) hL hi (by decide)) dL_law_1313 ?_
  refine lv_aload_n hx hb dL_law_1314 rfl (lv_at hl 0 rfl) ?_
  refine lv_iload hx hb dL_law_1315 (lv_at hl 4 rfl) ?_
  refine lv_iconst (v := 3) hx hb dL_law_1317 (by decide) ?_
  refine lv_iadd hx hb dL_law_1318 ?_
  refine va_sld hx hb hXs hbl hbA hS (lw_in (k := 3) hL hi (by decide)) dL_law_1319 ?_
  refine lv_aload_n hx hb dL_law_1320 rfl (lv_at hl 0 rfl) ?_
  refine lv_iload hx hb dL_law_1321 (lv_at hl 4 rfl) ?_
  refine lv_iconst (v := 4) hx hb dL_law_1323 (by decide) ?_
  refine lv_iadd hx hb dL_law_1324 ?_
  refine va_sld hx hb hXs hbl hbA hS (lw_in (k := 4) hL hi (by decide)) dL_law_1325 ?_
  refine lv_aload_n hx hb dL_law_1326 rfl (lv_at hl 0 rfl) ?_
  refine lv_iload hx hb dL_law_1327 (lv_at hl 4 rfl) ?_
  refine lv_iconst (v := 5) hx hb dL_law_1329 (by decide) ?_
  refine lv_iadd hx hb dL_law_1330 ?_
  refine va_sld hx hb hXs hbl hbA hS (lw_in (k := 5) hL hi (by decide)) dL_law_1331 ?_
  refine lw_callM (as := [.int (xs (nI (6 * i) + 1).toNatClampNeg), .int (xs (nI (6 * i) + 2).toNatClampNeg), .int (xs (nI (6 * i) + 3).toNatClampNeg), .int (xs (nI (6 * i) + 4).toNatClampNeg), .int (xs (nI (6 * i) + 5).toNatClampNeg)]) (st := [.int r]) hh wvL_148 rfl (kX12_told hEM fl (xs (nI (6 * i) + 1).toNatClampNeg) (xs (nI (6 * i) + 2).toNatClampNeg) (xs (nI (6 * i) + 3).toNatClampNeg) (xs (nI (6 * i) + 4).toNatClampNeg) (xs (nI (6 * i) + 5).toNatClampNeg) σM e2) rfl (by decide) (Nat.le_of_ble_eq_true rfl) rfl rfl dL_law_1332 hP hS hl.1 ⟨by omega, by omega⟩ (fun H locs hP hS => ?_)
  refine lv_icmp_eq (tgt := 1753) hx hb dL_law_1335 (by decide) (fun _ => ?_) (fun c9 => absurd rfl c9)
  exact K τX τM fo H locs cells slots ls hP hI hS (by omega) (by omega) hl
set_option maxRecDepth 100000 in
theorem lc29 (hh : lwH l p s m meth c b L xs dC dI adX adM caX caM qo co XX XM) (hL : L ≤ 3072) (hi : 6 * i + 6 ≤ L) (hi5 : i < 512) (hB : opB29 Inv) (hI0 : Inv i σX σM) (hP : lwW dC dI adX adM caX caM qo co σX σM fo H) (hS : va_S (fun q => s.heap.size ≤ q) s.heap H locs) (hc1 : cells ≤ 1000 * (i + 1)) (hc2 : slots ≤ 100000 + 1000 * i) (hl : lv_has ls 7 [(0, .ref b), (1, .ref (adX 0)), (2, .ref (adM 0)), (3, .ref qo), (4, .int (nI (6 * i)))]) (K : ∀ (τX τM : gM) (fo : Nat → Int64) (H : Heap) (locs : List Loc) (cells slots : Nat) (ls : Array Slot), lwW dC dI adX adM caX caM qo co τX τM fo H → Inv (i + 1) τX τM → va_S (fun q => s.heap.size ≤ q) s.heap H locs → cells ≤ 1000 * (i + 2) → slots ≤ 100000 + 1000 * (i + 1) → lv_has ls 7 [(0, .ref b), (1, .ref (adX 0)), (2, .ref (adM 0)), (3, .ref qo), (4, .int (nI (6 * i)))] → W p l e room_1 s m #[Value.ref b] below meth c H locs cells slots Q (F0 m 1753 ls [])) : W p l e room_1 s m #[Value.ref b] below meth c H locs cells slots Q (F0 m 1340 ls []) := by
  obtain ⟨hat, hKX, hKM, hKo, hEX, hEM, hXX, hXM, hD⟩ := id hh
  obtain ⟨hx, hb, hr, hml, hown, hts, hXs, hbl, hlocks, hgv⟩ := id hat
  have hbA : ¬ (fun q : Nat => s.heap.size ≤ q) b := Nat.not_le.mpr hbl
  obtain ⟨r, τX, τM, e1, e2, hI⟩ := hB i σX σM (xs (nI (6 * i) + 1).toNatClampNeg) (xs (nI (6 * i) + 2).toNatClampNeg) hi5 hI0
  refine lv_aload_n hx hb dL_law_1340 rfl (lv_at hl 1 rfl) ?_
  refine lv_aload_n hx hb dL_law_1341 rfl (lv_at hl 0 rfl) ?_
  refine lv_iload hx hb dL_law_1342 (lv_at hl 4 rfl) ?_
  refine lv_iconst (v := 1) hx hb dL_law_1344 (by decide) ?_
  refine lv_iadd hx hb dL_law_1345 ?_
  refine va_sld hx hb hXs hbl hbA hS (lw_in (k := 1) hL hi (by decide)) dL_law_1346 ?_
  refine lv_aload_n hx hb dL_law_1347 rfl (lv_at hl 0 rfl) ?_
  refine lv_iload hx hb dL_law_1348 (lv_at hl 4 rfl) ?_
  refine lv_iconst (v := 2) hx hb dL_law_1350 (by decide) ?_
  refine lv_iadd hx hb dL_law_1351 ?_
  refine va_sld hx hb hXs hbl hbA hS (lw_in (k := 2) hL hi (by decide)) dL_law_1352 ?_
  refine lw_callX (as := [.int (xs (nI (6 * i) + 1).toNatClampNeg), .int (xs (nI (6 * i) + 2).toNatClampNeg)]) (st := []) hh wvL_149 rfl (kX11_who hEX fl (xs (nI (6 * i) + 1).toNatClampNeg) (xs (nI (6 * i) + 2).toNatClampNeg) σX e1) rfl (by decide) (Nat.le_of_ble_eq_true rfl) rfl rfl dL_law_1353 hP hS hl.1 ⟨by omega, by omega⟩ (fun H locs hP hS => ?_)
  refine lv_aload_n hx hb dL_law_1356 rfl (lv_at hl 2 rfl) ?_
  refine lv_aload_n hx hb dL_law_1357 rfl (lv_at hl 0 rfl) ?_
  refine lv_iload hx hb dL_law_1358 (lv_at hl 4 rfl) ?_
  refine lv_iconst (v := 1) hx hb dL_law_1360 (by decide) ?_
  refine lv_iadd hx hb dL_law_1361 ?_
  refine va_sld hx hb hXs hbl hbA hS (lw_in (k := 1) hL hi (by decide)) dL_law_1362 ?_
  refine lv_aload_n hx hb dL_law_1363 rfl (lv_at hl 0 rfl) ?_
  refine lv_iload hx hb dL_law_1364 (lv_at hl 4 rfl) ?_
  refine lv_iconst (v := 2) hx hb dL_law_1366 (by decide) ?_
  refine lv_iadd hx hb dL_law_1367 ?_
  refine va_sld hx hb hXs hbl hbA hS (lw_in (k := 2) hL hi (by decide)) dL_law_1368 ?_
  refine lw_callM (as := [.int (xs (nI (6 * i) + 1).toNatClampNeg), .int (xs (nI (6 * i) + 2).toNatClampNeg)]) (st := [.int r]) hh wvL_152 rfl (kX12_who hEM fl (xs (nI (6 * i) + 1).toNatClampNeg) (xs (nI (6 * i) + 2).toNatClampNeg) σM e2) rfl (by decide) (Nat.le_of_ble_eq_true rfl) rfl rfl dL_law_1369 hP hS hl.1 ⟨by omega, by omega⟩ (fun H locs hP hS => ?_)
  refine lv_icmp_eq (tgt := 1753) hx hb dL_law_1372 (by decide) (fun _ => ?_) (fun c9 => absurd rfl c9)
  exact K τX τM fo H locs cells slots ls hP hI hS (by omega) (by omega) hl
set_option maxRecDepth 100000 in
theorem lc30 (hh : lwH l p s m meth c b L xs dC dI adX adM caX caM qo co XX XM) (hL : L ≤ 3072) (hi : 6 * i + 6 ≤ L) (hi5 : i < 512) (hB : opB30 Inv) (hI0 : Inv i σX σM) (hP : lwW dC dI adX adM caX caM qo co σX σM fo H) (hS : va_S (fun q => s.heap.size ≤ q) s.heap H locs) (hc1 : cells ≤ 1000 * (i + 1)) (hc2 : slots ≤ 100000 + 1000 * i) (hl : lv_has ls 7 [(0, .ref b), (1, .ref (adX 0)), (2, .ref (adM 0)), (3, .ref qo), (4, .int (nI (6 * i)))]) (K : ∀ (τX τM : gM) (fo : Nat → Int64) (H : Heap) (locs : List Loc) (cells slots : Nat) (ls : Array Slot), lwW dC dI adX adM caX caM qo co τX τM fo H → Inv (i + 1) τX τM → va_S (fun q => s.heap.size ≤ q) s.heap H locs → cells ≤ 1000 * (i + 2) → slots ≤ 100000 + 1000 * (i + 1) → lv_has ls 7 [(0, .ref b), (1, .ref (adX 0)), (2, .ref (adM 0)), (3, .ref qo), (4, .int (nI (6 * i)))] → W p l e room_1 s m #[Value.ref b] below meth c H locs cells slots Q (F0 m 1753 ls [])) : W p l e room_1 s m #[Value.ref b] below meth c H locs cells slots Q (F0 m 1377 ls []) := by
  obtain ⟨hat, hKX, hKM, hKo, hEX, hEM, hXX, hXM, hD⟩ := id hh
  obtain ⟨hx, hb, hr, hml, hown, hts, hXs, hbl, hlocks, hgv⟩ := id hat
  have hbA : ¬ (fun q : Nat => s.heap.size ≤ q) b := Nat.not_le.mpr hbl
  obtain ⟨r, τX, τM, e1, e2, hI⟩ := hB i σX σM  hi5 hI0
  refine lv_aload_n hx hb dL_law_1377 rfl (lv_at hl 1 rfl) ?_
  refine lw_callX (as := []) (st := []) hh wvL_153 rfl (kX11_more hEX fl σX e1) rfl (by decide) (Nat.le_of_ble_eq_true rfl) rfl rfl dL_law_1378 hP hS hl.1 ⟨by omega, by omega⟩ (fun H locs hP hS => ?_)
  refine lv_aload_n hx hb dL_law_1381 rfl (lv_at hl 2 rfl) ?_
  refine lw_callM (as := []) (st := [.int r]) hh wvL_156 rfl (kX12_more hEM fl σM e2) rfl (by decide) (Nat.le_of_ble_eq_true rfl) rfl rfl dL_law_1382 hP hS hl.1 ⟨by omega, by omega⟩ (fun H locs hP hS => ?_)
  refine lv_icmp_eq (tgt := 1753) hx hb dL_law_1385 (by decide) (fun _ => ?_) (fun c9 => absurd rfl c9)
  exact K τX τM fo H locs cells slots ls hP hI hS (by omega) (by omega) hl
set_option maxRecDepth 100000 in
theorem lc31 (hh : lwH l p s m meth c b L xs dC dI adX adM caX caM qo co XX XM) (hL : L ≤ 3072) (hi : 6 * i + 6 ≤ L) (hi5 : i < 512) (hB : opB31 Inv) (hI0 : Inv i σX σM) (hP : lwW dC dI adX adM caX caM qo co σX σM fo H) (hS : va_S (fun q => s.heap.size ≤ q) s.heap H locs) (hc1 : cells ≤ 1000 * (i + 1)) (hc2 : slots ≤ 100000 + 1000 * i) (hl : lv_has ls 7 [(0, .ref b), (1, .ref (adX 0)), (2, .ref (adM 0)), (3, .ref qo), (4, .int (nI (6 * i)))]) (K : ∀ (τX τM : gM) (fo : Nat → Int64) (H : Heap) (locs : List Loc) (cells slots : Nat) (ls : Array Slot), lwW dC dI adX adM caX caM qo co τX τM fo H → Inv (i + 1) τX τM → va_S (fun q => s.heap.size ≤ q) s.heap H locs → cells ≤ 1000 * (i + 2) → slots ≤ 100000 + 1000 * (i + 1) → lv_has ls 7 [(0, .ref b), (1, .ref (adX 0)), (2, .ref (adM 0)), (3, .ref qo), (4, .int (nI (6 * i)))] → W p l e room_1 s m #[Value.ref b] below meth c H locs cells slots Q (F0 m 1753 ls [])) : W p l e room_1 s m #[Value.ref b] below meth c H locs cells slots Q (F0 m 1390 ls []) := by
  obtain ⟨hat, hKX, hKM, hKo, hEX, hEM, hXX, hXM, hD⟩ := id hh
  obtain ⟨hx, hb, hr, hml, hown, hts, hXs, hbl, hlocks, hgv⟩ := id hat
  have hbA : ¬ (fun q : Nat => s.heap.size ≤ q) b := Nat.not_le.mpr hbl
  obtain ⟨r, τX, τM, e1, e2, hI⟩ := hB i σX σM (xs (nI (6 * i) + 1).toNatClampNeg) hi5 hI0
  refine lv_aload_n hx hb dL_law_1390 rfl (lv_at hl 1 rfl) ?_
  refine lv_aload_n hx hb dL_law_1391 rfl (lv_at hl 0 rfl) ?_
  refine lv_iload hx hb dL_law_1392 (lv_at hl 4 rfl) ?_
  refine lv_iconst (v := 1) hx hb dL_law_1394 (by decide) ?_
  refine lv_iadd hx hb dL_law_1395 ?_
  refine va_sld hx hb hXs hbl hbA hS (lw_in (k := 1) hL hi (by decide)) dL_law_1396 ?_
  refine lw_callX (as := [.int (xs (nI (6 * i) + 1).toNatClampNeg)]) (st := []) hh wvL_157 rfl (kX11_left hEX fl (xs (nI (6 * i) + 1).toNatClampNeg) σX e1) rfl (by decide) (Nat.le_of_ble_eq_true rfl) rfl rfl dL_law_1397 hP hS hl.1 ⟨by omega, by omega⟩ (fun H locs hP hS => ?_)
  refine lv_aload_n hx hb dL_law_1400 rfl (lv_at hl 2 rfl) ?_
  refine lv_aload_n hx hb dL_law_1401 rfl (lv_at hl 0 rfl) ?_
  refine lv_iload hx hb dL_law_1402 (lv_at hl 4 rfl) ?_
  refine lv_iconst (v := 1) hx hb dL_law_1404 (by decide) ?_
  refine lv_iadd hx hb dL_law_1405 ?_
  refine va_sld hx hb hXs hbl hbA hS (lw_in (k := 1) hL hi (by decide)) dL_law_1406 ?_
  refine lw_callM (as := [.int (xs (nI (6 * i) + 1).toNatClampNeg)]) (st := [.int r]) hh wvL_160 rfl (kX12_left hEM fl (xs (nI (6 * i) + 1).toNatClampNeg) σM e2) rfl (by decide) (Nat.le_of_ble_eq_true rfl) rfl rfl dL_law_1407 hP hS hl.1 ⟨by omega, by omega⟩ (fun H locs hP hS => ?_)
  refine lv_icmp_eq (tgt := 1753) hx hb dL_law_1410 (by decide) (fun _ => ?_) (fun c9 => absurd rfl c9)
  exact K τX τM fo H locs cells slots ls hP hI hS (by omega) (by omega) hl
set_option maxRecDepth 100000 in
theorem lc32 (hh : lwH l p s m meth c b L xs dC dI adX adM caX caM qo co XX XM) (hL : L ≤ 3072) (hi : 6 * i + 6 ≤ L) (hi5 : i < 512) (hB : opB32 Inv) (hI0 : Inv i σX σM) (hP : lwW dC dI adX adM caX caM qo co σX σM fo H) (hS : va_S (fun q => s.heap.size ≤ q) s.heap H locs) (hc1 : cells ≤ 1000 * (i + 1)) (hc2 : slots ≤ 100000 + 1000 * i) (hl : lv_has ls 7 [(0, .ref b), (1, .ref (adX 0)), (2, .ref (adM 0)), (3, .ref qo), (4, .int (nI (6 * i)))]) (K : ∀ (τX τM : gM) (fo : Nat → Int64) (H : Heap) (locs : List Loc) (cells slots : Nat) (ls : Array Slot), lwW dC dI adX adM caX caM qo co τX τM fo H → Inv (i + 1) τX τM → va_S (fun q => s.heap.size ≤ q) s.heap H locs → cells ≤ 1000 * (i + 2) → slots ≤ 100000 + 1000 * (i + 1) → lv_has ls 7 [(0, .ref b), (1, .ref (adX 0)), (2, .ref (adM 0)), (3, .ref qo), (4, .int (nI (6 * i)))] → W p l e room_1 s m #[Value.ref b] below meth c H locs cells slots Q (F0 m 1753 ls [])) : W p l e room_1 s m #[Value.ref b] below meth c H locs cells slots Q (F0 m 1415 ls []) := by
  obtain ⟨hat, hKX, hKM, hKo, hEX, hEM, hXX, hXM, hD⟩ := id hh
  obtain ⟨hx, hb, hr, hml, hown, hts, hXs, hbl, hlocks, hgv⟩ := id hat
  have hbA : ¬ (fun q : Nat => s.heap.size ≤ q) b := Nat.not_le.mpr hbl
  obtain ⟨r, τX, τM, e1, e2, hI⟩ := hB i σX σM  hi5 hI0
  refine lv_aload_n hx hb dL_law_1415 rfl (lv_at hl 1 rfl) ?_
  refine lw_callX (as := []) (st := []) hh wvL_161 rfl (kX11_fit hEX fl σX e1) rfl (by decide) (Nat.le_of_ble_eq_true rfl) rfl rfl dL_law_1416 hP hS hl.1 ⟨by omega, by omega⟩ (fun H locs hP hS => ?_)
  refine lv_aload_n hx hb dL_law_1419 rfl (lv_at hl 2 rfl) ?_
  refine lw_callM (as := []) (st := [.int r]) hh wvL_164 rfl (kX12_fit hEM fl σM e2) rfl (by decide) (Nat.le_of_ble_eq_true rfl) rfl rfl dL_law_1420 hP hS hl.1 ⟨by omega, by omega⟩ (fun H locs hP hS => ?_)
  refine lv_icmp_eq (tgt := 1753) hx hb dL_law_1423 (by decide) (fun _ => ?_) (fun c9 => absurd rfl c9)
  exact K τX τM fo H locs cells slots ls hP hI hS (by omega) (by omega) hl
set_option maxRecDepth 100000 in
theorem lc33 (hh : lwH l p s m meth c b L xs dC dI adX adM caX caM qo co XX XM) (hL : L ≤ 3072) (hi : 6 * i + 6 ≤ L) (hi5 : i < 512) (hB : opB33 Inv) (hI0 : Inv i σX σM) (hP : lwW dC dI adX adM caX caM qo co σX σM fo H) (hS : va_S (fun q => s.heap.size ≤ q) s.heap H locs) (hc1 : cells ≤ 1000 * (i + 1)) (hc2 : slots ≤ 100000 + 1000 * i) (hl : lv_has ls 7 [(0, .ref b), (1, .ref (adX 0)), (2, .ref (adM 0)), (3, .ref qo), (4, .int (nI (6 * i)))]) (K : ∀ (τX τM : gM) (fo : Nat → Int64) (H : Heap) (locs : List Loc) (cells slots : Nat) (ls : Array Slot), lwW dC dI adX adM caX caM qo co τX τM fo H → Inv (i + 1) τX τM → va_S (fun q => s.heap.size ≤ q) s.heap H locs → cells ≤ 1000 * (i + 2) → slots ≤ 100000 + 1000 * (i + 1) → lv_has ls 7 [(0, .ref b), (1, .ref (adX 0)), (2, .ref (adM 0)), (3, .ref qo), (4, .int (nI (6 * i)))] → W p l e room_1 s m #[Value.ref b] below meth c H locs cells slots Q (F0 m 1753 ls [])) : W p l e room_1 s m #[Value.ref b] below meth c H locs cells slots Q (F0 m 1428 ls []) := by
  obtain ⟨hat, hKX, hKM, hKo, hEX, hEM, hXX, hXM, hD⟩ := id hh
  obtain ⟨hx, hb, hr, hml, hown, hts, hXs, hbl, hlocks, hgv⟩ := id hat
  have hbA : ¬ (fun q : Nat => s.heap.size ≤ q) b := Nat.not_le.mpr hbl
  obtain ⟨r, τX, τM, e1, e2, hI⟩ := hB i σX σM (xs (nI (6 * i) + 1).toNatClampNeg) hi5 hI0
  refine lv_aload_n hx hb dL_law_1428 rfl (lv_at hl 1 rfl) ?_
  refine lv_aload_n hx hb dL_law_1429 rfl (lv_at hl 0 rfl) ?_
  refine lv_iload hx hb dL_law_1430 (lv_at hl 4 rfl) ?_
  refine lv_iconst (v := 1) hx hb dL_law_1432 (by decide) ?_
  refine lv_iadd hx hb dL_law_1433 ?_
  refine va_sld hx hb hXs hbl hbA hS (lw_in (k := 1) hL hi (by decide)) dL_law_1434 ?_
  refine lw_callX (as := [.int (xs (nI (6 * i) + 1).toNatClampNeg)]) (st := []) hh wvL_165 rfl (kX11_checked hEX fl (xs (nI (6 * i) + 1).toNatClampNeg) σX e1) rfl (by decide) (Nat.le_of_ble_eq_true rfl) rfl rfl dL_law_1435 hP hS hl.1 ⟨by omega, by omega⟩ (fun H locs hP hS => ?_)
  refine lv_aload_n hx hb dL_law_1438 rfl (lv_at hl 2 rfl) ?_
  refine lv_aload_n hx hb dL_law_1439 rfl (lv_at hl 0 rfl) ?_
  refine lv_iload hx hb dL_law_1440 (lv_at hl 4 rfl) ?_
  refine lv_iconst (v := 1) hx hb dL_law_1442 (by decide) ?_
  refine lv_iadd hx hb dL_law_1443 ?_
  refine va_sld hx hb hXs hbl hbA hS (lw_in (k := 1) hL hi (by decide)) dL_law_1444 ?_
  refine lw_callM (as := [.int (xs (nI (6 * i) + 1).toNatClampNeg)]) (st := [.int r]) hh wvL_168 rfl (kX12_checked hEM fl (xs (nI (6 * i) + 1).toNatClampNeg) σM e2) rfl (by decide) (Nat.le_of_ble_eq_true rfl) rfl rfl dL_law_1445 hP hS hl.1 ⟨by omega, by omega⟩ (fun H locs hP hS => ?_)
  refine lv_icmp_eq (tgt := 1753) hx hb dL_law_1448 (by decide) (fun _ => ?_) (fun c9 => absurd rfl c9)
  exact K τX τM fo H locs cells slots ls hP hI hS (by omega) (by omega) hl
set_option maxRecDepth 100000 in
theorem lc34 (hh : lwH l p s m meth c b L xs dC dI adX adM caX caM qo co XX XM) (hL : L ≤ 3072) (hi : 6 * i + 6 ≤ L) (hi5 : i < 512) (hB : opB34 Inv) (hI0 : Inv i σX σM) (hP : lwW dC dI adX adM caX caM qo co σX σM fo H) (hS : va_S (fun q => s.heap.size ≤ q) s.heap H locs) (hc1 : cells ≤ 1000 * (i + 1)) (hc2 : slots ≤ 100000 + 1000 * i) (hl : lv_has ls 7 [(0, .ref b), (1, .ref (adX 0)), (2, .ref (adM 0)), (3, .ref qo), (4, .int (nI (6 * i)))]) (K : ∀ (τX τM : gM) (fo : Nat → Int64) (H : Heap) (locs : List Loc) (cells slots : Nat) (ls : Array Slot), lwW dC dI adX adM caX caM qo co τX τM fo H → Inv (i + 1) τX τM → va_S (fun q => s.heap.size ≤ q) s.heap H locs → cells ≤ 1000 * (i + 2) → slots ≤ 100000 + 1000 * (i + 1) → lv_has ls 7 [(0, .ref b), (1, .ref (adX 0)), (2, .ref (adM 0)), (3, .ref qo), (4, .int (nI (6 * i)))] → W p l e room_1 s m #[Value.ref b] below meth c H locs cells slots Q (F0 m 1753 ls [])) : W p l e room_1 s m #[Value.ref b] below meth c H locs cells slots Q (F0 m 1453 ls []) := by
  obtain ⟨hat, hKX, hKM, hKo, hEX, hEM, hXX, hXM, hD⟩ := id hh
  obtain ⟨hx, hb, hr, hml, hown, hts, hXs, hbl, hlocks, hgv⟩ := id hat
  have hbA : ¬ (fun q : Nat => s.heap.size ≤ q) b := Nat.not_le.mpr hbl
  obtain ⟨r, τX, τM, e1, e2, hI⟩ := hB i σX σM  hi5 hI0
  refine lv_aload_n hx hb dL_law_1453 rfl (lv_at hl 1 rfl) ?_
  refine lw_callX (as := []) (st := []) hh wvL_169 rfl (kX11_equal hEX fl σX e1) rfl (by decide) (Nat.le_of_ble_eq_true rfl) rfl rfl dL_law_1454 hP hS hl.1 ⟨by omega, by omega⟩ (fun H locs hP hS => ?_)
  refine lv_aload_n hx hb dL_law_1457 rfl (lv_at hl 2 rfl) ?_
  refine lw_callM (as := []) (st := [.int r]) hh wvL_172 rfl (kX12_equal hEM fl σM e2) rfl (by decide) (Nat.le_of_ble_eq_true rfl) rfl rfl dL_law_1458 hP hS hl.1 ⟨by omega, by omega⟩ (fun H locs hP hS => ?_)
  refine lv_icmp_eq (tgt := 1753) hx hb dL_law_1461 (by decide) (fun _ => ?_) (fun c9 => absurd rfl c9)
  exact K τX τM fo H locs cells slots ls hP hI hS (by omega) (by omega) hl
set_option maxRecDepth 100000 in
theorem lc35 (hh : lwH l p s m meth c b L xs dC dI adX adM caX caM qo co XX XM) (hL : L ≤ 3072) (hi : 6 * i + 6 ≤ L) (hi5 : i < 512) (hB : opB35 Inv) (hI0 : Inv i σX σM) (hP : lwW dC dI adX adM caX caM qo co σX σM fo H) (hS : va_S (fun q => s.heap.size ≤ q) s.heap H locs) (hc1 : cells ≤ 1000 * (i + 1)) (hc2 : slots ≤ 100000 + 1000 * i) (hl : lv_has ls 7 [(0, .ref b), (1, .ref (adX 0)), (2, .ref (adM 0)), (3, .ref qo), (4, .int (nI (6 * i)))]) (K : ∀ (τX τM : gM) (fo : Nat → Int64) (H : Heap) (locs : List Loc) (cells slots : Nat) (ls : Array Slot), lwW dC dI adX adM caX caM qo co τX τM fo H → Inv (i + 1) τX τM → va_S (fun q => s.heap.size ≤ q) s.heap H locs → cells ≤ 1000 * (i + 2) → slots ≤ 100000 + 1000 * (i + 1) → lv_has ls 7 [(0, .ref b), (1, .ref (adX 0)), (2, .ref (adM 0)), (3, .ref qo), (4, .int (nI (6 * i)))] → W p l e room_1 s m #[Value.ref b] below meth c H locs cells slots Q (F0 m 1753 ls [])) : W p l e room_1 s m #[Value.ref b] below meth c H locs cells slots Q (F0 m 1466 ls []) := by
  obtain ⟨hat, hKX, hKM, hKo, hEX, hEM, hXX, hXM, hD⟩ := id hh
  obtain ⟨hx, hb, hr, hml, hown, hts, hXs, hbl, hlocks, hgv⟩ := id hat
  have hbA : ¬ (fun q : Nat => s.heap.size ≤ q) b := Nat.not_le.mpr hbl
  obtain ⟨r, τX, τM, e1, e2, hI⟩ := hB i σX σM (xs (nI (6 * i) + 1).toNatClampNeg) hi5 hI0
  refine lv_aload_n hx hb dL_law_1466 rfl (lv_at hl 1 rfl) ?_
  refine lv_aload_n hx hb dL_law_1467 rfl (lv_at hl 0 rfl) ?_
  refine lv_iload hx hb dL_law_1468 (lv_at hl 4 rfl) ?_
  refine lv_iconst (v := 1) hx hb dL_law_1470 (by decide) ?_
  refine lv_iadd hx hb dL_law_1471 ?_
  refine va_sld hx hb hXs hbl hbA hS (lw_in (k := 1) hL hi (by decide)) dL_law_1472 ?_
  refine lw_callX (as := [.int (xs (nI (6 * i) + 1).toNatClampNeg)]) (st := []) hh wvL_173 rfl (kX11_span hEX fl (xs (nI (6 * i) + 1).toNatClampNeg) σX e1) rfl (by decide) (Nat.le_of_ble_eq_true rfl) rfl rfl dL_law_1473 hP hS hl.1 ⟨by omega, by omega⟩ (fun H locs hP hS => ?_)
  refine lv_aload_n hx hb dL_law_1476 rfl (lv_at hl 2 rfl) ?_
  refine lv_aload_n hx hb dL_law_1477 rfl (lv_at hl 0 rfl) ?_
  refine lv_iload hx hb dL_law_1478 (lv_at hl 4 rfl) ?_
  refine lv_iconst (v := 1) hx hb dL_law_1480 (by decide) ?_
  refine lv_iadd hx hb dL_law_1481 ?_
  refine va_sld hx hb hXs hbl hbA hS (lw_in (k := 1) hL hi (by decide)) dL_law_1482 ?_
  refine lw_callM (as := [.int (xs (nI (6 * i) + 1).toNatClampNeg)]) (st := [.int r]) hh wvL_176 rfl (kX12_span hEM fl (xs (nI (6 * i) + 1).toNatClampNeg) σM e2) rfl (by decide) (Nat.le_of_ble_eq_true rfl) rfl rfl dL_law_1483 hP hS hl.1 ⟨by omega, by omega⟩ (fun H locs hP hS => ?_)
  refine lv_icmp_eq (tgt := 1753) hx hb dL_law_1486 (by decide) (fun _ => ?_) (fun c9 => absurd rfl c9)
  exact K τX τM fo H locs cells slots ls hP hI hS (by omega) (by omega) hl
set_option maxRecDepth 100000 in
theorem lc36 (hh : lwH l p s m meth c b L xs dC dI adX adM caX caM qo co XX XM) (hL : L ≤ 3072) (hi : 6 * i + 6 ≤ L) (hi5 : i < 512) (hB : opB36 Inv) (hI0 : Inv i σX σM) (hP : lwW dC dI adX adM caX caM qo co σX σM fo H) (hS : va_S (fun q => s.heap.size ≤ q) s.heap H locs) (hc1 : cells ≤ 1000 * (i + 1)) (hc2 : slots ≤ 100000 + 1000 * i) (hl : lv_has ls 7 [(0, .ref b), (1, .ref (adX 0)), (2, .ref (adM 0)), (3, .ref qo), (4, .int (nI (6 * i)))]) (K : ∀ (τX τM : gM) (fo : Nat → Int64) (H : Heap) (locs : List Loc) (cells slots : Nat) (ls : Array Slot), lwW dC dI adX adM caX caM qo co τX τM fo H → Inv (i + 1) τX τM → va_S (fun q => s.heap.size ≤ q) s.heap H locs → cells ≤ 1000 * (i + 2) → slots ≤ 100000 + 1000 * (i + 1) → lv_has ls 7 [(0, .ref b), (1, .ref (adX 0)), (2, .ref (adM 0)), (3, .ref qo), (4, .int (nI (6 * i)))] → W p l e room_1 s m #[Value.ref b] below meth c H locs cells slots Q (F0 m 1753 ls [])) : W p l e room_1 s m #[Value.ref b] below meth c H locs cells slots Q (F0 m 1491 ls []) := by
  obtain ⟨hat, hKX, hKM, hKo, hEX, hEM, hXX, hXM, hD⟩ := id hh
  obtain ⟨hx, hb, hr, hml, hown, hts, hXs, hbl, hlocks, hgv⟩ := id hat
  have hbA : ¬ (fun q : Nat => s.heap.size ≤ q) b := Nat.not_le.mpr hbl
  obtain ⟨r, τX, τM, e1, e2, hI⟩ := hB i σX σM  hi5 hI0
  refine lv_aload_n hx hb dL_law_1491 rfl (lv_at hl 1 rfl) ?_
  refine lw_callX (as := []) (st := []) hh wvL_177 rfl (kX11_risk hEX fl σX e1) rfl (by decide) (Nat.le_of_ble_eq_true rfl) rfl rfl dL_law_1492 hP hS hl.1 ⟨by omega, by omega⟩ (fun H locs hP hS => ?_)
  refine lv_aload_n hx hb dL_law_1495 rfl (lv_at hl 2 rfl) ?_
  refine lw_callM (as := []) (st := [.int r]) hh wvL_180 rfl (kX12_risk hEM fl σM e2) rfl (by decide) (Nat.le_of_ble_eq_true rfl) rfl rfl dL_law_1496 hP hS hl.1 ⟨by omega, by omega⟩ (fun H locs hP hS => ?_)
  refine lv_icmp_eq (tgt := 1753) hx hb dL_law_1499 (by decide) (fun _ => ?_) (fun c9 => absurd rfl c9)
  exact K τX τM fo H locs cells slots ls hP hI hS (by omega) (by omega) hl
set_option maxRecDepth 100000 in
theorem lc37 (hh : lwH l p s m meth c b L xs dC dI adX adM caX caM qo co XX XM) (hL : L ≤ 3072) (hi : 6 * i + 6 ≤ L) (hi5 : i < 512) (hB : opB37 Inv) (hI0 : Inv i σX σM) (hP : lwW dC dI adX adM caX caM qo co σX σM fo H) (hS : va_S (fun q => s.heap.size ≤ q) s.heap H locs) (hc1 : cells ≤ 1000 * (i + 1)) (hc2 : slots ≤ 100000 + 1000 * i) (hl : lv_has ls 7 [(0, .ref b), (1, .ref (adX 0)), (2, .ref (adM 0)), (3, .ref qo), (4, .int (nI (6 * i)))]) (K : ∀ (τX τM : gM) (fo : Nat → Int64) (H : Heap) (locs : List Loc) (cells slots : Nat) (ls : Array Slot), lwW dC dI adX adM caX caM qo co τX τM fo H → Inv (i + 1) τX τM → va_S (fun q => s.heap.size ≤ q) s.heap H locs → cells ≤ 1000 * (i + 2) → slots ≤ 100000 + 1000 * (i + 1) → lv_has ls 7 [(0, .ref b), (1, .ref (adX 0)), (2, .ref (adM 0)), (3, .ref qo), (4, .int (nI (6 * i)))] → W p l e room_1 s m #[Value.ref b] below meth c H locs cells slots Q (F0 m 1753 ls [])) : W p l e room_1 s m #[Value.ref b] below meth c H locs cells slots Q (F0 m 1504 ls []) := by
  obtain ⟨hat, hKX, hKM, hKo, hEX, hEM, hXX, hXM, hD⟩ := id hh
  obtain ⟨hx, hb, hr, hml, hown, hts, hXs, hbl, hlocks, hgv⟩ := id hat
  have hbA : ¬ (fun q : Nat => s.heap.size ≤ q) b := Nat.not_le.mpr hbl
  obtain ⟨r, τX, τM, e1, e2, hI⟩ := hB i σX σM (xs (nI (6 * i) + 1).toNatClampNeg) hi5 hI0
  refine lv_aload_n hx hb dL_law_1504 rfl (lv_at hl 1 rfl) ?_
  refine lv_aload_n hx hb dL_law_1505 rfl (lv_at hl 0 rfl) ?_
  refine lv_iload hx hb dL_law_1506 (lv_at hl 4 rfl) ?_
  refine lv_iconst (v := 1) hx hb dL_law_1508 (by decide) ?_
  refine lv_iadd hx hb dL_law_1509 ?_
  refine va_sld hx hb hXs hbl hbA hS (lw_in (k := 1) hL hi (by decide)) dL_law_1510 ?_
  refine lw_callX (as := [.int (xs (nI (6 * i) + 1).toNatClampNeg)]) (st := []) hh wvL_181 rfl (kX11_first hEX fl (xs (nI (6 * i) + 1).toNatClampNeg) σX e1) rfl (by decide) (Nat.le_of_ble_eq_true rfl) rfl rfl dL_law_1511 hP hS hl.1 ⟨by omega, by omega⟩ (fun H locs hP hS => ?_)
  refine lv_aload_n hx hb dL_law_1514 rfl (lv_at hl 2 rfl) ?_
  refine lv_aload_n hx hb dL_law_1515 rfl (lv_at hl 0 rfl) ?_
  refine lv_iload hx hb dL_law_1516 (lv_at hl 4 rfl) ?_
  refine lv_iconst (v := 1) hx hb dL_law_1518 (by decide) ?_
  refine lv_iadd hx hb dL_law_1519 ?_
  refine va_sld hx hb hXs hbl hbA hS (lw_in (k := 1) hL hi (by decide)) dL_law_1520 ?_
  refine lw_callM (as := [.int (xs (nI (6 * i) + 1).toNatClampNeg)]) (st := [.int r]) hh wvL_184 rfl (kX12_first hEM fl (xs (nI (6 * i) + 1).toNatClampNeg) σM e2) rfl (by decide) (Nat.le_of_ble_eq_true rfl) rfl rfl dL_law_1521 hP hS hl.1 ⟨by omega, by omega⟩ (fun H locs hP hS => ?_)
  refine lv_icmp_eq (tgt := 1753) hx hb dL_law_1524 (by decide) (fun _ => ?_) (fun c9 => absurd rfl c9)
  exact K τX τM fo H locs cells slots ls hP hI hS (by omega) (by omega) hl
set_option maxRecDepth 100000 in
theorem lc38 (hh : lwH l p s m meth c b L xs dC dI adX adM caX caM qo co XX XM) (hL : L ≤ 3072) (hi : 6 * i + 6 ≤ L) (hi5 : i < 512) (hB : opB38 Inv) (hI0 : Inv i σX σM) (hP : lwW dC dI adX adM caX caM qo co σX σM fo H) (hS : va_S (fun q => s.heap.size ≤ q) s.heap H locs) (hc1 : cells ≤ 1000 * (i + 1)) (hc2 : slots ≤ 100000 + 1000 * i) (hl : lv_has ls 7 [(0, .ref b), (1, .ref (adX 0)), (2, .ref (adM 0)), (3, .ref qo), (4, .int (nI (6 * i)))]) (K : ∀ (τX τM : gM) (fo : Nat → Int64) (H : Heap) (locs : List Loc) (cells slots : Nat) (ls : Array Slot), lwW dC dI adX adM caX caM qo co τX τM fo H → Inv (i + 1) τX τM → va_S (fun q => s.heap.size ≤ q) s.heap H locs → cells ≤ 1000 * (i + 2) → slots ≤ 100000 + 1000 * (i + 1) → lv_has ls 7 [(0, .ref b), (1, .ref (adX 0)), (2, .ref (adM 0)), (3, .ref qo), (4, .int (nI (6 * i)))] → W p l e room_1 s m #[Value.ref b] below meth c H locs cells slots Q (F0 m 1753 ls [])) : W p l e room_1 s m #[Value.ref b] below meth c H locs cells slots Q (F0 m 1529 ls []) := by
  obtain ⟨hat, hKX, hKM, hKo, hEX, hEM, hXX, hXM, hD⟩ := id hh
  obtain ⟨hx, hb, hr, hml, hown, hts, hXs, hbl, hlocks, hgv⟩ := id hat
  have hbA : ¬ (fun q : Nat => s.heap.size ≤ q) b := Nat.not_le.mpr hbl
  obtain ⟨r, τX, τM, e1, e2, hI⟩ := hB i σX σM (xs (nI (6 * i) + 1).toNatClampNeg) (xs (nI (6 * i) + 2).toNatClampNeg) hi5 hI0
  refine lv_aload_n hx hb dL_law_1529 rfl (lv_at hl 1 rfl) ?_
  refine lv_aload_n hx hb dL_law_1530 rfl (lv_at hl 0 rfl) ?_
  refine lv_iload hx hb dL_law_1531 (lv_at hl 4 rfl) ?_
  refine lv_iconst (v := 1) hx hb dL_law_1533 (by decide) ?_
  refine lv_iadd hx hb dL_law_1534 ?_
  refine va_sld hx hb hXs hbl hbA hS (lw_in (k := 1) hL hi (by decide)) dL_law_1535 ?_
  refine lv_aload_n hx hb dL_law_1536 rfl (lv_at hl 0 rfl) ?_
  refine lv_iload hx hb dL_law_1537 (lv_at hl 4 rfl) ?_
  refine lv_iconst (v := 2) hx hb dL_law_1539 (by decide) ?_
  refine lv_iadd hx hb dL_law_1540 ?_
  refine va_sld hx hb hXs hbl hbA hS (lw_in (k := 2) hL hi (by decide)) dL_law_1541 ?_
  refine lw_callX (as := [.int (xs (nI (6 * i) + 1).toNatClampNeg), .int (xs (nI (6 * i) + 2).toNatClampNeg)]) (st := []) hh wvL_185 rfl (kX11_votes hEX fl (xs (nI (6 * i) + 1).toNatClampNeg) (xs (nI (6 * i) + 2).toNatClampNeg) σX e1) rfl (by decide) (Nat.le_of_ble_eq_true rfl) rfl rfl dL_law_1542 hP hS hl.1 ⟨by omega, by omega⟩ (fun H locs hP hS => ?_)
  refine lv_aload_n hx hb dL_law_1545 rfl (lv_at hl 2 rfl) ?_
  refine lv_aload_n hx hb dL_law_1546 rfl (lv_at hl 0 rfl) ?_
  refine lv_iload hx hb dL_law_1547 (lv_at hl 4 rfl) ?_
  refine lv_iconst (v := 1) hx hb dL_law_1549 (by decide) ?_
  refine lv_iadd hx hb dL_law_1550 ?_
  refine va_sld hx hb hXs hbl hbA hS (lw_in (k := 1) hL hi (by decide)) dL_law_1551 ?_
  refine lv_aload_n hx hb dL_law_1552 rfl (lv_at hl 0 rfl) ?_
  refine lv_iload hx hb dL_law_1553 (lv_at hl 4 rfl) ?_
  refine lv_iconst (v := 2) hx hb dL_law_1555 (by decide) ?_
  refine lv_iadd hx hb dL_law_1556 ?_
  refine va_sld hx hb hXs hbl hbA hS (lw_in (k := 2) hL hi (by decide)) dL_law_1557 ?_
  refine lw_callM (as := [.int (xs (nI (6 * i) + 1).toNatClampNeg), .int (xs (nI (6 * i) + 2).toNatClampNeg)]) (st := [.int r]) hh wvL_188 rfl (kX12_votes hEM fl (xs (nI (6 * i) + 1).toNatClampNeg) (xs (nI (6 * i) + 2).toNatClampNeg) σM e2) rfl (by decide) (Nat.le_of_ble_eq_true rfl) rfl rfl dL_law_1558 hP hS hl.1 ⟨by omega, by omega⟩ (fun H locs hP hS => ?_)
  refine lv_icmp_eq (tgt := 1753) hx hb dL_law_1561 (by decide) (fun _ => ?_) (fun c9 => absurd rfl c9)
  exact K τX τM fo H locs cells slots ls hP hI hS (by omega) (by omega) hl
set_option maxRecDepth 100000 in
theorem lc39 (hh : lwH l p s m meth c b L xs dC dI adX adM caX caM qo co XX XM) (hL : L ≤ 3072) (hi : 6 * i + 6 ≤ L) (hi5 : i < 512) (hB : opB39 Inv) (hI0 : Inv i σX σM) (hP : lwW dC dI adX adM caX caM qo co σX σM fo H) (hS : va_S (fun q => s.heap.size ≤ q) s.heap H locs) (hc1 : cells ≤ 1000 * (i + 1)) (hc2 : slots ≤ 100000 + 1000 * i) (hl : lv_has ls 7 [(0, .ref b), (1, .ref (adX 0)), (2, .ref (adM 0)), (3, .ref qo), (4, .int (nI (6 * i)))]) (K : ∀ (τX τM : gM) (fo : Nat → Int64) (H : Heap) (locs : List Loc) (cells slots : Nat) (ls : Array Slot), lwW dC dI adX adM caX caM qo co τX τM fo H → Inv (i + 1) τX τM → va_S (fun q => s.heap.size ≤ q) s.heap H locs → cells ≤ 1000 * (i + 2) → slots ≤ 100000 + 1000 * (i + 1) → lv_has ls 7 [(0, .ref b), (1, .ref (adX 0)), (2, .ref (adM 0)), (3, .ref qo), (4, .int (nI (6 * i)))] → W p l e room_1 s m #[Value.ref b] below meth c H locs cells slots Q (F0 m 1753 ls [])) : W p l e room_1 s m #[Value.ref b] below meth c H locs cells slots Q (F0 m 1566 ls []) := by
  obtain ⟨hat, hKX, hKM, hKo, hEX, hEM, hXX, hXM, hD⟩ := id hh
  obtain ⟨hx, hb, hr, hml, hown, hts, hXs, hbl, hlocks, hgv⟩ := id hat
  have hbA : ¬ (fun q : Nat => s.heap.size ≤ q) b := Nat.not_le.mpr hbl
  obtain ⟨r, τX, τM, e1, e2, hI⟩ := hB i σX σM (xs (nI (6 * i) + 1).toNatClampNeg) (xs (nI (6 * i) + 2).toNatClampNeg) (xs (nI (6 * i) + 3).toNatClampNeg) hi5 hI0
  refine lv_aload_n hx hb dL_law_1566 rfl (lv_at hl 1 rfl) ?_
  refine lv_aload_n hx hb dL_law_1567 rfl (lv_at hl 0 rfl) ?_
  refine lv_iload hx hb dL_law_1568 (lv_at hl 4 rfl) ?_
  refine lv_iconst (v := 1) hx hb dL_law_1570 (by decide) ?_
  refine lv_iadd hx hb dL_law_1571 ?_
  refine va_sld hx hb hXs hbl hbA hS (lw_in (k := 1) hL hi (by decide)) dL_law_1572 ?_
  refine lv_aload_n hx hb dL_law_1573 rfl (lv_at hl 0 rfl) ?_
  refine lv_iload hx hb dL_law_1574 (lv_at hl 4 rfl) ?_
  refine lv_iconst (v := 2) hx hb dL_law_1576 (by decide) ?_
  refine lv_iadd hx hb dL_law_1577 ?_
  refine va_sld hx hb hXs hbl hbA hS (lw_in (k := 2) hL hi (by decide)) dL_law_1578 ?_
  refine lv_aload_n hx hb dL_law_1579 rfl (lv_at hl 0 rfl) ?_
  refine lv_iload hx hb dL_law_1580 (lv_at hl 4 rfl) ?_
  refine lv_iconst (v := 3) hx hb dL_law_1582 (by decide) ?_
  refine lv_iadd hx hb dL_law_1583 ?_
  refine va_sld hx hb hXs hbl hbA hS (lw_in (k := 3) hL hi (by decide)) dL_law_1584 ?_
  refine lw_callX (as := [.int (xs (nI (6 * i) + 1).toNatClampNeg), .int (xs (nI (6 * i) + 2).toNatClampNeg), .int (xs (nI (6 * i) + 3).toNatClampNeg)]) (st := []) hh wvL_189 rfl (kX11_step hEX (xs (nI (6 * i) + 1).toNatClampNeg) (xs (nI (6 * i) + 2).toNatClampNeg) (xs (nI (6 * i) + 3).toNatClampNeg) σX e1) rfl (by decide) (Nat.le_of_ble_eq_true rfl) rfl rfl dL_law_1585 hP hS hl.1 ⟨by omega, by omega⟩ (fun H locs hP hS => ?_)
  refine lv_aload_n hx hb dL_law_1588 rfl (lv_at hl 2 rfl) ?_
  refine lv_aload_n hx hb dL_law_1589 rfl (lv_at hl 0 rfl) ?_
  refine lv_iload hx hb dL_law_1590 (lv_at hl 4 rfl) ?_
  refine lv_iconst (v := 1) hx hb dL_law_1592 (by decide) ?_
  refine lv_iadd hx hb dL_law_1593 ?_
  refine va_sld hx hb hXs hbl hbA hS (lw_in (k := 1) hL hi (by decide)) dL_law_1594 ?_
  refine lv_aload_n hx hb dL_law_1595 rfl (lv_at hl 0 rfl) ?_
  refine lv_iload hx hb dL_law_1596 (lv_at hl 4 rfl) ?_
  refine lv_iconst (v := 2) hx hb dL_law_1598 (by decide) ?_
  refine lv_iadd hx hb dL_law_1599 ?_
  refine va_sld hx hb hXs hbl hbA hS (lw_in (k := 2) hL hi (by decide)) dL_law_1600 ?_
  refine lv_aload_n hx hb dL_law_1601 rfl (lv_at hl 0 rfl) ?_
  refine lv_iload hx hb dL_law_1602 (lv_at hl 4 rfl) ?_
  refine lv_iconst (v := 3) hx hb dL_law_1604 (by decide) ?_
  refine lv_iadd hx hb dL_law_1605 ?_
  refine va_sld hx hb hXs hbl hbA hS (lw_in (k := 3) hL hi (by decide)) dL_law_1606 ?_
  refine lw_callM (as := [.int (xs (nI (6 * i) + 1).toNatClampNeg), .int (xs (nI (6 * i) + 2).toNatClampNeg), .int (xs (nI (6 * i) + 3).toNatClampNeg)]) (st := [.int r]) hh wvL_192 rfl (kX12_step hEM (xs (nI (6 * i) + 1).toNatClampNeg) (xs (nI (6 * i) + 2).toNatClampNeg) (xs (nI (6 * i) + 3).toNatClampNeg) σM e2) rfl (by decide) (Nat.le_of_ble_eq_true rfl) rfl rfl dL_law_1607 hP hS hl.1 ⟨by omega, by omega⟩ (fun H locs hP hS => ?_)
  refine lv_icmp_eq (tgt := 1753) hx hb dL_law_1610 (by decide) (fun _ => ?_) (fun c9 => absurd rfl c9)
  exact K τX τM fo H locs cells slots ls hP hI hS (by omega) (by omega) hl
set_option maxRecDepth 100000 in
theorem lc40 (hh : lwH l p s m meth c b L xs dC dI adX adM caX caM qo co XX XM) (hL : L ≤ 3072) (hi : 6 * i + 6 ≤ L) (hi5 : i < 512) (hB : opB40 Inv) (hI0 : Inv i σX σM) (hP : lwW dC dI adX adM caX caM qo co σX σM fo H) (hS : va_S (fun q => s.heap.size ≤ q) s.heap H locs) (hc1 : cells ≤ 1000 * (i + 1)) (hc2 : slots ≤ 100000 + 1000 * i) (hl : lv_has ls 7 [(0, .ref b), (1, .ref (adX 0)), (2, .ref (adM 0)), (3, .ref qo), (4, .int (nI (6 * i)))]) (K : ∀ (τX τM : gM) (fo : Nat → Int64) (H : Heap) (locs : List Loc) (cells slots : Nat) (ls : Array Slot), lwW dC dI adX adM caX caM qo co τX τM fo H → Inv (i + 1) τX τM → va_S (fun q => s.heap.size ≤ q) s.heap H locs → cells ≤ 1000 * (i + 2) → slots ≤ 100000 + 1000 * (i + 1) → lv_has ls 7 [(0, .ref b), (1, .ref (adX 0)), (2, .ref (adM 0)), (3, .ref qo), (4, .int (nI (6 * i)))] → W p l e room_1 s m #[Value.ref b] below meth c H locs cells slots Q (F0 m 1753 ls [])) : W p l e room_1 s m #[Value.ref b] below meth c H locs cells slots Q (F0 m 1615 ls []) := by
  obtain ⟨hat, hKX, hKM, hKo, hEX, hEM, hXX, hXM, hD⟩ := id hh
  obtain ⟨hx, hb, hr, hml, hown, hts, hXs, hbl, hlocks, hgv⟩ := id hat
  have hbA : ¬ (fun q : Nat => s.heap.size ≤ q) b := Nat.not_le.mpr hbl
  obtain ⟨r, τX, τM, e1, e2, hI⟩ := hB i σX σM (xs (nI (6 * i) + 1).toNatClampNeg) (xs (nI (6 * i) + 2).toNatClampNeg) hi5 hI0
  refine lv_aload_n hx hb dL_law_1615 rfl (lv_at hl 1 rfl) ?_
  refine lv_aload_n hx hb dL_law_1616 rfl (lv_at hl 0 rfl) ?_
  refine lv_iload hx hb dL_law_1617 (lv_at hl 4 rfl) ?_
  refine lv_iconst (v := 1) hx hb dL_law_1619 (by decide) ?_
  refine lv_iadd hx hb dL_law_1620 ?_
  refine va_sld hx hb hXs hbl hbA hS (lw_in (k := 1) hL hi (by decide)) dL_law_1621 ?_
  refine lv_aload_n hx hb dL_law_1622 rfl (lv_at hl 0 rfl) ?_
  refine lv_iload hx hb dL_law_1623 (lv_at hl 4 rfl) ?_
  refine lv_iconst (v := 2) hx hb dL_law_1625 (by decide) ?_
  refine lv_iadd hx hb dL_law_1626 ?_
  refine va_sld hx hb hXs hbl hbA hS (lw_in (k := 2) hL hi (by decide)) dL_law_1627 ?_
  refine lw_callX (as := [.int (xs (nI (6 * i) + 1).toNatClampNeg), .int (xs (nI (6 * i) + 2).toNatClampNeg)]) (st := []) hh wvL_193 rfl (kX11_run hEX fl (xs (nI (6 * i) + 1).toNatClampNeg) (xs (nI (6 * i) + 2).toNatClampNeg) σX e1) rfl (by decide) (Nat.le_of_ble_eq_true rfl) rfl rfl dL_law_1628 hP hS hl.1 ⟨by omega, by omega⟩ (fun H locs hP hS => ?_)
  refine lv_aload_n hx hb dL_law_1631 rfl (lv_at hl 2 rfl) ?_
  refine lv_aload_n hx hb dL_law_1632 rfl (lv_at hl 0 rfl) ?_
  refine lv_iload hx hb dL_law_1633 (lv_at hl 4 rfl) ?_
  refine lv_iconst (v := 1) hx hb dL_law_1635 (by decide) ?_
  refine lv_iadd hx hb dL_law_1636 ?_
  refine va_sld hx hb hXs hbl hbA hS (lw_in (k := 1) hL hi (by decide)) dL_law_1637 ?_
  refine lv_aload_n hx hb dL_law_1638 rfl (lv_at hl 0 rfl) ?_
  refine lv_iload hx hb dL_law_1639 (lv_at hl 4 rfl) ?_
  refine lv_iconst (v := 2) hx hb dL_law_1641 (by decide) ?_
  refine lv_iadd hx hb dL_law_1642 ?_
  refine va_sld hx hb hXs hbl hbA hS (lw_in (k := 2) hL hi (by decide)) dL_law_1643 ?_
  refine lw_callM (as := [.int (xs (nI (6 * i) + 1).toNatClampNeg), .int (xs (nI (6 * i) + 2).toNatClampNeg)]) (st := [.int r]) hh wvL_196 rfl (kX12_run hEM fl (xs (nI (6 * i) + 1).toNatClampNeg) (xs (nI (6 * i) + 2).toNatClampNeg) σM e2) rfl (by decide) (Nat.le_of_ble_eq_true rfl) rfl rfl dL_law_1644 hP hS hl.1 ⟨by omega, by omega⟩ (fun H locs hP hS => ?_)
  refine lv_icmp_eq (tgt := 1753) hx hb dL_law_1647 (by decide) (fun _ => ?_) (fun c9 => absurd rfl c9)
  exact K τX τM fo H locs cells slots ls hP hI hS (by omega) (by omega) hl
set_option maxRecDepth 100000 in
theorem lc41 (hh : lwH l p s m meth c b L xs dC dI adX adM caX caM qo co XX XM) (hL : L ≤ 3072) (hi : 6 * i + 6 ≤ L) (hi5 : i < 512) (hB : opB41 Inv) (hI0 : Inv i σX σM) (hP : lwW dC dI adX adM caX caM qo co σX σM fo H) (hS : va_S (fun q => s.heap.size ≤ q) s.heap H locs) (hc1 : cells ≤ 1000 * (i + 1)) (hc2 : slots ≤ 100000 + 1000 * i) (hl : lv_has ls 7 [(0, .ref b), (1, .ref (adX 0)), (2, .ref (adM 0)), (3, .ref qo), (4, .int (nI (6 * i)))]) (K : ∀ (τX τM : gM) (fo : Nat → Int64) (H : Heap) (locs : List Loc) (cells slots : Nat) (ls : Array Slot), lwW dC dI adX adM caX caM qo co τX τM fo H → Inv (i + 1) τX τM → va_S (fun q => s.heap.size ≤ q) s.heap H locs → cells ≤ 1000 * (i + 2) → slots ≤ 100000 + 1000 * (i + 1) → lv_has ls 7 [(0, .ref b), (1, .ref (adX 0)), (2, .ref (adM 0)), (3, .ref qo), (4, .int (nI (6 * i)))] → W p l e room_1 s m #[Value.ref b] below meth c H locs cells slots Q (F0 m 1753 ls [])) : W p l e room_1 s m #[Value.ref b] below meth c H locs cells slots Q (F0 m 1652 ls []) := by
  obtain ⟨hat, hKX, hKM, hKo, hEX, hEM, hXX, hXM, hD⟩ := id hh
  obtain ⟨hx, hb, hr, hml, hown, hts, hXs, hbl, hlocks, hgv⟩ := id hat
  have hbA : ¬ (fun q : Nat => s.heap.size ≤ q) b := Nat.not_le.mpr hbl
  obtain ⟨r, τX, τM, e1, e2, hI⟩ := hB i σX σM (xs (nI (6 * i) + 1).toNatClampNeg) hi5 hI0
  refine lv_aload_n hx hb dL_law_1652 rfl (lv_at hl 1 rfl) ?_
  refine lv_aload_n hx hb dL_law_1653 rfl (lv_at hl 0 rfl) ?_
  refine lv_iload hx hb dL_law_1654 (lv_at hl 4 rfl) ?_
  refine lv_iconst (v := 1) hx hb dL_law_1656 (by decide) ?_
  refine lv_iadd hx hb dL_law_1657 ?_
  refine va_sld hx hb hXs hbl hbA hS (lw_in (k := 1) hL hi (by decide)) dL_law_1658 ?_
  refine lw_callX (as := [.int (xs (nI (6 * i) + 1).toNatClampNeg)]) (st := []) hh wvL_197 rfl (kX11_perform hEX fl (xs (nI (6 * i) + 1).toNatClampNeg) σX e1) rfl (by decide) (Nat.le_of_ble_eq_true rfl) rfl rfl dL_law_1659 hP hS hl.1 ⟨by omega, by omega⟩ (fun H locs hP hS => ?_)
  refine lv_aload_n hx hb dL_law_1662 rfl (lv_at hl 2 rfl) ?_
  refine lv_aload_n hx hb dL_law_1663 rfl (lv_at hl 0 rfl) ?_
  refine lv_iload hx hb dL_law_1664 (lv_at hl 4 rfl) ?_
  refine lv_iconst (v := 1) hx hb dL_law_1666 (by decide) ?_
  refine lv_iadd hx hb dL_law_1667 ?_
  refine va_sld hx hb hXs hbl hbA hS (lw_in (k := 1) hL hi (by decide)) dL_law_1668 ?_
  refine lw_callM (as := [.int (xs (nI (6 * i) + 1).toNatClampNeg)]) (st := [.int r]) hh wvL_200 rfl (kX12_perform hEM fl (xs (nI (6 * i) + 1).toNatClampNeg) σM e2) rfl (by decide) (Nat.le_of_ble_eq_true rfl) rfl rfl dL_law_1669 hP hS hl.1 ⟨by omega, by omega⟩ (fun H locs hP hS => ?_)
  refine lv_icmp_eq (tgt := 1753) hx hb dL_law_1672 (by decide) (fun _ => ?_) (fun c9 => absurd rfl c9)
  exact K τX τM fo H locs cells slots ls hP hI hS (by omega) (by omega) hl
set_option maxRecDepth 100000 in
theorem lc42 (hh : lwH l p s m meth c b L xs dC dI adX adM caX caM qo co XX XM) (hL : L ≤ 3072) (hi : 6 * i + 6 ≤ L) (hi5 : i < 512) (hB : opB42 Inv) (hI0 : Inv i σX σM) (hP : lwW dC dI adX adM caX caM qo co σX σM fo H) (hS : va_S (fun q => s.heap.size ≤ q) s.heap H locs) (hc1 : cells ≤ 1000 * (i + 1)) (hc2 : slots ≤ 100000 + 1000 * i) (hl : lv_has ls 7 [(0, .ref b), (1, .ref (adX 0)), (2, .ref (adM 0)), (3, .ref qo), (4, .int (nI (6 * i)))]) (K : ∀ (τX τM : gM) (fo : Nat → Int64) (H : Heap) (locs : List Loc) (cells slots : Nat) (ls : Array Slot), lwW dC dI adX adM caX caM qo co τX τM fo H → Inv (i + 1) τX τM → va_S (fun q => s.heap.size ≤ q) s.heap H locs → cells ≤ 1000 * (i + 2) → slots ≤ 100000 + 1000 * (i + 1) → lv_has ls 7 [(0, .ref b), (1, .ref (adX 0)), (2, .ref (adM 0)), (3, .ref qo), (4, .int (nI (6 * i)))] → W p l e room_1 s m #[Value.ref b] below meth c H locs cells slots Q (F0 m 1753 ls [])) : W p l e room_1 s m #[Value.ref b] below meth c H locs cells slots Q (F0 m 1677 ls []) := by
  obtain ⟨hat, hKX, hKM, hKo, hEX, hEM, hXX, hXM, hD⟩ := id hh
  obtain ⟨hx, hb, hr, hml, hown, hts, hXs, hbl, hlocks, hgv⟩ := id hat
  have hbA : ¬ (fun q : Nat => s.heap.size ≤ q) b := Nat.not_le.mpr hbl
  obtain ⟨r, τX, τM, e1, e2, hI⟩ := hB i σX σM (xs (nI (6 * i) + 1).toNatClampNeg) hi5 hI0
  refine lv_aload_n hx hb dL_law_1677 rfl (lv_at hl 1 rfl) ?_
  refine lv_aload_n hx hb dL_law_1678 rfl (lv_at hl 0 rfl) ?_
  refine lv_iload hx hb dL_law_1679 (lv_at hl 4 rfl) ?_
  refine lv_iconst (v := 1) hx hb dL_law_1681 (by decide) ?_
  refine lv_iadd hx hb dL_law_1682 ?_
  refine va_sld hx hb hXs hbl hbA hS (lw_in (k := 1) hL hi (by decide)) dL_law_1683 ?_
  refine lw_callX (as := [.int (xs (nI (6 * i) + 1).toNatClampNeg)]) (st := []) hh wvL_201 rfl (kX11_most hEX fl (xs (nI (6 * i) + 1).toNatClampNeg) σX e1) rfl (by decide) (Nat.le_of_ble_eq_true rfl) rfl rfl dL_law_1684 hP hS hl.1 ⟨by omega, by omega⟩ (fun H locs hP hS => ?_)
  refine lv_aload_n hx hb dL_law_1687 rfl (lv_at hl 2 rfl) ?_
  refine lv_aload_n hx hb dL_law_1688 rfl (lv_at hl 0 rfl) ?_
  refine lv_iload hx hb dL_law_1689 (lv_at hl 4 rfl) ?_
  refine lv_iconst (v := 1) hx hb dL_law_1691 (by decide) ?_
  refine lv_iadd hx hb dL_law_1692 ?_
  refine va_sld hx hb hXs hbl hbA hS (lw_in (k := 1) hL hi (by decide)) dL_law_1693 ?_
  refine lw_callM (as := [.int (xs (nI (6 * i) + 1).toNatClampNeg)]) (st := [.int r]) hh wvL_204 rfl (kX12_most hEM fl (xs (nI (6 * i) + 1).toNatClampNeg) σM e2) rfl (by decide) (Nat.le_of_ble_eq_true rfl) rfl rfl dL_law_1694 hP hS hl.1 ⟨by omega, by omega⟩ (fun H locs hP hS => ?_)
  refine lv_icmp_eq (tgt := 1753) hx hb dL_law_1697 (by decide) (fun _ => ?_) (fun c9 => absurd rfl c9)
  exact K τX τM fo H locs cells slots ls hP hI hS (by omega) (by omega) hl
set_option maxRecDepth 100000 in
theorem lc43 (hh : lwH l p s m meth c b L xs dC dI adX adM caX caM qo co XX XM) (hL : L ≤ 3072) (hi : 6 * i + 6 ≤ L) (hi5 : i < 512) (hB : opB43 Inv) (hI0 : Inv i σX σM) (hP : lwW dC dI adX adM caX caM qo co σX σM fo H) (hS : va_S (fun q => s.heap.size ≤ q) s.heap H locs) (hc1 : cells ≤ 1000 * (i + 1)) (hc2 : slots ≤ 100000 + 1000 * i) (hl : lv_has ls 7 [(0, .ref b), (1, .ref (adX 0)), (2, .ref (adM 0)), (3, .ref qo), (4, .int (nI (6 * i)))]) (K : ∀ (τX τM : gM) (fo : Nat → Int64) (H : Heap) (locs : List Loc) (cells slots : Nat) (ls : Array Slot), lwW dC dI adX adM caX caM qo co τX τM fo H → Inv (i + 1) τX τM → va_S (fun q => s.heap.size ≤ q) s.heap H locs → cells ≤ 1000 * (i + 2) → slots ≤ 100000 + 1000 * (i + 1) → lv_has ls 7 [(0, .ref b), (1, .ref (adX 0)), (2, .ref (adM 0)), (3, .ref qo), (4, .int (nI (6 * i)))] → W p l e room_1 s m #[Value.ref b] below meth c H locs cells slots Q (F0 m 1753 ls [])) : W p l e room_1 s m #[Value.ref b] below meth c H locs cells slots Q (F0 m 1702 ls []) := by
  obtain ⟨hat, hKX, hKM, hKo, hEX, hEM, hXX, hXM, hD⟩ := id hh
  obtain ⟨hx, hb, hr, hml, hown, hts, hXs, hbl, hlocks, hgv⟩ := id hat
  have hbA : ¬ (fun q : Nat => s.heap.size ≤ q) b := Nat.not_le.mpr hbl
  obtain ⟨r, τX, τM, e1, e2, hI⟩ := hB i σX σM  hi5 hI0
  refine lv_aload_n hx hb dL_law_1702 rfl (lv_at hl 1 rfl) ?_
  refine lw_callX (as := []) (st := []) hh wvL_205 rfl (kX11_image hEX fl σX e1) rfl (by decide) (Nat.le_of_ble_eq_true rfl) rfl rfl dL_law_1703 hP hS hl.1 ⟨by omega, by omega⟩ (fun H locs hP hS => ?_)
  refine lv_aload_n hx hb dL_law_1706 rfl (lv_at hl 2 rfl) ?_
  refine lw_callM (as := []) (st := [.int r]) hh wvL_208 rfl (kX12_image hEM fl σM e2) rfl (by decide) (Nat.le_of_ble_eq_true rfl) rfl rfl dL_law_1707 hP hS hl.1 ⟨by omega, by omega⟩ (fun H locs hP hS => ?_)
  refine lv_icmp_eq (tgt := 1753) hx hb dL_law_1710 (by decide) (fun _ => ?_) (fun c9 => absurd rfl c9)
  exact K τX τM fo H locs cells slots ls hP hI hS (by omega) (by omega) hl
set_option maxRecDepth 100000 in
theorem lc44 (hh : lwH l p s m meth c b L xs dC dI adX adM caX caM qo co XX XM) (hL : L ≤ 3072) (hi : 6 * i + 6 ≤ L) (hi5 : i < 512) (hB : opB44 Inv) (hI0 : Inv i σX σM) (hP : lwW dC dI adX adM caX caM qo co σX σM fo H) (hS : va_S (fun q => s.heap.size ≤ q) s.heap H locs) (hc1 : cells ≤ 1000 * (i + 1)) (hc2 : slots ≤ 100000 + 1000 * i) (hl : lv_has ls 7 [(0, .ref b), (1, .ref (adX 0)), (2, .ref (adM 0)), (3, .ref qo), (4, .int (nI (6 * i)))]) (K : ∀ (τX τM : gM) (fo : Nat → Int64) (H : Heap) (locs : List Loc) (cells slots : Nat) (ls : Array Slot), lwW dC dI adX adM caX caM qo co τX τM fo H → Inv (i + 1) τX τM → va_S (fun q => s.heap.size ≤ q) s.heap H locs → cells ≤ 1000 * (i + 2) → slots ≤ 100000 + 1000 * (i + 1) → lv_has ls 7 [(0, .ref b), (1, .ref (adX 0)), (2, .ref (adM 0)), (3, .ref qo), (4, .int (nI (6 * i)))] → W p l e room_1 s m #[Value.ref b] below meth c H locs cells slots Q (F0 m 1753 ls [])) : W p l e room_1 s m #[Value.ref b] below meth c H locs cells slots Q (F0 m 1715 ls []) := by
  obtain ⟨hat, hKX, hKM, hKo, hEX, hEM, hXX, hXM, hD⟩ := id hh
  obtain ⟨hx, hb, hr, hml, hown, hts, hXs, hbl, hlocks, hgv⟩ := id hat
  have hbA : ¬ (fun q : Nat => s.heap.size ≤ q) b := Nat.not_le.mpr hbl
  obtain ⟨r, τX, τM, e1, e2, hI⟩ := hB i σX σM  hi5 hI0
  refine lv_aload_n hx hb dL_law_1715 rfl (lv_at hl 1 rfl) ?_
  refine lw_callX (as := []) (st := []) hh wvL_209 rfl (kX11_back hEX fl σX e1) rfl (by decide) (Nat.le_of_ble_eq_true rfl) rfl rfl dL_law_1716 hP hS hl.1 ⟨by omega, by omega⟩ (fun H locs hP hS => ?_)
  refine lv_aload_n hx hb dL_law_1719 rfl (lv_at hl 2 rfl) ?_
  refine lw_callM (as := []) (st := [.int r]) hh wvL_212 rfl (kX12_back hEM fl σM e2) rfl (by decide) (Nat.le_of_ble_eq_true rfl) rfl rfl dL_law_1720 hP hS hl.1 ⟨by omega, by omega⟩ (fun H locs hP hS => ?_)
  refine lv_icmp_eq (tgt := 1753) hx hb dL_law_1723 (by decide) (fun _ => ?_) (fun c9 => absurd rfl c9)
  exact K τX τM fo H locs cells slots ls hP hI hS (by omega) (by omega) hl
set_option maxRecDepth 100000 in
theorem lc45 (hh : lwH l p s m meth c b L xs dC dI adX adM caX caM qo co XX XM) (hL : L ≤ 3072) (hi : 6 * i + 6 ≤ L) (hi5 : i < 512) (hB : opB45 Inv) (hI0 : Inv i σX σM) (hP : lwW dC dI adX adM caX caM qo co σX σM fo H) (hS : va_S (fun q => s.heap.size ≤ q) s.heap H locs) (hc1 : cells ≤ 1000 * (i + 1)) (hc2 : slots ≤ 100000 + 1000 * i) (hl : lv_has ls 7 [(0, .ref b), (1, .ref (adX 0)), (2, .ref (adM 0)), (3, .ref qo), (4, .int (nI (6 * i)))]) (K : ∀ (τX τM : gM) (fo : Nat → Int64) (H : Heap) (locs : List Loc) (cells slots : Nat) (ls : Array Slot), lwW dC dI adX adM caX caM qo co τX τM fo H → Inv (i + 1) τX τM → va_S (fun q => s.heap.size ≤ q) s.heap H locs → cells ≤ 1000 * (i + 2) → slots ≤ 100000 + 1000 * (i + 1) → lv_has ls 7 [(0, .ref b), (1, .ref (adX 0)), (2, .ref (adM 0)), (3, .ref qo), (4, .int (nI (6 * i)))] → W p l e room_1 s m #[Value.ref b] below meth c H locs cells slots Q (F0 m 1753 ls [])) : W p l e room_1 s m #[Value.ref b] below meth c H locs cells slots Q (F0 m 1728 ls []) := by
  obtain ⟨hat, hKX, hKM, hKo, hEX, hEM, hXX, hXM, hD⟩ := id hh
  obtain ⟨hx, hb, hr, hml, hown, hts, hXs, hbl, hlocks, hgv⟩ := id hat
  have hbA : ¬ (fun q : Nat => s.heap.size ≤ q) b := Nat.not_le.mpr hbl
  obtain ⟨r, τX, τM, e1, e2, hI⟩ := hB i σX σM (xs (nI (6 * i) + 1).toNatClampNeg) hi5 hI0
  refine lv_aload_n hx hb dL_law_1728 rfl (lv_at hl 1 rfl) ?_
  refine lv_aload_n hx hb dL_law_1729 rfl (lv_at hl 0 rfl) ?_
  refine lv_iload hx hb dL_law_1730 (lv_at hl 4 rfl) ?_
  refine lv_iconst (v := 1) hx hb dL_law_1732 (by decide) ?_
  refine lv_iadd hx hb dL_law_1733 ?_
  refine va_sld hx hb hXs hbl hbA hS (lw_in (k := 1) hL hi (by decide)) dL_law_1734 ?_
  refine lw_callX (as := [.int (xs (nI (6 * i) + 1).toNatClampNeg)]) (st := []) hh wvL_213 rfl (kX11_count hEX (xs (nI (6 * i) + 1).toNatClampNeg) σX e1) rfl (by decide) (Nat.le_of_ble_eq_true rfl) rfl rfl dL_law_1735 hP hS hl.1 ⟨by omega, by omega⟩ (fun H locs hP hS => ?_)
  refine lv_aload_n hx hb dL_law_1738 rfl (lv_at hl 2 rfl) ?_
  refine lv_aload_n hx hb dL_law_1739 rfl (lv_at hl 0 rfl) ?_
  refine lv_iload hx hb dL_law_1740 (lv_at hl 4 rfl) ?_
  refine lv_iconst (v := 1) hx hb dL_law_1742 (by decide) ?_
  refine lv_iadd hx hb dL_law_1743 ?_
  refine va_sld hx hb hXs hbl hbA hS (lw_in (k := 1) hL hi (by decide)) dL_law_1744 ?_
  refine lw_callM (as := [.int (xs (nI (6 * i) + 1).toNatClampNeg)]) (st := [.int r]) hh wvL_216 rfl (kX12_count hEM (xs (nI (6 * i) + 1).toNatClampNeg) σM e2) rfl (by decide) (Nat.le_of_ble_eq_true rfl) rfl rfl dL_law_1745 hP hS hl.1 ⟨by omega, by omega⟩ (fun H locs hP hS => ?_)
  refine lv_icmp_eq (tgt := 1753) hx hb dL_law_1748 (by decide) (fun _ => ?_) (fun c9 => absurd rfl c9)
  exact K τX τM fo H locs cells slots ls hP hI hS (by omega) (by omega) hl
end LCS
