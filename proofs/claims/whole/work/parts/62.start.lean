/-! the start: the walk -/
set_option maxRecDepth 100000 in
theorem whole_start {p : Program} {e : Env} {s : State} {m : MethodId} {below : List Frame} {meth : Method} {c : Code} (l : Launch) (hflags : l.flags = flags0) {b L : Nat} {xs : Nat → Int32} (hL : L ≤ 3072) (C0 : lw_At p s m meth c b L xs) : W p l e room_1 s m #[Value.ref b] below meth c s.heap [] 0 0 (lw_Z below #[Value.ref b] s) (entryFrame m ([Value.ref b] : List Value).toArray 7) := by
  have hl0 : l.stackTraces = false := by
    unfold Launch.stackTraces
    rw [hflags]
    decide +kernel
  obtain ⟨dC, dI, hK⟩ := kn_cls C0
  obtain ⟨f, g, fmt, hf, hXX, hXM⟩ := kn_all C0
  have hN := kn_nw C0
  obtain ⟨hx, hb, hr, hml, hown, hts0, hXs, hbl, hlocks, hgv⟩ := id C0
  have hts := lw_gW C0
  have hA : ∀ q : Nat, s.heap.size ≤ q → (fun q : Nat => s.heap.size ≤ q) q := fun q h => h
  have hS : va_S (fun q : Nat => s.heap.size ≤ q) s.heap s.heap [] := va_S.rf
  have hP : va_P (dC, dI) vwCl [] s.heap := fun k q h => by cases h
  have hD : va_D (fun q : Nat => s.heap.size ≤ q) [] := ⟨fun i j p q h => (by cases h), fun k q h => (by cases h)⟩
  have hl := lv_entry ([.ref b]) (n := 7) (Nat.le_of_ble_eq_true rfl)
  rw [lg_entry_eq]
  generalize (lg_sl ([.ref b]) ++ List.replicate (7 - (lg_sl ([.ref b])).length) Slot.unset).toArray = ls at hl ⊢
  have hl : lv_has ls 7 [(0, .ref b)] := hl
  refine va_new (ci := 11) (fs := [.null, .null, .null, .null, .null, .null, .null, .null, .null, .null, .null, .null, .null, .int 0, .int 0, .int 0]) (C := RX11) (T := TX11) (N := 16) hx hb hts wiX11 tyX11 tyX11_ok hown (hts _ (gW_of (wb1 _ (List.mem_of_getElem? (i := 26) rfl)) rfl)) (hts _ (gW_of (wb1 _ (List.mem_of_getElem? (i := 27) rfl)) rfl)) (hts _ (gW_of (wb1 _ (List.mem_of_getElem? (i := 1) rfl)) rfl)) hK hP hD hS hA rfl (fun j hj => by match j, hj with | 0, _ => rfl | 1, _ => rfl | 2, _ => rfl | 3, _ => rfl | 4, _ => rfl | 5, _ => rfl | 6, _ => rfl | 7, _ => rfl | 8, _ => rfl | 9, _ => rfl | 10, _ => rfl | 11, _ => rfl | 12, _ => rfl | 13, _ => rfl | 14, _ => rfl | 15, _ => rfl | _ + 16, hj => omega) (Nat.le_of_ble_eq_true rfl) (Nat.le_of_ble_eq_true rfl) dL_law_0 (fun h0 H hP hD hS => ?_)
  have hP : va_P (dC, dI) vwCl [(h0, .inr (11, [.null, .null, .null, .null, .null, .null, .null, .null, .null, .null, .null, .null, .null, .int 0, .int 0, .int 0]))] H := hP
  have hD : va_D (fun q : Nat => s.heap.size ≤ q) [(h0, .inr (11, [.null, .null, .null, .null, .null, .null, .null, .null, .null, .null, .null, .null, .null, .int 0, .int 0, .int 0]))] := hD
  refine W.widen (k := 1) (n := 16) (Nat.le_of_ble_eq_true rfl) (Nat.le_of_ble_eq_true rfl) ?_
  refine lv_dup hx hb dL_law_3 rfl ?_
  have hPc := hP
  have hDc := hD
  have hFc := va_free (wc := [(h0, .inr (11, [.null, .null, .null, .null, .null, .null, .null, .null, .null, .null, .null, .null, .null, .int 0, .int 0, .int 0]))]) hD hS hA [0] rfl
  refine va_callv (va_runI (As := []) (rest := [.ref h0]) ⟨hx, hb, hml, hown, hts⟩ (iX11 l dC dI H.size h0) (cwI 0 hts (gW_good (gW_of (wb1 _ (List.mem_of_getElem? (i := 30) rfl)) rfl)) rfl rfl rfl (hts _ (gW_of (wb1 _ (List.mem_of_getElem? (i := 1) rfl)) rfl)) (hts _ (gW_of (wb1 _ (List.mem_of_getElem? (i := 28) rfl)) rfl)) (hts _ (gW_of (wb1 _ (List.mem_of_getElem? (i := 29) rfl)) rfl)) rfl ⟨by decide, by decide, rfl⟩ ⟨Nat.le_of_ble_eq_true rfl, Nat.le_of_ble_eq_true rfl⟩) ⟨fun a U g mk q => by obtain ⟨q0, q1, qP, qK, qD, qN⟩ := q; exact ⟨q0, q1, qP, va_K.moved (u := U) (U := U.calling g mk a) (Vm.Alike.refl U.vm) qK, qD, g_nw_warm (u := U) (U := U.calling g mk a) (State.WarmedH.refl U) qN⟩, fun U hU hW => ⟨rfl, by rw [hU], by rw [hU]; exact hPc, va_K.moved hW.alike hK, hDc.weaken (fun _ _ _ _ => trivial), g_nw_warm hW hN⟩⟩ rfl rfl hl.1 rfl (lv_room (Nat.le_of_ble_eq_true rfl)) dL_law_4 ⟨Nat.le_of_ble_eq_true rfl, Nat.le_of_ble_eq_true rfl⟩) hS (fun q _ h => hFc q h) hFc (fun u t H1 locs ht hvm hw hB hz1 hk1 hS => ?_)
  obtain ⟨q1, q2, q3, q4, q5, q6, q7, q13, q14, q15, q16, q20, q21, q22, q23, q26, q27, q28, q29, q30, q33, q34, q35, q36, q37, q40, q19, q41, q42, q44, q45, q47, q48, q50, q51, q53, q54, q55, q56, q57, q60, q61, q62, q65, q66, q67, q70, q71, q72, a8, a9, a10, a11, a12, a17, a18, a24, a25, a31, a32, a38, a39, a43, a46, a49, a52, a53, a54, a58, a59, a63, a64, a68, a69, a73, a74, hP1, hK1, hD1⟩ := hB
  rw [ht] at hP1
  have hKX := va_K.moved hvm.symm hK1
  obtain ⟨hP, hD⟩ := va_join (wr := []) (w1 := wX h0 q1 q2 q3 q4 q5 q6 q7 q13 q14 q15 q16 q20 q21 q22 q23 q26 q27 q28 q29 q30 q33 q34 q35 q36 q37 q40 q19 q41 q42 q44 q45 q47 q48 q50 q51 q53 q54 q55 q56 q57 q60 q61 q62 q65 q66 q67 q70 q71 q72 a8 a9 a10 a11 a12 a17 a18 a24 a25 a31 a32 a38 a39 a43 a46 a49 a52 a53 a54 a58 a59 a63 a64 a68 a69 a73 a74) hP hD [0] [] rfl rfl (by decide) (by decide) hk1 hFc hP1 hD1
  have hP : va_P (dC, dI) vwCl (wX h0 q1 q2 q3 q4 q5 q6 q7 q13 q14 q15 q16 q20 q21 q22 q23 q26 q27 q28 q29 q30 q33 q34 q35 q36 q37 q40 q19 q41 q42 q44 q45 q47 q48 q50 q51 q53 q54 q55 q56 q57 q60 q61 q62 q65 q66 q67 q70 q71 q72 a8 a9 a10 a11 a12 a17 a18 a24 a25 a31 a32 a38 a39 a43 a46 a49 a52 a53 a54 a58 a59 a63 a64 a68 a69 a73 a74) H1 := hP
  have hD : va_D (fun q : Nat => s.heap.size ≤ q) (wX h0 q1 q2 q3 q4 q5 q6 q7 q13 q14 q15 q16 q20 q21 q22 q23 q26 q27 q28 q29 q30 q33 q34 q35 q36 q37 q40 q19 q41 q42 q44 q45 q47 q48 q50 q51 q53 q54 q55 q56 q57 q60 q61 q62 q65 q66 q67 q70 q71 q72 a8 a9 a10 a11 a12 a17 a18 a24 a25 a31 a32 a38 a39 a43 a46 a49 a52 a53 a54 a58 a59 a63 a64 a68 a69 a73 a74) := hD
  clear hP1 hD1 hk1 hPc hDc hFc
  generalize H1 = H at hP hS ⊢
  refine W.widen (k := 50) (n := 8144) (Nat.le_of_ble_eq_true rfl) (Nat.le_of_ble_eq_true rfl) ?_
  refine lv_astore_n (i := 1) (lv' := [(1, .ref h0), (0, .ref b)]) hx hb dL_law_7 rfl hl (by decide) rfl (fun ls hl => ?_)
  refine va_new (ci := 12) (fs := [.int 0, .null, .int 0, .int 0, .int 0, .null, .null, .null, .null, .null, .null, .int 0, .int 0, .int 0, .int 0, .null, .null, .null, .null, .null, .null, .int 0, .int 0, .int 0, .null, .null, .int 0, .int 0, .int 0, .int 0, .int 0, .long 0]) (C := RX12) (T := TX12) (N := 32) hx hb hts wiX12 tyX12 tyX12_ok hown (hts _ (gW_of (wb6 _ (List.mem_of_getElem? (i := 140) rfl)) rfl)) (hts _ (gW_of (wb6 _ (List.mem_of_getElem? (i := 141) rfl)) rfl)) (hts _ (gW_of (wb1 _ (List.mem_of_getElem? (i := 13) rfl)) rfl)) hK hP hD hS hA rfl (fun j hj => by match j, hj with | 0, _ => rfl | 1, _ => rfl | 2, _ => rfl | 3, _ => rfl | 4, _ => rfl | 5, _ => rfl | 6, _ => rfl | 7, _ => rfl | 8, _ => rfl | 9, _ => rfl | 10, _ => rfl | 11, _ => rfl | 12, _ => rfl | 13, _ => rfl | 14, _ => rfl | 15, _ => rfl | 16, _ => rfl | 17, _ => rfl | 18, _ => rfl | 19, _ => rfl | 20, _ => rfl | 21, _ => rfl | 22, _ => rfl | 23, _ => rfl | 24, _ => rfl | 25, _ => rfl | 26, _ => rfl | 27, _ => rfl | 28, _ => rfl | 29, _ => rfl | 30, _ => rfl | 31, _ => rfl | _ + 32, hj => omega) (Nat.le_of_ble_eq_true rfl) (Nat.le_of_ble_eq_true rfl) dL_law_8 (fun h1 H hP hD hS => ?_)
  refine W.widen (k := 51) (n := 8176) (Nat.le_of_ble_eq_true rfl) (Nat.le_of_ble_eq_true rfl) ?_
  refine lv_dup hx hb dL_law_11 rfl ?_
  have hPc := hP.sub (ws' := [(h1, .inr (12, [.int 0, .null, .int 0, .int 0, .int 0, .null, .null, .null, .null, .null, .null, .int 0, .int 0, .int 0, .int 0, .null, .null, .null, .null, .null, .null, .int 0, .int 0, .int 0, .null, .null, .int 0, .int 0, .int 0, .int 0, .int 0, .long 0]))]) [50] rfl
  have hDc := hD.sub (ws' := [(h1, .inr (12, [.int 0, .null, .int 0, .int 0, .int 0, .null, .null, .null, .null, .null, .null, .int 0, .int 0, .int 0, .int 0, .null, .null, .null, .null, .null, .null, .int 0, .int 0, .int 0, .null, .null, .int 0, .int 0, .int 0, .int 0, .int 0, .long 0]))]) [50] (by decide) rfl
  have hFc := va_free (wc := [(h1, .inr (12, [.int 0, .null, .int 0, .int 0, .int 0, .null, .null, .null, .null, .null, .null, .int 0, .int 0, .int 0, .int 0, .null, .null, .null, .null, .null, .null, .int 0, .int 0, .int 0, .null, .null, .int 0, .int 0, .int 0, .int 0, .int 0, .long 0]))]) hD hS hA [50] rfl
  refine va_callv (va_runI (As := []) (rest := [.ref h1]) ⟨hx, hb, hml, hown, hts⟩ (iX12 l dC dI H.size h1) (cwI 0 hts (gW_good (gW_of (wb6 _ (List.mem_of_getElem? (i := 144) rfl)) rfl)) rfl rfl rfl (hts _ (gW_of (wb1 _ (List.mem_of_getElem? (i := 13) rfl)) rfl)) (hts _ (gW_of (wb6 _ (List.mem_of_getElem? (i := 142) rfl)) rfl)) (hts _ (gW_of (wb6 _ (List.mem_of_getElem? (i := 143) rfl)) rfl)) rfl ⟨by decide, by decide, rfl⟩ ⟨Nat.le_of_ble_eq_true rfl, Nat.le_of_ble_eq_true rfl⟩) ⟨fun a U g mk q => by obtain ⟨q0, q1, qP, qK, qD, qN⟩ := q; exact ⟨q0, q1, qP, va_K.moved (u := U) (U := U.calling g mk a) (Vm.Alike.refl U.vm) qK, qD, g_nw_warm (u := U) (U := U.calling g mk a) (State.WarmedH.refl U) qN⟩, fun U hU hW => ⟨rfl, by rw [hU], by rw [hU]; exact hPc, va_K.moved hW.alike hK, hDc.weaken (fun _ _ _ _ => trivial), g_nw_warm hW hN⟩⟩ rfl rfl hl.1 rfl (lv_room (Nat.le_of_ble_eq_true rfl)) dL_law_12 ⟨Nat.le_of_ble_eq_true rfl, Nat.le_of_ble_eq_true rfl⟩) hS (fun q _ h => hFc q h) hFc (fun u t H1 locs ht hvm hw hB hz1 hk1 hS => ?_)
  obtain ⟨r1, r2, r3, r4, r5, r6, r7, r8, r9, r10, r11, r12, r13, r14, r15, e1, e2, e3, e4, e5, e6, e7, e8, e9, e10, e11, e12, e13, e14, e15, hP1, hK1, hD1⟩ := hB
  rw [ht] at hP1
  have hKM := va_K.moved hvm.symm hK1
  obtain ⟨hP, hD⟩ := va_join (wr := wX h0 q1 q2 q3 q4 q5 q6 q7 q13 q14 q15 q16 q20 q21 q22 q23 q26 q27 q28 q29 q30 q33 q34 q35 q36 q37 q40 q19 q41 q42 q44 q45 q47 q48 q50 q51 q53 q54 q55 q56 q57 q60 q61 q62 q65 q66 q67 q70 q71 q72 a8 a9 a10 a11 a12 a17 a18 a24 a25 a31 a32 a38 a39 a43 a46 a49 a52 a53 a54 a58 a59 a63 a64 a68 a69 a73 a74) (w1 := wM h1 r1 r2 r3 r4 r5 r6 r7 r8 r9 r10 r11 r12 r13 r14 r15 e1 e2 e3 e4 e5 e6 e7 e8 e9 e10 e11 e12 e13 e14 e15) hP hD [50] [0, 1, 2, 3, 4, 5, 6, 7, 8, 9, 10, 11, 12, 13, 14, 15, 16, 17, 18, 19, 20, 21, 22, 23, 24, 25, 26, 27, 28, 29, 30, 31, 32, 33, 34, 35, 36, 37, 38, 39, 40, 41, 42, 43, 44, 45, 46, 47, 48, 49] rfl rfl (by decide) (by decide) hk1 hFc hP1 hD1
  clear hP1 hD1 hk1 hPc hDc hFc
  generalize H1 = H at hP hS ⊢
  refine W.widen (k := 66) (n := 35922) (Nat.le_of_ble_eq_true rfl) (Nat.le_of_ble_eq_true rfl) ?_
  refine lv_astore_n (i := 2) (lv' := [(2, .ref h1), (1, .ref h0), (0, .ref b)]) hx hb dL_law_15 rfl hl (by decide) rfl (fun ls hl => ?_)
  refine lv_iconst (v := 1) hx hb dL_law_16 (by decide) ?_
  refine va_newa (atype := .long) hx hb (hts _ (gW_of (wb9 _ (List.mem_of_getElem? (i := 41) rfl)) rfl)) (ty := .long) rfl hK hP hD hS hA (N' := 1) (a0 := (1, .inr (.inl (fun _ => 0)))) (fun _ => rfl) (by decide) (by decide) (Nat.le_of_ble_eq_true rfl) (Nat.le_of_ble_eq_true rfl) (Nat.le_of_ble_eq_true rfl) dL_law_17 (fun qo co H hKo hP hD hS => ?_)
  refine lv_astore_n (i := 3) (lv' := [(3, .ref qo), (2, .ref h1), (1, .ref h0), (0, .ref b)]) hx hb dL_law_19 rfl hl (by decide) rfl (fun ls hl => ?_)
  refine lv_iconst (v := 0) hx hb dL_law_20 (by decide) ?_
  refine lv_istore (i := 4) (lv' := [(4, .int 0), (3, .ref qo), (2, .ref h1), (1, .ref h0), (0, .ref b)]) hx hb dL_law_21 hl (by decide) rfl (fun ls hl => ?_)
  have hPX := va_P_l (va_P_l hP)
  have hPM := va_P_r (va_P_l hP)
  have hPo := va_P_r hP
  have lX : (wX h0 q1 q2 q3 q4 q5 q6 q7 q13 q14 q15 q16 q20 q21 q22 q23 q26 q27 q28 q29 q30 q33 q34 q35 q36 q37 q40 q19 q41 q42 q44 q45 q47 q48 q50 q51 q53 q54 q55 q56 q57 q60 q61 q62 q65 q66 q67 q70 q71 q72 a8 a9 a10 a11 a12 a17 a18 a24 a25 a31 a32 a38 a39 a43 a46 a49 a52 a53 a54 a58 a59 a63 a64 a68 a69 a73 a74).length = 50 := rfl
  have lM : (wM h1 r1 r2 r3 r4 r5 r6 r7 r8 r9 r10 r11 r12 r13 r14 r15 e1 e2 e3 e4 e5 e6 e7 e8 e9 e10 e11 e12 e13 e14 e15).length = 16 := rfl
  have atX : ∀ i, i < 50 → ∃ e, ((wX h0 q1 q2 q3 q4 q5 q6 q7 q13 q14 q15 q16 q20 q21 q22 q23 q26 q27 q28 q29 q30 q33 q34 q35 q36 q37 q40 q19 q41 q42 q44 q45 q47 q48 q50 q51 q53 q54 q55 q56 q57 q60 q61 q62 q65 q66 q67 q70 q71 q72 a8 a9 a10 a11 a12 a17 a18 a24 a25 a31 a32 a38 a39 a43 a46 a49 a52 a53 a54 a58 a59 a63 a64 a68 a69 a73 a74 ++ wM h1 r1 r2 r3 r4 r5 r6 r7 r8 r9 r10 r11 r12 r13 r14 r15 e1 e2 e3 e4 e5 e6 e7 e8 e9 e10 e11 e12 e13 e14 e15) ++ [(qo, Sum.inl (co, ((1, .inr (.inl (fun _ => 0))) : vp_A)))])[PXl.getD i 0]? = some ((adC (aXl h0 q1 q2 q3 q4 q5 q6 q7 q13 q14 q15 q16 q20 q21 q22 q23 q26 q27 q28 q29 q30 q33 q34 q35 q36 q37 q40 q19 q41 q42 q44 q45 q47 q48 q50 q51 q53 q54 q55 q56 q57 q60 q61 q62 q65 q66 q67 q70 q71 q72) f) i, e) := by
    intro i hi
    obtain ⟨e, he⟩ := pos_X (f := f) i hi
    have := (PX_ok i hi).1
    refine ⟨e, ?_⟩
    rw [List.getElem?_append_left (by rw [List.length_append, lX, lM]; omega), List.getElem?_append_left (by rw [lX]; omega)]
    exact he
  have atM : ∀ i, i < 16 → ∃ e, ((wX h0 q1 q2 q3 q4 q5 q6 q7 q13 q14 q15 q16 q20 q21 q22 q23 q26 q27 q28 q29 q30 q33 q34 q35 q36 q37 q40 q19 q41 q42 q44 q45 q47 q48 q50 q51 q53 q54 q55 q56 q57 q60 q61 q62 q65 q66 q67 q70 q71 q72 a8 a9 a10 a11 a12 a17 a18 a24 a25 a31 a32 a38 a39 a43 a46 a49 a52 a53 a54 a58 a59 a63 a64 a68 a69 a73 a74 ++ wM h1 r1 r2 r3 r4 r5 r6 r7 r8 r9 r10 r11 r12 r13 r14 r15 e1 e2 e3 e4 e5 e6 e7 e8 e9 e10 e11 e12 e13 e14 e15) ++ [(qo, Sum.inl (co, ((1, .inr (.inl (fun _ => 0))) : vp_A)))])[50 + i]? = some ((adC (aMl h1 r1 r2 r3 r4 r5 r6 r7 r8 r9 r10 r11 r12 r13 r14 r15) g) i, e) := by
    intro i hi
    obtain ⟨e, he⟩ := pos_M (g := g) i hi
    refine ⟨e, ?_⟩
    rw [List.getElem?_append_left (by rw [List.length_append, lX, lM]; omega), List.getElem?_append_right (by rw [lX]; omega), lX, Nat.add_sub_cancel_left]
    exact he
  have atO : ((wX h0 q1 q2 q3 q4 q5 q6 q7 q13 q14 q15 q16 q20 q21 q22 q23 q26 q27 q28 q29 q30 q33 q34 q35 q36 q37 q40 q19 q41 q42 q44 q45 q47 q48 q50 q51 q53 q54 q55 q56 q57 q60 q61 q62 q65 q66 q67 q70 q71 q72 a8 a9 a10 a11 a12 a17 a18 a24 a25 a31 a32 a38 a39 a43 a46 a49 a52 a53 a54 a58 a59 a63 a64 a68 a69 a73 a74 ++ wM h1 r1 r2 r3 r4 r5 r6 r7 r8 r9 r10 r11 r12 r13 r14 r15 e1 e2 e3 e4 e5 e6 e7 e8 e9 e10 e11 e12 e13 e14 e15) ++ [(qo, Sum.inl (co, ((1, .inr (.inl (fun _ => 0))) : vp_A)))])[66]? = some (qo, Sum.inl (co, ((1, .inr (.inl (fun _ => 0))) : vp_A))) := by
    rw [List.getElem?_append_right (by rw [List.length_append, lX, lM]; omega), List.length_append, lX, lM]
    rfl
  have hDD : lwD (adC (aXl h0 q1 q2 q3 q4 q5 q6 q7 q13 q14 q15 q16 q20 q21 q22 q23 q26 q27 q28 q29 q30 q33 q34 q35 q36 q37 q40 q19 q41 q42 q44 q45 q47 q48 q50 q51 q53 q54 q55 q56 q57 q60 q61 q62 q65 q66 q67 q70 q71 q72) f) (adC (aMl h1 r1 r2 r3 r4 r5 r6 r7 r8 r9 r10 r11 r12 r13 r14 r15) g) qo s.heap.size := by
    refine ⟨fun i j hi hj he => ?_, fun i j hi hj he => ?_, fun i j hi hj he => ?_, fun i hi he => ?_, fun j hj he => ?_, fun i hi => ?_, fun j hj => ?_, ?_⟩
    · obtain ⟨e1, h1⟩ := atX i hi
      obtain ⟨e2, h2⟩ := atX j hj
      exact (PX_ok i hi).2 j hj (hD.1 _ _ _ _ h1 h2 he)
    · obtain ⟨e1, h1⟩ := atM i hi
      obtain ⟨e2, h2⟩ := atM j hj
      have := hD.1 _ _ _ _ h1 h2 he
      omega
    · obtain ⟨e1, h1⟩ := atX i hi
      obtain ⟨e2, h2⟩ := atM j hj
      have := hD.1 _ _ _ _ h1 h2 he
      have := (PX_ok i hi).1
      omega
    · obtain ⟨e1, h1⟩ := atX i hi
      have := hD.1 _ _ _ _ h1 atO he
      have := (PX_ok i hi).1
      omega
    · obtain ⟨e1, h1⟩ := atM j hj
      have := hD.1 _ _ _ _ h1 atO he
      omega
    · obtain ⟨e1, h1⟩ := atX i hi
      exact hD.2 _ _ h1
    · obtain ⟨e1, h1⟩ := atM j hj
      exact hD.2 _ _ h1
    · exact hD.2 _ _ atO
  have hh : lwH l p s m meth c b L xs dC dI (adC (aXl h0 q1 q2 q3 q4 q5 q6 q7 q13 q14 q15 q16 q20 q21 q22 q23 q26 q27 q28 q29 q30 q33 q34 q35 q36 q37 q40 q19 q41 q42 q44 q45 q47 q48 q50 q51 q53 q54 q55 q56 q57 q60 q61 q62 q65 q66 q67 q70 q71 q72) f) (adC (aMl h1 r1 r2 r3 r4 r5 r6 r7 r8 r9 r10 r11 r12 r13 r14 r15) g) (fun k => (cXl a8 a9 a10 a11 a12 a17 a18 a24 a25 a31 a32 a38 a39 a43 a46 a49 a52 a53 a54 a58 a59 a63 a64 a68 a69 a73 a74).getD k 0) (fun k => (cMl e1 e2 e3 e4 e5 e6 e7 e8 e9 e10 e11 e12 e13 e14 e15).getD k 0) qo co (XXp f fmt) (XMp g fmt) := ⟨C0, tys_X hKX, tys_M hKM, hKo, XXp_E hf, XMp_E hf, hXX, hXM, hDD⟩
  exact lw_loop hl0 XXp_T hh hL 513 0 sX0 sM0 (fun _ => 0) H _ _ _ ls (by omega) (by omega) Inv_start ⟨conv_X hPX, conv_M hPM, hPo⟩ hS (by decide) (by decide) ⟨hl.1, hl.2.1, fun q hq => hl.2.2 q (by
    simp only [List.mem_cons, List.not_mem_nil, or_false] at hq
    rcases hq with rfl | rfl | rfl | rfl | rfl <;> simp [adC, aXl, aMl] <;> rfl)⟩

