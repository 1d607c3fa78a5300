/-! the start: texts and constants -/
def kLook : List (Nat × Nat) → Nat → Nat
  | [], _ => 0
  | (a, b) :: r, k => if k = a then b else kLook r k
set_option maxRecDepth 100000 in
theorem kn_all {p : Program} {s : State} {m : MethodId} {meth : Method} {c : Code} {b L : Nat} {xs : Nat → Int32} (hat : lw_At p s m meth c b L xs) : ∃ (f g : Nat → Nat) (fmt : Value), (fmt = .null ∨ fmt = .ref 1040) ∧ XXp f fmt (fun q => s.heap.size ≤ q) s s.heap ∧ XMp g fmt (fun q => s.heap.size ≤ q) s s.heap := by
  obtain ⟨hx, hb, hr, hml, hown, hts, hXs, hbl, hlocks, hgv⟩ := id hat
  have hs := flat_of_before _ hgv
  have hA : ∀ a : Nat, a < s.heap.size → ¬ (fun q : Nat => s.heap.size ≤ q) a := fun a h => Nat.not_le.mpr h
  obtain ⟨t0, hz0, ha0⟩ := st_arr (args := #[Value.ref b]) (s := s) (C := "StripeShelf$Tape") (n := "LOWEST") (tx := [2, 1, 1, 0, 0, 0, 0]) (A := fun q => s.heap.size ≤ q) (by decide) (hts _ (wb2 _ (List.mem_of_getElem? (i := 226) rfl))) (hts _ (wb1 _ (List.mem_of_getElem? (i := 2) rfl))) (hs _ (by decide +kernel)) (hs _ (by decide +kernel)) (fun j hj => hs _ (by revert hj; revert j; decide +kernel)) hA
  obtain ⟨t1, hz1, ha1⟩ := st_arr (args := #[Value.ref b]) (s := s) (C := "StripeShelf$Tape") (n := "HIGHEST") (tx := [6, 12, 4, 3, 9, 287, 255]) (A := fun q => s.heap.size ≤ q) (by decide) (hts _ (wb2 _ (List.mem_of_getElem? (i := 228) rfl))) (hts _ (wb1 _ (List.mem_of_getElem? (i := 2) rfl))) (hs _ (by decide +kernel)) (hs _ (by decide +kernel)) (fun j hj => hs _ (by revert hj; revert j; decide +kernel)) hA
  obtain ⟨t2, hz2, ha2⟩ := st_arr (args := #[Value.ref b]) (s := s) (C := "StripeShelf$Tape") (n := "WITHOUT") (tx := [3, 4, 2, 0, 1, 0, 1]) (A := fun q => s.heap.size ≤ q) (by decide) (hts _ (wb2 _ (List.mem_of_getElem? (i := 119) rfl))) (hts _ (wb1 _ (List.mem_of_getElem? (i := 2) rfl))) (hs _ (by decide +kernel)) (hs _ (by decide +kernel)) (fun j hj => hs _ (by revert hj; revert j; decide +kernel)) hA
  obtain ⟨t3, hz3, ha3⟩ := st_arr (args := #[Value.ref b]) (s := s) (C := "StripeShelf$Script") (n := "NUMBERS") (tx := [2, 1, 1, 2, 1, 4, 3, 0, 4]) (A := fun q => s.heap.size ≤ q) (by decide) (hts _ (wb3 _ (List.mem_of_getElem? (i := 17) rfl))) (hts _ (wb1 _ (List.mem_of_getElem? (i := 3) rfl))) (hs _ (by decide +kernel)) (hs _ (by decide +kernel)) (fun j hj => hs _ (by revert hj; revert j; decide +kernel)) hA
  obtain ⟨t4, hz4, ha4⟩ := st_arr (args := #[Value.ref b]) (s := s) (C := "StripeShelf$Field") (n := "POLYNOMIALS") (tx := [285, 299, 301, 333]) (A := fun q => s.heap.size ≤ q) (by decide) (hts _ (wb3 _ (List.mem_of_getElem? (i := 52) rfl))) (hts _ (wb1 _ (List.mem_of_getElem? (i := 5) rfl))) (hs _ (by decide +kernel)) (hs _ (by decide +kernel)) (fun j hj => hs _ (by revert hj; revert j; decide +kernel)) hA
  obtain ⟨ax0, ux0, hex0, hcx0, hvx0, hTx0, hOx0⟩ := st_text (args := #[Value.ref b]) (s := s) (t := .string "StripeShelf$Tape" 80) (tx := [100, 116, 99, 102, 107, 97, 120]) (A := fun q => s.heap.size ≤ q) (by decide) (hs _ (by decide +kernel)) (hs _ (by decide +kernel)) (hs _ (by decide +kernel)) (hs _ (by decide +kernel)) (fun j hj => hs _ (by revert hj; revert j; decide +kernel)) hA
  have hRx0 : vk_R "StripeShelf$Tape" 80 "dtcfkax" ax0 s := vk_R.of (hts _ (wb2 _ (List.mem_of_getElem? (i := 136) rfl))) hex0
  obtain ⟨ax1, ux1, hex1, hcx1, hvx1, hTx1, hOx1⟩ := st_text (args := #[Value.ref b]) (s := s) (t := .string "StripeShelf$Tape" 103) (tx := [119, 108, 110, 114, 115, 112, 122, 121, 102]) (A := fun q => s.heap.size ≤ q) (by decide) (hs _ (by decide +kernel)) (hs _ (by decide +kernel)) (hs _ (by decide +kernel)) (hs _ (by decide +kernel)) (fun j hj => hs _ (by revert hj; revert j; decide +kernel)) hA
  have hRx1 : vk_R "StripeShelf$Tape" 103 "wlnrspzyf" ax1 s := vk_R.of (hts _ (wb3 _ (List.mem_of_getElem? (i := 8) rfl))) hex1
  obtain ⟨am0, um0, hem0, hcm0, hvm0, hTm0, hOm0⟩ := st_text (args := #[Value.ref b]) (s := s) (t := .string "StripeShelfModel" 124) (tx := [100, 116, 99, 102, 107]) (A := fun q => s.heap.size ≤ q) (by decide) (hs _ (by decide +kernel)) (hs _ (by decide +kernel)) (hs _ (by decide +kernel)) (hs _ (by decide +kernel)) (fun j hj => hs _ (by revert hj; revert j; decide +kernel)) hA
  have hRm0 : vk_R "StripeShelfModel" 124 "dtcfk" am0 s := vk_R.of (hts _ (wb7 _ (List.mem_of_getElem? (i := 50) rfl))) hem0
  obtain ⟨am1, um1, hem1, hcm1, hvm1, hTm1, hOm1⟩ := st_text (args := #[Value.ref b]) (s := s) (t := .string "StripeShelfModel" 130) (tx := [97, 120]) (A := fun q => s.heap.size ≤ q) (by decide) (hs _ (by decide +kernel)) (hs _ (by decide +kernel)) (hs _ (by decide +kernel)) (hs _ (by decide +kernel)) (fun j hj => hs _ (by revert hj; revert j; decide +kernel)) hA
  have hRm1 : vk_R "StripeShelfModel" 130 "ax" am1 s := vk_R.of (hts _ (wb7 _ (List.mem_of_getElem? (i := 97) rfl))) hem1
  obtain ⟨am2, um2, hem2, hcm2, hvm2, hTm2, hOm2⟩ := st_text (args := #[Value.ref b]) (s := s) (t := .string "StripeShelfModel" 136) (tx := [119, 108, 110, 114, 115, 112, 122, 121, 102]) (A := fun q => s.heap.size ≤ q) (by decide) (hs _ (by decide +kernel)) (hs _ (by decide +kernel)) (hs _ (by decide +kernel)) (hs _ (by decide +kernel)) (fun j hj => hs _ (by revert hj; revert j; decide +kernel)) hA
  have hRm2 : vk_R "StripeShelfModel" 136 "wlnrspzyf" am2 s := vk_R.of (hts _ (wb7 _ (List.mem_of_getElem? (i := 106) rfl))) hem2
  obtain ⟨an, un, hen, hcn, hvn, hTn, hOn⟩ := st_text (args := #[Value.ref b]) (s := s) (t := .string "StripeShelf" 239) (tx := [110, 111, 32, 115, 117, 99, 104, 32, 97, 100, 100, 114, 101, 115, 115]) (A := fun q => s.heap.size ≤ q) (by decide) (hs _ (by decide +kernel)) (hs _ (by decide +kernel)) (hs _ (by decide +kernel)) (hs _ (by decide +kernel)) (fun j hj => hs _ (by revert hj; revert j; decide +kernel)) hA
  have hRn : vk_R "StripeShelf" 239 "no such address" an s := vk_R.of (hts _ (wb6 _ (List.mem_of_getElem? (i := 113) rfl))) hen
  have hcs : va_Z "java/lang/String" "COMPACT_STRINGS" "Z" (.int 1) (fun q => s.heap.size ≤ q) s s.heap := va_Zof (hts _ (wb2 _ (List.mem_of_getElem? (i := 150) rfl))) (hts _ (wb1 _ (List.mem_of_getElem? (i := 15) rfl))) (va_eqi (hs _ (by decide +kernel))) hA
  have hU : vx_Zq Bundle.tN "UNASSIGNED_STACK" Bundle.steD (fun q => s.heap.size ≤ q) s s.heap := vx_Zqof (hts _ (wb6 _ (List.mem_of_getElem? (i := 101) rfl))) (hts _ (wb1 _ (List.mem_of_getElem? (i := 22) rfl))) (hs _ (by decide +kernel)) hA
  have hN : vx_Zq Bundle.tN "SUPPRESSED_SENTINEL" Bundle.listD (fun q => s.heap.size ≤ q) s s.heap := vx_Zqof (hts _ (wb6 _ (List.mem_of_getElem? (i := 103) rfl))) (hts _ (wb1 _ (List.mem_of_getElem? (i := 22) rfl))) (hs _ (by decide +kernel)) hA
  have hM : va_Nw (.methodLinkNest RX8 137 yX11_isByte RX11) s := va_Nw.of rfl (hts _ (wb4 _ (List.mem_of_getElem? (i := 168) rfl)))
  have hd : ∀ w ∈ nsDcl, va_Nw w s := fun w hw => va_Nw.of (rd_dcl w hw).1 (hts _ (rd_dcl w hw).2)
  have fin : ∀ (fmt : Value) (tf : Nat), (fmt = .null ∨ fmt = .ref 1040) → va_Z "jdk/internal/util/Preconditions" "SIOOBE_FORMATTER" tfmt (g_v (fun _ => tf) fmt) (fun q => s.heap.size ≤ q) s s.heap → ∃ (f g : Nat → Nat) (fmt : Value), (fmt = .null ∨ fmt = .ref 1040) ∧ XXp f fmt (fun q => s.heap.size ≤ q) s s.heap ∧ XMp g fmt (fun q => s.heap.size ≤ q) s s.heap := by
    intro fmt tf hf hz
    refine ⟨kLook [(1000, t0), (1001, t1), (1002, t2), (1003, t3), (1004, t4), (1010, ax0), (1011, ax1), (1020, ux0), (1021, ux1), (1030, an), (1040, tf)], kLook [(1000, am0), (1001, am1), (1002, am2), (1010, um0), (1011, um1), (1012, um2), (1040, tf)], fmt, hf, ⟨fun k q hk => ?_, hM, fun k q hk => ?_, ⟨hcs, ?_⟩, hU, hN, hd, hRn⟩, ⟨fun k q hk => ?_, ⟨hcs, ?_⟩⟩⟩
    · match k, hk with
      | 0, hk => cases hk; exact ⟨hz0, ha0⟩
      | 1, hk => cases hk; exact ⟨hz1, ha1⟩
      | 2, hk => cases hk; exact ⟨hz2, ha2⟩
      | 3, hk => cases hk; exact ⟨hz3, ha3⟩
      | 4, hk => cases hk; exact ⟨hz4, ha4⟩
      | k + 5, hk => cases hk
    · match k, hk with
      | 0, hk => cases hk; exact ⟨hRx0, hcx0, hvx0, hTx0, hOx0⟩
      | 1, hk => cases hk; exact ⟨hRx1, hcx1, hvx1, hTx1, hOx1⟩
      | k + 2, hk => cases hk
    · rcases hf with rfl | rfl
      · exact hz
      · exact hz
    · match k, hk with
      | 0, hk => cases hk; exact ⟨hRm0, hcm0, hvm0, hTm0, hOm0⟩
      | 1, hk => cases hk; exact ⟨hRm1, hcm1, hvm1, hTm1, hOm1⟩
      | 2, hk => cases hk; exact ⟨hRm2, hcm2, hvm2, hTm2, hOm2⟩
      | k + 3, hk => cases hk
    · rcases hf with rfl | rfl
      · exact hz
      · exact hz
  rcases va_Zqof (C := "jdk/internal/util/Preconditions") (n := "SIOOBE_FORMATTER") (d := tfmt) (A := fun q => s.heap.size ≤ q) (hts _ (wb2 _ (List.mem_of_getElem? (i := 191) rfl))) (hts _ (wb1 _ (List.mem_of_getElem? (i := 18) rfl))) (hs _ (by decide +kernel)) hA with h | ⟨t, h⟩
  · exact fin .null 0 (Or.inl rfl) h
  · exact fin (.ref 1040) t (Or.inr rfl) h
