/-! the start: classes; the first picture -/
theorem kn_cls {p : Program} {s : State} {m : MethodId} {meth : Method} {c : Code} {b L : Nat} {xs : Nat → Int32} (hat : lw_At p s m meth c b L xs) : ∃ (dC : Nat → ClassId) (dI : Nat → Nat → Nat), va_K (dC, dI) vwCl [] s := by
  have hts := hat.2.2.2.2.2.1
  obtain ⟨c0, i0, h0⟩ := u_known (lw_gW hat) wiX0 (hts _ (wb2 _ (List.mem_of_getElem? (i := 16) rfl)))
  obtain ⟨c1, i1, h1⟩ := u_known (lw_gW hat) wiX1 (hts _ (wb1 _ (List.mem_of_getElem? (i := 152) rfl)))
  obtain ⟨c2, i2, h2⟩ := u_known (lw_gW hat) wiX2 (hts _ (wb2 _ (List.mem_of_getElem? (i := 0) rfl)))
  obtain ⟨c3, i3, h3⟩ := u_known (lw_gW hat) wiX3 (hts _ (wb1 _ (List.mem_of_getElem? (i := 227) rfl)))
  obtain ⟨c4, i4, h4⟩ := u_known (lw_gW hat) wiX4 (hts _ (wb1 _ (List.mem_of_getElem? (i := 214) rfl)))
  obtain ⟨c5, i5, h5⟩ := u_known (lw_gW hat) wiX5 (hts _ (wb1 _ (List.mem_of_getElem? (i := 184) rfl)))
  obtain ⟨c6, i6, h6⟩ := u_known (lw_gW hat) wiX6 (hts _ (wb1 _ (List.mem_of_getElem? (i := 89) rfl)))
  obtain ⟨c7, i7, h7⟩ := u_known (lw_gW hat) wiX7 (hts _ (wb1 _ (List.mem_of_getElem? (i := 41) rfl)))
  obtain ⟨c8, i8, h8⟩ := u_known (lw_gW hat) wiX8 (hts _ (wb1 _ (List.mem_of_getElem? (i := 168) rfl)))
  obtain ⟨c9, i9, h9⟩ := u_known (lw_gW hat) wiX9 (hts _ (wb1 _ (List.mem_of_getElem? (i := 174) rfl)))
  obtain ⟨c10, i10, h10⟩ := u_known (lw_gW hat) wiX10 (hts _ (wb1 _ (List.mem_of_getElem? (i := 35) rfl)))
  obtain ⟨c11, i11, h11⟩ := u_known (lw_gW hat) wiX11 (hts _ (wb1 _ (List.mem_of_getElem? (i := 27) rfl)))
  obtain ⟨c12, i12, h12⟩ := u_known (lw_gW hat) wiX12 (hts _ (wb6 _ (List.mem_of_getElem? (i := 141) rfl)))
  refine ⟨fun k => [c0, c1, c2, c3, c4, c5, c6, c7, c8, c9, c10, c11, c12].getD k 0, fun k => [i0, i1, i2, i3, i4, i5, i6, i7, i8, i9, i10, i11, i12].getD k (fun _ => 0), fun c q hq => ?_, fun k q hk => by cases hk⟩
  match c, hq with
  | 0, hq => cases hq; exact h0
  | 1, hq => cases hq; exact h1
  | 2, hq => cases hq; exact h2
  | 3, hq => cases hq; exact h3
  | 4, hq => cases hq; exact h4
  | 5, hq => cases hq; exact h5
  | 6, hq => cases hq; exact h6
  | 7, hq => cases hq; exact h7
  | 8, hq => cases hq; exact h8
  | 9, hq => cases hq; exact h9
  | 10, hq => cases hq; exact h10
  | 11, hq => cases hq; exact h11
  | 12, hq => cases hq; exact h12
  | k + 13, hq => cases hq
theorem kn_nw {p : Program} {s : State} {m : MethodId} {meth : Method} {c : Code} {b L : Nat} {xs : Nat → Int32} (hat : lw_At p s m meth c b L xs) : g_nw nwL s := by
  have hts := hat.2.2.2.2.2.1
  refine ⟨fun q hq => ?_, va_AO.of (hts _ (wb2 _ (List.mem_of_getElem? (i := 29) rfl)))⟩
  simp only [nwL, List.mem_cons, List.not_mem_nil, or_false] at hq
  rcases hq with rfl | rfl | rfl | rfl | rfl | rfl | rfl | rfl | rfl | rfl
  · exact va_Nw.of rfl (hts _ (wb1 _ (List.mem_of_getElem? (i := 36) rfl)))
  · exact va_Nw.of rfl (hts _ (wb1 _ (List.mem_of_getElem? (i := 90) rfl)))
  · exact va_Nw.of rfl (hts _ (wb1 _ (List.mem_of_getElem? (i := 153) rfl)))
  · exact va_Nw.of rfl (hts _ (wb1 _ (List.mem_of_getElem? (i := 228) rfl)))
  · exact va_Nw.of rfl (hts _ (wb2 _ (List.mem_of_getElem? (i := 1) rfl)))
  · exact va_Nw.of rfl (hts _ (wb2 _ (List.mem_of_getElem? (i := 17) rfl)))
  · exact va_Nw.of rfl (hts _ (wb2 _ (List.mem_of_getElem? (i := 30) rfl)))
  · exact va_Nw.of rfl (hts _ (wb1 _ (List.mem_of_getElem? (i := 175) rfl)))
  · exact va_Nw.of rfl (hts _ (wb4 _ (List.mem_of_getElem? (i := 168) rfl)))
  · exact va_Nw.of rfl (hts _ (wb1 _ (List.mem_of_getElem? (i := 42) rfl)))
/-- the class as its constructor leaves it -/
def sX0 : gM := (fun p j => if p = 1 then (if j = 3 then -1 else 0) else if p = 0 then (if j = 14 then -1 else 0) else 0, fun _ => 0)
def sM0 : gM := (fun _ _ => 0, fun _ => 0)
theorem Inv_start : Inv 0 sX0 sM0 := by
  refine ⟨⟨0, fun _ => 0, by omega, rfl, rfl, fun k hk => by omega⟩, ⟨0, by omega, rfl, rfl, fun j hj => by omega⟩, fun k hk => rfl, Or.inl ?_⟩
  exact ⟨rfl, rfl, rfl, rfl, rfl, rfl, rfl, rfl, rfl, rfl, rfl, rfl, rfl, rfl, rfl⟩
