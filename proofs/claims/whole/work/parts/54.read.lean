def yL_read : MethodName := ⟨RL, "read", "(LStripeShelf;I[J)I"⟩
theorem dL_read_0 : decode cL_read 0 = .ok (.aload_n 2, 1) := by decide +kernel
theorem dL_read_1 : decode cL_read 1 = .ok (.iconst 0, 1) := by decide +kernel
theorem dL_read_2 : decode cL_read 2 = .ok (.aload_n 0, 1) := by decide +kernel
theorem dL_read_3 : decode cL_read 3 = .ok (.iload_n 1, 1) := by decide +kernel
theorem dL_read_4 : decode cL_read 4 = .ok (.invokevirtual 7, 3) := by decide +kernel
theorem dL_read_7 : decode cL_read 7 = .ok (.i2l, 1) := by decide +kernel
theorem dL_read_8 : decode cL_read 8 = .ok (.lastore, 1) := by decide +kernel
theorem dL_read_9 : decode cL_read 9 = .ok (.goto 6, 3) := by decide +kernel
theorem dL_read_12 : decode cL_read 12 = .ok (.astore_n 3, 1) := by decide +kernel
theorem dL_read_13 : decode cL_read 13 = .ok (.iconst 1, 1) := by decide +kernel
theorem dL_read_14 : decode cL_read 14 = .ok (.ireturn, 1) := by decide +kernel
theorem dL_read_15 : decode cL_read 15 = .ok (.iconst 0, 1) := by decide +kernel
theorem dL_read_16 : decode cL_read 16 = .ok (.ireturn, 1) := by decide +kernel
theorem dXr_11 : decode cX11_read 11 = .ok (.new 237, 3) := by decide +kernel
theorem dXr_14 : decode cX11_read 14 = .ok (.dup, 1) := by decide +kernel
theorem dXr_15 : decode cX11_read 15 = .ok (.ldc 239, 2) := by decide +kernel
theorem dXr_17 : decode cX11_read 17 = .ok (.invokespecial 241, 3) := by decide +kernel
theorem dXr_20 : decode cX11_read 20 = .ok (.athrow, 1) := by decide +kernel
theorem wvL_7 : g_V RL 7 yX11_read cX11_read 2 (some .int) 1 := ⟨gW_of (wb6 _ (List.mem_of_getElem? (i := 70) rfl)) rfl, gW_of (wb6 _ (List.mem_of_getElem? (i := 71) rfl)) rfl, gW_of (wb6 _ (List.mem_of_getElem? (i := 72) rfl)) rfl, gW_of (wb1 _ (List.mem_of_getElem? (i := 1) rfl)) rfl, gW_of (wb6 _ (List.mem_of_getElem? (i := 73) rfl)) rfl, by decide, by decide, rfl⟩
theorem rd_c1 : Cond.classLink RX11 237 nsE ∈ gW := gW_of (wb6 _ (List.mem_of_getElem? (i := 74) rfl)) rfl
theorem rd_c2 : Cond.initialized nsE ∈ gW := gW_of (wb1 _ (List.mem_of_getElem? (i := 25) rfl)) rfl
theorem rd_c3 : Cond.classLink RL 13 nsE ∈ gW := gW_of (wb6 _ (List.mem_of_getElem? (i := 69) rfl)) rfl
theorem rd_c4 : Cond.methodLink RL 66 yL_read ∈ gW := gW_of (wb6 _ (List.mem_of_getElem? (i := 66) rfl)) rfl
theorem rd_c5 : Cond.static yL_read ∈ gW := gW_of (wb6 _ (List.mem_of_getElem? (i := 67) rfl)) rfl
theorem rd_c6 : Cond.initialized RL ∈ gW := gW_of (wb1 _ (List.mem_of_getElem? (i := 0) rfl)) rfl
theorem rd_c7 : Cond.codeWith yL_read cL_read 4 (some .int) [(0, 9, 12, 13)] ∈ gW := gW_of (wb6 _ (List.mem_of_getElem? (i := 68) rfl)) rfl
def nsDcl : List Cond := [.declares (Bundle.initS nsR), .declares (Bundle.initS nsX), .declares (Bundle.initS Bundle.tN), .castable nsE nsE]
theorem rd_good : ∀ w ∈ (nsAt RX11 241).filter vx_no, (w ∈ lw_tbl ∧ goodWord w = true) ∨ w ∈ nsDcl := by decide +kernel
theorem rd_dcl : ∀ w ∈ nsDcl, w.onTables = true ∧ w ∈ lw_tbl := by decide +kernel
theorem rd_ot : ∀ w ∈ Cond.classLink RX11 237 nsE :: Cond.initialized nsE :: (nsAt RX11 241).filter vx_no, vx_ot w = true := by decide +kernel
section NSW
variable {p : Program} {l : Launch} {e : Env} {R : Room} {s : State} {m : MethodId} {args : Array Value} {below : List Frame} {meth : Method} {c : Code} {H : Heap} {locs : List Loc} {cells slots : Nat} {free : Addr → Prop} {Qc : Array Value → State → Outcome → State → Prop} {XC : String → State → State → Prop} {ls : Array Slot} {rest : List Value}
theorem ns_throw {cc : ByteArray} {pc : Nat} (hx : p.tables.exec = Jvm.exec) (hb : c.code = cc) (hl : l.stackTraces = false) {own text : String} {ik is ic mc ms sa : Nat} {A : Nat → Prop} (hown : s.vm.findClass own = some m.cls)
    (hk : (Cond.classLink own ik nsE).before args s = true) (hini : (Cond.initialized nsE).before args s = true) (hstr : vk_R own is text sa s) (hat : ∀ w ∈ (nsAt own ic).filter vx_no, w.before args s = true) (hgood : ∀ w ∈ Cond.classLink own ik nsE :: Cond.initialized nsE :: (nsAt own ic).filter vx_no, vx_ot w = true)
    (hU : vx_Zq Bundle.tN "UNASSIGNED_STACK" Bundle.steD A s s.heap) (hN : vx_Zq Bundle.tN "SUPPRESSED_SENTINEL" Bundle.listD A s s.heap) (hS : va_S A s.heap H locs) (hsize : ls.size = c.maxLocals)
    (d0 : decode cc pc = .ok (.new ik, 3)) (d3 : decode cc (pc + 3) = .ok (.dup, 1)) (d4 : decode cc (pc + 4) = .ok (.ldc is, 2)) (d6 : decode cc (pc + 6) = .ok (.invokespecial ic, 3)) (d9 : decode cc (pc + 9) = .ok (.athrow, 1)) (hout : ∀ x ∈ c.exceptionTable.toList, covers x (pc + 9) = false)
    (hRf : 5 < R.frames) (hRl : (rest.map fun v => v.category).sum + 82 ≤ R.locals) (hRc : cells + 1 ≤ R.cells) (hRs : slots + 6 ≤ R.slots) (hlocks : meth.locks = false)
    (hxc : ∀ t : State, s.vm.Alike t.vm → H.size ≤ t.heap.size → (∀ q : Nat, q < H.size → t.heap[q]? = H[q]?) → XC nsE s t) (hf : ∀ z ∈ locs, free z.base) (hc : cells + 1 ≤ mc) (hs : slots + 6 ≤ ms) :
    W p l e R s m args below meth c H locs cells slots (vx_MQ below Qc XC args s mc ms free) (F0 m pc ls rest) := by
  intro T hT X
  have htr : e.platform.stackTraces = false := (show e.platform.stackTraces = l.stackTraces by rw [X.admits.platform]).trans hl
  -- from here on a start of its own: the state as it stands
  have Y := vx_rebase X (R' := { frames := R.frames, locals := R.locals, cells := 1, slots := 6 }) (Nat.le_refl _) (Nat.le_refl _) hRc hRs
  obtain ⟨u, hu⟩ : ∃ z, z = (T.setVm s.vm).setFrames (.invoking m args :: below) := ⟨_, rfl⟩
  rw [← hu] at Y
  have hvm : u.vm = s.vm := by rw [hu]; rfl
  have hhp : u.heap = H := by rw [hu]; exact hT
  have hW0 : s.WarmedH u.vm := by rw [hvm]; exact State.WarmedH.refl s
  have hUu : vx_Zq Bundle.tN "UNASSIGNED_STACK" Bundle.steD A u u.heap := by rw [hhp]; exact vx_Zq.moved hW0.alike (hU.kept hS.2.1)
  have hNu : vx_Zq Bundle.tN "SUPPRESSED_SENTINEL" Bundle.listD A u u.heap := by rw [hhp]; exact vx_Zq.moved hW0.alike (hN.kept hS.2.1)
  have h : ∀ w ∈ nsAt own ic, w.before args u = true := vx_own (fun w hw => vx_ot_at hW0 hvm.symm (hgood w (List.mem_cons_of_mem _ (List.mem_cons_of_mem _ hw))) (hat w hw)) (vx_isRefq hUu.1) (vx_isRefq hNu.1) hUu.2.word hNu.2.word
  have hownu : u.vm.findClass own = some m.cls := by rw [hvm]; exact hown
  obtain ⟨vm₁, cX, kX, hfX, hkX, -, -, X₁, st1⟩ := Y.newCold hx (own := own) (C := nsE) (index := ik) (n := 6) hownu (vx_ot_at hW0 hvm.symm (hgood _ List.mem_cons_self) hk) (h _ (by simp [nsAt, nsW])) (vx_ot_at hW0 hvm.symm (hgood _ (List.mem_cons_of_mem _ List.mem_cons_self)) hini)
    (g := F0 m pc ls rest) rfl (by rw [hb]; exact d0) (Nat.le_refl _) (Nat.le_refl _)
  generalize hT1 : (T.setVm vm₁).pushCell { cls := cX, slots := kX.instanceTypes.map defaultValue, vm := .none } = T1 at X₁ st1
  have hcat : (Value.ref T.heap.size).category = 1 := rfl
  have hcellA : T1.heap[T.heap.size]? = some (freshCell cX kX) := by rw [← hT1]; exact State.heap_pushCell_size _ _
  have d3' : decode c.code (pc + 3) = .ok (.dup, 1) := by rw [hb]; exact d3
  have hstru : vk_R own is text sa u := vk_R.warm hW0 hstr
  obtain ⟨U, hsteps, hrun, hend, hW, hsame, ce, hce, hcl, hcv⟩ := ns_ctor X₁ hx htr (own := own) (ic := ic) hownu h (fun x hx => nomatch hx) hfX hkX hcellA (by rw [hhp, hT]; exact Nat.le_refl _) (msg := .ref sa) rfl
    (g := { method := m, pc := pc + 6, locals := ls, stack := .ref sa :: .ref T.heap.size :: .ref T.heap.size :: rest, locked := none }) rfl hsize rfl rfl (rest := rest) rfl (by rw [hb]; exact d6) (by rw [hb]; exact d9) hout hRf (by simp only [List.map_cons, List.sum_cons, hcat]; omega) hlocks
  obtain ⟨f1, f2⟩ := vx_frame hsame
  rw [hhp] at f1 f2
  have hWs : s.WarmedH U.vm := State.WarmedH.trans hW0 hW
  rw [hvm] at hcl
  have hall : s.sameButNew ({ U with vm := s.vm } : State) locs mc ms := by
    subst hu
    obtain ⟨e1, e2⟩ := hsame
    rw [State.setFrames_setFrames] at e1
    have h3 := X.same.trans (show (T.setVm s.vm).sameButNew ({ U with vm := s.vm } : State) [] (0 + 1) (0 + 6) from ⟨e1, e2⟩)
    rw [List.append_nil] at h3
    exact h3.mono hc hs
  refine ⟨U, ?_, .threw T.heap.size, hrun, hend, Or.inr ⟨T.heap.size, rfl, nsE, ce, locs, hxc U hWs.alike f1 (fun q hq => f2 q hq (fun z hz => nomatch hz)), hce, hcv, hcl, hWs, hall, hf⟩⟩
  refine st1 _ ?_
  show Steps p.tables e below (T1.setTop { method := m, pc := pc + 3, locals := ls, stack := .ref T.heap.size :: rest, locked := none }) _
  jvm_step X₁.here [X₁.here.top, hx, d3', Value.category]
  exact X₁.ldcString hx (own := own) (text := text) (index := is) (a := sa) hownu hstru.1 hstru.2
    (g := { method := m, pc := pc + 4, locals := ls, stack := .ref T.heap.size :: .ref T.heap.size :: rest, locked := none }) rfl (by rw [hb]; exact d4) _ hsteps
end NSW
/-- what the throw wants beside -/
def gET (ad : Nat → Nat) (X : (Nat → Prop) → State → Heap → Prop) : Prop := ∀ A U H, X A U H → vx_Zq Bundle.tN "UNASSIGNED_STACK" Bundle.steD A U H ∧ vx_Zq Bundle.tN "SUPPRESSED_SENTINEL" Bundle.listD A U H ∧ (∀ w ∈ nsDcl, va_Nw w U) ∧ vk_R RX11 239 "no such address" (ad 1030) U
section RDT
variable {l : Launch} {dC : Nat → ClassId} {dI : Nat → Nat → Nat} {ad : Nat → Nat} {ca : Nat → ClassId} {X : (Nat → Prop) → State → Heap → Prop}
def rdXC (dC : Nat → ClassId) (dI : Nat → Nat → Nat) (ad : Nat → Nat) (ca : Nat → ClassId) (σ : gM) (A : Nat → Prop) : String → State → State → Prop := vx_X (fun _ : Unit => True) (fun E _ t => E = nsE ∧ va_P (dC, dI) vwCl (g_w ad ca shX σ) t.heap) A
set_option maxRecDepth 100000 in
theorem rd_throw (hl0 : l.stackTraces = false) (hE : gEX l dC dI ad ca X) (hT : gET ad X) (hd0 : ∀ i j, i < 50 → j < 50 → ad i = ad j → i = j) {a1 : Int32} {σ : gM} (h : fX6_isAddress a1 σ = some (0, σ)) (sz : Nat) :
    vx_Met l yX11_read (Cond.code yX11_read cX11_read 2 (some .int) :: gW) { frames := 8, cells := 1, slots := 6, locals := 312 } (va_Pc [.ref (ad 0), .int a1] (fun U => U.heap.size = sz ∧ va_P (dC, dI) vwCl (g_w ad ca shX σ) U.heap ∧ va_K (dC, dI) vwCl (g_tys ca shX) U ∧ X (g_A ad shX sz) U U.heap)) (va_Qi (fun (_ : Int32) (_ : Unit) => False) (fun _ _ => True) (g_A ad shX sz)) (rdXC dC dI ad ca σ (g_A ad shX sz)) 1 6 (g_A ad shX sz) := by
  refine vx_ofW (cc := cX11_read) (maxL := 2) (ret := some .int) (by decide +kernel) rfl ?_
  intro p e s m args below meth c s₁ B hml htab hv
  obtain ⟨rfl, hsz, hP, hK, hX⟩ := hv
  subst hsz
  have hx := B.exec
  have hb := B.bytes
  have hts : ∀ w ∈ gW, w.before _ s = true := fun w h => atoms_spec (ws := Cond.code yX11_read cX11_read 2 (some .int) :: gW) B.pre w (List.mem_cons_of_mem _ h)
  have hown : s.vm.findClass RX11 = some m.cls := findClass_of_methodNamed B.named
  have hlocks := B.notSynchronized
  have hS : va_S (g_A ad shX s.heap.size) s.heap s.heap [] := va_S.rf
  have hl := lv_entry ([.ref (ad 0), .int a1]) (n := 2) (Nat.le_of_ble_eq_true rfl)
  rw [lg_entry_eq]
  generalize (lg_sl ([.ref (ad 0), .int a1]) ++ List.replicate (2 - (lg_sl ([.ref (ad 0), .int a1])).length) Slot.unset).toArray = ls at hl ⊢
  have hl : lv_has ls 2 [(0, .ref (ad 0)), (1, .int a1)] := hl
  refine lv_aload_n hx hb dX11_read_0 rfl (lv_at hl 0 rfl) ?_
  have he := g_w_at (ad := ad) (ca := ca) (σ := σ) (sh := shX) (k := 0) rfl
  refine va_get (D := (dC, dI)) (v := .ref (ad 5)) (C := RX11) (T := TX11) (N := 16) hx hb hts wiX11 hown hK hP 0 he rfl 1 (by decide) (hts _ (gW_of (wb2 _ (List.mem_of_getElem? (i := 32) rfl)) rfl)) (fun _ h9 => h9) rfl dX11_read_1 ?_
  refine lv_iload_n hx hb dX11_read_4 rfl (lv_at hl 1 rfl) ?_
  refine lw_call (own := RX11) (T := TX6) (N := 10) (q := 5) (ci := 6) (as := [.int a1]) (st := []) ⟨hx, hb, hml, hown, hts⟩ hE.1 wvX11_153 rfl rfl (kX6_isAddress hE a1 σ h) rfl ⟨rfl, rfl, by decide, by decide⟩ (Nat.le_of_ble_eq_true rfl) rfl dX11_read_5 hK hX (fun z hz => g_A_le hz) hP (lw_DX (n := 50) rfl hd0) hS hl.1 ⟨by decide, by decide⟩ (fun H locs hP hk hS => ?_)
  refine lv_if_ne (x := 0) (tgt := 21) hx hb dX11_read_8 (by decide) (fun c9 => absurd rfl c9) (fun _ => ?_)
  obtain ⟨hU, hN, hdc, hstr⟩ := hT _ _ _ hX
  exact ns_throw (pc := 11) (own := RX11) hx hb hl0 hown (hts _ rd_c1) (hts _ rd_c2) hstr (fun w hw => (rd_good w hw).elim (fun h9 => hts w (gW_of h9.1 h9.2)) (fun h9 => va_Nw.use (rd_dcl w h9).1 (hdc w h9))) rd_ot hU hN hS (by rw [hml]; exact hl.1) dXr_11 dXr_14 dXr_15 dXr_17 dXr_20 (fun x hx => (htab x hx).elim) (by decide) (by decide) (by decide) (by decide) hlocks
    (fun t hal hz hq => ⟨(), trivial, ⟨rfl, fun k q hk1 => (hP k q hk1).kept (hq _ (hP k q hk1).lt)⟩, Nat.le_trans hS.1 hz, fun q h1 h2 => by rw [hq q (Nat.lt_of_lt_of_le h1 hS.1)]; exact hS.2.1 q h1 h2⟩) hS.2.2 (by decide) (by decide)
end RDT
