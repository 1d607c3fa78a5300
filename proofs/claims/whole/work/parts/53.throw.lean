/-! read's throw: the exception's own constructor calls its superclass's by entry 13 -/
def nsE : String := "java/util/NoSuchElementException"
def nsR : String := "java/lang/RuntimeException"
def nsX : String := "java/lang/Exception"
def ns13 : ByteArray := ⟨#[0x2a, 0x2b, 0xb7, 0x00, 0x0d, 0xb1]⟩
theorem ns_0 : decode ns13 0 = .ok (.aload_n 0, 1) := by decide +kernel
theorem ns_1 : decode ns13 1 = .ok (.aload_n 1, 1) := by decide +kernel
theorem ns_2 : decode ns13 2 = .ok (.invokespecial 13, 3) := by decide +kernel
theorem ns_5 : decode ns13 5 = .ok (.return_, 1) := by decide +kernel
section NST
/-- the words of the exception itself -/
def nsW (own : String) (ic : Nat) : List Cond :=
  [.methodLink own ic (Bundle.initS nsE), .instantiable nsE 6, .selects nsE Bundle.tFill0 Bundle.tFill0, .selects nsE Bundle.tFill Bundle.tFill, .lays nsE Bundle.tN "cause" "Ljava/lang/Throwable;", .lays nsE Bundle.tN "stackTrace" Bundle.steD, .lays nsE Bundle.tN "suppressedExceptions" Bundle.listD, .lays nsE Bundle.tN "detailMessage" "Ljava/lang/String;", .lays nsE Bundle.tN "backtrace" "Ljava/lang/Object;", .lays Bundle.tN Bundle.tN "backtrace" "Ljava/lang/Object;", .fieldLink Bundle.tN 198 Bundle.tN "backtrace" "Ljava/lang/Object;", .isRef (.static Bundle.tN "UNASSIGNED_STACK" Bundle.steD), .isRef (.static Bundle.tN "SUPPRESSED_SENTINEL" Bundle.listD)]
def nsAt (own : String) (ic : Nat) : List Cond := nsW own ic ++ (Bundle.throwableAtoms ++ (Bundle.throwableSAtoms ++ (Bundle.passSAtoms nsE nsR 13 ns13 ++ Bundle.chainSAtoms nsR [nsX])))
variable {p : Program} {l : Launch} {e : Env} {R : Room} {s : State} {m : MethodId} {args : Array Value} {below : List Frame} {meth : Method} {c : Code} {T : State} {locs : List Loc} {cells slots : Nat}
set_option maxHeartbeats 1000000 in
theorem ns_ctor (X : Stand p l e R s m args below meth c T locs cells slots) (hx : p.tables.exec = Jvm.exec) (htr : e.platform.stackTraces = false) {own : String} {ic : Nat} (hown : s.vm.findClass own = some m.cls)
    (h : ∀ w ∈ nsAt own ic, w.before args s = true) (hlocs : ∀ x ∈ locs, ∀ cell, s.heap[x.base]? = some cell → cell.vm.isStatics = false)
    {a : Addr} {cX : ClassId} {kX : Class} (hfX : s.vm.findClass nsE = some cX) (hkX : s.vm.classes[cX]? = some kX) (hcell : T.heap[a]? = some (freshCell cX kX)) (hnew : s.heap.size ≤ a) {msg : Value} (hmsg : msg.isRef = true)
    {g : JFrame} (hg : g.method = m) (hsize : g.locals.size = c.maxLocals) (hlocked : g.locked = none) (hentered : g.entered = []) {rest : List Value} (hstack : g.stack = msg :: .ref a :: .ref a :: rest)
    (d6 : decode c.code g.pc = .ok (.invokespecial ic, 3)) (d9 : decode c.code (g.pc + 3) = .ok (.athrow, 1)) (hout : ∀ x ∈ c.exceptionTable.toList, covers x (g.pc + 3) = false)
    (hRf : 5 < R.frames) (hRl : 2 * g.monitorRoom + ((Value.ref a :: rest).map fun v => v.category).sum + 81 ≤ R.locals) (hlocks : meth.locks = false) :
    ∃ U : State, Steps p.tables e below (T.setTop g) U ∧ U.status = .running ∧ Ended U below (.threw a) ∧ s.WarmedH U.vm ∧ s.sameButNew ({ U with vm := s.vm } : State) locs cells slots ∧ ∃ ce, U.heap[a]? = some ce ∧ s.vm.findClass nsE = some ce.cls ∧ ce.vm = .none := by
  have hpf := X.admits.platform
  have hpl : e.platform.magicAccessors = ({} : Platform).magicAccessors := by rw [hpf]
  have hW : ∀ w, w ∈ nsW own ic → w.holds args s none s [] = true := fun w hw => h w (List.mem_append.mpr (Or.inl hw))
  have hR1 : ∀ w, w ∈ Bundle.throwableAtoms ++ (Bundle.throwableSAtoms ++ (Bundle.passSAtoms nsE nsR 13 ns13 ++ Bundle.chainSAtoms nsR [nsX])) → w.before args s = true := fun w hw => h w (List.mem_append.mpr (Or.inr hw))
  have hR2 : ∀ w, w ∈ Bundle.throwableSAtoms ++ (Bundle.passSAtoms nsE nsR 13 ns13 ++ Bundle.chainSAtoms nsR [nsX]) → w.before args s = true := fun w hw => hR1 w (List.mem_append.mpr (Or.inr hw))
  have hR3 : ∀ w, w ∈ Bundle.passSAtoms nsE nsR 13 ns13 → w.before args s = true := fun w hw => hR2 w (List.mem_append.mpr (Or.inr (List.mem_append.mpr (Or.inl hw))))
  obtain ⟨TC, Z0, L, -, Y⟩ := ThrowableC.of_atoms (args := args) (show e.platform.frameOwnsMonitors = true by rw [hpf]) (show e.platform.finalization = false by rw [hpf]) hpl (fun w hw => hR1 w (List.mem_append.mpr (Or.inl hw)))
  obtain ⟨Z, M, LZ, LM, hnZ⟩ := Init0T.ofS_atoms (args := args) hpl L Y (fun w hw => hR2 w (List.mem_append.mpr (Or.inl hw)))
  obtain ⟨P0, LP0, hP0m, hP0s⟩ := PassC.ofS_atoms (args := args) (s := s) hpl (X := nsE) (Y := nsR) (by decide) (by decide) ns_0 ns_1 ns_2 ns_5 hR3
  obtain ⟨P1, Ps, hlen, LP1, LPs, hP1m, hlink1, hlink⟩ := Bundle.chainS (args := args) hpl hnZ [nsX] nsR (by decide +kernel) (by decide +kernel) (fun w hw => hR2 w (List.mem_append.mpr (Or.inr (List.mem_append.mpr (Or.inr hw)))))
  have hsup : P0.sup = P1.m := Option.some.inj (hP0s.symm.trans hP1m)
  have hfound : s.vm.findClass nsE = some P0.m.cls := findClass_of_methodNamed hP0m
  cases Option.some.inj (hfX.symm.trans hfound)
  obtain ⟨c1, k1, hc1, hk1, hord, -, -, hn6⟩ := Cond.instantiable_spec (hW (.instantiable nsE 6) (by simp [nsW]))
  cases Option.some.inj (hc1.symm.trans hfound)
  cases Option.some.inj (hkX.symm.trans hk1)
  have hsel0 : selectMethod e.platform s.vm P0.m.cls TC.fill0 = .method TC.fill0 := by
    obtain ⟨c2, r2, m2, q1, q2, q3, q4, -⟩ := Cond.selects_spec (hW (.selects nsE Bundle.tFill0 Bundle.tFill0) (by simp [nsW]))
    cases Option.some.inj (q1.symm.trans hfound)
    cases Option.some.inj (q2.symm.trans (State.methodFound?_of_named Y.fill0 (by decide)))
    cases Option.some.inj (q3.symm.trans Y.fill0)
    rw [Launch.admits_selectMethod X.admits]; exact q4
  have hselF : selectMethod e.platform s.vm P0.m.cls TC.fill = .method TC.fill := by
    obtain ⟨c2, r2, m2, q1, q2, q3, q4, -⟩ := Cond.selects_spec (hW (.selects nsE Bundle.tFill Bundle.tFill) (by simp [nsW]))
    cases Option.some.inj (q1.symm.trans hfound)
    cases Option.some.inj (q2.symm.trans (State.methodFound?_of_named Y.fill (by decide)))
    cases Option.some.inj (q3.symm.trans Y.fill)
    rw [Launch.admits_selectMethod X.admits]; exact q4
  -- the two constants of Throwable, as they stand now
  obtain ⟨cS0, hcS0, hiss⟩ := Y.statics
  obtain ⟨u0, hu0⟩ := Cond.staticRefV Y.unassigned L.unassignedStatic L.statics hcS0 hiss (hW (.isRef (.static Bundle.tN "UNASSIGNED_STACK" Bundle.steD)) (by simp [nsW]))
  obtain ⟨sen, hsen⟩ := Cond.staticRefV Y.sentinel L.sentinelStatic L.statics hcS0 hiss (hW (.isRef (.static Bundle.tN "SUPPRESSED_SENTINEL" Bundle.listD)) (by simp [nsW]))
  obtain ⟨cS, hcS, heS, -, hkeep⟩ := X.same.2.2.2.2.2 TC.aS cS0 hcS0
  have hnot : ∀ i, (⟨TC.aS, i⟩ : Loc) ∉ locs := fun i hm => by
    have h9 := hlocs _ hm cS0 hcS0
    rw [hiss] at h9
    cases h9
  have hkS : cS.vm ≠ .unknown := by
    rw [heS]
    intro hu
    rw [show cS0.vm = .unknown from hu] at hiss
    cases hiss
  have hneS : TC.aS ≠ a := Nat.ne_of_lt (Nat.lt_of_lt_of_le (Array.getElem?_eq_some_iff.mp hcS0).1 hnew)
  -- where its fields lie
  obtain ⟨iM, hffM⟩ := Y.msg
  obtain ⟨ci, i198, fB, hkB, hgB, haB, hsB, -, hnB, htB, hffB⟩ := Cond.ownField (t := .object "java/lang/Object") Y.found L.cls (by decide +kernel) (hW (.fieldLink Bundle.tN 198 Bundle.tN "backtrace" "Ljava/lang/Object;") (by simp [nsW])) (hW (.lays Bundle.tN Bundle.tN "backtrace" "Ljava/lang/Object;") (by simp [nsW])) e.platform hpl
  obtain ⟨tyC, dC, hdC, hnC⟩ := Cond.laysAt hfound hk1 Y.cause (hW (.lays nsE Bundle.tN "cause" "Ljava/lang/Throwable;") (by simp [nsW]))
  obtain ⟨tyS, dS, hdS, hnS⟩ := Cond.laysAt hfound hk1 Y.stack (hW (.lays nsE Bundle.tN "stackTrace" Bundle.steD) (by simp [nsW]))
  obtain ⟨tyP, dP, hdP, hnP⟩ := Cond.laysAt hfound hk1 Y.supp (hW (.lays nsE Bundle.tN "suppressedExceptions" Bundle.listD) (by simp [nsW]))
  obtain ⟨tyM, dM, hdM, hnM⟩ := Cond.laysAt hfound hk1 hffM (hW (.lays nsE Bundle.tN "detailMessage" "Ljava/lang/String;") (by simp [nsW]))
  obtain ⟨tyB, dB, hdB, hnB'⟩ := Cond.laysAt hfound hk1 hffB (hW (.lays nsE Bundle.tN "backtrace" "Ljava/lang/Object;") (by simp [nsW]))
  have bC := Cond.laysApart hdB hdC hnB' hnC (by rw [hnB, Y.causeName]; decide)
  have bS := Cond.laysApart hdB hdS hnB' hnS (by rw [hnB, Y.stackName]; decide)
  have bP := Cond.laysApart hdB hdP hnB' hnP (by rw [hnB, Y.suppName]; decide)
  have hskip : SkipFacts TC e.platform s (fun u => u) u0 ((preparedCellV TC.toThrowableT (freshCell P0.m.cls kX) a u0 sen).withEntry T.cur) :=
    ⟨{ ci198 := ci, i198 := i198, fBack := fB }, ⟨hkB, hgB, haB, hsB⟩, by
      have h9 := fresh_default (c := P0.m.cls) tyB
      rw [htB] at h9
      simpa [preparedCellV, Cell.setSlot, Cell.withEntry, Array.getElem?_setIfInBounds, bC, bS, bP, bC.symm, bS.symm, bP.symm, defaultValue] using h9, fun _ _ => rfl⟩
  -- the call, the chain, the throw
  obtain ⟨tm, methC, cdC, kC, vm₁, hnm, -, -, -, -, -, -, -, hW₁, st1⟩ := Steps.initColdS (tb := p.tables) (e := e) (below := below) (s := s) (U := T) X.here hx X.warmed hpl hown (t := Bundle.initS nsE) rfl rfl (by decide)
    (hW (.methodLink own ic (Bundle.initS nsE)) (by simp [nsW])) (hR3 (.instanceMethod (Bundle.initS nsE)) (by simp [Bundle.passSAtoms])) (bytes := ns13) (maxL := 2) (hR3 (.code (Bundle.initS nsE) ns13 2 none) (by simp [Bundle.passSAtoms])) (f := g) hg (a := a) (msg := msg) (rest := .ref a :: rest) hstack d6
  cases Option.some.inj (hnm.symm.trans hP0m)
  have X₁ := X.noted hW₁
  obtain ⟨vm₂, X₂, st2⟩ := X₁.ctorMessageOffV hx (g := { g with stack := .ref a :: rest }) hg hsize TC L Z LZ M LM (P0 :: P1 :: Ps)
    (fun P hP => by
      rcases List.mem_cons.mp hP with rfl | hP
      · exact LP0
      · rcases List.mem_cons.mp hP with rfl | hP
        · exact LP1
        · exact LPs P hP) ⟨hsup, hlink1, hlink⟩ (u0 := u0) (sen := sen) (self := a) hmsg (cell := freshCell P0.m.cls kX) (cellS := cS)
    hcell (fun _ => by simp) (by simp) rfl rfl hsel0 hselF hcS hneS hkS (by rw [hkeep _ (hnot _)]; exact hu0) (by rw [hkeep _ (hnot _)]; exact hsen)
    (Takes.of_laid hk1 hord tyC (by rw [Y.causeType]; rfl)) (Takes.of_laid hk1 hord tyS (by rw [Y.stackType]; exact fits_refV_array _ u0)) (Takes.of_laid hk1 hord tyP (by rw [Y.suppType]; exact fits_refV_object _ sen))
    (Takes.of_laid hk1 hord tyM (by rw [Y.msgType]; exact fits_refV_object _ ⟨msg, hmsg⟩)) Y.objLocals hskip htr [] d6
    (by simp only [List.length_cons, hlen, List.length_nil]; omega) (by simp only [List.length_cons, hlen, List.length_nil]; omega)
  obtain ⟨hwalk, hrun, hended, hWU, hsame⟩ := X₂.athrowLeaves hx (g := { g with stack := .ref a :: rest, pc := g.pc + 3 }) hg hlocked hentered hout (a := a) (rest := rest) rfl d9 hlocks
  have hlt : a < ((T.setVm vm₁).setVm vm₂).heap.size := (Array.getElem?_eq_some_iff.mp hcell).1
  have hU := heapAt_setCell_self (s := (T.setVm vm₁).setVm vm₂) (plainBareV TC.toThrowableT (freshCell P0.m.cls kX) a u0 sen msg) hlt
  refine ⟨_, st1 _ (fun acts => ?_), hrun, hended, hWU, hsame.weaken (fun y hy hlt' => ?_) (Nat.le_refl _) (Nat.le_refl _), _, hU, hfound, rfl⟩
  · rw [doInvoke_state]
    exact st2 _ hwalk
  · rcases List.mem_append.mp hy with h1 | h1
    · exact h1
    · exfalso
      have hb : y.base = a := by
        simp only [List.mem_cons, List.not_mem_nil, or_false] at h1
        rcases h1 with rfl | rfl | rfl | rfl | rfl <;> rfl
      rw [hb] at hlt'
      exact Nat.not_lt.mpr hnew hlt'
end NST
