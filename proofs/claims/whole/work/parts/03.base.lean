def g_us (x y : Int32) : Int32 := (x.toUInt32 >>> (y.toUInt32 &&& Int32.toUInt32 31)).toInt32
def g_ul (x : Int64) (y : Int32) : Int64 := (x.toUInt64 >>> (y.toInt64.toUInt64 &&& Int64.toUInt64 63)).toInt64
/-! ===== the picture of a side: places, a shape that never changes, and what is in it (ints by place and index, one long a place) ===== -/
abbrev gM : Type := (Nat → Nat → Int32) × (Nat → Int64)
abbrev gE : Type := (FieldType × Nat) ⊕ ((Nat × List (Option (Option Nat))) ⊕ (List Nat))
def g_v (ad : Nat → Nat) (v : Value) : Value := match v with
  | .ref k => .ref (ad k)
  | w => w
theorem g_v_cat (ad : Nat → Nat) (v : Value) : (g_v ad v).category = v.category := by cases v <;> rfl
def g_fv (ad : Nat → Nat) (σ : gM) (k j : Nat) (s : Option (Option Nat)) : Value := match s with
  | none => .long (σ.2 k)
  | some none => .int (σ.1 k j)
  | some (some q) => .ref (ad q)
def g_e (ad : Nat → Nat) (ca : Nat → ClassId) (σ : gM) (k : Nat) (e : gE) : va_E := match e with
  | .inl q => .inl (ca k, q.2, .inl (σ.1 k))
  | .inr (.inl q) => .inr (q.1, q.2.mapIdx (fun j s => g_fv ad σ k j s))
  | .inr (.inr qs) => .inl (ca k, qs.length, .inr (.inr (.inr (.inr (fun j => (qs[j]?).map ad)))))
def g_w (ad : Nat → Nat) (ca : Nat → ClassId) (sh : List gE) (σ : gM) : va_W := sh.mapIdx (fun k e => (ad k, g_e ad ca σ k e))
theorem g_w_at {ad : Nat → Nat} {ca : Nat → ClassId} {sh : List gE} {σ : gM} {k : Nat} {e : gE} (h : sh[k]? = some e) : (g_w ad ca sh σ)[k]? = some (ad k, g_e ad ca σ k e) := by
  simp [g_w, List.getElem?_mapIdx, h]
theorem g_w_of {ad : Nat → Nat} {ca : Nat → ClassId} {sh : List gE} {σ : gM} {k : Nat} {q : Nat × va_E} (h : (g_w ad ca sh σ)[k]? = some q) : k < sh.length ∧ q.1 = ad k := by
  simp only [g_w, List.getElem?_mapIdx] at h
  cases h1 : sh[k]? with
  | none => rw [h1] at h; cases h
  | some e =>
    rw [h1] at h
    obtain rfl := Option.some.inj h
    exact ⟨(List.getElem?_eq_some_iff.mp h1).1, rfl⟩
theorem g_w_set {ad : Nat → Nat} {ca : Nat → ClassId} {sh : List gE} {σ τ : gM} {k : Nat} {e : gE} (h : sh[k]? = some e) (h1 : ∀ p, p ≠ k → τ.1 p = σ.1 p) (h2 : ∀ p, p ≠ k → τ.2 p = σ.2 p) :
    (g_w ad ca sh σ).set k (ad k, g_e ad ca τ k e) = g_w ad ca sh τ := by
  apply List.ext_getElem?
  intro i
  rw [List.getElem?_set]
  by_cases hi : k = i
  · subst hi
    have hl : k < (g_w ad ca sh σ).length := by simp only [g_w, List.length_mapIdx]; exact (List.getElem?_eq_some_iff.mp h).1
    rw [if_pos rfl, if_pos hl, g_w_at h]
  · rw [if_neg hi]
    simp only [g_w, List.getElem?_mapIdx]
    cases hs : sh[i]? with
    | none => rfl
    | some x =>
      have e1 := h1 i (fun q => hi q.symm)
      have e2 := h2 i (fun q => hi q.symm)
      rcases x with x | x | x
      · simp only [Option.map_some, g_e, e1]
      · simp only [Option.map_some, g_e, g_fv, e1, e2]
      · rfl
def g_put (σ : gM) (k i : Nat) (x : Int32) : gM := (fun p j => if p = k ∧ j = i then x else σ.1 p j, σ.2)
def g_row (σ : gM) (k : Nat) (f : Nat → Int32) : gM := (fun p => if p = k then f else σ.1 p, σ.2)
def g_lng (σ : gM) (k : Nat) (x : Int64) : gM := (σ.1, fun p => if p = k then x else σ.2 p)
theorem g_put_k (σ : gM) (k i : Nat) (x : Int32) : (g_put σ k i x).1 k = upd (σ.1 k) i x := by
  funext j
  simp only [g_put, upd, true_and]
theorem g_put_o (σ : gM) (k i : Nat) (x : Int32) (p : Nat) (h : p ≠ k) : (g_put σ k i x).1 p = σ.1 p := by
  funext j
  simp only [g_put]
  rw [if_neg (fun q => h q.1)]
theorem g_put_e {ad : Nat → Nat} {ca : Nat → ClassId} {σ : gM} {k i ci : Nat} {x : Int32} {sl : List (Option (Option Nat))} (hk : sl[i]? = some (some none)) :
    (sl.mapIdx (fun j s => g_fv ad σ k j s)).set i (.int x) = sl.mapIdx (fun j s => g_fv ad (g_put σ k i x) k j s) := by
  apply List.ext_getElem?
  intro j
  rw [List.getElem?_set]
  by_cases hj : i = j
  · subst hj
    have hl : i < sl.length := (List.getElem?_eq_some_iff.mp hk).1
    rw [if_pos rfl, if_pos (by simpa using hl)]
    simp [List.getElem?_mapIdx, hk, g_fv, g_put]
  · rw [if_neg hj]
    simp only [List.getElem?_mapIdx]
    cases hs : sl[j]? with
    | none => rfl
    | some s =>
      rcases s with _ | _ | q
      · rfl
      · simp only [Option.map_some, g_fv, g_put]
        rw [if_neg (fun q => hj q.2.symm)]
      · rfl
theorem g_lng_e {ad : Nat → Nat} {σ : gM} {k i : Nat} {x : Int64} {sl : List (Option (Option Nat))} (hk : sl[i]? = some none) (hu : ∀ j, sl[j]? = some none → j = i) :
    (sl.mapIdx (fun j s => g_fv ad σ k j s)).set i (.long x) = sl.mapIdx (fun j s => g_fv ad (g_lng σ k x) k j s) := by
  apply List.ext_getElem?
  intro j
  rw [List.getElem?_set]
  by_cases hj : i = j
  · subst hj
    have hl : i < sl.length := (List.getElem?_eq_some_iff.mp hk).1
    rw [if_pos rfl, if_pos (by simpa using hl)]
    simp [List.getElem?_mapIdx, hk, g_fv, g_lng]
  · rw [if_neg hj]
    simp only [List.getElem?_mapIdx]
    cases hs : sl[j]? with
    | none => rfl
    | some s =>
      rcases s with _ | _ | q
      · exact absurd (hu j hs).symm hj
      · rfl
      · rfl
def g_ty (e : gE) : Option FieldType := match e with
  | .inl q => some q.1
  | .inr (.inl _) => none
  | .inr (.inr _) => some (.object "StripeShelf$Script")
def g_tys (ca : Nat → ClassId) (sh : List gE) : List (ClassId × FieldType) := (List.range sh.length).filterMap (fun k => (sh[k]?).bind (fun e => (g_ty e).map (fun t => (ca k, t))))
theorem g_tys_at {ca : Nat → ClassId} {sh : List gE} {k : Nat} {e : gE} {t : FieldType} (h : sh[k]? = some e) (ht : g_ty e = some t) : ∃ i : Nat, (g_tys ca sh)[i]? = some (ca k, t) := by
  apply List.getElem?_of_mem
  apply List.mem_filterMap.mpr
  refine ⟨k, List.mem_range.mpr (List.getElem?_eq_some_iff.mp h).1, ?_⟩
  rw [h]
  show (g_ty e).map (fun t => (ca k, t)) = some (ca k, t)
  rw [ht]
  rfl
def g_A (ad : Nat → Nat) (sh : List gE) (sz : Nat) : Nat → Prop := fun q => (∃ k, k < sh.length ∧ ad k = q) ∨ sz ≤ q
theorem g_A_le {ad : Nat → Nat} {sh : List gE} {a b : Nat} (h : a ≤ b) : ∀ q, g_A ad sh b q → g_A ad sh a q := fun q hq => hq.elim Or.inl (fun z => Or.inr (Nat.le_trans h z))
def gW : List Cond := lw_tbl.filter goodWord
theorem gW_of {w : Cond} (h : w ∈ lw_tbl) (hg : goodWord w = true) : w ∈ gW := List.mem_filter.mpr ⟨h, hg⟩
theorem gW_good {y : MethodName} {cc : ByteArray} {nL : Nat} {ret : Option FieldType} (h : Cond.code y cc nL ret ∈ gW) : GoodIn gW (Cond.code y cc nL ret :: gW) := by
  intro w hw
  rcases List.mem_cons.mp hw with rfl | hw
  · exact ⟨h, good_of_word (List.mem_filter.mp h).2⟩
  · exact ⟨hw, good_of_word (List.mem_filter.mp hw).2⟩
/-- what a side knows beside its own cells (arrays of constants, texts, links of mates): it moves, it stays, it narrows -/
def g_X (X : (Nat → Prop) → State → Heap → Prop) : Prop :=
  (∀ (A : Nat → Prop) (s U : State) (H : Heap), s.WarmedH U.vm → X A s H → X A U H) ∧ (∀ (A : Nat → Prop) (U : State) (H H1 : Heap), (∀ a : Nat, a < H.size → ¬ A a → H1[a]? = H[a]?) → X A U H → X A U H1) ∧ (∀ (A B : Nat → Prop) (U : State) (H : Heap), (∀ q, B q → A q) → X A U H → X B U H)
def g_Q (dC : Nat → ClassId) (dI : Nat → Nat → Nat) (ad : Nat → Nat) (ca : Nat → ClassId) (sh : List gE) (r : Option Value) (σ' : gM) (A : Nat → Prop) : Array Value → State → Outcome → State → Prop := fun _ st o t =>
  (o = .returned (r.map (g_v ad)) ∧ va_P (dC, dI) vwCl (g_w ad ca sh σ') t.heap) ∧ va_F A st t
/-- a method's contract: from the picture σ it answers r and leaves σ' -/
def g_C (l : Launch) (dC : Nat → ClassId) (dI : Nat → Nat → Nat) (ad : Nat → Nat) (ca : Nat → ClassId) (sh : List gE) (X : (Nat → Prop) → State → Heap → Prop) (y : MethodName) (cc : ByteArray) (nL : Nat) (ret : Option FieldType) (rm : Room) (as : List Value) (σ : gM) (r : Option Value) (σ' : gM) : Prop :=
  ∀ sz : Nat, Met l y (Cond.code y cc nL ret :: gW) rm (va_Pc (as.map (g_v ad)) (fun U => U.heap.size = sz ∧ va_P (dC, dI) vwCl (g_w ad ca sh σ) U.heap ∧ va_K (dC, dI) vwCl (g_tys ca sh) U ∧ va_D (g_A ad sh sz) (g_w ad ca sh σ) ∧ X (g_A ad sh sz) U U.heap)) (g_Q dC dI ad ca sh r σ' (g_A ad sh sz)) 0 0 (g_A ad sh sz)
abbrev g_at (ad : Nat → Nat) (lv : List (Nat × Value)) : List (Nat × Value) := lv.map (fun q => (q.1, g_v ad q.2))
abbrev g_K (cc : ByteArray) (nL : Nat) (own : String) (ret : Option FieldType) (p : Program) (s : State) (m : MethodId) (args : Array Value) (meth : Method) (c : Code) : Prop :=
  p.tables.exec = Jvm.exec ∧ c.code = cc ∧ c.maxLocals = nL ∧ s.vm.findClass own = some m.cls ∧ (∀ w ∈ gW, w.before args s = true) ∧ meth.sig.returnType = ret ∧ meth.locks = false
/-- a body from the point pc on: with the locals lv, the stack st and the picture σ it comes to its end, answers r and leaves σ' -/
def g_G (l : Launch) (dC : Nat → ClassId) (dI : Nat → Nat → Nat) (ad : Nat → Nat) (ca : Nat → ClassId) (sh : List gE) (X : (Nat → Prop) → State → Heap → Prop) (cc : ByteArray) (nL : Nat) (own : String) (ret : Option FieldType) (R : Room) (r : Option Value) (σ' : gM) (pc : Nat) (lv : List (Nat × Value)) (st : List Value) (σ : gM) : Prop :=
  ∀ (p : Program) (e : Env) (s : State) (m : MethodId) (args : Array Value) (below : List Frame) (meth : Method) (c : Code) (H : Heap) (locs : List Loc) (ls : Array Slot),
    g_K cc nL own ret p s m args meth c → va_K (dC, dI) vwCl (g_tys ca sh) s → X (g_A ad sh s.heap.size) s s.heap → va_P (dC, dI) vwCl (g_w ad ca sh σ) H → va_D (g_A ad sh s.heap.size) (g_w ad ca sh σ) → va_S (g_A ad sh s.heap.size) s.heap H locs → lv_has ls nL (g_at ad lv) →
    W p l e R s m args below meth c H locs 0 0 (MQ below (g_Q dC dI ad ca sh r σ' (g_A ad sh s.heap.size)) args s 0 0 (g_A ad sh s.heap.size)) (F0 m pc ls (st.map (g_v ad)))
theorem g_lv_args (ad : Nat → Nat) : ∀ (vs : List Value) (i : Nat), lv_args i (vs.map (g_v ad)) = g_at ad (lv_args i vs)
  | [], _ => rfl
  | v :: vs, i => by
    show (i, g_v ad v) :: lv_args (if (g_v ad v).category = 2 then i + 2 else i + 1) (vs.map (g_v ad)) = (i, g_v ad v) :: g_at ad (lv_args (if v.category = 2 then i + 2 else i + 1) vs)
    rw [g_v_cat, g_lv_args ad vs]
theorem g_lg_sl (ad : Nat → Nat) : ∀ (vs : List Value), (lg_sl (vs.map (g_v ad))).length = (lg_sl vs).length
  | [] => rfl
  | v :: vs => by
    have h := g_lg_sl ad vs
    simp only [lg_sl, List.map_cons, List.flatMap_cons, List.length_append, g_v_cat] at h ⊢
    rw [h]
    by_cases hc : v.category = 2
    · rw [if_pos hc, if_pos hc]; rfl
    · rw [if_neg hc, if_neg hc]; rfl
section GG
variable {l : Launch} {dC : Nat → ClassId} {dI : Nat → Nat → Nat} {ad : Nat → Nat} {ca : Nat → ClassId} {sh : List gE} {X : (Nat → Prop) → State → Heap → Prop} {cc : ByteArray} {nL : Nat} {own : String} {ret : Option FieldType} {R : Room} {r : Option Value} {σ σ' : gM} {pc : Nat} {lv : List (Nat × Value)} {st : List Value}
theorem g_entry {y : MethodName} {rm : Room} {as : List Value} (hy : plainFor y = true) (hn : (lg_sl as).length ≤ nL) (k : g_G l dC dI ad ca sh X cc nL y.cls ret rm r σ' 0 (lv_args 0 as) [] σ) : g_C l dC dI ad ca sh X y cc nL ret rm as σ r σ' := by
  intro sz
  refine va_MetF (cc := cc) (maxL := nL) (ret := ret) hy rfl ?_
  intro p e s m args below meth c s₁ B hml hv
  obtain ⟨rfl, hsz, hP, hK, hD, hX⟩ := hv
  subst hsz
  have hts := atoms_spec (ws := Cond.code y cc nL ret :: gW) B.pre
  have hl := lv_entry (as.map (g_v ad)) (n := nL) (by rw [g_lg_sl]; exact hn)
  rw [g_lv_args] at hl
  rw [lg_entry_eq]
  exact k p e s m _ below meth c s.heap [] _ ⟨B.exec, B.bytes, hml, findClass_of_methodNamed B.named, fun w h => hts w (List.mem_cons_of_mem _ h), B.returns, B.notSynchronized⟩ hK hX hP hD va_S.rf hl

theorem g_iconst {n : Int} {v : Int32} (hd : decode cc pc = .ok (.iconst n, 1)) (hv : Int32.ofInt n = v) (k : g_G l dC dI ad ca sh X cc nL own ret R r σ' (pc + 1) lv (.int v :: st) σ) : g_G l dC dI ad ca sh X cc nL own ret R r σ' (pc) lv (st) σ := by
  intro p e s m args below meth c H locs ls hc hK hX hP hD hS hl
  exact lv_iconst hc.1 hc.2.1 hd hv (k p e s m args below meth c H locs ls hc hK hX hP hD hS hl)

theorem g_bipush {n : Int} {v : Int32} (hd : decode cc pc = .ok (.bipush n, 2)) (hv : (Int8.ofInt n).toInt32 = v) (k : g_G l dC dI ad ca sh X cc nL own ret R r σ' (pc + 2) lv (.int v :: st) σ) : g_G l dC dI ad ca sh X cc nL own ret R r σ' (pc) lv (st) σ := by
  intro p e s m args below meth c H locs ls hc hK hX hP hD hS hl
  exact lv_bipush hc.1 hc.2.1 hd hv (k p e s m args below meth c H locs ls hc hK hX hP hD hS hl)

theorem g_sipush {n : Int} {v : Int32} (hd : decode cc pc = .ok (.sipush n, 3)) (hv : (Int16.ofInt n).toInt32 = v) (k : g_G l dC dI ad ca sh X cc nL own ret R r σ' (pc + 3) lv (.int v :: st) σ) : g_G l dC dI ad ca sh X cc nL own ret R r σ' (pc) lv (st) σ := by
  intro p e s m args below meth c H locs ls hc hK hX hP hD hS hl
  exact lv_sipush hc.1 hc.2.1 hd hv (k p e s m args below meth c H locs ls hc hK hX hP hD hS hl)

theorem g_lconst {n : Fin 2} {v : Int64} (hd : decode cc pc = .ok (.lconst n, 1)) (hv : Int64.ofNat (n : Nat) = v) (k : g_G l dC dI ad ca sh X cc nL own ret R r σ' (pc + 1) lv (.long v :: st) σ) : g_G l dC dI ad ca sh X cc nL own ret R r σ' (pc) lv (st) σ := by
  intro p e s m args below meth c H locs ls hc hK hX hP hD hS hl
  exact lv_lconst hc.1 hc.2.1 hd hv (k p e s m args below meth c H locs ls hc hK hX hP hD hS hl)

theorem g_ldc {idx : Nat} {v : Int32} (hw : Cond.constant own idx v ∈ gW) (hd : decode cc pc = .ok (.ldc idx, 2)) (k : g_G l dC dI ad ca sh X cc nL own ret R r σ' (pc + 2) lv (.int v :: st) σ) : g_G l dC dI ad ca sh X cc nL own ret R r σ' (pc) lv (st) σ := by
  intro p e s m args below meth c H locs ls hc hK hX hP hD hS hl
  exact lv_ldc hc.1 hc.2.1 hc.2.2.2.1 (hc.2.2.2.2.1 _ hw) hd (k p e s m args below meth c H locs ls hc hK hX hP hD hS hl)

theorem g_ldcw {idx : Nat} {v : Int32} (hw : Cond.constant own idx v ∈ gW) (hd : decode cc pc = .ok (.ldc_w idx, 3)) (k : g_G l dC dI ad ca sh X cc nL own ret R r σ' (pc + 3) lv (.int v :: st) σ) : g_G l dC dI ad ca sh X cc nL own ret R r σ' (pc) lv (st) σ := by
  intro p e s m args below meth c H locs ls hc hK hX hP hD hS hl
  exact lv_ldcw hc.1 hc.2.1 hc.2.2.2.1 (hc.2.2.2.2.1 _ hw) hd (k p e s m args below meth c H locs ls hc hK hX hP hD hS hl)

theorem g_ldc2 {idx : Nat} {v : Int64} (hw : Cond.constantLong own idx v ∈ gW) (hd : decode cc pc = .ok (.ldc2_w idx, 3)) (k : g_G l dC dI ad ca sh X cc nL own ret R r σ' (pc + 3) lv (.long v :: st) σ) : g_G l dC dI ad ca sh X cc nL own ret R r σ' (pc) lv (st) σ := by
  intro p e s m args below meth c H locs ls hc hK hX hP hD hS hl
  exact lv_ldc2 hc.1 hc.2.1 hc.2.2.2.1 (hc.2.2.2.2.1 _ hw) hd (k p e s m args below meth c H locs ls hc hK hX hP hD hS hl)

theorem g_iload_n {k0 : Fin 4} {i : Nat} {x : Int32} (hd : decode cc pc = .ok (.iload_n k0, 1)) (hi : (k0 : Nat) = i) (j : Nat) (hj : lv[j]? = some (i, .int x)) (k : g_G l dC dI ad ca sh X cc nL own ret R r σ' (pc + 1) lv (.int x :: st) σ) : g_G l dC dI ad ca sh X cc nL own ret R r σ' (pc) lv (st) σ := by
  intro p e s m args below meth c H locs ls hc hK hX hP hD hS hl
  have h1 : (g_at ad lv)[j]? = some (i, .int (x)) := by rw [List.getElem?_map, hj]; rfl
  exact lv_iload_n hc.1 hc.2.1 hd hi (lv_at hl j h1) (k p e s m args below meth c H locs ls hc hK hX hP hD hS hl)

theorem g_iload {i : Nat} {x : Int32} (hd : decode cc pc = .ok (.iload i, 2)) (j : Nat) (hj : lv[j]? = some (i, .int x)) (k : g_G l dC dI ad ca sh X cc nL own ret R r σ' (pc + 2) lv (.int x :: st) σ) : g_G l dC dI ad ca sh X cc nL own ret R r σ' (pc) lv (st) σ := by
  intro p e s m args below meth c H locs ls hc hK hX hP hD hS hl
  have h1 : (g_at ad lv)[j]? = some (i, .int (x)) := by rw [List.getElem?_map, hj]; rfl
  exact lv_iload hc.1 hc.2.1 hd (lv_at hl j h1) (k p e s m args below meth c H locs ls hc hK hX hP hD hS hl)

theorem g_lload_n {k0 : Fin 4} {i : Nat} {x : Int64} (hd : decode cc pc = .ok (.lload_n k0, 1)) (hi : (k0 : Nat) = i) (j : Nat) (hj : lv[j]? = some (i, .long x)) (k : g_G l dC dI ad ca sh X cc nL own ret R r σ' (pc + 1) lv (.long x :: st) σ) : g_G l dC dI ad ca sh X cc nL own ret R r σ' (pc) lv (st) σ := by
  intro p e s m args below meth c H locs ls hc hK hX hP hD hS hl
  have h1 : (g_at ad lv)[j]? = some (i, .long (x)) := by rw [List.getElem?_map, hj]; rfl
  exact lv_lload_n hc.1 hc.2.1 hd hi (lv_at hl j h1) (k p e s m args below meth c H locs ls hc hK hX hP hD hS hl)

theorem g_lload {i : Nat} {x : Int64} (hd : decode cc pc = .ok (.lload i, 2)) (j : Nat) (hj : lv[j]? = some (i, .long x)) (k : g_G l dC dI ad ca sh X cc nL own ret R r σ' (pc + 2) lv (.long x :: st) σ) : g_G l dC dI ad ca sh X cc nL own ret R r σ' (pc) lv (st) σ := by
  intro p e s m args below meth c H locs ls hc hK hX hP hD hS hl
  have h1 : (g_at ad lv)[j]? = some (i, .long (x)) := by rw [List.getElem?_map, hj]; rfl
  exact lv_lload hc.1 hc.2.1 hd (lv_at hl j h1) (k p e s m args below meth c H locs ls hc hK hX hP hD hS hl)

theorem g_aload_n {k0 : Fin 4} {i : Nat} {x : Nat} (hd : decode cc pc = .ok (.aload_n k0, 1)) (hi : (k0 : Nat) = i) (j : Nat) (hj : lv[j]? = some (i, .ref x)) (k : g_G l dC dI ad ca sh X cc nL own ret R r σ' (pc + 1) lv (.ref x :: st) σ) : g_G l dC dI ad ca sh X cc nL own ret R r σ' (pc) lv (st) σ := by
  intro p e s m args below meth c H locs ls hc hK hX hP hD hS hl
  have h1 : (g_at ad lv)[j]? = some (i, .ref (ad x)) := by rw [List.getElem?_map, hj]; rfl
  exact lv_aload_n hc.1 hc.2.1 hd hi (lv_at hl j h1) (k p e s m args below meth c H locs ls hc hK hX hP hD hS hl)

theorem g_aload {i : Nat} {x : Nat} (hd : decode cc pc = .ok (.aload i, 2)) (j : Nat) (hj : lv[j]? = some (i, .ref x)) (k : g_G l dC dI ad ca sh X cc nL own ret R r σ' (pc + 2) lv (.ref x :: st) σ) : g_G l dC dI ad ca sh X cc nL own ret R r σ' (pc) lv (st) σ := by
  intro p e s m args below meth c H locs ls hc hK hX hP hD hS hl
  have h1 : (g_at ad lv)[j]? = some (i, .ref (ad x)) := by rw [List.getElem?_map, hj]; rfl
  exact lv_aload hc.1 hc.2.1 hd (lv_at hl j h1) (k p e s m args below meth c H locs ls hc hK hX hP hD hS hl)

theorem g_at_filter (ad : Nat → Nat) (i : Nat) : ∀ lv : List (Nat × Value), (g_at ad lv).filter (fun q => !(q.1 == i) && !(q.1 + 1 == i && q.2.category == 2)) = g_at ad (lv.filter (fun q => !(q.1 == i) && !(q.1 + 1 == i && q.2.category == 2)))
  | [] => rfl
  | q :: lv => by
    have h := g_at_filter ad i lv
    simp only [g_at, List.map_cons, List.filter_cons, g_v_cat] at h ⊢
    rw [h]
    split <;> rfl

theorem g_istore_n {k0 : Fin 4} {i : Nat} {x : Int32} {lv1 : List (Nat × Value)} (hd : decode cc pc = .ok (.istore_n k0, 1)) (hi : (k0 : Nat) = i) (hn : i < nL) (h1 : (i, .int x) :: lv.filter (fun q => !(q.1 == i) && !(q.1 + 1 == i && q.2.category == 2)) = lv1) (k : g_G l dC dI ad ca sh X cc nL own ret R r σ' (pc + 1) lv1 (st) σ) : g_G l dC dI ad ca sh X cc nL own ret R r σ' (pc) lv (.int x :: st) σ := by
  intro p e s m args below meth c H locs ls hc hK hX hP hD hS hl
  exact lv_istore_n (lv' := g_at ad lv1) hc.1 hc.2.1 hd hi hl hn (by rw [g_at_filter, ← h1]; rfl) (fun ls hl => k p e s m args below meth c H locs ls hc hK hX hP hD hS hl)

theorem g_istore {i : Nat} {x : Int32} {lv1 : List (Nat × Value)} (hd : decode cc pc = .ok (.istore i, 2)) (hn : i < nL) (h1 : (i, .int x) :: lv.filter (fun q => !(q.1 == i) && !(q.1 + 1 == i && q.2.category == 2)) = lv1) (k : g_G l dC dI ad ca sh X cc nL own ret R r σ' (pc + 2) lv1 (st) σ) : g_G l dC dI ad ca sh X cc nL own ret R r σ' (pc) lv (.int x :: st) σ := by
  intro p e s m args below meth c H locs ls hc hK hX hP hD hS hl
  exact lv_istore (lv' := g_at ad lv1) hc.1 hc.2.1 hd hl hn (by rw [g_at_filter, ← h1]; rfl) (fun ls hl => k p e s m args below meth c H locs ls hc hK hX hP hD hS hl)

theorem g_astore_n {k0 : Fin 4} {i : Nat} {x : Nat} {lv1 : List (Nat × Value)} (hd : decode cc pc = .ok (.astore_n k0, 1)) (hi : (k0 : Nat) = i) (hn : i < nL) (h1 : (i, .ref x) :: lv.filter (fun q => !(q.1 == i) && !(q.1 + 1 == i && q.2.category == 2)) = lv1) (k : g_G l dC dI ad ca sh X cc nL own ret R r σ' (pc + 1) lv1 (st) σ) : g_G l dC dI ad ca sh X cc nL own ret R r σ' (pc) lv (.ref x :: st) σ := by
  intro p e s m args below meth c H locs ls hc hK hX hP hD hS hl
  exact lv_astore_n (lv' := g_at ad lv1) hc.1 hc.2.1 hd hi hl hn (by rw [g_at_filter, ← h1]; rfl) (fun ls hl => k p e s m args below meth c H locs ls hc hK hX hP hD hS hl)

theorem g_astore {i : Nat} {x : Nat} {lv1 : List (Nat × Value)} (hd : decode cc pc = .ok (.astore i, 2)) (hn : i < nL) (h1 : (i, .ref x) :: lv.filter (fun q => !(q.1 == i) && !(q.1 + 1 == i && q.2.category == 2)) = lv1) (k : g_G l dC dI ad ca sh X cc nL own ret R r σ' (pc + 2) lv1 (st) σ) : g_G l dC dI ad ca sh X cc nL own ret R r σ' (pc) lv (.ref x :: st) σ := by
  intro p e s m args below meth c H locs ls hc hK hX hP hD hS hl
  exact lv_astore (lv' := g_at ad lv1) hc.1 hc.2.1 hd hl hn (by rw [g_at_filter, ← h1]; rfl) (fun ls hl => k p e s m args below meth c H locs ls hc hK hX hP hD hS hl)

theorem g_iinc {i : Nat} {n : Int} {x v : Int32} {lv1 : List (Nat × Value)} (hd : decode cc pc = .ok (.iinc i n, 3)) (j : Nat) (hj : lv[j]? = some (i, .int x)) (hv : x + Int32.ofInt n = v) (hn : i < nL) (h1 : (i, Value.int v) :: lv.filter (fun q => !(q.1 == i) && !(q.1 + 1 == i && q.2.category == 2)) = lv1) (k : g_G l dC dI ad ca sh X cc nL own ret R r σ' (pc + 3) lv1 (st) σ) : g_G l dC dI ad ca sh X cc nL own ret R r σ' (pc) lv (st) σ := by
  intro p e s m args below meth c H locs ls hc hK hX hP hD hS hl
  have hj1 : (g_at ad lv)[j]? = some (i, .int x) := by rw [List.getElem?_map, hj]; rfl
  exact lv_iinc (lv' := g_at ad lv1) hc.1 hc.2.1 hd hl hj1 hv hn (by rw [g_at_filter, ← h1]; rfl) (fun ls hl => k p e s m args below meth c H locs ls hc hK hX hP hD hS hl)

theorem g_iadd {x y : Int32} (hd : decode cc pc = .ok (.iadd, 1)) (k : g_G l dC dI ad ca sh X cc nL own ret R r σ' (pc + 1) lv (.int (x + y) :: st) σ) : g_G l dC dI ad ca sh X cc nL own ret R r σ' (pc) lv (.int y :: .int x :: st) σ := by
  intro p e s m args below meth c H locs ls hc hK hX hP hD hS hl
  exact lv_iadd hc.1 hc.2.1 hd (k p e s m args below meth c H locs ls hc hK hX hP hD hS hl)

theorem g_isub {x y : Int32} (hd : decode cc pc = .ok (.isub, 1)) (k : g_G l dC dI ad ca sh X cc nL own ret R r σ' (pc + 1) lv (.int (x - y) :: st) σ) : g_G l dC dI ad ca sh X cc nL own ret R r σ' (pc) lv (.int y :: .int x :: st) σ := by
  intro p e s m args below meth c H locs ls hc hK hX hP hD hS hl
  exact lv_isub hc.1 hc.2.1 hd (k p e s m args below meth c H locs ls hc hK hX hP hD hS hl)

theorem g_imul {x y : Int32} (hd : decode cc pc = .ok (.imul, 1)) (k : g_G l dC dI ad ca sh X cc nL own ret R r σ' (pc + 1) lv (.int (x * y) :: st) σ) : g_G l dC dI ad ca sh X cc nL own ret R r σ' (pc) lv (.int y :: .int x :: st) σ := by
  intro p e s m args below meth c H locs ls hc hK hX hP hD hS hl
  exact lv_imul hc.1 hc.2.1 hd (k p e s m args below meth c H locs ls hc hK hX hP hD hS hl)

theorem g_iand {x y : Int32} (hd : decode cc pc = .ok (.iand, 1)) (k : g_G l dC dI ad ca sh X cc nL own ret R r σ' (pc + 1) lv (.int (x &&& y) :: st) σ) : g_G l dC dI ad ca sh X cc nL own ret R r σ' (pc) lv (.int y :: .int x :: st) σ := by
  intro p e s m args below meth c H locs ls hc hK hX hP hD hS hl
  exact lv_iand hc.1 hc.2.1 hd (k p e s m args below meth c H locs ls hc hK hX hP hD hS hl)

theorem g_ior {x y : Int32} (hd : decode cc pc = .ok (.ior, 1)) (k : g_G l dC dI ad ca sh X cc nL own ret R r σ' (pc + 1) lv (.int (x ||| y) :: st) σ) : g_G l dC dI ad ca sh X cc nL own ret R r σ' (pc) lv (.int y :: .int x :: st) σ := by
  intro p e s m args below meth c H locs ls hc hK hX hP hD hS hl
  exact lv_ior hc.1 hc.2.1 hd (k p e s m args below meth c H locs ls hc hK hX hP hD hS hl)

theorem g_ixor {x y : Int32} (hd : decode cc pc = .ok (.ixor, 1)) (k : g_G l dC dI ad ca sh X cc nL own ret R r σ' (pc + 1) lv (.int (x ^^^ y) :: st) σ) : g_G l dC dI ad ca sh X cc nL own ret R r σ' (pc) lv (.int y :: .int x :: st) σ := by
  intro p e s m args below meth c H locs ls hc hK hX hP hD hS hl
  exact lv_ixor hc.1 hc.2.1 hd (k p e s m args below meth c H locs ls hc hK hX hP hD hS hl)

theorem g_ishl {x y : Int32} (hd : decode cc pc = .ok (.ishl, 1)) (k : g_G l dC dI ad ca sh X cc nL own ret R r σ' (pc + 1) lv (.int (x <<< (y &&& 31)) :: st) σ) : g_G l dC dI ad ca sh X cc nL own ret R r σ' (pc) lv (.int y :: .int x :: st) σ := by
  intro p e s m args below meth c H locs ls hc hK hX hP hD hS hl
  exact lv_ishl hc.1 hc.2.1 hd (k p e s m args below meth c H locs ls hc hK hX hP hD hS hl)

theorem g_ishr {x y : Int32} (hd : decode cc pc = .ok (.ishr, 1)) (k : g_G l dC dI ad ca sh X cc nL own ret R r σ' (pc + 1) lv (.int (x >>> (y &&& 31)) :: st) σ) : g_G l dC dI ad ca sh X cc nL own ret R r σ' (pc) lv (.int y :: .int x :: st) σ := by
  intro p e s m args below meth c H locs ls hc hK hX hP hD hS hl
  exact lv_ishr hc.1 hc.2.1 hd (k p e s m args below meth c H locs ls hc hK hX hP hD hS hl)

theorem g_ladd {x y : Int64} (hd : decode cc pc = .ok (.ladd, 1)) (k : g_G l dC dI ad ca sh X cc nL own ret R r σ' (pc + 1) lv (.long (x + y) :: st) σ) : g_G l dC dI ad ca sh X cc nL own ret R r σ' (pc) lv (.long y :: .long x :: st) σ := by
  intro p e s m args below meth c H locs ls hc hK hX hP hD hS hl
  exact lv_ladd hc.1 hc.2.1 hd (k p e s m args below meth c H locs ls hc hK hX hP hD hS hl)

theorem g_lmul {x y : Int64} (hd : decode cc pc = .ok (.lmul, 1)) (k : g_G l dC dI ad ca sh X cc nL own ret R r σ' (pc + 1) lv (.long (x * y) :: st) σ) : g_G l dC dI ad ca sh X cc nL own ret R r σ' (pc) lv (.long y :: .long x :: st) σ := by
  intro p e s m args below meth c H locs ls hc hK hX hP hD hS hl
  exact lv_lmul hc.1 hc.2.1 hd (k p e s m args below meth c H locs ls hc hK hX hP hD hS hl)

theorem g_land {x y : Int64} (hd : decode cc pc = .ok (.land, 1)) (k : g_G l dC dI ad ca sh X cc nL own ret R r σ' (pc + 1) lv (.long (x &&& y) :: st) σ) : g_G l dC dI ad ca sh X cc nL own ret R r σ' (pc) lv (.long y :: .long x :: st) σ := by
  intro p e s m args below meth c H locs ls hc hK hX hP hD hS hl
  exact lv_land hc.1 hc.2.1 hd (k p e s m args below meth c H locs ls hc hK hX hP hD hS hl)

theorem g_lor {x y : Int64} (hd : decode cc pc = .ok (.lor, 1)) (k : g_G l dC dI ad ca sh X cc nL own ret R r σ' (pc + 1) lv (.long (x ||| y) :: st) σ) : g_G l dC dI ad ca sh X cc nL own ret R r σ' (pc) lv (.long y :: .long x :: st) σ := by
  intro p e s m args below meth c H locs ls hc hK hX hP hD hS hl
  exact lv_lor hc.1 hc.2.1 hd (k p e s m args below meth c H locs ls hc hK hX hP hD hS hl)

theorem g_idiv {x y : Int32} (hd : decode cc pc = .ok (.idiv, 1)) (hne : ¬ y = 0) (k : g_G l dC dI ad ca sh X cc nL own ret R r σ' (pc + 1) lv (.int (x / y) :: st) σ) : g_G l dC dI ad ca sh X cc nL own ret R r σ' (pc) lv (.int y :: .int x :: st) σ := by
  intro p e s m args below meth c H locs ls hc hK hX hP hD hS hl
  exact lv_idiv hc.1 hc.2.1 hd hne (k p e s m args below meth c H locs ls hc hK hX hP hD hS hl)

theorem g_irem {x y : Int32} (hd : decode cc pc = .ok (.irem, 1)) (hne : ¬ y = 0) (k : g_G l dC dI ad ca sh X cc nL own ret R r σ' (pc + 1) lv (.int (x - x / y * y) :: st) σ) : g_G l dC dI ad ca sh X cc nL own ret R r σ' (pc) lv (.int y :: .int x :: st) σ := by
  intro p e s m args below meth c H locs ls hc hK hX hP hD hS hl
  exact lv_irem hc.1 hc.2.1 hd hne (k p e s m args below meth c H locs ls hc hK hX hP hD hS hl)

theorem g_lrem {x y : Int64} (hd : decode cc pc = .ok (.lrem, 1)) (hne : ¬ y = 0) (k : g_G l dC dI ad ca sh X cc nL own ret R r σ' (pc + 1) lv (.long (x - x / y * y) :: st) σ) : g_G l dC dI ad ca sh X cc nL own ret R r σ' (pc) lv (.long y :: .long x :: st) σ := by
  intro p e s m args below meth c H locs ls hc hK hX hP hD hS hl
  exact lv_lrem hc.1 hc.2.1 hd hne (k p e s m args below meth c H locs ls hc hK hX hP hD hS hl)

theorem g_ineg {x : Int32} (hd : decode cc pc = .ok (.ineg, 1)) (k : g_G l dC dI ad ca sh X cc nL own ret R r σ' (pc + 1) lv (.int (-x) :: st) σ) : g_G l dC dI ad ca sh X cc nL own ret R r σ' (pc) lv (.int x :: st) σ := by
  intro p e s m args below meth c H locs ls hc hK hX hP hD hS hl
  exact lv_ineg hc.1 hc.2.1 hd (k p e s m args below meth c H locs ls hc hK hX hP hD hS hl)

theorem g_iushr {x y : Int32} (hd : decode cc pc = .ok (.iushr, 1)) (k : g_G l dC dI ad ca sh X cc nL own ret R r σ' (pc + 1) lv (.int (g_us x y) :: st) σ) : g_G l dC dI ad ca sh X cc nL own ret R r σ' (pc) lv (.int y :: .int x :: st) σ := by
  intro p e s m args below meth c H locs ls hc hK hX hP hD hS hl
  exact lv_iushr hc.1 hc.2.1 hd rfl (k p e s m args below meth c H locs ls hc hK hX hP hD hS hl)

theorem g_lushr {x : Int64} {y : Int32} (hd : decode cc pc = .ok (.lushr, 1)) (k : g_G l dC dI ad ca sh X cc nL own ret R r σ' (pc + 1) lv (.long (g_ul x y) :: st) σ) : g_G l dC dI ad ca sh X cc nL own ret R r σ' (pc) lv (.int y :: .long x :: st) σ := by
  intro p e s m args below meth c H locs ls hc hK hX hP hD hS hl
  exact lv_lushr hc.1 hc.2.1 hd rfl (k p e s m args below meth c H locs ls hc hK hX hP hD hS hl)

theorem g_i2l {x : Int32} (hd : decode cc pc = .ok (.i2l, 1)) (k : g_G l dC dI ad ca sh X cc nL own ret R r σ' (pc + 1) lv (.long x.toInt64 :: st) σ) : g_G l dC dI ad ca sh X cc nL own ret R r σ' (pc) lv (.int x :: st) σ := by
  intro p e s m args below meth c H locs ls hc hK hX hP hD hS hl
  exact lv_i2l hc.1 hc.2.1 hd rfl (k p e s m args below meth c H locs ls hc hK hX hP hD hS hl)

theorem g_l2i {x : Int64} (hd : decode cc pc = .ok (.l2i, 1)) (k : g_G l dC dI ad ca sh X cc nL own ret R r σ' (pc + 1) lv (.int x.toInt32 :: st) σ) : g_G l dC dI ad ca sh X cc nL own ret R r σ' (pc) lv (.long x :: st) σ := by
  intro p e s m args below meth c H locs ls hc hK hX hP hD hS hl
  exact lv_l2i hc.1 hc.2.1 hd rfl (k p e s m args below meth c H locs ls hc hK hX hP hD hS hl)

theorem g_i2b {x : Int32} (hd : decode cc pc = .ok (.i2b, 1)) (k : g_G l dC dI ad ca sh X cc nL own ret R r σ' (pc + 1) lv (.int x.toInt8.toInt32 :: st) σ) : g_G l dC dI ad ca sh X cc nL own ret R r σ' (pc) lv (.int x :: st) σ := by
  intro p e s m args below meth c H locs ls hc hK hX hP hD hS hl
  exact lv_i2b hc.1 hc.2.1 hd rfl (k p e s m args below meth c H locs ls hc hK hX hP hD hS hl)

theorem g_i2c {x : Int32} (hd : decode cc pc = .ok (.i2c, 1)) (k : g_G l dC dI ad ca sh X cc nL own ret R r σ' (pc + 1) lv (.int (x.toUInt32 % 65536).toInt32 :: st) σ) : g_G l dC dI ad ca sh X cc nL own ret R r σ' (pc) lv (.int x :: st) σ := by
  intro p e s m args below meth c H locs ls hc hK hX hP hD hS hl
  exact lv_i2c hc.1 hc.2.1 hd rfl (k p e s m args below meth c H locs ls hc hK hX hP hD hS hl)

theorem g_dup {v : Value} (hd : decode cc pc = .ok (.dup, 1)) (hv : v.category = 1) (k : g_G l dC dI ad ca sh X cc nL own ret R r σ' (pc + 1) lv (v :: v :: st) σ) : g_G l dC dI ad ca sh X cc nL own ret R r σ' (pc) lv (v :: st) σ := by
  intro p e s m args below meth c H locs ls hc hK hX hP hD hS hl
  exact lv_dup hc.1 hc.2.1 hd (by rw [g_v_cat]; exact hv) (k p e s m args below meth c H locs ls hc hK hX hP hD hS hl)

theorem g_pop {v : Value} (hd : decode cc pc = .ok (.pop, 1)) (hv : v.category = 1) (k : g_G l dC dI ad ca sh X cc nL own ret R r σ' (pc + 1) lv (st) σ) : g_G l dC dI ad ca sh X cc nL own ret R r σ' (pc) lv (v :: st) σ := by
  intro p e s m args below meth c H locs ls hc hK hX hP hD hS hl
  exact lv_pop hc.1 hc.2.1 hd (by rw [g_v_cat]; exact hv) (k p e s m args below meth c H locs ls hc hK hX hP hD hS hl)

theorem g_dup2 {v w : Value} (hd : decode cc pc = .ok (.dup2, 1)) (hv : v.category = 1) (hw : w.category = 1) (k : g_G l dC dI ad ca sh X cc nL own ret R r σ' (pc + 1) lv (v :: w :: v :: w :: st) σ) : g_G l dC dI ad ca sh X cc nL own ret R r σ' (pc) lv (v :: w :: st) σ := by
  intro p e s m args below meth c H locs ls hc hK hX hP hD hS hl
  exact lv_dup2_11 hc.1 hc.2.1 hd (by rw [g_v_cat]; exact hv) (by rw [g_v_cat]; exact hw) (k p e s m args below meth c H locs ls hc hK hX hP hD hS hl)

theorem g_if_eq {x : Int32} {off : Int} {tgt : Nat} (hd : decode cc pc = .ok (.ifCond .eq off, 3)) (ht : (pc : Int) + off = (tgt : Int)) (kt : x = 0 → g_G l dC dI ad ca sh X cc nL own ret R r σ' (tgt) lv (st) σ) (kf : ¬ x = 0 → g_G l dC dI ad ca sh X cc nL own ret R r σ' (pc + 3) lv (st) σ) : g_G l dC dI ad ca sh X cc nL own ret R r σ' (pc) lv (.int x :: st) σ := by
  intro p e s m args below meth c H locs ls hc hK hX hP hD hS hl
  exact lv_if_eq hc.1 hc.2.1 hd ht (fun z => kt z p e s m args below meth c H locs ls hc hK hX hP hD hS hl) (fun z => kf z p e s m args below meth c H locs ls hc hK hX hP hD hS hl)

theorem g_icmp_eq {x y : Int32} {off : Int} {tgt : Nat} (hd : decode cc pc = .ok (.if_icmp .eq off, 3)) (ht : (pc : Int) + off = (tgt : Int)) (kt : x = y → g_G l dC dI ad ca sh X cc nL own ret R r σ' (tgt) lv (st) σ) (kf : ¬ x = y → g_G l dC dI ad ca sh X cc nL own ret R r σ' (pc + 3) lv (st) σ) : g_G l dC dI ad ca sh X cc nL own ret R r σ' (pc) lv (.int y :: .int x :: st) σ := by
  intro p e s m args below meth c H locs ls hc hK hX hP hD hS hl
  exact lv_icmp_eq hc.1 hc.2.1 hd ht (fun z => kt z p e s m args below meth c H locs ls hc hK hX hP hD hS hl) (fun z => kf z p e s m args below meth c H locs ls hc hK hX hP hD hS hl)

theorem g_if_ne {x : Int32} {off : Int} {tgt : Nat} (hd : decode cc pc = .ok (.ifCond .ne off, 3)) (ht : (pc : Int) + off = (tgt : Int)) (kt : ¬ x = 0 → g_G l dC dI ad ca sh X cc nL own ret R r σ' (tgt) lv (st) σ) (kf : x = 0 → g_G l dC dI ad ca sh X cc nL own ret R r σ' (pc + 3) lv (st) σ) : g_G l dC dI ad ca sh X cc nL own ret R r σ' (pc) lv (.int x :: st) σ := by
  intro p e s m args below meth c H locs ls hc hK hX hP hD hS hl
  exact lv_if_ne hc.1 hc.2.1 hd ht (fun z => kt z p e s m args below meth c H locs ls hc hK hX hP hD hS hl) (fun z => kf z p e s m args below meth c H locs ls hc hK hX hP hD hS hl)

theorem g_icmp_ne {x y : Int32} {off : Int} {tgt : Nat} (hd : decode cc pc = .ok (.if_icmp .ne off, 3)) (ht : (pc : Int) + off = (tgt : Int)) (kt : ¬ x = y → g_G l dC dI ad ca sh X cc nL own ret R r σ' (tgt) lv (st) σ) (kf : x = y → g_G l dC dI ad ca sh X cc nL own ret R r σ' (pc + 3) lv (st) σ) : g_G l dC dI ad ca sh X cc nL own ret R r σ' (pc) lv (.int y :: .int x :: st) σ := by
  intro p e s m args below meth c H locs ls hc hK hX hP hD hS hl
  exact lv_icmp_ne hc.1 hc.2.1 hd ht (fun z => kt z p e s m args below meth c H locs ls hc hK hX hP hD hS hl) (fun z => kf z p e s m args below meth c H locs ls hc hK hX hP hD hS hl)

theorem g_if_lt {x : Int32} {off : Int} {tgt : Nat} (hd : decode cc pc = .ok (.ifCond .lt off, 3)) (ht : (pc : Int) + off = (tgt : Int)) (kt : x < 0 → g_G l dC dI ad ca sh X cc nL own ret R r σ' (tgt) lv (st) σ) (kf : ¬ x < 0 → g_G l dC dI ad ca sh X cc nL own ret R r σ' (pc + 3) lv (st) σ) : g_G l dC dI ad ca sh X cc nL own ret R r σ' (pc) lv (.int x :: st) σ := by
  intro p e s m args below meth c H locs ls hc hK hX hP hD hS hl
  exact lv_if_lt hc.1 hc.2.1 hd ht (fun z => kt z p e s m args below meth c H locs ls hc hK hX hP hD hS hl) (fun z => kf z p e s m args below meth c H locs ls hc hK hX hP hD hS hl)

theorem g_icmp_lt {x y : Int32} {off : Int} {tgt : Nat} (hd : decode cc pc = .ok (.if_icmp .lt off, 3)) (ht : (pc : Int) + off = (tgt : Int)) (kt : x < y → g_G l dC dI ad ca sh X cc nL own ret R r σ' (tgt) lv (st) σ) (kf : ¬ x < y → g_G l dC dI ad ca sh X cc nL own ret R r σ' (pc + 3) lv (st) σ) : g_G l dC dI ad ca sh X cc nL own ret R r σ' (pc) lv (.int y :: .int x :: st) σ := by
  intro p e s m args below meth c H locs ls hc hK hX hP hD hS hl
  exact lv_icmp_lt hc.1 hc.2.1 hd ht (fun z => kt z p e s m args below meth c H locs ls hc hK hX hP hD hS hl) (fun z => kf z p e s m args below meth c H locs ls hc hK hX hP hD hS hl)

theorem g_if_ge {x : Int32} {off : Int} {tgt : Nat} (hd : decode cc pc = .ok (.ifCond .ge off, 3)) (ht : (pc : Int) + off = (tgt : Int)) (kt : 0 ≤ x → g_G l dC dI ad ca sh X cc nL own ret R r σ' (tgt) lv (st) σ) (kf : ¬ 0 ≤ x → g_G l dC dI ad ca sh X cc nL own ret R r σ' (pc + 3) lv (st) σ) : g_G l dC dI ad ca sh X cc nL own ret R r σ' (pc) lv (.int x :: st) σ := by
  intro p e s m args below meth c H locs ls hc hK hX hP hD hS hl
  exact lv_if_ge hc.1 hc.2.1 hd ht (fun z => kt z p e s m args below meth c H locs ls hc hK hX hP hD hS hl) (fun z => kf z p e s m args below meth c H locs ls hc hK hX hP hD hS hl)

theorem g_icmp_ge {x y : Int32} {off : Int} {tgt : Nat} (hd : decode cc pc = .ok (.if_icmp .ge off, 3)) (ht : (pc : Int) + off = (tgt : Int)) (kt : y ≤ x → g_G l dC dI ad ca sh X cc nL own ret R r σ' (tgt) lv (st) σ) (kf : ¬ y ≤ x → g_G l dC dI ad ca sh X cc nL own ret R r σ' (pc + 3) lv (st) σ) : g_G l dC dI ad ca sh X cc nL own ret R r σ' (pc) lv (.int y :: .int x :: st) σ := by
  intro p e s m args below meth c H locs ls hc hK hX hP hD hS hl
  exact lv_icmp_ge hc.1 hc.2.1 hd ht (fun z => kt z p e s m args below meth c H locs ls hc hK hX hP hD hS hl) (fun z => kf z p e s m args below meth c H locs ls hc hK hX hP hD hS hl)

theorem g_if_gt {x : Int32} {off : Int} {tgt : Nat} (hd : decode cc pc = .ok (.ifCond .gt off, 3)) (ht : (pc : Int) + off = (tgt : Int)) (kt : 0 < x → g_G l dC dI ad ca sh X cc nL own ret R r σ' (tgt) lv (st) σ) (kf : ¬ 0 < x → g_G l dC dI ad ca sh X cc nL own ret R r σ' (pc + 3) lv (st) σ) : g_G l dC dI ad ca sh X cc nL own ret R r σ' (pc) lv (.int x :: st) σ := by
  intro p e s m args below meth c H locs ls hc hK hX hP hD hS hl
  exact lv_if_gt hc.1 hc.2.1 hd ht (fun z => kt z p e s m args below meth c H locs ls hc hK hX hP hD hS hl) (fun z => kf z p e s m args below meth c H locs ls hc hK hX hP hD hS hl)

theorem g_icmp_gt {x y : Int32} {off : Int} {tgt : Nat} (hd : decode cc pc = .ok (.if_icmp .gt off, 3)) (ht : (pc : Int) + off = (tgt : Int)) (kt : y < x → g_G l dC dI ad ca sh X cc nL own ret R r σ' (tgt) lv (st) σ) (kf : ¬ y < x → g_G l dC dI ad ca sh X cc nL own ret R r σ' (pc + 3) lv (st) σ) : g_G l dC dI ad ca sh X cc nL own ret R r σ' (pc) lv (.int y :: .int x :: st) σ := by
  intro p e s m args below meth c H locs ls hc hK hX hP hD hS hl
  exact lv_icmp_gt hc.1 hc.2.1 hd ht (fun z => kt z p e s m args below meth c H locs ls hc hK hX hP hD hS hl) (fun z => kf z p e s m args below meth c H locs ls hc hK hX hP hD hS hl)

theorem g_if_le {x : Int32} {off : Int} {tgt : Nat} (hd : decode cc pc = .ok (.ifCond .le off, 3)) (ht : (pc : Int) + off = (tgt : Int)) (kt : x ≤ 0 → g_G l dC dI ad ca sh X cc nL own ret R r σ' (tgt) lv (st) σ) (kf : ¬ x ≤ 0 → g_G l dC dI ad ca sh X cc nL own ret R r σ' (pc + 3) lv (st) σ) : g_G l dC dI ad ca sh X cc nL own ret R r σ' (pc) lv (.int x :: st) σ := by
  intro p e s m args below meth c H locs ls hc hK hX hP hD hS hl
  exact lv_if_le hc.1 hc.2.1 hd ht (fun z => kt z p e s m args below meth c H locs ls hc hK hX hP hD hS hl) (fun z => kf z p e s m args below meth c H locs ls hc hK hX hP hD hS hl)

theorem g_icmp_le {x y : Int32} {off : Int} {tgt : Nat} (hd : decode cc pc = .ok (.if_icmp .le off, 3)) (ht : (pc : Int) + off = (tgt : Int)) (kt : x ≤ y → g_G l dC dI ad ca sh X cc nL own ret R r σ' (tgt) lv (st) σ) (kf : ¬ x ≤ y → g_G l dC dI ad ca sh X cc nL own ret R r σ' (pc + 3) lv (st) σ) : g_G l dC dI ad ca sh X cc nL own ret R r σ' (pc) lv (.int y :: .int x :: st) σ := by
  intro p e s m args below meth c H locs ls hc hK hX hP hD hS hl
  exact lv_icmp_le hc.1 hc.2.1 hd ht (fun z => kt z p e s m args below meth c H locs ls hc hK hX hP hD hS hl) (fun z => kf z p e s m args below meth c H locs ls hc hK hX hP hD hS hl)

theorem g_goto {off : Int} {tgt : Nat} (hd : decode cc pc = .ok (.goto off, 3)) (ht : (pc : Int) + off = (tgt : Int)) (k : g_G l dC dI ad ca sh X cc nL own ret R r σ' (tgt) lv (st) σ) : g_G l dC dI ad ca sh X cc nL own ret R r σ' (pc) lv (st) σ := by
  intro p e s m args below meth c H locs ls hc hK hX hP hD hS hl
  exact lv_goto hc.1 hc.2.1 hd ht (k p e s m args below meth c H locs ls hc hK hX hP hD hS hl)

theorem g_tabOut {dflt lo hi : Int} {offs : Array Int} {len : Nat} {x : Int32} {tgt : Nat} (hd : decode cc pc = .ok (.tableswitch dflt lo hi offs, len)) (h : x.toInt < lo ∨ hi < x.toInt) (ht : (pc : Int) + dflt = (tgt : Int)) (k : g_G l dC dI ad ca sh X cc nL own ret R r σ' (tgt) lv (st) σ) : g_G l dC dI ad ca sh X cc nL own ret R r σ' (pc) lv (.int x :: st) σ := by
  intro p e s m args below meth c H locs ls hc hK hX hP hD hS hl
  exact lv_tableOut hc.1 hc.2.1 hd h ht (k p e s m args below meth c H locs ls hc hK hX hP hD hS hl)

theorem g_tabIn {dflt lo hi : Int} {offs : Array Int} {len : Nat} {x : Int32} {off : Int} {tgt : Nat} (hd : decode cc pc = .ok (.tableswitch dflt lo hi offs, len)) (h1 : ¬ x.toInt < lo) (h2 : ¬ hi < x.toInt) (ho : offs[(x.toInt - lo).toNat]? = some off) (ht : (pc : Int) + off = (tgt : Int)) (k : g_G l dC dI ad ca sh X cc nL own ret R r σ' (tgt) lv (st) σ) : g_G l dC dI ad ca sh X cc nL own ret R r σ' (pc) lv (.int x :: st) σ := by
  intro p e s m args below meth c H locs ls hc hK hX hP hD hS hl
  exact lv_tableIn hc.1 hc.2.1 hd h1 h2 ho ht (k p e s m args below meth c H locs ls hc hK hX hP hD hS hl)

theorem g_lcmp {x y : Int64} (hd : decode cc pc = .ok (.lcmp, 1)) (k : g_G l dC dI ad ca sh X cc nL own ret R r σ' (pc + 1) lv (.int (lg_cmp x y) :: st) σ) : g_G l dC dI ad ca sh X cc nL own ret R r σ' (pc) lv (.long y :: .long x :: st) σ := by
  intro p e s m args below meth c H locs ls hc hK hX hP hD hS hl
  exact W.lcmp hc.1 hc.2.1 hd (k p e s m args below meth c H locs ls hc hK hX hP hD hS hl)

theorem g_ifnonnull {x : Nat} {off : Int} {tgt : Nat} (hd : decode cc pc = .ok (.ifnonnull off, 3)) (ht : (pc : Int) + off = (tgt : Int)) (k : g_G l dC dI ad ca sh X cc nL own ret R r σ' (tgt) lv (st) σ) : g_G l dC dI ad ca sh X cc nL own ret R r σ' (pc) lv (.ref x :: st) σ := by
  intro p e s m args below meth c H locs ls hc hK hX hP hD hS hl
  exact lv_ifnonnull hc.1 hc.2.1 hd ht (k p e s m args below meth c H locs ls hc hK hX hP hD hS hl)

theorem g_ifnull {x : Nat} {off : Int} (hd : decode cc pc = .ok (.ifnull off, 3)) (k : g_G l dC dI ad ca sh X cc nL own ret R r σ' (pc + 3) lv (st) σ) : g_G l dC dI ad ca sh X cc nL own ret R r σ' (pc) lv (.ref x :: st) σ := by
  intro p e s m args below meth c H locs ls hc hK hX hP hD hS hl
  exact lv_ifnull hc.1 hc.2.1 hd (k p e s m args below meth c H locs ls hc hK hX hP hD hS hl)

theorem g_iret {x : Int32} {ty : FieldType} (hr : ret = some ty) (hn : narrow ty (.int x) = .int x) (he : r = some (.int x)) (hs : σ = σ') (hd : decode cc pc = .ok (.ireturn, 1)) : g_G l dC dI ad ca sh X cc nL own ret R r σ' pc lv [.int x] σ := by
  intro p e s m args below meth c H locs ls hc hK hX hP hD hS hl
  subst he hs
  obtain ⟨h1, h2, h3, h4, h5, h6, hlocks⟩ := hc
  exact W.zret h1 h2 (h6.trans hr) hn (fun t ht hW => ⟨⟨rfl, by rw [ht]; exact hP⟩, hS.F ht⟩) hS.2.2 hd hlocks
theorem g_vret (hr : ret = none) (he : r = none) (hs : σ = σ') (hd : decode cc pc = .ok (.return_, 1)) : g_G l dC dI ad ca sh X cc nL own ret R r σ' pc lv [] σ := by
  intro p e s m args below meth c H locs ls hc hK hX hP hD hS hl
  subst he hs
  obtain ⟨h1, h2, h3, h4, h5, h6, hlocks⟩ := hc
  exact W.vret h1 h2 (h6.trans hr) (fun t ht hW => ⟨⟨rfl, by rw [ht]; exact hP⟩, hS.F ht⟩) hS.2.2 hd hlocks
theorem g_aret {q : Nat} {rt : FieldType} (hr : ret = some rt) (hrt : (∃ n, rt = .object n) ∨ ∃ t, rt = .array t) (he : r = some (.ref q)) (hs : σ = σ') (hd : decode cc pc = .ok (.areturn, 1)) : g_G l dC dI ad ca sh X cc nL own ret R r σ' pc lv [.ref q] σ := by
  intro p e s m args below meth c H locs ls hc hK hX hP hD hS hl
  subst he hs
  obtain ⟨h1, h2, h3, h4, h5, h6, hlocks⟩ := hc
  exact W.aret (v := .ref (ad q)) h1 h2 (h6.trans hr) hrt (Or.inr ⟨_, rfl⟩) (fun t ht hW => ⟨⟨rfl, by rw [ht]; exact hP⟩, hS.F ht⟩) hS.2.2 hd hlocks
/-- a field's entry: its kind in vwCl, its number, whether it is final, its type -/
def g_F (own : String) (idx ci k : Nat) (fin : Bool) (ty : FieldType) : Prop :=
  ∃ (C : String) (T : u_T) (N : Nat) (t0 : Nat → FieldType), vwCl[ci]? = some (C, T, N) ∧ k < N ∧ Cond.fieldLink own idx (T k).1 (T k).2.1 (T k).2.2.1 ∈ gW ∧ (∀ w ∈ u_ws C T N, w ∈ gW) ∧ (∀ k, k < N → parseFieldDescriptor (T k).2.2.1 = some (t0 k)) ∧ (∀ a, a < N → ∀ b, b < N → a ≠ b → (T a).2.1 ≠ (T b).2.1) ∧ (T k).2.2.2 = fin ∧ t0 k = ty
theorem g_get {idx ci k q : Nat} {fin : Bool} {ty : FieldType} {sl : List (Option (Option Nat))} {s0 : Option (Option Nat)} (hf : g_F own idx ci k fin ty) (hs : sh[q]? = some (.inr (.inl (ci, sl)))) (hk : sl[k]? = some s0) {v : Value} (hv : ∀ ad : Nat → Nat, g_fv ad σ q k s0 = g_v ad v) (hd : decode cc pc = .ok (.getfield idx, 3))
    (kk : g_G l dC dI ad ca sh X cc nL own ret R r σ' (pc + 3) lv (v :: st) σ) : g_G l dC dI ad ca sh X cc nL own ret R r σ' pc lv (.ref q :: st) σ := by
  intro p e s m args below meth c H locs ls hc hK hX hP hD hS hl
  obtain ⟨C, T, N, t0, hcl, hkN, hlk, hin, hty, hnm, hfi, hte⟩ := hf
  have he := g_w_at (ad := ad) (ca := ca) (σ := σ) hs
  exact va_get (D := (dC, dI)) (v := g_v ad v) (C := C) (T := T) (N := N) hc.1 hc.2.1 hc.2.2.2.2.1 hin hc.2.2.2.1 hK hP q he hcl k hkN (hc.2.2.2.2.1 _ hlk) (fun _ h9 => h9) (by simp [List.getElem?_mapIdx, hk, hv ad]) hd (kk p e s m args below meth c H locs ls hc hK hX hP hD hS hl)
theorem g_getI {idx ci k q : Nat} {fin : Bool} {ty : FieldType} {sl : List (Option (Option Nat))} (hf : g_F own idx ci k fin ty) (hs : sh[q]? = some (.inr (.inl (ci, sl)))) (hk : sl[k]? = some (some none)) (hd : decode cc pc = .ok (.getfield idx, 3))
    (kk : g_G l dC dI ad ca sh X cc nL own ret R r σ' (pc + 3) lv (.int (σ.1 q k) :: st) σ) : g_G l dC dI ad ca sh X cc nL own ret R r σ' pc lv (.ref q :: st) σ := g_get hf hs hk (fun _ => rfl) hd kk
theorem g_getL {idx ci k q : Nat} {fin : Bool} {ty : FieldType} {sl : List (Option (Option Nat))} (hf : g_F own idx ci k fin ty) (hs : sh[q]? = some (.inr (.inl (ci, sl)))) (hk : sl[k]? = some none) (hd : decode cc pc = .ok (.getfield idx, 3))
    (kk : g_G l dC dI ad ca sh X cc nL own ret R r σ' (pc + 3) lv (.long (σ.2 q) :: st) σ) : g_G l dC dI ad ca sh X cc nL own ret R r σ' pc lv (.ref q :: st) σ := g_get hf hs hk (fun _ => rfl) hd kk
theorem g_getR {idx ci k q q2 : Nat} {fin : Bool} {ty : FieldType} {sl : List (Option (Option Nat))} (hf : g_F own idx ci k fin ty) (hs : sh[q]? = some (.inr (.inl (ci, sl)))) (hk : sl[k]? = some (some (some q2))) (hd : decode cc pc = .ok (.getfield idx, 3))
    (kk : g_G l dC dI ad ca sh X cc nL own ret R r σ' (pc + 3) lv (.ref q2 :: st) σ) : g_G l dC dI ad ca sh X cc nL own ret R r σ' pc lv (.ref q :: st) σ := g_get hf hs hk (fun _ => rfl) hd kk
theorem g_D {A : Nat → Prop} {τ : gM} (h : va_D A (g_w ad ca sh σ)) : va_D A (g_w ad ca sh τ) := by
  have key : ∀ (i : Nat) (q : Nat × va_E), (g_w ad ca sh τ)[i]? = some q → ∃ q', (g_w ad ca sh σ)[i]? = some q' ∧ q'.1 = q.1 := by
    intro i q hq
    obtain ⟨h1, h2⟩ := g_w_of hq
    have h3 : sh[i]? = some sh[i] := List.getElem?_eq_getElem h1
    exact ⟨_, g_w_at h3, h2.symm⟩
  refine ⟨fun i j p q hp hq he => ?_, fun k q hq => ?_⟩
  · obtain ⟨p', hp', ep⟩ := key i p hp
    obtain ⟨q', hq', eq⟩ := key j q hq
    exact h.1 i j p' q' hp' hq' (by rw [ep, eq, he])
  · obtain ⟨q', hq', eq⟩ := key k q hq
    rw [← eq]
    exact h.2 k q' hq'
theorem g_putI {idx ci k q : Nat} {ty : FieldType} {sl : List (Option (Option Nat))} {v : Int32} (hf : g_F own idx ci k false ty) (hs : sh[q]? = some (.inr (.inl (ci, sl)))) (hk : sl[k]? = some (some none)) (hn : narrow ty (.int v) = .int v) (hfit : fits ty (.int v) = true) {τ : gM} (hτ : τ = g_put σ q k v) (hd : decode cc pc = .ok (.putfield idx, 3))
    (kk : g_G l dC dI ad ca sh X cc nL own ret R r σ' (pc + 3) lv st τ) : g_G l dC dI ad ca sh X cc nL own ret R r σ' pc lv (.int v :: .ref q :: st) σ := by
  subst hτ
  intro p e s m args below meth c H locs ls hc hK hX hP hD hS hl
  obtain ⟨C, T, N, t0, hcl, hkN, hlk, hin, hty, hnm, hfi, hte⟩ := hf
  have he := g_w_at (ad := ad) (ca := ca) (σ := σ) hs
  refine va_put (D := (dC, dI)) (v := .int v) (ty := ty) (C := C) (T := T) (N := N) hc.1 hc.2.1 hc.2.2.2.2.1 hin t0 hty hnm hc.2.2.2.1 hK hP hD hS q he hcl k hkN (hc.2.2.2.2.1 _ hlk) (fun _ h9 => h9) hfi (by rw [hty k hkN, hte]) hn hfit (by simp; exact (List.getElem?_eq_some_iff.mp hk).1) hd (fun H1 locs1 hP1 hD1 hS1 => ?_)
  have e1 : (g_w ad ca sh σ).set q (ad q, .inr (ci, (sl.mapIdx (fun j s => g_fv ad σ q j s)).set k (.int v))) = g_w ad ca sh (g_put σ q k v) := by
    rw [g_put_e (ad := ad) (ca := ca) (ci := ci) hk]
    exact g_w_set (e := .inr (.inl (ci, sl))) hs (fun p hp => g_put_o σ q k v p hp) (fun p _ => rfl)
  rw [e1] at hP1
  exact kk p e s m args below meth c H1 locs1 ls hc hK hX hP1 (g_D hD) hS1 hl
theorem g_putL {idx ci k q : Nat} {sl : List (Option (Option Nat))} {v : Int64} (hf : g_F own idx ci k false .long) (hs : sh[q]? = some (.inr (.inl (ci, sl)))) (hk : sl[k]? = some none) (hu : ∀ j, sl[j]? = some none → j = k) {τ : gM} (hτ : τ = g_lng σ q v) (hd : decode cc pc = .ok (.putfield idx, 3))
    (kk : g_G l dC dI ad ca sh X cc nL own ret R r σ' (pc + 3) lv st τ) : g_G l dC dI ad ca sh X cc nL own ret R r σ' pc lv (.long v :: .ref q :: st) σ := by
  subst hτ
  intro p e s m args below meth c H locs ls hc hK hX hP hD hS hl
  obtain ⟨C, T, N, t0, hcl, hkN, hlk, hin, hty, hnm, hfi, hte⟩ := hf
  have he := g_w_at (ad := ad) (ca := ca) (σ := σ) hs
  refine va_put (D := (dC, dI)) (v := .long v) (ty := .long) (C := C) (T := T) (N := N) hc.1 hc.2.1 hc.2.2.2.2.1 hin t0 hty hnm hc.2.2.2.1 hK hP hD hS q he hcl k hkN (hc.2.2.2.2.1 _ hlk) (fun _ h9 => h9) hfi (by rw [hty k hkN, hte]) rfl rfl (by simp; exact (List.getElem?_eq_some_iff.mp hk).1) hd (fun H1 locs1 hP1 hD1 hS1 => ?_)
  have e1 : (g_w ad ca sh σ).set q (ad q, .inr (ci, (sl.mapIdx (fun j s => g_fv ad σ q j s)).set k (.long v))) = g_w ad ca sh (g_lng σ q v) := by
    rw [g_lng_e (ad := ad) hk hu]
    exact g_w_set (e := .inr (.inl (ci, sl))) hs (fun p _ => rfl) (fun p hp => if_neg hp)
  rw [e1] at hP1
  exact kk p e s m args below meth c H1 locs1 ls hc hK hX hP1 (g_D hD) hS1 hl

theorem g_iald {q n : Nat} {i : Int32} (hs : sh[q]? = some (.inl (.int, n))) (hi : ¬ (i < 0 ∨ n ≤ i.toNatClampNeg)) {j : Nat} (hj : i.toNatClampNeg = j) (hd : decode cc pc = .ok (.iaload, 1)) (k : g_G l dC dI ad ca sh X cc nL own ret R r σ' (pc + 1) lv (.int (σ.1 q j) :: st) σ) : g_G l dC dI ad ca sh X cc nL own ret R r σ' (pc) lv (.int i :: .ref q :: st) σ := by
  subst hj
  intro p e s m args below meth c H locs ls hc hK hX hP hD hS hl
  obtain ⟨t0, ht0⟩ := g_tys_at (ca := ca) hs rfl
  exact va_iald hc.1 hc.2.1 hK hP q t0 (g_w_at (ad := ad) (ca := ca) (σ := σ) hs) ht0 hi hd (k p e s m args below meth c H locs ls hc hK hX hP hD hS hl)

theorem g_bald {q n : Nat} {i : Int32} (hs : sh[q]? = some (.inl (.byte, n))) (hi : ¬ (i < 0 ∨ n ≤ i.toNatClampNeg)) {j : Nat} (hj : i.toNatClampNeg = j) (hd : decode cc pc = .ok (.baload, 1)) (k : g_G l dC dI ad ca sh X cc nL own ret R r σ' (pc + 1) lv (.int (σ.1 q j) :: st) σ) : g_G l dC dI ad ca sh X cc nL own ret R r σ' (pc) lv (.int i :: .ref q :: st) σ := by
  subst hj
  intro p e s m args below meth c H locs ls hc hK hX hP hD hS hl
  obtain ⟨t0, ht0⟩ := g_tys_at (ca := ca) hs rfl
  exact va_bald hc.1 hc.2.1 hK hP q t0 (g_w_at (ad := ad) (ca := ca) (σ := σ) hs) ht0 hi hd (k p e s m args below meth c H locs ls hc hK hX hP hD hS hl)

theorem g_zald {q n : Nat} {i : Int32} (hs : sh[q]? = some (.inl (.boolean, n))) (hi : ¬ (i < 0 ∨ n ≤ i.toNatClampNeg)) {j : Nat} (hj : i.toNatClampNeg = j) (hd : decode cc pc = .ok (.baload, 1)) (k : g_G l dC dI ad ca sh X cc nL own ret R r σ' (pc + 1) lv (.int (σ.1 q j) :: st) σ) : g_G l dC dI ad ca sh X cc nL own ret R r σ' (pc) lv (.int i :: .ref q :: st) σ := by
  subst hj
  intro p e s m args below meth c H locs ls hc hK hX hP hD hS hl
  obtain ⟨t0, ht0⟩ := g_tys_at (ca := ca) hs rfl
  exact va_zald hc.1 hc.2.1 hK hP q t0 (g_w_at (ad := ad) (ca := ca) (σ := σ) hs) ht0 hi hd (k p e s m args below meth c H locs ls hc hK hX hP hD hS hl)

theorem g_iast {q n : Nat} {i x : Int32} (hs : sh[q]? = some (.inl (.int, n))) (hi : ¬ (i < 0 ∨ n ≤ i.toNatClampNeg)) {j : Nat} (hj : i.toNatClampNeg = j) {τ : gM} (hτ : τ = g_put σ q j x) (hd : decode cc pc = .ok (.iastore, 1)) (k : g_G l dC dI ad ca sh X cc nL own ret R r σ' (pc + 1) lv (st) τ) : g_G l dC dI ad ca sh X cc nL own ret R r σ' (pc) lv (.int x :: .int i :: .ref q :: st) σ := by
  subst hj
  subst hτ
  intro p e s m args below meth c H locs ls hc hK hX hP hD hS hl
  obtain ⟨t0, ht0⟩ := g_tys_at (ca := ca) hs rfl
  refine va_iast hc.1 hc.2.1 hK hP hD hS q t0 (g_w_at (ad := ad) (ca := ca) (σ := σ) hs) ht0 hi hd (fun H1 locs1 hP1 hD1 hS1 => ?_)
  have e1 : (g_w ad ca sh σ).set q (ad q, .inl (ca q, n, .inl (upd (σ.1 q) i.toNatClampNeg x))) = g_w ad ca sh (g_put σ q i.toNatClampNeg x) := by
    rw [← g_put_k]
    exact g_w_set (e := .inl (.int, n)) hs (fun p hp => g_put_o σ q _ _ p hp) (fun p _ => rfl)
  rw [e1] at hP1
  exact k p e s m args below meth c H1 locs1 ls hc hK hX hP1 (g_D hD) hS1 hl

theorem g_bast {q n : Nat} {i x : Int32} (hs : sh[q]? = some (.inl (.byte, n))) (hi : ¬ (i < 0 ∨ n ≤ i.toNatClampNeg)) {j : Nat} (hj : i.toNatClampNeg = j) {τ : gM} (hτ : τ = g_put σ q j (vp_nar .byte x)) (hd : decode cc pc = .ok (.bastore, 1)) (k : g_G l dC dI ad ca sh X cc nL own ret R r σ' (pc + 1) lv (st) τ) : g_G l dC dI ad ca sh X cc nL own ret R r σ' (pc) lv (.int x :: .int i :: .ref q :: st) σ := by
  subst hj
  subst hτ
  intro p e s m args below meth c H locs ls hc hK hX hP hD hS hl
  obtain ⟨t0, ht0⟩ := g_tys_at (ca := ca) hs rfl
  refine va_bast hc.1 hc.2.1 hK hP hD hS q t0 (g_w_at (ad := ad) (ca := ca) (σ := σ) hs) ht0 hi hd (fun H1 locs1 hP1 hD1 hS1 => ?_)
  have e1 : (g_w ad ca sh σ).set q (ad q, .inl (ca q, n, .inl (upd (σ.1 q) i.toNatClampNeg (vp_nar .byte x)))) = g_w ad ca sh (g_put σ q i.toNatClampNeg (vp_nar .byte x)) := by
    rw [← g_put_k]
    exact g_w_set (e := .inl (.byte, n)) hs (fun p hp => g_put_o σ q _ _ p hp) (fun p _ => rfl)
  rw [e1] at hP1
  exact k p e s m args below meth c H1 locs1 ls hc hK hX hP1 (g_D hD) hS1 hl

theorem g_zast {q n : Nat} {i x : Int32} (hs : sh[q]? = some (.inl (.boolean, n))) (hi : ¬ (i < 0 ∨ n ≤ i.toNatClampNeg)) {j : Nat} (hj : i.toNatClampNeg = j) {τ : gM} (hτ : τ = g_put σ q j (vp_nar .boolean x)) (hd : decode cc pc = .ok (.bastore, 1)) (k : g_G l dC dI ad ca sh X cc nL own ret R r σ' (pc + 1) lv (st) τ) : g_G l dC dI ad ca sh X cc nL own ret R r σ' (pc) lv (.int x :: .int i :: .ref q :: st) σ := by
  subst hj
  subst hτ
  intro p e s m args below meth c H locs ls hc hK hX hP hD hS hl
  obtain ⟨t0, ht0⟩ := g_tys_at (ca := ca) hs rfl
  refine va_zast hc.1 hc.2.1 hK hP hD hS q t0 (g_w_at (ad := ad) (ca := ca) (σ := σ) hs) ht0 hi hd (fun H1 locs1 hP1 hD1 hS1 => ?_)
  have e1 : (g_w ad ca sh σ).set q (ad q, .inl (ca q, n, .inl (upd (σ.1 q) i.toNatClampNeg (vp_nar .boolean x)))) = g_w ad ca sh (g_put σ q i.toNatClampNeg (vp_nar .boolean x)) := by
    rw [← g_put_k]
    exact g_w_set (e := .inl (.boolean, n)) hs (fun p hp => g_put_o σ q _ _ p hp) (fun p _ => rfl)
  rw [e1] at hP1
  exact k p e s m args below meth c H1 locs1 ls hc hK hX hP1 (g_D hD) hS1 hl

theorem g_alen {q n : Nat} {ty : FieldType} (hs : sh[q]? = some (.inl (ty, n))) (hd : decode cc pc = .ok (.arraylength, 1)) (k : g_G l dC dI ad ca sh X cc nL own ret R r σ' (pc + 1) lv (.int (Int32.ofNat n) :: st) σ) : g_G l dC dI ad ca sh X cc nL own ret R r σ' (pc) lv (.ref q :: st) σ := by
  intro p e s m args below meth c H locs ls hc hK hX hP hD hS hl
  obtain ⟨t0, ht0⟩ := g_tys_at (ca := ca) hs rfl
  exact va_alen hc.1 hc.2.1 hK hP q t0 (g_w_at (ad := ad) (ca := ca) (σ := σ) hs) ht0 rfl hd (k p e s m args below meth c H locs ls hc hK hX hP hD hS hl)

theorem g_alenQ {q : Nat} {qs : List Nat} (hs : sh[q]? = some (.inr (.inr qs))) (hd : decode cc pc = .ok (.arraylength, 1)) (k : g_G l dC dI ad ca sh X cc nL own ret R r σ' (pc + 1) lv (.int (Int32.ofNat qs.length) :: st) σ) : g_G l dC dI ad ca sh X cc nL own ret R r σ' (pc) lv (.ref q :: st) σ := by
  intro p e s m args below meth c H locs ls hc hK hX hP hD hS hl
  obtain ⟨t0, ht0⟩ := g_tys_at (ca := ca) hs rfl
  exact va_alen hc.1 hc.2.1 hK hP q t0 (g_w_at (ad := ad) (ca := ca) (σ := σ) hs) ht0 rfl hd (k p e s m args below meth c H locs ls hc hK hX hP hD hS hl)

theorem g_aald {q q2 : Nat} {qs : List Nat} {i : Int32} (hs : sh[q]? = some (.inr (.inr qs))) (hi : ¬ (i < 0 ∨ qs.length ≤ i.toNatClampNeg)) (hq : qs[i.toNatClampNeg]? = some q2) (hd : decode cc pc = .ok (.aaload, 1)) (k : g_G l dC dI ad ca sh X cc nL own ret R r σ' (pc + 1) lv (.ref q2 :: st) σ) : g_G l dC dI ad ca sh X cc nL own ret R r σ' (pc) lv (.int i :: .ref q :: st) σ := by
  intro p e s m args below meth c H locs ls hc hK hX hP hD hS hl
  obtain ⟨t0, ht0⟩ := g_tys_at (ca := ca) hs rfl
  refine va_aldq hc.1 hc.2.1 hK hP q t0 (g_w_at (ad := ad) (ca := ca) (σ := σ) hs) ht0 hi hd ?_
  have e1 : va_rf ((qs[i.toNatClampNeg]?).map ad) = .ref (ad q2) := by rw [hq]; rfl
  show W p l e R s m args below meth c H locs 0 0 _ (F0 m (pc + 1) ls (va_rf ((qs[i.toNatClampNeg]?).map ad) :: st.map (g_v ad)))
  rw [e1]
  exact k p e s m args below meth c H locs ls hc hK hX hP hD hS hl

theorem g_gets {idx q : Nat} {C n d : String} (hz : ∀ A U H, X A U H → va_Z C n d (.ref (ad q)) A U H) (hw : Cond.fieldLink own idx C n d ∈ gW) (hd : decode cc pc = .ok (.getstatic idx, 3)) (k : g_G l dC dI ad ca sh X cc nL own ret R r σ' (pc + 3) lv (.ref q :: st) σ) : g_G l dC dI ad ca sh X cc nL own ret R r σ' (pc) lv (st) σ := by
  intro p e s m args below meth c H locs ls hc hK hX hP hD hS hl
  exact va_gets hc.1 hc.2.1 (hz _ _ _ hX) hS hc.2.2.2.1 (hc.2.2.2.2.1 _ hw) (fun _ h9 => h9) hd (k p e s m args below meth c H locs ls hc hK hX hP hD hS hl)

theorem g_ti {q N : Nat} {f : Nat → Int32} {i : Int32} (ht : ∀ A U H, X A U H → va_T .int (ad q) N (fun j => .int (f j)) A U H) (hi : ¬ (i < 0 ∨ N ≤ i.toNatClampNeg)) {j : Nat} (hj : i.toNatClampNeg = j) (hd : decode cc pc = .ok (.iaload, 1)) (k : g_G l dC dI ad ca sh X cc nL own ret R r σ' (pc + 1) lv (.int (f j) :: st) σ) : g_G l dC dI ad ca sh X cc nL own ret R r σ' (pc) lv (.int i :: .ref q :: st) σ := by
  subst hj
  intro p e s m args below meth c H locs ls hc hK hX hP hD hS hl
  exact va_ti hc.1 hc.2.1 (ht _ _ _ hX) hS hi rfl hd (k p e s m args below meth c H locs ls hc hK hX hP hD hS hl)

theorem g_tlen {q N : Nat} {f : Nat → Value} (ht : ∀ A U H, X A U H → va_T .int (ad q) N f A U H) (hd : decode cc pc = .ok (.arraylength, 1)) (k : g_G l dC dI ad ca sh X cc nL own ret R r σ' (pc + 1) lv (.int (Int32.ofNat N) :: st) σ) : g_G l dC dI ad ca sh X cc nL own ret R r σ' (pc) lv (.ref q :: st) σ := by
  intro p e s m args below meth c H locs ls hc hK hX hP hD hS hl
  exact va_tlen hc.1 hc.2.1 (ht _ _ _ hX) hS rfl hd (k p e s m args below meth c H locs ls hc hK hX hP hD hS hl)

theorem g_ldcS {idx q : Nat} {tx : String} (hz : ∀ A U H, X A U H → vk_R own idx tx (ad q) U) (hd : decode cc pc = .ok (.ldc idx, 2)) (k : g_G l dC dI ad ca sh X cc nL own ret R r σ' (pc + 2) lv (.ref q :: st) σ) : g_G l dC dI ad ca sh X cc nL own ret R r σ' (pc) lv (st) σ := by
  intro p e s m args below meth c H locs ls hc hK hX hP hD hS hl
  exact va_ldcS hc.1 hc.2.1 hc.2.2.2.1 (hz _ _ _ hX) hd (k p e s m args below meth c H locs ls hc hK hX hP hD hS hl)

theorem g_min {idx : Nat} {x y : Int32} (hw : Cond.methodLink own idx Lib.Math.min.name ∈ gW ∧ Cond.static Lib.Math.min.name ∈ gW ∧ Cond.initialized "java/lang/Math" ∈ gW ∧ Cond.code Lib.Math.min.name Lib.Math.min.code 2 (some .int) ∈ gW) (hR : 1 ≤ R.frames ∧ (st.map fun v => v.category).sum + 13 ≤ R.locals) (hd : decode cc pc = .ok (.invokestatic idx, 3)) (k : g_G l dC dI ad ca sh X cc nL own ret R r σ' (pc + 3) lv (.int (if y < x then y else x) :: st) σ) : g_G l dC dI ad ca sh X cc nL own ret R r σ' (pc) lv (.int y :: .int x :: st) σ := by
  intro p e s m args below meth c H locs ls hc hK hX hP hD hS hl
  have e1 : ((st.map (g_v ad)).map fun v => v.category).sum = (st.map fun v => v.category).sum := by rw [List.map_map]; congr 1; apply List.map_congr_left; intro v _; exact g_v_cat ad v
  exact va_mmin hc.1 hc.2.1 (by rw [hc.2.2.1, hl.1]) hc.2.2.2.1 (hc.2.2.2.2.1 _ hw.1) (hc.2.2.2.2.1 _ hw.2.1) (hc.2.2.2.2.1 _ hw.2.2.1) (hc.2.2.2.2.1 _ hw.2.2.2) hR.1 (by rw [e1]; exact hR.2) (Nat.zero_le _) (Nat.zero_le _) hd (k p e s m args below meth c H locs ls hc hK hX hP hD hS hl)

theorem g_max {idx : Nat} {x y : Int32} (hw : Cond.methodLink own idx Lib.Math.max.name ∈ gW ∧ Cond.static Lib.Math.max.name ∈ gW ∧ Cond.initialized "java/lang/Math" ∈ gW ∧ Cond.code Lib.Math.max.name Lib.Math.max.code 2 (some .int) ∈ gW) (hR : 1 ≤ R.frames ∧ (st.map fun v => v.category).sum + 13 ≤ R.locals) (hd : decode cc pc = .ok (.invokestatic idx, 3)) (k : g_G l dC dI ad ca sh X cc nL own ret R r σ' (pc + 3) lv (.int (if x < y then y else x) :: st) σ) : g_G l dC dI ad ca sh X cc nL own ret R r σ' (pc) lv (.int y :: .int x :: st) σ := by
  intro p e s m args below meth c H locs ls hc hK hX hP hD hS hl
  have e1 : ((st.map (g_v ad)).map fun v => v.category).sum = (st.map fun v => v.category).sum := by rw [List.map_map]; congr 1; apply List.map_congr_left; intro v _; exact g_v_cat ad v
  exact va_mmax hc.1 hc.2.1 (by rw [hc.2.2.1, hl.1]) hc.2.2.2.1 (hc.2.2.2.2.1 _ hw.1) (hc.2.2.2.2.1 _ hw.2.1) (hc.2.2.2.2.1 _ hw.2.2.1) (hc.2.2.2.2.1 _ hw.2.2.2) hR.1 (by rw [e1]; exact hR.2) (Nat.zero_le _) (Nat.zero_le _) hd (k p e s m args below meth c H locs ls hc hK hX hP hD hS hl)

theorem g_copy {idx q0 q1 n0 n1 : Nat} {sp dp n : Int32} (hw : Cond.methodLink own idx arraycopyName ∈ gW ∧ Cond.native arraycopyName ∈ gW ∧ Cond.static arraycopyName ∈ gW ∧ Cond.initialized "java/lang/System" ∈ gW) (hs0 : sh[q0]? = some (.inl (.int, n0))) (hs1 : sh[q1]? = some (.inl (.int, n1))) (h1 : ¬ sp < 0) (h2 : ¬ dp < 0) (h3 : ¬ n < 0) (h4 : sp.toNatClampNeg + n.toNatClampNeg ≤ n0) (h5 : dp.toNatClampNeg + n.toNatClampNeg ≤ n1) (hR : 1 ≤ R.frames ∧ (st.map fun v => v.category).sum + (nativeFrameWords "java/lang/System" "arraycopy" 5 + 11) ≤ R.locals) {τ : gM} (hτ : τ = g_row σ q1 (va_cpy (σ.1 q0) (σ.1 q1) sp.toNatClampNeg dp.toNatClampNeg n.toNatClampNeg)) (hd : decode cc pc = .ok (.invokestatic idx, 3)) (k : g_G l dC dI ad ca sh X cc nL own ret R r σ' (pc + 3) lv (st) τ) : g_G l dC dI ad ca sh X cc nL own ret R r σ' (pc) lv (.int n :: .int dp :: .ref q1 :: .int sp :: .ref q0 :: st) σ := by
  subst hτ
  intro p e s m args below meth c H locs ls hc hK hX hP hD hS hl
  obtain ⟨t0, ht0⟩ := g_tys_at (ca := ca) hs0 rfl
  obtain ⟨t1, ht1⟩ := g_tys_at (ca := ca) hs1 rfl
  have e1 : ((st.map (g_v ad)).map fun v => v.category).sum = (st.map fun v => v.category).sum := by rw [List.map_map]; congr 1; apply List.map_congr_left; intro v _; exact g_v_cat ad v
  refine va_copyi hc.1 hc.2.1 (by rw [hc.2.2.1, hl.1]) hc.2.2.2.1 (hc.2.2.2.2.1 _ hw.1) (hc.2.2.2.2.1 _ hw.2.1) (hc.2.2.2.2.1 _ hw.2.2.1) (hc.2.2.2.2.1 _ hw.2.2.2) hK hP hD hS q0 q1 t0 t1 (g_w_at (ad := ad) (ca := ca) (σ := σ) hs0) (g_w_at (ad := ad) (ca := ca) (σ := σ) hs1) ht0 ht1 rfl h1 h2 h3 h4 h5 (fun _ _ => rfl) hR.1 (by rw [e1]; exact hR.2) hd (fun H1 locs1 hP1 hD1 hS1 => ?_)
  generalize hf : va_cpy (σ.1 q0) (σ.1 q1) sp.toNatClampNeg dp.toNatClampNeg n.toNatClampNeg = f at hP1 k
  have e2 : (g_w ad ca sh σ).set q1 (ad q1, .inl (ca q1, n1, .inl f)) = g_w ad ca sh (g_row σ q1 f) := by
    have e3 : (g_row σ q1 f).1 q1 = f := if_pos rfl
    have e4 := g_w_set (ad := ad) (ca := ca) (σ := σ) (τ := g_row σ q1 f) (e := .inl (.int, n1)) hs1 (fun p hp => if_neg hp) (fun p _ => rfl)
    simp only [g_e, e3] at e4
    exact e4
  rw [e2] at hP1
  exact k p e s m args below meth c H1 locs1 ls hc hK hX hP1 (g_D hD) hS1 hl

/-- behind a call: the picture that the callee leaves -/
theorem g_backW {p : Program} {e : Env} {s : State} {m : MethodId} {args : Array Value} {below : List Frame} {meth : Method} {c : Code} {H : Heap} {locs : List Loc} {ls : Array Slot} {st0 rest : List Value} {a : Array Value} {A0 A1 : Nat → Prop} {H0 : Heap} {r1 : Option Value} {σ1 : gM} {Q : State → Prop}
    (hr : va_Run p l e R s m args below meth c H locs 0 0 0 0 (F0 m pc ls st0) rest (g_Q dC dI ad ca sh r1 σ1 A1 a) A1) (hS : va_S A0 H0 H locs) (hA : ∀ q, A1 q → A0 q)
    (kk : ∀ (H1 : Heap) (locs1 : List Loc), va_P (dC, dI) vwCl (g_w ad ca sh σ1) H1 → va_S A0 H0 H1 locs1 → W p l e R s m args below meth c H1 locs1 0 0 Q (F0 m (pc + 3) ls ((r1.map (g_v ad)).toList ++ rest))) : W p l e R s m args below meth c H locs 0 0 Q (F0 m pc ls st0) := by
  intro T hT X
  obtain ⟨v, st₀, t, T', L, h0, X', hL, e1, e2, ⟨⟨hv, hp⟩, hz, hk⟩, st⟩ := hr T hT X
  cases hv
  rw [h0] at hz hk
  obtain ⟨t2, a1, b1⟩ := kk T'.heap (locs ++ L) (by rw [e1]; exact hp)
    ⟨Nat.le_trans hS.1 (by rw [e1]; exact hz), fun q h1 h2 => by rw [e1, hk q (Nat.lt_of_lt_of_le h1 hS.1) (fun z => h2 (hA q z))]; exact hS.2.1 q h1 h2, fun q hq => by
      rcases List.mem_append.mp hq with h | h
      · exact hS.2.2 q h
      · exact hA _ (hL q h)⟩ T' rfl X'
  exact ⟨t2, st t2 a1, b1⟩
theorem g_pre {y : MethodName} {as : List Value} {s : State} {H : Heap} {locs : List Loc} (hXX : g_X X) (hK : va_K (dC, dI) vwCl (g_tys ca sh) s) (hX : X (g_A ad sh s.heap.size) s s.heap) (hP : va_P (dC, dI) vwCl (g_w ad ca sh σ) H) (hD : va_D (g_A ad sh s.heap.size) (g_w ad ca sh σ)) (hS : va_S (g_A ad sh s.heap.size) s.heap H locs) :
    FrameBlind (va_Pc (as.map (g_v ad)) (fun U => U.heap.size = H.size ∧ va_P (dC, dI) vwCl (g_w ad ca sh σ) U.heap ∧ va_K (dC, dI) vwCl (g_tys ca sh) U ∧ va_D (g_A ad sh H.size) (g_w ad ca sh σ) ∧ X (g_A ad sh H.size) U U.heap)) ∧ ∀ U : State, U.heap = H → s.WarmedH U.vm → va_Pc (as.map (g_v ad)) (fun U => U.heap.size = H.size ∧ va_P (dC, dI) vwCl (g_w ad ca sh σ) U.heap ∧ va_K (dC, dI) vwCl (g_tys ca sh) U ∧ va_D (g_A ad sh H.size) (g_w ad ca sh σ) ∧ X (g_A ad sh H.size) U U.heap) (as.map (g_v ad)).toArray U := by
  refine ⟨fun a U g mk q => ?_, fun U hU hW => ?_⟩
  · obtain ⟨q0, q1, qP, qK, qD, qX⟩ := q
    exact ⟨q0, q1, qP, va_K.moved (u := U) (U := U.calling g mk a) (Vm.Alike.refl U.vm) qK, qD, hXX.1 _ U (U.calling g mk a) _ (State.WarmedH.refl U) qX⟩
  · subst hU
    refine ⟨rfl, rfl, hP, va_K.moved hW.alike hK, hD.weaken (fun k q hk _ => ?_), hXX.2.2 _ _ U _ (g_A_le hS.1) (hXX.1 _ s U _ hW (hXX.2.1 _ s _ _ hS.2.1 hX))⟩
    obtain ⟨h1, h2⟩ := g_w_of hk
    exact Or.inl ⟨k, h1, h2.symm⟩
/-- the links of a call -/
def g_V (own : String) (idx : Nat) (y : MethodName) (cc : ByteArray) (nL : Nat) (ret : Option FieldType) (n : Nat) : Prop :=
  Cond.methodLink own idx y ∈ gW ∧ Cond.instanceMethod y ∈ gW ∧ Cond.selects y.cls y y ∈ gW ∧ Cond.initialized y.cls ∈ gW ∧ Cond.code y cc nL ret ∈ gW ∧ y.cls ≠ "java/lang/invoke/MethodHandle" ∧ y.cls ≠ "java/lang/invoke/VarHandle" ∧ (parseMethodDescriptor y.desc).map (fun d => d.parameters.length) = some n
def g_S (own : String) (idx : Nat) (y : MethodName) (cc : ByteArray) (nL : Nat) (ret : Option FieldType) (n : Nat) : Prop :=
  Cond.methodLink own idx y ∈ gW ∧ Cond.static y ∈ gW ∧ Cond.initialized y.cls ∈ gW ∧ Cond.code y cc nL ret ∈ gW ∧ y.cls ≠ "java/lang/invoke/MethodHandle" ∧ y.cls ≠ "java/lang/invoke/VarHandle" ∧ (parseMethodDescriptor y.desc).map (fun d => d.parameters.length) = some n
theorem g_sum (ad : Nat → Nat) (st : List Value) : ((st.map (g_v ad)).map fun v => v.category).sum = (st.map fun v => v.category).sum := by
  rw [List.map_map]; congr 1; apply List.map_congr_left; intro v _; exact g_v_cat ad v
theorem g_callV {idx n q ci nL1 : Nat} {y : MethodName} {cc1 : ByteArray} {ret1 : Option FieldType} {rm : Room} {as : List Value} {r1 : Option Value} {σ1 : gM} {sl : List (Option (Option Nat))} {T : u_T} {N : Nat} {stk : List Value} (hXX : g_X X) (hv : g_V own idx y cc1 nL1 ret1 n) (hs : sh[q]? = some (.inr (.inl (ci, sl)))) (hcl : vwCl[ci]? = some (y.cls, T, N)) (hC : g_C l dC dI ad ca sh X y cc1 nL1 ret1 rm (.ref q :: as) σ r1 σ1)
    (hn : as.length = n) (hR : rm.cells = 0 ∧ rm.slots = 0 ∧ rm.frames + 1 ≤ R.frames ∧ 8 + (nL1 + 11) + rm.locals ≤ R.locals) (hst : (st.map fun v => v.category).sum ≤ 8) (hk : stk = as.reverse ++ .ref q :: st) (hd : decode cc pc = .ok (.invokevirtual idx, 3)) (k : g_G l dC dI ad ca sh X cc nL own ret R r σ' (pc + 3) lv (r1.toList ++ st) σ1) :
    g_G l dC dI ad ca sh X cc nL own ret R r σ' pc lv stk σ := by
  intro p e s m args below meth c H locs ls hc hK hX hP hD hS hl
  obtain ⟨w1, w2, w3, w4, w5, w6, w7, w8⟩ := hv
  have hG : GoodIn gW (wsV own idx y.cls y (Cond.code y cc1 nL1 ret1 :: gW)) := by
    intro w hw
    rcases List.mem_append.mp hw with h | h
    · simp only [List.mem_cons, List.not_mem_nil, or_false] at h
      rcases h with rfl | rfl | rfl | rfl
      · exact ⟨w1, good_of_word (List.mem_filter.mp w1).2⟩
      · exact ⟨w2, good_of_word (List.mem_filter.mp w2).2⟩
      · exact ⟨w3, good_of_word (List.mem_filter.mp w3).2⟩
      · exact ⟨w4, good_of_word (List.mem_filter.mp w4).2⟩
    · exact gW_good w5 w h
  have hpre := g_pre (y := y) (as := .ref q :: as) hXX hK hX hP hD hS
  have hrun := va_runV (As := as.map (g_v ad)) (rest := st.map (g_v ad)) (b := ad q) (g := F0 m pc ls (stk.map (g_v ad))) (locs := locs) (cells := 0) (slots := 0) (n := n) (mc := 0) (ms := 0) (R := R) (below := below) (e := e) (meth := meth) ⟨hc.1, hc.2.1, hc.2.2.1, hc.2.2.2.1, hc.2.2.2.2.1⟩ (hC H.size)
    (cwV n hc.2.2.2.2.1 hG rfl hR.1 hR.2.1 ⟨rfl, w6, w7, w8⟩ hR.2.2) ⟨hpre.1, va_recv hK hP hcl (g_w_at (ad := ad) (ca := ca) (σ := σ) hs), hpre.2⟩ rfl (by rw [List.length_map]; exact hn) hl.1 (by rw [hk]; simp [g_v]) (by rw [g_sum]; show 2 * (F0 m pc ls (stk.map (g_v ad))).monitorRoom + _ ≤ 8; have := lv_room (m := m) (pc := pc) (ls := ls) (rest := stk.map (g_v ad)) (st := st) hst; exact this) hd ⟨Nat.zero_le _, Nat.zero_le _⟩
  refine g_backW hrun hS (g_A_le hS.1) (fun H1 locs1 hP1 hS1 => ?_)
  have e1 : (r1.map (g_v ad)).toList ++ st.map (g_v ad) = (r1.toList ++ st).map (g_v ad) := by cases r1 <;> simp
  rw [e1]
  exact k p e s m args below meth c H1 locs1 ls hc hK hX hP1 (g_D hD) hS1 hl
theorem g_callS {idx n nL1 : Nat} {y : MethodName} {cc1 : ByteArray} {ret1 : Option FieldType} {rm : Room} {as : List Value} {r1 : Option Value} {σ1 : gM} {stk : List Value} (hXX : g_X X) (hv : g_S own idx y cc1 nL1 ret1 n) (hC : g_C l dC dI ad ca sh X y cc1 nL1 ret1 rm as σ r1 σ1)
    (hn : as.length = n) (hR : rm.cells = 0 ∧ rm.slots = 0 ∧ rm.frames + 1 ≤ R.frames ∧ 8 + (nL1 + 11) + rm.locals ≤ R.locals) (hst : (st.map fun v => v.category).sum ≤ 8) (hk : stk = as.reverse ++ st) (hd : decode cc pc = .ok (.invokestatic idx, 3)) (k : g_G l dC dI ad ca sh X cc nL own ret R r σ' (pc + 3) lv (r1.toList ++ st) σ1) :
    g_G l dC dI ad ca sh X cc nL own ret R r σ' pc lv stk σ := by
  intro p e s m args below meth c H locs ls hc hK hX hP hD hS hl
  obtain ⟨w1, w2, w4, w5, w6, w7, w8⟩ := hv
  have hG : GoodIn gW (va_wsS own idx y (Cond.code y cc1 nL1 ret1 :: gW)) := by
    intro w hw
    rcases List.mem_append.mp hw with h | h
    · simp only [List.mem_cons, List.not_mem_nil, or_false] at h
      rcases h with rfl | rfl | rfl
      · exact ⟨w1, good_of_word (List.mem_filter.mp w1).2⟩
      · exact ⟨w2, good_of_word (List.mem_filter.mp w2).2⟩
      · exact ⟨w4, good_of_word (List.mem_filter.mp w4).2⟩
    · exact gW_good w5 w h
  have hpre := g_pre (y := y) (as := as) hXX hK hX hP hD hS
  have hrun := va_runS (As := as.map (g_v ad)) (rest := st.map (g_v ad)) (g := F0 m pc ls (stk.map (g_v ad))) (locs := locs) (cells := 0) (slots := 0) (n := n) (mc := 0) (ms := 0) (R := R) (below := below) (e := e) (meth := meth) ⟨hc.1, hc.2.1, hc.2.2.1, hc.2.2.2.1, hc.2.2.2.2.1⟩ (hC H.size)
    (va_cwS n hc.2.2.2.2.1 hG rfl hR.1 hR.2.1 ⟨w6, w7, w8⟩ hR.2.2) ⟨hpre.1, hpre.2⟩ rfl (by rw [List.length_map]; exact hn) hl.1 (by rw [hk]; simp [g_v]) (by rw [g_sum]; have := lv_room (m := m) (pc := pc) (ls := ls) (rest := stk.map (g_v ad)) (st := st) hst; exact this) hd ⟨Nat.zero_le _, Nat.zero_le _⟩
  refine g_backW hrun hS (g_A_le hS.1) (fun H1 locs1 hP1 hS1 => ?_)
  have e1 : (r1.map (g_v ad)).toList ++ st.map (g_v ad) = (r1.toList ++ st).map (g_v ad) := by cases r1 <;> simp
  rw [e1]
  exact k p e s m args below meth c H1 locs1 ls hc hK hX hP1 (g_D hD) hS1 hl

theorem g_callVX {idx n q nL1 : Nat} {y : MethodName} {cc1 : ByteArray} {ret1 : Option FieldType} {rm : Room} {as : List Value} {r1 : Option Value} {σ1 : gM} {stk : List Value} (hXX : g_X X) (hv : g_V own idx y cc1 nL1 ret1 n) (hrec : ∀ A U H, X A U H → ∃ cell : Cell, H[ad q]? = some cell ∧ cell.vm.isStatics = false ∧ U.vm.findClass y.cls = some cell.cls) (hC : g_C l dC dI ad ca sh X y cc1 nL1 ret1 rm (.ref q :: as) σ r1 σ1)
    (hn : as.length = n) (hR : rm.cells = 0 ∧ rm.slots = 0 ∧ rm.frames + 1 ≤ R.frames ∧ 8 + (nL1 + 11) + rm.locals ≤ R.locals) (hst : (st.map fun v => v.category).sum ≤ 8) (hk : stk = as.reverse ++ .ref q :: st) (hd : decode cc pc = .ok (.invokevirtual idx, 3)) (k : g_G l dC dI ad ca sh X cc nL own ret R r σ' (pc + 3) lv (r1.toList ++ st) σ1) :
    g_G l dC dI ad ca sh X cc nL own ret R r σ' pc lv stk σ := by
  intro p e s m args below meth c H locs ls hc hK hX hP hD hS hl
  obtain ⟨w1, w2, w3, w4, w5, w6, w7, w8⟩ := hv
  have hG : GoodIn gW (wsV own idx y.cls y (Cond.code y cc1 nL1 ret1 :: gW)) := by
    intro w hw
    rcases List.mem_append.mp hw with h | h
    · simp only [List.mem_cons, List.not_mem_nil, or_false] at h
      rcases h with rfl | rfl | rfl | rfl
      · exact ⟨w1, good_of_word (List.mem_filter.mp w1).2⟩
      · exact ⟨w2, good_of_word (List.mem_filter.mp w2).2⟩
      · exact ⟨w3, good_of_word (List.mem_filter.mp w3).2⟩
      · exact ⟨w4, good_of_word (List.mem_filter.mp w4).2⟩
    · exact gW_good w5 w h
  have hpre := g_pre (y := y) (as := .ref q :: as) hXX hK hX hP hD hS
  have hrun := va_runV (As := as.map (g_v ad)) (rest := st.map (g_v ad)) (b := ad q) (g := F0 m pc ls (stk.map (g_v ad))) (locs := locs) (cells := 0) (slots := 0) (n := n) (mc := 0) (ms := 0) (R := R) (below := below) (e := e) (meth := meth) ⟨hc.1, hc.2.1, hc.2.2.1, hc.2.2.2.1, hc.2.2.2.2.1⟩ (hC H.size)
    (cwV n hc.2.2.2.2.1 hG rfl hR.1 hR.2.1 ⟨rfl, w6, w7, w8⟩ hR.2.2) ⟨hpre.1, hrec _ _ _ (hXX.2.1 _ s _ _ hS.2.1 hX), hpre.2⟩ rfl (by rw [List.length_map]; exact hn) hl.1 (by rw [hk]; simp [g_v]) (by rw [g_sum]; have := lv_room (m := m) (pc := pc) (ls := ls) (rest := stk.map (g_v ad)) (st := st) hst; exact this) hd ⟨Nat.zero_le _, Nat.zero_le _⟩
  refine g_backW hrun hS (g_A_le hS.1) (fun H1 locs1 hP1 hS1 => ?_)
  have e1 : (r1.map (g_v ad)).toList ++ st.map (g_v ad) = (r1.toList ++ st).map (g_v ad) := by cases r1 <;> simp
  rw [e1]
  exact k p e s m args below meth c H1 locs1 ls hc hK hX hP1 (g_D hD) hS1 hl
/-- a static method of a mate -/
def g_N (y : MethodName) (cc : ByteArray) (nL : Nat) (ret : Option FieldType) (n : Nat) : Prop :=
  Cond.static y ∈ gW ∧ Cond.initialized y.cls ∈ gW ∧ Cond.code y cc nL ret ∈ gW ∧ y.cls ≠ "java/lang/invoke/MethodHandle" ∧ y.cls ≠ "java/lang/invoke/VarHandle" ∧ (parseMethodDescriptor y.desc).map (fun d => d.parameters.length) = some n
theorem g_callN {idx n nL1 : Nat} {y : MethodName} {host : String} {cc1 : ByteArray} {ret1 : Option FieldType} {rm : Room} {as : List Value} {r1 : Option Value} {σ1 : gM} {stk : List Value} (hXX : g_X X) (hv : g_N y cc1 nL1 ret1 n) (hnw : ∀ A U H, X A U H → va_Nw (.methodLinkNest own idx y host) U) (hC : g_C l dC dI ad ca sh X y cc1 nL1 ret1 rm as σ r1 σ1)
    (hn : as.length = n) (hR : rm.cells = 0 ∧ rm.slots = 0 ∧ rm.frames + 1 ≤ R.frames ∧ 8 + (nL1 + 11) + rm.locals ≤ R.locals) (hst : (st.map fun v => v.category).sum ≤ 8) (hk : stk = as.reverse ++ st) (hd : decode cc pc = .ok (.invokestatic idx, 3)) (k : g_G l dC dI ad ca sh X cc nL own ret R r σ' (pc + 3) lv (r1.toList ++ st) σ1) :
    g_G l dC dI ad ca sh X cc nL own ret R r σ' pc lv stk σ := by
  intro p e s m args below meth c H locs ls hc hK hX hP hD hS hl
  obtain ⟨w2, w4, w5, w6, w7, w8⟩ := hv
  have hpre := g_pre (y := y) (as := as) hXX hK hX hP hD hS
  have hrun := va_runSN (As := as.map (g_v ad)) (rest := st.map (g_v ad)) (g := F0 m pc ls (stk.map (g_v ad))) (locs := locs) (cells := 0) (slots := 0) (n := n) (mc := 0) (ms := 0) (R := R) (below := below) (e := e) (meth := meth) (p := p) (l := l) (s := s) (m := m) (args := args) (c := c) (H := H) (host := host) (own := own) (index := idx) ⟨hc.1, hc.2.1, hc.2.2.1, hc.2.2.2.1, hc.2.2.2.2.1⟩ (hC H.size)
    ⟨va_cnB n hc.2.2.2.2.1 (gW_good w5) rfl hR.1 hR.2.1 (hnw _ _ _ hX) (hc.2.2.2.2.1 _ w4) ⟨w6, w7, w8⟩ hR.2.2, hc.2.2.2.2.1 _ w2, trivial⟩ ⟨hpre.1, hpre.2⟩ rfl (by rw [List.length_map]; exact hn) hl.1 (by rw [hk]; simp [g_v]) (by rw [g_sum]; have := lv_room (m := m) (pc := pc) (ls := ls) (rest := stk.map (g_v ad)) (st := st) hst; exact this) hd ⟨Nat.zero_le _, Nat.zero_le _⟩
  refine g_backW hrun hS (g_A_le hS.1) (fun H1 locs1 hP1 hS1 => ?_)
  have e1 : (r1.map (g_v ad)).toList ++ st.map (g_v ad) = (r1.toList ++ st).map (g_v ad) := by cases r1 <;> simp
  rw [e1]
  exact k p e s m args below meth c H1 locs1 ls hc hK hX hP1 (g_D hD) hS1 hl
theorem g_callVi {x : Int32} {idx n q ci nL1 : Nat} {y : MethodName} {cc1 : ByteArray} {ret1 : Option FieldType} {rm : Room} {as : List Value} {σ1 : gM} {sl : List (Option (Option Nat))} {T : u_T} {N : Nat} {stk : List Value} (hXX : g_X X) (hv : g_V own idx y cc1 nL1 ret1 n) (hs : sh[q]? = some (.inr (.inl (ci, sl)))) (hcl : vwCl[ci]? = some (y.cls, T, N)) (hC : g_C l dC dI ad ca sh X y cc1 nL1 ret1 rm (.ref q :: as) σ (some (.int x)) σ1)
    (hn : as.length = n) (hR : rm.cells = 0 ∧ rm.slots = 0 ∧ rm.frames + 1 ≤ R.frames ∧ 8 + (nL1 + 11) + rm.locals ≤ R.locals) (hst : (st.map fun v => v.category).sum ≤ 8) (hk : stk = as.reverse ++ .ref q :: st) (hd : decode cc pc = .ok (.invokevirtual idx, 3)) (k : g_G l dC dI ad ca sh X cc nL own ret R r σ' (pc + 3) lv (.int x :: st) σ1) :
    g_G l dC dI ad ca sh X cc nL own ret R r σ' pc lv stk σ := g_callV (r1 := (some (.int x))) hXX hv hs hcl hC hn hR hst hk hd k
theorem g_callVv {idx n q ci nL1 : Nat} {y : MethodName} {cc1 : ByteArray} {ret1 : Option FieldType} {rm : Room} {as : List Value} {σ1 : gM} {sl : List (Option (Option Nat))} {T : u_T} {N : Nat} {stk : List Value} (hXX : g_X X) (hv : g_V own idx y cc1 nL1 ret1 n) (hs : sh[q]? = some (.inr (.inl (ci, sl)))) (hcl : vwCl[ci]? = some (y.cls, T, N)) (hC : g_C l dC dI ad ca sh X y cc1 nL1 ret1 rm (.ref q :: as) σ none σ1)
    (hn : as.length = n) (hR : rm.cells = 0 ∧ rm.slots = 0 ∧ rm.frames + 1 ≤ R.frames ∧ 8 + (nL1 + 11) + rm.locals ≤ R.locals) (hst : (st.map fun v => v.category).sum ≤ 8) (hk : stk = as.reverse ++ .ref q :: st) (hd : decode cc pc = .ok (.invokevirtual idx, 3)) (k : g_G l dC dI ad ca sh X cc nL own ret R r σ' (pc + 3) lv (st) σ1) :
    g_G l dC dI ad ca sh X cc nL own ret R r σ' pc lv stk σ := g_callV (r1 := none) hXX hv hs hcl hC hn hR hst hk hd k
theorem g_callVr {x : Nat} {idx n q ci nL1 : Nat} {y : MethodName} {cc1 : ByteArray} {ret1 : Option FieldType} {rm : Room} {as : List Value} {σ1 : gM} {sl : List (Option (Option Nat))} {T : u_T} {N : Nat} {stk : List Value} (hXX : g_X X) (hv : g_V own idx y cc1 nL1 ret1 n) (hs : sh[q]? = some (.inr (.inl (ci, sl)))) (hcl : vwCl[ci]? = some (y.cls, T, N)) (hC : g_C l dC dI ad ca sh X y cc1 nL1 ret1 rm (.ref q :: as) σ (some (.ref x)) σ1)
    (hn : as.length = n) (hR : rm.cells = 0 ∧ rm.slots = 0 ∧ rm.frames + 1 ≤ R.frames ∧ 8 + (nL1 + 11) + rm.locals ≤ R.locals) (hst : (st.map fun v => v.category).sum ≤ 8) (hk : stk = as.reverse ++ .ref q :: st) (hd : decode cc pc = .ok (.invokevirtual idx, 3)) (k : g_G l dC dI ad ca sh X cc nL own ret R r σ' (pc + 3) lv (.ref x :: st) σ1) :
    g_G l dC dI ad ca sh X cc nL own ret R r σ' pc lv stk σ := g_callV (r1 := (some (.ref x))) hXX hv hs hcl hC hn hR hst hk hd k
theorem g_callSi {x : Int32} {idx n nL1 : Nat} {y : MethodName} {cc1 : ByteArray} {ret1 : Option FieldType} {rm : Room} {as : List Value} {σ1 : gM} {stk : List Value} (hXX : g_X X) (hv : g_S own idx y cc1 nL1 ret1 n) (hC : g_C l dC dI ad ca sh X y cc1 nL1 ret1 rm as σ (some (.int x)) σ1)
    (hn : as.length = n) (hR : rm.cells = 0 ∧ rm.slots = 0 ∧ rm.frames + 1 ≤ R.frames ∧ 8 + (nL1 + 11) + rm.locals ≤ R.locals) (hst : (st.map fun v => v.category).sum ≤ 8) (hk : stk = as.reverse ++ st) (hd : decode cc pc = .ok (.invokestatic idx, 3)) (k : g_G l dC dI ad ca sh X cc nL own ret R r σ' (pc + 3) lv (.int x :: st) σ1) :
    g_G l dC dI ad ca sh X cc nL own ret R r σ' pc lv stk σ := g_callS (r1 := (some (.int x))) hXX hv hC hn hR hst hk hd k
theorem g_callSv {idx n nL1 : Nat} {y : MethodName} {cc1 : ByteArray} {ret1 : Option FieldType} {rm : Room} {as : List Value} {σ1 : gM} {stk : List Value} (hXX : g_X X) (hv : g_S own idx y cc1 nL1 ret1 n) (hC : g_C l dC dI ad ca sh X y cc1 nL1 ret1 rm as σ none σ1)
    (hn : as.length = n) (hR : rm.cells = 0 ∧ rm.slots = 0 ∧ rm.frames + 1 ≤ R.frames ∧ 8 + (nL1 + 11) + rm.locals ≤ R.locals) (hst : (st.map fun v => v.category).sum ≤ 8) (hk : stk = as.reverse ++ st) (hd : decode cc pc = .ok (.invokestatic idx, 3)) (k : g_G l dC dI ad ca sh X cc nL own ret R r σ' (pc + 3) lv (st) σ1) :
    g_G l dC dI ad ca sh X cc nL own ret R r σ' pc lv stk σ := g_callS (r1 := none) hXX hv hC hn hR hst hk hd k
theorem g_callSr {x : Nat} {idx n nL1 : Nat} {y : MethodName} {cc1 : ByteArray} {ret1 : Option FieldType} {rm : Room} {as : List Value} {σ1 : gM} {stk : List Value} (hXX : g_X X) (hv : g_S own idx y cc1 nL1 ret1 n) (hC : g_C l dC dI ad ca sh X y cc1 nL1 ret1 rm as σ (some (.ref x)) σ1)
    (hn : as.length = n) (hR : rm.cells = 0 ∧ rm.slots = 0 ∧ rm.frames + 1 ≤ R.frames ∧ 8 + (nL1 + 11) + rm.locals ≤ R.locals) (hst : (st.map fun v => v.category).sum ≤ 8) (hk : stk = as.reverse ++ st) (hd : decode cc pc = .ok (.invokestatic idx, 3)) (k : g_G l dC dI ad ca sh X cc nL own ret R r σ' (pc + 3) lv (.ref x :: st) σ1) :
    g_G l dC dI ad ca sh X cc nL own ret R r σ' pc lv stk σ := g_callS (r1 := (some (.ref x))) hXX hv hC hn hR hst hk hd k
theorem g_callVXi {x : Int32} {idx n q nL1 : Nat} {y : MethodName} {cc1 : ByteArray} {ret1 : Option FieldType} {rm : Room} {as : List Value} {σ1 : gM} {stk : List Value} (hXX : g_X X) (hv : g_V own idx y cc1 nL1 ret1 n) (hrec : ∀ A U H, X A U H → ∃ cell : Cell, H[ad q]? = some cell ∧ cell.vm.isStatics = false ∧ U.vm.findClass y.cls = some cell.cls) (hC : g_C l dC dI ad ca sh X y cc1 nL1 ret1 rm (.ref q :: as) σ (some (.int x)) σ1)
    (hn : as.length = n) (hR : rm.cells = 0 ∧ rm.slots = 0 ∧ rm.frames + 1 ≤ R.frames ∧ 8 + (nL1 + 11) + rm.locals ≤ R.locals) (hst : (st.map fun v => v.category).sum ≤ 8) (hk : stk = as.reverse ++ .ref q :: st) (hd : decode cc pc = .ok (.invokevirtual idx, 3)) (k : g_G l dC dI ad ca sh X cc nL own ret R r σ' (pc + 3) lv (.int x :: st) σ1) :
    g_G l dC dI ad ca sh X cc nL own ret R r σ' pc lv stk σ := g_callVX (r1 := (some (.int x))) hXX hv hrec hC hn hR hst hk hd k
theorem g_callVXv {idx n q nL1 : Nat} {y : MethodName} {cc1 : ByteArray} {ret1 : Option FieldType} {rm : Room} {as : List Value} {σ1 : gM} {stk : List Value} (hXX : g_X X) (hv : g_V own idx y cc1 nL1 ret1 n) (hrec : ∀ A U H, X A U H → ∃ cell : Cell, H[ad q]? = some cell ∧ cell.vm.isStatics = false ∧ U.vm.findClass y.cls = some cell.cls) (hC : g_C l dC dI ad ca sh X y cc1 nL1 ret1 rm (.ref q :: as) σ none σ1)
    (hn : as.length = n) (hR : rm.cells = 0 ∧ rm.slots = 0 ∧ rm.frames + 1 ≤ R.frames ∧ 8 + (nL1 + 11) + rm.locals ≤ R.locals) (hst : (st.map fun v => v.category).sum ≤ 8) (hk : stk = as.reverse ++ .ref q :: st) (hd : decode cc pc = .ok (.invokevirtual idx, 3)) (k : g_G l dC dI ad ca sh X cc nL own ret R r σ' (pc + 3) lv (st) σ1) :
    g_G l dC dI ad ca sh X cc nL own ret R r σ' pc lv stk σ := g_callVX (r1 := none) hXX hv hrec hC hn hR hst hk hd k
theorem g_callVXr {x : Nat} {idx n q nL1 : Nat} {y : MethodName} {cc1 : ByteArray} {ret1 : Option FieldType} {rm : Room} {as : List Value} {σ1 : gM} {stk : List Value} (hXX : g_X X) (hv : g_V own idx y cc1 nL1 ret1 n) (hrec : ∀ A U H, X A U H → ∃ cell : Cell, H[ad q]? = some cell ∧ cell.vm.isStatics = false ∧ U.vm.findClass y.cls = some cell.cls) (hC : g_C l dC dI ad ca sh X y cc1 nL1 ret1 rm (.ref q :: as) σ (some (.ref x)) σ1)
    (hn : as.length = n) (hR : rm.cells = 0 ∧ rm.slots = 0 ∧ rm.frames + 1 ≤ R.frames ∧ 8 + (nL1 + 11) + rm.locals ≤ R.locals) (hst : (st.map fun v => v.category).sum ≤ 8) (hk : stk = as.reverse ++ .ref q :: st) (hd : decode cc pc = .ok (.invokevirtual idx, 3)) (k : g_G l dC dI ad ca sh X cc nL own ret R r σ' (pc + 3) lv (.ref x :: st) σ1) :
    g_G l dC dI ad ca sh X cc nL own ret R r σ' pc lv stk σ := g_callVX (r1 := (some (.ref x))) hXX hv hrec hC hn hR hst hk hd k
theorem g_callNi {x : Int32} {idx n nL1 : Nat} {y : MethodName} {host : String} {cc1 : ByteArray} {ret1 : Option FieldType} {rm : Room} {as : List Value} {σ1 : gM} {stk : List Value} (hXX : g_X X) (hv : g_N y cc1 nL1 ret1 n) (hnw : ∀ A U H, X A U H → va_Nw (.methodLinkNest own idx y host) U) (hC : g_C l dC dI ad ca sh X y cc1 nL1 ret1 rm as σ (some (.int x)) σ1)
    (hn : as.length = n) (hR : rm.cells = 0 ∧ rm.slots = 0 ∧ rm.frames + 1 ≤ R.frames ∧ 8 + (nL1 + 11) + rm.locals ≤ R.locals) (hst : (st.map fun v => v.category).sum ≤ 8) (hk : stk = as.reverse ++ st) (hd : decode cc pc = .ok (.invokestatic idx, 3)) (k : g_G l dC dI ad ca sh X cc nL own ret R r σ' (pc + 3) lv (.int x :: st) σ1) :
    g_G l dC dI ad ca sh X cc nL own ret R r σ' pc lv stk σ := g_callN (r1 := (some (.int x))) hXX hv hnw hC hn hR hst hk hd k
theorem g_callNv {idx n nL1 : Nat} {y : MethodName} {host : String} {cc1 : ByteArray} {ret1 : Option FieldType} {rm : Room} {as : List Value} {σ1 : gM} {stk : List Value} (hXX : g_X X) (hv : g_N y cc1 nL1 ret1 n) (hnw : ∀ A U H, X A U H → va_Nw (.methodLinkNest own idx y host) U) (hC : g_C l dC dI ad ca sh X y cc1 nL1 ret1 rm as σ none σ1)
    (hn : as.length = n) (hR : rm.cells = 0 ∧ rm.slots = 0 ∧ rm.frames + 1 ≤ R.frames ∧ 8 + (nL1 + 11) + rm.locals ≤ R.locals) (hst : (st.map fun v => v.category).sum ≤ 8) (hk : stk = as.reverse ++ st) (hd : decode cc pc = .ok (.invokestatic idx, 3)) (k : g_G l dC dI ad ca sh X cc nL own ret R r σ' (pc + 3) lv (st) σ1) :
    g_G l dC dI ad ca sh X cc nL own ret R r σ' pc lv stk σ := g_callN (r1 := none) hXX hv hnw hC hn hR hst hk hd k
theorem g_callNr {x : Nat} {idx n nL1 : Nat} {y : MethodName} {host : String} {cc1 : ByteArray} {ret1 : Option FieldType} {rm : Room} {as : List Value} {σ1 : gM} {stk : List Value} (hXX : g_X X) (hv : g_N y cc1 nL1 ret1 n) (hnw : ∀ A U H, X A U H → va_Nw (.methodLinkNest own idx y host) U) (hC : g_C l dC dI ad ca sh X y cc1 nL1 ret1 rm as σ (some (.ref x)) σ1)
    (hn : as.length = n) (hR : rm.cells = 0 ∧ rm.slots = 0 ∧ rm.frames + 1 ≤ R.frames ∧ 8 + (nL1 + 11) + rm.locals ≤ R.locals) (hst : (st.map fun v => v.category).sum ≤ 8) (hk : stk = as.reverse ++ st) (hd : decode cc pc = .ok (.invokestatic idx, 3)) (k : g_G l dC dI ad ca sh X cc nL own ret R r σ' (pc + 3) lv (.ref x :: st) σ1) :
    g_G l dC dI ad ca sh X cc nL own ret R r σ' pc lv stk σ := g_callN (r1 := (some (.ref x))) hXX hv hnw hC hn hR hst hk hd k
theorem g_lv {lv1 : List (Nat × Value)} (ks : List Nat) (h : lv_pick lv ks = lv1) (k : g_G l dC dI ad ca sh X cc nL own ret R r σ' pc lv1 st σ) : g_G l dC dI ad ca sh X cc nL own ret R r σ' pc lv st σ := by
  intro p e s m args below meth c H locs ls hc hK hX hP hD hS hl
  refine k p e s m args below meth c H locs ls hc hK hX hP hD hS (lv_sub hl ks ?_)
  rw [← h]
  simp only [lv_pick, g_at, List.getElem?_map]
  rw [List.map_filterMap]
theorem g_lvE {lv1 : List (Nat × Value)} (h : lv = lv1) (k : g_G l dC dI ad ca sh X cc nL own ret R r σ' pc lv1 st σ) : g_G l dC dI ad ca sh X cc nL own ret R r σ' pc lv st σ := h ▸ k
end GG
/-! how the pure words of a method are taken apart -/
def g_let {β : Type} (x : gM) (F : gM → Option β) : Option β := F x
def g_bI {β : Type} (o : Option (Int32 × gM)) (F : Int32 → gM → Option β) : Option β := match o with
  | none => none
  | some q => F q.1 q.2
def g_bV {β : Type} (o : Option gM) (F : gM → Option β) : Option β := match o with
  | none => none
  | some q => F q
theorem g_ltd {β : Type} {x : gM} {F : gM → Option β} {q : β} (h : g_let x F = some q) : ∃ y, y = x ∧ F y = some q := ⟨x, rfl, h⟩
theorem g_bId {β : Type} {o : Option (Int32 × gM)} {F : Int32 → gM → Option β} {q : β} (h : g_bI o F = some q) : ∃ a b, o = some (a, b) ∧ F a b = some q := by
  cases o with
  | none => cases h
  | some z => exact ⟨z.1, z.2, rfl, h⟩
theorem g_bVd {β : Type} {o : Option gM} {F : gM → Option β} {q : β} (h : g_bV o F = some q) : ∃ b, o = some b ∧ F b = some q := by
  cases o with
  | none => cases h
  | some z => exact ⟨z, rfl, h⟩
theorem g_gd {β : Type} {c : Prop} [Decidable c] {F : Option β} {q : β} (h : (if c then F else none) = some q) : c ∧ F = some q := by
  by_cases hc : c
  · rw [if_pos hc] at h; exact ⟨hc, h⟩
  · rw [if_neg hc] at h; cases h
theorem g_gn {β : Type} {c : Prop} [Decidable c] {F : Option β} {q : β} (h : (if c then none else F) = some q) : ¬ c ∧ F = some q := by
  by_cases hc : c
  · rw [if_pos hc] at h; cases h
  · rw [if_neg hc] at h; exact ⟨hc, h⟩
theorem g_ift {β : Type} {c : Prop} [Decidable c] {F G : Option β} {q : β} (hc : c) (h : (if c then F else G) = some q) : F = some q := by rw [if_pos hc] at h; exact h
theorem g_iff {β : Type} {c : Prop} [Decidable c] {F G : Option β} {q : β} (hc : ¬ c) (h : (if c then F else G) = some q) : G = some q := by rw [if_neg hc] at h; exact h
theorem g_nb {x : Int32} (h : x &&& 1 = x) : narrow .boolean (.int x) = .int x := by
  show Value.int (x &&& 1) = .int x
  rw [h]
theorem g_in5 {x : Int32} {n : Nat} (h : ¬ (x < 0 ∨ 4 ≤ n)) : n < 5 := Nat.lt_of_not_le (fun q => h (Or.inr (Nat.le_trans (by decide) q)))
def gR (d : Nat) : Room := { frames := d, cells := 0, slots := 0, locals := 39 * d }
theorem g_toInt {x : Int32} {k : Int32} (h : ¬ x = k) : ¬ x.toInt = k.toInt := fun e => h (Int32.toInt_inj.mp e)
theorem gR_ok {a b n : Nat} (h : a < b) (hn : n ≤ 20) : (gR a).cells = 0 ∧ (gR a).slots = 0 ∧ (gR a).frames + 1 ≤ (gR b).frames ∧ 8 + (n + 11) + (gR a).locals ≤ (gR b).locals := ⟨rfl, rfl, h, by show 8 + (n + 11) + 39 * a ≤ 39 * b; omega⟩
theorem g_ltc {x : Int32} {n m : Nat} (h : ¬ (x < 0 ∨ n ≤ m)) : m < n := Nat.lt_of_not_le fun q => h (Or.inr q)
theorem g_nIc {x : Int32} {n : Nat} (h : ¬ (x < 0 ∨ n ≤ x.toNatClampNeg)) : x = nI x.toNatClampNeg := by
  obtain ⟨j, h1, h2⟩ := nI_of (x := x) (fun q => h (Or.inl q))
  rw [h2, nI_clamp h1]
