def nwL : List (String × Nat × MethodName × String) := [(RX11, 9, yX10_init, RX11), (RX11, 18, yX6_init, RX11), (RX11, 25, yX1_init, RX11), (RX11, 56, yX3_init, RX11), (RX11, 66, yX2_init, RX11), (RX11, 73, yX0_init, RX11), (RX11, 99, yX7_init, RX11), (RX8, 11, yX9_init, RX11), (RX8, 137, yX11_isByte, RX11), (RX10, 43, yX7_init, RX11)]
def g_nw (L : List (String × Nat × MethodName × String)) (U : State) : Prop := (∀ q ∈ L, va_Nw (.methodLinkNest q.1 q.2.1 q.2.2.1 q.2.2.2) U) ∧ va_AO RX7 U
theorem g_nw_warm {L : List (String × Nat × MethodName × String)} {u U : State} (hW : u.WarmedH U.vm) (h : g_nw L u) : g_nw L U := ⟨fun q hq => va_Nw.warmM hW (h.1 q hq), h.2.moved hW.alike⟩
theorem dX0_init_0 : decode cX0_init 0 = .ok (.aload_n 0, 1) := by decide +kernel
theorem dX0_init_1 : decode cX0_init 1 = .ok (.invokespecial 3, 3) := by decide +kernel
theorem dX0_init_4 : decode cX0_init 4 = .ok (.aload_n 0, 1) := by decide +kernel
theorem dX0_init_5 : decode cX0_init 5 = .ok (.iconst 4, 1) := by decide +kernel
theorem dX0_init_6 : decode cX0_init 6 = .ok (.newarray .int, 2) := by decide +kernel
theorem dX0_init_8 : decode cX0_init 8 = .ok (.putfield 9, 3) := by decide +kernel
theorem dX0_init_11 : decode cX0_init 11 = .ok (.aload_n 0, 1) := by decide +kernel
theorem dX0_init_12 : decode cX0_init 12 = .ok (.lconst 0, 1) := by decide +kernel
theorem dX0_init_13 : decode cX0_init 13 = .ok (.putfield 15, 3) := by decide +kernel
theorem dX0_init_16 : decode cX0_init 16 = .ok (.return_, 1) := by decide +kernel
theorem dX1_init_0 : decode cX1_init 0 = .ok (.aload_n 0, 1) := by decide +kernel
theorem dX1_init_1 : decode cX1_init 1 = .ok (.invokespecial 1, 3) := by decide +kernel
theorem dX1_init_4 : decode cX1_init 4 = .ok (.aload_n 0, 1) := by decide +kernel
theorem dX1_init_5 : decode cX1_init 5 = .ok (.sipush 255, 3) := by decide +kernel
theorem dX1_init_8 : decode cX1_init 8 = .ok (.newarray .int, 2) := by decide +kernel
theorem dX1_init_10 : decode cX1_init 10 = .ok (.putfield 9, 3) := by decide +kernel
theorem dX1_init_13 : decode cX1_init 13 = .ok (.aload_n 0, 1) := by decide +kernel
theorem dX1_init_14 : decode cX1_init 14 = .ok (.sipush 256, 3) := by decide +kernel
theorem dX1_init_17 : decode cX1_init 17 = .ok (.newarray .int, 2) := by decide +kernel
theorem dX1_init_19 : decode cX1_init 19 = .ok (.putfield 13, 3) := by decide +kernel
theorem dX1_init_22 : decode cX1_init 22 = .ok (.aload_n 0, 1) := by decide +kernel
theorem dX1_init_23 : decode cX1_init 23 = .ok (.iconst 0, 1) := by decide +kernel
theorem dX1_init_24 : decode cX1_init 24 = .ok (.putfield 16, 3) := by decide +kernel
theorem dX1_init_27 : decode cX1_init 27 = .ok (.return_, 1) := by decide +kernel
theorem dX2_init_0 : decode cX2_init 0 = .ok (.aload_n 0, 1) := by decide +kernel
theorem dX2_init_1 : decode cX2_init 1 = .ok (.invokespecial 1, 3) := by decide +kernel
theorem dX2_init_4 : decode cX2_init 4 = .ok (.aload_n 0, 1) := by decide +kernel
theorem dX2_init_5 : decode cX2_init 5 = .ok (.sipush 5760, 3) := by decide +kernel
theorem dX2_init_8 : decode cX2_init 8 = .ok (.newarray .int, 2) := by decide +kernel
theorem dX2_init_10 : decode cX2_init 10 = .ok (.putfield 11, 3) := by decide +kernel
theorem dX2_init_13 : decode cX2_init 13 = .ok (.aload_n 0, 1) := by decide +kernel
theorem dX2_init_14 : decode cX2_init 14 = .ok (.iconst 0, 1) := by decide +kernel
theorem dX2_init_15 : decode cX2_init 15 = .ok (.putfield 15, 3) := by decide +kernel
theorem dX2_init_18 : decode cX2_init 18 = .ok (.aload_n 0, 1) := by decide +kernel
theorem dX2_init_19 : decode cX2_init 19 = .ok (.iconst 0, 1) := by decide +kernel
theorem dX2_init_20 : decode cX2_init 20 = .ok (.putfield 19, 3) := by decide +kernel
theorem dX2_init_23 : decode cX2_init 23 = .ok (.return_, 1) := by decide +kernel
theorem dX3_init_0 : decode cX3_init 0 = .ok (.aload_n 0, 1) := by decide +kernel
theorem dX3_init_1 : decode cX3_init 1 = .ok (.invokespecial 7, 3) := by decide +kernel
theorem dX3_init_4 : decode cX3_init 4 = .ok (.aload_n 0, 1) := by decide +kernel
theorem dX3_init_5 : decode cX3_init 5 = .ok (.sipush 300, 3) := by decide +kernel
theorem dX3_init_8 : decode cX3_init 8 = .ok (.newarray .int, 2) := by decide +kernel
theorem dX3_init_10 : decode cX3_init 10 = .ok (.putfield 13, 3) := by decide +kernel
theorem dX3_init_13 : decode cX3_init 13 = .ok (.aload_n 0, 1) := by decide +kernel
theorem dX3_init_14 : decode cX3_init 14 = .ok (.iconst 0, 1) := by decide +kernel
theorem dX3_init_15 : decode cX3_init 15 = .ok (.putfield 17, 3) := by decide +kernel
theorem dX3_init_18 : decode cX3_init 18 = .ok (.return_, 1) := by decide +kernel
theorem dX6_init_0 : decode cX6_init 0 = .ok (.aload_n 0, 1) := by decide +kernel
theorem dX6_init_1 : decode cX6_init 1 = .ok (.invokespecial 1, 3) := by decide +kernel
theorem dX6_init_4 : decode cX6_init 4 = .ok (.aload_n 0, 1) := by decide +kernel
theorem dX6_init_5 : decode cX6_init 5 = .ok (.iconst 0, 1) := by decide +kernel
theorem dX6_init_6 : decode cX6_init 6 = .ok (.putfield 7, 3) := by decide +kernel
theorem dX6_init_9 : decode cX6_init 9 = .ok (.aload_n 0, 1) := by decide +kernel
theorem dX6_init_10 : decode cX6_init 10 = .ok (.iconst 0, 1) := by decide +kernel
theorem dX6_init_11 : decode cX6_init 11 = .ok (.putfield 13, 3) := by decide +kernel
theorem dX6_init_14 : decode cX6_init 14 = .ok (.aload_n 0, 1) := by decide +kernel
theorem dX6_init_15 : decode cX6_init 15 = .ok (.iconst 0, 1) := by decide +kernel
theorem dX6_init_16 : decode cX6_init 16 = .ok (.putfield 16, 3) := by decide +kernel
theorem dX6_init_19 : decode cX6_init 19 = .ok (.aload_n 0, 1) := by decide +kernel
theorem dX6_init_20 : decode cX6_init 20 = .ok (.iconst 0, 1) := by decide +kernel
theorem dX6_init_21 : decode cX6_init 21 = .ok (.putfield 19, 3) := by decide +kernel
theorem dX6_init_24 : decode cX6_init 24 = .ok (.aload_n 0, 1) := by decide +kernel
theorem dX6_init_25 : decode cX6_init 25 = .ok (.iconst 0, 1) := by decide +kernel
theorem dX6_init_26 : decode cX6_init 26 = .ok (.putfield 22, 3) := by decide +kernel
theorem dX6_init_29 : decode cX6_init 29 = .ok (.aload_n 0, 1) := by decide +kernel
theorem dX6_init_30 : decode cX6_init 30 = .ok (.iconst 0, 1) := by decide +kernel
theorem dX6_init_31 : decode cX6_init 31 = .ok (.putfield 25, 3) := by decide +kernel
theorem dX6_init_34 : decode cX6_init 34 = .ok (.aload_n 0, 1) := by decide +kernel
theorem dX6_init_35 : decode cX6_init 35 = .ok (.iconst 0, 1) := by decide +kernel
theorem dX6_init_36 : decode cX6_init 36 = .ok (.putfield 28, 3) := by decide +kernel
theorem dX6_init_39 : decode cX6_init 39 = .ok (.aload_n 0, 1) := by decide +kernel
theorem dX6_init_40 : decode cX6_init 40 = .ok (.iconst 0, 1) := by decide +kernel
theorem dX6_init_41 : decode cX6_init 41 = .ok (.putfield 31, 3) := by decide +kernel
theorem dX6_init_44 : decode cX6_init 44 = .ok (.aload_n 0, 1) := by decide +kernel
theorem dX6_init_45 : decode cX6_init 45 = .ok (.iconst 0, 1) := by decide +kernel
theorem dX6_init_46 : decode cX6_init 46 = .ok (.putfield 34, 3) := by decide +kernel
theorem dX6_init_49 : decode cX6_init 49 = .ok (.aload_n 0, 1) := by decide +kernel
theorem dX6_init_50 : decode cX6_init 50 = .ok (.iconst 0, 1) := by decide +kernel
theorem dX6_init_51 : decode cX6_init 51 = .ok (.putfield 37, 3) := by decide +kernel
theorem dX6_init_54 : decode cX6_init 54 = .ok (.return_, 1) := by decide +kernel
theorem dX7_init_0 : decode cX7_init 0 = .ok (.aload_n 0, 1) := by decide +kernel
theorem dX7_init_1 : decode cX7_init 1 = .ok (.invokespecial 3, 3) := by decide +kernel
theorem dX7_init_4 : decode cX7_init 4 = .ok (.aload_n 0, 1) := by decide +kernel
theorem dX7_init_5 : decode cX7_init 5 = .ok (.bipush 16, 2) := by decide +kernel
theorem dX7_init_7 : decode cX7_init 7 = .ok (.newarray .int, 2) := by decide +kernel
theorem dX7_init_9 : decode cX7_init 9 = .ok (.putfield 11, 3) := by decide +kernel
theorem dX7_init_12 : decode cX7_init 12 = .ok (.aload_n 0, 1) := by decide +kernel
theorem dX7_init_13 : decode cX7_init 13 = .ok (.bipush 64, 2) := by decide +kernel
theorem dX7_init_15 : decode cX7_init 15 = .ok (.newarray .int, 2) := by decide +kernel
theorem dX7_init_17 : decode cX7_init 17 = .ok (.putfield 15, 3) := by decide +kernel
theorem dX7_init_20 : decode cX7_init 20 = .ok (.aload_n 0, 1) := by decide +kernel
theorem dX7_init_21 : decode cX7_init 21 = .ok (.iconst 0, 1) := by decide +kernel
theorem dX7_init_22 : decode cX7_init 22 = .ok (.putfield 18, 3) := by decide +kernel
theorem dX7_init_25 : decode cX7_init 25 = .ok (.return_, 1) := by decide +kernel
theorem dX9_init_0 : decode cX9_init 0 = .ok (.aload_n 0, 1) := by decide +kernel
theorem dX9_init_1 : decode cX9_init 1 = .ok (.invokespecial 5, 3) := by decide +kernel
theorem dX9_init_4 : decode cX9_init 4 = .ok (.aload_n 0, 1) := by decide +kernel
theorem dX9_init_5 : decode cX9_init 5 = .ok (.sipush 144, 3) := by decide +kernel
theorem dX9_init_8 : decode cX9_init 8 = .ok (.newarray .int, 2) := by decide +kernel
theorem dX9_init_10 : decode cX9_init 10 = .ok (.putfield 11, 3) := by decide +kernel
theorem dX9_init_13 : decode cX9_init 13 = .ok (.return_, 1) := by decide +kernel
theorem dX5_init_0 : decode cX5_init 0 = .ok (.aload_n 0, 1) := by decide +kernel
theorem dX5_init_1 : decode cX5_init 1 = .ok (.invokespecial 3, 3) := by decide +kernel
theorem dX5_init_4 : decode cX5_init 4 = .ok (.aload_n 0, 1) := by decide +kernel
theorem dX5_init_5 : decode cX5_init 5 = .ok (.bipush 8, 2) := by decide +kernel
theorem dX5_init_7 : decode cX5_init 7 = .ok (.newarray .int, 2) := by decide +kernel
theorem dX5_init_9 : decode cX5_init 9 = .ok (.putfield 11, 3) := by decide +kernel
theorem dX5_init_12 : decode cX5_init 12 = .ok (.aload_n 0, 1) := by decide +kernel
theorem dX5_init_13 : decode cX5_init 13 = .ok (.aload_n 1, 1) := by decide +kernel
theorem dX5_init_14 : decode cX5_init 14 = .ok (.putfield 17, 3) := by decide +kernel
theorem dX5_init_17 : decode cX5_init 17 = .ok (.aload_n 0, 1) := by decide +kernel
theorem dX5_init_18 : decode cX5_init 18 = .ok (.aload_n 2, 1) := by decide +kernel
theorem dX5_init_19 : decode cX5_init 19 = .ok (.putfield 21, 3) := by decide +kernel
theorem dX5_init_22 : decode cX5_init 22 = .ok (.return_, 1) := by decide +kernel
theorem dX8_init_0 : decode cX8_init 0 = .ok (.aload_n 0, 1) := by decide +kernel
theorem dX8_init_1 : decode cX8_init 1 = .ok (.invokespecial 3, 3) := by decide +kernel
theorem dX8_init_4 : decode cX8_init 4 = .ok (.aload_n 0, 1) := by decide +kernel
theorem dX8_init_5 : decode cX8_init 5 = .ok (.new 9, 3) := by decide +kernel
theorem dX8_init_8 : decode cX8_init 8 = .ok (.dup, 1) := by decide +kernel
theorem dX8_init_9 : decode cX8_init 9 = .ok (.invokespecial 11, 3) := by decide +kernel
theorem dX8_init_12 : decode cX8_init 12 = .ok (.putfield 12, 3) := by decide +kernel
theorem dX8_init_15 : decode cX8_init 15 = .ok (.aload_n 0, 1) := by decide +kernel
theorem dX8_init_16 : decode cX8_init 16 = .ok (.aload_n 1, 1) := by decide +kernel
theorem dX8_init_17 : decode cX8_init 17 = .ok (.putfield 18, 3) := by decide +kernel
theorem dX8_init_20 : decode cX8_init 20 = .ok (.aload_n 0, 1) := by decide +kernel
theorem dX8_init_21 : decode cX8_init 21 = .ok (.new 22, 3) := by decide +kernel
theorem dX8_init_24 : decode cX8_init 24 = .ok (.dup, 1) := by decide +kernel
theorem dX8_init_25 : decode cX8_init 25 = .ok (.aload_n 1, 1) := by decide +kernel
theorem dX8_init_26 : decode cX8_init 26 = .ok (.aload_n 2, 1) := by decide +kernel
theorem dX8_init_27 : decode cX8_init 27 = .ok (.invokespecial 24, 3) := by decide +kernel
theorem dX8_init_30 : decode cX8_init 30 = .ok (.putfield 27, 3) := by decide +kernel
theorem dX8_init_33 : decode cX8_init 33 = .ok (.return_, 1) := by decide +kernel
theorem dX4_init_0 : decode cX4_init 0 = .ok (.aload_n 0, 1) := by decide +kernel
theorem dX4_init_1 : decode cX4_init 1 = .ok (.invokespecial 3, 3) := by decide +kernel
theorem dX4_init_4 : decode cX4_init 4 = .ok (.aload_n 0, 1) := by decide +kernel
theorem dX4_init_5 : decode cX4_init 5 = .ok (.aload_n 1, 1) := by decide +kernel
theorem dX4_init_6 : decode cX4_init 6 = .ok (.putfield 9, 3) := by decide +kernel
theorem dX4_init_9 : decode cX4_init 9 = .ok (.aload_n 0, 1) := by decide +kernel
theorem dX4_init_10 : decode cX4_init 10 = .ok (.aload_n 1, 1) := by decide +kernel
theorem dX4_init_11 : decode cX4_init 11 = .ok (.getfield 15, 3) := by decide +kernel
theorem dX4_init_14 : decode cX4_init 14 = .ok (.putfield 21, 3) := by decide +kernel
theorem dX4_init_17 : decode cX4_init 17 = .ok (.return_, 1) := by decide +kernel
theorem dX10_init_0 : decode cX10_init 0 = .ok (.aload_n 0, 1) := by decide +kernel
theorem dX10_init_1 : decode cX10_init 1 = .ok (.invokespecial 3, 3) := by decide +kernel
theorem dX10_init_4 : decode cX10_init 4 = .ok (.aload_n 0, 1) := by decide +kernel
theorem dX10_init_5 : decode cX10_init 5 = .ok (.sipush 280, 3) := by decide +kernel
theorem dX10_init_8 : decode cX10_init 8 = .ok (.newarray .int, 2) := by decide +kernel
theorem dX10_init_10 : decode cX10_init 10 = .ok (.putfield 11, 3) := by decide +kernel
theorem dX10_init_13 : decode cX10_init 13 = .ok (.aload_n 0, 1) := by decide +kernel
theorem dX10_init_14 : decode cX10_init 14 = .ok (.iconst 0, 1) := by decide +kernel
theorem dX10_init_15 : decode cX10_init 15 = .ok (.putfield 15, 3) := by decide +kernel
theorem dX10_init_18 : decode cX10_init 18 = .ok (.aload_n 0, 1) := by decide +kernel
theorem dX10_init_19 : decode cX10_init 19 = .ok (.iconst 0, 1) := by decide +kernel
theorem dX10_init_20 : decode cX10_init 20 = .ok (.putfield 19, 3) := by decide +kernel
theorem dX10_init_23 : decode cX10_init 23 = .ok (.aload_n 0, 1) := by decide +kernel
theorem dX10_init_24 : decode cX10_init 24 = .ok (.iconst (-1), 1) := by decide +kernel
theorem dX10_init_25 : decode cX10_init 25 = .ok (.putfield 22, 3) := by decide +kernel
theorem dX10_init_28 : decode cX10_init 28 = .ok (.aload_n 0, 1) := by decide +kernel
theorem dX10_init_29 : decode cX10_init 29 = .ok (.iconst 0, 1) := by decide +kernel
theorem dX10_init_30 : decode cX10_init 30 = .ok (.putfield 25, 3) := by decide +kernel
theorem dX10_init_33 : decode cX10_init 33 = .ok (.aload_n 0, 1) := by decide +kernel
theorem dX10_init_34 : decode cX10_init 34 = .ok (.bipush 7, 2) := by decide +kernel
theorem dX10_init_36 : decode cX10_init 36 = .ok (.newarray .int, 2) := by decide +kernel
theorem dX10_init_38 : decode cX10_init 38 = .ok (.putfield 28, 3) := by decide +kernel
theorem dX10_init_41 : decode cX10_init 41 = .ok (.aload_n 0, 1) := by decide +kernel
theorem dX10_init_42 : decode cX10_init 42 = .ok (.bipush 32, 2) := by decide +kernel
theorem dX10_init_44 : decode cX10_init 44 = .ok (.newarray .int, 2) := by decide +kernel
theorem dX10_init_46 : decode cX10_init 46 = .ok (.putfield 31, 3) := by decide +kernel
theorem dX10_init_49 : decode cX10_init 49 = .ok (.aload_n 0, 1) := by decide +kernel
theorem dX10_init_50 : decode cX10_init 50 = .ok (.iconst 0, 1) := by decide +kernel
theorem dX10_init_51 : decode cX10_init 51 = .ok (.putfield 34, 3) := by decide +kernel
theorem dX10_init_54 : decode cX10_init 54 = .ok (.aload_n 0, 1) := by decide +kernel
theorem dX10_init_55 : decode cX10_init 55 = .ok (.iconst 0, 1) := by decide +kernel
theorem dX10_init_56 : decode cX10_init 56 = .ok (.putfield 37, 3) := by decide +kernel
theorem dX10_init_59 : decode cX10_init 59 = .ok (.aload_n 0, 1) := by decide +kernel
theorem dX10_init_60 : decode cX10_init 60 = .ok (.new 41, 3) := by decide +kernel
theorem dX10_init_63 : decode cX10_init 63 = .ok (.dup, 1) := by decide +kernel
theorem dX10_init_64 : decode cX10_init 64 = .ok (.invokespecial 43, 3) := by decide +kernel
theorem dX10_init_67 : decode cX10_init 67 = .ok (.putfield 44, 3) := by decide +kernel
theorem dX10_init_70 : decode cX10_init 70 = .ok (.return_, 1) := by decide +kernel
set_option maxHeartbeats 4000000 in
set_option maxRecDepth 100000 in
theorem iX0 (l : Launch) (dC : Nat → ClassId) (dI : Nat → Nat → Nat) (sz : Nat) (h0 : Nat) : Met l yX0_init (Cond.code yX0_init cX0_init 1 none :: gW) ({ frames := 1, cells := 1, slots := 4, locals := 39 }) (va_Pc [.ref h0] (fun U => U.heap.size = sz ∧ va_P (dC, dI) vwCl [(h0, .inr (0, [.null, .long 0]))] U.heap ∧ va_K (dC, dI) vwCl [] U ∧ va_D (fun _ => True) [(h0, .inr (0, [.null, .long 0]))] ∧ g_nw nwL U)) (va_Qv (fun _ : Unit => True) (fun _ t => ∃ (q1 : Nat), ∃ (a1 : ClassId), va_P (dC, dI) vwCl [(h0, .inr (0, [.ref q1, .long 0])), (q1, .inl (a1, 4, .inl (fun _ => 0)))] t.heap ∧ va_K (dC, dI) vwCl [(a1, .int)] t ∧ va_D (va_A [(h0, .inr (0, [.null, .long 0]))] sz) [(h0, .inr (0, [.ref q1, .long 0])), (q1, .inl (a1, 4, .inl (fun _ => 0)))]) (va_A [(h0, .inr (0, [.null, .long 0]))] sz)) 1 4 (va_A [(h0, .inr (0, [.null, .long 0]))] sz) := by
  refine va_MetF (cc := cX0_init) (maxL := 1) (ret := none) (by decide +kernel) rfl ?_
  intro p e s m args below meth c s₁ B hml hv
  obtain ⟨rfl, hsz, hP, hK, hD0, hN⟩ := hv
  have hx := B.exec
  have hb := B.bytes
  have hr := B.returns
  have hts : ∀ w ∈ gW, w.before _ s = true := fun w h => atoms_spec (ws := Cond.code yX0_init cX0_init 1 none :: gW) B.pre w (List.mem_cons_of_mem _ h)
  have hown : s.vm.findClass RX0 = some m.cls := findClass_of_methodNamed B.named
  have hlocks := B.notSynchronized
  have hin : meth.name = "<init>" := (name_of_methodNamed B.named B.method).1
  subst hsz
  have hD := hD0.self (sz := s.heap.size)
  generalize hAe : va_A [(h0, .inr (0, [.null, .long 0]))] s.heap.size = A at hD ⊢
  have hA : ∀ q : Nat, s.heap.size ≤ q → A q := fun q h => by rw [← hAe]; exact Or.inr h
  have hS : va_S A s.heap s.heap [] := va_S.rf
  have hP : va_P (dC, dI) vwCl [(h0, .inr (0, [.null, .long 0]))] s.heap := hP
  have hl := lv_entry ([.ref h0]) (n := 1) (Nat.le_of_ble_eq_true rfl)
  rw [lg_entry_eq]
  generalize (lg_sl ([.ref h0]) ++ List.replicate (1 - (lg_sl ([.ref h0])).length) Slot.unset).toArray = ls at hl ⊢
  have hl : lv_has ls 1 [(0, .ref h0)] := hl
  refine lv_aload_n hx hb dX0_init_0 rfl (lv_at hl 0 rfl) ?_
  refine W.objInit hx hb hown (hts _ (gW_of (wb2 _ (List.mem_of_getElem? (i := 20) rfl)) rfl)) (hts _ (gW_of (wb1 _ (List.mem_of_getElem? (i := 32) rfl)) rfl)) (hts _ (gW_of (wb1 _ (List.mem_of_getElem? (i := 33) rfl)) rfl)) rfl (by rw [hml]; exact hl.1) rfl dX0_init_1 (Nat.le_of_ble_eq_true rfl) (Nat.le_of_ble_eq_true rfl) ?_
  refine W.eq (g2 := F0 m 4 ls []) rfl ?_
  refine lv_aload_n hx hb dX0_init_4 rfl (lv_at hl 0 rfl) ?_
  refine lv_iconst (v := 4) hx hb dX0_init_5 (by decide) ?_
  refine va_newa (atype := .int) hx hb (hts _ (gW_of (wb1 _ (List.mem_of_getElem? (i := 56) rfl)) rfl)) (ty := .int) rfl hK hP hD hS hA (N' := 4) (a0 := (4, .inl (fun _ => 0))) (fun _ => rfl) (by decide) (by decide) (Nat.le_of_ble_eq_true rfl) (Nat.le_of_ble_eq_true rfl) (Nat.le_of_ble_eq_true rfl) dX0_init_6 (fun q1 a1 H hK hP hD hS => ?_)
  have hP : va_P (dC, dI) vwCl [(h0, .inr (0, [.null, .long 0])), (q1, .inl (a1, 4, .inl (fun _ => 0)))] H := hP
  have hD : va_D A [(h0, .inr (0, [.null, .long 0])), (q1, .inl (a1, 4, .inl (fun _ => 0)))] := hD
  have hK : va_K (dC, dI) vwCl [(a1, .int)] s := hK
  refine W.widen (k := 1) (n := 4) (Nat.le_of_ble_eq_true rfl) (Nat.le_of_ble_eq_true rfl) ?_
  refine va_putF (D := (dC, dI)) (ci := 0) (v := .ref q1) (ty := (.array .int)) (C := RX0) (T := TX0) (N := 2) hx hb hts wiX0 tyX0 tyX0_ok nmX0 hown hK hP hD hS 0 rfl rfl 0 (by decide) (hts _ (gW_of (wb2 _ (List.mem_of_getElem? (i := 21) rfl)) rfl)) (fun _ h9 => h9) rfl hin rfl (by decide +kernel) rfl rfl (Nat.le_of_ble_eq_true rfl) dX0_init_8 (fun H locs hP hD hS => ?_)
  have hP : va_P (dC, dI) vwCl [(h0, .inr (0, [.ref q1, .long 0])), (q1, .inl (a1, 4, .inl (fun _ => 0)))] H := hP
  have hD : va_D A [(h0, .inr (0, [.ref q1, .long 0])), (q1, .inl (a1, 4, .inl (fun _ => 0)))] := hD
  refine lv_aload_n hx hb dX0_init_11 rfl (lv_at hl 0 rfl) ?_
  refine lv_lconst (v := 0) hx hb dX0_init_12 (by decide) ?_
  refine va_put (D := (dC, dI)) (ci := 0) (v := .long 0) (ty := .long) (C := RX0) (T := TX0) (N := 2) hx hb hts wiX0 tyX0 tyX0_ok nmX0 hown hK hP hD hS 0 rfl rfl 1 (by decide) (hts _ (gW_of (wb2 _ (List.mem_of_getElem? (i := 22) rfl)) rfl)) (fun _ h9 => h9) rfl (by decide +kernel) (by decide) (by decide) (Nat.le_of_ble_eq_true rfl) dX0_init_13 (fun H locs hP hD hS => ?_)
  have hP : va_P (dC, dI) vwCl [(h0, .inr (0, [.ref q1, .long 0])), (q1, .inl (a1, 4, .inl (fun _ => 0)))] H := hP
  have hD : va_D A [(h0, .inr (0, [.ref q1, .long 0])), (q1, .inl (a1, 4, .inl (fun _ => 0)))] := hD
  exact W.vret hx hb hr (fun t ht hW => ⟨⟨(), rfl, trivial, q1, a1,  by rw [ht]; exact hP, va_K.moved hW.alike hK, hD⟩, hS.F ht⟩) hS.2.2 dX0_init_16
set_option maxHeartbeats 4000000 in
set_option maxRecDepth 100000 in
theorem iX1 (l : Launch) (dC : Nat → ClassId) (dI : Nat → Nat → Nat) (sz : Nat) (h0 : Nat) : Met l yX1_init (Cond.code yX1_init cX1_init 1 none :: gW) ({ frames := 1, cells := 2, slots := 511, locals := 39 }) (va_Pc [.ref h0] (fun U => U.heap.size = sz ∧ va_P (dC, dI) vwCl [(h0, .inr (1, [.null, .null, .int 0]))] U.heap ∧ va_K (dC, dI) vwCl [] U ∧ va_D (fun _ => True) [(h0, .inr (1, [.null, .null, .int 0]))] ∧ g_nw nwL U)) (va_Qv (fun _ : Unit => True) (fun _ t => ∃ (q1 q2 : Nat), ∃ (a1 a2 : ClassId), va_P (dC, dI) vwCl [(h0, .inr (1, [.ref q1, .ref q2, .int 0])), (q1, .inl (a1, 255, .inl (fun _ => 0))), (q2, .inl (a2, 256, .inl (fun _ => 0)))] t.heap ∧ va_K (dC, dI) vwCl [(a1, .int), (a2, .int)] t ∧ va_D (va_A [(h0, .inr (1, [.null, .null, .int 0]))] sz) [(h0, .inr (1, [.ref q1, .ref q2, .int 0])), (q1, .inl (a1, 255, .inl (fun _ => 0))), (q2, .inl (a2, 256, .inl (fun _ => 0)))]) (va_A [(h0, .inr (1, [.null, .null, .int 0]))] sz)) 2 511 (va_A [(h0, .inr (1, [.null, .null, .int 0]))] sz) := by
  refine va_MetF (cc := cX1_init) (maxL := 1) (ret := none) (by decide +kernel) rfl ?_
  intro p e s m args below meth c s₁ B hml hv
  obtain ⟨rfl, hsz, hP, hK, hD0, hN⟩ := hv
  have hx := B.exec
  have hb := B.bytes
  have hr := B.returns
  have hts : ∀ w ∈ gW, w.before _ s = true := fun w h => atoms_spec (ws := Cond.code yX1_init cX1_init 1 none :: gW) B.pre w (List.mem_cons_of_mem _ h)
  have hown : s.vm.findClass RX1 = some m.cls := findClass_of_methodNamed B.named
  have hlocks := B.notSynchronized
  have hin : meth.name = "<init>" := (name_of_methodNamed B.named B.method).1
  subst hsz
  have hD := hD0.self (sz := s.heap.size)
  generalize hAe : va_A [(h0, .inr (1, [.null, .null, .int 0]))] s.heap.size = A at hD ⊢
  have hA : ∀ q : Nat, s.heap.size ≤ q → A q := fun q h => by rw [← hAe]; exact Or.inr h
  have hS : va_S A s.heap s.heap [] := va_S.rf
  have hP : va_P (dC, dI) vwCl [(h0, .inr (1, [.null, .null, .int 0]))] s.heap := hP
  have hl := lv_entry ([.ref h0]) (n := 1) (Nat.le_of_ble_eq_true rfl)
  rw [lg_entry_eq]
  generalize (lg_sl ([.ref h0]) ++ List.replicate (1 - (lg_sl ([.ref h0])).length) Slot.unset).toArray = ls at hl ⊢
  have hl : lv_has ls 1 [(0, .ref h0)] := hl
  refine lv_aload_n hx hb dX1_init_0 rfl (lv_at hl 0 rfl) ?_
  refine W.objInit hx hb hown (hts _ (gW_of (wb1 _ (List.mem_of_getElem? (i := 156) rfl)) rfl)) (hts _ (gW_of (wb1 _ (List.mem_of_getElem? (i := 32) rfl)) rfl)) (hts _ (gW_of (wb1 _ (List.mem_of_getElem? (i := 33) rfl)) rfl)) rfl (by rw [hml]; exact hl.1) rfl dX1_init_1 (Nat.le_of_ble_eq_true rfl) (Nat.le_of_ble_eq_true rfl) ?_
  refine W.eq (g2 := F0 m 4 ls []) rfl ?_
  refine lv_aload_n hx hb dX1_init_4 rfl (lv_at hl 0 rfl) ?_
  refine lv_sipush (v := 255) hx hb dX1_init_5 (by decide) ?_
  refine va_newa (atype := .int) hx hb (hts _ (gW_of (wb1 _ (List.mem_of_getElem? (i := 56) rfl)) rfl)) (ty := .int) rfl hK hP hD hS hA (N' := 255) (a0 := (255, .inl (fun _ => 0))) (fun _ => rfl) (by decide) (by decide) (Nat.le_of_ble_eq_true rfl) (Nat.le_of_ble_eq_true rfl) (Nat.le_of_ble_eq_true rfl) dX1_init_8 (fun q1 a1 H hK hP hD hS => ?_)
  have hP : va_P (dC, dI) vwCl [(h0, .inr (1, [.null, .null, .int 0])), (q1, .inl (a1, 255, .inl (fun _ => 0)))] H := hP
  have hD : va_D A [(h0, .inr (1, [.null, .null, .int 0])), (q1, .inl (a1, 255, .inl (fun _ => 0)))] := hD
  have hK : va_K (dC, dI) vwCl [(a1, .int)] s := hK
  refine W.widen (k := 1) (n := 255) (Nat.le_of_ble_eq_true rfl) (Nat.le_of_ble_eq_true rfl) ?_
  refine va_putF (D := (dC, dI)) (ci := 1) (v := .ref q1) (ty := (.array .int)) (C := RX1) (T := TX1) (N := 3) hx hb hts wiX1 tyX1 tyX1_ok nmX1 hown hK hP hD hS 0 rfl rfl 0 (by decide) (hts _ (gW_of (wb1 _ (List.mem_of_getElem? (i := 157) rfl)) rfl)) (fun _ h9 => h9) rfl hin rfl (by decide +kernel) rfl rfl (Nat.le_of_ble_eq_true rfl) dX1_init_10 (fun H locs hP hD hS => ?_)
  have hP : va_P (dC, dI) vwCl [(h0, .inr (1, [.ref q1, .null, .int 0])), (q1, .inl (a1, 255, .inl (fun _ => 0)))] H := hP
  have hD : va_D A [(h0, .inr (1, [.ref q1, .null, .int 0])), (q1, .inl (a1, 255, .inl (fun _ => 0)))] := hD
  refine lv_aload_n hx hb dX1_init_13 rfl (lv_at hl 0 rfl) ?_
  refine lv_sipush (v := 256) hx hb dX1_init_14 (by decide) ?_
  refine va_newa (atype := .int) hx hb (hts _ (gW_of (wb1 _ (List.mem_of_getElem? (i := 56) rfl)) rfl)) (ty := .int) rfl hK hP hD hS hA (N' := 256) (a0 := (256, .inl (fun _ => 0))) (fun _ => rfl) (by decide) (by decide) (Nat.le_of_ble_eq_true rfl) (Nat.le_of_ble_eq_true rfl) (Nat.le_of_ble_eq_true rfl) dX1_init_17 (fun q2 a2 H hK hP hD hS => ?_)
  have hP : va_P (dC, dI) vwCl [(h0, .inr (1, [.ref q1, .null, .int 0])), (q1, .inl (a1, 255, .inl (fun _ => 0))), (q2, .inl (a2, 256, .inl (fun _ => 0)))] H := hP
  have hD : va_D A [(h0, .inr (1, [.ref q1, .null, .int 0])), (q1, .inl (a1, 255, .inl (fun _ => 0))), (q2, .inl (a2, 256, .inl (fun _ => 0)))] := hD
  have hK : va_K (dC, dI) vwCl [(a1, .int), (a2, .int)] s := hK
  refine W.widen (k := 2) (n := 511) (Nat.le_of_ble_eq_true rfl) (Nat.le_of_ble_eq_true rfl) ?_
  refine va_putF (D := (dC, dI)) (ci := 1) (v := .ref q2) (ty := (.array .int)) (C := RX1) (T := TX1) (N := 3) hx hb hts wiX1 tyX1 tyX1_ok nmX1 hown hK hP hD hS 0 rfl rfl 1 (by decide) (hts _ (gW_of (wb1 _ (List.mem_of_getElem? (i := 158) rfl)) rfl)) (fun _ h9 => h9) rfl hin rfl (by decide +kernel) rfl rfl (Nat.le_of_ble_eq_true rfl) dX1_init_19 (fun H locs hP hD hS => ?_)
  have hP : va_P (dC, dI) vwCl [(h0, .inr (1, [.ref q1, .ref q2, .int 0])), (q1, .inl (a1, 255, .inl (fun _ => 0))), (q2, .inl (a2, 256, .inl (fun _ => 0)))] H := hP
  have hD : va_D A [(h0, .inr (1, [.ref q1, .ref q2, .int 0])), (q1, .inl (a1, 255, .inl (fun _ => 0))), (q2, .inl (a2, 256, .inl (fun _ => 0)))] := hD
  refine lv_aload_n hx hb dX1_init_22 rfl (lv_at hl 0 rfl) ?_
  refine lv_iconst (v := 0) hx hb dX1_init_23 (by decide) ?_
  refine va_put (D := (dC, dI)) (ci := 1) (v := .int 0) (ty := .int) (C := RX1) (T := TX1) (N := 3) hx hb hts wiX1 tyX1 tyX1_ok nmX1 hown hK hP hD hS 0 rfl rfl 2 (by decide) (hts _ (gW_of (wb1 _ (List.mem_of_getElem? (i := 159) rfl)) rfl)) (fun _ h9 => h9) rfl (by decide +kernel) (by decide) (by decide) (Nat.le_of_ble_eq_true rfl) dX1_init_24 (fun H locs hP hD hS => ?_)
  have hP : va_P (dC, dI) vwCl [(h0, .inr (1, [.ref q1, .ref q2, .int 0])), (q1, .inl (a1, 255, .inl (fun _ => 0))), (q2, .inl (a2, 256, .inl (fun _ => 0)))] H := hP
  have hD : va_D A [(h0, .inr (1, [.ref q1, .ref q2, .int 0])), (q1, .inl (a1, 255, .inl (fun _ => 0))), (q2, .inl (a2, 256, .inl (fun _ => 0)))] := hD
  exact W.vret hx hb hr (fun t ht hW => ⟨⟨(), rfl, trivial, q1, q2, a1, a2,  by rw [ht]; exact hP, va_K.moved hW.alike hK, hD⟩, hS.F ht⟩) hS.2.2 dX1_init_27
set_option maxHeartbeats 4000000 in
set_option maxRecDepth 100000 in
theorem iX2 (l : Launch) (dC : Nat → ClassId) (dI : Nat → Nat → Nat) (sz : Nat) (h0 : Nat) : Met l yX2_init (Cond.code yX2_init cX2_init 1 none :: gW) ({ frames := 1, cells := 1, slots := 5760, locals := 39 }) (va_Pc [.ref h0] (fun U => U.heap.size = sz ∧ va_P (dC, dI) vwCl [(h0, .inr (2, [.null, .int 0, .int 0]))] U.heap ∧ va_K (dC, dI) vwCl [] U ∧ va_D (fun _ => True) [(h0, .inr (2, [.null, .int 0, .int 0]))] ∧ g_nw nwL U)) (va_Qv (fun _ : Unit => True) (fun _ t => ∃ (q1 : Nat), ∃ (a1 : ClassId), va_P (dC, dI) vwCl [(h0, .inr (2, [.ref q1, .int 0, .int 0])), (q1, .inl (a1, 5760, .inl (fun _ => 0)))] t.heap ∧ va_K (dC, dI) vwCl [(a1, .int)] t ∧ va_D (va_A [(h0, .inr (2, [.null, .int 0, .int 0]))] sz) [(h0, .inr (2, [.ref q1, .int 0, .int 0])), (q1, .inl (a1, 5760, .inl (fun _ => 0)))]) (va_A [(h0, .inr (2, [.null, .int 0, .int 0]))] sz)) 1 5760 (va_A [(h0, .inr (2, [.null, .int 0, .int 0]))] sz) := by
  refine va_MetF (cc := cX2_init) (maxL := 1) (ret := none) (by decide +kernel) rfl ?_
  intro p e s m args below meth c s₁ B hml hv
  obtain ⟨rfl, hsz, hP, hK, hD0, hN⟩ := hv
  have hx := B.exec
  have hb := B.bytes
  have hr := B.returns
  have hts : ∀ w ∈ gW, w.before _ s = true := fun w h => atoms_spec (ws := Cond.code yX2_init cX2_init 1 none :: gW) B.pre w (List.mem_cons_of_mem _ h)
  have hown : s.vm.findClass RX2 = some m.cls := findClass_of_methodNamed B.named
  have hlocks := B.notSynchronized
  have hin : meth.name = "<init>" := (name_of_methodNamed B.named B.method).1
  subst hsz
  have hD := hD0.self (sz := s.heap.size)
  generalize hAe : va_A [(h0, .inr (2, [.null, .int 0, .int 0]))] s.heap.size = A at hD ⊢
  have hA : ∀ q : Nat, s.heap.size ≤ q → A q := fun q h => by rw [← hAe]; exact Or.inr h
  have hS : va_S A s.heap s.heap [] := va_S.rf
  have hP : va_P (dC, dI) vwCl [(h0, .inr (2, [.null, .int 0, .int 0]))] s.heap := hP
  have hl := lv_entry ([.ref h0]) (n := 1) (Nat.le_of_ble_eq_true rfl)
  rw [lg_entry_eq]
  generalize (lg_sl ([.ref h0]) ++ List.replicate (1 - (lg_sl ([.ref h0])).length) Slot.unset).toArray = ls at hl ⊢
  have hl : lv_has ls 1 [(0, .ref h0)] := hl
  refine lv_aload_n hx hb dX2_init_0 rfl (lv_at hl 0 rfl) ?_
  refine W.objInit hx hb hown (hts _ (gW_of (wb2 _ (List.mem_of_getElem? (i := 4) rfl)) rfl)) (hts _ (gW_of (wb1 _ (List.mem_of_getElem? (i := 32) rfl)) rfl)) (hts _ (gW_of (wb1 _ (List.mem_of_getElem? (i := 33) rfl)) rfl)) rfl (by rw [hml]; exact hl.1) rfl dX2_init_1 (Nat.le_of_ble_eq_true rfl) (Nat.le_of_ble_eq_true rfl) ?_
  refine W.eq (g2 := F0 m 4 ls []) rfl ?_
  refine lv_aload_n hx hb dX2_init_4 rfl (lv_at hl 0 rfl) ?_
  refine lv_sipush (v := 5760) hx hb dX2_init_5 (by decide) ?_
  refine va_newa (atype := .int) hx hb (hts _ (gW_of (wb1 _ (List.mem_of_getElem? (i := 56) rfl)) rfl)) (ty := .int) rfl hK hP hD hS hA (N' := 5760) (a0 := (5760, .inl (fun _ => 0))) (fun _ => rfl) (by decide) (by decide) (Nat.le_of_ble_eq_true rfl) (Nat.le_of_ble_eq_true rfl) (Nat.le_of_ble_eq_true rfl) dX2_init_8 (fun q1 a1 H hK hP hD hS => ?_)
  have hP : va_P (dC, dI) vwCl [(h0, .inr (2, [.null, .int 0, .int 0])), (q1, .inl (a1, 5760, .inl (fun _ => 0)))] H := hP
  have hD : va_D A [(h0, .inr (2, [.null, .int 0, .int 0])), (q1, .inl (a1, 5760, .inl (fun _ => 0)))] := hD
  have hK : va_K (dC, dI) vwCl [(a1, .int)] s := hK
  refine W.widen (k := 1) (n := 5760) (Nat.le_of_ble_eq_true rfl) (Nat.le_of_ble_eq_true rfl) ?_
  refine va_putF (D := (dC, dI)) (ci := 2) (v := .ref q1) (ty := (.array .int)) (C := RX2) (T := TX2) (N := 3) hx hb hts wiX2 tyX2 tyX2_ok nmX2 hown hK hP hD hS 0 rfl rfl 0 (by decide) (hts _ (gW_of (wb2 _ (List.mem_of_getElem? (i := 5) rfl)) rfl)) (fun _ h9 => h9) rfl hin rfl (by decide +kernel) rfl rfl (Nat.le_of_ble_eq_true rfl) dX2_init_10 (fun H locs hP hD hS => ?_)
  have hP : va_P (dC, dI) vwCl [(h0, .inr (2, [.ref q1, .int 0, .int 0])), (q1, .inl (a1, 5760, .inl (fun _ => 0)))] H := hP
  have hD : va_D A [(h0, .inr (2, [.ref q1, .int 0, .int 0])), (q1, .inl (a1, 5760, .inl (fun _ => 0)))] := hD
  refine lv_aload_n hx hb dX2_init_13 rfl (lv_at hl 0 rfl) ?_
  refine lv_iconst (v := 0) hx hb dX2_init_14 (by decide) ?_
  refine va_put (D := (dC, dI)) (ci := 2) (v := .int 0) (ty := .int) (C := RX2) (T := TX2) (N := 3) hx hb hts wiX2 tyX2 tyX2_ok nmX2 hown hK hP hD hS 0 rfl rfl 1 (by decide) (hts _ (gW_of (wb2 _ (List.mem_of_getElem? (i := 6) rfl)) rfl)) (fun _ h9 => h9) rfl (by decide +kernel) (by decide) (by decide) (Nat.le_of_ble_eq_true rfl) dX2_init_15 (fun H locs hP hD hS => ?_)
  have hP : va_P (dC, dI) vwCl [(h0, .inr (2, [.ref q1, .int 0, .int 0])), (q1, .inl (a1, 5760, .inl (fun _ => 0)))] H := hP
  have hD : va_D A [(h0, .inr (2, [.ref q1, .int 0, .int 0])), (q1, .inl (a1, 5760, .inl (fun _ => 0)))] := hD
  refine lv_aload_n hx hb dX2_init_18 rfl (lv_at hl 0 rfl) ?_
  refine lv_iconst (v := 0) hx hb dX2_init_19 (by decide) ?_
  refine va_put (D := (dC, dI)) (ci := 2) (v := .int 0) (ty := .int) (C := RX2) (T := TX2) (N := 3) hx hb hts wiX2 tyX2 tyX2_ok nmX2 hown hK hP hD hS 0 rfl rfl 2 (by decide) (hts _ (gW_of (wb2 _ (List.mem_of_getElem? (i := 7) rfl)) rfl)) (fun _ h9 => h9) rfl (by decide +kernel) (by decide) (by decide) (Nat.le_of_ble_eq_true rfl) dX2_init_20 (fun H locs hP hD hS => ?_)
  have hP : va_P (dC, dI) vwCl [(h0, .inr (2, [.ref q1, .int 0, .int 0])), (q1, .inl (a1, 5760, .inl (fun _ => 0)))] H := hP
  have hD : va_D A [(h0, .inr (2, [.ref q1, .int 0, .int 0])), (q1, .inl (a1, 5760, .inl (fun _ => 0)))] := hD
  exact W.vret hx hb hr (fun t ht hW => ⟨⟨(), rfl, trivial, q1, a1,  by rw [ht]; exact hP, va_K.moved hW.alike hK, hD⟩, hS.F ht⟩) hS.2.2 dX2_init_23
set_option maxHeartbeats 4000000 in
set_option maxRecDepth 100000 in
theorem iX3 (l : Launch) (dC : Nat → ClassId) (dI : Nat → Nat → Nat) (sz : Nat) (h0 : Nat) : Met l yX3_init (Cond.code yX3_init cX3_init 1 none :: gW) ({ frames := 1, cells := 1, slots := 300, locals := 39 }) (va_Pc [.ref h0] (fun U => U.heap.size = sz ∧ va_P (dC, dI) vwCl [(h0, .inr (3, [.null, .int 0]))] U.heap ∧ va_K (dC, dI) vwCl [] U ∧ va_D (fun _ => True) [(h0, .inr (3, [.null, .int 0]))] ∧ g_nw nwL U)) (va_Qv (fun _ : Unit => True) (fun _ t => ∃ (q1 : Nat), ∃ (a1 : ClassId), va_P (dC, dI) vwCl [(h0, .inr (3, [.ref q1, .int 0])), (q1, .inl (a1, 300, .inl (fun _ => 0)))] t.heap ∧ va_K (dC, dI) vwCl [(a1, .int)] t ∧ va_D (va_A [(h0, .inr (3, [.null, .int 0]))] sz) [(h0, .inr (3, [.ref q1, .int 0])), (q1, .inl (a1, 300, .inl (fun _ => 0)))]) (va_A [(h0, .inr (3, [.null, .int 0]))] sz)) 1 300 (va_A [(h0, .inr (3, [.null, .int 0]))] sz) := by
  refine va_MetF (cc := cX3_init) (maxL := 1) (ret := none) (by decide +kernel) rfl ?_
  intro p e s m args below meth c s₁ B hml hv
  obtain ⟨rfl, hsz, hP, hK, hD0, hN⟩ := hv
  have hx := B.exec
  have hb := B.bytes
  have hr := B.returns
  have hts : ∀ w ∈ gW, w.before _ s = true := fun w h => atoms_spec (ws := Cond.code yX3_init cX3_init 1 none :: gW) B.pre w (List.mem_cons_of_mem _ h)
  have hown : s.vm.findClass RX3 = some m.cls := findClass_of_methodNamed B.named
  have hlocks := B.notSynchronized
  have hin : meth.name = "<init>" := (name_of_methodNamed B.named B.method).1
  subst hsz
  have hD := hD0.self (sz := s.heap.size)
  generalize hAe : va_A [(h0, .inr (3, [.null, .int 0]))] s.heap.size = A at hD ⊢
  have hA : ∀ q : Nat, s.heap.size ≤ q → A q := fun q h => by rw [← hAe]; exact Or.inr h
  have hS : va_S A s.heap s.heap [] := va_S.rf
  have hP : va_P (dC, dI) vwCl [(h0, .inr (3, [.null, .int 0]))] s.heap := hP
  have hl := lv_entry ([.ref h0]) (n := 1) (Nat.le_of_ble_eq_true rfl)
  rw [lg_entry_eq]
  generalize (lg_sl ([.ref h0]) ++ List.replicate (1 - (lg_sl ([.ref h0])).length) Slot.unset).toArray = ls at hl ⊢
  have hl : lv_has ls 1 [(0, .ref h0)] := hl
  refine lv_aload_n hx hb dX3_init_0 rfl (lv_at hl 0 rfl) ?_
  refine W.objInit hx hb hown (hts _ (gW_of (wb1 _ (List.mem_of_getElem? (i := 231) rfl)) rfl)) (hts _ (gW_of (wb1 _ (List.mem_of_getElem? (i := 32) rfl)) rfl)) (hts _ (gW_of (wb1 _ (List.mem_of_getElem? (i := 33) rfl)) rfl)) rfl (by rw [hml]; exact hl.1) rfl dX3_init_1 (Nat.le_of_ble_eq_true rfl) (Nat.le_of_ble_eq_true rfl) ?_
  refine W.eq (g2 := F0 m 4 ls []) rfl ?_
  refine lv_aload_n hx hb dX3_init_4 rfl (lv_at hl 0 rfl) ?_
  refine lv_sipush (v := 300) hx hb dX3_init_5 (by decide) ?_
  refine va_newa (atype := .int) hx hb (hts _ (gW_of (wb1 _ (List.mem_of_getElem? (i := 56) rfl)) rfl)) (ty := .int) rfl hK hP hD hS hA (N' := 300) (a0 := (300, .inl (fun _ => 0))) (fun _ => rfl) (by decide) (by decide) (Nat.le_of_ble_eq_true rfl) (Nat.le_of_ble_eq_true rfl) (Nat.le_of_ble_eq_true rfl) dX3_init_8 (fun q1 a1 H hK hP hD hS => ?_)
  have hP : va_P (dC, dI) vwCl [(h0, .inr (3, [.null, .int 0])), (q1, .inl (a1, 300, .inl (fun _ => 0)))] H := hP
  have hD : va_D A [(h0, .inr (3, [.null, .int 0])), (q1, .inl (a1, 300, .inl (fun _ => 0)))] := hD
  have hK : va_K (dC, dI) vwCl [(a1, .int)] s := hK
  refine W.widen (k := 1) (n := 300) (Nat.le_of_ble_eq_true rfl) (Nat.le_of_ble_eq_true rfl) ?_
  refine va_putF (D := (dC, dI)) (ci := 3) (v := .ref q1) (ty := (.array .int)) (C := RX3) (T := TX3) (N := 2) hx hb hts wiX3 tyX3 tyX3_ok nmX3 hown hK hP hD hS 0 rfl rfl 0 (by decide) (hts _ (gW_of (wb1 _ (List.mem_of_getElem? (i := 232) rfl)) rfl)) (fun _ h9 => h9) rfl hin rfl (by decide +kernel) rfl rfl (Nat.le_of_ble_eq_true rfl) dX3_init_10 (fun H locs hP hD hS => ?_)
  have hP : va_P (dC, dI) vwCl [(h0, .inr (3, [.ref q1, .int 0])), (q1, .inl (a1, 300, .inl (fun _ => 0)))] H := hP
  have hD : va_D A [(h0, .inr (3, [.ref q1, .int 0])), (q1, .inl (a1, 300, .inl (fun _ => 0)))] := hD
  refine lv_aload_n hx hb dX3_init_13 rfl (lv_at hl 0 rfl) ?_
  refine lv_iconst (v := 0) hx hb dX3_init_14 (by decide) ?_
  refine va_put (D := (dC, dI)) (ci := 3) (v := .int 0) (ty := .int) (C := RX3) (T := TX3) (N := 2) hx hb hts wiX3 tyX3 tyX3_ok nmX3 hown hK hP hD hS 0 rfl rfl 1 (by decide) (hts _ (gW_of (wb1 _ (List.mem_of_getElem? (i := 233) rfl)) rfl)) (fun _ h9 => h9) rfl (by decide +kernel) (by decide) (by decide) (Nat.le_of_ble_eq_true rfl) dX3_init_15 (fun H locs hP hD hS => ?_)
  have hP : va_P (dC, dI) vwCl [(h0, .inr (3, [.ref q1, .int 0])), (q1, .inl (a1, 300, .inl (fun _ => 0)))] H := hP
  have hD : va_D A [(h0, .inr (3, [.ref q1, .int 0])), (q1, .inl (a1, 300, .inl (fun _ => 0)))] := hD
  exact W.vret hx hb hr (fun t ht hW => ⟨⟨(), rfl, trivial, q1, a1,  by rw [ht]; exact hP, va_K.moved hW.alike hK, hD⟩, hS.F ht⟩) hS.2.2 dX3_init_18
set_option maxHeartbeats 4000000 in
set_option maxRecDepth 100000 in
theorem iX6 (l : Launch) (dC : Nat → ClassId) (dI : Nat → Nat → Nat) (sz : Nat) (h0 : Nat) : Met l yX6_init (Cond.code yX6_init cX6_init 1 none :: gW) ({ frames := 1, cells := 0, slots := 0, locals := 39 }) (va_Pc [.ref h0] (fun U => U.heap.size = sz ∧ va_P (dC, dI) vwCl [(h0, .inr (6, [.int 0, .int 0, .int 0, .int 0, .int 0, .int 0, .int 0, .int 0, .int 0, .int 0]))] U.heap ∧ va_K (dC, dI) vwCl [] U ∧ va_D (fun _ => True) [(h0, .inr (6, [.int 0, .int 0, .int 0, .int 0, .int 0, .int 0, .int 0, .int 0, .int 0, .int 0]))] ∧ g_nw nwL U)) (va_Qv (fun _ : Unit => True) (fun _ t => va_P (dC, dI) vwCl [(h0, .inr (6, [.int 0, .int 0, .int 0, .int 0, .int 0, .int 0, .int 0, .int 0, .int 0, .int 0]))] t.heap ∧ va_K (dC, dI) vwCl [] t ∧ va_D (va_A [(h0, .inr (6, [.int 0, .int 0, .int 0, .int 0, .int 0, .int 0, .int 0, .int 0, .int 0, .int 0]))] sz) [(h0, .inr (6, [.int 0, .int 0, .int 0, .int 0, .int 0, .int 0, .int 0, .int 0, .int 0, .int 0]))]) (va_A [(h0, .inr (6, [.int 0, .int 0, .int 0, .int 0, .int 0, .int 0, .int 0, .int 0, .int 0, .int 0]))] sz)) 0 0 (va_A [(h0, .inr (6, [.int 0, .int 0, .int 0, .int 0, .int 0, .int 0, .int 0, .int 0, .int 0, .int 0]))] sz) := by
  refine va_MetF (cc := cX6_init) (maxL := 1) (ret := none) (by decide +kernel) rfl ?_
  intro p e s m args below meth c s₁ B hml hv
  obtain ⟨rfl, hsz, hP, hK, hD0, hN⟩ := hv
  have hx := B.exec
  have hb := B.bytes
  have hr := B.returns
  have hts : ∀ w ∈ gW, w.before _ s = true := fun w h => atoms_spec (ws := Cond.code yX6_init cX6_init 1 none :: gW) B.pre w (List.mem_cons_of_mem _ h)
  have hown : s.vm.findClass RX6 = some m.cls := findClass_of_methodNamed B.named
  have hlocks := B.notSynchronized
  have hin : meth.name = "<init>" := (name_of_methodNamed B.named B.method).1
  subst hsz
  have hD := hD0.self (sz := s.heap.size)
  generalize hAe : va_A [(h0, .inr (6, [.int 0, .int 0, .int 0, .int 0, .int 0, .int 0, .int 0, .int 0, .int 0, .int 0]))] s.heap.size = A at hD ⊢
  have hA : ∀ q : Nat, s.heap.size ≤ q → A q := fun q h => by rw [← hAe]; exact Or.inr h
  have hS : va_S A s.heap s.heap [] := va_S.rf
  have hP : va_P (dC, dI) vwCl [(h0, .inr (6, [.int 0, .int 0, .int 0, .int 0, .int 0, .int 0, .int 0, .int 0, .int 0, .int 0]))] s.heap := hP
  have hl := lv_entry ([.ref h0]) (n := 1) (Nat.le_of_ble_eq_true rfl)
  rw [lg_entry_eq]
  generalize (lg_sl ([.ref h0]) ++ List.replicate (1 - (lg_sl ([.ref h0])).length) Slot.unset).toArray = ls at hl ⊢
  have hl : lv_has ls 1 [(0, .ref h0)] := hl
  refine lv_aload_n hx hb dX6_init_0 rfl (lv_at hl 0 rfl) ?_
  refine W.objInit hx hb hown (hts _ (gW_of (wb1 _ (List.mem_of_getElem? (i := 93) rfl)) rfl)) (hts _ (gW_of (wb1 _ (List.mem_of_getElem? (i := 32) rfl)) rfl)) (hts _ (gW_of (wb1 _ (List.mem_of_getElem? (i := 33) rfl)) rfl)) rfl (by rw [hml]; exact hl.1) rfl dX6_init_1 (Nat.le_of_ble_eq_true rfl) (Nat.le_of_ble_eq_true rfl) ?_
  refine W.eq (g2 := F0 m 4 ls []) rfl ?_
  refine lv_aload_n hx hb dX6_init_4 rfl (lv_at hl 0 rfl) ?_
  refine lv_iconst (v := 0) hx hb dX6_init_5 (by decide) ?_
  refine va_put (D := (dC, dI)) (ci := 6) (v := .int 0) (ty := .int) (C := RX6) (T := TX6) (N := 10) hx hb hts wiX6 tyX6 tyX6_ok nmX6 hown hK hP hD hS 0 rfl rfl 0 (by decide) (hts _ (gW_of (wb1 _ (List.mem_of_getElem? (i := 94) rfl)) rfl)) (fun _ h9 => h9) rfl (by decide +kernel) (by decide) (by decide) (Nat.le_of_ble_eq_true rfl) dX6_init_6 (fun H locs hP hD hS => ?_)
  have hP : va_P (dC, dI) vwCl [(h0, .inr (6, [.int 0, .int 0, .int 0, .int 0, .int 0, .int 0, .int 0, .int 0, .int 0, .int 0]))] H := hP
  have hD : va_D A [(h0, .inr (6, [.int 0, .int 0, .int 0, .int 0, .int 0, .int 0, .int 0, .int 0, .int 0, .int 0]))] := hD
  refine lv_aload_n hx hb dX6_init_9 rfl (lv_at hl 0 rfl) ?_
  refine lv_iconst (v := 0) hx hb dX6_init_10 (by decide) ?_
  refine va_put (D := (dC, dI)) (ci := 6) (v := .int 0) (ty := .int) (C := RX6) (T := TX6) (N := 10) hx hb hts wiX6 tyX6 tyX6_ok nmX6 hown hK hP hD hS 0 rfl rfl 1 (by decide) (hts _ (gW_of (wb1 _ (List.mem_of_getElem? (i := 98) rfl)) rfl)) (fun _ h9 => h9) rfl (by decide +kernel) (by decide) (by decide) (Nat.le_of_ble_eq_true rfl) dX6_init_11 (fun H locs hP hD hS => ?_)
  have hP : va_P (dC, dI) vwCl [(h0, .inr (6, [.int 0, .int 0, .int 0, .int 0, .int 0, .int 0, .int 0, .int 0, .int 0, .int 0]))] H := hP
  have hD : va_D A [(h0, .inr (6, [.int 0, .int 0, .int 0, .int 0, .int 0, .int 0, .int 0, .int 0, .int 0, .int 0]))] := hD
  refine lv_aload_n hx hb dX6_init_14 rfl (lv_at hl 0 rfl) ?_
  refine lv_iconst (v := 0) hx hb dX6_init_15 (by decide) ?_
  refine va_put (D := (dC, dI)) (ci := 6) (v := .int 0) (ty := .int) (C := RX6) (T := TX6) (N := 10) hx hb hts wiX6 tyX6 tyX6_ok nmX6 hown hK hP hD hS 0 rfl rfl 2 (by decide) (hts _ (gW_of (wb1 _ (List.mem_of_getElem? (i := 104) rfl)) rfl)) (fun _ h9 => h9) rfl (by decide +kernel) (by decide) (by decide) (Nat.le_of_ble_eq_true rfl) dX6_init_16 (fun H locs hP hD hS => ?_)
  have hP : va_P (dC, dI) vwCl [(h0, .inr (6, [.int 0, .int 0, .int 0, .int 0, .int 0, .int 0, .int 0, .int 0, .int 0, .int 0]))] H := hP
  have hD : va_D A [(h0, .inr (6, [.int 0, .int 0, .int 0, .int 0, .int 0, .int 0, .int 0, .int 0, .int 0, .int 0]))] := hD
  refine lv_aload_n hx hb dX6_init_19 rfl (lv_at hl 0 rfl) ?_
  refine lv_iconst (v := 0) hx hb dX6_init_20 (by decide) ?_
  refine va_put (D := (dC, dI)) (ci := 6) (v := .int 0) (ty := .int) (C := RX6) (T := TX6) (N := 10) hx hb hts wiX6 tyX6 tyX6_ok nmX6 hown hK hP hD hS 0 rfl rfl 3 (by decide) (hts _ (gW_of (wb1 _ (List.mem_of_getElem? (i := 109) rfl)) rfl)) (fun _ h9 => h9) rfl (by decide +kernel) (by decide) (by decide) (Nat.le_of_ble_eq_true rfl) dX6_init_21 (fun H locs hP hD hS => ?_)
  have hP : va_P (dC, dI) vwCl [(h0, .inr (6, [.int 0, .int 0, .int 0, .int 0, .int 0, .int 0, .int 0, .int 0, .int 0, .int 0]))] H := hP
  have hD : va_D A [(h0, .inr (6, [.int 0, .int 0, .int 0, .int 0, .int 0, .int 0, .int 0, .int 0, .int 0, .int 0]))] := hD
  refine lv_aload_n hx hb dX6_init_24 rfl (lv_at hl 0 rfl) ?_
  refine lv_iconst (v := 0) hx hb dX6_init_25 (by decide) ?_
  refine va_put (D := (dC, dI)) (ci := 6) (v := .int 0) (ty := .int) (C := RX6) (T := TX6) (N := 10) hx hb hts wiX6 tyX6 tyX6_ok nmX6 hown hK hP hD hS 0 rfl rfl 4 (by decide) (hts _ (gW_of (wb1 _ (List.mem_of_getElem? (i := 111) rfl)) rfl)) (fun _ h9 => h9) rfl (by decide +kernel) (by decide) (by decide) (Nat.le_of_ble_eq_true rfl) dX6_init_26 (fun H locs hP hD hS => ?_)
  have hP : va_P (dC, dI) vwCl [(h0, .inr (6, [.int 0, .int 0, .int 0, .int 0, .int 0, .int 0, .int 0, .int 0, .int 0, .int 0]))] H := hP
  have hD : va_D A [(h0, .inr (6, [.int 0, .int 0, .int 0, .int 0, .int 0, .int 0, .int 0, .int 0, .int 0, .int 0]))] := hD
  refine lv_aload_n hx hb dX6_init_29 rfl (lv_at hl 0 rfl) ?_
  refine lv_iconst (v := 0) hx hb dX6_init_30 (by decide) ?_
  refine va_put (D := (dC, dI)) (ci := 6) (v := .int 0) (ty := .int) (C := RX6) (T := TX6) (N := 10) hx hb hts wiX6 tyX6 tyX6_ok nmX6 hown hK hP hD hS 0 rfl rfl 5 (by decide) (hts _ (gW_of (wb1 _ (List.mem_of_getElem? (i := 113) rfl)) rfl)) (fun _ h9 => h9) rfl (by decide +kernel) (by decide) (by decide) (Nat.le_of_ble_eq_true rfl) dX6_init_31 (fun H locs hP hD hS => ?_)
  have hP : va_P (dC, dI) vwCl [(h0, .inr (6, [.int 0, .int 0, .int 0, .int 0, .int 0, .int 0, .int 0, .int 0, .int 0, .int 0]))] H := hP
  have hD : va_D A [(h0, .inr (6, [.int 0, .int 0, .int 0, .int 0, .int 0, .int 0, .int 0, .int 0, .int 0, .int 0]))] := hD
  refine lv_aload_n hx hb dX6_init_34 rfl (lv_at hl 0 rfl) ?_
  refine lv_iconst (v := 0) hx hb dX6_init_35 (by decide) ?_
  refine va_put (D := (dC, dI)) (ci := 6) (v := .int 0) (ty := .int) (C := RX6) (T := TX6) (N := 10) hx hb hts wiX6 tyX6 tyX6_ok nmX6 hown hK hP hD hS 0 rfl rfl 6 (by decide) (hts _ (gW_of (wb1 _ (List.mem_of_getElem? (i := 119) rfl)) rfl)) (fun _ h9 => h9) rfl (by decide +kernel) (by decide) (by decide) (Nat.le_of_ble_eq_true rfl) dX6_init_36 (fun H locs hP hD hS => ?_)
  have hP : va_P (dC, dI) vwCl [(h0, .inr (6, [.int 0, .int 0, .int 0, .int 0, .int 0, .int 0, .int 0, .int 0, .int 0, .int 0]))] H := hP
  have hD : va_D A [(h0, .inr (6, [.int 0, .int 0, .int 0, .int 0, .int 0, .int 0, .int 0, .int 0, .int 0, .int 0]))] := hD
  refine lv_aload_n hx hb dX6_init_39 rfl (lv_at hl 0 rfl) ?_
  refine lv_iconst (v := 0) hx hb dX6_init_40 (by decide) ?_
  refine va_put (D := (dC, dI)) (ci := 6) (v := .int 0) (ty := .int) (C := RX6) (T := TX6) (N := 10) hx hb hts wiX6 tyX6 tyX6_ok nmX6 hown hK hP hD hS 0 rfl rfl 7 (by decide) (hts _ (gW_of (wb1 _ (List.mem_of_getElem? (i := 122) rfl)) rfl)) (fun _ h9 => h9) rfl (by decide +kernel) (by decide) (by decide) (Nat.le_of_ble_eq_true rfl) dX6_init_41 (fun H locs hP hD hS => ?_)
  have hP : va_P (dC, dI) vwCl [(h0, .inr (6, [.int 0, .int 0, .int 0, .int 0, .int 0, .int 0, .int 0, .int 0, .int 0, .int 0]))] H := hP
  have hD : va_D A [(h0, .inr (6, [.int 0, .int 0, .int 0, .int 0, .int 0, .int 0, .int 0, .int 0, .int 0, .int 0]))] := hD
  refine lv_aload_n hx hb dX6_init_44 rfl (lv_at hl 0 rfl) ?_
  refine lv_iconst (v := 0) hx hb dX6_init_45 (by decide) ?_
  refine va_put (D := (dC, dI)) (ci := 6) (v := .int 0) (ty := .int) (C := RX6) (T := TX6) (N := 10) hx hb hts wiX6 tyX6 tyX6_ok nmX6 hown hK hP hD hS 0 rfl rfl 8 (by decide) (hts _ (gW_of (wb1 _ (List.mem_of_getElem? (i := 125) rfl)) rfl)) (fun _ h9 => h9) rfl (by decide +kernel) (by decide) (by decide) (Nat.le_of_ble_eq_true rfl) dX6_init_46 (fun H locs hP hD hS => ?_)
  have hP : va_P (dC, dI) vwCl [(h0, .inr (6, [.int 0, .int 0, .int 0, .int 0, .int 0, .int 0, .int 0, .int 0, .int 0, .int 0]))] H := hP
  have hD : va_D A [(h0, .inr (6, [.int 0, .int 0, .int 0, .int 0, .int 0, .int 0, .int 0, .int 0, .int 0, .int 0]))] := hD
  refine lv_aload_n hx hb dX6_init_49 rfl (lv_at hl 0 rfl) ?_
  refine lv_iconst (v := 0) hx hb dX6_init_50 (by decide) ?_
  refine va_put (D := (dC, dI)) (ci := 6) (v := .int 0) (ty := .int) (C := RX6) (T := TX6) (N := 10) hx hb hts wiX6 tyX6 tyX6_ok nmX6 hown hK hP hD hS 0 rfl rfl 9 (by decide) (hts _ (gW_of (wb1 _ (List.mem_of_getElem? (i := 128) rfl)) rfl)) (fun _ h9 => h9) rfl (by decide +kernel) (by decide) (by decide) (Nat.le_of_ble_eq_true rfl) dX6_init_51 (fun H locs hP hD hS => ?_)
  have hP : va_P (dC, dI) vwCl [(h0, .inr (6, [.int 0, .int 0, .int 0, .int 0, .int 0, .int 0, .int 0, .int 0, .int 0, .int 0]))] H := hP
  have hD : va_D A [(h0, .inr (6, [.int 0, .int 0, .int 0, .int 0, .int 0, .int 0, .int 0, .int 0, .int 0, .int 0]))] := hD
  exact W.vret hx hb hr (fun t ht hW => ⟨⟨(), rfl, trivial,  by rw [ht]; exact hP, va_K.moved hW.alike hK, hD⟩, hS.F ht⟩) hS.2.2 dX6_init_54
set_option maxHeartbeats 4000000 in
set_option maxRecDepth 100000 in
theorem iX7 (l : Launch) (dC : Nat → ClassId) (dI : Nat → Nat → Nat) (sz : Nat) (h0 : Nat) : Met l yX7_init (Cond.code yX7_init cX7_init 1 none :: gW) ({ frames := 1, cells := 2, slots := 80, locals := 39 }) (va_Pc [.ref h0] (fun U => U.heap.size = sz ∧ va_P (dC, dI) vwCl [(h0, .inr (7, [.null, .null, .int 0]))] U.heap ∧ va_K (dC, dI) vwCl [] U ∧ va_D (fun _ => True) [(h0, .inr (7, [.null, .null, .int 0]))] ∧ g_nw nwL U)) (va_Qv (fun _ : Unit => True) (fun _ t => ∃ (q1 q2 : Nat), ∃ (a1 a2 : ClassId), va_P (dC, dI) vwCl [(h0, .inr (7, [.ref q1, .ref q2, .int 0])), (q1, .inl (a1, 16, .inl (fun _ => 0))), (q2, .inl (a2, 64, .inl (fun _ => 0)))] t.heap ∧ va_K (dC, dI) vwCl [(a1, .int), (a2, .int)] t ∧ va_D (va_A [(h0, .inr (7, [.null, .null, .int 0]))] sz) [(h0, .inr (7, [.ref q1, .ref q2, .int 0])), (q1, .inl (a1, 16, .inl (fun _ => 0))), (q2, .inl (a2, 64, .inl (fun _ => 0)))]) (va_A [(h0, .inr (7, [.null, .null, .int 0]))] sz)) 2 80 (va_A [(h0, .inr (7, [.null, .null, .int 0]))] sz) := by
  refine va_MetF (cc := cX7_init) (maxL := 1) (ret := none) (by decide +kernel) rfl ?_
  intro p e s m args below meth c s₁ B hml hv
  obtain ⟨rfl, hsz, hP, hK, hD0, hN⟩ := hv
  have hx := B.exec
  have hb := B.bytes
  have hr := B.returns
  have hts : ∀ w ∈ gW, w.before _ s = true := fun w h => atoms_spec (ws := Cond.code yX7_init cX7_init 1 none :: gW) B.pre w (List.mem_cons_of_mem _ h)
  have hown : s.vm.findClass RX7 = some m.cls := findClass_of_methodNamed B.named
  have hlocks := B.notSynchronized
  have hin : meth.name = "<init>" := (name_of_methodNamed B.named B.method).1
  subst hsz
  have hD := hD0.self (sz := s.heap.size)
  generalize hAe : va_A [(h0, .inr (7, [.null, .null, .int 0]))] s.heap.size = A at hD ⊢
  have hA : ∀ q : Nat, s.heap.size ≤ q → A q := fun q h => by rw [← hAe]; exact Or.inr h
  have hS : va_S A s.heap s.heap [] := va_S.rf
  have hP : va_P (dC, dI) vwCl [(h0, .inr (7, [.null, .null, .int 0]))] s.heap := hP
  have hl := lv_entry ([.ref h0]) (n := 1) (Nat.le_of_ble_eq_true rfl)
  rw [lg_entry_eq]
  generalize (lg_sl ([.ref h0]) ++ List.replicate (1 - (lg_sl ([.ref h0])).length) Slot.unset).toArray = ls at hl ⊢
  have hl : lv_has ls 1 [(0, .ref h0)] := hl
  refine lv_aload_n hx hb dX7_init_0 rfl (lv_at hl 0 rfl) ?_
  refine W.objInit hx hb hown (hts _ (gW_of (wb1 _ (List.mem_of_getElem? (i := 45) rfl)) rfl)) (hts _ (gW_of (wb1 _ (List.mem_of_getElem? (i := 32) rfl)) rfl)) (hts _ (gW_of (wb1 _ (List.mem_of_getElem? (i := 33) rfl)) rfl)) rfl (by rw [hml]; exact hl.1) rfl dX7_init_1 (Nat.le_of_ble_eq_true rfl) (Nat.le_of_ble_eq_true rfl) ?_
  refine W.eq (g2 := F0 m 4 ls []) rfl ?_
  refine lv_aload_n hx hb dX7_init_4 rfl (lv_at hl 0 rfl) ?_
  refine lv_bipush (v := 16) hx hb dX7_init_5 (by decide) ?_
  refine va_newa (atype := .int) hx hb (hts _ (gW_of (wb1 _ (List.mem_of_getElem? (i := 56) rfl)) rfl)) (ty := .int) rfl hK hP hD hS hA (N' := 16) (a0 := (16, .inl (fun _ => 0))) (fun _ => rfl) (by decide) (by decide) (Nat.le_of_ble_eq_true rfl) (Nat.le_of_ble_eq_true rfl) (Nat.le_of_ble_eq_true rfl) dX7_init_7 (fun q1 a1 H hK hP hD hS => ?_)
  have hP : va_P (dC, dI) vwCl [(h0, .inr (7, [.null, .null, .int 0])), (q1, .inl (a1, 16, .inl (fun _ => 0)))] H := hP
  have hD : va_D A [(h0, .inr (7, [.null, .null, .int 0])), (q1, .inl (a1, 16, .inl (fun _ => 0)))] := hD
  have hK : va_K (dC, dI) vwCl [(a1, .int)] s := hK
  refine W.widen (k := 1) (n := 16) (Nat.le_of_ble_eq_true rfl) (Nat.le_of_ble_eq_true rfl) ?_
  refine va_putF (D := (dC, dI)) (ci := 7) (v := .ref q1) (ty := (.array .int)) (C := RX7) (T := TX7) (N := 3) hx hb hts wiX7 tyX7 tyX7_ok nmX7 hown hK hP hD hS 0 rfl rfl 0 (by decide) (hts _ (gW_of (wb1 _ (List.mem_of_getElem? (i := 46) rfl)) rfl)) (fun _ h9 => h9) rfl hin rfl (by decide +kernel) rfl rfl (Nat.le_of_ble_eq_true rfl) dX7_init_9 (fun H locs hP hD hS => ?_)
  have hP : va_P (dC, dI) vwCl [(h0, .inr (7, [.ref q1, .null, .int 0])), (q1, .inl (a1, 16, .inl (fun _ => 0)))] H := hP
  have hD : va_D A [(h0, .inr (7, [.ref q1, .null, .int 0])), (q1, .inl (a1, 16, .inl (fun _ => 0)))] := hD
  refine lv_aload_n hx hb dX7_init_12 rfl (lv_at hl 0 rfl) ?_
  refine lv_bipush (v := 64) hx hb dX7_init_13 (by decide) ?_
  refine va_newa (atype := .int) hx hb (hts _ (gW_of (wb1 _ (List.mem_of_getElem? (i := 56) rfl)) rfl)) (ty := .int) rfl hK hP hD hS hA (N' := 64) (a0 := (64, .inl (fun _ => 0))) (fun _ => rfl) (by decide) (by decide) (Nat.le_of_ble_eq_true rfl) (Nat.le_of_ble_eq_true rfl) (Nat.le_of_ble_eq_true rfl) dX7_init_15 (fun q2 a2 H hK hP hD hS => ?_)
  have hP : va_P (dC, dI) vwCl [(h0, .inr (7, [.ref q1, .null, .int 0])), (q1, .inl (a1, 16, .inl (fun _ => 0))), (q2, .inl (a2, 64, .inl (fun _ => 0)))] H := hP
  have hD : va_D A [(h0, .inr (7, [.ref q1, .null, .int 0])), (q1, .inl (a1, 16, .inl (fun _ => 0))), (q2, .inl (a2, 64, .inl (fun _ => 0)))] := hD
  have hK : va_K (dC, dI) vwCl [(a1, .int), (a2, .int)] s := hK
  refine W.widen (k := 2) (n := 80) (Nat.le_of_ble_eq_true rfl) (Nat.le_of_ble_eq_true rfl) ?_
  refine va_putF (D := (dC, dI)) (ci := 7) (v := .ref q2) (ty := (.array .int)) (C := RX7) (T := TX7) (N := 3) hx hb hts wiX7 tyX7 tyX7_ok nmX7 hown hK hP hD hS 0 rfl rfl 1 (by decide) (hts _ (gW_of (wb1 _ (List.mem_of_getElem? (i := 47) rfl)) rfl)) (fun _ h9 => h9) rfl hin rfl (by decide +kernel) rfl rfl (Nat.le_of_ble_eq_true rfl) dX7_init_17 (fun H locs hP hD hS => ?_)
  have hP : va_P (dC, dI) vwCl [(h0, .inr (7, [.ref q1, .ref q2, .int 0])), (q1, .inl (a1, 16, .inl (fun _ => 0))), (q2, .inl (a2, 64, .inl (fun _ => 0)))] H := hP
  have hD : va_D A [(h0, .inr (7, [.ref q1, .ref q2, .int 0])), (q1, .inl (a1, 16, .inl (fun _ => 0))), (q2, .inl (a2, 64, .inl (fun _ => 0)))] := hD
  refine lv_aload_n hx hb dX7_init_20 rfl (lv_at hl 0 rfl) ?_
  refine lv_iconst (v := 0) hx hb dX7_init_21 (by decide) ?_
  refine va_put (D := (dC, dI)) (ci := 7) (v := .int 0) (ty := .int) (C := RX7) (T := TX7) (N := 3) hx hb hts wiX7 tyX7 tyX7_ok nmX7 hown hK hP hD hS 0 rfl rfl 2 (by decide) (hts _ (gW_of (wb1 _ (List.mem_of_getElem? (i := 48) rfl)) rfl)) (fun _ h9 => h9) rfl (by decide +kernel) (by decide) (by decide) (Nat.le_of_ble_eq_true rfl) dX7_init_22 (fun H locs hP hD hS => ?_)
  have hP : va_P (dC, dI) vwCl [(h0, .inr (7, [.ref q1, .ref q2, .int 0])), (q1, .inl (a1, 16, .inl (fun _ => 0))), (q2, .inl (a2, 64, .inl (fun _ => 0)))] H := hP
  have hD : va_D A [(h0, .inr (7, [.ref q1, .ref q2, .int 0])), (q1, .inl (a1, 16, .inl (fun _ => 0))), (q2, .inl (a2, 64, .inl (fun _ => 0)))] := hD
  exact W.vret hx hb hr (fun t ht hW => ⟨⟨(), rfl, trivial, q1, q2, a1, a2,  by rw [ht]; exact hP, va_K.moved hW.alike hK, hD⟩, hS.F ht⟩) hS.2.2 dX7_init_25
set_option maxHeartbeats 4000000 in
set_option maxRecDepth 100000 in
theorem iX9 (l : Launch) (dC : Nat → ClassId) (dI : Nat → Nat → Nat) (sz : Nat) (h0 : Nat) : Met l yX9_init (Cond.code yX9_init cX9_init 1 none :: gW) ({ frames := 1, cells := 1, slots := 144, locals := 39 }) (va_Pc [.ref h0] (fun U => U.heap.size = sz ∧ va_P (dC, dI) vwCl [(h0, .inr (9, [.null]))] U.heap ∧ va_K (dC, dI) vwCl [] U ∧ va_D (fun _ => True) [(h0, .inr (9, [.null]))] ∧ g_nw nwL U)) (va_Qv (fun _ : Unit => True) (fun _ t => ∃ (q1 : Nat), ∃ (a1 : ClassId), va_P (dC, dI) vwCl [(h0, .inr (9, [.ref q1])), (q1, .inl (a1, 144, .inl (fun _ => 0)))] t.heap ∧ va_K (dC, dI) vwCl [(a1, .int)] t ∧ va_D (va_A [(h0, .inr (9, [.null]))] sz) [(h0, .inr (9, [.ref q1])), (q1, .inl (a1, 144, .inl (fun _ => 0)))]) (va_A [(h0, .inr (9, [.null]))] sz)) 1 144 (va_A [(h0, .inr (9, [.null]))] sz) := by
  refine va_MetF (cc := cX9_init) (maxL := 1) (ret := none) (by decide +kernel) rfl ?_
  intro p e s m args below meth c s₁ B hml hv
  obtain ⟨rfl, hsz, hP, hK, hD0, hN⟩ := hv
  have hx := B.exec
  have hb := B.bytes
  have hr := B.returns
  have hts : ∀ w ∈ gW, w.before _ s = true := fun w h => atoms_spec (ws := Cond.code yX9_init cX9_init 1 none :: gW) B.pre w (List.mem_cons_of_mem _ h)
  have hown : s.vm.findClass RX9 = some m.cls := findClass_of_methodNamed B.named
  have hlocks := B.notSynchronized
  have hin : meth.name = "<init>" := (name_of_methodNamed B.named B.method).1
  subst hsz
  have hD := hD0.self (sz := s.heap.size)
  generalize hAe : va_A [(h0, .inr (9, [.null]))] s.heap.size = A at hD ⊢
  have hA : ∀ q : Nat, s.heap.size ≤ q → A q := fun q h => by rw [← hAe]; exact Or.inr h
  have hS : va_S A s.heap s.heap [] := va_S.rf
  have hP : va_P (dC, dI) vwCl [(h0, .inr (9, [.null]))] s.heap := hP
  have hl := lv_entry ([.ref h0]) (n := 1) (Nat.le_of_ble_eq_true rfl)
  rw [lg_entry_eq]
  generalize (lg_sl ([.ref h0]) ++ List.replicate (1 - (lg_sl ([.ref h0])).length) Slot.unset).toArray = ls at hl ⊢
  have hl : lv_has ls 1 [(0, .ref h0)] := hl
  refine lv_aload_n hx hb dX9_init_0 rfl (lv_at hl 0 rfl) ?_
  refine W.objInit hx hb hown (hts _ (gW_of (wb1 _ (List.mem_of_getElem? (i := 178) rfl)) rfl)) (hts _ (gW_of (wb1 _ (List.mem_of_getElem? (i := 32) rfl)) rfl)) (hts _ (gW_of (wb1 _ (List.mem_of_getElem? (i := 33) rfl)) rfl)) rfl (by rw [hml]; exact hl.1) rfl dX9_init_1 (Nat.le_of_ble_eq_true rfl) (Nat.le_of_ble_eq_true rfl) ?_
  refine W.eq (g2 := F0 m 4 ls []) rfl ?_
  refine lv_aload_n hx hb dX9_init_4 rfl (lv_at hl 0 rfl) ?_
  refine lv_sipush (v := 144) hx hb dX9_init_5 (by decide) ?_
  refine va_newa (atype := .int) hx hb (hts _ (gW_of (wb1 _ (List.mem_of_getElem? (i := 56) rfl)) rfl)) (ty := .int) rfl hK hP hD hS hA (N' := 144) (a0 := (144, .inl (fun _ => 0))) (fun _ => rfl) (by decide) (by decide) (Nat.le_of_ble_eq_true rfl) (Nat.le_of_ble_eq_true rfl) (Nat.le_of_ble_eq_true rfl) dX9_init_8 (fun q1 a1 H hK hP hD hS => ?_)
  have hP : va_P (dC, dI) vwCl [(h0, .inr (9, [.null])), (q1, .inl (a1, 144, .inl (fun _ => 0)))] H := hP
  have hD : va_D A [(h0, .inr (9, [.null])), (q1, .inl (a1, 144, .inl (fun _ => 0)))] := hD
  have hK : va_K (dC, dI) vwCl [(a1, .int)] s := hK
  refine W.widen (k := 1) (n := 144) (Nat.le_of_ble_eq_true rfl) (Nat.le_of_ble_eq_true rfl) ?_
  refine va_putF (D := (dC, dI)) (ci := 9) (v := .ref q1) (ty := (.array .int)) (C := RX9) (T := TX9) (N := 1) hx hb hts wiX9 tyX9 tyX9_ok nmX9 hown hK hP hD hS 0 rfl rfl 0 (by decide) (hts _ (gW_of (wb1 _ (List.mem_of_getElem? (i := 179) rfl)) rfl)) (fun _ h9 => h9) rfl hin rfl (by decide +kernel) rfl rfl (Nat.le_of_ble_eq_true rfl) dX9_init_10 (fun H locs hP hD hS => ?_)
  have hP : va_P (dC, dI) vwCl [(h0, .inr (9, [.ref q1])), (q1, .inl (a1, 144, .inl (fun _ => 0)))] H := hP
  have hD : va_D A [(h0, .inr (9, [.ref q1])), (q1, .inl (a1, 144, .inl (fun _ => 0)))] := hD
  exact W.vret hx hb hr (fun t ht hW => ⟨⟨(), rfl, trivial, q1, a1,  by rw [ht]; exact hP, va_K.moved hW.alike hK, hD⟩, hS.F ht⟩) hS.2.2 dX9_init_13
set_option maxHeartbeats 4000000 in
set_option maxRecDepth 100000 in
theorem iX5 (l : Launch) (dC : Nat → ClassId) (dI : Nat → Nat → Nat) (sz : Nat) (h0 g1 g2 : Nat) : Met l yX5_init (Cond.code yX5_init cX5_init 3 none :: gW) ({ frames := 1, cells := 1, slots := 8, locals := 39 }) (va_Pc [.ref h0, .ref g1, .ref g2] (fun U => U.heap.size = sz ∧ va_P (dC, dI) vwCl [(h0, .inr (5, [.null, .null, .null]))] U.heap ∧ va_K (dC, dI) vwCl [] U ∧ va_D (fun _ => True) [(h0, .inr (5, [.null, .null, .null]))] ∧ g_nw nwL U)) (va_Qv (fun _ : Unit => True) (fun _ t => ∃ (q1 : Nat), ∃ (a1 : ClassId), va_P (dC, dI) vwCl [(h0, .inr (5, [.ref g1, .ref g2, .ref q1])), (q1, .inl (a1, 8, .inl (fun _ => 0)))] t.heap ∧ va_K (dC, dI) vwCl [(a1, .int)] t ∧ va_D (va_A [(h0, .inr (5, [.null, .null, .null]))] sz) [(h0, .inr (5, [.ref g1, .ref g2, .ref q1])), (q1, .inl (a1, 8, .inl (fun _ => 0)))]) (va_A [(h0, .inr (5, [.null, .null, .null]))] sz)) 1 8 (va_A [(h0, .inr (5, [.null, .null, .null]))] sz) := by
  refine va_MetF (cc := cX5_init) (maxL := 3) (ret := none) (by decide +kernel) rfl ?_
  intro p e s m args below meth c s₁ B hml hv
  obtain ⟨rfl, hsz, hP, hK, hD0, hN⟩ := hv
  have hx := B.exec
  have hb := B.bytes
  have hr := B.returns
  have hts : ∀ w ∈ gW, w.before _ s = true := fun w h => atoms_spec (ws := Cond.code yX5_init cX5_init 3 none :: gW) B.pre w (List.mem_cons_of_mem _ h)
  have hown : s.vm.findClass RX5 = some m.cls := findClass_of_methodNamed B.named
  have hlocks := B.notSynchronized
  have hin : meth.name = "<init>" := (name_of_methodNamed B.named B.method).1
  subst hsz
  have hD := hD0.self (sz := s.heap.size)
  generalize hAe : va_A [(h0, .inr (5, [.null, .null, .null]))] s.heap.size = A at hD ⊢
  have hA : ∀ q : Nat, s.heap.size ≤ q → A q := fun q h => by rw [← hAe]; exact Or.inr h
  have hS : va_S A s.heap s.heap [] := va_S.rf
  have hP : va_P (dC, dI) vwCl [(h0, .inr (5, [.null, .null, .null]))] s.heap := hP
  have hl := lv_entry ([.ref h0, .ref g1, .ref g2]) (n := 3) (Nat.le_of_ble_eq_true rfl)
  rw [lg_entry_eq]
  generalize (lg_sl ([.ref h0, .ref g1, .ref g2]) ++ List.replicate (3 - (lg_sl ([.ref h0, .ref g1, .ref g2])).length) Slot.unset).toArray = ls at hl ⊢
  have hl : lv_has ls 3 [(0, .ref h0), (1, .ref g1), (2, .ref g2)] := hl
  refine lv_aload_n hx hb dX5_init_0 rfl (lv_at hl 0 rfl) ?_
  refine W.objInit hx hb hown (hts _ (gW_of (wb1 _ (List.mem_of_getElem? (i := 188) rfl)) rfl)) (hts _ (gW_of (wb1 _ (List.mem_of_getElem? (i := 32) rfl)) rfl)) (hts _ (gW_of (wb1 _ (List.mem_of_getElem? (i := 33) rfl)) rfl)) rfl (by rw [hml]; exact hl.1) rfl dX5_init_1 (Nat.le_of_ble_eq_true rfl) (Nat.le_of_ble_eq_true rfl) ?_
  refine W.eq (g2 := F0 m 4 ls []) rfl ?_
  refine lv_aload_n hx hb dX5_init_4 rfl (lv_at hl 0 rfl) ?_
  refine lv_bipush (v := 8) hx hb dX5_init_5 (by decide) ?_
  refine va_newa (atype := .int) hx hb (hts _ (gW_of (wb1 _ (List.mem_of_getElem? (i := 56) rfl)) rfl)) (ty := .int) rfl hK hP hD hS hA (N' := 8) (a0 := (8, .inl (fun _ => 0))) (fun _ => rfl) (by decide) (by decide) (Nat.le_of_ble_eq_true rfl) (Nat.le_of_ble_eq_true rfl) (Nat.le_of_ble_eq_true rfl) dX5_init_7 (fun q1 a1 H hK hP hD hS => ?_)
  have hP : va_P (dC, dI) vwCl [(h0, .inr (5, [.null, .null, .null])), (q1, .inl (a1, 8, .inl (fun _ => 0)))] H := hP
  have hD : va_D A [(h0, .inr (5, [.null, .null, .null])), (q1, .inl (a1, 8, .inl (fun _ => 0)))] := hD
  have hK : va_K (dC, dI) vwCl [(a1, .int)] s := hK
  refine W.widen (k := 1) (n := 8) (Nat.le_of_ble_eq_true rfl) (Nat.le_of_ble_eq_true rfl) ?_
  refine va_putF (D := (dC, dI)) (ci := 5) (v := .ref q1) (ty := (.array .int)) (C := RX5) (T := TX5) (N := 3) hx hb hts wiX5 tyX5 tyX5_ok nmX5 hown hK hP hD hS 0 rfl rfl 2 (by decide) (hts _ (gW_of (wb1 _ (List.mem_of_getElem? (i := 191) rfl)) rfl)) (fun _ h9 => h9) rfl hin rfl (by decide +kernel) rfl rfl (Nat.le_of_ble_eq_true rfl) dX5_init_9 (fun H locs hP hD hS => ?_)
  have hP : va_P (dC, dI) vwCl [(h0, .inr (5, [.null, .null, .ref q1])), (q1, .inl (a1, 8, .inl (fun _ => 0)))] H := hP
  have hD : va_D A [(h0, .inr (5, [.null, .null, .ref q1])), (q1, .inl (a1, 8, .inl (fun _ => 0)))] := hD
  refine lv_aload_n hx hb dX5_init_12 rfl (lv_at hl 0 rfl) ?_
  refine lv_aload_n hx hb dX5_init_13 rfl (lv_at hl 1 rfl) ?_
  refine va_putF (D := (dC, dI)) (ci := 5) (v := .ref g1) (ty := (.object "StripeShelf$Rules")) (C := RX5) (T := TX5) (N := 3) hx hb hts wiX5 tyX5 tyX5_ok nmX5 hown hK hP hD hS 0 rfl rfl 0 (by decide) (hts _ (gW_of (wb1 _ (List.mem_of_getElem? (i := 189) rfl)) rfl)) (fun _ h9 => h9) rfl hin rfl (by decide +kernel) rfl rfl (Nat.le_of_ble_eq_true rfl) dX5_init_14 (fun H locs hP hD hS => ?_)
  have hP : va_P (dC, dI) vwCl [(h0, .inr (5, [.ref g1, .null, .ref q1])), (q1, .inl (a1, 8, .inl (fun _ => 0)))] H := hP
  have hD : va_D A [(h0, .inr (5, [.ref g1, .null, .ref q1])), (q1, .inl (a1, 8, .inl (fun _ => 0)))] := hD
  refine lv_aload_n hx hb dX5_init_17 rfl (lv_at hl 0 rfl) ?_
  refine lv_aload_n hx hb dX5_init_18 rfl (lv_at hl 2 rfl) ?_
  refine va_putF (D := (dC, dI)) (ci := 5) (v := .ref g2) (ty := (.object "StripeShelf$Field")) (C := RX5) (T := TX5) (N := 3) hx hb hts wiX5 tyX5 tyX5_ok nmX5 hown hK hP hD hS 0 rfl rfl 1 (by decide) (hts _ (gW_of (wb1 _ (List.mem_of_getElem? (i := 190) rfl)) rfl)) (fun _ h9 => h9) rfl hin rfl (by decide +kernel) rfl rfl (Nat.le_of_ble_eq_true rfl) dX5_init_19 (fun H locs hP hD hS => ?_)
  have hP : va_P (dC, dI) vwCl [(h0, .inr (5, [.ref g1, .ref g2, .ref q1])), (q1, .inl (a1, 8, .inl (fun _ => 0)))] H := hP
  have hD : va_D A [(h0, .inr (5, [.ref g1, .ref g2, .ref q1])), (q1, .inl (a1, 8, .inl (fun _ => 0)))] := hD
  exact W.vret hx hb hr (fun t ht hW => ⟨⟨(), rfl, trivial, q1, a1,  by rw [ht]; exact hP, va_K.moved hW.alike hK, hD⟩, hS.F ht⟩) hS.2.2 dX5_init_22
set_option maxHeartbeats 4000000 in
set_option maxRecDepth 100000 in
theorem iX8 (l : Launch) (dC : Nat → ClassId) (dI : Nat → Nat → Nat) (sz : Nat) (h0 g1 g2 : Nat) : Met l yX8_init (Cond.code yX8_init cX8_init 3 none :: gW) ({ frames := 2, cells := 4, slots := 156, locals := 78 }) (va_Pc [.ref h0, .ref g1, .ref g2] (fun U => U.heap.size = sz ∧ va_P (dC, dI) vwCl [(h0, .inr (8, [.null, .null, .null]))] U.heap ∧ va_K (dC, dI) vwCl [] U ∧ va_D (fun _ => True) [(h0, .inr (8, [.null, .null, .null]))] ∧ g_nw nwL U)) (va_Qv (fun _ : Unit => True) (fun _ t => ∃ (q1 q2 q4 q5 : Nat), ∃ (a3 a6 : ClassId), va_P (dC, dI) vwCl [(h0, .inr (8, [.ref g1, .ref q1, .ref q4])), (q1, .inr (9, [.ref q2])), (q2, .inl (a3, 144, .inl (fun _ => 0))), (q4, .inr (5, [.ref g1, .ref g2, .ref q5])), (q5, .inl (a6, 8, .inl (fun _ => 0)))] t.heap ∧ va_K (dC, dI) vwCl [(a3, .int), (a6, .int)] t ∧ va_D (va_A [(h0, .inr (8, [.null, .null, .null]))] sz) [(h0, .inr (8, [.ref g1, .ref q1, .ref q4])), (q1, .inr (9, [.ref q2])), (q2, .inl (a3, 144, .inl (fun _ => 0))), (q4, .inr (5, [.ref g1, .ref g2, .ref q5])), (q5, .inl (a6, 8, .inl (fun _ => 0)))]) (va_A [(h0, .inr (8, [.null, .null, .null]))] sz)) 4 156 (va_A [(h0, .inr (8, [.null, .null, .null]))] sz) := by
  refine va_MetF (cc := cX8_init) (maxL := 3) (ret := none) (by decide +kernel) rfl ?_
  intro p e s m args below meth c s₁ B hml hv
  obtain ⟨rfl, hsz, hP, hK, hD0, hN⟩ := hv
  have hx := B.exec
  have hb := B.bytes
  have hr := B.returns
  have hts : ∀ w ∈ gW, w.before _ s = true := fun w h => atoms_spec (ws := Cond.code yX8_init cX8_init 3 none :: gW) B.pre w (List.mem_cons_of_mem _ h)
  have hown : s.vm.findClass RX8 = some m.cls := findClass_of_methodNamed B.named
  have hlocks := B.notSynchronized
  have hin : meth.name = "<init>" := (name_of_methodNamed B.named B.method).1
  subst hsz
  have hD := hD0.self (sz := s.heap.size)
  generalize hAe : va_A [(h0, .inr (8, [.null, .null, .null]))] s.heap.size = A at hD ⊢
  have hA : ∀ q : Nat, s.heap.size ≤ q → A q := fun q h => by rw [← hAe]; exact Or.inr h
  have hS : va_S A s.heap s.heap [] := va_S.rf
  have hP : va_P (dC, dI) vwCl [(h0, .inr (8, [.null, .null, .null]))] s.heap := hP
  have hl := lv_entry ([.ref h0, .ref g1, .ref g2]) (n := 3) (Nat.le_of_ble_eq_true rfl)
  rw [lg_entry_eq]
  generalize (lg_sl ([.ref h0, .ref g1, .ref g2]) ++ List.replicate (3 - (lg_sl ([.ref h0, .ref g1, .ref g2])).length) Slot.unset).toArray = ls at hl ⊢
  have hl : lv_has ls 3 [(0, .ref h0), (1, .ref g1), (2, .ref g2)] := hl
  refine lv_aload_n hx hb dX8_init_0 rfl (lv_at hl 0 rfl) ?_
  refine W.objInit hx hb hown (hts _ (gW_of (wb1 _ (List.mem_of_getElem? (i := 172) rfl)) rfl)) (hts _ (gW_of (wb1 _ (List.mem_of_getElem? (i := 32) rfl)) rfl)) (hts _ (gW_of (wb1 _ (List.mem_of_getElem? (i := 33) rfl)) rfl)) rfl (by rw [hml]; exact hl.1) rfl dX8_init_1 (Nat.le_of_ble_eq_true rfl) (Nat.le_of_ble_eq_true rfl) ?_
  refine W.eq (g2 := F0 m 4 ls []) rfl ?_
  refine lv_aload_n hx hb dX8_init_4 rfl (lv_at hl 0 rfl) ?_
  refine va_new (ci := 9) (fs := [.null]) (C := RX9) (T := TX9) (N := 1) hx hb hts wiX9 tyX9 tyX9_ok hown (hts _ (gW_of (wb1 _ (List.mem_of_getElem? (i := 173) rfl)) rfl)) (hts _ (gW_of (wb1 _ (List.mem_of_getElem? (i := 174) rfl)) rfl)) (hts _ (gW_of (wb1 _ (List.mem_of_getElem? (i := 7) rfl)) rfl)) hK hP hD hS hA rfl (fun j hj => by match j, hj with | 0, _ => rfl | _ + 1, hj => omega) (Nat.le_of_ble_eq_true rfl) (Nat.le_of_ble_eq_true rfl) dX8_init_5 (fun q1 H hP hD hS => ?_)
  have hP : va_P (dC, dI) vwCl [(h0, .inr (8, [.null, .null, .null])), (q1, .inr (9, [.null]))] H := hP
  have hD : va_D A [(h0, .inr (8, [.null, .null, .null])), (q1, .inr (9, [.null]))] := hD
  refine W.widen (k := 1) (n := 1) (Nat.le_of_ble_eq_true rfl) (Nat.le_of_ble_eq_true rfl) ?_
  refine lv_dup hx hb dX8_init_8 rfl ?_
  have hPc := hP.sub (ws' := [(q1, .inr (9, [.null]))]) [1] rfl
  have hDc := hD.sub (ws' := [(q1, .inr (9, [.null]))]) [1] (by decide) rfl
  have hKc := hK.sub (tys' := []) [] rfl
  have hFc := va_free (wc := [(q1, .inr (9, [.null]))]) hD hS hA [1] rfl
  refine va_callv (va_runIN (As := []) (rest := [.ref q1, .ref h0]) ⟨hx, hb, hml, hown, hts⟩ (iX9 l dC dI H.size q1) ⟨va_cnB 0 hts (gW_good (gW_of (wb1 _ (List.mem_of_getElem? (i := 177) rfl)) rfl)) rfl rfl rfl (hN.1 _ (List.mem_of_getElem? (i := 7) rfl)) (hts _ (gW_of (wb1 _ (List.mem_of_getElem? (i := 7) rfl)) rfl)) ⟨by decide, by decide, rfl⟩ ⟨Nat.le_of_ble_eq_true rfl, Nat.le_of_ble_eq_true rfl⟩, rfl, hts _ (gW_of (wb1 _ (List.mem_of_getElem? (i := 176) rfl)) rfl)⟩ ⟨fun a U g mk q => by obtain ⟨q0, q1, qP, qK, qD, qN⟩ := q; exact ⟨q0, q1, qP, va_K.moved (u := U) (U := U.calling g mk a) (Vm.Alike.refl U.vm) qK, qD, g_nw_warm (u := U) (U := U.calling g mk a) (State.WarmedH.refl U) qN⟩, fun U hU hW => ⟨rfl, by rw [hU], by rw [hU]; exact hPc, va_K.moved hW.alike hKc, hDc.weaken (fun _ _ _ _ => trivial), g_nw_warm hW hN⟩⟩ rfl rfl hl.1 rfl (lv_room (Nat.le_of_ble_eq_true rfl)) dX8_init_9 ⟨Nat.le_of_ble_eq_true rfl, Nat.le_of_ble_eq_true rfl⟩) hS (fun q _ h => hFc q h) hFc (fun u t H1 locs ht hvm hw hB hz1 hk1 hS => ?_)
  obtain ⟨q2, a3, hP1, hK1, hD1⟩ := hB
  rw [ht] at hP1
  have hK1 := va_K.moved hvm.symm hK1
  obtain ⟨hP, hD⟩ := va_join (wr := [(h0, .inr (8, [.null, .null, .null]))]) (w1 := [(q1, .inr (9, [.ref q2])), (q2, .inl (a3, 144, .inl (fun _ => 0)))]) hP hD [1] [0] rfl rfl (by decide) (by decide) hk1 hFc hP1 hD1
  have hK := hK.app hK1
  generalize H1 = H at hP hS ⊢
  have hP : va_P (dC, dI) vwCl [(h0, .inr (8, [.null, .null, .null])), (q1, .inr (9, [.ref q2])), (q2, .inl (a3, 144, .inl (fun _ => 0)))] H := hP
  have hD : va_D A [(h0, .inr (8, [.null, .null, .null])), (q1, .inr (9, [.ref q2])), (q2, .inl (a3, 144, .inl (fun _ => 0)))] := hD
  have hK : va_K (dC, dI) vwCl [(a3, .int)] s := hK
  refine W.widen (k := 2) (n := 145) (Nat.le_of_ble_eq_true rfl) (Nat.le_of_ble_eq_true rfl) ?_
  refine va_putF (D := (dC, dI)) (ci := 8) (v := .ref q1) (ty := (.object "StripeShelf$State")) (C := RX8) (T := TX8) (N := 3) hx hb hts wiX8 tyX8 tyX8_ok nmX8 hown hK hP hD hS 0 rfl rfl 1 (by decide) (hts _ (gW_of (wb1 _ (List.mem_of_getElem? (i := 201) rfl)) rfl)) (fun _ h9 => h9) rfl hin rfl (by decide +kernel) rfl rfl (Nat.le_of_ble_eq_true rfl) dX8_init_12 (fun H locs hP hD hS => ?_)
  have hP : va_P (dC, dI) vwCl [(h0, .inr (8, [.null, .ref q1, .null])), (q1, .inr (9, [.ref q2])), (q2, .inl (a3, 144, .inl (fun _ => 0)))] H := hP
  have hD : va_D A [(h0, .inr (8, [.null, .ref q1, .null])), (q1, .inr (9, [.ref q2])), (q2, .inl (a3, 144, .inl (fun _ => 0)))] := hD
  refine lv_aload_n hx hb dX8_init_15 rfl (lv_at hl 0 rfl) ?_
  refine lv_aload_n hx hb dX8_init_16 rfl (lv_at hl 1 rfl) ?_
  refine va_putF (D := (dC, dI)) (ci := 8) (v := .ref g1) (ty := (.object "StripeShelf$Rules")) (C := RX8) (T := TX8) (N := 3) hx hb hts wiX8 tyX8 tyX8_ok nmX8 hown hK hP hD hS 0 rfl rfl 0 (by decide) (hts _ (gW_of (wb1 _ (List.mem_of_getElem? (i := 200) rfl)) rfl)) (fun _ h9 => h9) rfl hin rfl (by decide +kernel) rfl rfl (Nat.le_of_ble_eq_true rfl) dX8_init_17 (fun H locs hP hD hS => ?_)
  have hP : va_P (dC, dI) vwCl [(h0, .inr (8, [.ref g1, .ref q1, .null])), (q1, .inr (9, [.ref q2])), (q2, .inl (a3, 144, .inl (fun _ => 0)))] H := hP
  have hD : va_D A [(h0, .inr (8, [.ref g1, .ref q1, .null])), (q1, .inr (9, [.ref q2])), (q2, .inl (a3, 144, .inl (fun _ => 0)))] := hD
  refine lv_aload_n hx hb dX8_init_20 rfl (lv_at hl 0 rfl) ?_
  refine va_new (ci := 5) (fs := [.null, .null, .null]) (C := RX5) (T := TX5) (N := 3) hx hb hts wiX5 tyX5 tyX5_ok hown (hts _ (gW_of (wb1 _ (List.mem_of_getElem? (i := 183) rfl)) rfl)) (hts _ (gW_of (wb1 _ (List.mem_of_getElem? (i := 184) rfl)) rfl)) (hts _ (gW_of (wb1 _ (List.mem_of_getElem? (i := 8) rfl)) rfl)) hK hP hD hS hA rfl (fun j hj => by match j, hj with | 0, _ => rfl | 1, _ => rfl | 2, _ => rfl | _ + 3, hj => omega) (Nat.le_of_ble_eq_true rfl) (Nat.le_of_ble_eq_true rfl) dX8_init_21 (fun q4 H hP hD hS => ?_)
  have hP : va_P (dC, dI) vwCl [(h0, .inr (8, [.ref g1, .ref q1, .null])), (q1, .inr (9, [.ref q2])), (q2, .inl (a3, 144, .inl (fun _ => 0))), (q4, .inr (5, [.null, .null, .null]))] H := hP
  have hD : va_D A [(h0, .inr (8, [.ref g1, .ref q1, .null])), (q1, .inr (9, [.ref q2])), (q2, .inl (a3, 144, .inl (fun _ => 0))), (q4, .inr (5, [.null, .null, .null]))] := hD
  refine W.widen (k := 3) (n := 148) (Nat.le_of_ble_eq_true rfl) (Nat.le_of_ble_eq_true rfl) ?_
  refine lv_dup hx hb dX8_init_24 rfl ?_
  refine lv_aload_n hx hb dX8_init_25 rfl (lv_at hl 1 rfl) ?_
  refine lv_aload_n hx hb dX8_init_26 rfl (lv_at hl 2 rfl) ?_
  have hPc := hP.sub (ws' := [(q4, .inr (5, [.null, .null, .null]))]) [3] rfl
  have hDc := hD.sub (ws' := [(q4, .inr (5, [.null, .null, .null]))]) [3] (by decide) rfl
  have hKc := hK.sub (tys' := []) [] rfl
  have hFc := va_free (wc := [(q4, .inr (5, [.null, .null, .null]))]) hD hS hA [3] rfl
  refine va_callv (va_runI (As := [.ref g1, .ref g2]) (rest := [.ref q4, .ref h0]) ⟨hx, hb, hml, hown, hts⟩ (iX5 l dC dI H.size q4 g1 g2) (cwI 2 hts (gW_good (gW_of (wb1 _ (List.mem_of_getElem? (i := 187) rfl)) rfl)) rfl rfl rfl (hts _ (gW_of (wb1 _ (List.mem_of_getElem? (i := 8) rfl)) rfl)) (hts _ (gW_of (wb1 _ (List.mem_of_getElem? (i := 185) rfl)) rfl)) (hts _ (gW_of (wb1 _ (List.mem_of_getElem? (i := 186) rfl)) rfl)) rfl ⟨by decide, by decide, rfl⟩ ⟨Nat.le_of_ble_eq_true rfl, Nat.le_of_ble_eq_true rfl⟩) ⟨fun a U g mk q => by obtain ⟨q0, q1, qP, qK, qD, qN⟩ := q; exact ⟨q0, q1, qP, va_K.moved (u := U) (U := U.calling g mk a) (Vm.Alike.refl U.vm) qK, qD, g_nw_warm (u := U) (U := U.calling g mk a) (State.WarmedH.refl U) qN⟩, fun U hU hW => ⟨rfl, by rw [hU], by rw [hU]; exact hPc, va_K.moved hW.alike hKc, hDc.weaken (fun _ _ _ _ => trivial), g_nw_warm hW hN⟩⟩ rfl rfl hl.1 rfl (lv_room (Nat.le_of_ble_eq_true rfl)) dX8_init_27 ⟨Nat.le_of_ble_eq_true rfl, Nat.le_of_ble_eq_true rfl⟩) hS (fun q _ h => hFc q h) hFc (fun u t H1 locs ht hvm hw hB hz1 hk1 hS => ?_)
  obtain ⟨q5, a6, hP1, hK1, hD1⟩ := hB
  rw [ht] at hP1
  have hK1 := va_K.moved hvm.symm hK1
  obtain ⟨hP, hD⟩ := va_join (wr := [(h0, .inr (8, [.ref g1, .ref q1, .null])), (q1, .inr (9, [.ref q2])), (q2, .inl (a3, 144, .inl (fun _ => 0)))]) (w1 := [(q4, .inr (5, [.ref g1, .ref g2, .ref q5])), (q5, .inl (a6, 8, .inl (fun _ => 0)))]) hP hD [3] [0, 1, 2] rfl rfl (by decide) (by decide) hk1 hFc hP1 hD1
  have hK := hK.app hK1
  generalize H1 = H at hP hS ⊢
  have hP : va_P (dC, dI) vwCl [(h0, .inr (8, [.ref g1, .ref q1, .null])), (q1, .inr (9, [.ref q2])), (q2, .inl (a3, 144, .inl (fun _ => 0))), (q4, .inr (5, [.ref g1, .ref g2, .ref q5])), (q5, .inl (a6, 8, .inl (fun _ => 0)))] H := hP
  have hD : va_D A [(h0, .inr (8, [.ref g1, .ref q1, .null])), (q1, .inr (9, [.ref q2])), (q2, .inl (a3, 144, .inl (fun _ => 0))), (q4, .inr (5, [.ref g1, .ref g2, .ref q5])), (q5, .inl (a6, 8, .inl (fun _ => 0)))] := hD
  have hK : va_K (dC, dI) vwCl [(a3, .int), (a6, .int)] s := hK
  refine W.widen (k := 4) (n := 156) (Nat.le_of_ble_eq_true rfl) (Nat.le_of_ble_eq_true rfl) ?_
  refine va_putF (D := (dC, dI)) (ci := 8) (v := .ref q4) (ty := (.object "StripeShelf$Row")) (C := RX8) (T := TX8) (N := 3) hx hb hts wiX8 tyX8 tyX8_ok nmX8 hown hK hP hD hS 0 rfl rfl 2 (by decide) (hts _ (gW_of (wb1 _ (List.mem_of_getElem? (i := 204) rfl)) rfl)) (fun _ h9 => h9) rfl hin rfl (by decide +kernel) rfl rfl (Nat.le_of_ble_eq_true rfl) dX8_init_30 (fun H locs hP hD hS => ?_)
  have hP : va_P (dC, dI) vwCl [(h0, .inr (8, [.ref g1, .ref q1, .ref q4])), (q1, .inr (9, [.ref q2])), (q2, .inl (a3, 144, .inl (fun _ => 0))), (q4, .inr (5, [.ref g1, .ref g2, .ref q5])), (q5, .inl (a6, 8, .inl (fun _ => 0)))] H := hP
  have hD : va_D A [(h0, .inr (8, [.ref g1, .ref q1, .ref q4])), (q1, .inr (9, [.ref q2])), (q2, .inl (a3, 144, .inl (fun _ => 0))), (q4, .inr (5, [.ref g1, .ref g2, .ref q5])), (q5, .inl (a6, 8, .inl (fun _ => 0)))] := hD
  exact W.vret hx hb hr (fun t ht hW => ⟨⟨(), rfl, trivial, q1, q2, q4, q5, a3, a6,  by rw [ht]; exact hP, va_K.moved hW.alike hK, hD⟩, hS.F ht⟩) hS.2.2 dX8_init_33
set_option maxHeartbeats 4000000 in
set_option maxRecDepth 100000 in
theorem iX4 (l : Launch) (dC : Nat → ClassId) (dI : Nat → Nat → Nat) (sz : Nat) (h0 g1 z1 z2 z3 : Nat) : Met l yX4_init (Cond.code yX4_init cX4_init 2 none :: gW) ({ frames := 1, cells := 0, slots := 0, locals := 39 }) (va_Pc [.ref h0, .ref g1] (fun U => U.heap.size = sz ∧ va_P (dC, dI) vwCl [(h0, .inr (4, [.null, .null])), (g1, .inr (8, [.ref z1, .ref z2, .ref z3]))] U.heap ∧ va_K (dC, dI) vwCl [] U ∧ va_D (fun _ => True) [(h0, .inr (4, [.null, .null])), (g1, .inr (8, [.ref z1, .ref z2, .ref z3]))] ∧ g_nw nwL U)) (va_Qv (fun _ : Unit => True) (fun _ t => va_P (dC, dI) vwCl [(h0, .inr (4, [.ref g1, .ref z1])), (g1, .inr (8, [.ref z1, .ref z2, .ref z3]))] t.heap ∧ va_K (dC, dI) vwCl [] t ∧ va_D (va_A [(h0, .inr (4, [.null, .null])), (g1, .inr (8, [.ref z1, .ref z2, .ref z3]))] sz) [(h0, .inr (4, [.ref g1, .ref z1])), (g1, .inr (8, [.ref z1, .ref z2, .ref z3]))]) (va_A [(h0, .inr (4, [.null, .null])), (g1, .inr (8, [.ref z1, .ref z2, .ref z3]))] sz)) 0 0 (va_A [(h0, .inr (4, [.null, .null])), (g1, .inr (8, [.ref z1, .ref z2, .ref z3]))] sz) := by
  refine va_MetF (cc := cX4_init) (maxL := 2) (ret := none) (by decide +kernel) rfl ?_
  intro p e s m args below meth c s₁ B hml hv
  obtain ⟨rfl, hsz, hP, hK, hD0, hN⟩ := hv
  have hx := B.exec
  have hb := B.bytes
  have hr := B.returns
  have hts : ∀ w ∈ gW, w.before _ s = true := fun w h => atoms_spec (ws := Cond.code yX4_init cX4_init 2 none :: gW) B.pre w (List.mem_cons_of_mem _ h)
  have hown : s.vm.findClass RX4 = some m.cls := findClass_of_methodNamed B.named
  have hlocks := B.notSynchronized
  have hin : meth.name = "<init>" := (name_of_methodNamed B.named B.method).1
  subst hsz
  have hD := hD0.self (sz := s.heap.size)
  generalize hAe : va_A [(h0, .inr (4, [.null, .null])), (g1, .inr (8, [.ref z1, .ref z2, .ref z3]))] s.heap.size = A at hD ⊢
  have hA : ∀ q : Nat, s.heap.size ≤ q → A q := fun q h => by rw [← hAe]; exact Or.inr h
  have hS : va_S A s.heap s.heap [] := va_S.rf
  have hP : va_P (dC, dI) vwCl [(h0, .inr (4, [.null, .null])), (g1, .inr (8, [.ref z1, .ref z2, .ref z3]))] s.heap := hP
  have hl := lv_entry ([.ref h0, .ref g1]) (n := 2) (Nat.le_of_ble_eq_true rfl)
  rw [lg_entry_eq]
  generalize (lg_sl ([.ref h0, .ref g1]) ++ List.replicate (2 - (lg_sl ([.ref h0, .ref g1])).length) Slot.unset).toArray = ls at hl ⊢
  have hl : lv_has ls 2 [(0, .ref h0), (1, .ref g1)] := hl
  refine lv_aload_n hx hb dX4_init_0 rfl (lv_at hl 0 rfl) ?_
  refine W.objInit hx hb hown (hts _ (gW_of (wb1 _ (List.mem_of_getElem? (i := 218) rfl)) rfl)) (hts _ (gW_of (wb1 _ (List.mem_of_getElem? (i := 32) rfl)) rfl)) (hts _ (gW_of (wb1 _ (List.mem_of_getElem? (i := 33) rfl)) rfl)) rfl (by rw [hml]; exact hl.1) rfl dX4_init_1 (Nat.le_of_ble_eq_true rfl) (Nat.le_of_ble_eq_true rfl) ?_
  refine W.eq (g2 := F0 m 4 ls []) rfl ?_
  refine lv_aload_n hx hb dX4_init_4 rfl (lv_at hl 0 rfl) ?_
  refine lv_aload_n hx hb dX4_init_5 rfl (lv_at hl 1 rfl) ?_
  refine va_putF (D := (dC, dI)) (ci := 4) (v := .ref g1) (ty := (.object "StripeShelf$Shelf")) (C := RX4) (T := TX4) (N := 2) hx hb hts wiX4 tyX4 tyX4_ok nmX4 hown hK hP hD hS 0 rfl rfl 0 (by decide) (hts _ (gW_of (wb1 _ (List.mem_of_getElem? (i := 219) rfl)) rfl)) (fun _ h9 => h9) rfl hin rfl (by decide +kernel) rfl rfl (Nat.le_of_ble_eq_true rfl) dX4_init_6 (fun H locs hP hD hS => ?_)
  have hP : va_P (dC, dI) vwCl [(h0, .inr (4, [.ref g1, .null])), (g1, .inr (8, [.ref z1, .ref z2, .ref z3]))] H := hP
  have hD : va_D A [(h0, .inr (4, [.ref g1, .null])), (g1, .inr (8, [.ref z1, .ref z2, .ref z3]))] := hD
  refine lv_aload_n hx hb dX4_init_9 rfl (lv_at hl 0 rfl) ?_
  refine lv_aload_n hx hb dX4_init_10 rfl (lv_at hl 1 rfl) ?_
  refine va_get (D := (dC, dI)) (ci := 8) (v := .ref z1) (C := RX8) (T := TX8) (N := 3) hx hb hts wiX8 hown hK hP 1 rfl rfl 0 (by decide) (hts _ (gW_of (wb1 _ (List.mem_of_getElem? (i := 199) rfl)) rfl)) (fun _ h9 => h9) rfl dX4_init_11 ?_
  refine va_putF (D := (dC, dI)) (ci := 4) (v := .ref z1) (ty := (.object "StripeShelf$Rules")) (C := RX4) (T := TX4) (N := 2) hx hb hts wiX4 tyX4 tyX4_ok nmX4 hown hK hP hD hS 0 rfl rfl 1 (by decide) (hts _ (gW_of (wb1 _ (List.mem_of_getElem? (i := 220) rfl)) rfl)) (fun _ h9 => h9) rfl hin rfl (by decide +kernel) rfl rfl (Nat.le_of_ble_eq_true rfl) dX4_init_14 (fun H locs hP hD hS => ?_)
  have hP : va_P (dC, dI) vwCl [(h0, .inr (4, [.ref g1, .ref z1])), (g1, .inr (8, [.ref z1, .ref z2, .ref z3]))] H := hP
  have hD : va_D A [(h0, .inr (4, [.ref g1, .ref z1])), (g1, .inr (8, [.ref z1, .ref z2, .ref z3]))] := hD
  exact W.vret hx hb hr (fun t ht hW => ⟨⟨(), rfl, trivial,  by rw [ht]; exact hP, va_K.moved hW.alike hK, hD⟩, hS.F ht⟩) hS.2.2 dX4_init_17
set_option maxHeartbeats 4000000 in
set_option maxRecDepth 100000 in
theorem iX10 (l : Launch) (dC : Nat → ClassId) (dI : Nat → Nat → Nat) (sz : Nat) (h0 : Nat) : Met l yX10_init (Cond.code yX10_init cX10_init 1 none :: gW) ({ frames := 2, cells := 6, slots := 402, locals := 78 }) (va_Pc [.ref h0] (fun U => U.heap.size = sz ∧ va_P (dC, dI) vwCl [(h0, .inr (10, [.null, .int 0, .int 0, .int 0, .int 0, .null, .null, .int 0, .int 0, .null]))] U.heap ∧ va_K (dC, dI) vwCl [] U ∧ va_D (fun _ => True) [(h0, .inr (10, [.null, .int 0, .int 0, .int 0, .int 0, .null, .null, .int 0, .int 0, .null]))] ∧ g_nw nwL U)) (va_Qv (fun _ : Unit => True) (fun _ t => ∃ (q1 q2 q3 q4 q5 q6 : Nat), ∃ (a1 a2 a3 a7 a8 : ClassId), va_P (dC, dI) vwCl [(h0, .inr (10, [.ref q1, .int 0, .int 0, .int (-1), .int 0, .ref q2, .ref q3, .int 0, .int 0, .ref q4])), (q1, .inl (a1, 280, .inl (fun _ => 0))), (q2, .inl (a2, 7, .inl (fun _ => 0))), (q3, .inl (a3, 32, .inl (fun _ => 0))), (q4, .inr (7, [.ref q5, .ref q6, .int 0])), (q5, .inl (a7, 16, .inl (fun _ => 0))), (q6, .inl (a8, 64, .inl (fun _ => 0)))] t.heap ∧ va_K (dC, dI) vwCl [(a1, .int), (a2, .int), (a3, .int), (a7, .int), (a8, .int)] t ∧ va_D (va_A [(h0, .inr (10, [.null, .int 0, .int 0, .int 0, .int 0, .null, .null, .int 0, .int 0, .null]))] sz) [(h0, .inr (10, [.ref q1, .int 0, .int 0, .int (-1), .int 0, .ref q2, .ref q3, .int 0, .int 0, .ref q4])), (q1, .inl (a1, 280, .inl (fun _ => 0))), (q2, .inl (a2, 7, .inl (fun _ => 0))), (q3, .inl (a3, 32, .inl (fun _ => 0))), (q4, .inr (7, [.ref q5, .ref q6, .int 0])), (q5, .inl (a7, 16, .inl (fun _ => 0))), (q6, .inl (a8, 64, .inl (fun _ => 0)))]) (va_A [(h0, .inr (10, [.null, .int 0, .int 0, .int 0, .int 0, .null, .null, .int 0, .int 0, .null]))] sz)) 6 402 (va_A [(h0, .inr (10, [.null, .int 0, .int 0, .int 0, .int 0, .null, .null, .int 0, .int 0, .null]))] sz) := by
  refine va_MetF (cc := cX10_init) (maxL := 1) (ret := none) (by decide +kernel) rfl ?_
  intro p e s m args below meth c s₁ B hml hv
  obtain ⟨rfl, hsz, hP, hK, hD0, hN⟩ := hv
  have hx := B.exec
  have hb := B.bytes
  have hr := B.returns
  have hts : ∀ w ∈ gW, w.before _ s = true := fun w h => atoms_spec (ws := Cond.code yX10_init cX10_init 1 none :: gW) B.pre w (List.mem_cons_of_mem _ h)
  have hown : s.vm.findClass RX10 = some m.cls := findClass_of_methodNamed B.named
  have hlocks := B.notSynchronized
  have hin : meth.name = "<init>" := (name_of_methodNamed B.named B.method).1
  subst hsz
  have hD := hD0.self (sz := s.heap.size)
  generalize hAe : va_A [(h0, .inr (10, [.null, .int 0, .int 0, .int 0, .int 0, .null, .null, .int 0, .int 0, .null]))] s.heap.size = A at hD ⊢
  have hA : ∀ q : Nat, s.heap.size ≤ q → A q := fun q h => by rw [← hAe]; exact Or.inr h
  have hS : va_S A s.heap s.heap [] := va_S.rf
  have hP : va_P (dC, dI) vwCl [(h0, .inr (10, [.null, .int 0, .int 0, .int 0, .int 0, .null, .null, .int 0, .int 0, .null]))] s.heap := hP
  have hl := lv_entry ([.ref h0]) (n := 1) (Nat.le_of_ble_eq_true rfl)
  rw [lg_entry_eq]
  generalize (lg_sl ([.ref h0]) ++ List.replicate (1 - (lg_sl ([.ref h0])).length) Slot.unset).toArray = ls at hl ⊢
  have hl : lv_has ls 1 [(0, .ref h0)] := hl
  refine lv_aload_n hx hb dX10_init_0 rfl (lv_at hl 0 rfl) ?_
  refine W.objInit hx hb hown (hts _ (gW_of (wb1 _ (List.mem_of_getElem? (i := 39) rfl)) rfl)) (hts _ (gW_of (wb1 _ (List.mem_of_getElem? (i := 32) rfl)) rfl)) (hts _ (gW_of (wb1 _ (List.mem_of_getElem? (i := 33) rfl)) rfl)) rfl (by rw [hml]; exact hl.1) rfl dX10_init_1 (Nat.le_of_ble_eq_true rfl) (Nat.le_of_ble_eq_true rfl) ?_
  refine W.eq (g2 := F0 m 4 ls []) rfl ?_
  refine lv_aload_n hx hb dX10_init_4 rfl (lv_at hl 0 rfl) ?_
  refine lv_sipush (v := 280) hx hb dX10_init_5 (by decide) ?_
  refine va_newa (atype := .int) hx hb (hts _ (gW_of (wb1 _ (List.mem_of_getElem? (i := 56) rfl)) rfl)) (ty := .int) rfl hK hP hD hS hA (N' := 280) (a0 := (280, .inl (fun _ => 0))) (fun _ => rfl) (by decide) (by decide) (Nat.le_of_ble_eq_true rfl) (Nat.le_of_ble_eq_true rfl) (Nat.le_of_ble_eq_true rfl) dX10_init_8 (fun q1 a1 H hK hP hD hS => ?_)
  have hP : va_P (dC, dI) vwCl [(h0, .inr (10, [.null, .int 0, .int 0, .int 0, .int 0, .null, .null, .int 0, .int 0, .null])), (q1, .inl (a1, 280, .inl (fun _ => 0)))] H := hP
  have hD : va_D A [(h0, .inr (10, [.null, .int 0, .int 0, .int 0, .int 0, .null, .null, .int 0, .int 0, .null])), (q1, .inl (a1, 280, .inl (fun _ => 0)))] := hD
  have hK : va_K (dC, dI) vwCl [(a1, .int)] s := hK
  refine W.widen (k := 1) (n := 280) (Nat.le_of_ble_eq_true rfl) (Nat.le_of_ble_eq_true rfl) ?_
  refine va_putF (D := (dC, dI)) (ci := 10) (v := .ref q1) (ty := (.array .int)) (C := RX10) (T := TX10) (N := 10) hx hb hts wiX10 tyX10 tyX10_ok nmX10 hown hK hP hD hS 0 rfl rfl 0 (by decide) (hts _ (gW_of (wb1 _ (List.mem_of_getElem? (i := 57) rfl)) rfl)) (fun _ h9 => h9) rfl hin rfl (by decide +kernel) rfl rfl (Nat.le_of_ble_eq_true rfl) dX10_init_10 (fun H locs hP hD hS => ?_)
  have hP : va_P (dC, dI) vwCl [(h0, .inr (10, [.ref q1, .int 0, .int 0, .int 0, .int 0, .null, .null, .int 0, .int 0, .null])), (q1, .inl (a1, 280, .inl (fun _ => 0)))] H := hP
  have hD : va_D A [(h0, .inr (10, [.ref q1, .int 0, .int 0, .int 0, .int 0, .null, .null, .int 0, .int 0, .null])), (q1, .inl (a1, 280, .inl (fun _ => 0)))] := hD
  refine lv_aload_n hx hb dX10_init_13 rfl (lv_at hl 0 rfl) ?_
  refine lv_iconst (v := 0) hx hb dX10_init_14 (by decide) ?_
  refine va_put (D := (dC, dI)) (ci := 10) (v := .int 0) (ty := .int) (C := RX10) (T := TX10) (N := 10) hx hb hts wiX10 tyX10 tyX10_ok nmX10 hown hK hP hD hS 0 rfl rfl 1 (by decide) (hts _ (gW_of (wb1 _ (List.mem_of_getElem? (i := 58) rfl)) rfl)) (fun _ h9 => h9) rfl (by decide +kernel) (by decide) (by decide) (Nat.le_of_ble_eq_true rfl) dX10_init_15 (fun H locs hP hD hS => ?_)
  have hP : va_P (dC, dI) vwCl [(h0, .inr (10, [.ref q1, .int 0, .int 0, .int 0, .int 0, .null, .null, .int 0, .int 0, .null])), (q1, .inl (a1, 280, .inl (fun _ => 0)))] H := hP
  have hD : va_D A [(h0, .inr (10, [.ref q1, .int 0, .int 0, .int 0, .int 0, .null, .null, .int 0, .int 0, .null])), (q1, .inl (a1, 280, .inl (fun _ => 0)))] := hD
  refine lv_aload_n hx hb dX10_init_18 rfl (lv_at hl 0 rfl) ?_
  refine lv_iconst (v := 0) hx hb dX10_init_19 (by decide) ?_
  refine va_put (D := (dC, dI)) (ci := 10) (v := .int 0) (ty := .int) (C := RX10) (T := TX10) (N := 10) hx hb hts wiX10 tyX10 tyX10_ok nmX10 hown hK hP hD hS 0 rfl rfl 2 (by decide) (hts _ (gW_of (wb1 _ (List.mem_of_getElem? (i := 59) rfl)) rfl)) (fun _ h9 => h9) rfl (by decide +kernel) (by decide) (by decide) (Nat.le_of_ble_eq_true rfl) dX10_init_20 (fun H locs hP hD hS => ?_)
  have hP : va_P (dC, dI) vwCl [(h0, .inr (10, [.ref q1, .int 0, .int 0, .int 0, .int 0, .null, .null, .int 0, .int 0, .null])), (q1, .inl (a1, 280, .inl (fun _ => 0)))] H := hP
  have hD : va_D A [(h0, .inr (10, [.ref q1, .int 0, .int 0, .int 0, .int 0, .null, .null, .int 0, .int 0, .null])), (q1, .inl (a1, 280, .inl (fun _ => 0)))] := hD
  refine lv_aload_n hx hb dX10_init_23 rfl (lv_at hl 0 rfl) ?_
  refine lv_iconst (v := (-1)) hx hb dX10_init_24 (by decide) ?_
  refine va_put (D := (dC, dI)) (ci := 10) (v := .int (-1)) (ty := .int) (C := RX10) (T := TX10) (N := 10) hx hb hts wiX10 tyX10 tyX10_ok nmX10 hown hK hP hD hS 0 rfl rfl 3 (by decide) (hts _ (gW_of (wb1 _ (List.mem_of_getElem? (i := 60) rfl)) rfl)) (fun _ h9 => h9) rfl (by decide +kernel) (by decide) (by decide) (Nat.le_of_ble_eq_true rfl) dX10_init_25 (fun H locs hP hD hS => ?_)
  have hP : va_P (dC, dI) vwCl [(h0, .inr (10, [.ref q1, .int 0, .int 0, .int (-1), .int 0, .null, .null, .int 0, .int 0, .null])), (q1, .inl (a1, 280, .inl (fun _ => 0)))] H := hP
  have hD : va_D A [(h0, .inr (10, [.ref q1, .int 0, .int 0, .int (-1), .int 0, .null, .null, .int 0, .int 0, .null])), (q1, .inl (a1, 280, .inl (fun _ => 0)))] := hD
  refine lv_aload_n hx hb dX10_init_28 rfl (lv_at hl 0 rfl) ?_
  refine lv_iconst (v := 0) hx hb dX10_init_29 (by decide) ?_
  refine va_put (D := (dC, dI)) (ci := 10) (v := .int 0) (ty := .int) (C := RX10) (T := TX10) (N := 10) hx hb hts wiX10 tyX10 tyX10_ok nmX10 hown hK hP hD hS 0 rfl rfl 4 (by decide) (hts _ (gW_of (wb1 _ (List.mem_of_getElem? (i := 61) rfl)) rfl)) (fun _ h9 => h9) rfl (by decide +kernel) (by decide) (by decide) (Nat.le_of_ble_eq_true rfl) dX10_init_30 (fun H locs hP hD hS => ?_)
  have hP : va_P (dC, dI) vwCl [(h0, .inr (10, [.ref q1, .int 0, .int 0, .int (-1), .int 0, .null, .null, .int 0, .int 0, .null])), (q1, .inl (a1, 280, .inl (fun _ => 0)))] H := hP
  have hD : va_D A [(h0, .inr (10, [.ref q1, .int 0, .int 0, .int (-1), .int 0, .null, .null, .int 0, .int 0, .null])), (q1, .inl (a1, 280, .inl (fun _ => 0)))] := hD
  refine lv_aload_n hx hb dX10_init_33 rfl (lv_at hl 0 rfl) ?_
  refine lv_bipush (v := 7) hx hb dX10_init_34 (by decide) ?_
  refine va_newa (atype := .int) hx hb (hts _ (gW_of (wb1 _ (List.mem_of_getElem? (i := 56) rfl)) rfl)) (ty := .int) rfl hK hP hD hS hA (N' := 7) (a0 := (7, .inl (fun _ => 0))) (fun _ => rfl) (by decide) (by decide) (Nat.le_of_ble_eq_true rfl) (Nat.le_of_ble_eq_true rfl) (Nat.le_of_ble_eq_true rfl) dX10_init_36 (fun q2 a2 H hK hP hD hS => ?_)
  have hP : va_P (dC, dI) vwCl [(h0, .inr (10, [.ref q1, .int 0, .int 0, .int (-1), .int 0, .null, .null, .int 0, .int 0, .null])), (q1, .inl (a1, 280, .inl (fun _ => 0))), (q2, .inl (a2, 7, .inl (fun _ => 0)))] H := hP
  have hD : va_D A [(h0, .inr (10, [.ref q1, .int 0, .int 0, .int (-1), .int 0, .null, .null, .int 0, .int 0, .null])), (q1, .inl (a1, 280, .inl (fun _ => 0))), (q2, .inl (a2, 7, .inl (fun _ => 0)))] := hD
  have hK : va_K (dC, dI) vwCl [(a1, .int), (a2, .int)] s := hK
  refine W.widen (k := 2) (n := 287) (Nat.le_of_ble_eq_true rfl) (Nat.le_of_ble_eq_true rfl) ?_
  refine va_putF (D := (dC, dI)) (ci := 10) (v := .ref q2) (ty := (.array .int)) (C := RX10) (T := TX10) (N := 10) hx hb hts wiX10 tyX10 tyX10_ok nmX10 hown hK hP hD hS 0 rfl rfl 5 (by decide) (hts _ (gW_of (wb1 _ (List.mem_of_getElem? (i := 62) rfl)) rfl)) (fun _ h9 => h9) rfl hin rfl (by decide +kernel) rfl rfl (Nat.le_of_ble_eq_true rfl) dX10_init_38 (fun H locs hP hD hS => ?_)
  have hP : va_P (dC, dI) vwCl [(h0, .inr (10, [.ref q1, .int 0, .int 0, .int (-1), .int 0, .ref q2, .null, .int 0, .int 0, .null])), (q1, .inl (a1, 280, .inl (fun _ => 0))), (q2, .inl (a2, 7, .inl (fun _ => 0)))] H := hP
  have hD : va_D A [(h0, .inr (10, [.ref q1, .int 0, .int 0, .int (-1), .int 0, .ref q2, .null, .int 0, .int 0, .null])), (q1, .inl (a1, 280, .inl (fun _ => 0))), (q2, .inl (a2, 7, .inl (fun _ => 0)))] := hD
  refine lv_aload_n hx hb dX10_init_41 rfl (lv_at hl 0 rfl) ?_
  refine lv_bipush (v := 32) hx hb dX10_init_42 (by decide) ?_
  refine va_newa (atype := .int) hx hb (hts _ (gW_of (wb1 _ (List.mem_of_getElem? (i := 56) rfl)) rfl)) (ty := .int) rfl hK hP hD hS hA (N' := 32) (a0 := (32, .inl (fun _ => 0))) (fun _ => rfl) (by decide) (by decide) (Nat.le_of_ble_eq_true rfl) (Nat.le_of_ble_eq_true rfl) (Nat.le_of_ble_eq_true rfl) dX10_init_44 (fun q3 a3 H hK hP hD hS => ?_)
  have hP : va_P (dC, dI) vwCl [(h0, .inr (10, [.ref q1, .int 0, .int 0, .int (-1), .int 0, .ref q2, .null, .int 0, .int 0, .null])), (q1, .inl (a1, 280, .inl (fun _ => 0))), (q2, .inl (a2, 7, .inl (fun _ => 0))), (q3, .inl (a3, 32, .inl (fun _ => 0)))] H := hP
  have hD : va_D A [(h0, .inr (10, [.ref q1, .int 0, .int 0, .int (-1), .int 0, .ref q2, .null, .int 0, .int 0, .null])), (q1, .inl (a1, 280, .inl (fun _ => 0))), (q2, .inl (a2, 7, .inl (fun _ => 0))), (q3, .inl (a3, 32, .inl (fun _ => 0)))] := hD
  have hK : va_K (dC, dI) vwCl [(a1, .int), (a2, .int), (a3, .int)] s := hK
  refine W.widen (k := 3) (n := 319) (Nat.le_of_ble_eq_true rfl) (Nat.le_of_ble_eq_true rfl) ?_
  refine va_putF (D := (dC, dI)) (ci := 10) (v := .ref q3) (ty := (.array .int)) (C := RX10) (T := TX10) (N := 10) hx hb hts wiX10 tyX10 tyX10_ok nmX10 hown hK hP hD hS 0 rfl rfl 6 (by decide) (hts _ (gW_of (wb1 _ (List.mem_of_getElem? (i := 63) rfl)) rfl)) (fun _ h9 => h9) rfl hin rfl (by decide +kernel) rfl rfl (Nat.le_of_ble_eq_true rfl) dX10_init_46 (fun H locs hP hD hS => ?_)
  have hP : va_P (dC, dI) vwCl [(h0, .inr (10, [.ref q1, .int 0, .int 0, .int (-1), .int 0, .ref q2, .ref q3, .int 0, .int 0, .null])), (q1, .inl (a1, 280, .inl (fun _ => 0))), (q2, .inl (a2, 7, .inl (fun _ => 0))), (q3, .inl (a3, 32, .inl (fun _ => 0)))] H := hP
  have hD : va_D A [(h0, .inr (10, [.ref q1, .int 0, .int 0, .int (-1), .int 0, .ref q2, .ref q3, .int 0, .int 0, .null])), (q1, .inl (a1, 280, .inl (fun _ => 0))), (q2, .inl (a2, 7, .inl (fun _ => 0))), (q3, .inl (a3, 32, .inl (fun _ => 0)))] := hD
  refine lv_aload_n hx hb dX10_init_49 rfl (lv_at hl 0 rfl) ?_
  refine lv_iconst (v := 0) hx hb dX10_init_50 (by decide) ?_
  refine va_put (D := (dC, dI)) (ci := 10) (v := .int 0) (ty := .int) (C := RX10) (T := TX10) (N := 10) hx hb hts wiX10 tyX10 tyX10_ok nmX10 hown hK hP hD hS 0 rfl rfl 7 (by decide) (hts _ (gW_of (wb1 _ (List.mem_of_getElem? (i := 64) rfl)) rfl)) (fun _ h9 => h9) rfl (by decide +kernel) (by decide) (by decide) (Nat.le_of_ble_eq_true rfl) dX10_init_51 (fun H locs hP hD hS => ?_)
  have hP : va_P (dC, dI) vwCl [(h0, .inr (10, [.ref q1, .int 0, .int 0, .int (-1), .int 0, .ref q2, .ref q3, .int 0, .int 0, .null])), (q1, .inl (a1, 280, .inl (fun _ => 0))), (q2, .inl (a2, 7, .inl (fun _ => 0))), (q3, .inl (a3, 32, .inl (fun _ => 0)))] H := hP
  have hD : va_D A [(h0, .inr (10, [.ref q1, .int 0, .int 0, .int (-1), .int 0, .ref q2, .ref q3, .int 0, .int 0, .null])), (q1, .inl (a1, 280, .inl (fun _ => 0))), (q2, .inl (a2, 7, .inl (fun _ => 0))), (q3, .inl (a3, 32, .inl (fun _ => 0)))] := hD
  refine lv_aload_n hx hb dX10_init_54 rfl (lv_at hl 0 rfl) ?_
  refine lv_iconst (v := 0) hx hb dX10_init_55 (by decide) ?_
  refine va_put (D := (dC, dI)) (ci := 10) (v := .int 0) (ty := .boolean) (C := RX10) (T := TX10) (N := 10) hx hb hts wiX10 tyX10 tyX10_ok nmX10 hown hK hP hD hS 0 rfl rfl 8 (by decide) (hts _ (gW_of (wb1 _ (List.mem_of_getElem? (i := 65) rfl)) rfl)) (fun _ h9 => h9) rfl (by decide +kernel) (by decide) (by decide) (Nat.le_of_ble_eq_true rfl) dX10_init_56 (fun H locs hP hD hS => ?_)
  have hP : va_P (dC, dI) vwCl [(h0, .inr (10, [.ref q1, .int 0, .int 0, .int (-1), .int 0, .ref q2, .ref q3, .int 0, .int 0, .null])), (q1, .inl (a1, 280, .inl (fun _ => 0))), (q2, .inl (a2, 7, .inl (fun _ => 0))), (q3, .inl (a3, 32, .inl (fun _ => 0)))] H := hP
  have hD : va_D A [(h0, .inr (10, [.ref q1, .int 0, .int 0, .int (-1), .int 0, .ref q2, .ref q3, .int 0, .int 0, .null])), (q1, .inl (a1, 280, .inl (fun _ => 0))), (q2, .inl (a2, 7, .inl (fun _ => 0))), (q3, .inl (a3, 32, .inl (fun _ => 0)))] := hD
  refine lv_aload_n hx hb dX10_init_59 rfl (lv_at hl 0 rfl) ?_
  refine va_new (ci := 7) (fs := [.null, .null, .int 0]) (C := RX7) (T := TX7) (N := 3) hx hb hts wiX7 tyX7 tyX7_ok hown (hts _ (gW_of (wb1 _ (List.mem_of_getElem? (i := 40) rfl)) rfl)) (hts _ (gW_of (wb1 _ (List.mem_of_getElem? (i := 41) rfl)) rfl)) (hts _ (gW_of (wb1 _ (List.mem_of_getElem? (i := 3) rfl)) rfl)) hK hP hD hS hA rfl (fun j hj => by match j, hj with | 0, _ => rfl | 1, _ => rfl | 2, _ => rfl | _ + 3, hj => omega) (Nat.le_of_ble_eq_true rfl) (Nat.le_of_ble_eq_true rfl) dX10_init_60 (fun q4 H hP hD hS => ?_)
  have hP : va_P (dC, dI) vwCl [(h0, .inr (10, [.ref q1, .int 0, .int 0, .int (-1), .int 0, .ref q2, .ref q3, .int 0, .int 0, .null])), (q1, .inl (a1, 280, .inl (fun _ => 0))), (q2, .inl (a2, 7, .inl (fun _ => 0))), (q3, .inl (a3, 32, .inl (fun _ => 0))), (q4, .inr (7, [.null, .null, .int 0]))] H := hP
  have hD : va_D A [(h0, .inr (10, [.ref q1, .int 0, .int 0, .int (-1), .int 0, .ref q2, .ref q3, .int 0, .int 0, .null])), (q1, .inl (a1, 280, .inl (fun _ => 0))), (q2, .inl (a2, 7, .inl (fun _ => 0))), (q3, .inl (a3, 32, .inl (fun _ => 0))), (q4, .inr (7, [.null, .null, .int 0]))] := hD
  refine W.widen (k := 4) (n := 322) (Nat.le_of_ble_eq_true rfl) (Nat.le_of_ble_eq_true rfl) ?_
  refine lv_dup hx hb dX10_init_63 rfl ?_
  have hPc := hP.sub (ws' := [(q4, .inr (7, [.null, .null, .int 0]))]) [4] rfl
  have hDc := hD.sub (ws' := [(q4, .inr (7, [.null, .null, .int 0]))]) [4] (by decide) rfl
  have hKc := hK.sub (tys' := []) [] rfl
  have hFc := va_free (wc := [(q4, .inr (7, [.null, .null, .int 0]))]) hD hS hA [4] rfl
  refine va_callv (va_runIN (As := []) (rest := [.ref q4, .ref h0]) ⟨hx, hb, hml, hown, hts⟩ (iX7 l dC dI H.size q4) ⟨va_cnB 0 hts (gW_good (gW_of (wb1 _ (List.mem_of_getElem? (i := 44) rfl)) rfl)) rfl rfl rfl (hN.1 _ (List.mem_of_getElem? (i := 9) rfl)) (hts _ (gW_of (wb1 _ (List.mem_of_getElem? (i := 3) rfl)) rfl)) ⟨by decide, by decide, rfl⟩ ⟨Nat.le_of_ble_eq_true rfl, Nat.le_of_ble_eq_true rfl⟩, rfl, hts _ (gW_of (wb1 _ (List.mem_of_getElem? (i := 43) rfl)) rfl)⟩ ⟨fun a U g mk q => by obtain ⟨q0, q1, qP, qK, qD, qN⟩ := q; exact ⟨q0, q1, qP, va_K.moved (u := U) (U := U.calling g mk a) (Vm.Alike.refl U.vm) qK, qD, g_nw_warm (u := U) (U := U.calling g mk a) (State.WarmedH.refl U) qN⟩, fun U hU hW => ⟨rfl, by rw [hU], by rw [hU]; exact hPc, va_K.moved hW.alike hKc, hDc.weaken (fun _ _ _ _ => trivial), g_nw_warm hW hN⟩⟩ rfl rfl hl.1 rfl (lv_room (Nat.le_of_ble_eq_true rfl)) dX10_init_64 ⟨Nat.le_of_ble_eq_true rfl, Nat.le_of_ble_eq_true rfl⟩) hS (fun q _ h => hFc q h) hFc (fun u t H1 locs ht hvm hw hB hz1 hk1 hS => ?_)
  obtain ⟨q5, q6, a7, a8, hP1, hK1, hD1⟩ := hB
  rw [ht] at hP1
  have hK1 := va_K.moved hvm.symm hK1
  obtain ⟨hP, hD⟩ := va_join (wr := [(h0, .inr (10, [.ref q1, .int 0, .int 0, .int (-1), .int 0, .ref q2, .ref q3, .int 0, .int 0, .null])), (q1, .inl (a1, 280, .inl (fun _ => 0))), (q2, .inl (a2, 7, .inl (fun _ => 0))), (q3, .inl (a3, 32, .inl (fun _ => 0)))]) (w1 := [(q4, .inr (7, [.ref q5, .ref q6, .int 0])), (q5, .inl (a7, 16, .inl (fun _ => 0))), (q6, .inl (a8, 64, .inl (fun _ => 0)))]) hP hD [4] [0, 1, 2, 3] rfl rfl (by decide) (by decide) hk1 hFc hP1 hD1
  have hK := hK.app hK1
  generalize H1 = H at hP hS ⊢
  have hP : va_P (dC, dI) vwCl [(h0, .inr (10, [.ref q1, .int 0, .int 0, .int (-1), .int 0, .ref q2, .ref q3, .int 0, .int 0, .null])), (q1, .inl (a1, 280, .inl (fun _ => 0))), (q2, .inl (a2, 7, .inl (fun _ => 0))), (q3, .inl (a3, 32, .inl (fun _ => 0))), (q4, .inr (7, [.ref q5, .ref q6, .int 0])), (q5, .inl (a7, 16, .inl (fun _ => 0))), (q6, .inl (a8, 64, .inl (fun _ => 0)))] H := hP
  have hD : va_D A [(h0, .inr (10, [.ref q1, .int 0, .int 0, .int (-1), .int 0, .ref q2, .ref q3, .int 0, .int 0, .null])), (q1, .inl (a1, 280, .inl (fun _ => 0))), (q2, .inl (a2, 7, .inl (fun _ => 0))), (q3, .inl (a3, 32, .inl (fun _ => 0))), (q4, .inr (7, [.ref q5, .ref q6, .int 0])), (q5, .inl (a7, 16, .inl (fun _ => 0))), (q6, .inl (a8, 64, .inl (fun _ => 0)))] := hD
  have hK : va_K (dC, dI) vwCl [(a1, .int), (a2, .int), (a3, .int), (a7, .int), (a8, .int)] s := hK
  refine W.widen (k := 6) (n := 402) (Nat.le_of_ble_eq_true rfl) (Nat.le_of_ble_eq_true rfl) ?_
  refine va_putF (D := (dC, dI)) (ci := 10) (v := .ref q4) (ty := (.object "StripeShelf$Script")) (C := RX10) (T := TX10) (N := 10) hx hb hts wiX10 tyX10 tyX10_ok nmX10 hown hK hP hD hS 0 rfl rfl 9 (by decide) (hts _ (gW_of (wb1 _ (List.mem_of_getElem? (i := 66) rfl)) rfl)) (fun _ h9 => h9) rfl hin rfl (by decide +kernel) rfl rfl (Nat.le_of_ble_eq_true rfl) dX10_init_67 (fun H locs hP hD hS => ?_)
  have hP : va_P (dC, dI) vwCl [(h0, .inr (10, [.ref q1, .int 0, .int 0, .int (-1), .int 0, .ref q2, .ref q3, .int 0, .int 0, .ref q4])), (q1, .inl (a1, 280, .inl (fun _ => 0))), (q2, .inl (a2, 7, .inl (fun _ => 0))), (q3, .inl (a3, 32, .inl (fun _ => 0))), (q4, .inr (7, [.ref q5, .ref q6, .int 0])), (q5, .inl (a7, 16, .inl (fun _ => 0))), (q6, .inl (a8, 64, .inl (fun _ => 0)))] H := hP
  have hD : va_D A [(h0, .inr (10, [.ref q1, .int 0, .int 0, .int (-1), .int 0, .ref q2, .ref q3, .int 0, .int 0, .ref q4])), (q1, .inl (a1, 280, .inl (fun _ => 0))), (q2, .inl (a2, 7, .inl (fun _ => 0))), (q3, .inl (a3, 32, .inl (fun _ => 0))), (q4, .inr (7, [.ref q5, .ref q6, .int 0])), (q5, .inl (a7, 16, .inl (fun _ => 0))), (q6, .inl (a8, 64, .inl (fun _ => 0)))] := hD
  exact W.vret hx hb hr (fun t ht hW => ⟨⟨(), rfl, trivial, q1, q2, q3, q4, q5, q6, a1, a2, a3, a7, a8,  by rw [ht]; exact hP, va_K.moved hW.alike hK, hD⟩, hS.F ht⟩) hS.2.2 dX10_init_70
