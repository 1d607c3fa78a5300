/-! the JDK's texts: rows, what is known of them, and the walks of String's members -/
section GS
variable {l : Launch} {dC : Nat → ClassId} {dI : Nat → Nat → Nat} {ad : Nat → Nat} {ca : Nat → ClassId} {sh : List gE} {X : (Nat → Prop) → State → Heap → Prop} {cc : ByteArray} {nL : Nat} {own : String} {ret : Option FieldType} {R : Room} {r : Option Value} {σ σ' : gM} {pc : Nat} {lv : List (Nat × Value)} {st : List Value}
theorem g_getO {idx q : Nat} {o n d : String} {v : Value} (hz : ∀ A U H, X A U H → va_OF o n d (g_v ad v) (ad q) A U H) (hw : Cond.fieldLink own idx o n d ∈ gW) (hd : decode cc pc = .ok (.getfield idx, 3)) (k : g_G l dC dI ad ca sh X cc nL own ret R r σ' (pc + 3) lv (v :: st) σ) : g_G l dC dI ad ca sh X cc nL own ret R r σ' pc lv (.ref q :: st) σ := by
  intro p e s m args below meth c H locs ls hc hK hX hP hD hS hl
  exact vk_getf hc.1 hc.2.1 (hz _ _ _ hX) hS hc.2.2.2.1 (hc.2.2.2.2.1 _ hw) (fun _ h9 => h9) hd (k p e s m args below meth c H locs ls hc hK hX hP hD hS hl)
theorem g_getZ {idx : Nat} {C n d : String} {v : Value} (hz : ∀ A U H, X A U H → va_Z C n d (g_v ad v) A U H) (hw : Cond.fieldLink own idx C n d ∈ gW) (hd : decode cc pc = .ok (.getstatic idx, 3)) (k : g_G l dC dI ad ca sh X cc nL own ret R r σ' (pc + 3) lv (v :: st) σ) : g_G l dC dI ad ca sh X cc nL own ret R r σ' pc lv st σ := by
  intro p e s m args below meth c H locs ls hc hK hX hP hD hS hl
  exact va_gets hc.1 hc.2.1 (hz _ _ _ hX) hS hc.2.2.2.1 (hc.2.2.2.2.1 _ hw) (fun _ h9 => h9) hd (k p e s m args below meth c H locs ls hc hK hX hP hD hS hl)
theorem g_tb {q N : Nat} {f : Nat → Int32} {i : Int32} (ht : ∀ A U H, X A U H → va_T .byte (ad q) N (fun j => .int (f j)) A U H) (hi : ¬ (i < 0 ∨ N ≤ i.toNatClampNeg)) {j : Nat} (hj : i.toNatClampNeg = j) (hd : decode cc pc = .ok (.baload, 1)) (k : g_G l dC dI ad ca sh X cc nL own ret R r σ' (pc + 1) lv (.int (f j) :: st) σ) : g_G l dC dI ad ca sh X cc nL own ret R r σ' pc lv (.int i :: .ref q :: st) σ := by
  subst hj
  intro p e s m args below meth c H locs ls hc hK hX hP hD hS hl
  exact va_tb hc.1 hc.2.1 (ht _ _ _ hX) hS hi rfl hd (k p e s m args below meth c H locs ls hc hK hX hP hD hS hl)
theorem g_tlenB {q N : Nat} {ty : FieldType} {f : Nat → Value} (ht : ∀ A U H, X A U H → va_T ty (ad q) N f A U H) (hd : decode cc pc = .ok (.arraylength, 1)) (k : g_G l dC dI ad ca sh X cc nL own ret R r σ' (pc + 1) lv (.int (Int32.ofNat N) :: st) σ) : g_G l dC dI ad ca sh X cc nL own ret R r σ' pc lv (.ref q :: st) σ := by
  intro p e s m args below meth c H locs ls hc hK hX hP hD hS hl
  exact va_tlen hc.1 hc.2.1 (ht _ _ _ hX) hS rfl hd (k p e s m args below meth c H locs ls hc hK hX hP hD hS hl)
end GS
theorem g_nc {x : Int32} (h : (x.toUInt32 % 65536).toInt32 = x) : narrow .char (.int x) = .int x := by
  have e := pk_nc x
  rw [h] at e
  exact e
/-- texts T at b1 + s, their bytes at b2 + s; the formatter is null or some object -/
def gES (ad : Nat → Nat) (X : (Nat → Prop) → State → Heap → Prop) (b1 b2 : Nat) (T : List (Nat × String × List Int32)) (fmt : Value) : Prop :=
  g_X X ∧ (∀ A U H, X A U H → ∀ (k : Nat) (q : Nat × String × List Int32), T[k]? = some q → va_OF "java/lang/String" "coder" "B" (.int 0) (ad (b1 + k)) A U H ∧ va_OF "java/lang/String" "value" "[B" (.ref (ad (b2 + k))) (ad (b1 + k)) A U H ∧ va_T .byte (ad (b2 + k)) q.2.2.length (fun j => .int (q.2.2.getD j 0)) A U H ∧ ∃ cell : Cell, H[ad (b1 + k)]? = some cell ∧ cell.vm.isStatics = false ∧ U.vm.findClass RJ0 = some cell.cls) ∧
  (∀ A U H, X A U H → va_Z "java/lang/String" "COMPACT_STRINGS" "Z" (.int 1) A U H) ∧ (∀ A U H, X A U H → va_Z "jdk/internal/util/Preconditions" "SIOOBE_FORMATTER" "Ljava/util/function/BiFunction;" (g_v ad fmt) A U H) ∧ (fmt = .null ∨ ∃ k, fmt = .ref k)
section GSE
variable {ad : Nat → Nat} {X : (Nat → Prop) → State → Heap → Prop} {b1 b2 : Nat} {T : List (Nat × String × List Int32)} {fmt : Value} {s : Nat} {tx : List Int32}
theorem sOc (hE : gES ad X b1 b2 T fmt) (hs : ∃ a b, T[s]? = some (a, b, tx)) : ∀ A U H, X A U H → va_OF "java/lang/String" "coder" "B" (g_v ad (.int 0)) (ad (b1 + s)) A U H := fun A U H hX => by obtain ⟨a, b, h⟩ := hs; exact (hE.2.1 A U H hX s _ h).1
theorem sOv (hE : gES ad X b1 b2 T fmt) (hs : ∃ a b, T[s]? = some (a, b, tx)) : ∀ A U H, X A U H → va_OF "java/lang/String" "value" "[B" (g_v ad (.ref (b2 + s))) (ad (b1 + s)) A U H := fun A U H hX => by obtain ⟨a, b, h⟩ := hs; exact (hE.2.1 A U H hX s _ h).2.1
theorem sT (hE : gES ad X b1 b2 T fmt) (hs : ∃ a b, T[s]? = some (a, b, tx)) : ∀ A U H, X A U H → va_T .byte (ad (b2 + s)) tx.length (fun j => .int (tx.getD j 0)) A U H := fun A U H hX => by obtain ⟨a, b, h⟩ := hs; exact (hE.2.1 A U H hX s _ h).2.2.1
theorem sRc (hE : gES ad X b1 b2 T fmt) (hs : ∃ a b, T[s]? = some (a, b, tx)) : ∀ A U H, X A U H → ∃ cell : Cell, H[ad (b1 + s)]? = some cell ∧ cell.vm.isStatics = false ∧ U.vm.findClass RJ0 = some cell.cls := fun A U H hX => by obtain ⟨a, b, h⟩ := hs; exact (hE.2.1 A U H hX s _ h).2.2.2
theorem sZc (hE : gES ad X b1 b2 T fmt) : ∀ A U H, X A U H → va_Z "java/lang/String" "COMPACT_STRINGS" "Z" (g_v ad (.int 1)) A U H := hE.2.2.1
theorem sZf (hE : gES ad X b1 b2 T fmt) : ∀ A U H, X A U H → va_Z "jdk/internal/util/Preconditions" "SIOOBE_FORMATTER" "Ljava/util/function/BiFunction;" (g_v ad fmt) A U H := hE.2.2.2.1
end GSE

theorem wgJ0_15 : Cond.fieldLink RJ0 15 "java/lang/String" "coder" "B" ∈ gW := gW_of (wb9 _ (List.mem_of_getElem? (i := 59) rfl)) rfl
theorem wgJ0_9 : Cond.fieldLink RJ0 9 "java/lang/String" "value" "[B" ∈ gW := gW_of (wb9 _ (List.mem_of_getElem? (i := 60) rfl)) rfl
theorem dJ0_isLatin1_aae02_0 : decode cJ0_isLatin1_aae02 0 = .ok (.getstatic 38, 3) := by decide +kernel
theorem dJ0_isLatin1_aae02_3 : decode cJ0_isLatin1_aae02 3 = .ok (.ifCond .eq 14, 3) := by decide +kernel
theorem dJ0_isLatin1_aae02_6 : decode cJ0_isLatin1_aae02 6 = .ok (.aload_n 0, 1) := by decide +kernel
theorem dJ0_isLatin1_aae02_7 : decode cJ0_isLatin1_aae02 7 = .ok (.getfield 15, 3) := by decide +kernel
theorem dJ0_isLatin1_aae02_10 : decode cJ0_isLatin1_aae02 10 = .ok (.ifCond .ne 7, 3) := by decide +kernel
theorem dJ0_isLatin1_aae02_13 : decode cJ0_isLatin1_aae02 13 = .ok (.iconst 1, 1) := by decide +kernel
theorem dJ0_isLatin1_aae02_14 : decode cJ0_isLatin1_aae02 14 = .ok (.goto 4, 3) := by decide +kernel
theorem dJ0_isLatin1_aae02_17 : decode cJ0_isLatin1_aae02 17 = .ok (.iconst 0, 1) := by decide +kernel
theorem dJ0_isLatin1_aae02_18 : decode cJ0_isLatin1_aae02 18 = .ok (.ireturn, 1) := by decide +kernel
theorem dJ0_coder_7d493_0 : decode cJ0_coder_7d493 0 = .ok (.getstatic 38, 3) := by decide +kernel
theorem dJ0_coder_7d493_3 : decode cJ0_coder_7d493 3 = .ok (.ifCond .eq 10, 3) := by decide +kernel
theorem dJ0_coder_7d493_6 : decode cJ0_coder_7d493 6 = .ok (.aload_n 0, 1) := by decide +kernel
theorem dJ0_coder_7d493_7 : decode cJ0_coder_7d493 7 = .ok (.getfield 15, 3) := by decide +kernel
theorem dJ0_coder_7d493_10 : decode cJ0_coder_7d493 10 = .ok (.goto 4, 3) := by decide +kernel
theorem dJ0_coder_7d493_13 : decode cJ0_coder_7d493 13 = .ok (.iconst 1, 1) := by decide +kernel
theorem dJ0_coder_7d493_14 : decode cJ0_coder_7d493 14 = .ok (.ireturn, 1) := by decide +kernel
theorem dJ0_length_8abf5_0 : decode cJ0_length_8abf5 0 = .ok (.aload_n 0, 1) := by decide +kernel
theorem dJ0_length_8abf5_1 : decode cJ0_length_8abf5 1 = .ok (.getfield 9, 3) := by decide +kernel
theorem dJ0_length_8abf5_4 : decode cJ0_length_8abf5 4 = .ok (.arraylength, 1) := by decide +kernel
theorem dJ0_length_8abf5_5 : decode cJ0_length_8abf5 5 = .ok (.aload_n 0, 1) := by decide +kernel
theorem dJ0_length_8abf5_6 : decode cJ0_length_8abf5 6 = .ok (.invokevirtual 335, 3) := by decide +kernel
theorem dJ0_length_8abf5_9 : decode cJ0_length_8abf5 9 = .ok (.ishr, 1) := by decide +kernel
theorem dJ0_length_8abf5_10 : decode cJ0_length_8abf5 10 = .ok (.ireturn, 1) := by decide +kernel
theorem dJ3_checkIndex_8e157_0 : decode cJ3_checkIndex_8e157 0 = .ok (.iload_n 0, 1) := by decide +kernel
theorem dJ3_checkIndex_8e157_1 : decode cJ3_checkIndex_8e157 1 = .ok (.ifCond .lt 8, 3) := by decide +kernel
theorem dJ3_checkIndex_8e157_4 : decode cJ3_checkIndex_8e157 4 = .ok (.iload_n 0, 1) := by decide +kernel
theorem dJ3_checkIndex_8e157_5 : decode cJ3_checkIndex_8e157 5 = .ok (.iload_n 1, 1) := by decide +kernel
theorem dJ3_checkIndex_8e157_6 : decode cJ3_checkIndex_8e157 6 = .ok (.if_icmp .lt 10, 3) := by decide +kernel
theorem dJ3_checkIndex_8e157_9 : decode cJ3_checkIndex_8e157 9 = .ok (.aload_n 2, 1) := by decide +kernel
theorem dJ3_checkIndex_8e157_10 : decode cJ3_checkIndex_8e157 10 = .ok (.iload_n 0, 1) := by decide +kernel
theorem dJ3_checkIndex_8e157_11 : decode cJ3_checkIndex_8e157 11 = .ok (.iload_n 1, 1) := by decide +kernel
theorem dJ3_checkIndex_8e157_12 : decode cJ3_checkIndex_8e157 12 = .ok (.invokestatic 95, 3) := by decide +kernel
theorem dJ3_checkIndex_8e157_15 : decode cJ3_checkIndex_8e157 15 = .ok (.athrow, 1) := by decide +kernel
theorem dJ3_checkIndex_8e157_16 : decode cJ3_checkIndex_8e157 16 = .ok (.iload_n 0, 1) := by decide +kernel
theorem dJ3_checkIndex_8e157_17 : decode cJ3_checkIndex_8e157 17 = .ok (.ireturn, 1) := by decide +kernel
theorem dJ0_checkIndex_df160_0 : decode cJ0_checkIndex_df160 0 = .ok (.iload_n 0, 1) := by decide +kernel
theorem dJ0_checkIndex_df160_1 : decode cJ0_checkIndex_df160 1 = .ok (.iload_n 1, 1) := by decide +kernel
theorem dJ0_checkIndex_df160_2 : decode cJ0_checkIndex_df160 2 = .ok (.getstatic 1053, 3) := by decide +kernel
theorem dJ0_checkIndex_df160_5 : decode cJ0_checkIndex_df160 5 = .ok (.invokestatic 1059, 3) := by decide +kernel
theorem dJ0_checkIndex_df160_8 : decode cJ0_checkIndex_df160 8 = .ok (.pop, 1) := by decide +kernel
theorem dJ0_checkIndex_df160_9 : decode cJ0_checkIndex_df160 9 = .ok (.return_, 1) := by decide +kernel
theorem dJ1_charAt_3b067_0 : decode cJ1_charAt_3b067 0 = .ok (.iload_n 1, 1) := by decide +kernel
theorem dJ1_charAt_3b067_1 : decode cJ1_charAt_3b067 1 = .ok (.aload_n 0, 1) := by decide +kernel
theorem dJ1_charAt_3b067_2 : decode cJ1_charAt_3b067 2 = .ok (.arraylength, 1) := by decide +kernel
theorem dJ1_charAt_3b067_3 : decode cJ1_charAt_3b067 3 = .ok (.invokestatic 9, 3) := by decide +kernel
theorem dJ1_charAt_3b067_6 : decode cJ1_charAt_3b067 6 = .ok (.aload_n 0, 1) := by decide +kernel
theorem dJ1_charAt_3b067_7 : decode cJ1_charAt_3b067 7 = .ok (.iload_n 1, 1) := by decide +kernel
theorem dJ1_charAt_3b067_8 : decode cJ1_charAt_3b067 8 = .ok (.baload, 1) := by decide +kernel
theorem dJ1_charAt_3b067_9 : decode cJ1_charAt_3b067 9 = .ok (.sipush 255, 3) := by decide +kernel
theorem dJ1_charAt_3b067_12 : decode cJ1_charAt_3b067 12 = .ok (.iand, 1) := by decide +kernel
theorem dJ1_charAt_3b067_13 : decode cJ1_charAt_3b067 13 = .ok (.i2c, 1) := by decide +kernel
theorem dJ1_charAt_3b067_14 : decode cJ1_charAt_3b067 14 = .ok (.ireturn, 1) := by decide +kernel
theorem dJ0_charAt_5068e_0 : decode cJ0_charAt_5068e 0 = .ok (.aload_n 0, 1) := by decide +kernel
theorem dJ0_charAt_5068e_1 : decode cJ0_charAt_5068e 1 = .ok (.invokevirtual 492, 3) := by decide +kernel
theorem dJ0_charAt_5068e_4 : decode cJ0_charAt_5068e 4 = .ok (.ifCond .eq 12, 3) := by decide +kernel
theorem dJ0_charAt_5068e_7 : decode cJ0_charAt_5068e 7 = .ok (.aload_n 0, 1) := by decide +kernel
theorem dJ0_charAt_5068e_8 : decode cJ0_charAt_5068e 8 = .ok (.getfield 9, 3) := by decide +kernel
theorem dJ0_charAt_5068e_11 : decode cJ0_charAt_5068e 11 = .ok (.iload_n 1, 1) := by decide +kernel
theorem dJ0_charAt_5068e_12 : decode cJ0_charAt_5068e 12 = .ok (.invokestatic 495, 3) := by decide +kernel
theorem dJ0_charAt_5068e_15 : decode cJ0_charAt_5068e 15 = .ok (.ireturn, 1) := by decide +kernel
theorem dJ0_charAt_5068e_16 : decode cJ0_charAt_5068e 16 = .ok (.aload_n 0, 1) := by decide +kernel
theorem dJ0_charAt_5068e_17 : decode cJ0_charAt_5068e 17 = .ok (.getfield 9, 3) := by decide +kernel
theorem dJ0_charAt_5068e_20 : decode cJ0_charAt_5068e 20 = .ok (.iload_n 1, 1) := by decide +kernel
theorem dJ0_charAt_5068e_21 : decode cJ0_charAt_5068e 21 = .ok (.invokestatic 498, 3) := by decide +kernel
theorem dJ0_charAt_5068e_24 : decode cJ0_charAt_5068e 24 = .ok (.ireturn, 1) := by decide +kernel
theorem dJ1_canEncode_9a6ad_0 : decode cJ1_canEncode_9a6ad 0 = .ok (.iload_n 0, 1) := by decide +kernel
theorem dJ1_canEncode_9a6ad_1 : decode cJ1_canEncode_9a6ad 1 = .ok (.ifCond .lt 14, 3) := by decide +kernel
theorem dJ1_canEncode_9a6ad_4 : decode cJ1_canEncode_9a6ad 4 = .ok (.iload_n 0, 1) := by decide +kernel
theorem dJ1_canEncode_9a6ad_5 : decode cJ1_canEncode_9a6ad 5 = .ok (.sipush 255, 3) := by decide +kernel
theorem dJ1_canEncode_9a6ad_8 : decode cJ1_canEncode_9a6ad 8 = .ok (.if_icmp .gt 7, 3) := by decide +kernel
theorem dJ1_canEncode_9a6ad_11 : decode cJ1_canEncode_9a6ad 11 = .ok (.iconst 1, 1) := by decide +kernel
theorem dJ1_canEncode_9a6ad_12 : decode cJ1_canEncode_9a6ad 12 = .ok (.goto 4, 3) := by decide +kernel
theorem dJ1_canEncode_9a6ad_15 : decode cJ1_canEncode_9a6ad 15 = .ok (.iconst 0, 1) := by decide +kernel
theorem dJ1_canEncode_9a6ad_16 : decode cJ1_canEncode_9a6ad 16 = .ok (.ireturn, 1) := by decide +kernel
theorem dJ1_indexOfChar_4cfef_0 : decode cJ1_indexOfChar_4cfef 0 = .ok (.iload_n 1, 1) := by decide +kernel
theorem dJ1_indexOfChar_4cfef_1 : decode cJ1_indexOfChar_4cfef 1 = .ok (.i2b, 1) := by decide +kernel
theorem dJ1_indexOfChar_4cfef_2 : decode cJ1_indexOfChar_4cfef 2 = .ok (.istore 4, 2) := by decide +kernel
theorem dJ1_indexOfChar_4cfef_4 : decode cJ1_indexOfChar_4cfef 4 = .ok (.iload_n 2, 1) := by decide +kernel
theorem dJ1_indexOfChar_4cfef_5 : decode cJ1_indexOfChar_4cfef 5 = .ok (.istore 5, 2) := by decide +kernel
theorem dJ1_indexOfChar_4cfef_7 : decode cJ1_indexOfChar_4cfef 7 = .ok (.iload 5, 2) := by decide +kernel
theorem dJ1_indexOfChar_4cfef_9 : decode cJ1_indexOfChar_4cfef 9 = .ok (.iload_n 3, 1) := by decide +kernel
theorem dJ1_indexOfChar_4cfef_10 : decode cJ1_indexOfChar_4cfef 10 = .ok (.if_icmp .ge 21, 3) := by decide +kernel
theorem dJ1_indexOfChar_4cfef_13 : decode cJ1_indexOfChar_4cfef 13 = .ok (.aload_n 0, 1) := by decide +kernel
theorem dJ1_indexOfChar_4cfef_14 : decode cJ1_indexOfChar_4cfef 14 = .ok (.iload 5, 2) := by decide +kernel
theorem dJ1_indexOfChar_4cfef_16 : decode cJ1_indexOfChar_4cfef 16 = .ok (.baload, 1) := by decide +kernel
theorem dJ1_indexOfChar_4cfef_17 : decode cJ1_indexOfChar_4cfef 17 = .ok (.iload 4, 2) := by decide +kernel
theorem dJ1_indexOfChar_4cfef_19 : decode cJ1_indexOfChar_4cfef 19 = .ok (.if_icmp .ne 6, 3) := by decide +kernel
theorem dJ1_indexOfChar_4cfef_22 : decode cJ1_indexOfChar_4cfef 22 = .ok (.iload 5, 2) := by decide +kernel
theorem dJ1_indexOfChar_4cfef_24 : decode cJ1_indexOfChar_4cfef 24 = .ok (.ireturn, 1) := by decide +kernel
theorem dJ1_indexOfChar_4cfef_25 : decode cJ1_indexOfChar_4cfef 25 = .ok (.iinc 5 1, 3) := by decide +kernel
theorem dJ1_indexOfChar_4cfef_28 : decode cJ1_indexOfChar_4cfef 28 = .ok (.goto (-21), 3) := by decide +kernel
theorem dJ1_indexOfChar_4cfef_31 : decode cJ1_indexOfChar_4cfef 31 = .ok (.iconst (-1), 1) := by decide +kernel
theorem dJ1_indexOfChar_4cfef_32 : decode cJ1_indexOfChar_4cfef 32 = .ok (.ireturn, 1) := by decide +kernel
theorem dJ1_indexOf_4cfef_0 : decode cJ1_indexOf_4cfef 0 = .ok (.iload_n 1, 1) := by decide +kernel
theorem dJ1_indexOf_4cfef_1 : decode cJ1_indexOf_4cfef 1 = .ok (.invokestatic 88, 3) := by decide +kernel
theorem dJ1_indexOf_4cfef_4 : decode cJ1_indexOf_4cfef 4 = .ok (.ifCond .ne 5, 3) := by decide +kernel
theorem dJ1_indexOf_4cfef_7 : decode cJ1_indexOf_4cfef 7 = .ok (.iconst (-1), 1) := by decide +kernel
theorem dJ1_indexOf_4cfef_8 : decode cJ1_indexOf_4cfef 8 = .ok (.ireturn, 1) := by decide +kernel
theorem dJ1_indexOf_4cfef_9 : decode cJ1_indexOf_4cfef 9 = .ok (.iload_n 2, 1) := by decide +kernel
theorem dJ1_indexOf_4cfef_10 : decode cJ1_indexOf_4cfef 10 = .ok (.iconst 0, 1) := by decide +kernel
theorem dJ1_indexOf_4cfef_11 : decode cJ1_indexOf_4cfef 11 = .ok (.invokestatic 92, 3) := by decide +kernel
theorem dJ1_indexOf_4cfef_14 : decode cJ1_indexOf_4cfef 14 = .ok (.istore_n 2, 1) := by decide +kernel
theorem dJ1_indexOf_4cfef_15 : decode cJ1_indexOf_4cfef 15 = .ok (.iload_n 3, 1) := by decide +kernel
theorem dJ1_indexOf_4cfef_16 : decode cJ1_indexOf_4cfef 16 = .ok (.aload_n 0, 1) := by decide +kernel
theorem dJ1_indexOf_4cfef_17 : decode cJ1_indexOf_4cfef 17 = .ok (.arraylength, 1) := by decide +kernel
theorem dJ1_indexOf_4cfef_18 : decode cJ1_indexOf_4cfef 18 = .ok (.invokestatic 38, 3) := by decide +kernel
theorem dJ1_indexOf_4cfef_21 : decode cJ1_indexOf_4cfef 21 = .ok (.istore_n 3, 1) := by decide +kernel
theorem dJ1_indexOf_4cfef_22 : decode cJ1_indexOf_4cfef 22 = .ok (.iload_n 2, 1) := by decide +kernel
theorem dJ1_indexOf_4cfef_23 : decode cJ1_indexOf_4cfef 23 = .ok (.iload_n 3, 1) := by decide +kernel
theorem dJ1_indexOf_4cfef_24 : decode cJ1_indexOf_4cfef 24 = .ok (.if_icmp .lt 5, 3) := by decide +kernel
theorem dJ1_indexOf_4cfef_27 : decode cJ1_indexOf_4cfef 27 = .ok (.iconst (-1), 1) := by decide +kernel
theorem dJ1_indexOf_4cfef_28 : decode cJ1_indexOf_4cfef 28 = .ok (.ireturn, 1) := by decide +kernel
theorem dJ1_indexOf_4cfef_29 : decode cJ1_indexOf_4cfef 29 = .ok (.aload_n 0, 1) := by decide +kernel
theorem dJ1_indexOf_4cfef_30 : decode cJ1_indexOf_4cfef 30 = .ok (.iload_n 1, 1) := by decide +kernel
theorem dJ1_indexOf_4cfef_31 : decode cJ1_indexOf_4cfef 31 = .ok (.iload_n 2, 1) := by decide +kernel
theorem dJ1_indexOf_4cfef_32 : decode cJ1_indexOf_4cfef 32 = .ok (.iload_n 3, 1) := by decide +kernel
theorem dJ1_indexOf_4cfef_33 : decode cJ1_indexOf_4cfef 33 = .ok (.invokestatic 95, 3) := by decide +kernel
theorem dJ1_indexOf_4cfef_36 : decode cJ1_indexOf_4cfef 36 = .ok (.ireturn, 1) := by decide +kernel
theorem dJ0_indexOf_7cf53_0 : decode cJ0_indexOf_7cf53 0 = .ok (.aload_n 0, 1) := by decide +kernel
theorem dJ0_indexOf_7cf53_1 : decode cJ0_indexOf_7cf53 1 = .ok (.invokevirtual 492, 3) := by decide +kernel
theorem dJ0_indexOf_7cf53_4 : decode cJ0_indexOf_7cf53 4 = .ok (.ifCond .eq 19, 3) := by decide +kernel
theorem dJ0_indexOf_7cf53_7 : decode cJ0_indexOf_7cf53 7 = .ok (.aload_n 0, 1) := by decide +kernel
theorem dJ0_indexOf_7cf53_8 : decode cJ0_indexOf_7cf53 8 = .ok (.getfield 9, 3) := by decide +kernel
theorem dJ0_indexOf_7cf53_11 : decode cJ0_indexOf_7cf53 11 = .ok (.iload_n 1, 1) := by decide +kernel
theorem dJ0_indexOf_7cf53_12 : decode cJ0_indexOf_7cf53 12 = .ok (.iload_n 2, 1) := by decide +kernel
theorem dJ0_indexOf_7cf53_13 : decode cJ0_indexOf_7cf53 13 = .ok (.aload_n 0, 1) := by decide +kernel
theorem dJ0_indexOf_7cf53_14 : decode cJ0_indexOf_7cf53 14 = .ok (.invokevirtual 505, 3) := by decide +kernel
theorem dJ0_indexOf_7cf53_17 : decode cJ0_indexOf_7cf53 17 = .ok (.invokestatic 637, 3) := by decide +kernel
theorem dJ0_indexOf_7cf53_20 : decode cJ0_indexOf_7cf53 20 = .ok (.goto 16, 3) := by decide +kernel
theorem dJ0_indexOf_7cf53_23 : decode cJ0_indexOf_7cf53 23 = .ok (.aload_n 0, 1) := by decide +kernel
theorem dJ0_indexOf_7cf53_24 : decode cJ0_indexOf_7cf53 24 = .ok (.getfield 9, 3) := by decide +kernel
theorem dJ0_indexOf_7cf53_27 : decode cJ0_indexOf_7cf53 27 = .ok (.iload_n 1, 1) := by decide +kernel
theorem dJ0_indexOf_7cf53_28 : decode cJ0_indexOf_7cf53 28 = .ok (.iload_n 2, 1) := by decide +kernel
theorem dJ0_indexOf_7cf53_29 : decode cJ0_indexOf_7cf53 29 = .ok (.aload_n 0, 1) := by decide +kernel
theorem dJ0_indexOf_7cf53_30 : decode cJ0_indexOf_7cf53 30 = .ok (.invokevirtual 505, 3) := by decide +kernel
theorem dJ0_indexOf_7cf53_33 : decode cJ0_indexOf_7cf53 33 = .ok (.invokestatic 640, 3) := by decide +kernel
theorem dJ0_indexOf_7cf53_36 : decode cJ0_indexOf_7cf53 36 = .ok (.ireturn, 1) := by decide +kernel
theorem dJ0_indexOf_0f7a4_0 : decode cJ0_indexOf_0f7a4 0 = .ok (.aload_n 0, 1) := by decide +kernel
theorem dJ0_indexOf_0f7a4_1 : decode cJ0_indexOf_0f7a4 1 = .ok (.iload_n 1, 1) := by decide +kernel
theorem dJ0_indexOf_0f7a4_2 : decode cJ0_indexOf_0f7a4 2 = .ok (.iconst 0, 1) := by decide +kernel
theorem dJ0_indexOf_0f7a4_3 : decode cJ0_indexOf_0f7a4 3 = .ok (.invokevirtual 633, 3) := by decide +kernel
theorem dJ0_indexOf_0f7a4_6 : decode cJ0_indexOf_0f7a4 6 = .ok (.ireturn, 1) := by decide +kernel
section WKS
variable {l : Launch} {dC : Nat → ClassId} {dI : Nat → Nat → Nat} {ad : Nat → Nat} {ca : Nat → ClassId} {X : (Nat → Prop) → State → Heap → Prop} {sh : List gE} {b1 b2 : Nat} {T : List (Nat × String × List Int32)} {fmt : Value}
def fJ0_isLatin1_aae02 (s : Nat) (tx : List Int32) (σ : gM) : Option (Int32 × gM) := if (1 : Int32) = 0 then (some (0, σ)) else (if (0 : Int32) = 0 then (some (1, σ)) else (some (0, σ)))
set_option maxRecDepth 100000 in
theorem kJ0_isLatin1_aae02 (hE : gES ad X b1 b2 T fmt) (s : Nat) (tx : List Int32) (hs : ∃ a b, T[s]? = some (a, b, tx))  (σ : gM) {r0 : Int32} {σ' : gM} (h : fJ0_isLatin1_aae02 s tx σ = some (r0, σ')) : g_C l dC dI ad ca sh X yJ0_isLatin1_aae02 cJ0_isLatin1_aae02 1 (some .boolean) (gR 0) [.ref (b1 + s)] σ (some (.int r0)) σ' := by
  refine g_entry (by decide +kernel) (Nat.le_of_ble_eq_true rfl) ?_
  refine g_lvE (lv1 := [(0, .ref (b1 + s))]) rfl ?_
  unfold fJ0_isLatin1_aae02 at h
  refine g_getZ (pc := 0) (v := .int 1) (sZc hE) wgJ0_38 dJ0_isLatin1_aae02_0 ?_
  refine g_if_eq (pc := 3) (tgt := 17) dJ0_isLatin1_aae02_3 (by decide) (fun c3 => ?_) (fun c3 => ?_)
  · have h := g_ift c3 h
    refine g_iconst (pc := 17) (v := 0) dJ0_isLatin1_aae02_17 (by decide) ?_
    cases h
    exact g_iret (pc := 18) rfl (by decide) rfl rfl dJ0_isLatin1_aae02_18
  · have h := g_iff c3 h
    refine g_aload_n (pc := 6) dJ0_isLatin1_aae02_6 rfl 0 rfl ?_
    refine g_getO (pc := 7) (v := .int 0) (sOc hE hs) wgJ0_15 dJ0_isLatin1_aae02_7 ?_
    refine g_if_ne (pc := 10) (tgt := 17) dJ0_isLatin1_aae02_10 (by decide) (fun c4 => ?_) (fun c4 => ?_)
    · have h := g_iff c4 h
      refine g_iconst (pc := 17) (v := 0) dJ0_isLatin1_aae02_17 (by decide) ?_
      cases h
      exact g_iret (pc := 18) rfl (by decide) rfl rfl dJ0_isLatin1_aae02_18
    · have h := g_ift c4 h
      refine g_iconst (pc := 13) (v := 1) dJ0_isLatin1_aae02_13 (by decide) ?_
      refine g_goto (pc := 14) (tgt := 18) dJ0_isLatin1_aae02_14 (by decide) ?_
      cases h
      exact g_iret (pc := 18) rfl (by decide) rfl rfl dJ0_isLatin1_aae02_18
def fJ0_coder_7d493 (s : Nat) (tx : List Int32) (σ : gM) : Option (Int32 × gM) := if (1 : Int32) = 0 then (some (1, σ)) else (some (0, σ))
set_option maxRecDepth 100000 in
theorem kJ0_coder_7d493 (hE : gES ad X b1 b2 T fmt) (s : Nat) (tx : List Int32) (hs : ∃ a b, T[s]? = some (a, b, tx))  (σ : gM) {r0 : Int32} {σ' : gM} (h : fJ0_coder_7d493 s tx σ = some (r0, σ')) : g_C l dC dI ad ca sh X yJ0_coder_7d493 cJ0_coder_7d493 1 (some .byte) (gR 0) [.ref (b1 + s)] σ (some (.int r0)) σ' := by
  refine g_entry (by decide +kernel) (Nat.le_of_ble_eq_true rfl) ?_
  refine g_lvE (lv1 := [(0, .ref (b1 + s))]) rfl ?_
  unfold fJ0_coder_7d493 at h
  refine g_getZ (pc := 0) (v := .int 1) (sZc hE) wgJ0_38 dJ0_coder_7d493_0 ?_
  refine g_if_eq (pc := 3) (tgt := 13) dJ0_coder_7d493_3 (by decide) (fun c2 => ?_) (fun c2 => ?_)
  · have h := g_ift c2 h
    refine g_iconst (pc := 13) (v := 1) dJ0_coder_7d493_13 (by decide) ?_
    cases h
    exact g_iret (pc := 14) rfl (by decide) rfl rfl dJ0_coder_7d493_14
  · have h := g_iff c2 h
    refine g_aload_n (pc := 6) dJ0_coder_7d493_6 rfl 0 rfl ?_
    refine g_getO (pc := 7) (v := .int 0) (sOc hE hs) wgJ0_15 dJ0_coder_7d493_7 ?_
    refine g_goto (pc := 10) (tgt := 14) dJ0_coder_7d493_10 (by decide) ?_
    cases h
    exact g_iret (pc := 14) rfl (by decide) rfl rfl dJ0_coder_7d493_14
def fJ0_length_8abf5 (s : Nat) (tx : List Int32) (σ : gM) : Option (Int32 × gM) := g_bI (fJ0_coder_7d493 s tx σ) (fun r6 σ5 => some ((Int32.ofNat tx.length) >>> (r6 &&& 31), σ5))
set_option maxRecDepth 100000 in
theorem kJ0_length_8abf5 (hE : gES ad X b1 b2 T fmt) (s : Nat) (tx : List Int32) (hs : ∃ a b, T[s]? = some (a, b, tx))  (σ : gM) {r0 : Int32} {σ' : gM} (h : fJ0_length_8abf5 s tx σ = some (r0, σ')) : g_C l dC dI ad ca sh X yJ0_length_8abf5 cJ0_length_8abf5 1 (some .int) (gR 1) [.ref (b1 + s)] σ (some (.int r0)) σ' := by
  refine g_entry (by decide +kernel) (Nat.le_of_ble_eq_true rfl) ?_
  refine g_lvE (lv1 := [(0, .ref (b1 + s))]) rfl ?_
  unfold fJ0_length_8abf5 at h
  refine g_aload_n (pc := 0) dJ0_length_8abf5_0 rfl 0 rfl ?_
  refine g_getO (pc := 1) (v := .ref (b2 + s)) (sOv hE hs) wgJ0_9 dJ0_length_8abf5_1 ?_
  refine g_tlenB (pc := 4) (sT hE hs) dJ0_length_8abf5_4 ?_
  refine g_aload_n (pc := 5) dJ0_length_8abf5_5 rfl 0 rfl ?_
  obtain ⟨r6, σ5, h4, h⟩ := g_bId h
  refine g_callVXi (pc := 6) (st := [.int (Int32.ofNat tx.length)]) hE.1 wvJ0_335 (sRc hE hs) (kJ0_coder_7d493 hE s tx hs σ h4) rfl (gR_ok (by decide) (by decide)) (Nat.le_of_ble_eq_true rfl) rfl dJ0_length_8abf5_6 ?_
  refine g_ishr (pc := 9) dJ0_length_8abf5_9 ?_
  cases h
  exact g_iret (pc := 10) rfl rfl rfl rfl dJ0_length_8abf5_10
def fJ3_checkIndex_8e157_b9 (v0 : Int32) (v1 : Int32) (σ : gM) : Option (Int32 × gM) := none
set_option maxRecDepth 100000 in
theorem tJ3_checkIndex_8e157_b9 (hE : gES ad X b1 b2 T fmt) {r0 : Int32} {σ' : gM} (v0 : Int32) (v1 : Int32)  (σ : gM) (h : fJ3_checkIndex_8e157_b9 v0 v1 σ = some (r0, σ')) : g_G l dC dI ad ca sh X cJ3_checkIndex_8e157 3 RJ3 (some .int) (gR 0) (some (.int r0)) σ' 9 [(0, .int v0), (1, .int v1), (2, fmt)] [] σ := by
  unfold fJ3_checkIndex_8e157_b9 at h
  cases h
def fJ3_checkIndex_8e157 (v0 : Int32) (v1 : Int32) (σ : gM) : Option (Int32 × gM) := if v0 < 0 then (fJ3_checkIndex_8e157_b9 v0 v1 σ) else (if v0 < v1 then (some (v0, σ)) else (fJ3_checkIndex_8e157_b9 v0 v1 σ))
set_option maxRecDepth 100000 in
theorem kJ3_checkIndex_8e157 (hE : gES ad X b1 b2 T fmt)  (v0 : Int32) (v1 : Int32) (σ : gM) {r0 : Int32} {σ' : gM} (h : fJ3_checkIndex_8e157 v0 v1 σ = some (r0, σ')) : g_C l dC dI ad ca sh X yJ3_checkIndex_8e157 cJ3_checkIndex_8e157 3 (some .int) (gR 0) [.int v0, .int v1, fmt] σ (some (.int r0)) σ' := by
  have hfm := hE.2.2.2.2
  refine g_entry (by decide +kernel) (by rcases hfm with rfl | ⟨_, rfl⟩ <;> exact Nat.le_of_ble_eq_true rfl) ?_
  refine g_lvE (lv1 := [(0, .int v0), (1, .int v1), (2, fmt)]) rfl ?_
  unfold fJ3_checkIndex_8e157 at h
  refine g_iload_n (pc := 0) dJ3_checkIndex_8e157_0 rfl 0 rfl ?_
  refine g_if_lt (pc := 1) (tgt := 9) dJ3_checkIndex_8e157_1 (by decide) (fun c3 => ?_) (fun c3 => ?_)
  · have h := g_ift c3 h
    exact g_lv [0, 1, 2] rfl (tJ3_checkIndex_8e157_b9 hE v0 v1 σ h)
  · have h := g_iff c3 h
    refine g_iload_n (pc := 4) dJ3_checkIndex_8e157_4 rfl 0 rfl ?_
    refine g_iload_n (pc := 5) dJ3_checkIndex_8e157_5 rfl 1 rfl ?_
    refine g_icmp_lt (pc := 6) (tgt := 16) dJ3_checkIndex_8e157_6 (by decide) (fun c4 => ?_) (fun c4 => ?_)
    · have h := g_ift c4 h
      refine g_iload_n (pc := 16) dJ3_checkIndex_8e157_16 rfl 0 rfl ?_
      cases h
      exact g_iret (pc := 17) rfl rfl rfl rfl dJ3_checkIndex_8e157_17
    · have h := g_iff c4 h
      exact g_lv [0, 1, 2] rfl (tJ3_checkIndex_8e157_b9 hE v0 v1 σ h)
def fJ0_checkIndex_df160 (v0 : Int32) (v1 : Int32) (σ : gM) : Option (gM) := g_bI (fJ3_checkIndex_8e157 v0 v1 σ) (fun r6 σ5 => some σ5)
set_option maxRecDepth 100000 in
theorem kJ0_checkIndex_df160 (hE : gES ad X b1 b2 T fmt)  (v0 : Int32) (v1 : Int32) (σ : gM) {σ' : gM} (h : fJ0_checkIndex_df160 v0 v1 σ = some σ') : g_C l dC dI ad ca sh X yJ0_checkIndex_df160 cJ0_checkIndex_df160 2 none (gR 1) [.int v0, .int v1] σ none σ' := by
  refine g_entry (by decide +kernel) (Nat.le_of_ble_eq_true rfl) ?_
  refine g_lvE (lv1 := [(0, .int v0), (1, .int v1)]) rfl ?_
  unfold fJ0_checkIndex_df160 at h
  refine g_iload_n (pc := 0) dJ0_checkIndex_df160_0 rfl 0 rfl ?_
  refine g_iload_n (pc := 1) dJ0_checkIndex_df160_1 rfl 1 rfl ?_
  refine g_getZ (pc := 2) (v := fmt) (sZf hE) wgJ0_1053 dJ0_checkIndex_df160_2 ?_
  obtain ⟨r6, σ5, h4, h⟩ := g_bId h
  refine g_callSi (pc := 5) (st := []) hE.1 wsJ0_1059 (kJ3_checkIndex_8e157 hE v0 v1 σ h4) rfl (gR_ok (by decide) (by decide)) (Nat.le_of_ble_eq_true rfl) rfl dJ0_checkIndex_df160_5 ?_
  refine g_pop (pc := 8) dJ0_checkIndex_df160_8 rfl ?_
  cases h
  exact g_vret (pc := 9) rfl rfl rfl dJ0_checkIndex_df160_9
def fJ1_charAt_3b067 (s : Nat) (tx : List Int32) (v1 : Int32) (σ : gM) : Option (Int32 × gM) := g_bV (fJ0_checkIndex_df160 v1 (Int32.ofNat tx.length) σ) (fun σ6 => if ¬ (v1 < 0 ∨ tx.length ≤ v1.toNatClampNeg) then (if (((((tx.getD v1.toNatClampNeg 0) &&& 255).toUInt32 % 65536).toInt32).toUInt32 % 65536).toInt32 = ((((tx.getD v1.toNatClampNeg 0) &&& 255).toUInt32 % 65536).toInt32) then (some ((((tx.getD v1.toNatClampNeg 0) &&& 255).toUInt32 % 65536).toInt32, σ6)) else none) else none)
set_option maxRecDepth 100000 in
theorem kJ1_charAt_3b067 (hE : gES ad X b1 b2 T fmt) (s : Nat) (tx : List Int32) (hs : ∃ a b, T[s]? = some (a, b, tx))  (v1 : Int32) (σ : gM) {r0 : Int32} {σ' : gM} (h : fJ1_charAt_3b067 s tx v1 σ = some (r0, σ')) : g_C l dC dI ad ca sh X yJ1_charAt_3b067 cJ1_charAt_3b067 2 (some .char) (gR 2) [.ref (b2 + s), .int v1] σ (some (.int r0)) σ' := by
  refine g_entry (by decide +kernel) (Nat.le_of_ble_eq_true rfl) ?_
  refine g_lvE (lv1 := [(0, .ref (b2 + s)), (1, .int v1)]) rfl ?_
  unfold fJ1_charAt_3b067 at h
  refine g_iload_n (pc := 0) dJ1_charAt_3b067_0 rfl 1 rfl ?_
  refine g_aload_n (pc := 1) dJ1_charAt_3b067_1 rfl 0 rfl ?_
  refine g_tlenB (pc := 2) (sT hE hs) dJ1_charAt_3b067_2 ?_
  obtain ⟨σ6, h5, h⟩ := g_bVd h
  refine g_callSv (pc := 3) (st := []) hE.1 wsJ1_9 (kJ0_checkIndex_df160 hE v1 (Int32.ofNat tx.length) σ h5) rfl (gR_ok (by decide) (by decide)) (Nat.le_of_ble_eq_true rfl) rfl dJ1_charAt_3b067_3 ?_
  refine g_aload_n (pc := 6) dJ1_charAt_3b067_6 rfl 0 rfl ?_
  refine g_iload_n (pc := 7) dJ1_charAt_3b067_7 rfl 1 rfl ?_
  obtain ⟨c7, h⟩ := g_gd h
  refine g_tb (pc := 8) (sT hE hs) c7 rfl dJ1_charAt_3b067_8 ?_
  refine g_sipush (pc := 9) (v := 255) dJ1_charAt_3b067_9 (by decide) ?_
  refine g_iand (pc := 12) dJ1_charAt_3b067_12 ?_
  refine g_i2c (pc := 13) dJ1_charAt_3b067_13 ?_
  obtain ⟨c8, h⟩ := g_gd h
  cases h
  exact g_iret (pc := 14) rfl (g_nc c8) rfl rfl dJ1_charAt_3b067_14
def fJ0_charAt_5068e (s : Nat) (tx : List Int32) (v1 : Int32) (σ : gM) : Option (Int32 × gM) := g_bI (fJ0_isLatin1_aae02 s tx σ) (fun r11 σ10 => if r11 = 0 then (none) else (g_bI (fJ1_charAt_3b067 s tx v1 σ10) (fun r15 σ14 => if (r15.toUInt32 % 65536).toInt32 = r15 then (some (r15, σ14)) else none)))
set_option maxRecDepth 100000 in
theorem kJ0_charAt_5068e (hE : gES ad X b1 b2 T fmt) (s : Nat) (tx : List Int32) (hs : ∃ a b, T[s]? = some (a, b, tx))  (v1 : Int32) (σ : gM) {r0 : Int32} {σ' : gM} (h : fJ0_charAt_5068e s tx v1 σ = some (r0, σ')) : g_C l dC dI ad ca sh X yJ0_charAt_5068e cJ0_charAt_5068e 2 (some .char) (gR 3) [.ref (b1 + s), .int v1] σ (some (.int r0)) σ' := by
  refine g_entry (by decide +kernel) (Nat.le_of_ble_eq_true rfl) ?_
  refine g_lvE (lv1 := [(0, .ref (b1 + s)), (1, .int v1)]) rfl ?_
  unfold fJ0_charAt_5068e at h
  refine g_aload_n (pc := 0) dJ0_charAt_5068e_0 rfl 0 rfl ?_
  obtain ⟨r11, σ10, h9, h⟩ := g_bId h
  refine g_callVXi (pc := 1) (st := []) hE.1 wvJ0_492 (sRc hE hs) (kJ0_isLatin1_aae02 hE s tx hs σ h9) rfl (gR_ok (by decide) (by decide)) (Nat.le_of_ble_eq_true rfl) rfl dJ0_charAt_5068e_1 ?_
  refine g_if_eq (pc := 4) (tgt := 16) dJ0_charAt_5068e_4 (by decide) (fun c12 => ?_) (fun c12 => ?_)
  · have h := g_ift c12 h
    refine g_aload_n (pc := 16) dJ0_charAt_5068e_16 rfl 0 rfl ?_
    refine g_getO (pc := 17) (v := .ref (b2 + s)) (sOv hE hs) wgJ0_9 dJ0_charAt_5068e_17 ?_
    refine g_iload_n (pc := 20) dJ0_charAt_5068e_20 rfl 1 rfl ?_
    cases h
  · have h := g_iff c12 h
    refine g_aload_n (pc := 7) dJ0_charAt_5068e_7 rfl 0 rfl ?_
    refine g_getO (pc := 8) (v := .ref (b2 + s)) (sOv hE hs) wgJ0_9 dJ0_charAt_5068e_8 ?_
    refine g_iload_n (pc := 11) dJ0_charAt_5068e_11 rfl 1 rfl ?_
    obtain ⟨r15, σ14, h13, h⟩ := g_bId h
    refine g_callSi (pc := 12) (st := []) hE.1 wsJ0_495 (kJ1_charAt_3b067 hE s tx hs v1 σ10 h13) rfl (gR_ok (by decide) (by decide)) (Nat.le_of_ble_eq_true rfl) rfl dJ0_charAt_5068e_12 ?_
    obtain ⟨c16, h⟩ := g_gd h
    cases h
    exact g_iret (pc := 15) rfl (g_nc c16) rfl rfl dJ0_charAt_5068e_15
def fJ1_canEncode_9a6ad (v0 : Int32) (σ : gM) : Option (Int32 × gM) := if v0 < 0 then (some (0, σ)) else (if 255 < v0 then (some (0, σ)) else (some (1, σ)))
set_option maxRecDepth 100000 in
theorem kJ1_canEncode_9a6ad (hE : gES ad X b1 b2 T fmt)  (v0 : Int32) (σ : gM) {r0 : Int32} {σ' : gM} (h : fJ1_canEncode_9a6ad v0 σ = some (r0, σ')) : g_C l dC dI ad ca sh X yJ1_canEncode_9a6ad cJ1_canEncode_9a6ad 1 (some .boolean) (gR 0) [.int v0] σ (some (.int r0)) σ' := by
  refine g_entry (by decide +kernel) (Nat.le_of_ble_eq_true rfl) ?_
  refine g_lvE (lv1 := [(0, .int v0)]) rfl ?_
  unfold fJ1_canEncode_9a6ad at h
  refine g_iload_n (pc := 0) dJ1_canEncode_9a6ad_0 rfl 0 rfl ?_
  refine g_if_lt (pc := 1) (tgt := 15) dJ1_canEncode_9a6ad_1 (by decide) (fun c3 => ?_) (fun c3 => ?_)
  · have h := g_ift c3 h
    refine g_iconst (pc := 15) (v := 0) dJ1_canEncode_9a6ad_15 (by decide) ?_
    cases h
    exact g_iret (pc := 16) rfl (by decide) rfl rfl dJ1_canEncode_9a6ad_16
  · have h := g_iff c3 h
    refine g_iload_n (pc := 4) dJ1_canEncode_9a6ad_4 rfl 0 rfl ?_
    refine g_sipush (pc := 5) (v := 255) dJ1_canEncode_9a6ad_5 (by decide) ?_
    refine g_icmp_gt (pc := 8) (tgt := 15) dJ1_canEncode_9a6ad_8 (by decide) (fun c4 => ?_) (fun c4 => ?_)
    · have h := g_ift c4 h
      refine g_iconst (pc := 15) (v := 0) dJ1_canEncode_9a6ad_15 (by decide) ?_
      cases h
      exact g_iret (pc := 16) rfl (by decide) rfl rfl dJ1_canEncode_9a6ad_16
    · have h := g_iff c4 h
      refine g_iconst (pc := 11) (v := 1) dJ1_canEncode_9a6ad_11 (by decide) ?_
      refine g_goto (pc := 12) (tgt := 16) dJ1_canEncode_9a6ad_12 (by decide) ?_
      cases h
      exact g_iret (pc := 16) rfl (by decide) rfl rfl dJ1_canEncode_9a6ad_16
def fJ1_indexOfChar_4cfef_b7 (n : Nat) (s : Nat) (tx : List Int32) (K7 : Int32 → Int32 → Int32 → gM → Option (Int32 × gM)) (v3 : Int32) (v4 : Int32) (v5 : Int32) (σ : gM) : Option (Int32 × gM) := if v3 ≤ v5 then (some ((-1), σ)) else (if ¬ (v5 < 0 ∨ tx.length ≤ v5.toNatClampNeg) then (if (tx.getD v5.toNatClampNeg 0) = v4 then (some (v5, σ)) else (K7 v3 v4 (v5 + 1) σ)) else none)
set_option maxRecDepth 100000 in
theorem tJ1_indexOfChar_4cfef_b7 (hE : gES ad X b1 b2 T fmt) {r0 : Int32} {σ' : gM} (n : Nat) (s : Nat) (tx : List Int32) (hs : ∃ a b, T[s]? = some (a, b, tx)) (K7 : Int32 → Int32 → Int32 → gM → Option (Int32 × gM)) (hK7 : ∀ (v3 : Int32) (v4 : Int32) (v5 : Int32) (σ : gM), K7 v3 v4 v5 σ = some (r0, σ') → g_G l dC dI ad ca sh X cJ1_indexOfChar_4cfef 6 RJ1 (some .int) (gR 0) (some (.int r0)) σ' 7 [(0, .ref (b2 + s)), (3, .int v3), (4, .int v4), (5, .int v5)] [] σ) (v3 : Int32) (v4 : Int32) (v5 : Int32)  (σ : gM) (h : fJ1_indexOfChar_4cfef_b7 n s tx K7 v3 v4 v5 σ = some (r0, σ')) : g_G l dC dI ad ca sh X cJ1_indexOfChar_4cfef 6 RJ1 (some .int) (gR 0) (some (.int r0)) σ' 7 [(0, .ref (b2 + s)), (3, .int v3), (4, .int v4), (5, .int v5)] [] σ := by
  unfold fJ1_indexOfChar_4cfef_b7 at h
  refine g_iload (pc := 7) dJ1_indexOfChar_4cfef_7 3 rfl ?_
  refine g_iload_n (pc := 9) dJ1_indexOfChar_4cfef_9 rfl 1 rfl ?_
  refine g_icmp_ge (pc := 10) (tgt := 31) dJ1_indexOfChar_4cfef_10 (by decide) (fun c4 => ?_) (fun c4 => ?_)
  · have h := g_ift c4 h
    refine g_iconst (pc := 31) (v := (-1)) dJ1_indexOfChar_4cfef_31 (by decide) ?_
    cases h
    exact g_iret (pc := 32) rfl rfl rfl rfl dJ1_indexOfChar_4cfef_32
  · have h := g_iff c4 h
    refine g_aload_n (pc := 13) dJ1_indexOfChar_4cfef_13 rfl 0 rfl ?_
    refine g_iload (pc := 14) dJ1_indexOfChar_4cfef_14 3 rfl ?_
    obtain ⟨c5, h⟩ := g_gd h
    refine g_tb (pc := 16) (sT hE hs) c5 rfl dJ1_indexOfChar_4cfef_16 ?_
    refine g_iload (pc := 17) dJ1_indexOfChar_4cfef_17 2 rfl ?_
    refine g_icmp_ne (pc := 19) (tgt := 25) dJ1_indexOfChar_4cfef_19 (by decide) (fun c6 => ?_) (fun c6 => ?_)
    · have h := g_iff c6 h
      refine g_iinc (pc := 25) (v := v5 + 1) (lv1 := [(5, .int (v5 + 1)), (0, .ref (b2 + s)), (3, .int v3), (4, .int v4)]) dJ1_indexOfChar_4cfef_25 3 rfl rfl (by decide) rfl ?_
      refine g_goto (pc := 28) (tgt := 7) dJ1_indexOfChar_4cfef_28 (by decide) ?_
      exact g_lv [1, 2, 3, 0] rfl (hK7 v3 v4 (v5 + 1) σ h)
    · have h := g_ift c6 h
      refine g_iload (pc := 22) dJ1_indexOfChar_4cfef_22 3 rfl ?_
      cases h
      exact g_iret (pc := 24) rfl rfl rfl rfl dJ1_indexOfChar_4cfef_24
def fJ1_indexOfChar_4cfef_L7 (n : Nat) (s : Nat) (tx : List Int32) : Nat → Int32 → Int32 → Int32 → gM → Option (Int32 × gM)
  | 0 => fun _ _ _ _ => none
  | k + 1 => fJ1_indexOfChar_4cfef_b7 n s tx (fJ1_indexOfChar_4cfef_L7 n s tx k)
theorem tJ1_indexOfChar_4cfef_L7 (hE : gES ad X b1 b2 T fmt) {r0 : Int32} {σ' : gM} (n : Nat) (s : Nat) (tx : List Int32) (hs : ∃ a b, T[s]? = some (a, b, tx))  : ∀ (k : Nat) (v3 : Int32) (v4 : Int32) (v5 : Int32) (σ : gM), fJ1_indexOfChar_4cfef_L7 n s tx k v3 v4 v5 σ = some (r0, σ') → g_G l dC dI ad ca sh X cJ1_indexOfChar_4cfef 6 RJ1 (some .int) (gR 0) (some (.int r0)) σ' 7 [(0, .ref (b2 + s)), (3, .int v3), (4, .int v4), (5, .int v5)] [] σ := by
  intro k
  induction k with
  | zero => intro v3 v4 v5 σ h; cases h
  | succ k ih => intro v3 v4 v5 σ h; exact tJ1_indexOfChar_4cfef_b7 hE n s tx hs (fJ1_indexOfChar_4cfef_L7 n s tx k) ih v3 v4 v5 σ h
def fJ1_indexOfChar_4cfef (n : Nat) (s : Nat) (tx : List Int32) (v1 : Int32) (v2 : Int32) (v3 : Int32) (σ : gM) : Option (Int32 × gM) := fJ1_indexOfChar_4cfef_L7 n s tx n v3 v1.toInt8.toInt32 v2 σ
set_option maxRecDepth 100000 in
theorem kJ1_indexOfChar_4cfef (hE : gES ad X b1 b2 T fmt) (n : Nat) (s : Nat) (tx : List Int32) (hs : ∃ a b, T[s]? = some (a, b, tx))  (v1 : Int32) (v2 : Int32) (v3 : Int32) (σ : gM) {r0 : Int32} {σ' : gM} (h : fJ1_indexOfChar_4cfef n s tx v1 v2 v3 σ = some (r0, σ')) : g_C l dC dI ad ca sh X yJ1_indexOfChar_4cfef cJ1_indexOfChar_4cfef 6 (some .int) (gR 0) [.ref (b2 + s), .int v1, .int v2, .int v3] σ (some (.int r0)) σ' := by
  refine g_entry (by decide +kernel) (Nat.le_of_ble_eq_true rfl) ?_
  refine g_lvE (lv1 := [(0, .ref (b2 + s)), (1, .int v1), (2, .int v2), (3, .int v3)]) rfl ?_
  unfold fJ1_indexOfChar_4cfef at h
  refine g_iload_n (pc := 0) dJ1_indexOfChar_4cfef_0 rfl 1 rfl ?_
  refine g_i2b (pc := 1) dJ1_indexOfChar_4cfef_1 ?_
  refine g_istore (pc := 2) (lv1 := [(4, .int v1.toInt8.toInt32), (0, .ref (b2 + s)), (1, .int v1), (2, .int v2), (3, .int v3)]) dJ1_indexOfChar_4cfef_2 (by decide) rfl ?_
  refine g_iload_n (pc := 4) dJ1_indexOfChar_4cfef_4 rfl 3 rfl ?_
  refine g_istore (pc := 5) (lv1 := [(5, .int v2), (4, .int v1.toInt8.toInt32), (0, .ref (b2 + s)), (1, .int v1), (2, .int v2), (3, .int v3)]) dJ1_indexOfChar_4cfef_5 (by decide) rfl ?_
  exact g_lv [2, 5, 1, 0] rfl (tJ1_indexOfChar_4cfef_L7 hE n s tx hs n v3 v1.toInt8.toInt32 v2 σ h)
def fJ1_indexOf_4cfef (n : Nat) (s : Nat) (tx : List Int32) (v1 : Int32) (v2 : Int32) (v3 : Int32) (σ : gM) : Option (Int32 × gM) := g_bI (fJ1_canEncode_9a6ad v1 σ) (fun r11 σ10 => if r11 = 0 then (some ((-1), σ10)) else (if (if v2 < 0 then 0 else v2) < (if (Int32.ofNat tx.length) < v3 then (Int32.ofNat tx.length) else v3) then (g_bI (fJ1_indexOfChar_4cfef n s tx v1 (if v2 < 0 then 0 else v2) (if (Int32.ofNat tx.length) < v3 then (Int32.ofNat tx.length) else v3) σ10) (fun r16 σ15 => some (r16, σ15))) else (some ((-1), σ10))))
set_option maxRecDepth 100000 in
theorem kJ1_indexOf_4cfef (hE : gES ad X b1 b2 T fmt) (n : Nat) (s : Nat) (tx : List Int32) (hs : ∃ a b, T[s]? = some (a, b, tx))  (v1 : Int32) (v2 : Int32) (v3 : Int32) (σ : gM) {r0 : Int32} {σ' : gM} (h : fJ1_indexOf_4cfef n s tx v1 v2 v3 σ = some (r0, σ')) : g_C l dC dI ad ca sh X yJ1_indexOf_4cfef cJ1_indexOf_4cfef 4 (some .int) (gR 1) [.ref (b2 + s), .int v1, .int v2, .int v3] σ (some (.int r0)) σ' := by
  refine g_entry (by decide +kernel) (Nat.le_of_ble_eq_true rfl) ?_
  refine g_lvE (lv1 := [(0, .ref (b2 + s)), (1, .int v1), (2, .int v2), (3, .int v3)]) rfl ?_
  unfold fJ1_indexOf_4cfef at h
  refine g_iload_n (pc := 0) dJ1_indexOf_4cfef_0 rfl 1 rfl ?_
  obtain ⟨r11, σ10, h9, h⟩ := g_bId h
  refine g_callSi (pc := 1) (st := []) hE.1 wsJ1_88 (kJ1_canEncode_9a6ad hE v1 σ h9) rfl (gR_ok (by decide) (by decide)) (Nat.le_of_ble_eq_true rfl) rfl dJ1_indexOf_4cfef_1 ?_
  refine g_if_ne (pc := 4) (tgt := 9) dJ1_indexOf_4cfef_4 (by decide) (fun c12 => ?_) (fun c12 => ?_)
  · have h := g_iff c12 h
    refine g_iload_n (pc := 9) dJ1_indexOf_4cfef_9 rfl 2 rfl ?_
    refine g_iconst (pc := 10) (v := 0) dJ1_indexOf_4cfef_10 (by decide) ?_
    refine g_max (pc := 11) (st := []) wmJ1_92 ⟨by decide, by decide⟩ dJ1_indexOf_4cfef_11 ?_
    refine g_istore_n (pc := 14) (lv1 := [(2, .int (if v2 < 0 then 0 else v2)), (0, .ref (b2 + s)), (1, .int v1), (3, .int v3)]) dJ1_indexOf_4cfef_14 rfl (by decide) rfl ?_
    refine g_iload_n (pc := 15) dJ1_indexOf_4cfef_15 rfl 3 rfl ?_
    refine g_aload_n (pc := 16) dJ1_indexOf_4cfef_16 rfl 1 rfl ?_
    refine g_tlenB (pc := 17) (sT hE hs) dJ1_indexOf_4cfef_17 ?_
    refine g_min (pc := 18) (st := []) wmJ1_38 ⟨by decide, by decide⟩ dJ1_indexOf_4cfef_18 ?_
    refine g_istore_n (pc := 21) (lv1 := [(3, .int (if (Int32.ofNat tx.length) < v3 then (Int32.ofNat tx.length) else v3)), (2, .int (if v2 < 0 then 0 else v2)), (0, .ref (b2 + s)), (1, .int v1)]) dJ1_indexOf_4cfef_21 rfl (by decide) rfl ?_
    refine g_iload_n (pc := 22) dJ1_indexOf_4cfef_22 rfl 1 rfl ?_
    refine g_iload_n (pc := 23) dJ1_indexOf_4cfef_23 rfl 0 rfl ?_
    refine g_icmp_lt (pc := 24) (tgt := 29) dJ1_indexOf_4cfef_24 (by decide) (fun c13 => ?_) (fun c13 => ?_)
    · have h := g_ift c13 h
      refine g_aload_n (pc := 29) dJ1_indexOf_4cfef_29 rfl 2 rfl ?_
      refine g_iload_n (pc := 30) dJ1_indexOf_4cfef_30 rfl 3 rfl ?_
      refine g_iload_n (pc := 31) dJ1_indexOf_4cfef_31 rfl 1 rfl ?_
      refine g_iload_n (pc := 32) dJ1_indexOf_4cfef_32 rfl 0 rfl ?_
      obtain ⟨r16, σ15, h14, h⟩ := g_bId h
      refine g_callSi (pc := 33) (st := []) hE.1 wsJ1_95 (kJ1_indexOfChar_4cfef hE n s tx hs v1 (if v2 < 0 then 0 else v2) (if (Int32.ofNat tx.length) < v3 then (Int32.ofNat tx.length) else v3) σ10 h14) rfl (gR_ok (by decide) (by decide)) (Nat.le_of_ble_eq_true rfl) rfl dJ1_indexOf_4cfef_33 ?_
      cases h
      exact g_iret (pc := 36) rfl rfl rfl rfl dJ1_indexOf_4cfef_36
    · have h := g_iff c13 h
      refine g_iconst (pc := 27) (v := (-1)) dJ1_indexOf_4cfef_27 (by decide) ?_
      cases h
      exact g_iret (pc := 28) rfl rfl rfl rfl dJ1_indexOf_4cfef_28
  · have h := g_ift c12 h
    refine g_iconst (pc := 7) (v := (-1)) dJ1_indexOf_4cfef_7 (by decide) ?_
    cases h
    exact g_iret (pc := 8) rfl rfl rfl rfl dJ1_indexOf_4cfef_8
def fJ0_indexOf_7cf53 (n : Nat) (s : Nat) (tx : List Int32) (v1 : Int32) (v2 : Int32) (σ : gM) : Option (Int32 × gM) := g_bI (fJ0_isLatin1_aae02 s tx σ) (fun r16 σ15 => if r16 = 0 then (g_bI (fJ0_length_8abf5 s tx σ15) (fun r20 σ19 => none)) else (g_bI (fJ0_length_8abf5 s tx σ15) (fun r23 σ22 => g_bI (fJ1_indexOf_4cfef n s tx v1 v2 r23 σ22) (fun r26 σ25 => some (r26, σ25)))))
set_option maxRecDepth 100000 in
theorem kJ0_indexOf_7cf53 (hE : gES ad X b1 b2 T fmt) (n : Nat) (s : Nat) (tx : List Int32) (hs : ∃ a b, T[s]? = some (a, b, tx))  (v1 : Int32) (v2 : Int32) (σ : gM) {r0 : Int32} {σ' : gM} (h : fJ0_indexOf_7cf53 n s tx v1 v2 σ = some (r0, σ')) : g_C l dC dI ad ca sh X yJ0_indexOf_7cf53 cJ0_indexOf_7cf53 3 (some .int) (gR 2) [.ref (b1 + s), .int v1, .int v2] σ (some (.int r0)) σ' := by
  refine g_entry (by decide +kernel) (Nat.le_of_ble_eq_true rfl) ?_
  refine g_lvE (lv1 := [(0, .ref (b1 + s)), (1, .int v1), (2, .int v2)]) rfl ?_
  unfold fJ0_indexOf_7cf53 at h
  refine g_aload_n (pc := 0) dJ0_indexOf_7cf53_0 rfl 0 rfl ?_
  obtain ⟨r16, σ15, h14, h⟩ := g_bId h
  refine g_callVXi (pc := 1) (st := []) hE.1 wvJ0_492 (sRc hE hs) (kJ0_isLatin1_aae02 hE s tx hs σ h14) rfl (gR_ok (by decide) (by decide)) (Nat.le_of_ble_eq_true rfl) rfl dJ0_indexOf_7cf53_1 ?_
  refine g_if_eq (pc := 4) (tgt := 23) dJ0_indexOf_7cf53_4 (by decide) (fun c17 => ?_) (fun c17 => ?_)
  · have h := g_ift c17 h
    refine g_aload_n (pc := 23) dJ0_indexOf_7cf53_23 rfl 0 rfl ?_
    refine g_getO (pc := 24) (v := .ref (b2 + s)) (sOv hE hs) wgJ0_9 dJ0_indexOf_7cf53_24 ?_
    refine g_iload_n (pc := 27) dJ0_indexOf_7cf53_27 rfl 1 rfl ?_
    refine g_iload_n (pc := 28) dJ0_indexOf_7cf53_28 rfl 2 rfl ?_
    refine g_aload_n (pc := 29) dJ0_indexOf_7cf53_29 rfl 0 rfl ?_
    obtain ⟨r20, σ19, h18, h⟩ := g_bId h
    refine g_callVXi (pc := 30) (st := [.int v2, .int v1, .ref (b2 + s)]) hE.1 wvJ0_505 (sRc hE hs) (kJ0_length_8abf5 hE s tx hs σ15 h18) rfl (gR_ok (by decide) (by decide)) (Nat.le_of_ble_eq_true rfl) rfl dJ0_indexOf_7cf53_30 ?_
    cases h
  · have h := g_iff c17 h
    refine g_aload_n (pc := 7) dJ0_indexOf_7cf53_7 rfl 0 rfl ?_
    refine g_getO (pc := 8) (v := .ref (b2 + s)) (sOv hE hs) wgJ0_9 dJ0_indexOf_7cf53_8 ?_
    refine g_iload_n (pc := 11) dJ0_indexOf_7cf53_11 rfl 1 rfl ?_
    refine g_iload_n (pc := 12) dJ0_indexOf_7cf53_12 rfl 2 rfl ?_
    refine g_aload_n (pc := 13) dJ0_indexOf_7cf53_13 rfl 0 rfl ?_
    obtain ⟨r23, σ22, h21, h⟩ := g_bId h
    refine g_callVXi (pc := 14) (st := [.int v2, .int v1, .ref (b2 + s)]) hE.1 wvJ0_505 (sRc hE hs) (kJ0_length_8abf5 hE s tx hs σ15 h21) rfl (gR_ok (by decide) (by decide)) (Nat.le_of_ble_eq_true rfl) rfl dJ0_indexOf_7cf53_14 ?_
    obtain ⟨r26, σ25, h24, h⟩ := g_bId h
    refine g_callSi (pc := 17) (st := []) hE.1 wsJ0_637 (kJ1_indexOf_4cfef hE n s tx hs v1 v2 r23 σ22 h24) rfl (gR_ok (by decide) (by decide)) (Nat.le_of_ble_eq_true rfl) rfl dJ0_indexOf_7cf53_17 ?_
    refine g_goto (pc := 20) (tgt := 36) dJ0_indexOf_7cf53_20 (by decide) ?_
    cases h
    exact g_iret (pc := 36) rfl rfl rfl rfl dJ0_indexOf_7cf53_36
def fJ0_indexOf_0f7a4 (n : Nat) (s : Nat) (tx : List Int32) (v1 : Int32) (σ : gM) : Option (Int32 × gM) := g_bI (fJ0_indexOf_7cf53 n s tx v1 0 σ) (fun r6 σ5 => some (r6, σ5))
set_option maxRecDepth 100000 in
theorem kJ0_indexOf_0f7a4 (hE : gES ad X b1 b2 T fmt) (n : Nat) (s : Nat) (tx : List Int32) (hs : ∃ a b, T[s]? = some (a, b, tx))  (v1 : Int32) (σ : gM) {r0 : Int32} {σ' : gM} (h : fJ0_indexOf_0f7a4 n s tx v1 σ = some (r0, σ')) : g_C l dC dI ad ca sh X yJ0_indexOf_0f7a4 cJ0_indexOf_0f7a4 2 (some .int) (gR 3) [.ref (b1 + s), .int v1] σ (some (.int r0)) σ' := by
  refine g_entry (by decide +kernel) (Nat.le_of_ble_eq_true rfl) ?_
  refine g_lvE (lv1 := [(0, .ref (b1 + s)), (1, .int v1)]) rfl ?_
  unfold fJ0_indexOf_0f7a4 at h
  refine g_aload_n (pc := 0) dJ0_indexOf_0f7a4_0 rfl 0 rfl ?_
  refine g_iload_n (pc := 1) dJ0_indexOf_0f7a4_1 rfl 1 rfl ?_
  refine g_iconst (pc := 2) (v := 0) dJ0_indexOf_0f7a4_2 (by decide) ?_
  obtain ⟨r6, σ5, h4, h⟩ := g_bId h
  refine g_callVXi (pc := 3) (st := []) hE.1 wvJ0_633 (sRc hE hs) (kJ0_indexOf_7cf53 hE n s tx hs v1 0 σ h4) rfl (gR_ok (by decide) (by decide)) (Nat.le_of_ble_eq_true rfl) rfl dJ0_indexOf_0f7a4_3 ?_
  cases h
  exact g_iret (pc := 6) rfl rfl rfl rfl dJ0_indexOf_0f7a4_6
end WKS
