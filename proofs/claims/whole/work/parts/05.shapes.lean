def shX : List gE := [.inr (.inl (11, [some (some 1), some (some 5), some (some 6), some (some 9), some (some 14), some (some 19), some (some 24), some (some 25), some (some 27), some (some 29), some (some 31), some (some 33), some (some 34), some none, some none, some none])),
  .inr (.inl (10, [some (some 2), some none, some none, some none, some none, some (some 3), some (some 4), some none, some none, some (some 47)])),
  .inl (.int, 280),
  .inl (.int, 7),
  .inl (.int, 32),
  .inr (.inl (6, [some none, some none, some none, some none, some none, some none, some none, some none, some none, some none])),
  .inr (.inl (1, [some (some 7), some (some 8), some none])),
  .inl (.int, 255),
  .inl (.int, 256),
  .inr (.inl (8, [some (some 5), some (some 10), some (some 12)])),
  .inr (.inl (9, [some (some 11)])),
  .inl (.int, 144),
  .inr (.inl (5, [some (some 5), some (some 6), some (some 13)])),
  .inl (.int, 8),
  .inr (.inl (8, [some (some 5), some (some 15), some (some 17)])),
  .inr (.inl (9, [some (some 16)])),
  .inl (.int, 144),
  .inr (.inl (5, [some (some 5), some (some 6), some (some 18)])),
  .inl (.int, 8),
  .inr (.inl (8, [some (some 5), some (some 20), some (some 22)])),
  .inr (.inl (9, [some (some 21)])),
  .inl (.int, 144),
  .inr (.inl (5, [some (some 5), some (some 6), some (some 23)])),
  .inl (.int, 8),
  .inr (.inl (4, [some (some 9), some (some 5)])),
  .inr (.inl (3, [some (some 26), some none])),
  .inl (.int, 300),
  .inr (.inl (3, [some (some 28), some none])),
  .inl (.int, 300),
  .inr (.inl (2, [some (some 30), some none, some none])),
  .inl (.int, 5760),
  .inr (.inl (0, [some (some 32), none])),
  .inl (.int, 4),
  .inr (.inr [35, 38, 41, 44]),
  .inl (.int, 4),
  .inr (.inl (7, [some (some 36), some (some 37), some none])),
  .inl (.int, 16),
  .inl (.int, 64),
  .inr (.inl (7, [some (some 39), some (some 40), some none])),
  .inl (.int, 16),
  .inl (.int, 64),
  .inr (.inl (7, [some (some 42), some (some 43), some none])),
  .inl (.int, 16),
  .inl (.int, 64),
  .inr (.inl (7, [some (some 45), some (some 46), some none])),
  .inl (.int, 16),
  .inl (.int, 64),
  .inr (.inl (7, [some (some 48), some (some 49), some none])),
  .inl (.int, 16),
  .inl (.int, 64)]
def shM : List gE := [.inr (.inl (12, [some none, some (some 1), some none, some none, some none, some (some 2), some (some 3), some (some 4), some (some 5), some (some 6), some (some 7), some none, some none, some none, some none, some (some 8), some (some 9), some (some 10), some (some 11), some (some 12), some (some 13), some none, some none, some none, some (some 14), some (some 15), some none, some none, some none, some none, some none, none])),
  .inl (.byte, 280),
  .inl (.int, 5),
  .inl (.int, 5),
  .inl (.int, 32),
  .inl (.int, 4),
  .inl (.int, 400),
  .inl (.int, 5),
  .inl (.int, 255),
  .inl (.int, 256),
  .inl (.int, 616),
  .inl (.int, 616),
  .inl (.int, 616),
  .inl (.int, 24640),
  .inl (.int, 8),
  .inl (.boolean, 8)]
theorem sX_shelf {i : Nat} (hi : i < 3) : shX[9 + 5 * i]? = some (.inr (.inl (8, [some (some 5), some (some (10 + 5 * i)), some (some (12 + 5 * i))]))) := by
  rcases (show i = 0 ∨ i = 1 ∨ i = 2 by omega) with rfl | rfl | rfl <;> rfl
theorem sX_state {i : Nat} (hi : i < 3) : shX[10 + 5 * i]? = some (.inr (.inl (9, [some (some (11 + 5 * i))]))) := by
  rcases (show i = 0 ∨ i = 1 ∨ i = 2 by omega) with rfl | rfl | rfl <;> rfl
theorem sX_slots {i : Nat} (hi : i < 3) : shX[11 + 5 * i]? = some (.inl (.int, 144)) := by
  rcases (show i = 0 ∨ i = 1 ∨ i = 2 by omega) with rfl | rfl | rfl <;> rfl
theorem sX_row {i : Nat} (hi : i < 3) : shX[12 + 5 * i]? = some (.inr (.inl (5, [some (some 5), some (some 6), some (some (13 + 5 * i))]))) := by
  rcases (show i = 0 ∨ i = 1 ∨ i = 2 by omega) with rfl | rfl | rfl <;> rfl
theorem sX_rb {i : Nat} (hi : i < 3) : shX[13 + 5 * i]? = some (.inl (.int, 8)) := by
  rcases (show i = 0 ∨ i = 1 ∨ i = 2 by omega) with rfl | rfl | rfl <;> rfl
theorem sX_log {i : Nat} (hi : i < 2) : shX[25 + 2 * i]? = some (.inr (.inl (3, [some (some (26 + 2 * i)), some none]))) := by
  rcases (show i = 0 ∨ i = 1 by omega) with rfl | rfl <;> rfl
theorem sX_ents {i : Nat} (hi : i < 2) : shX[26 + 2 * i]? = some (.inl (.int, 300)) := by
  rcases (show i = 0 ∨ i = 1 by omega) with rfl | rfl <;> rfl
theorem sX_script {i : Nat} (hi : i < 5) : shX[35 + 3 * i]? = some (.inr (.inl (7, [some (some (36 + 3 * i)), some (some (37 + 3 * i)), some none]))) := by
  rcases (show i = 0 ∨ i = 1 ∨ i = 2 ∨ i = 3 ∨ i = 4 by omega) with rfl | rfl | rfl | rfl | rfl <;> rfl
theorem sX_sorts {i : Nat} (hi : i < 5) : shX[36 + 3 * i]? = some (.inl (.int, 16)) := by
  rcases (show i = 0 ∨ i = 1 ∨ i = 2 ∨ i = 3 ∨ i = 4 by omega) with rfl | rfl | rfl | rfl | rfl <;> rfl
theorem sX_nums {i : Nat} (hi : i < 5) : shX[37 + 3 * i]? = some (.inl (.int, 64)) := by
  rcases (show i = 0 ∨ i = 1 ∨ i = 2 ∨ i = 3 ∨ i = 4 by omega) with rfl | rfl | rfl | rfl | rfl <;> rfl
theorem sX_pick {x : Int32} {n : Nat} (h : ¬ (x < 0 ∨ 4 ≤ n)) : ([35, 38, 41, 44] : List Nat)[n]? = some (35 + 3 * n) := by
  have h1 : n < 4 := Nat.lt_of_not_le (fun q => h (Or.inr q))
  rcases (show n = 0 ∨ n = 1 ∨ n = 2 ∨ n = 3 by omega) with rfl | rfl | rfl | rfl <;> rfl
/-! arrays of constants and texts: at places of their own -/
def gxS : List (String × String × List Int32) := [("StripeShelf$Tape", "LOWEST", [2, 1, 1, 0, 0, 0, 0]), ("StripeShelf$Tape", "HIGHEST", [6, 12, 4, 3, 9, 287, 255]), ("StripeShelf$Tape", "WITHOUT", [3, 4, 2, 0, 1, 0, 1]), ("StripeShelf$Script", "NUMBERS", [2, 1, 1, 2, 1, 4, 3, 0, 4]), ("StripeShelf$Field", "POLYNOMIALS", [285, 299, 301, 333])]
/-- texts: the entry of the pool, the signs -/
def gxT : List (Nat × String × List Int32) := [(80, "dtcfkax", [100, 116, 99, 102, 107, 97, 120]), (103, "wlnrspzyf", [119, 108, 110, 114, 115, 112, 122, 121, 102])]
def gmT : List (Nat × String × List Int32) := [(124, "dtcfk", [100, 116, 99, 102, 107]), (130, "ax", [97, 120]), (136, "wlnrspzyf", [119, 108, 110, 114, 115, 112, 122, 121, 102])]
def sIx (c : Int32) : List Int32 → Nat → Int32
  | [], _ => -1
  | b :: l, k => if b = c then nI k else sIx c l (k + 1)
def xIx (k : Nat) (c : Int32) : Int32 := sIx c (gxT.getD k (0, "", [])).2.2 0
def mTx (k : Nat) : List Int32 := (gmT.getD k (0, "", [])).2.2
/-- what the class knows beside its cells -/
def gEX (l : Launch) (dC : Nat → ClassId) (dI : Nat → Nat → Nat) (ad : Nat → Nat) (ca : Nat → ClassId) (X : (Nat → Prop) → State → Heap → Prop) : Prop :=
  g_X X ∧ (∀ A U H, X A U H → ∀ (k : Nat) (q : String × String × List Int32), gxS[k]? = some q → va_Z q.1 q.2.1 "[I" (.ref (ad (1000 + k))) A U H ∧ va_T .int (ad (1000 + k)) q.2.2.length (fun j => .int (q.2.2.getD j 0)) A U H) ∧ (∀ A U H, X A U H → va_Nw (.methodLinkNest RX8 137 yX11_isByte RX11) U) ∧
  (∀ A U H, X A U H → ∀ (k : Nat) (q : Nat × String × List Int32), gxT[k]? = some q → vk_R RX10 q.1 q.2.1 (ad (1010 + k)) U ∧ ∃ cell : Cell, H[ad (1010 + k)]? = some cell ∧ cell.vm.isStatics = false ∧ U.vm.findClass RJ0 = some cell.cls) ∧
  (∀ (k : Nat) (c : Int32) (σ : gM), k < 2 → g_C l dC dI ad ca shX X yJ0_indexOf_0f7a4 cJ0_indexOf_0f7a4 2 (some .int) (gR 3) [.ref (1010 + k), .int c] σ (some (.int (xIx k c))) σ)
/-- what the reference knows beside its cells -/
def gEM (l : Launch) (dC : Nat → ClassId) (dI : Nat → Nat → Nat) (ad : Nat → Nat) (ca : Nat → ClassId) (X : (Nat → Prop) → State → Heap → Prop) : Prop :=
  g_X X ∧ (∀ A U H, X A U H → ∀ (k : Nat) (q : Nat × String × List Int32), gmT[k]? = some q → vk_R RX12 q.1 q.2.1 (ad (1000 + k)) U ∧ ∃ cell : Cell, H[ad (1000 + k)]? = some cell ∧ cell.vm.isStatics = false ∧ U.vm.findClass RJ0 = some cell.cls) ∧
  (∀ (k : Nat) (σ : gM), k < 3 → g_C l dC dI ad ca shM X yJ0_length_8abf5 cJ0_length_8abf5 1 (some .int) (gR 1) [.ref (1000 + k)] σ (some (.int (nI (mTx k).length))) σ) ∧
  (∀ (k j : Nat) (x : Int32) (σ : gM), k < 3 → j < (mTx k).length → x = nI j → g_C l dC dI ad ca shM X yJ0_charAt_5068e cJ0_charAt_5068e 2 (some .char) (gR 3) [.ref (1000 + k), .int x] σ (some (.int ((mTx k).getD j 0))) σ)
section EX
variable {l : Launch} {dC : Nat → ClassId} {dI : Nat → Nat → Nat} {ad : Nat → Nat} {ca : Nat → ClassId} {X : (Nat → Prop) → State → Heap → Prop}
theorem xzA (hE : gEX l dC dI ad ca X) (k : Nat) {q : String × String × List Int32} (h : gxS[k]? = some q) : ∀ A U H, X A U H → va_Z q.1 q.2.1 "[I" (.ref (ad (1000 + k))) A U H := fun A U H hX => (hE.2.1 A U H hX k q h).1
theorem xtA (hE : gEX l dC dI ad ca X) (k : Nat) {q : String × String × List Int32} (h : gxS[k]? = some q) : ∀ A U H, X A U H → va_T .int (ad (1000 + k)) q.2.2.length (fun j => .int (q.2.2.getD j 0)) A U H := fun A U H hX => (hE.2.1 A U H hX k q h).2
theorem xnA (hE : gEX l dC dI ad ca X) : ∀ A U H, X A U H → va_Nw (.methodLinkNest RX8 137 yX11_isByte RX11) U := hE.2.2.1
theorem xkA (hE : gEX l dC dI ad ca X) (k : Nat) {q : Nat × String × List Int32} (h : gxT[k]? = some q) : ∀ A U H, X A U H → vk_R RX10 q.1 q.2.1 (ad (1010 + k)) U := fun A U H hX => (hE.2.2.2.1 A U H hX k q h).1
theorem xrA (hE : gEX l dC dI ad ca X) (k : Nat) {q : Nat × String × List Int32} (h : gxT[k]? = some q) : ∀ A U H, X A U H → ∃ cell : Cell, H[ad (1010 + k)]? = some cell ∧ cell.vm.isStatics = false ∧ U.vm.findClass RJ0 = some cell.cls := fun A U H hX => (hE.2.2.2.1 A U H hX k q h).2
theorem mkA (hE : gEM l dC dI ad ca X) (k : Nat) {q : Nat × String × List Int32} (h : gmT[k]? = some q) : ∀ A U H, X A U H → vk_R RX12 q.1 q.2.1 (ad (1000 + k)) U := fun A U H hX => (hE.2.1 A U H hX k q h).1
theorem mrA (hE : gEM l dC dI ad ca X) (k : Nat) (h : k < 3) : ∀ A U H, X A U H → ∃ cell : Cell, H[ad (1000 + k)]? = some cell ∧ cell.vm.isStatics = false ∧ U.vm.findClass RJ0 = some cell.cls := fun A U H hX => (hE.2.1 A U H hX k _ (List.getElem?_eq_getElem (l := gmT) h)).2
end EX
