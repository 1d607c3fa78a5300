/-! the start: from the constructors to the picture -/
def wX (h0 q1 q2 q3 q4 q5 q6 q7 q13 q14 q15 q16 q20 q21 q22 q23 q26 q27 q28 q29 q30 q33 q34 q35 q36 q37 q40 q19 q41 q42 q44 q45 q47 q48 q50 q51 q53 q54 q55 q56 q57 q60 q61 q62 q65 q66 q67 q70 q71 q72 : Nat) (a8 a9 a10 a11 a12 a17 a18 a24 a25 a31 a32 a38 a39 a43 a46 a49 a52 a53 a54 a58 a59 a63 a64 a68 a69 a73 a74 : ClassId) : va_W := [(h0, .inr (11, [.ref q1, .ref q13, .ref q14, .ref q19, .ref q26, .ref q33, .ref q40, .ref q41, .ref q44, .ref q47, .ref q50, .ref q53, .ref q54, .int 0, .int (-1), .int 0])), (q1, .inr (10, [.ref q2, .int 0, .int 0, .int (-1), .int 0, .ref q3, .ref q4, .int 0, .int 0, .ref q5])), (q2, .inl (a8, 280, .inl (fun _ => 0))), (q3, .inl (a9, 7, .inl (fun _ => 0))), (q4, .inl (a10, 32, .inl (fun _ => 0))), (q5, .inr (7, [.ref q6, .ref q7, .int 0])), (q6, .inl (a11, 16, .inl (fun _ => 0))), (q7, .inl (a12, 64, .inl (fun _ => 0))), (q13, .inr (6, [.int 0, .int 0, .int 0, .int 0, .int 0, .int 0, .int 0, .int 0, .int 0, .int 0])), (q14, .inr (1, [.ref q15, .ref q16, .int 0])), (q15, .inl (a17, 255, .inl (fun _ => 0))), (q16, .inl (a18, 256, .inl (fun _ => 0))), (q20, .inr (9, [.ref q21])), (q21, .inl (a24, 144, .inl (fun _ => 0))), (q22, .inr (5, [.ref q13, .ref q14, .ref q23])), (q23, .inl (a25, 8, .inl (fun _ => 0))), (q26, .inr (8, [.ref q13, .ref q27, .ref q29])), (q27, .inr (9, [.ref q28])), (q28, .inl (a31, 144, .inl (fun _ => 0))), (q29, .inr (5, [.ref q13, .ref q14, .ref q30])), (q30, .inl (a32, 8, .inl (fun _ => 0))), (q33, .inr (8, [.ref q13, .ref q34, .ref q36])), (q34, .inr (9, [.ref q35])), (q35, .inl (a38, 144, .inl (fun _ => 0))), (q36, .inr (5, [.ref q13, .ref q14, .ref q37])), (q37, .inl (a39, 8, .inl (fun _ => 0))), (q40, .inr (4, [.ref q19, .ref q13])), (q19, .inr (8, [.ref q13, .ref q20, .ref q22])), (q41, .inr (3, [.ref q42, .int 0])), (q42, .inl (a43, 300, .inl (fun _ => 0))), (q44, .inr (3, [.ref q45, .int 0])), (q45, .inl (a46, 300, .inl (fun _ => 0))), (q47, .inr (2, [.ref q48, .int 0, .int 0])), (q48, .inl (a49, 5760, .inl (fun _ => 0))), (q50, .inr (0, [.ref q51, .long 0])), (q51, .inl (a52, 4, .inl (fun _ => 0))), (q53, .inl (a53, 4, .inr (.inr (.inr (.inr (va_up (va_up (va_up (va_up (fun _ => none) 0 (some q55)) 1 (some q60)) 2 (some q65)) 3 (some q70))))))), (q54, .inl (a54, 4, .inl (fun _ => 0))), (q55, .inr (7, [.ref q56, .ref q57, .int 0])), (q56, .inl (a58, 16, .inl (fun _ => 0))), (q57, .inl (a59, 64, .inl (fun _ => 0))), (q60, .inr (7, [.ref q61, .ref q62, .int 0])), (q61, .inl (a63, 16, .inl (fun _ => 0))), (q62, .inl (a64, 64, .inl (fun _ => 0))), (q65, .inr (7, [.ref q66, .ref q67, .int 0])), (q66, .inl (a68, 16, .inl (fun _ => 0))), (q67, .inl (a69, 64, .inl (fun _ => 0))), (q70, .inr (7, [.ref q71, .ref q72, .int 0])), (q71, .inl (a73, 16, .inl (fun _ => 0))), (q72, .inl (a74, 64, .inl (fun _ => 0)))]
def wM (h1 r1 r2 r3 r4 r5 r6 r7 r8 r9 r10 r11 r12 r13 r14 r15 : Nat) (e1 e2 e3 e4 e5 e6 e7 e8 e9 e10 e11 e12 e13 e14 e15 : ClassId) : va_W := [(h1, .inr (12, [.int 0, .ref r1, .int 0, .int 0, .int 0, .ref r2, .ref r3, .ref r4, .ref r5, .ref r6, .ref r7, .int 0, .int 0, .int 0, .int 0, .ref r8, .ref r9, .ref r10, .ref r11, .ref r12, .ref r13, .int 0, .int 0, .int 0, .ref r14, .ref r15, .int 0, .int 0, .int 0, .int 0, .int 0, .long 0])), (r1, .inl (e1, 280, .inl (fun _ => 0))), (r2, .inl (e2, 5, .inl (fun _ => 0))), (r3, .inl (e3, 5, .inl (fun _ => 0))), (r4, .inl (e4, 32, .inl (fun _ => 0))), (r5, .inl (e5, 4, .inl (fun _ => 0))), (r6, .inl (e6, 400, .inl (fun _ => 0))), (r7, .inl (e7, 5, .inl (fun _ => 0))), (r8, .inl (e8, 255, .inl (fun _ => 0))), (r9, .inl (e9, 256, .inl (fun _ => 0))), (r10, .inl (e10, 616, .inl (fun _ => 0))), (r11, .inl (e11, 616, .inl (fun _ => 0))), (r12, .inl (e12, 616, .inl (fun _ => 0))), (r13, .inl (e13, 24640, .inl (fun _ => 0))), (r14, .inl (e14, 8, .inl (fun _ => 0))), (r15, .inl (e15, 8, .inl (fun _ => 0)))]
def PXl : List Nat := [0, 1, 2, 3, 4, 8, 9, 10, 11, 27, 12, 13, 14, 15, 16, 17, 18, 19, 20, 21, 22, 23, 24, 25, 26, 28, 29, 30, 31, 32, 33, 34, 35, 36, 37, 38, 39, 40, 41, 42, 43, 44, 45, 46, 47, 48, 49, 5, 6, 7]
def aXl (h0 q1 q2 q3 q4 q5 q6 q7 q13 q14 q15 q16 q20 q21 q22 q23 q26 q27 q28 q29 q30 q33 q34 q35 q36 q37 q40 q19 q41 q42 q44 q45 q47 q48 q50 q51 q53 q54 q55 q56 q57 q60 q61 q62 q65 q66 q67 q70 q71 q72 : Nat) : List Nat := [h0, q1, q2, q3, q4, q13, q14, q15, q16, q19, q20, q21, q22, q23, q26, q27, q28, q29, q30, q33, q34, q35, q36, q37, q40, q41, q42, q44, q45, q47, q48, q50, q51, q53, q54, q55, q56, q57, q60, q61, q62, q65, q66, q67, q70, q71, q72, q5, q6, q7]
def aMl (h1 r1 r2 r3 r4 r5 r6 r7 r8 r9 r10 r11 r12 r13 r14 r15 : Nat) : List Nat := [h1, r1, r2, r3, r4, r5, r6, r7, r8, r9, r10, r11, r12, r13, r14, r15]
def cXl (a8 a9 a10 a11 a12 a17 a18 a24 a25 a31 a32 a38 a39 a43 a46 a49 a52 a53 a54 a58 a59 a63 a64 a68 a69 a73 a74 : ClassId) : List ClassId := [0, 0, a8, a9, a10, 0, 0, a17, a18, 0, 0, a24, 0, a25, 0, 0, a31, 0, a32, 0, 0, a38, 0, a39, 0, 0, a43, 0, a46, 0, a49, 0, a52, a53, a54, 0, a58, a59, 0, a63, a64, 0, a68, a69, 0, a73, a74, 0, a11, a12]
def cMl (e1 e2 e3 e4 e5 e6 e7 e8 e9 e10 e11 e12 e13 e14 e15 : ClassId) : List ClassId := [0, e1, e2, e3, e4, e5, e6, e7, e8, e9, e10, e11, e12, e13, e14, e15]
set_option maxRecDepth 100000 in
theorem conv_X {D : va_G} {H : Heap} {f : Nat → Nat} {h0 q1 q2 q3 q4 q5 q6 q7 q13 q14 q15 q16 q20 q21 q22 q23 q26 q27 q28 q29 q30 q33 q34 q35 q36 q37 q40 q19 q41 q42 q44 q45 q47 q48 q50 q51 q53 q54 q55 q56 q57 q60 q61 q62 q65 q66 q67 q70 q71 q72 : Nat} {a8 a9 a10 a11 a12 a17 a18 a24 a25 a31 a32 a38 a39 a43 a46 a49 a52 a53 a54 a58 a59 a63 a64 a68 a69 a73 a74 : ClassId} (hP : va_P D vwCl (wX h0 q1 q2 q3 q4 q5 q6 q7 q13 q14 q15 q16 q20 q21 q22 q23 q26 q27 q28 q29 q30 q33 q34 q35 q36 q37 q40 q19 q41 q42 q44 q45 q47 q48 q50 q51 q53 q54 q55 q56 q57 q60 q61 q62 q65 q66 q67 q70 q71 q72 a8 a9 a10 a11 a12 a17 a18 a24 a25 a31 a32 a38 a39 a43 a46 a49 a52 a53 a54 a58 a59 a63 a64 a68 a69 a73 a74) H) : va_P D vwCl (g_w (adC (aXl h0 q1 q2 q3 q4 q5 q6 q7 q13 q14 q15 q16 q20 q21 q22 q23 q26 q27 q28 q29 q30 q33 q34 q35 q36 q37 q40 q19 q41 q42 q44 q45 q47 q48 q50 q51 q53 q54 q55 q56 q57 q60 q61 q62 q65 q66 q67 q70 q71 q72) f) (fun k => (cXl a8 a9 a10 a11 a12 a17 a18 a24 a25 a31 a32 a38 a39 a43 a46 a49 a52 a53 a54 a58 a59 a63 a64 a68 a69 a73 a74).getD k 0) shX sX0) H := by
  have e33 : (fun j => (([35, 38, 41, 44] : List Nat)[j]?).map (adC (aXl h0 q1 q2 q3 q4 q5 q6 q7 q13 q14 q15 q16 q20 q21 q22 q23 q26 q27 q28 q29 q30 q33 q34 q35 q36 q37 q40 q19 q41 q42 q44 q45 q47 q48 q50 q51 q53 q54 q55 q56 q57 q60 q61 q62 q65 q66 q67 q70 q71 q72) f)) = va_up (va_up (va_up (va_up (fun _ => none) 0 (some q55)) 1 (some q60)) 2 (some q65)) 3 (some q70) := by
    funext j
    match j with
    | 0 => rfl
    | 1 => rfl
    | 2 => rfl
    | 3 => rfl
    | j + 4 =>
      unfold va_up
      rw [if_neg (by omega), if_neg (by omega), if_neg (by omega), if_neg (by omega)]
      rfl
  intro k q hk
  obtain ⟨hlt, -⟩ := g_w_of hk
  match k, hk with
  | 0, hk =>
    rw [g_w_at (sh := shX) (k := 0) rfl] at hk
    cases hk
    exact hP 0 _ rfl
  | 1, hk =>
    rw [g_w_at (sh := shX) (k := 1) rfl] at hk
    cases hk
    exact hP 1 _ rfl
  | 2, hk =>
    rw [g_w_at (sh := shX) (k := 2) rfl] at hk
    cases hk
    exact hP 2 _ rfl
  | 3, hk =>
    rw [g_w_at (sh := shX) (k := 3) rfl] at hk
    cases hk
    exact hP 3 _ rfl
  | 4, hk =>
    rw [g_w_at (sh := shX) (k := 4) rfl] at hk
    cases hk
    exact hP 4 _ rfl
  | 5, hk =>
    rw [g_w_at (sh := shX) (k := 5) rfl] at hk
    cases hk
    exact hP 8 _ rfl
  | 6, hk =>
    rw [g_w_at (sh := shX) (k := 6) rfl] at hk
    cases hk
    exact hP 9 _ rfl
  | 7, hk =>
    rw [g_w_at (sh := shX) (k := 7) rfl] at hk
    cases hk
    exact hP 10 _ rfl
  | 8, hk =>
    rw [g_w_at (sh := shX) (k := 8) rfl] at hk
    cases hk
    exact hP 11 _ rfl
  | 9, hk =>
    rw [g_w_at (sh := shX) (k := 9) rfl] at hk
    cases hk
    exact hP 27 _ rfl
  | 10, hk =>
    rw [g_w_at (sh := shX) (k := 10) rfl] at hk
    cases hk
    exact hP 12 _ rfl
  | 11, hk =>
    rw [g_w_at (sh := shX) (k := 11) rfl] at hk
    cases hk
    exact hP 13 _ rfl
  | 12, hk =>
    rw [g_w_at (sh := shX) (k := 12) rfl] at hk
    cases hk
    exact hP 14 _ rfl
  | 13, hk =>
    rw [g_w_at (sh := shX) (k := 13) rfl] at hk
    cases hk
    exact hP 15 _ rfl
  | 14, hk =>
    rw [g_w_at (sh := shX) (k := 14) rfl] at hk
    cases hk
    exact hP 16 _ rfl
  | 15, hk =>
    rw [g_w_at (sh := shX) (k := 15) rfl] at hk
    cases hk
    exact hP 17 _ rfl
  | 16, hk =>
    rw [g_w_at (sh := shX) (k := 16) rfl] at hk
    cases hk
    exact hP 18 _ rfl
  | 17, hk =>
    rw [g_w_at (sh := shX) (k := 17) rfl] at hk
    cases hk
    exact hP 19 _ rfl
  | 18, hk =>
    rw [g_w_at (sh := shX) (k := 18) rfl] at hk
    cases hk
    exact hP 20 _ rfl
  | 19, hk =>
    rw [g_w_at (sh := shX) (k := 19) rfl] at hk
    cases hk
    exact hP 21 _ rfl
  | 20, hk =>
    rw [g_w_at (sh := shX) (k := 20) rfl] at hk
    cases hk
    exact hP 22 _ rfl
  | 21, hk =>
    rw [g_w_at (sh := shX) (k := 21) rfl] at hk
    cases hk
    exact hP 23 _ rfl
  | 22, hk =>
    rw [g_w_at (sh := shX) (k := 22) rfl] at hk
    cases hk
    exact hP 24 _ rfl
  | 23, hk =>
    rw [g_w_at (sh := shX) (k := 23) rfl] at hk
    cases hk
    exact hP 25 _ rfl
  | 24, hk =>
    rw [g_w_at (sh := shX) (k := 24) rfl] at hk
    cases hk
    exact hP 26 _ rfl
  | 25, hk =>
    rw [g_w_at (sh := shX) (k := 25) rfl] at hk
    cases hk
    exact hP 28 _ rfl
  | 26, hk =>
    rw [g_w_at (sh := shX) (k := 26) rfl] at hk
    cases hk
    exact hP 29 _ rfl
  | 27, hk =>
    rw [g_w_at (sh := shX) (k := 27) rfl] at hk
    cases hk
    exact hP 30 _ rfl
  | 28, hk =>
    rw [g_w_at (sh := shX) (k := 28) rfl] at hk
    cases hk
    exact hP 31 _ rfl
  | 29, hk =>
    rw [g_w_at (sh := shX) (k := 29) rfl] at hk
    cases hk
    exact hP 32 _ rfl
  | 30, hk =>
    rw [g_w_at (sh := shX) (k := 30) rfl] at hk
    cases hk
    exact hP 33 _ rfl
  | 31, hk =>
    rw [g_w_at (sh := shX) (k := 31) rfl] at hk
    cases hk
    exact hP 34 _ rfl
  | 32, hk =>
    rw [g_w_at (sh := shX) (k := 32) rfl] at hk
    cases hk
    exact hP 35 _ rfl
  | 33, hk =>
    rw [g_w_at (sh := shX) (k := 33) rfl] at hk
    cases hk
    have h9 := hP 36 _ rfl
    rw [← e33] at h9
    exact h9
  | 34, hk =>
    rw [g_w_at (sh := shX) (k := 34) rfl] at hk
    cases hk
    exact hP 37 _ rfl
  | 35, hk =>
    rw [g_w_at (sh := shX) (k := 35) rfl] at hk
    cases hk
    exact hP 38 _ rfl
  | 36, hk =>
    rw [g_w_at (sh := shX) (k := 36) rfl] at hk
    cases hk
    exact hP 39 _ rfl
  | 37, hk =>
    rw [g_w_at (sh := shX) (k := 37) rfl] at hk
    cases hk
    exact hP 40 _ rfl
  | 38, hk =>
    rw [g_w_at (sh := shX) (k := 38) rfl] at hk
    cases hk
    exact hP 41 _ rfl
  | 39, hk =>
    rw [g_w_at (sh := shX) (k := 39) rfl] at hk
    cases hk
    exact hP 42 _ rfl
  | 40, hk =>
    rw [g_w_at (sh := shX) (k := 40) rfl] at hk
    cases hk
    exact hP 43 _ rfl
  | 41, hk =>
    rw [g_w_at (sh := shX) (k := 41) rfl] at hk
    cases hk
    exact hP 44 _ rfl
  | 42, hk =>
    rw [g_w_at (sh := shX) (k := 42) rfl] at hk
    cases hk
    exact hP 45 _ rfl
  | 43, hk =>
    rw [g_w_at (sh := shX) (k := 43) rfl] at hk
    cases hk
    exact hP 46 _ rfl
  | 44, hk =>
    rw [g_w_at (sh := shX) (k := 44) rfl] at hk
    cases hk
    exact hP 47 _ rfl
  | 45, hk =>
    rw [g_w_at (sh := shX) (k := 45) rfl] at hk
    cases hk
    exact hP 48 _ rfl
  | 46, hk =>
    rw [g_w_at (sh := shX) (k := 46) rfl] at hk
    cases hk
    exact hP 49 _ rfl
  | 47, hk =>
    rw [g_w_at (sh := shX) (k := 47) rfl] at hk
    cases hk
    exact hP 5 _ rfl
  | 48, hk =>
    rw [g_w_at (sh := shX) (k := 48) rfl] at hk
    cases hk
    exact hP 6 _ rfl
  | 49, hk =>
    rw [g_w_at (sh := shX) (k := 49) rfl] at hk
    cases hk
    exact hP 7 _ rfl
  | k + 50, hk => exact absurd hlt (by show ¬ k + 50 < 50; omega)
set_option maxRecDepth 100000 in
theorem conv_M {D : va_G} {H : Heap} {g : Nat → Nat} {h1 r1 r2 r3 r4 r5 r6 r7 r8 r9 r10 r11 r12 r13 r14 r15 : Nat} {e1 e2 e3 e4 e5 e6 e7 e8 e9 e10 e11 e12 e13 e14 e15 : ClassId} (hP : va_P D vwCl (wM h1 r1 r2 r3 r4 r5 r6 r7 r8 r9 r10 r11 r12 r13 r14 r15 e1 e2 e3 e4 e5 e6 e7 e8 e9 e10 e11 e12 e13 e14 e15) H) : va_P D vwCl (g_w (adC (aMl h1 r1 r2 r3 r4 r5 r6 r7 r8 r9 r10 r11 r12 r13 r14 r15) g) (fun k => (cMl e1 e2 e3 e4 e5 e6 e7 e8 e9 e10 e11 e12 e13 e14 e15).getD k 0) shM sM0) H := by
  intro k q hk
  obtain ⟨hlt, -⟩ := g_w_of hk
  match k, hk with
  | 0, hk =>
    rw [g_w_at (sh := shM) (k := 0) rfl] at hk
    cases hk
    exact hP 0 _ rfl
  | 1, hk =>
    rw [g_w_at (sh := shM) (k := 1) rfl] at hk
    cases hk
    exact hP 1 _ rfl
  | 2, hk =>
    rw [g_w_at (sh := shM) (k := 2) rfl] at hk
    cases hk
    exact hP 2 _ rfl
  | 3, hk =>
    rw [g_w_at (sh := shM) (k := 3) rfl] at hk
    cases hk
    exact hP 3 _ rfl
  | 4, hk =>
    rw [g_w_at (sh := shM) (k := 4) rfl] at hk
    cases hk
    exact hP 4 _ rfl
  | 5, hk =>
    rw [g_w_at (sh := shM) (k := 5) rfl] at hk
    cases hk
    exact hP 5 _ rfl
  | 6, hk =>
    rw [g_w_at (sh := shM) (k := 6) rfl] at hk
    cases hk
    exact hP 6 _ rfl
  | 7, hk =>
    rw [g_w_at (sh := shM) (k := 7) rfl] at hk
    cases hk
    exact hP 7 _ rfl
  | 8, hk =>
    rw [g_w_at (sh := shM) (k := 8) rfl] at hk
    cases hk
    exact hP 8 _ rfl
  | 9, hk =>
    rw [g_w_at (sh := shM) (k := 9) rfl] at hk
    cases hk
    exact hP 9 _ rfl
  | 10, hk =>
    rw [g_w_at (sh := shM) (k := 10) rfl] at hk
    cases hk
    exact hP 10 _ rfl
  | 11, hk =>
    rw [g_w_at (sh := shM) (k := 11) rfl] at hk
    cases hk
    exact hP 11 _ rfl
  | 12, hk =>
    rw [g_w_at (sh := shM) (k := 12) rfl] at hk
    cases hk
    exact hP 12 _ rfl
  | 13, hk =>
    rw [g_w_at (sh := shM) (k := 13) rfl] at hk
    cases hk
    exact hP 13 _ rfl
  | 14, hk =>
    rw [g_w_at (sh := shM) (k := 14) rfl] at hk
    cases hk
    exact hP 14 _ rfl
  | 15, hk =>
    rw [g_w_at (sh := shM) (k := 15) rfl] at hk
    cases hk
    exact hP 15 _ rfl
  | k + 16, hk => exact absurd hlt (by show ¬ k + 16 < 16; omega)
set_option maxRecDepth 100000 in
theorem tys_X {D : va_G} {U : State} {a8 a9 a10 a11 a12 a17 a18 a24 a25 a31 a32 a38 a39 a43 a46 a49 a52 a53 a54 a58 a59 a63 a64 a68 a69 a73 a74 : ClassId} (hK : va_K D vwCl [(a8, .int), (a9, .int), (a10, .int), (a11, .int), (a12, .int), (a17, .int), (a18, .int), (a24, .int), (a25, .int), (a31, .int), (a32, .int), (a38, .int), (a39, .int), (a43, .int), (a46, .int), (a49, .int), (a52, .int), (a53, .object RX7), (a54, .int), (a58, .int), (a59, .int), (a63, .int), (a64, .int), (a68, .int), (a69, .int), (a73, .int), (a74, .int)] U) : va_K D vwCl (g_tys (fun k => (cXl a8 a9 a10 a11 a12 a17 a18 a24 a25 a31 a32 a38 a39 a43 a46 a49 a52 a53 a54 a58 a59 a63 a64 a68 a69 a73 a74).getD k 0) shX) U := hK.sub [0, 1, 2, 5, 6, 7, 8, 9, 10, 11, 12, 13, 14, 15, 16, 17, 18, 19, 20, 21, 22, 23, 24, 25, 26, 3, 4] rfl
set_option maxRecDepth 100000 in
theorem tys_M {D : va_G} {U : State} {e1 e2 e3 e4 e5 e6 e7 e8 e9 e10 e11 e12 e13 e14 e15 : ClassId} (hK : va_K D vwCl [(e1, .byte), (e2, .int), (e3, .int), (e4, .int), (e5, .int), (e6, .int), (e7, .int), (e8, .int), (e9, .int), (e10, .int), (e11, .int), (e12, .int), (e13, .int), (e14, .int), (e15, .boolean)] U) : va_K D vwCl (g_tys (fun k => (cMl e1 e2 e3 e4 e5 e6 e7 e8 e9 e10 e11 e12 e13 e14 e15).getD k 0) shM) U := hK.sub [0, 1, 2, 3, 4, 5, 6, 7, 8, 9, 10, 11, 12, 13, 14] rfl
set_option maxRecDepth 100000 in
theorem pos_X {f : Nat → Nat} {h0 q1 q2 q3 q4 q5 q6 q7 q13 q14 q15 q16 q20 q21 q22 q23 q26 q27 q28 q29 q30 q33 q34 q35 q36 q37 q40 q19 q41 q42 q44 q45 q47 q48 q50 q51 q53 q54 q55 q56 q57 q60 q61 q62 q65 q66 q67 q70 q71 q72 : Nat} {a8 a9 a10 a11 a12 a17 a18 a24 a25 a31 a32 a38 a39 a43 a46 a49 a52 a53 a54 a58 a59 a63 a64 a68 a69 a73 a74 : ClassId} : ∀ i, i < 50 → ∃ e, (wX h0 q1 q2 q3 q4 q5 q6 q7 q13 q14 q15 q16 q20 q21 q22 q23 q26 q27 q28 q29 q30 q33 q34 q35 q36 q37 q40 q19 q41 q42 q44 q45 q47 q48 q50 q51 q53 q54 q55 q56 q57 q60 q61 q62 q65 q66 q67 q70 q71 q72 a8 a9 a10 a11 a12 a17 a18 a24 a25 a31 a32 a38 a39 a43 a46 a49 a52 a53 a54 a58 a59 a63 a64 a68 a69 a73 a74)[PXl.getD i 0]? = some ((adC (aXl h0 q1 q2 q3 q4 q5 q6 q7 q13 q14 q15 q16 q20 q21 q22 q23 q26 q27 q28 q29 q30 q33 q34 q35 q36 q37 q40 q19 q41 q42 q44 q45 q47 q48 q50 q51 q53 q54 q55 q56 q57 q60 q61 q62 q65 q66 q67 q70 q71 q72) f) i, e) := by
  intro i hi
  match i, hi with
  | 0, _ => exact ⟨_, rfl⟩
  | 1, _ => exact ⟨_, rfl⟩
  | 2, _ => exact ⟨_, rfl⟩
  | 3, _ => exact ⟨_, rfl⟩
  | 4, _ => exact ⟨_, rfl⟩
  | 5, _ => exact ⟨_, rfl⟩
  | 6, _ => exact ⟨_, rfl⟩
  | 7, _ => exact ⟨_, rfl⟩
  | 8, _ => exact ⟨_, rfl⟩
  | 9, _ => exact ⟨_, rfl⟩
  | 10, _ => exact ⟨_, rfl⟩
  | 11, _ => exact ⟨_, rfl⟩
  | 12, _ => exact ⟨_, rfl⟩
  | 13, _ => exact ⟨_, rfl⟩
  | 14, _ => exact ⟨_, rfl⟩
  | 15, _ => exact ⟨_, rfl⟩
  | 16, _ => exact ⟨_, rfl⟩
  | 17, _ => exact ⟨_, rfl⟩
  | 18, _ => exact ⟨_, rfl⟩
  | 19, _ => exact ⟨_, rfl⟩
  | 20, _ => exact ⟨_, rfl⟩
  | 21, _ => exact ⟨_, rfl⟩
  | 22, _ => exact ⟨_, rfl⟩
  | 23, _ => exact ⟨_, rfl⟩
  | 24, _ => exact ⟨_, rfl⟩
  | 25, _ => exact ⟨_, rfl⟩
  | 26, _ => exact ⟨_, rfl⟩
  | 27, _ => exact ⟨_, rfl⟩
  | 28, _ => exact ⟨_, rfl⟩
  | 29, _ => exact ⟨_, rfl⟩
  | 30, _ => exact ⟨_, rfl⟩
  | 31, _ => exact ⟨_, rfl⟩
  | 32, _ => exact ⟨_, rfl⟩
  | 33, _ => exact ⟨_, rfl⟩
  | 34, _ => exact ⟨_, rfl⟩
  | 35, _ => exact ⟨_, rfl⟩
  | 36, _ => exact ⟨_, rfl⟩
  | 37, _ => exact ⟨_, rfl⟩
  | 38, _ => exact ⟨_, rfl⟩
  | 39, _ => exact ⟨_, rfl⟩
  | 40, _ => exact ⟨_, rfl⟩
  | 41, _ => exact ⟨_, rfl⟩
  | 42, _ => exact ⟨_, rfl⟩
  | 43, _ => exact ⟨_, rfl⟩
  | 44, _ => exact ⟨_, rfl⟩
  | 45, _ => exact ⟨_, rfl⟩
  | 46, _ => exact ⟨_, rfl⟩
  | 47, _ => exact ⟨_, rfl⟩
  | 48, _ => exact ⟨_, rfl⟩
  | 49, _ => exact ⟨_, rfl⟩
  | i + 50, hi => omega
set_option maxRecDepth 100000 in
theorem pos_M {g : Nat → Nat} {h1 r1 r2 r3 r4 r5 r6 r7 r8 r9 r10 r11 r12 r13 r14 r15 : Nat} {e1 e2 e3 e4 e5 e6 e7 e8 e9 e10 e11 e12 e13 e14 e15 : ClassId} : ∀ i, i < 16 → ∃ e, (wM h1 r1 r2 r3 r4 r5 r6 r7 r8 r9 r10 r11 r12 r13 r14 r15 e1 e2 e3 e4 e5 e6 e7 e8 e9 e10 e11 e12 e13 e14 e15)[i]? = some ((adC (aMl h1 r1 r2 r3 r4 r5 r6 r7 r8 r9 r10 r11 r12 r13 r14 r15) g) i, e) := by
  intro i hi
  match i, hi with
  | 0, _ => exact ⟨_, rfl⟩
  | 1, _ => exact ⟨_, rfl⟩
  | 2, _ => exact ⟨_, rfl⟩
  | 3, _ => exact ⟨_, rfl⟩
  | 4, _ => exact ⟨_, rfl⟩
  | 5, _ => exact ⟨_, rfl⟩
  | 6, _ => exact ⟨_, rfl⟩
  | 7, _ => exact ⟨_, rfl⟩
  | 8, _ => exact ⟨_, rfl⟩
  | 9, _ => exact ⟨_, rfl⟩
  | 10, _ => exact ⟨_, rfl⟩
  | 11, _ => exact ⟨_, rfl⟩
  | 12, _ => exact ⟨_, rfl⟩
  | 13, _ => exact ⟨_, rfl⟩
  | 14, _ => exact ⟨_, rfl⟩
  | 15, _ => exact ⟨_, rfl⟩
  | i + 16, hi => omega
theorem PX_ok : ∀ i, i < 50 → PXl.getD i 0 < 50 ∧ ∀ j, j < 50 → PXl.getD i 0 = PXl.getD j 0 → i = j := by decide +kernel
