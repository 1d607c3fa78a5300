/-! a put, and what it makes of the shelf -/
theorem XS_how {C d p : Nat} {s : Sh} {σ : gM} {x : Nat} (h : XS C s (σ.1 p)) (hd : d < 8) : XS C (s.w_how (ud s.how d x)) ((g_put σ p (96 + d) (nI x)).1 p) := by
  refine ⟨?_, ?_, ?_, ?_, ?_, ?_, ?_, ?_, ?_, ?_, ?_, ?_, ?_, ?_⟩
  · exact fun e t b he ht hb hn => by
        unfold rb
        rw [gp_k, if_neg (by omega)]
        exact h.byt e t b he ht hb hn
  · exact fun e he => by
        rw [gp_k]
        show _ = nI (ud s.how d x e)
        unfold ud
        by_cases q : e = d
        · rw [if_pos (by omega), if_pos q]
        · rw [if_neg (by omega), if_neg q]
          exact h.how e he
  · exact fun e he => by
        rw [gp_k, if_neg (by omega)]
        exact h.don e he
  · exact fun e he => by
        rw [gp_k, if_neg (by omega)]
        exact h.rd e he
  · exact fun e he => by
        rw [gp_k, if_neg (by omega)]
        exact h.wr e he
  · exact fun e he => by
        rw [gp_k, if_neg (by omega)]
        exact h.md e he
  · exact by
        rw [gp_k, if_neg (by omega)]
        exact h.sp
  · exact by
        rw [gp_k, if_neg (by omega)]
        exact h.op
  · exact by
        rw [gp_k, if_neg (by omega)]
        exact h.ps
  · exact by
        rw [gp_k, if_neg (by omega)]
        exact h.nx
  · exact by
        rw [gp_k, if_neg (by omega)]
        exact h.di
  · exact by
        rw [gp_k, if_neg (by omega)]
        exact h.l0
  · exact by
        rw [gp_k, if_neg (by omega)]
        exact h.l1
  · exact by
        rw [gp_k, if_neg (by omega)]
        exact h.l2
theorem XS_don {C d p : Nat} {s : Sh} {σ : gM} {x : Nat} (h : XS C s (σ.1 p)) (hd : d < 8) (hb : ∀ t b, t < 12 → b < C → t < x → rb (σ.1 p) d t b = nI (s.byt d t b)) : XS C (s.w_don (ud s.don d x)) ((g_put σ p (104 + d) (nI x)).1 p) := by
  refine ⟨?_, ?_, ?_, ?_, ?_, ?_, ?_, ?_, ?_, ?_, ?_, ?_, ?_, ?_⟩
  · exact fun e t b he ht hb' hn => by
        unfold rb
        rw [gp_k, if_neg (by omega)]
        have hn' : t < ud s.don d x e := hn
        unfold ud at hn'
        by_cases q : e = d
        · rw [if_pos q] at hn'
          subst q
          exact hb t b ht hb' hn'
        · rw [if_neg q] at hn'
          exact h.byt e t b he ht hb' hn'
  · exact fun e he => by
        rw [gp_k, if_neg (by omega)]
        exact h.how e he
  · exact fun e he => by
        rw [gp_k]
        show _ = nI (ud s.don d x e)
        unfold ud
        by_cases q : e = d
        · rw [if_pos (by omega), if_pos q]
        · rw [if_neg (by omega), if_neg q]
          exact h.don e he
  · exact fun e he => by
        rw [gp_k, if_neg (by omega)]
        exact h.rd e he
  · exact fun e he => by
        rw [gp_k, if_neg (by omega)]
        exact h.wr e he
  · exact fun e he => by
        rw [gp_k, if_neg (by omega)]
        exact h.md e he
  · exact by
        rw [gp_k, if_neg (by omega)]
        exact h.sp
  · exact by
        rw [gp_k, if_neg (by omega)]
        exact h.op
  · exact by
        rw [gp_k, if_neg (by omega)]
        exact h.ps
  · exact by
        rw [gp_k, if_neg (by omega)]
        exact h.nx
  · exact by
        rw [gp_k, if_neg (by omega)]
        exact h.di
  · exact by
        rw [gp_k, if_neg (by omega)]
        exact h.l0
  · exact by
        rw [gp_k, if_neg (by omega)]
        exact h.l1
  · exact by
        rw [gp_k, if_neg (by omega)]
        exact h.l2
theorem XS_rd {C d p : Nat} {s : Sh} {σ : gM} {x : Nat} (h : XS C s (σ.1 p)) (hd : d < 8) : XS C (s.w_rd (ud s.rd d x)) ((g_put σ p (112 + d) (nI x)).1 p) := by
  refine ⟨?_, ?_, ?_, ?_, ?_, ?_, ?_, ?_, ?_, ?_, ?_, ?_, ?_, ?_⟩
  · exact fun e t b he ht hb hn => by
        unfold rb
        rw [gp_k, if_neg (by omega)]
        exact h.byt e t b he ht hb hn
  · exact fun e he => by
        rw [gp_k, if_neg (by omega)]
        exact h.how e he
  · exact fun e he => by
        rw [gp_k, if_neg (by omega)]
        exact h.don e he
  · exact fun e he => by
        rw [gp_k]
        show _ = nI (ud s.rd d x e)
        unfold ud
        by_cases q : e = d
        · rw [if_pos (by omega), if_pos q]
        · rw [if_neg (by omega), if_neg q]
          exact h.rd e he
  · exact fun e he => by
        rw [gp_k, if_neg (by omega)]
        exact h.wr e he
  · exact fun e he => by
        rw [gp_k, if_neg (by omega)]
        exact h.md e he
  · exact by
        rw [gp_k, if_neg (by omega)]
        exact h.sp
  · exact by
        rw [gp_k, if_neg (by omega)]
        exact h.op
  · exact by
        rw [gp_k, if_neg (by omega)]
        exact h.ps
  · exact by
        rw [gp_k, if_neg (by omega)]
        exact h.nx
  · exact by
        rw [gp_k, if_neg (by omega)]
        exact h.di
  · exact by
        rw [gp_k, if_neg (by omega)]
        exact h.l0
  · exact by
        rw [gp_k, if_neg (by omega)]
        exact h.l1
  · exact by
        rw [gp_k, if_neg (by omega)]
        exact h.l2
theorem XS_wr {C d p : Nat} {s : Sh} {σ : gM} {x : Nat} (h : XS C s (σ.1 p)) (hd : d < 8) : XS C (s.w_wr (ud s.wr d x)) ((g_put σ p (120 + d) (nI x)).1 p) := by
  refine ⟨?_, ?_, ?_, ?_, ?_, ?_, ?_, ?_, ?_, ?_, ?_, ?_, ?_, ?_⟩
  · exact fun e t b he ht hb hn => by
        unfold rb
        rw [gp_k, if_neg (by omega)]
        exact h.byt e t b he ht hb hn
  · exact fun e he => by
        rw [gp_k, if_neg (by omega)]
        exact h.how e he
  · exact fun e he => by
        rw [gp_k, if_neg (by omega)]
        exact h.don e he
  · exact fun e he => by
        rw [gp_k, if_neg (by omega)]
        exact h.rd e he
  · exact fun e he => by
        rw [gp_k]
        show _ = nI (ud s.wr d x e)
        unfold ud
        by_cases q : e = d
        · rw [if_pos (by omega), if_pos q]
        · rw [if_neg (by omega), if_neg q]
          exact h.wr e he
  · exact fun e he => by
        rw [gp_k, if_neg (by omega)]
        exact h.md e he
  · exact by
        rw [gp_k, if_neg (by omega)]
        exact h.sp
  · exact by
        rw [gp_k, if_neg (by omega)]
        exact h.op
  · exact by
        rw [gp_k, if_neg (by omega)]
        exact h.ps
  · exact by
        rw [gp_k, if_neg (by omega)]
        exact h.nx
  · exact by
        rw [gp_k, if_neg (by omega)]
        exact h.di
  · exact by
        rw [gp_k, if_neg (by omega)]
        exact h.l0
  · exact by
        rw [gp_k, if_neg (by omega)]
        exact h.l1
  · exact by
        rw [gp_k, if_neg (by omega)]
        exact h.l2
theorem XS_md {C d p : Nat} {s : Sh} {σ : gM} {x : Nat} (h : XS C s (σ.1 p)) (hd : d < 8) : XS C (s.w_md (ud s.md d x)) ((g_put σ p (128 + d) (nI x)).1 p) := by
  refine ⟨?_, ?_, ?_, ?_, ?_, ?_, ?_, ?_, ?_, ?_, ?_, ?_, ?_, ?_⟩
  · exact fun e t b he ht hb hn => by
        unfold rb
        rw [gp_k, if_neg (by omega)]
        exact h.byt e t b he ht hb hn
  · exact fun e he => by
        rw [gp_k, if_neg (by omega)]
        exact h.how e he
  · exact fun e he => by
        rw [gp_k, if_neg (by omega)]
        exact h.don e he
  · exact fun e he => by
        rw [gp_k, if_neg (by omega)]
        exact h.rd e he
  · exact fun e he => by
        rw [gp_k, if_neg (by omega)]
        exact h.wr e he
  · exact fun e he => by
        rw [gp_k]
        show _ = nI (ud s.md d x e)
        unfold ud
        by_cases q : e = d
        · rw [if_pos (by omega), if_pos q]
        · rw [if_neg (by omega), if_neg q]
          exact h.md e he
  · exact by
        rw [gp_k, if_neg (by omega)]
        exact h.sp
  · exact by
        rw [gp_k, if_neg (by omega)]
        exact h.op
  · exact by
        rw [gp_k, if_neg (by omega)]
        exact h.ps
  · exact by
        rw [gp_k, if_neg (by omega)]
        exact h.nx
  · exact by
        rw [gp_k, if_neg (by omega)]
        exact h.di
  · exact by
        rw [gp_k, if_neg (by omega)]
        exact h.l0
  · exact by
        rw [gp_k, if_neg (by omega)]
        exact h.l1
  · exact by
        rw [gp_k, if_neg (by omega)]
        exact h.l2
theorem XS_sp {C p : Nat} {s : Sh} {σ : gM} {x : Nat} (h : XS C s (σ.1 p)) : XS C (s.w_sp x) ((g_put σ p 136 (nI x)).1 p) := by
  refine ⟨?_, ?_, ?_, ?_, ?_, ?_, ?_, ?_, ?_, ?_, ?_, ?_, ?_, ?_⟩
  · exact fun e t b he ht hb hn => by
        unfold rb
        rw [gp_k, if_neg (by omega)]
        exact h.byt e t b he ht hb hn
  · exact fun e he => by
        rw [gp_k, if_neg (by omega)]
        exact h.how e he
  · exact fun e he => by
        rw [gp_k, if_neg (by omega)]
        exact h.don e he
  · exact fun e he => by
        rw [gp_k, if_neg (by omega)]
        exact h.rd e he
  · exact fun e he => by
        rw [gp_k, if_neg (by omega)]
        exact h.wr e he
  · exact fun e he => by
        rw [gp_k, if_neg (by omega)]
        exact h.md e he
  · exact by
        rw [gp_k, if_pos rfl]
        rfl
  · exact by
        rw [gp_k, if_neg (by omega)]
        exact h.op
  · exact by
        rw [gp_k, if_neg (by omega)]
        exact h.ps
  · exact by
        rw [gp_k, if_neg (by omega)]
        exact h.nx
  · exact by
        rw [gp_k, if_neg (by omega)]
        exact h.di
  · exact by
        rw [gp_k, if_neg (by omega)]
        exact h.l0
  · exact by
        rw [gp_k, if_neg (by omega)]
        exact h.l1
  · exact by
        rw [gp_k, if_neg (by omega)]
        exact h.l2
theorem XS_op {C p : Nat} {s : Sh} {σ : gM} {x : Nat} (h : XS C s (σ.1 p)) : XS C (s.w_op x) ((g_put σ p 137 (nI x)).1 p) := by
  refine ⟨?_, ?_, ?_, ?_, ?_, ?_, ?_, ?_, ?_, ?_, ?_, ?_, ?_, ?_⟩
  · exact fun e t b he ht hb hn => by
        unfold rb
        rw [gp_k, if_neg (by omega)]
        exact h.byt e t b he ht hb hn
  · exact fun e he => by
        rw [gp_k, if_neg (by omega)]
        exact h.how e he
  · exact fun e he => by
        rw [gp_k, if_neg (by omega)]
        exact h.don e he
  · exact fun e he => by
        rw [gp_k, if_neg (by omega)]
        exact h.rd e he
  · exact fun e he => by
        rw [gp_k, if_neg (by omega)]
        exact h.wr e he
  · exact fun e he => by
        rw [gp_k, if_neg (by omega)]
        exact h.md e he
  · exact by
        rw [gp_k, if_neg (by omega)]
        exact h.sp
  · exact by
        rw [gp_k, if_pos rfl]
        rfl
  · exact by
        rw [gp_k, if_neg (by omega)]
        exact h.ps
  · exact by
        rw [gp_k, if_neg (by omega)]
        exact h.nx
  · exact by
        rw [gp_k, if_neg (by omega)]
        exact h.di
  · exact by
        rw [gp_k, if_neg (by omega)]
        exact h.l0
  · exact by
        rw [gp_k, if_neg (by omega)]
        exact h.l1
  · exact by
        rw [gp_k, if_neg (by omega)]
        exact h.l2
theorem XS_ps {C p : Nat} {s : Sh} {σ : gM} {x : Nat} (h : XS C s (σ.1 p)) : XS C (s.w_ps x) ((g_put σ p 138 (nI x)).1 p) := by
  refine ⟨?_, ?_, ?_, ?_, ?_, ?_, ?_, ?_, ?_, ?_, ?_, ?_, ?_, ?_⟩
  · exact fun e t b he ht hb hn => by
        unfold rb
        rw [gp_k, if_neg (by omega)]
        exact h.byt e t b he ht hb hn
  · exact fun e he => by
        rw [gp_k, if_neg (by omega)]
        exact h.how e he
  · exact fun e he => by
        rw [gp_k, if_neg (by omega)]
        exact h.don e he
  · exact fun e he => by
        rw [gp_k, if_neg (by omega)]
        exact h.rd e he
  · exact fun e he => by
        rw [gp_k, if_neg (by omega)]
        exact h.wr e he
  · exact fun e he => by
        rw [gp_k, if_neg (by omega)]
        exact h.md e he
  · exact by
        rw [gp_k, if_neg (by omega)]
        exact h.sp
  · exact by
        rw [gp_k, if_neg (by omega)]
        exact h.op
  · exact by
        rw [gp_k, if_pos rfl]
        rfl
  · exact by
        rw [gp_k, if_neg (by omega)]
        exact h.nx
  · exact by
        rw [gp_k, if_neg (by omega)]
        exact h.di
  · exact by
        rw [gp_k, if_neg (by omega)]
        exact h.l0
  · exact by
        rw [gp_k, if_neg (by omega)]
        exact h.l1
  · exact by
        rw [gp_k, if_neg (by omega)]
        exact h.l2
theorem XS_nx {C p : Nat} {s : Sh} {σ : gM} {x : Nat} (h : XS C s (σ.1 p)) : XS C (s.w_nx x) ((g_put σ p 139 (nI x)).1 p) := by
  refine ⟨?_, ?_, ?_, ?_, ?_, ?_, ?_, ?_, ?_, ?_, ?_, ?_, ?_, ?_⟩
  · exact fun e t b he ht hb hn => by
        unfold rb
        rw [gp_k, if_neg (by omega)]
        exact h.byt e t b he ht hb hn
  · exact fun e he => by
        rw [gp_k, if_neg (by omega)]
        exact h.how e he
  · exact fun e he => by
        rw [gp_k, if_neg (by omega)]
        exact h.don e he
  · exact fun e he => by
        rw [gp_k, if_neg (by omega)]
        exact h.rd e he
  · exact fun e he => by
        rw [gp_k, if_neg (by omega)]
        exact h.wr e he
  · exact fun e he => by
        rw [gp_k, if_neg (by omega)]
        exact h.md e he
  · exact by
        rw [gp_k, if_neg (by omega)]
        exact h.sp
  · exact by
        rw [gp_k, if_neg (by omega)]
        exact h.op
  · exact by
        rw [gp_k, if_neg (by omega)]
        exact h.ps
  · exact by
        rw [gp_k, if_pos rfl]
        rfl
  · exact by
        rw [gp_k, if_neg (by omega)]
        exact h.di
  · exact by
        rw [gp_k, if_neg (by omega)]
        exact h.l0
  · exact by
        rw [gp_k, if_neg (by omega)]
        exact h.l1
  · exact by
        rw [gp_k, if_neg (by omega)]
        exact h.l2
theorem XS_di {C p : Nat} {s : Sh} {σ : gM} {x : Nat} (h : XS C s (σ.1 p)) : XS C (s.w_di x) ((g_put σ p 140 (nI x)).1 p) := by
  refine ⟨?_, ?_, ?_, ?_, ?_, ?_, ?_, ?_, ?_, ?_, ?_, ?_, ?_, ?_⟩
  · exact fun e t b he ht hb hn => by
        unfold rb
        rw [gp_k, if_neg (by omega)]
        exact h.byt e t b he ht hb hn
  · exact fun e he => by
        rw [gp_k, if_neg (by omega)]
        exact h.how e he
  · exact fun e he => by
        rw [gp_k, if_neg (by omega)]
        exact h.don e he
  · exact fun e he => by
        rw [gp_k, if_neg (by omega)]
        exact h.rd e he
  · exact fun e he => by
        rw [gp_k, if_neg (by omega)]
        exact h.wr e he
  · exact fun e he => by
        rw [gp_k, if_neg (by omega)]
        exact h.md e he
  · exact by
        rw [gp_k, if_neg (by omega)]
        exact h.sp
  · exact by
        rw [gp_k, if_neg (by omega)]
        exact h.op
  · exact by
        rw [gp_k, if_neg (by omega)]
        exact h.ps
  · exact by
        rw [gp_k, if_neg (by omega)]
        exact h.nx
  · exact by
        rw [gp_k, if_pos rfl]
        rfl
  · exact by
        rw [gp_k, if_neg (by omega)]
        exact h.l0
  · exact by
        rw [gp_k, if_neg (by omega)]
        exact h.l1
  · exact by
        rw [gp_k, if_neg (by omega)]
        exact h.l2
theorem XS_l0 {C p : Nat} {s : Sh} {σ : gM} {x : Int32} (h : XS C s (σ.1 p)) : XS C (s.w_l0 x) ((g_put σ p 141 (x)).1 p) := by
  refine ⟨?_, ?_, ?_, ?_, ?_, ?_, ?_, ?_, ?_, ?_, ?_, ?_, ?_, ?_⟩
  · exact fun e t b he ht hb hn => by
        unfold rb
        rw [gp_k, if_neg (by omega)]
        exact h.byt e t b he ht hb hn
  · exact fun e he => by
        rw [gp_k, if_neg (by omega)]
        exact h.how e he
  · exact fun e he => by
        rw [gp_k, if_neg (by omega)]
        exact h.don e he
  · exact fun e he => by
        rw [gp_k, if_neg (by omega)]
        exact h.rd e he
  · exact fun e he => by
        rw [gp_k, if_neg (by omega)]
        exact h.wr e he
  · exact fun e he => by
        rw [gp_k, if_neg (by omega)]
        exact h.md e he
  · exact by
        rw [gp_k, if_neg (by omega)]
        exact h.sp
  · exact by
        rw [gp_k, if_neg (by omega)]
        exact h.op
  · exact by
        rw [gp_k, if_neg (by omega)]
        exact h.ps
  · exact by
        rw [gp_k, if_neg (by omega)]
        exact h.nx
  · exact by
        rw [gp_k, if_neg (by omega)]
        exact h.di
  · exact by
        rw [gp_k, if_pos rfl]
        rfl
  · exact by
        rw [gp_k, if_neg (by omega)]
        exact h.l1
  · exact by
        rw [gp_k, if_neg (by omega)]
        exact h.l2
theorem XS_l1 {C p : Nat} {s : Sh} {σ : gM} {x : Int32} (h : XS C s (σ.1 p)) : XS C (s.w_l1 x) ((g_put σ p 142 (x)).1 p) := by
  refine ⟨?_, ?_, ?_, ?_, ?_, ?_, ?_, ?_, ?_, ?_, ?_, ?_, ?_, ?_⟩
  · exact fun e t b he ht hb hn => by
        unfold rb
        rw [gp_k, if_neg (by omega)]
        exact h.byt e t b he ht hb hn
  · exact fun e he => by
        rw [gp_k, if_neg (by omega)]
        exact h.how e he
  · exact fun e he => by
        rw [gp_k, if_neg (by omega)]
        exact h.don e he
  · exact fun e he => by
        rw [gp_k, if_neg (by omega)]
        exact h.rd e he
  · exact fun e he => by
        rw [gp_k, if_neg (by omega)]
        exact h.wr e he
  · exact fun e he => by
        rw [gp_k, if_neg (by omega)]
        exact h.md e he
  · exact by
        rw [gp_k, if_neg (by omega)]
        exact h.sp
  · exact by
        rw [gp_k, if_neg (by omega)]
        exact h.op
  · exact by
        rw [gp_k, if_neg (by omega)]
        exact h.ps
  · exact by
        rw [gp_k, if_neg (by omega)]
        exact h.nx
  · exact by
        rw [gp_k, if_neg (by omega)]
        exact h.di
  · exact by
        rw [gp_k, if_neg (by omega)]
        exact h.l0
  · exact by
        rw [gp_k, if_pos rfl]
        rfl
  · exact by
        rw [gp_k, if_neg (by omega)]
        exact h.l2
theorem XS_l2 {C p : Nat} {s : Sh} {σ : gM} {x : Int32} (h : XS C s (σ.1 p)) : XS C (s.w_l2 x) ((g_put σ p 143 (x)).1 p) := by
  refine ⟨?_, ?_, ?_, ?_, ?_, ?_, ?_, ?_, ?_, ?_, ?_, ?_, ?_, ?_⟩
  · exact fun e t b he ht hb hn => by
        unfold rb
        rw [gp_k, if_neg (by omega)]
        exact h.byt e t b he ht hb hn
  · exact fun e he => by
        rw [gp_k, if_neg (by omega)]
        exact h.how e he
  · exact fun e he => by
        rw [gp_k, if_neg (by omega)]
        exact h.don e he
  · exact fun e he => by
        rw [gp_k, if_neg (by omega)]
        exact h.rd e he
  · exact fun e he => by
        rw [gp_k, if_neg (by omega)]
        exact h.wr e he
  · exact fun e he => by
        rw [gp_k, if_neg (by omega)]
        exact h.md e he
  · exact by
        rw [gp_k, if_neg (by omega)]
        exact h.sp
  · exact by
        rw [gp_k, if_neg (by omega)]
        exact h.op
  · exact by
        rw [gp_k, if_neg (by omega)]
        exact h.ps
  · exact by
        rw [gp_k, if_neg (by omega)]
        exact h.nx
  · exact by
        rw [gp_k, if_neg (by omega)]
        exact h.di
  · exact by
        rw [gp_k, if_neg (by omega)]
        exact h.l0
  · exact by
        rw [gp_k, if_neg (by omega)]
        exact h.l1
  · exact by
        rw [gp_k, if_pos rfl]
        rfl
theorem MS_sp {C p : Nat} {s : Sh} {σ : gM} {x : Nat} (hC : C ≤ 4) (h : MS C s (σ.1 p) 0) : MS C (s.w_sp x) ((g_put σ p 424 (nI x)).1 p) 0 := by
  refine ⟨?_, ?_, ?_, ?_, ?_, ?_, ?_, ?_, ?_, ?_, ?_, ?_, ?_, ?_, ?_, ?_, ?_, ?_⟩
  · exact fun e t b he ht hb hn => by
        rw [gp_k, if_neg (by omega)]
        exact h.byt e t b he ht hb hn
  · exact fun e he => by
        rw [gp_k, if_neg (by omega)]
        exact h.how e he
  · exact fun e he q => by
        rw [gp_k, if_neg (by omega)]
        exact h.don e he q
  · exact fun e he => by
        rw [gp_k, if_neg (by omega)]
        exact h.rd e he
  · exact fun e he => by
        rw [gp_k, if_neg (by omega)]
        exact h.wr e he
  · exact fun e he => by
        rw [gp_k, if_neg (by omega)]
        exact h.md e he
  · exact by
        rw [gp_k, if_pos (by omega)]
        rfl
  · exact by
        rw [gp_k, if_neg (by omega)]
        exact h.di
  · exact by
        rw [gp_k, if_neg (by omega)]
        exact h.nx
  · exact by
        rw [gp_k, if_neg (by omega)]
        exact h.rds
  · exact by
        rw [gp_k, if_neg (by omega)]
        exact h.wrs
  · exact by
        rw [gp_k, if_neg (by omega)]
        exact h.mds
  · exact by
        rw [gp_k, if_neg (by omega)]
        exact h.op
  · exact by
        rw [gp_k, if_neg (by omega)]
        exact h.ps
  · exact by
        rw [gp_k, if_neg (by omega)]
        exact h.l0
  · exact by
        rw [gp_k, if_neg (by omega)]
        exact h.l1
  · exact by
        rw [gp_k, if_neg (by omega)]
        exact h.l2
  · exact fun k hk => by
        rw [gp_k, if_neg (by omega)]
        exact h.lo k hk
theorem MS_di {C p : Nat} {s : Sh} {σ : gM} {x : Nat} (hC : C ≤ 4) (h : MS C s (σ.1 p) 0) : MS C (s.w_di x) ((g_put σ p 425 (nI x)).1 p) 0 := by
  refine ⟨?_, ?_, ?_, ?_, ?_, ?_, ?_, ?_, ?_, ?_, ?_, ?_, ?_, ?_, ?_, ?_, ?_, ?_⟩
  · exact fun e t b he ht hb hn => by
        rw [gp_k, if_neg (by omega)]
        exact h.byt e t b he ht hb hn
  · exact fun e he => by
        rw [gp_k, if_neg (by omega)]
        exact h.how e he
  · exact fun e he q => by
        rw [gp_k, if_neg (by omega)]
        exact h.don e he q
  · exact fun e he => by
        rw [gp_k, if_neg (by omega)]
        exact h.rd e he
  · exact fun e he => by
        rw [gp_k, if_neg (by omega)]
        exact h.wr e he
  · exact fun e he => by
        rw [gp_k, if_neg (by omega)]
        exact h.md e he
  · exact by
        rw [gp_k, if_neg (by omega)]
        exact h.sp
  · exact by
        rw [gp_k, if_pos (by omega)]
        rfl
  · exact by
        rw [gp_k, if_neg (by omega)]
        exact h.nx
  · exact by
        rw [gp_k, if_neg (by omega)]
        exact h.rds
  · exact by
        rw [gp_k, if_neg (by omega)]
        exact h.wrs
  · exact by
        rw [gp_k, if_neg (by omega)]
        exact h.mds
  · exact by
        rw [gp_k, if_neg (by omega)]
        exact h.op
  · exact by
        rw [gp_k, if_neg (by omega)]
        exact h.ps
  · exact by
        rw [gp_k, if_neg (by omega)]
        exact h.l0
  · exact by
        rw [gp_k, if_neg (by omega)]
        exact h.l1
  · exact by
        rw [gp_k, if_neg (by omega)]
        exact h.l2
  · exact fun k hk => by
        rw [gp_k, if_neg (by omega)]
        exact h.lo k hk
theorem MS_nx {C p : Nat} {s : Sh} {σ : gM} {x : Nat} (hC : C ≤ 4) (h : MS C s (σ.1 p) 0) : MS C (s.w_nx x) ((g_put σ p 426 (nI x)).1 p) 0 := by
  refine ⟨?_, ?_, ?_, ?_, ?_, ?_, ?_, ?_, ?_, ?_, ?_, ?_, ?_, ?_, ?_, ?_, ?_, ?_⟩
  · exact fun e t b he ht hb hn => by
        rw [gp_k, if_neg (by omega)]
        exact h.byt e t b he ht hb hn
  · exact fun e he => by
        rw [gp_k, if_neg (by omega)]
        exact h.how e he
  · exact fun e he q => by
        rw [gp_k, if_neg (by omega)]
        exact h.don e he q
  · exact fun e he => by
        rw [gp_k, if_neg (by omega)]
        exact h.rd e he
  · exact fun e he => by
        rw [gp_k, if_neg (by omega)]
        exact h.wr e he
  · exact fun e he => by
        rw [gp_k, if_neg (by omega)]
        exact h.md e he
  · exact by
        rw [gp_k, if_neg (by omega)]
        exact h.sp
  · exact by
        rw [gp_k, if_neg (by omega)]
        exact h.di
  · exact by
        rw [gp_k, if_pos (by omega)]
        rfl
  · exact by
        rw [gp_k, if_neg (by omega)]
        exact h.rds
  · exact by
        rw [gp_k, if_neg (by omega)]
        exact h.wrs
  · exact by
        rw [gp_k, if_neg (by omega)]
        exact h.mds
  · exact by
        rw [gp_k, if_neg (by omega)]
        exact h.op
  · exact by
        rw [gp_k, if_neg (by omega)]
        exact h.ps
  · exact by
        rw [gp_k, if_neg (by omega)]
        exact h.l0
  · exact by
        rw [gp_k, if_neg (by omega)]
        exact h.l1
  · exact by
        rw [gp_k, if_neg (by omega)]
        exact h.l2
  · exact fun k hk => by
        rw [gp_k, if_neg (by omega)]
        exact h.lo k hk
theorem MS_op {C p : Nat} {s : Sh} {σ : gM} {x : Nat} (hC : C ≤ 4) (h : MS C s (σ.1 p) 0) : MS C (s.w_op x) ((g_put σ p 430 (nI x)).1 p) 0 := by
  refine ⟨?_, ?_, ?_, ?_, ?_, ?_, ?_, ?_, ?_, ?_, ?_, ?_, ?_, ?_, ?_, ?_, ?_, ?_⟩
  · exact fun e t b he ht hb hn => by
        rw [gp_k, if_neg (by omega)]
        exact h.byt e t b he ht hb hn
  · exact fun e he => by
        rw [gp_k, if_neg (by omega)]
        exact h.how e he
  · exact fun e he q => by
        rw [gp_k, if_neg (by omega)]
        exact h.don e he q
  · exact fun e he => by
        rw [gp_k, if_neg (by omega)]
        exact h.rd e he
  · exact fun e he => by
        rw [gp_k, if_neg (by omega)]
        exact h.wr e he
  · exact fun e he => by
        rw [gp_k, if_neg (by omega)]
        exact h.md e he
  · exact by
        rw [gp_k, if_neg (by omega)]
        exact h.sp
  · exact by
        rw [gp_k, if_neg (by omega)]
        exact h.di
  · exact by
        rw [gp_k, if_neg (by omega)]
        exact h.nx
  · exact by
        rw [gp_k, if_neg (by omega)]
        exact h.rds
  · exact by
        rw [gp_k, if_neg (by omega)]
        exact h.wrs
  · exact by
        rw [gp_k, if_neg (by omega)]
        exact h.mds
  · exact by
        rw [gp_k, if_pos (by omega)]
        rfl
  · exact by
        rw [gp_k, if_neg (by omega)]
        exact h.ps
  · exact by
        rw [gp_k, if_neg (by omega)]
        exact h.l0
  · exact by
        rw [gp_k, if_neg (by omega)]
        exact h.l1
  · exact by
        rw [gp_k, if_neg (by omega)]
        exact h.l2
  · exact fun k hk => by
        rw [gp_k, if_neg (by omega)]
        exact h.lo k hk
theorem MS_ps {C p : Nat} {s : Sh} {σ : gM} {x : Nat} (hC : C ≤ 4) (h : MS C s (σ.1 p) 0) : MS C (s.w_ps x) ((g_put σ p 431 (nI x)).1 p) 0 := by
  refine ⟨?_, ?_, ?_, ?_, ?_, ?_, ?_, ?_, ?_, ?_, ?_, ?_, ?_, ?_, ?_, ?_, ?_, ?_⟩
  · exact fun e t b he ht hb hn => by
        rw [gp_k, if_neg (by omega)]
        exact h.byt e t b he ht hb hn
  · exact fun e he => by
        rw [gp_k, if_neg (by omega)]
        exact h.how e he
  · exact fun e he q => by
        rw [gp_k, if_neg (by omega)]
        exact h.don e he q
  · exact fun e he => by
        rw [gp_k, if_neg (by omega)]
        exact h.rd e he
  · exact fun e he => by
        rw [gp_k, if_neg (by omega)]
        exact h.wr e he
  · exact fun e he => by
        rw [gp_k, if_neg (by omega)]
        exact h.md e he
  · exact by
        rw [gp_k, if_neg (by omega)]
        exact h.sp
  · exact by
        rw [gp_k, if_neg (by omega)]
        exact h.di
  · exact by
        rw [gp_k, if_neg (by omega)]
        exact h.nx
  · exact by
        rw [gp_k, if_neg (by omega)]
        exact h.rds
  · exact by
        rw [gp_k, if_neg (by omega)]
        exact h.wrs
  · exact by
        rw [gp_k, if_neg (by omega)]
        exact h.mds
  · exact by
        rw [gp_k, if_neg (by omega)]
        exact h.op
  · exact by
        rw [gp_k, if_pos (by omega)]
        rfl
  · exact by
        rw [gp_k, if_neg (by omega)]
        exact h.l0
  · exact by
        rw [gp_k, if_neg (by omega)]
        exact h.l1
  · exact by
        rw [gp_k, if_neg (by omega)]
        exact h.l2
  · exact fun k hk => by
        rw [gp_k, if_neg (by omega)]
        exact h.lo k hk
theorem MS_l0 {C p : Nat} {s : Sh} {σ : gM} {x : Int32} (hC : C ≤ 4) (h : MS C s (σ.1 p) 0) : MS C (s.w_l0 x) ((g_put σ p 432 (x)).1 p) 0 := by
  refine ⟨?_, ?_, ?_, ?_, ?_, ?_, ?_, ?_, ?_, ?_, ?_, ?_, ?_, ?_, ?_, ?_, ?_, ?_⟩
  · exact fun e t b he ht hb hn => by
        rw [gp_k, if_neg (by omega)]
        exact h.byt e t b he ht hb hn
  · exact fun e he => by
        rw [gp_k, if_neg (by omega)]
        exact h.how e he
  · exact fun e he q => by
        rw [gp_k, if_neg (by omega)]
        exact h.don e he q
  · exact fun e he => by
        rw [gp_k, if_neg (by omega)]
        exact h.rd e he
  · exact fun e he => by
        rw [gp_k, if_neg (by omega)]
        exact h.wr e he
  · exact fun e he => by
        rw [gp_k, if_neg (by omega)]
        exact h.md e he
  · exact by
        rw [gp_k, if_neg (by omega)]
        exact h.sp
  · exact by
        rw [gp_k, if_neg (by omega)]
        exact h.di
  · exact by
        rw [gp_k, if_neg (by omega)]
        exact h.nx
  · exact by
        rw [gp_k, if_neg (by omega)]
        exact h.rds
  · exact by
        rw [gp_k, if_neg (by omega)]
        exact h.wrs
  · exact by
        rw [gp_k, if_neg (by omega)]
        exact h.mds
  · exact by
        rw [gp_k, if_neg (by omega)]
        exact h.op
  · exact by
        rw [gp_k, if_neg (by omega)]
        exact h.ps
  · exact by
        rw [gp_k, if_pos (by omega)]
        rfl
  · exact by
        rw [gp_k, if_neg (by omega)]
        exact h.l1
  · exact by
        rw [gp_k, if_neg (by omega)]
        exact h.l2
  · exact fun k hk => by
        rw [gp_k, if_neg (by omega)]
        exact h.lo k hk
theorem MS_l1 {C p : Nat} {s : Sh} {σ : gM} {x : Int32} (hC : C ≤ 4) (h : MS C s (σ.1 p) 0) : MS C (s.w_l1 x) ((g_put σ p 433 (x)).1 p) 0 := by
  refine ⟨?_, ?_, ?_, ?_, ?_, ?_, ?_, ?_, ?_, ?_, ?_, ?_, ?_, ?_, ?_, ?_, ?_, ?_⟩
  · exact fun e t b he ht hb hn => by
        rw [gp_k, if_neg (by omega)]
        exact h.byt e t b he ht hb hn
  · exact fun e he => by
        rw [gp_k, if_neg (by omega)]
        exact h.how e he
  · exact fun e he q => by
        rw [gp_k, if_neg (by omega)]
        exact h.don e he q
  · exact fun e he => by
        rw [gp_k, if_neg (by omega)]
        exact h.rd e he
  · exact fun e he => by
        rw [gp_k, if_neg (by omega)]
        exact h.wr e he
  · exact fun e he => by
        rw [gp_k, if_neg (by omega)]
        exact h.md e he
  · exact by
        rw [gp_k, if_neg (by omega)]
        exact h.sp
  · exact by
        rw [gp_k, if_neg (by omega)]
        exact h.di
  · exact by
        rw [gp_k, if_neg (by omega)]
        exact h.nx
  · exact by
        rw [gp_k, if_neg (by omega)]
        exact h.rds
  · exact by
        rw [gp_k, if_neg (by omega)]
        exact h.wrs
  · exact by
        rw [gp_k, if_neg (by omega)]
        exact h.mds
  · exact by
        rw [gp_k, if_neg (by omega)]
        exact h.op
  · exact by
        rw [gp_k, if_neg (by omega)]
        exact h.ps
  · exact by
        rw [gp_k, if_neg (by omega)]
        exact h.l0
  · exact by
        rw [gp_k, if_pos (by omega)]
        rfl
  · exact by
        rw [gp_k, if_neg (by omega)]
        exact h.l2
  · exact fun k hk => by
        rw [gp_k, if_neg (by omega)]
        exact h.lo k hk
theorem MS_l2 {C p : Nat} {s : Sh} {σ : gM} {x : Int32} (hC : C ≤ 4) (h : MS C s (σ.1 p) 0) : MS C (s.w_l2 x) ((g_put σ p 434 (x)).1 p) 0 := by
  refine ⟨?_, ?_, ?_, ?_, ?_, ?_, ?_, ?_, ?_, ?_, ?_, ?_, ?_, ?_, ?_, ?_, ?_, ?_⟩
  · exact fun e t b he ht hb hn => by
        rw [gp_k, if_neg (by omega)]
        exact h.byt e t b he ht hb hn
  · exact fun e he => by
        rw [gp_k, if_neg (by omega)]
        exact h.how e he
  · exact fun e he q => by
        rw [gp_k, if_neg (by omega)]
        exact h.don e he q
  · exact fun e he => by
        rw [gp_k, if_neg (by omega)]
        exact h.rd e he
  · exact fun e he => by
        rw [gp_k, if_neg (by omega)]
        exact h.wr e he
  · exact fun e he => by
        rw [gp_k, if_neg (by omega)]
        exact h.md e he
  · exact by
        rw [gp_k, if_neg (by omega)]
        exact h.sp
  · exact by
        rw [gp_k, if_neg (by omega)]
        exact h.di
  · exact by
        rw [gp_k, if_neg (by omega)]
        exact h.nx
  · exact by
        rw [gp_k, if_neg (by omega)]
        exact h.rds
  · exact by
        rw [gp_k, if_neg (by omega)]
        exact h.wrs
  · exact by
        rw [gp_k, if_neg (by omega)]
        exact h.mds
  · exact by
        rw [gp_k, if_neg (by omega)]
        exact h.op
  · exact by
        rw [gp_k, if_neg (by omega)]
        exact h.ps
  · exact by
        rw [gp_k, if_neg (by omega)]
        exact h.l0
  · exact by
        rw [gp_k, if_neg (by omega)]
        exact h.l1
  · exact by
        rw [gp_k, if_pos (by omega)]
        rfl
  · exact fun k hk => by
        rw [gp_k, if_neg (by omega)]
        exact h.lo k hk
theorem MS_rd {C p : Nat} {s : Sh} {σ : gM} {d : Nat} (hC : C ≤ 4) (h : MS C s (σ.1 p) 0) (hd : d < 8) : MS C (s.w_rd (bump s.rd d)) ((g_put (g_put σ p (400 + d) (nI (s.rd d + 1))) p 427 (nI (s8 s.rd + 1))).1 p) 0 := by
  refine ⟨?_, ?_, ?_, ?_, ?_, ?_, ?_, ?_, ?_, ?_, ?_, ?_, ?_, ?_, ?_, ?_, ?_, ?_⟩
  · exact fun e t b he ht hb hn => by
        rw [gp_k, if_neg (by omega), gp_k, if_neg (by omega)]
        exact h.byt e t b he ht hb hn
  · exact fun e he => by
        rw [gp_k, if_neg (by omega), gp_k, if_neg (by omega)]
        exact h.how e he
  · exact fun e he q => by
        rw [gp_k, if_neg (by omega), gp_k, if_neg (by omega)]
        exact h.don e he q
  · exact fun e he => by
        rw [gp_k, if_neg (by omega), gp_k]
        show _ = nI (bump s.rd d e)
        unfold bump
        by_cases q : e = d
        · rw [if_pos (by omega), if_pos q, q]
        · rw [if_neg (by omega), if_neg q]
          exact h.rd e he
  · exact fun e he => by
        rw [gp_k, if_neg (by omega), gp_k, if_neg (by omega)]
        exact h.wr e he
  · exact fun e he => by
        rw [gp_k, if_neg (by omega), gp_k, if_neg (by omega)]
        exact h.md e he
  · exact by
        rw [gp_k, if_neg (by omega), gp_k, if_neg (by omega)]
        exact h.sp
  · exact by
        rw [gp_k, if_neg (by omega), gp_k, if_neg (by omega)]
        exact h.di
  · exact by
        rw [gp_k, if_neg (by omega), gp_k, if_neg (by omega)]
        exact h.nx
  · exact by
        rw [gp_k, if_pos (by omega)]
        show _ = nI (s8 (bump s.rd d))
        rw [s8_bump hd]
  · exact by
        rw [gp_k, if_neg (by omega), gp_k, if_neg (by omega)]
        exact h.wrs
  · exact by
        rw [gp_k, if_neg (by omega), gp_k, if_neg (by omega)]
        exact h.mds
  · exact by
        rw [gp_k, if_neg (by omega), gp_k, if_neg (by omega)]
        exact h.op
  · exact by
        rw [gp_k, if_neg (by omega), gp_k, if_neg (by omega)]
        exact h.ps
  · exact by
        rw [gp_k, if_neg (by omega), gp_k, if_neg (by omega)]
        exact h.l0
  · exact by
        rw [gp_k, if_neg (by omega), gp_k, if_neg (by omega)]
        exact h.l1
  · exact by
        rw [gp_k, if_neg (by omega), gp_k, if_neg (by omega)]
        exact h.l2
  · exact fun k hk => by
        rw [gp_k, if_neg (by omega), gp_k, if_neg (by omega)]
        exact h.lo k hk
theorem MS_wr {C p : Nat} {s : Sh} {σ : gM} {d : Nat} (hC : C ≤ 4) (h : MS C s (σ.1 p) 0) (hd : d < 8) : MS C (s.w_wr (bump s.wr d)) ((g_put (g_put σ p (408 + d) (nI (s.wr d + 1))) p 428 (nI (s8 s.wr + 1))).1 p) 0 := by
  refine ⟨?_, ?_, ?_, ?_, ?_, ?_, ?_, ?_, ?_, ?_, ?_, ?_, ?_, ?_, ?_, ?_, ?_, ?_⟩
  · exact fun e t b he ht hb hn => by
        rw [gp_k, if_neg (by omega), gp_k, if_neg (by omega)]
        exact h.byt e t b he ht hb hn
  · exact fun e he => by
        rw [gp_k, if_neg (by omega), gp_k, if_neg (by omega)]
        exact h.how e he
  · exact fun e he q => by
        rw [gp_k, if_neg (by omega), gp_k, if_neg (by omega)]
        exact h.don e he q
  · exact fun e he => by
        rw [gp_k, if_neg (by omega), gp_k, if_neg (by omega)]
        exact h.rd e he
  · exact fun e he => by
        rw [gp_k, if_neg (by omega), gp_k]
        show _ = nI (bump s.wr d e)
        unfold bump
        by_cases q : e = d
        · rw [if_pos (by omega), if_pos q, q]
        · rw [if_neg (by omega), if_neg q]
          exact h.wr e he
  · exact fun e he => by
        rw [gp_k, if_neg (by omega), gp_k, if_neg (by omega)]
        exact h.md e he
  · exact by
        rw [gp_k, if_neg (by omega), gp_k, if_neg (by omega)]
        exact h.sp
  · exact by
        rw [gp_k, if_neg (by omega), gp_k, if_neg (by omega)]
        exact h.di
  · exact by
        rw [gp_k, if_neg (by omega), gp_k, if_neg (by omega)]
        exact h.nx
  · exact by
        rw [gp_k, if_neg (by omega), gp_k, if_neg (by omega)]
        exact h.rds
  · exact by
        rw [gp_k, if_pos (by omega)]
        show _ = nI (s8 (bump s.wr d))
        rw [s8_bump hd]
  · exact by
        rw [gp_k, if_neg (by omega), gp_k, if_neg (by omega)]
        exact h.mds
  · exact by
        rw [gp_k, if_neg (by omega), gp_k, if_neg (by omega)]
        exact h.op
  · exact by
        rw [gp_k, if_neg (by omega), gp_k, if_neg (by omega)]
        exact h.ps
  · exact by
        rw [gp_k, if_neg (by omega), gp_k, if_neg (by omega)]
        exact h.l0
  · exact by
        rw [gp_k, if_neg (by omega), gp_k, if_neg (by omega)]
        exact h.l1
  · exact by
        rw [gp_k, if_neg (by omega), gp_k, if_neg (by omega)]
        exact h.l2
  · exact fun k hk => by
        rw [gp_k, if_neg (by omega), gp_k, if_neg (by omega)]
        exact h.lo k hk
theorem MS_md {C p : Nat} {s : Sh} {σ : gM} {d : Nat} (hC : C ≤ 4) (h : MS C s (σ.1 p) 0) (hd : d < 8) : MS C (s.w_md (bump s.md d)) ((g_put (g_put σ p (416 + d) (nI (s.md d + 1))) p 429 (nI (s8 s.md + 1))).1 p) 0 := by
  refine ⟨?_, ?_, ?_, ?_, ?_, ?_, ?_, ?_, ?_, ?_, ?_, ?_, ?_, ?_, ?_, ?_, ?_, ?_⟩
  · exact fun e t b he ht hb hn => by
        rw [gp_k, if_neg (by omega), gp_k, if_neg (by omega)]
        exact h.byt e t b he ht hb hn
  · exact fun e he => by
        rw [gp_k, if_neg (by omega), gp_k, if_neg (by omega)]
        exact h.how e he
  · exact fun e he q => by
        rw [gp_k, if_neg (by omega), gp_k, if_neg (by omega)]
        exact h.don e he q
  · exact fun e he => by
        rw [gp_k, if_neg (by omega), gp_k, if_neg (by omega)]
        exact h.rd e he
  · exact fun e he => by
        rw [gp_k, if_neg (by omega), gp_k, if_neg (by omega)]
        exact h.wr e he
  · exact fun e he => by
        rw [gp_k, if_neg (by omega), gp_k]
        show _ = nI (bump s.md d e)
        unfold bump
        by_cases q : e = d
        · rw [if_pos (by omega), if_pos q, q]
        · rw [if_neg (by omega), if_neg q]
          exact h.md e he
  · exact by
        rw [gp_k, if_neg (by omega), gp_k, if_neg (by omega)]
        exact h.sp
  · exact by
        rw [gp_k, if_neg (by omega), gp_k, if_neg (by omega)]
        exact h.di
  · exact by
        rw [gp_k, if_neg (by omega), gp_k, if_neg (by omega)]
        exact h.nx
  · exact by
        rw [gp_k, if_neg (by omega), gp_k, if_neg (by omega)]
        exact h.rds
  · exact by
        rw [gp_k, if_neg (by omega), gp_k, if_neg (by omega)]
        exact h.wrs
  · exact by
        rw [gp_k, if_pos (by omega)]
        show _ = nI (s8 (bump s.md d))
        rw [s8_bump hd]
  · exact by
        rw [gp_k, if_neg (by omega), gp_k, if_neg (by omega)]
        exact h.op
  · exact by
        rw [gp_k, if_neg (by omega), gp_k, if_neg (by omega)]
        exact h.ps
  · exact by
        rw [gp_k, if_neg (by omega), gp_k, if_neg (by omega)]
        exact h.l0
  · exact by
        rw [gp_k, if_neg (by omega), gp_k, if_neg (by omega)]
        exact h.l1
  · exact by
        rw [gp_k, if_neg (by omega), gp_k, if_neg (by omega)]
        exact h.l2
  · exact fun k hk => by
        rw [gp_k, if_neg (by omega), gp_k, if_neg (by omega)]
        exact h.lo k hk
theorem MS_byt {C p : Nat} {s : Sh} {σ : gM} {d t b x : Nat} (hC : C ≤ 4) (h : MS C s (σ.1 p) 0) (hd : d < 8) (ht : t < 12) (hb : b < 4) : MS C (s.w_byt (fun e t1 b1 => if e = d ∧ t1 = t ∧ b1 = b then x else s.byt e t1 b1)) ((g_put σ p (48 * d + 4 * t + b) (nI x)).1 p) 0 := by
  refine ⟨?_, ?_, ?_, ?_, ?_, ?_, ?_, ?_, ?_, ?_, ?_, ?_, ?_, ?_, ?_, ?_, ?_, ?_⟩
  · exact fun e t1 b1 he ht1 hb1 hn => by
        rw [gp_k]
        show _ = nI (if e = d ∧ t1 = t ∧ b1 = b then x else s.byt e t1 b1)
        by_cases q : e = d ∧ t1 = t ∧ b1 = b
        · rw [if_pos (by obtain ⟨a, b, c⟩ := q; subst a b c; omega), if_pos q]
        · rw [if_neg (by omega), if_neg q]
          exact h.byt e t1 b1 he ht1 hb1 hn
  · exact fun e he => by
        rw [gp_k, if_neg (by omega)]
        exact h.how e he
  · exact fun e he q => by
        rw [gp_k, if_neg (by omega)]
        exact h.don e he q
  · exact fun e he => by
        rw [gp_k, if_neg (by omega)]
        exact h.rd e he
  · exact fun e he => by
        rw [gp_k, if_neg (by omega)]
        exact h.wr e he
  · exact fun e he => by
        rw [gp_k, if_neg (by omega)]
        exact h.md e he
  · exact by
        rw [gp_k, if_neg (by omega)]
        exact h.sp
  · exact by
        rw [gp_k, if_neg (by omega)]
        exact h.di
  · exact by
        rw [gp_k, if_neg (by omega)]
        exact h.nx
  · exact by
        rw [gp_k, if_neg (by omega)]
        exact h.rds
  · exact by
        rw [gp_k, if_neg (by omega)]
        exact h.wrs
  · exact by
        rw [gp_k, if_neg (by omega)]
        exact h.mds
  · exact by
        rw [gp_k, if_neg (by omega)]
        exact h.op
  · exact by
        rw [gp_k, if_neg (by omega)]
        exact h.ps
  · exact by
        rw [gp_k, if_neg (by omega)]
        exact h.l0
  · exact by
        rw [gp_k, if_neg (by omega)]
        exact h.l1
  · exact by
        rw [gp_k, if_neg (by omega)]
        exact h.l2
  · exact fun k hk => by
        rw [gp_k, if_neg (by omega)]
        exact h.lo k hk
theorem MS_how {C p : Nat} {s : Sh} {σ : gM} {d x : Nat} (hC : C ≤ 4) (h : MS C s (σ.1 p) 0) (hd : d < 8) (hx : x ≠ 0 → σ.1 p (392 + d) = nI (s.don d)) : MS C (s.w_how (ud s.how d x)) ((g_put σ p (384 + d) (nI x)).1 p) 0 := by
  refine ⟨?_, ?_, ?_, ?_, ?_, ?_, ?_, ?_, ?_, ?_, ?_, ?_, ?_, ?_, ?_, ?_, ?_, ?_⟩
  · exact fun e t b he ht hb hn => by
        rw [gp_k, if_neg (by omega)]
        exact h.byt e t b he ht hb hn
  · exact fun e he => by
        rw [gp_k]
        show _ = nI (ud s.how d x e)
        unfold ud
        by_cases q : e = d
        · rw [if_pos (by omega), if_pos q]
        · rw [if_neg (by omega), if_neg q]
          exact h.how e he
  · exact fun e he q => by
        rw [gp_k, if_neg (by omega)]
        have q' : ud s.how d x e ≠ 0 := q
        unfold ud at q'
        by_cases z : e = d
        · rw [if_pos z] at q'
          rw [z, Nat.zero_add]; exact hx q'
        · rw [if_neg z] at q'
          exact h.don e he q'
  · exact fun e he => by
        rw [gp_k, if_neg (by omega)]
        exact h.rd e he
  · exact fun e he => by
        rw [gp_k, if_neg (by omega)]
        exact h.wr e he
  · exact fun e he => by
        rw [gp_k, if_neg (by omega)]
        exact h.md e he
  · exact by
        rw [gp_k, if_neg (by omega)]
        exact h.sp
  · exact by
        rw [gp_k, if_neg (by omega)]
        exact h.di
  · exact by
        rw [gp_k, if_neg (by omega)]
        exact h.nx
  · exact by
        rw [gp_k, if_neg (by omega)]
        exact h.rds
  · exact by
        rw [gp_k, if_neg (by omega)]
        exact h.wrs
  · exact by
        rw [gp_k, if_neg (by omega)]
        exact h.mds
  · exact by
        rw [gp_k, if_neg (by omega)]
        exact h.op
  · exact by
        rw [gp_k, if_neg (by omega)]
        exact h.ps
  · exact by
        rw [gp_k, if_neg (by omega)]
        exact h.l0
  · exact by
        rw [gp_k, if_neg (by omega)]
        exact h.l1
  · exact by
        rw [gp_k, if_neg (by omega)]
        exact h.l2
  · exact fun k hk => by
        rw [gp_k, if_neg (by omega)]
        exact h.lo k hk
theorem MS_don {C p : Nat} {s : Sh} {σ : gM} {d x : Nat} (hC : C ≤ 4) (h : MS C s (σ.1 p) 0) (hd : d < 8) (hb : ∀ t b, t < 12 → b < C → t < x → σ.1 p (48 * d + 4 * t + b) = nI (s.byt d t b)) : MS C (s.w_don (ud s.don d x)) ((g_put σ p (392 + d) (nI x)).1 p) 0 := by
  refine ⟨?_, ?_, ?_, ?_, ?_, ?_, ?_, ?_, ?_, ?_, ?_, ?_, ?_, ?_, ?_, ?_, ?_, ?_⟩
  · exact fun e t b he ht hb' hn => by
        rw [gp_k, if_neg (by omega)]
        have hn' : t < ud s.don d x e := hn
        unfold ud at hn'
        by_cases q : e = d
        · rw [if_pos q] at hn'
          subst q
          rw [Nat.zero_add]
          exact hb t b ht hb' hn'
        · rw [if_neg q] at hn'
          exact h.byt e t b he ht hb' hn'
  · exact fun e he => by
        rw [gp_k, if_neg (by omega)]
        exact h.how e he
  · exact fun e he q => by
        rw [gp_k]
        show _ = nI (ud s.don d x e)
        unfold ud
        by_cases z : e = d
        · rw [if_pos (by omega), if_pos z]
        · rw [if_neg (by omega), if_neg z]
          exact h.don e he q
  · exact fun e he => by
        rw [gp_k, if_neg (by omega)]
        exact h.rd e he
  · exact fun e he => by
        rw [gp_k, if_neg (by omega)]
        exact h.wr e he
  · exact fun e he => by
        rw [gp_k, if_neg (by omega)]
        exact h.md e he
  · exact by
        rw [gp_k, if_neg (by omega)]
        exact h.sp
  · exact by
        rw [gp_k, if_neg (by omega)]
        exact h.di
  · exact by
        rw [gp_k, if_neg (by omega)]
        exact h.nx
  · exact by
        rw [gp_k, if_neg (by omega)]
        exact h.rds
  · exact by
        rw [gp_k, if_neg (by omega)]
        exact h.wrs
  · exact by
        rw [gp_k, if_neg (by omega)]
        exact h.mds
  · exact by
        rw [gp_k, if_neg (by omega)]
        exact h.op
  · exact by
        rw [gp_k, if_neg (by omega)]
        exact h.ps
  · exact by
        rw [gp_k, if_neg (by omega)]
        exact h.l0
  · exact by
        rw [gp_k, if_neg (by omega)]
        exact h.l1
  · exact by
        rw [gp_k, if_neg (by omega)]
        exact h.l2
  · exact fun k hk => by
        rw [gp_k, if_neg (by omega)]
        exact h.lo k hk
theorem MS_rep {C p : Nat} {s : Sh} {σ : gM} {d : Nat} (hC : C ≤ 4) (h : MS C s (σ.1 p) 0) (hd : d < 8) (h0 : s.don d = 0) : MS C (s.w_how (ud s.how d 2)) ((g_put (g_put σ p (384 + d) (nI 2)) p (392 + d) (nI 0)).1 p) 0 := by
  refine ⟨?_, ?_, ?_, ?_, ?_, ?_, ?_, ?_, ?_, ?_, ?_, ?_, ?_, ?_, ?_, ?_, ?_, ?_⟩
  · exact fun e t b he ht hb hn => by
        rw [gp_k, if_neg (by omega), gp_k, if_neg (by omega)]
        exact h.byt e t b he ht hb hn
  · exact fun e he => by
        rw [gp_k, if_neg (by omega), gp_k]
        show _ = nI (ud s.how d 2 e)
        unfold ud
        by_cases q : e = d
        · rw [if_pos (by omega), if_pos q]
        · rw [if_neg (by omega), if_neg q]
          exact h.how e he
  · exact fun e he q => by
        rw [gp_k]
        have q' : ud s.how d 2 e ≠ 0 := q
        unfold ud at q'
        by_cases z : e = d
        · rw [if_pos (by omega), z]
          show _ = nI (s.don d)
          rw [h0]
        · rw [if_neg z] at q'
          rw [if_neg (by omega), gp_k, if_neg (by omega)]
          exact h.don e he q'
  · exact fun e he => by
        rw [gp_k, if_neg (by omega), gp_k, if_neg (by omega)]
        exact h.rd e he
  · exact fun e he => by
        rw [gp_k, if_neg (by omega), gp_k, if_neg (by omega)]
        exact h.wr e he
  · exact fun e he => by
        rw [gp_k, if_neg (by omega), gp_k, if_neg (by omega)]
        exact h.md e he
  · exact by
        rw [gp_k, if_neg (by omega), gp_k, if_neg (by omega)]
        exact h.sp
  · exact by
        rw [gp_k, if_neg (by omega), gp_k, if_neg (by omega)]
        exact h.di
  · exact by
        rw [gp_k, if_neg (by omega), gp_k, if_neg (by omega)]
        exact h.nx
  · exact by
        rw [gp_k, if_neg (by omega), gp_k, if_neg (by omega)]
        exact h.rds
  · exact by
        rw [gp_k, if_neg (by omega), gp_k, if_neg (by omega)]
        exact h.wrs
  · exact by
        rw [gp_k, if_neg (by omega), gp_k, if_neg (by omega)]
        exact h.mds
  · exact by
        rw [gp_k, if_neg (by omega), gp_k, if_neg (by omega)]
        exact h.op
  · exact by
        rw [gp_k, if_neg (by omega), gp_k, if_neg (by omega)]
        exact h.ps
  · exact by
        rw [gp_k, if_neg (by omega), gp_k, if_neg (by omega)]
        exact h.l0
  · exact by
        rw [gp_k, if_neg (by omega), gp_k, if_neg (by omega)]
        exact h.l1
  · exact by
        rw [gp_k, if_neg (by omega), gp_k, if_neg (by omega)]
        exact h.l2
  · exact fun k hk => by
        rw [gp_k, if_neg (by omega), gp_k, if_neg (by omega)]
        exact h.lo k hk
theorem MS_los {C p : Nat} {s : Sh} {σ : gM} {d : Nat} (hC : C ≤ 4) (h : MS C s (σ.1 p) 0) (hd : d < 8) : MS C ((s.w_how (ud s.how d 1)).w_don (ud s.don d 0)) ((g_put (g_put σ p (384 + d) (nI 1)) p (392 + d) (nI 0)).1 p) 0 := by
  refine ⟨?_, ?_, ?_, ?_, ?_, ?_, ?_, ?_, ?_, ?_, ?_, ?_, ?_, ?_, ?_, ?_, ?_, ?_⟩
  · exact fun e t b he ht hb hn => by
        rw [gp_k, if_neg (by omega), gp_k, if_neg (by omega)]
        have hn' : t < ud s.don d 0 e := hn
        unfold ud at hn'
        by_cases q : e = d
        · rw [if_pos q] at hn'
          exact absurd hn' (Nat.not_lt_zero _)
        · rw [if_neg q] at hn'
          exact h.byt e t b he ht hb hn'
  · exact fun e he => by
        rw [gp_k, if_neg (by omega), gp_k]
        show _ = nI (ud s.how d 1 e)
        unfold ud
        by_cases q : e = d
        · rw [if_pos (by omega), if_pos q]
        · rw [if_neg (by omega), if_neg q]
          exact h.how e he
  · exact fun e he q => by
        rw [gp_k]
        show _ = nI (ud s.don d 0 e)
        have q' : ud s.how d 1 e ≠ 0 := q
        unfold ud at q' ⊢
        by_cases z : e = d
        · rw [if_pos (by omega), if_pos z]
        · rw [if_neg z] at q'
          rw [if_neg (by omega), if_neg z, gp_k, if_neg (by omega)]
          exact h.don e he q'
  · exact fun e he => by
        rw [gp_k, if_neg (by omega), gp_k, if_neg (by omega)]
        exact h.rd e he
  · exact fun e he => by
        rw [gp_k, if_neg (by omega), gp_k, if_neg (by omega)]
        exact h.wr e he
  · exact fun e he => by
        rw [gp_k, if_neg (by omega), gp_k, if_neg (by omega)]
        exact h.md e he
  · exact by
        rw [gp_k, if_neg (by omega), gp_k, if_neg (by omega)]
        exact h.sp
  · exact by
        rw [gp_k, if_neg (by omega), gp_k, if_neg (by omega)]
        exact h.di
  · exact by
        rw [gp_k, if_neg (by omega), gp_k, if_neg (by omega)]
        exact h.nx
  · exact by
        rw [gp_k, if_neg (by omega), gp_k, if_neg (by omega)]
        exact h.rds
  · exact by
        rw [gp_k, if_neg (by omega), gp_k, if_neg (by omega)]
        exact h.wrs
  · exact by
        rw [gp_k, if_neg (by omega), gp_k, if_neg (by omega)]
        exact h.mds
  · exact by
        rw [gp_k, if_neg (by omega), gp_k, if_neg (by omega)]
        exact h.op
  · exact by
        rw [gp_k, if_neg (by omega), gp_k, if_neg (by omega)]
        exact h.ps
  · exact by
        rw [gp_k, if_neg (by omega), gp_k, if_neg (by omega)]
        exact h.l0
  · exact by
        rw [gp_k, if_neg (by omega), gp_k, if_neg (by omega)]
        exact h.l1
  · exact by
        rw [gp_k, if_neg (by omega), gp_k, if_neg (by omega)]
        exact h.l2
  · exact fun k hk => by
        rw [gp_k, if_neg (by omega), gp_k, if_neg (by omega)]
        exact h.lo k hk
theorem MS_dead {C p : Nat} {s : Sh} {σ : gM} {d k : Nat} {x : Int32} (hC : C ≤ 4) (h : MS C s (σ.1 p) 0) (hd : d < 8) (hk : k < 48) (h0 : s.don d = 0) : MS C s ((g_put σ p (48 * d + k) (x)).1 p) 0 := by
  refine ⟨?_, ?_, ?_, ?_, ?_, ?_, ?_, ?_, ?_, ?_, ?_, ?_, ?_, ?_, ?_, ?_, ?_, ?_⟩
  · exact fun e t b he ht hb hn => by
        by_cases z : e = d
        · rw [z, h0] at hn; exact absurd hn (Nat.not_lt_zero _)
        · rw [gp_k, if_neg (by omega)]
          exact h.byt e t b he ht hb hn
  · exact fun e he => by
        rw [gp_k, if_neg (by omega)]
        exact h.how e he
  · exact fun e he q => by
        rw [gp_k, if_neg (by omega)]
        exact h.don e he q
  · exact fun e he => by
        rw [gp_k, if_neg (by omega)]
        exact h.rd e he
  · exact fun e he => by
        rw [gp_k, if_neg (by omega)]
        exact h.wr e he
  · exact fun e he => by
        rw [gp_k, if_neg (by omega)]
        exact h.md e he
  · exact by
        rw [gp_k, if_neg (by omega)]
        exact h.sp
  · exact by
        rw [gp_k, if_neg (by omega)]
        exact h.di
  · exact by
        rw [gp_k, if_neg (by omega)]
        exact h.nx
  · exact by
        rw [gp_k, if_neg (by omega)]
        exact h.rds
  · exact by
        rw [gp_k, if_neg (by omega)]
        exact h.wrs
  · exact by
        rw [gp_k, if_neg (by omega)]
        exact h.mds
  · exact by
        rw [gp_k, if_neg (by omega)]
        exact h.op
  · exact by
        rw [gp_k, if_neg (by omega)]
        exact h.ps
  · exact by
        rw [gp_k, if_neg (by omega)]
        exact h.l0
  · exact by
        rw [gp_k, if_neg (by omega)]
        exact h.l1
  · exact by
        rw [gp_k, if_neg (by omega)]
        exact h.l2
  · exact fun k hk => by
        rw [gp_k, if_neg (by omega)]
        exact h.lo k hk
