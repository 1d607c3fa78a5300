/-! the shelf as numbers; both sides' pictures of it -/
def Sh : Type := (Nat → Nat) × (Nat → Nat) × (Nat → Nat → Nat → Nat) × (Nat → Nat) × (Nat → Nat) × (Nat → Nat) × (Nat) × (Nat) × (Nat) × (Nat) × (Nat) × (Int32) × (Int32) × (Int32) × (Nat → Int32)
def Sh.how (s : Sh) : Nat → Nat := s.1
def Sh.don (s : Sh) : Nat → Nat := s.2.1
def Sh.byt (s : Sh) : Nat → Nat → Nat → Nat := s.2.2.1
def Sh.rd (s : Sh) : Nat → Nat := s.2.2.2.1
def Sh.wr (s : Sh) : Nat → Nat := s.2.2.2.2.1
def Sh.md (s : Sh) : Nat → Nat := s.2.2.2.2.2.1
def Sh.sp (s : Sh) : Nat := s.2.2.2.2.2.2.1
def Sh.op (s : Sh) : Nat := s.2.2.2.2.2.2.2.1
def Sh.ps (s : Sh) : Nat := s.2.2.2.2.2.2.2.2.1
def Sh.nx (s : Sh) : Nat := s.2.2.2.2.2.2.2.2.2.1
def Sh.di (s : Sh) : Nat := s.2.2.2.2.2.2.2.2.2.2.1
def Sh.l0 (s : Sh) : Int32 := s.2.2.2.2.2.2.2.2.2.2.2.1
def Sh.l1 (s : Sh) : Int32 := s.2.2.2.2.2.2.2.2.2.2.2.2.1
def Sh.l2 (s : Sh) : Int32 := s.2.2.2.2.2.2.2.2.2.2.2.2.2.1
def Sh.lo (s : Sh) : Nat → Int32 := s.2.2.2.2.2.2.2.2.2.2.2.2.2.2
def mkSh (how : Nat → Nat) (don : Nat → Nat) (byt : Nat → Nat → Nat → Nat) (rd : Nat → Nat) (wr : Nat → Nat) (md : Nat → Nat) (sp : Nat) (op : Nat) (ps : Nat) (nx : Nat) (di : Nat) (l0 : Int32) (l1 : Int32) (l2 : Int32) (lo : Nat → Int32) : Sh := (how, don, byt, rd, wr, md, sp, op, ps, nx, di, l0, l1, l2, lo)
theorem mkSh_how (how : Nat → Nat) (don : Nat → Nat) (byt : Nat → Nat → Nat → Nat) (rd : Nat → Nat) (wr : Nat → Nat) (md : Nat → Nat) (sp : Nat) (op : Nat) (ps : Nat) (nx : Nat) (di : Nat) (l0 : Int32) (l1 : Int32) (l2 : Int32) (lo : Nat → Int32) : (mkSh how don byt rd wr md sp op ps nx di l0 l1 l2 lo).how = how := rfl
theorem mkSh_don (how : Nat → Nat) (don : Nat → Nat) (byt : Nat → Nat → Nat → Nat) (rd : Nat → Nat) (wr : Nat → Nat) (md : Nat → Nat) (sp : Nat) (op : Nat) (ps : Nat) (nx : Nat) (di : Nat) (l0 : Int32) (l1 : Int32) (l2 : Int32) (lo : Nat → Int32) : (mkSh how don byt rd wr md sp op ps nx di l0 l1 l2 lo).don = don := rfl
theorem mkSh_byt (how : Nat → Nat) (don : Nat → Nat) (byt : Nat → Nat → Nat → Nat) (rd : Nat → Nat) (wr : Nat → Nat) (md : Nat → Nat) (sp : Nat) (op : Nat) (ps : Nat) (nx : Nat) (di : Nat) (l0 : Int32) (l1 : Int32) (l2 : Int32) (lo : Nat → Int32) : (mkSh how don byt rd wr md sp op ps nx di l0 l1 l2 lo).byt = byt := rfl
theorem mkSh_rd (how : Nat → Nat) (don : Nat → Nat) (byt : Nat → Nat → Nat → Nat) (rd : Nat → Nat) (wr : Nat → Nat) (md : Nat → Nat) (sp : Nat) (op : Nat) (ps : Nat) (nx : Nat) (di : Nat) (l0 : Int32) (l1 : Int32) (l2 : Int32) (lo : Nat → Int32) : (mkSh how don byt rd wr md sp op ps nx di l0 l1 l2 lo).rd = rd := rfl
theorem mkSh_wr (how : Nat → Nat) (don : Nat → Nat) (byt : Nat → Nat → Nat → Nat) (rd : Nat → Nat) (wr : Nat → Nat) (md : Nat → Nat) (sp : Nat) (op : Nat) (ps : Nat) (nx : Nat) (di : Nat) (l0 : Int32) (l1 : Int32) (l2 : Int32) (lo : Nat → Int32) : (mkSh how don byt rd wr md sp op ps nx di l0 l1 l2 lo).wr = wr := rfl
theorem mkSh_md (how : Nat → Nat) (don : Nat → Nat) (byt : Nat → Nat → Nat → Nat) (rd : Nat → Nat) (wr : Nat → Nat) (md : Nat → Nat) (sp : Nat) (op : Nat) (ps : Nat) (nx : Nat) (di : Nat) (l0 : Int32) (l1 : Int32) (l2 : Int32) (lo : Nat → Int32) : (mkSh how don byt rd wr md sp op ps nx di l0 l1 l2 lo).md = md := rfl
theorem mkSh_sp (how : Nat → Nat) (don : Nat → Nat) (byt : Nat → Nat → Nat → Nat) (rd : Nat → Nat) (wr : Nat → Nat) (md : Nat → Nat) (sp : Nat) (op : Nat) (ps : Nat) (nx : Nat) (di : Nat) (l0 : Int32) (l1 : Int32) (l2 : Int32) (lo : Nat → Int32) : (mkSh how don byt rd wr md sp op ps nx di l0 l1 l2 lo).sp = sp := rfl
theorem mkSh_op (how : Nat → Nat) (don : Nat → Nat) (byt : Nat → Nat → Nat → Nat) (rd : Nat → Nat) (wr : Nat → Nat) (md : Nat → Nat) (sp : Nat) (op : Nat) (ps : Nat) (nx : Nat) (di : Nat) (l0 : Int32) (l1 : Int32) (l2 : Int32) (lo : Nat → Int32) : (mkSh how don byt rd wr md sp op ps nx di l0 l1 l2 lo).op = op := rfl
theorem mkSh_ps (how : Nat → Nat) (don : Nat → Nat) (byt : Nat → Nat → Nat → Nat) (rd : Nat → Nat) (wr : Nat → Nat) (md : Nat → Nat) (sp : Nat) (op : Nat) (ps : Nat) (nx : Nat) (di : Nat) (l0 : Int32) (l1 : Int32) (l2 : Int32) (lo : Nat → Int32) : (mkSh how don byt rd wr md sp op ps nx di l0 l1 l2 lo).ps = ps := rfl
theorem mkSh_nx (how : Nat → Nat) (don : Nat → Nat) (byt : Nat → Nat → Nat → Nat) (rd : Nat → Nat) (wr : Nat → Nat) (md : Nat → Nat) (sp : Nat) (op : Nat) (ps : Nat) (nx : Nat) (di : Nat) (l0 : Int32) (l1 : Int32) (l2 : Int32) (lo : Nat → Int32) : (mkSh how don byt rd wr md sp op ps nx di l0 l1 l2 lo).nx = nx := rfl
theorem mkSh_di (how : Nat → Nat) (don : Nat → Nat) (byt : Nat → Nat → Nat → Nat) (rd : Nat → Nat) (wr : Nat → Nat) (md : Nat → Nat) (sp : Nat) (op : Nat) (ps : Nat) (nx : Nat) (di : Nat) (l0 : Int32) (l1 : Int32) (l2 : Int32) (lo : Nat → Int32) : (mkSh how don byt rd wr md sp op ps nx di l0 l1 l2 lo).di = di := rfl
theorem mkSh_l0 (how : Nat → Nat) (don : Nat → Nat) (byt : Nat → Nat → Nat → Nat) (rd : Nat → Nat) (wr : Nat → Nat) (md : Nat → Nat) (sp : Nat) (op : Nat) (ps : Nat) (nx : Nat) (di : Nat) (l0 : Int32) (l1 : Int32) (l2 : Int32) (lo : Nat → Int32) : (mkSh how don byt rd wr md sp op ps nx di l0 l1 l2 lo).l0 = l0 := rfl
theorem mkSh_l1 (how : Nat → Nat) (don : Nat → Nat) (byt : Nat → Nat → Nat → Nat) (rd : Nat → Nat) (wr : Nat → Nat) (md : Nat → Nat) (sp : Nat) (op : Nat) (ps : Nat) (nx : Nat) (di : Nat) (l0 : Int32) (l1 : Int32) (l2 : Int32) (lo : Nat → Int32) : (mkSh how don byt rd wr md sp op ps nx di l0 l1 l2 lo).l1 = l1 := rfl
theorem mkSh_l2 (how : Nat → Nat) (don : Nat → Nat) (byt : Nat → Nat → Nat → Nat) (rd : Nat → Nat) (wr : Nat → Nat) (md : Nat → Nat) (sp : Nat) (op : Nat) (ps : Nat) (nx : Nat) (di : Nat) (l0 : Int32) (l1 : Int32) (l2 : Int32) (lo : Nat → Int32) : (mkSh how don byt rd wr md sp op ps nx di l0 l1 l2 lo).l2 = l2 := rfl
theorem mkSh_lo (how : Nat → Nat) (don : Nat → Nat) (byt : Nat → Nat → Nat → Nat) (rd : Nat → Nat) (wr : Nat → Nat) (md : Nat → Nat) (sp : Nat) (op : Nat) (ps : Nat) (nx : Nat) (di : Nat) (l0 : Int32) (l1 : Int32) (l2 : Int32) (lo : Nat → Int32) : (mkSh how don byt rd wr md sp op ps nx di l0 l1 l2 lo).lo = lo := rfl
def Sh.w_how (s : Sh) (x : Nat → Nat) : Sh := mkSh x s.don s.byt s.rd s.wr s.md s.sp s.op s.ps s.nx s.di s.l0 s.l1 s.l2 s.lo
def Sh.w_don (s : Sh) (x : Nat → Nat) : Sh := mkSh s.how x s.byt s.rd s.wr s.md s.sp s.op s.ps s.nx s.di s.l0 s.l1 s.l2 s.lo
def Sh.w_byt (s : Sh) (x : Nat → Nat → Nat → Nat) : Sh := mkSh s.how s.don x s.rd s.wr s.md s.sp s.op s.ps s.nx s.di s.l0 s.l1 s.l2 s.lo
def Sh.w_rd (s : Sh) (x : Nat → Nat) : Sh := mkSh s.how s.don s.byt x s.wr s.md s.sp s.op s.ps s.nx s.di s.l0 s.l1 s.l2 s.lo
def Sh.w_wr (s : Sh) (x : Nat → Nat) : Sh := mkSh s.how s.don s.byt s.rd x s.md s.sp s.op s.ps s.nx s.di s.l0 s.l1 s.l2 s.lo
def Sh.w_md (s : Sh) (x : Nat → Nat) : Sh := mkSh s.how s.don s.byt s.rd s.wr x s.sp s.op s.ps s.nx s.di s.l0 s.l1 s.l2 s.lo
def Sh.w_sp (s : Sh) (x : Nat) : Sh := mkSh s.how s.don s.byt s.rd s.wr s.md x s.op s.ps s.nx s.di s.l0 s.l1 s.l2 s.lo
def Sh.w_op (s : Sh) (x : Nat) : Sh := mkSh s.how s.don s.byt s.rd s.wr s.md s.sp x s.ps s.nx s.di s.l0 s.l1 s.l2 s.lo
def Sh.w_ps (s : Sh) (x : Nat) : Sh := mkSh s.how s.don s.byt s.rd s.wr s.md s.sp s.op x s.nx s.di s.l0 s.l1 s.l2 s.lo
def Sh.w_nx (s : Sh) (x : Nat) : Sh := mkSh s.how s.don s.byt s.rd s.wr s.md s.sp s.op s.ps x s.di s.l0 s.l1 s.l2 s.lo
def Sh.w_di (s : Sh) (x : Nat) : Sh := mkSh s.how s.don s.byt s.rd s.wr s.md s.sp s.op s.ps s.nx x s.l0 s.l1 s.l2 s.lo
def Sh.w_l0 (s : Sh) (x : Int32) : Sh := mkSh s.how s.don s.byt s.rd s.wr s.md s.sp s.op s.ps s.nx s.di x s.l1 s.l2 s.lo
def Sh.w_l1 (s : Sh) (x : Int32) : Sh := mkSh s.how s.don s.byt s.rd s.wr s.md s.sp s.op s.ps s.nx s.di s.l0 x s.l2 s.lo
def Sh.w_l2 (s : Sh) (x : Int32) : Sh := mkSh s.how s.don s.byt s.rd s.wr s.md s.sp s.op s.ps s.nx s.di s.l0 s.l1 x s.lo
def Sh.w_lo (s : Sh) (x : Nat → Int32) : Sh := mkSh s.how s.don s.byt s.rd s.wr s.md s.sp s.op s.ps s.nx s.di s.l0 s.l1 s.l2 x
theorem whow_how (s : Sh) (x : Nat → Nat) : (s.w_how x).how = x := rfl
theorem whow_don (s : Sh) (x : Nat → Nat) : (s.w_how x).don = s.don := rfl
theorem whow_byt (s : Sh) (x : Nat → Nat) : (s.w_how x).byt = s.byt := rfl
theorem whow_rd (s : Sh) (x : Nat → Nat) : (s.w_how x).rd = s.rd := rfl
theorem whow_wr (s : Sh) (x : Nat → Nat) : (s.w_how x).wr = s.wr := rfl
theorem whow_md (s : Sh) (x : Nat → Nat) : (s.w_how x).md = s.md := rfl
theorem whow_sp (s : Sh) (x : Nat → Nat) : (s.w_how x).sp = s.sp := rfl
theorem whow_op (s : Sh) (x : Nat → Nat) : (s.w_how x).op = s.op := rfl
theorem whow_ps (s : Sh) (x : Nat → Nat) : (s.w_how x).ps = s.ps := rfl
theorem whow_nx (s : Sh) (x : Nat → Nat) : (s.w_how x).nx = s.nx := rfl
theorem whow_di (s : Sh) (x : Nat → Nat) : (s.w_how x).di = s.di := rfl
theorem whow_l0 (s : Sh) (x : Nat → Nat) : (s.w_how x).l0 = s.l0 := rfl
theorem whow_l1 (s : Sh) (x : Nat → Nat) : (s.w_how x).l1 = s.l1 := rfl
theorem whow_l2 (s : Sh) (x : Nat → Nat) : (s.w_how x).l2 = s.l2 := rfl
theorem whow_lo (s : Sh) (x : Nat → Nat) : (s.w_how x).lo = s.lo := rfl
theorem wdon_how (s : Sh) (x : Nat → Nat) : (s.w_don x).how = s.how := rfl
theorem wdon_don (s : Sh) (x : Nat → Nat) : (s.w_don x).don = x := rfl
theorem wdon_byt (s : Sh) (x : Nat → Nat) : (s.w_don x).byt = s.byt := rfl
theorem wdon_rd (s : Sh) (x : Nat → Nat) : (s.w_don x).rd = s.rd := rfl
theorem wdon_wr (s : Sh) (x : Nat → Nat) : (s.w_don x).wr = s.wr := rfl
theorem wdon_md (s : Sh) (x : Nat → Nat) : (s.w_don x).md = s.md := rfl
theorem wdon_sp (s : Sh) (x : Nat → Nat) : (s.w_don x).sp = s.sp := rfl
theorem wdon_op (s : Sh) (x : Nat → Nat) : (s.w_don x).op = s.op := rfl
theorem wdon_ps (s : Sh) (x : Nat → Nat) : (s.w_don x).ps = s.ps := rfl
theorem wdon_nx (s : Sh) (x : Nat → Nat) : (s.w_don x).nx = s.nx := rfl
theorem wdon_di (s : Sh) (x : Nat → Nat) : (s.w_don x).di = s.di := rfl
theorem wdon_l0 (s : Sh) (x : Nat → Nat) : (s.w_don x).l0 = s.l0 := rfl
theorem wdon_l1 (s : Sh) (x : Nat → Nat) : (s.w_don x).l1 = s.l1 := rfl
theorem wdon_l2 (s : Sh) (x : Nat → Nat) : (s.w_don x).l2 = s.l2 := rfl
theorem wdon_lo (s : Sh) (x : Nat → Nat) : (s.w_don x).lo = s.lo := rfl
theorem wbyt_how (s : Sh) (x : Nat → Nat → Nat → Nat) : (s.w_byt x).how = s.how := rfl
theorem wbyt_don (s : Sh) (x : Nat → Nat → Nat → Nat) : (s.w_byt x).don = s.don := rfl
theorem wbyt_byt (s : Sh) (x : Nat → Nat → Nat → Nat) : (s.w_byt x).byt = x := rfl
theorem wbyt_rd (s : Sh) (x : Nat → Nat → Nat → Nat) : (s.w_byt x).rd = s.rd := rfl
theorem wbyt_wr (s : Sh) (x : Nat → Nat → Nat → Nat) : (s.w_byt x).wr = s.wr := rfl
theorem wbyt_md (s : Sh) (x : Nat → Nat → Nat → Nat) : (s.w_byt x).md = s.md := rfl
theorem wbyt_sp (s : Sh) (x : Nat → Nat → Nat → Nat) : (s.w_byt x).sp = s.sp := rfl
theorem wbyt_op (s : Sh) (x : Nat → Nat → Nat → Nat) : (s.w_byt x).op = s.op := rfl
theorem wbyt_ps (s : Sh) (x : Nat → Nat → Nat → Nat) : (s.w_byt x).ps = s.ps := rfl
theorem wbyt_nx (s : Sh) (x : Nat → Nat → Nat → Nat) : (s.w_byt x).nx = s.nx := rfl
theorem wbyt_di (s : Sh) (x : Nat → Nat → Nat → Nat) : (s.w_byt x).di = s.di := rfl
theorem wbyt_l0 (s : Sh) (x : Nat → Nat → Nat → Nat) : (s.w_byt x).l0 = s.l0 := rfl
theorem wbyt_l1 (s : Sh) (x : Nat → Nat → Nat → Nat) : (s.w_byt x).l1 = s.l1 := rfl
theorem wbyt_l2 (s : Sh) (x : Nat → Nat → Nat → Nat) : (s.w_byt x).l2 = s.l2 := rfl
theorem wbyt_lo (s : Sh) (x : Nat → Nat → Nat → Nat) : (s.w_byt x).lo = s.lo := rfl
theorem wrd_how (s : Sh) (x : Nat → Nat) : (s.w_rd x).how = s.how := rfl
theorem wrd_don (s : Sh) (x : Nat → Nat) : (s.w_rd x).don = s.don := rfl
theorem wrd_byt (s : Sh) (x : Nat → Nat) : (s.w_rd x).byt = s.byt := rfl
theorem wrd_rd (s : Sh) (x : Nat → Nat) : (s.w_rd x).rd = x := rfl
theorem wrd_wr (s : Sh) (x : Nat → Nat) : (s.w_rd x).wr = s.wr := rfl
theorem wrd_md (s : Sh) (x : Nat → Nat) : (s.w_rd x).md = s.md := rfl
theorem wrd_sp (s : Sh) (x : Nat → Nat) : (s.w_rd x).sp = s.sp := rfl
theorem wrd_op (s : Sh) (x : Nat → Nat) : (s.w_rd x).op = s.op := rfl
theorem wrd_ps (s : Sh) (x : Nat → Nat) : (s.w_rd x).ps = s.ps := rfl
theorem wrd_nx (s : Sh) (x : Nat → Nat) : (s.w_rd x).nx = s.nx := rfl
theorem wrd_di (s : Sh) (x : Nat → Nat) : (s.w_rd x).di = s.di := rfl
theorem wrd_l0 (s : Sh) (x : Nat → Nat) : (s.w_rd x).l0 = s.l0 := rfl
theorem wrd_l1 (s : Sh) (x : Nat → Nat) : (s.w_rd x).l1 = s.l1 := rfl
theorem wrd_l2 (s : Sh) (x : Nat → Nat) : (s.w_rd x).l2 = s.l2 := rfl
theorem wrd_lo (s : Sh) (x : Nat → Nat) : (s.w_rd x).lo = s.lo := rfl
theorem wwr_how (s : Sh) (x : Nat → Nat) : (s.w_wr x).how = s.how := rfl
theorem wwr_don (s : Sh) (x : Nat → Nat) : (s.w_wr x).don = s.don := rfl
theorem wwr_byt (s : Sh) (x : Nat → Nat) : (s.w_wr x).byt = s.byt := rfl
theorem wwr_rd (s : Sh) (x : Nat → Nat) : (s.w_wr x).rd = s.rd := rfl
theorem wwr_wr (s : Sh) (x : Nat → Nat) : (s.w_wr x).wr = x := rfl
theorem wwr_md (s : Sh) (x : Nat → Nat) : (s.w_wr x).md = s.md := rfl
theorem wwr_sp (s : Sh) (x : Nat → Nat) : (s.w_wr x).sp = s.sp := rfl
theorem wwr_op (s : Sh) (x : Nat → Nat) : (s.w_wr x).op = s.op := rfl
theorem wwr_ps (s : Sh) (x : Nat → Nat) : (s.w_wr x).ps = s.ps := rfl
theorem wwr_nx (s : Sh) (x : Nat → Nat) : (s.w_wr x).nx = s.nx := rfl
theorem wwr_di (s : Sh) (x : Nat → Nat) : (s.w_wr x).di = s.di := rfl
theorem wwr_l0 (s : Sh) (x : Nat → Nat) : (s.w_wr x).l0 = s.l0 := rfl
theorem wwr_l1 (s : Sh) (x : Nat → Nat) : (s.w_wr x).l1 = s.l1 := rfl
theorem wwr_l2 (s : Sh) (x : Nat → Nat) : (s.w_wr x).l2 = s.l2 := rfl
theorem wwr_lo (s : Sh) (x : Nat → Nat) : (s.w_wr x).lo = s.lo := rfl
theorem wmd_how (s : Sh) (x : Nat → Nat) : (s.w_md x).how = s.how := rfl
theorem wmd_don (s : Sh) (x : Nat → Nat) : (s.w_md x).don = s.don := rfl
theorem wmd_byt (s : Sh) (x : Nat → Nat) : (s.w_md x).byt = s.byt := rfl
theorem wmd_rd (s : Sh) (x : Nat → Nat) : (s.w_md x).rd = s.rd := rfl
theorem wmd_wr (s : Sh) (x : Nat → Nat) : (s.w_md x).wr = s.wr := rfl
theorem wmd_md (s : Sh) (x : Nat → Nat) : (s.w_md x).md = x := rfl
theorem wmd_sp (s : Sh) (x : Nat → Nat) : (s.w_md x).sp = s.sp := rfl
theorem wmd_op (s : Sh) (x : Nat → Nat) : (s.w_md x).op = s.op := rfl
theorem wmd_ps (s : Sh) (x : Nat → Nat) : (s.w_md x).ps = s.ps := rfl
theorem wmd_nx (s : Sh) (x : Nat → Nat) : (s.w_md x).nx = s.nx := rfl
theorem wmd_di (s : Sh) (x : Nat → Nat) : (s.w_md x).di = s.di := rfl
theorem wmd_l0 (s : Sh) (x : Nat → Nat) : (s.w_md x).l0 = s.l0 := rfl
theorem wmd_l1 (s : Sh) (x : Nat → Nat) : (s.w_md x).l1 = s.l1 := rfl
theorem wmd_l2 (s : Sh) (x : Nat → Nat) : (s.w_md x).l2 = s.l2 := rfl
theorem wmd_lo (s : Sh) (x : Nat → Nat) : (s.w_md x).lo = s.lo := rfl
theorem wsp_how (s : Sh) (x : Nat) : (s.w_sp x).how = s.how := rfl
theorem wsp_don (s : Sh) (x : Nat) : (s.w_sp x).don = s.don := rfl
theorem wsp_byt (s : Sh) (x : Nat) : (s.w_sp x).byt = s.byt := rfl
theorem wsp_rd (s : Sh) (x : Nat) : (s.w_sp x).rd = s.rd := rfl
theorem wsp_wr (s : Sh) (x : Nat) : (s.w_sp x).wr = s.wr := rfl
theorem wsp_md (s : Sh) (x : Nat) : (s.w_sp x).md = s.md := rfl
theorem wsp_sp (s : Sh) (x : Nat) : (s.w_sp x).sp = x := rfl
theorem wsp_op (s : Sh) (x : Nat) : (s.w_sp x).op = s.op := rfl
theorem wsp_ps (s : Sh) (x : Nat) : (s.w_sp x).ps = s.ps := rfl
theorem wsp_nx (s : Sh) (x : Nat) : (s.w_sp x).nx = s.nx := rfl
theorem wsp_di (s : Sh) (x : Nat) : (s.w_sp x).di = s.di := rfl
theorem wsp_l0 (s : Sh) (x : Nat) : (s.w_sp x).l0 = s.l0 := rfl
theorem wsp_l1 (s : Sh) (x : Nat) : (s.w_sp x).l1 = s.l1 := rfl
theorem wsp_l2 (s : Sh) (x : Nat) : (s.w_sp x).l2 = s.l2 := rfl
theorem wsp_lo (s : Sh) (x : Nat) : (s.w_sp x).lo = s.lo := rfl
theorem wop_how (s : Sh) (x : Nat) : (s.w_op x).how = s.how := rfl
theorem wop_don (s : Sh) (x : Nat) : (s.w_op x).don = s.don := rfl
theorem wop_byt (s : Sh) (x : Nat) : (s.w_op x).byt = s.byt := rfl
theorem wop_rd (s : Sh) (x : Nat) : (s.w_op x).rd = s.rd := rfl
theorem wop_wr (s : Sh) (x : Nat) : (s.w_op x).wr = s.wr := rfl
theorem wop_md (s : Sh) (x : Nat) : (s.w_op x).md = s.md := rfl
theorem wop_sp (s : Sh) (x : Nat) : (s.w_op x).sp = s.sp := rfl
theorem wop_op (s : Sh) (x : Nat) : (s.w_op x).op = x := rfl
theorem wop_ps (s : Sh) (x : Nat) : (s.w_op x).ps = s.ps := rfl
theorem wop_nx (s : Sh) (x : Nat) : (s.w_op x).nx = s.nx := rfl
theorem wop_di (s : Sh) (x : Nat) : (s.w_op x).di = s.di := rfl
theorem wop_l0 (s : Sh) (x : Nat) : (s.w_op x).l0 = s.l0 := rfl
theorem wop_l1 (s : Sh) (x : Nat) : (s.w_op x).l1 = s.l1 := rfl
theorem wop_l2 (s : Sh) (x : Nat) : (s.w_op x).l2 = s.l2 := rfl
theorem wop_lo (s : Sh) (x : Nat) : (s.w_op x).lo = s.lo := rfl
theorem wps_how (s : Sh) (x : Nat) : (s.w_ps x).how = s.how := rfl
theorem wps_don (s : Sh) (x : Nat) : (s.w_ps x).don = s.don := rfl
theorem wps_byt (s : Sh) (x : Nat) : (s.w_ps x).byt = s.byt := rfl
theorem wps_rd (s : Sh) (x : Nat) : (s.w_ps x).rd = s.rd := rfl
theorem wps_wr (s : Sh) (x : Nat) : (s.w_ps x).wr = s.wr := rfl
theorem wps_md (s : Sh) (x : Nat) : (s.w_ps x).md = s.md := rfl
theorem wps_sp (s : Sh) (x : Nat) : (s.w_ps x).sp = s.sp := rfl
theorem wps_op (s : Sh) (x : Nat) : (s.w_ps x).op = s.op := rfl
theorem wps_ps (s : Sh) (x : Nat) : (s.w_ps x).ps = x := rfl
theorem wps_nx (s : Sh) (x : Nat) : (s.w_ps x).nx = s.nx := rfl
theorem wps_di (s : Sh) (x : Nat) : (s.w_ps x).di = s.di := rfl
theorem wps_l0 (s : Sh) (x : Nat) : (s.w_ps x).l0 = s.l0 := rfl
theorem wps_l1 (s : Sh) (x : Nat) : (s.w_ps x).l1 = s.l1 := rfl
theorem wps_l2 (s : Sh) (x : Nat) : (s.w_ps x).l2 = s.l2 := rfl
theorem wps_lo (s : Sh) (x : Nat) : (s.w_ps x).lo = s.lo := rfl
theorem wnx_how (s : Sh) (x : Nat) : (s.w_nx x).how = s.how := rfl
theorem wnx_don (s : Sh) (x : Nat) : (s.w_nx x).don = s.don := rfl
theorem wnx_byt (s : Sh) (x : Nat) : (s.w_nx x).byt = s.byt := rfl
theorem wnx_rd (s : Sh) (x : Nat) : (s.w_nx x).rd = s.rd := rfl
theorem wnx_wr (s : Sh) (x : Nat) : (s.w_nx x).wr = s.wr := rfl
theorem wnx_md (s : Sh) (x : Nat) : (s.w_nx x).md = s.md := rfl
theorem wnx_sp (s : Sh) (x : Nat) : (s.w_nx x).sp = s.sp := rfl
theorem wnx_op (s : Sh) (x : Nat) : (s.w_nx x).op = s.op := rfl
theorem wnx_ps (s : Sh) (x : Nat) : (s.w_nx x).ps = s.ps := rfl
theorem wnx_nx (s : Sh) (x : Nat) : (s.w_nx x).nx = x := rfl
theorem wnx_di (s : Sh) (x : Nat) : (s.w_nx x).di = s.di := rfl
theorem wnx_l0 (s : Sh) (x : Nat) : (s.w_nx x).l0 = s.l0 := rfl
theorem wnx_l1 (s : Sh) (x : Nat) : (s.w_nx x).l1 = s.l1 := rfl
theorem wnx_l2 (s : Sh) (x : Nat) : (s.w_nx x).l2 = s.l2 := rfl
theorem wnx_lo (s : Sh) (x : Nat) : (s.w_nx x).lo = s.lo := rfl
theorem wdi_how (s : Sh) (x : Nat) : (s.w_di x).how = s.how := rfl
theorem wdi_don (s : Sh) (x : Nat) : (s.w_di x).don = s.don := rfl
theorem wdi_byt (s : Sh) (x : Nat) : (s.w_di x).byt = s.byt := rfl
theorem wdi_rd (s : Sh) (x : Nat) : (s.w_di x).rd = s.rd := rfl
theorem wdi_wr (s : Sh) (x : Nat) : (s.w_di x).wr = s.wr := rfl
theorem wdi_md (s : Sh) (x : Nat) : (s.w_di x).md = s.md := rfl
theorem wdi_sp (s : Sh) (x : Nat) : (s.w_di x).sp = s.sp := rfl
theorem wdi_op (s : Sh) (x : Nat) : (s.w_di x).op = s.op := rfl
theorem wdi_ps (s : Sh) (x : Nat) : (s.w_di x).ps = s.ps := rfl
theorem wdi_nx (s : Sh) (x : Nat) : (s.w_di x).nx = s.nx := rfl
theorem wdi_di (s : Sh) (x : Nat) : (s.w_di x).di = x := rfl
theorem wdi_l0 (s : Sh) (x : Nat) : (s.w_di x).l0 = s.l0 := rfl
theorem wdi_l1 (s : Sh) (x : Nat) : (s.w_di x).l1 = s.l1 := rfl
theorem wdi_l2 (s : Sh) (x : Nat) : (s.w_di x).l2 = s.l2 := rfl
theorem wdi_lo (s : Sh) (x : Nat) : (s.w_di x).lo = s.lo := rfl
theorem wl0_how (s : Sh) (x : Int32) : (s.w_l0 x).how = s.how := rfl
theorem wl0_don (s : Sh) (x : Int32) : (s.w_l0 x).don = s.don := rfl
theorem wl0_byt (s : Sh) (x : Int32) : (s.w_l0 x).byt = s.byt := rfl
theorem wl0_rd (s : Sh) (x : Int32) : (s.w_l0 x).rd = s.rd := rfl
theorem wl0_wr (s : Sh) (x : Int32) : (s.w_l0 x).wr = s.wr := rfl
theorem wl0_md (s : Sh) (x : Int32) : (s.w_l0 x).md = s.md := rfl
theorem wl0_sp (s : Sh) (x : Int32) : (s.w_l0 x).sp = s.sp := rfl
theorem wl0_op (s : Sh) (x : Int32) : (s.w_l0 x).op = s.op := rfl
theorem wl0_ps (s : Sh) (x : Int32) : (s.w_l0 x).ps = s.ps := rfl
theorem wl0_nx (s : Sh) (x : Int32) : (s.w_l0 x).nx = s.nx := rfl
theorem wl0_di (s : Sh) (x : Int32) : (s.w_l0 x).di = s.di := rfl
theorem wl0_l0 (s : Sh) (x : Int32) : (s.w_l0 x).l0 = x := rfl
theorem wl0_l1 (s : Sh) (x : Int32) : (s.w_l0 x).l1 = s.l1 := rfl
theorem wl0_l2 (s : Sh) (x : Int32) : (s.w_l0 x).l2 = s.l2 := rfl
theorem wl0_lo (s : Sh) (x : Int32) : (s.w_l0 x).lo = s.lo := rfl
theorem wl1_how (s : Sh) (x : Int32) : (s.w_l1 x).how = s.how := rfl
theorem wl1_don (s : Sh) (x : Int32) : (s.w_l1 x).don = s.don := rfl
theorem wl1_byt (s : Sh) (x : Int32) : (s.w_l1 x).byt = s.byt := rfl
theorem wl1_rd (s : Sh) (x : Int32) : (s.w_l1 x).rd = s.rd := rfl
theorem wl1_wr (s : Sh) (x : Int32) : (s.w_l1 x).wr = s.wr := rfl
theorem wl1_md (s : Sh) (x : Int32) : (s.w_l1 x).md = s.md := rfl
theorem wl1_sp (s : Sh) (x : Int32) : (s.w_l1 x).sp = s.sp := rfl
theorem wl1_op (s : Sh) (x : Int32) : (s.w_l1 x).op = s.op := rfl
theorem wl1_ps (s : Sh) (x : Int32) : (s.w_l1 x).ps = s.ps := rfl
theorem wl1_nx (s : Sh) (x : Int32) : (s.w_l1 x).nx = s.nx := rfl
theorem wl1_di (s : Sh) (x : Int32) : (s.w_l1 x).di = s.di := rfl
theorem wl1_l0 (s : Sh) (x : Int32) : (s.w_l1 x).l0 = s.l0 := rfl
theorem wl1_l1 (s : Sh) (x : Int32) : (s.w_l1 x).l1 = x := rfl
theorem wl1_l2 (s : Sh) (x : Int32) : (s.w_l1 x).l2 = s.l2 := rfl
theorem wl1_lo (s : Sh) (x : Int32) : (s.w_l1 x).lo = s.lo := rfl
theorem wl2_how (s : Sh) (x : Int32) : (s.w_l2 x).how = s.how := rfl
theorem wl2_don (s : Sh) (x : Int32) : (s.w_l2 x).don = s.don := rfl
theorem wl2_byt (s : Sh) (x : Int32) : (s.w_l2 x).byt = s.byt := rfl
theorem wl2_rd (s : Sh) (x : Int32) : (s.w_l2 x).rd = s.rd := rfl
theorem wl2_wr (s : Sh) (x : Int32) : (s.w_l2 x).wr = s.wr := rfl
theorem wl2_md (s : Sh) (x : Int32) : (s.w_l2 x).md = s.md := rfl
theorem wl2_sp (s : Sh) (x : Int32) : (s.w_l2 x).sp = s.sp := rfl
theorem wl2_op (s : Sh) (x : Int32) : (s.w_l2 x).op = s.op := rfl
theorem wl2_ps (s : Sh) (x : Int32) : (s.w_l2 x).ps = s.ps := rfl
theorem wl2_nx (s : Sh) (x : Int32) : (s.w_l2 x).nx = s.nx := rfl
theorem wl2_di (s : Sh) (x : Int32) : (s.w_l2 x).di = s.di := rfl
theorem wl2_l0 (s : Sh) (x : Int32) : (s.w_l2 x).l0 = s.l0 := rfl
theorem wl2_l1 (s : Sh) (x : Int32) : (s.w_l2 x).l1 = s.l1 := rfl
theorem wl2_l2 (s : Sh) (x : Int32) : (s.w_l2 x).l2 = x := rfl
theorem wl2_lo (s : Sh) (x : Int32) : (s.w_l2 x).lo = s.lo := rfl
theorem wlo_how (s : Sh) (x : Nat → Int32) : (s.w_lo x).how = s.how := rfl
theorem wlo_don (s : Sh) (x : Nat → Int32) : (s.w_lo x).don = s.don := rfl
theorem wlo_byt (s : Sh) (x : Nat → Int32) : (s.w_lo x).byt = s.byt := rfl
theorem wlo_rd (s : Sh) (x : Nat → Int32) : (s.w_lo x).rd = s.rd := rfl
theorem wlo_wr (s : Sh) (x : Nat → Int32) : (s.w_lo x).wr = s.wr := rfl
theorem wlo_md (s : Sh) (x : Nat → Int32) : (s.w_lo x).md = s.md := rfl
theorem wlo_sp (s : Sh) (x : Nat → Int32) : (s.w_lo x).sp = s.sp := rfl
theorem wlo_op (s : Sh) (x : Nat → Int32) : (s.w_lo x).op = s.op := rfl
theorem wlo_ps (s : Sh) (x : Nat → Int32) : (s.w_lo x).ps = s.ps := rfl
theorem wlo_nx (s : Sh) (x : Nat → Int32) : (s.w_lo x).nx = s.nx := rfl
theorem wlo_di (s : Sh) (x : Nat → Int32) : (s.w_lo x).di = s.di := rfl
theorem wlo_l0 (s : Sh) (x : Nat → Int32) : (s.w_lo x).l0 = s.l0 := rfl
theorem wlo_l1 (s : Sh) (x : Nat → Int32) : (s.w_lo x).l1 = s.l1 := rfl
theorem wlo_l2 (s : Sh) (x : Nat → Int32) : (s.w_lo x).l2 = s.l2 := rfl
theorem wlo_lo (s : Sh) (x : Nat → Int32) : (s.w_lo x).lo = x := rfl
def s8 (f : Nat → Nat) : Nat := f 0 + f 1 + f 2 + f 3 + f 4 + f 5 + f 6 + f 7
def bump (f : Nat → Nat) (d : Nat) : Nat → Nat := fun e => if e = d then f e + 1 else f e
theorem s8_bump {f : Nat → Nat} {d : Nat} (h : d < 8) : s8 (bump f d) = s8 f + 1 := by
  rcases (show d = 0 ∨ d = 1 ∨ d = 2 ∨ d = 3 ∨ d = 4 ∨ d = 5 ∨ d = 6 ∨ d = 7 by omega) with rfl | rfl | rfl | rfl | rfl | rfl | rfl | rfl <;> simp [s8, bump] <;> omega
def Ok (D S C : Nat) (s : Sh) : Prop := (∀ d, d < 8 → s.how d ≤ 2) ∧ (∀ d, d < 8 → s.how d = 0 → s.don d = S) ∧ (∀ d, d < 8 → s.how d = 1 → s.don d = 0) ∧ (∀ d, d < 8 → s.how d = 2 → s.don d < S) ∧ (∀ d t b, s.byt d t b < 256) ∧ (ct (fun d => decide (s.how d ≠ 0)) (D + 2) ≤ 2) ∧ (s.sp < 10) ∧ (s.nx < S) ∧ (s.di < 2 ^ S)
theorem Ok.how {D S C : Nat} {s : Sh} (h : Ok D S C s) : ∀ d, d < 8 → s.how d ≤ 2 := h.1
theorem Ok.h0 {D S C : Nat} {s : Sh} (h : Ok D S C s) : ∀ d, d < 8 → s.how d = 0 → s.don d = S := h.2.1
theorem Ok.h1 {D S C : Nat} {s : Sh} (h : Ok D S C s) : ∀ d, d < 8 → s.how d = 1 → s.don d = 0 := h.2.2.1
theorem Ok.h2 {D S C : Nat} {s : Sh} (h : Ok D S C s) : ∀ d, d < 8 → s.how d = 2 → s.don d < S := h.2.2.2.1
theorem Ok.byt {D S C : Nat} {s : Sh} (h : Ok D S C s) : ∀ d t b, s.byt d t b < 256 := h.2.2.2.2.1
theorem Ok.two {D S C : Nat} {s : Sh} (h : Ok D S C s) : ct (fun d => decide (s.how d ≠ 0)) (D + 2) ≤ 2 := h.2.2.2.2.2.1
theorem Ok.sp {D S C : Nat} {s : Sh} (h : Ok D S C s) : s.sp < 10 := h.2.2.2.2.2.2.1
theorem Ok.nx {D S C : Nat} {s : Sh} (h : Ok D S C s) : s.nx < S := h.2.2.2.2.2.2.2.1
theorem Ok.di {D S C : Nat} {s : Sh} (h : Ok D S C s) : s.di < 2 ^ S := h.2.2.2.2.2.2.2.2
/-- a byte as the class holds it -/
def rb (A : Nat → Int32) (d t b : Nat) : Int32 := g_us (A (d * 12 + t)) (nI (8 * b)) &&& nI 255
/-- the class's slots -/
def XS (C : Nat) (s : Sh) (A : Nat → Int32) : Prop := (∀ d t b, d < 8 → t < 12 → b < C → t < s.don d → rb A d t b = nI (s.byt d t b)) ∧ (∀ d, d < 8 → A (96 + d) = nI (s.how d)) ∧ (∀ d, d < 8 → A (104 + d) = nI (s.don d)) ∧ (∀ d, d < 8 → A (112 + d) = nI (s.rd d)) ∧ (∀ d, d < 8 → A (120 + d) = nI (s.wr d)) ∧ (∀ d, d < 8 → A (128 + d) = nI (s.md d)) ∧ (A 136 = nI s.sp) ∧ (A 137 = nI s.op) ∧ (A 138 = nI s.ps) ∧ (A 139 = nI s.nx) ∧ (A 140 = nI s.di) ∧ (A 141 = s.l0) ∧ (A 142 = s.l1) ∧ (A 143 = s.l2)
theorem XS.byt {C : Nat} {s : Sh} {A : Nat → Int32} (h : XS C s A) : ∀ d t b, d < 8 → t < 12 → b < C → t < s.don d → rb A d t b = nI (s.byt d t b) := h.1
theorem XS.how {C : Nat} {s : Sh} {A : Nat → Int32} (h : XS C s A) : ∀ d, d < 8 → A (96 + d) = nI (s.how d) := h.2.1
theorem XS.don {C : Nat} {s : Sh} {A : Nat → Int32} (h : XS C s A) : ∀ d, d < 8 → A (104 + d) = nI (s.don d) := h.2.2.1
theorem XS.rd {C : Nat} {s : Sh} {A : Nat → Int32} (h : XS C s A) : ∀ d, d < 8 → A (112 + d) = nI (s.rd d) := h.2.2.2.1
theorem XS.wr {C : Nat} {s : Sh} {A : Nat → Int32} (h : XS C s A) : ∀ d, d < 8 → A (120 + d) = nI (s.wr d) := h.2.2.2.2.1
theorem XS.md {C : Nat} {s : Sh} {A : Nat → Int32} (h : XS C s A) : ∀ d, d < 8 → A (128 + d) = nI (s.md d) := h.2.2.2.2.2.1
theorem XS.sp {C : Nat} {s : Sh} {A : Nat → Int32} (h : XS C s A) : A 136 = nI s.sp := h.2.2.2.2.2.2.1
theorem XS.op {C : Nat} {s : Sh} {A : Nat → Int32} (h : XS C s A) : A 137 = nI s.op := h.2.2.2.2.2.2.2.1
theorem XS.ps {C : Nat} {s : Sh} {A : Nat → Int32} (h : XS C s A) : A 138 = nI s.ps := h.2.2.2.2.2.2.2.2.1
theorem XS.nx {C : Nat} {s : Sh} {A : Nat → Int32} (h : XS C s A) : A 139 = nI s.nx := h.2.2.2.2.2.2.2.2.2.1
theorem XS.di {C : Nat} {s : Sh} {A : Nat → Int32} (h : XS C s A) : A 140 = nI s.di := h.2.2.2.2.2.2.2.2.2.2.1
theorem XS.l0 {C : Nat} {s : Sh} {A : Nat → Int32} (h : XS C s A) : A 141 = s.l0 := h.2.2.2.2.2.2.2.2.2.2.2.1
theorem XS.l1 {C : Nat} {s : Sh} {A : Nat → Int32} (h : XS C s A) : A 142 = s.l1 := h.2.2.2.2.2.2.2.2.2.2.2.2.1
theorem XS.l2 {C : Nat} {s : Sh} {A : Nat → Int32} (h : XS C s A) : A 143 = s.l2 := h.2.2.2.2.2.2.2.2.2.2.2.2.2
/-- the reference's row, from an index on -/
def MS (C : Nat) (s : Sh) (A : Nat → Int32) (o : Nat) : Prop := (∀ d t b, d < 8 → t < 12 → b < C → t < s.don d → A (o + (48 * d + 4 * t + b)) = nI (s.byt d t b)) ∧ (∀ d, d < 8 → A (o + (384 + d)) = nI (s.how d)) ∧ (∀ d, d < 8 → s.how d ≠ 0 → A (o + (392 + d)) = nI (s.don d)) ∧ (∀ d, d < 8 → A (o + (400 + d)) = nI (s.rd d)) ∧ (∀ d, d < 8 → A (o + (408 + d)) = nI (s.wr d)) ∧ (∀ d, d < 8 → A (o + (416 + d)) = nI (s.md d)) ∧ (A (o + 424) = nI s.sp) ∧ (A (o + 425) = nI s.di) ∧ (A (o + 426) = nI s.nx) ∧ (A (o + 427) = nI (s8 s.rd)) ∧ (A (o + 428) = nI (s8 s.wr)) ∧ (A (o + 429) = nI (s8 s.md)) ∧ (A (o + 430) = nI s.op) ∧ (A (o + 431) = nI s.ps) ∧ (A (o + 432) = s.l0) ∧ (A (o + 433) = s.l1) ∧ (A (o + 434) = s.l2) ∧ (∀ k, k < 181 → A (o + (435 + k)) = s.lo k)
theorem MS.byt {C : Nat} {s : Sh} {A : Nat → Int32} {o : Nat} (h : MS C s A o) : ∀ d t b, d < 8 → t < 12 → b < C → t < s.don d → A (o + (48 * d + 4 * t + b)) = nI (s.byt d t b) := h.1
theorem MS.how {C : Nat} {s : Sh} {A : Nat → Int32} {o : Nat} (h : MS C s A o) : ∀ d, d < 8 → A (o + (384 + d)) = nI (s.how d) := h.2.1
theorem MS.don {C : Nat} {s : Sh} {A : Nat → Int32} {o : Nat} (h : MS C s A o) : ∀ d, d < 8 → s.how d ≠ 0 → A (o + (392 + d)) = nI (s.don d) := h.2.2.1
theorem MS.rd {C : Nat} {s : Sh} {A : Nat → Int32} {o : Nat} (h : MS C s A o) : ∀ d, d < 8 → A (o + (400 + d)) = nI (s.rd d) := h.2.2.2.1
theorem MS.wr {C : Nat} {s : Sh} {A : Nat → Int32} {o : Nat} (h : MS C s A o) : ∀ d, d < 8 → A (o + (408 + d)) = nI (s.wr d) := h.2.2.2.2.1
theorem MS.md {C : Nat} {s : Sh} {A : Nat → Int32} {o : Nat} (h : MS C s A o) : ∀ d, d < 8 → A (o + (416 + d)) = nI (s.md d) := h.2.2.2.2.2.1
theorem MS.sp {C : Nat} {s : Sh} {A : Nat → Int32} {o : Nat} (h : MS C s A o) : A (o + 424) = nI s.sp := h.2.2.2.2.2.2.1
theorem MS.di {C : Nat} {s : Sh} {A : Nat → Int32} {o : Nat} (h : MS C s A o) : A (o + 425) = nI s.di := h.2.2.2.2.2.2.2.1
theorem MS.nx {C : Nat} {s : Sh} {A : Nat → Int32} {o : Nat} (h : MS C s A o) : A (o + 426) = nI s.nx := h.2.2.2.2.2.2.2.2.1
theorem MS.rds {C : Nat} {s : Sh} {A : Nat → Int32} {o : Nat} (h : MS C s A o) : A (o + 427) = nI (s8 s.rd) := h.2.2.2.2.2.2.2.2.2.1
theorem MS.wrs {C : Nat} {s : Sh} {A : Nat → Int32} {o : Nat} (h : MS C s A o) : A (o + 428) = nI (s8 s.wr) := h.2.2.2.2.2.2.2.2.2.2.1
theorem MS.mds {C : Nat} {s : Sh} {A : Nat → Int32} {o : Nat} (h : MS C s A o) : A (o + 429) = nI (s8 s.md) := h.2.2.2.2.2.2.2.2.2.2.2.1
theorem MS.op {C : Nat} {s : Sh} {A : Nat → Int32} {o : Nat} (h : MS C s A o) : A (o + 430) = nI s.op := h.2.2.2.2.2.2.2.2.2.2.2.2.1
theorem MS.ps {C : Nat} {s : Sh} {A : Nat → Int32} {o : Nat} (h : MS C s A o) : A (o + 431) = nI s.ps := h.2.2.2.2.2.2.2.2.2.2.2.2.2.1
theorem MS.l0 {C : Nat} {s : Sh} {A : Nat → Int32} {o : Nat} (h : MS C s A o) : A (o + 432) = s.l0 := h.2.2.2.2.2.2.2.2.2.2.2.2.2.2.1
theorem MS.l1 {C : Nat} {s : Sh} {A : Nat → Int32} {o : Nat} (h : MS C s A o) : A (o + 433) = s.l1 := h.2.2.2.2.2.2.2.2.2.2.2.2.2.2.2.1
theorem MS.l2 {C : Nat} {s : Sh} {A : Nat → Int32} {o : Nat} (h : MS C s A o) : A (o + 434) = s.l2 := h.2.2.2.2.2.2.2.2.2.2.2.2.2.2.2.2.1
theorem MS.lo {C : Nat} {s : Sh} {A : Nat → Int32} {o : Nat} (h : MS C s A o) : ∀ k, k < 181 → A (o + (435 + k)) = s.lo k := h.2.2.2.2.2.2.2.2.2.2.2.2.2.2.2.2.2
/-! bytes in an int -/
theorem g_us_bv (x : Int32) {k : Nat} (hk : k < 32) : (g_us x (nI k)).toBitVec = x.toBitVec >>> k := by
  have e := s_u k hk
  unfold g_us
  show (x.toUInt32 >>> ((nI k).toUInt32 &&& Int32.toUInt32 31)).toBitVec = _
  rw [UInt32.toBitVec_shiftRight]
  apply BitVec.eq_of_toNat_eq
  rw [BitVec.toNat_ushiftRight]
  show (x.toBitVec >>> (((nI k).toUInt32 &&& Int32.toUInt32 31).toBitVec % 32)).toNat = _
  rw [BitVec.ushiftRight_eq', BitVec.toNat_ushiftRight, e]
theorem i_shl_bv (x : Int32) {k : Nat} (hk : k < 32) : (x <<< nI k).toBitVec = x.toBitVec <<< k := by
  have e := s_l0 k hk
  show x.toBitVec <<< ((nI k).toBitVec.smod 32) = _
  rw [BitVec.shiftLeft_eq', e]
theorem pb_m1 : (-1 : Int32).toBitVec = BitVec.allOnes 32 := by decide
theorem pb_255 : (nI 255).toBitVec = BitVec.setWidth 32 (BitVec.allOnes 8) := by decide
theorem pb_bit (k : Nat) : (nI 255).toBitVec.getLsbD k = decide (k < 8) := by
  rw [pb_255, BitVec.getLsbD_setWidth, BitVec.getLsbD_allOnes]
  by_cases h : k < 8
  · simp [h]; omega
  · simp [h]
theorem pb_same (x v : Int32) {b : Nat} (hb : b < 4) : g_us ((x &&& ((nI 255 <<< nI (8 * b)) ^^^ -1)) ||| ((v &&& nI 255) <<< nI (8 * b))) (nI (8 * b)) &&& nI 255 = v &&& nI 255 := by
  apply Int32.toBitVec_inj.mp
  apply BitVec.eq_of_getLsbD_eq
  intro k hk
  simp only [Int32.toBitVec_and, g_us_bv _ (show 8 * b < 32 by omega), Int32.toBitVec_or, Int32.toBitVec_xor, i_shl_bv _ (show 8 * b < 32 by omega), BitVec.getLsbD_and, BitVec.getLsbD_ushiftRight, BitVec.getLsbD_or, BitVec.getLsbD_xor, BitVec.getLsbD_shiftLeft, pb_m1, BitVec.getLsbD_allOnes, pb_bit]
  by_cases h : k < 8
  · have h1 : 8 * b + k < 32 := by omega
    have h2 : ¬ 8 * b + k < 8 * b := by omega
    have h3 : 8 * b + k - 8 * b = k := by omega
    simp [h, h1, h2, h3]
  · simp [h]
theorem pb_other (x v : Int32) {b c : Nat} (hb : b < 4) (hc : c < 4) (h : b ≠ c) : g_us ((x &&& ((nI 255 <<< nI (8 * b)) ^^^ -1)) ||| ((v &&& nI 255) <<< nI (8 * b))) (nI (8 * c)) &&& nI 255 = g_us x (nI (8 * c)) &&& nI 255 := by
  apply Int32.toBitVec_inj.mp
  apply BitVec.eq_of_getLsbD_eq
  intro k hk
  simp only [Int32.toBitVec_and, g_us_bv _ (show 8 * c < 32 by omega), Int32.toBitVec_or, Int32.toBitVec_xor, i_shl_bv _ (show 8 * b < 32 by omega), BitVec.getLsbD_and, BitVec.getLsbD_ushiftRight, BitVec.getLsbD_or, BitVec.getLsbD_xor, BitVec.getLsbD_shiftLeft, pb_m1, BitVec.getLsbD_allOnes, pb_bit]
  by_cases hk8 : k < 8
  · have h1 : 8 * c + k < 32 := by omega
    by_cases h2 : 8 * c + k < 8 * b
    · simp [hk8, h1, h2]
    · have h3 : ¬ 8 * c + k - 8 * b < 8 := by omega
      simp [hk8, h1, h2, h3]
  · simp [hk8]
/-! reading and writing of pictures -/
theorem gp_k (σ : gM) (k i : Nat) (x : Int32) (j : Nat) : (g_put σ k i x).1 k j = if j = i then x else σ.1 k j := by
  simp [g_put]
theorem gp_s (σ : gM) (k i : Nat) (x : Int32) : (g_put σ k i x).1 k i = x := by simp [g_put]
theorem gp_o {σ : gM} {k i : Nat} {x : Int32} {p : Nat} (h : p ≠ k) (j : Nat) : (g_put σ k i x).1 p j = σ.1 p j := by
  simp [g_put, h]
/-- all but some places is as it was -/
def fr (L : List Nat) (σ σ' : gM) : Prop := (∀ p, p ∉ L → σ'.1 p = σ.1 p) ∧ σ'.2 = σ.2
theorem fr_refl (L : List Nat) (σ : gM) : fr L σ σ := ⟨fun _ _ => rfl, rfl⟩
theorem fr_put {L : List Nat} (σ : gM) {k : Nat} (i : Nat) (x : Int32) (h : k ∈ L) : fr L σ (g_put σ k i x) := by
  refine ⟨fun p hp => ?_, rfl⟩
  exact g_put_o σ k i x p (fun e => hp (e ▸ h))
theorem fr_trans {L : List Nat} {a b c : gM} (h1 : fr L a b) (h2 : fr L b c) : fr L a c := ⟨fun p hp => (h2.1 p hp).trans (h1.1 p hp), h2.2.trans h1.2⟩
theorem fr_mono {L L' : List Nat} {a b : gM} (h : fr L a b) (hL : ∀ p, p ∈ L → p ∈ L') : fr L' a b := ⟨fun p hp => h.1 p (fun q => hp (hL p q)), h.2⟩
/-- what the class's shelf stands on -/
def XE (D S C F : Nat) (σ : gM) : Prop := wfP D S C F ∧ XR D S C F σ ∧ XF F σ
theorem XE_fr {D S C F : Nat} {σ σ' : gM} {L : List Nat} (h : XE D S C F σ) (hf : fr L σ σ') (h5 : 5 ∉ L) (h6 : 6 ∉ L) (h7 : 7 ∉ L) (h8 : 8 ∉ L) : XE D S C F σ' := by
  obtain ⟨a, b, c⟩ := h
  refine ⟨a, ?_, ?_⟩
  · unfold XR at *; rw [hf.1 5 h5]; exact b
  · unfold XF at *; rw [hf.1 6 h6, hf.1 7 h7, hf.1 8 h8]; exact c
def ME (D S C F : Nat) (σ : gM) : Prop := wfP D S C F ∧ MR D S C F σ ∧ MF F σ
theorem ME_fr {D S C F : Nat} {σ σ' : gM} {L : List Nat} (h : ME D S C F σ) (hf : fr L σ σ') (h0 : 0 ∉ L) (h3 : 3 ∉ L) (h8 : 8 ∉ L) (h9 : 9 ∉ L) : ME D S C F σ' := by
  obtain ⟨a, b, c⟩ := h
  refine ⟨a, ?_, ?_⟩
  · unfold MR at *; rw [hf.1 3 h3, hf.1 0 h0]; exact b
  · unfold MF at *; rw [hf.1 8 h8, hf.1 9 h9]; exact c
/-- what is there of a role -/
def th (D : Nat) (s : Sh) (t : Nat) (r : Nat) : Bool := decide (t < s.don (dk D t r))
def vl (D : Nat) (s : Sh) (t b : Nat) (is : Nat → Bool) (r : Nat) : Nat := if is r then s.byt (dk D t r) t b else 0
theorem X_get {i k : Nat} {σ : gM} (hk : k < 144) : fX9_get i (nI k) σ = some (σ.1 (11 + 5 * i) k, σ) := by
  unfold fX9_get
  simp (disch := first | omega | assumption) only [fa_lit, nLE, nLT, nEQ, nI_add, nSA, nSUB, pk_mul, nDIV, nREM, nCL, fa_and, nx_xor, fa_or, nSHL, nSHR, nUS, n31, n255, Nat.and_one_is_mod, b_I, b_V, b_L, not_or, Nat.not_lt_zero, Nat.not_le, Nat.not_lt, not_false_eq_true, true_and, and_true, false_or, or_false, Classical.not_not, if_true, if_false, if_pos, if_neg]
theorem X_set {i k : Nat} {x : Int32} {σ : gM} (hk : k < 144) : fX9_set i (nI k) x σ = some (g_put σ (11 + 5 * i) k x) := by
  unfold fX9_set
  simp (disch := first | omega | assumption) only [fa_lit, nLE, nLT, nEQ, nI_add, nSA, nSUB, pk_mul, nDIV, nREM, nCL, fa_and, nx_xor, fa_or, nSHL, nSHR, nUS, n31, n255, Nat.and_one_is_mod, b_I, b_V, b_L, not_or, Nat.not_lt_zero, Nat.not_le, Nat.not_lt, not_false_eq_true, true_and, and_true, false_or, or_false, Classical.not_not, if_true, if_false, if_pos, if_neg]
theorem X_add {i k : Nat} {x : Int32} {σ : gM} (hk : k < 144) : fX9_add i (nI k) x σ = some (g_put σ (11 + 5 * i) k (σ.1 (11 + 5 * i) k + x)) := by
  unfold fX9_add
  simp (disch := first | omega | assumption) only [fa_lit, nLE, nLT, nEQ, nI_add, nSA, nSUB, pk_mul, nDIV, nREM, nCL, fa_and, nx_xor, fa_or, nSHL, nSHR, nUS, n31, n255, Nat.and_one_is_mod, b_I, b_V, b_L, not_or, Nat.not_lt_zero, Nat.not_le, Nat.not_lt, not_false_eq_true, true_and, and_true, false_or, or_false, Classical.not_not, if_true, if_false, if_pos, if_neg]
theorem X_rget {i k : Nat} {σ : gM} (hk : k < 8) : fX5_get i (nI k) σ = some (σ.1 (13 + 5 * i) k, σ) := by
  unfold fX5_get
  simp (disch := first | omega | assumption) only [fa_lit, nLE, nLT, nEQ, nI_add, nSA, nSUB, pk_mul, nDIV, nREM, nCL, fa_and, nx_xor, fa_or, nSHL, nSHR, nUS, n31, n255, Nat.and_one_is_mod, b_I, b_V, b_L, not_or, Nat.not_lt_zero, Nat.not_le, Nat.not_lt, not_false_eq_true, true_and, and_true, false_or, or_false, Classical.not_not, if_true, if_false, if_pos, if_neg]
theorem X_rset {i k : Nat} {x : Int32} {σ : gM} (hk : k < 8) : fX5_set i (nI k) x σ = some (g_put σ (13 + 5 * i) k (x &&& nI 255)) := by
  unfold fX5_set
  simp (disch := first | omega | assumption) only [fa_lit, nLE, nLT, nEQ, nI_add, nSA, nSUB, pk_mul, nDIV, nREM, nCL, fa_and, nx_xor, fa_or, nSHL, nSHR, nUS, n31, n255, Nat.and_one_is_mod, b_I, b_V, b_L, not_or, Nat.not_lt_zero, Nat.not_le, Nat.not_lt, not_false_eq_true, true_and, and_true, false_or, or_false, Classical.not_not, if_true, if_false, if_pos, if_neg]
theorem X_byteAt {i d t b : Nat} {σ : gM} (hd : d < 8) (ht : t < 12) (hb : b < 4) : fX9_byteAt i (nI d) (nI t) (nI b) σ = some (rb (σ.1 (11 + 5 * i)) d t b, σ) := by
  unfold fX9_byteAt rb
  simp (disch := first | omega | assumption) only [fa_lit, nLE, nLT, nEQ, nI_add, nSA, nSUB, pk_mul, nDIV, nREM, nCL, fa_and, nx_xor, fa_or, nSHL, nSHR, nUS, n31, n255, Nat.and_one_is_mod, b_I, b_V, b_L, not_or, Nat.not_lt_zero, Nat.not_le, Nat.not_lt, not_false_eq_true, true_and, and_true, false_or, or_false, Classical.not_not, if_true, if_false, if_pos, if_neg]
theorem X_putByte {i d t b : Nat} {v : Int32} {σ : gM} (hd : d < 8) (ht : t < 12) (hb : b < 4) : fX9_putByte i (nI d) (nI t) (nI b) v σ = some (g_put σ (11 + 5 * i) (d * 12 + t) ((σ.1 (11 + 5 * i) (d * 12 + t) &&& ((nI 255 <<< nI (8 * b)) ^^^ -1)) ||| ((v &&& nI 255) <<< nI (8 * b)))) := by
  have e : 8 * b &&& 31 = 8 * b := n31 (by omega)
  unfold fX9_putByte
  rw [show (255 : Int32) = nI 255 from rfl, show (31 : Int32) = nI 31 from rfl]
  have e1 : (8 * nI b) &&& nI 31 = nI (8 * b) := by simp (disch := first | omega | assumption) only [fa_lit, nLE, nLT, nEQ, nI_add, nSA, nSUB, pk_mul, nDIV, nREM, nCL, fa_and, nx_xor, fa_or, nSHL, nSHR, nUS, n31, n255, Nat.and_one_is_mod, b_I, b_V, b_L, not_or, Nat.not_lt_zero, Nat.not_le, Nat.not_lt, not_false_eq_true, true_and, and_true, false_or, or_false, Classical.not_not, if_true, if_false, if_pos, if_neg]
  have e2 : nI d * 12 + nI t = nI (d * 12 + t) := by simp (disch := first | omega | assumption) only [fa_lit, nLE, nLT, nEQ, nI_add, nSA, nSUB, pk_mul, nDIV, nREM, nCL, fa_and, nx_xor, fa_or, nSHL, nSHR, nUS, n31, n255, Nat.and_one_is_mod, b_I, b_V, b_L, not_or, Nat.not_lt_zero, Nat.not_le, Nat.not_lt, not_false_eq_true, true_and, and_true, false_or, or_false, Classical.not_not, if_true, if_false, if_pos, if_neg]
  rw [e1, e2, nCL (by omega), if_neg (by simp (disch := first | omega | assumption) only [fa_lit, nLE, nLT, nEQ, nI_add, nSA, nSUB, pk_mul, nDIV, nREM, nCL, fa_and, nx_xor, fa_or, nSHL, nSHR, nUS, n31, n255, Nat.and_one_is_mod, b_I, b_V, b_L, not_or, Nat.not_lt_zero, Nat.not_le, Nat.not_lt, not_false_eq_true, true_and, and_true, false_or, or_false, Classical.not_not, if_true, if_false, if_pos, if_neg]; all_goals omega), if_neg (by simp (disch := first | omega | assumption) only [fa_lit, nLE, nLT, nEQ, nI_add, nSA, nSUB, pk_mul, nDIV, nREM, nCL, fa_and, nx_xor, fa_or, nSHL, nSHR, nUS, n31, n255, Nat.and_one_is_mod, b_I, b_V, b_L, not_or, Nat.not_lt_zero, Nat.not_le, Nat.not_lt, not_false_eq_true, true_and, and_true, false_or, or_false, Classical.not_not, if_true, if_false, if_pos, if_neg]; all_goals omega), if_neg (by simp (disch := first | omega | assumption) only [fa_lit, nLE, nLT, nEQ, nI_add, nSA, nSUB, pk_mul, nDIV, nREM, nCL, fa_and, nx_xor, fa_or, nSHL, nSHR, nUS, n31, n255, Nat.and_one_is_mod, b_I, b_V, b_L, not_or, Nat.not_lt_zero, Nat.not_le, Nat.not_lt, not_false_eq_true, true_and, and_true, false_or, or_false, Classical.not_not, if_true, if_false, if_pos, if_neg]; all_goals omega), if_neg (by simp (disch := first | omega | assumption) only [fa_lit, nLE, nLT, nEQ, nI_add, nSA, nSUB, pk_mul, nDIV, nREM, nCL, fa_and, nx_xor, fa_or, nSHL, nSHR, nUS, n31, n255, Nat.and_one_is_mod, b_I, b_V, b_L, not_or, Nat.not_lt_zero, Nat.not_le, Nat.not_lt, not_false_eq_true, true_and, and_true, false_or, or_false, Classical.not_not, if_true, if_false, if_pos, if_neg]; all_goals omega), if_pos (by simp (disch := first | omega | assumption) only [fa_lit, nLE, nLT, nEQ, nI_add, nSA, nSUB, pk_mul, nDIV, nREM, nCL, fa_and, nx_xor, fa_or, nSHL, nSHR, nUS, n31, n255, Nat.and_one_is_mod, b_I, b_V, b_L, not_or, Nat.not_lt_zero, Nat.not_le, Nat.not_lt, not_false_eq_true, true_and, and_true, false_or, or_false, Classical.not_not, if_true, if_false, if_pos, if_neg]; all_goals omega), if_pos (by simp (disch := first | omega | assumption) only [fa_lit, nLE, nLT, nEQ, nI_add, nSA, nSUB, pk_mul, nDIV, nREM, nCL, fa_and, nx_xor, fa_or, nSHL, nSHR, nUS, n31, n255, Nat.and_one_is_mod, b_I, b_V, b_L, not_or, Nat.not_lt_zero, Nat.not_le, Nat.not_lt, not_false_eq_true, true_and, and_true, false_or, or_false, Classical.not_not, if_true, if_false, if_pos, if_neg]; all_goals omega)]
  rfl
theorem X_isThere {C : Nat} {s : Sh} {i d t : Nat} {σ : gM} (h : XS C s (σ.1 (11 + 5 * i))) (hd : d < 8) (ht : t < 12) (hs : s.don d < 13) : fX8_isThere i (nI d) (nI t) σ = some (nI (if t < s.don d then 1 else 0), σ) := by
  unfold fX8_isThere
  have e : (104 : Int32) + nI d = nI (104 + d) := by simp (disch := first | omega | assumption) only [fa_lit, nLE, nLT, nEQ, nI_add, nSA, nSUB, pk_mul, nDIV, nREM, nCL, fa_and, nx_xor, fa_or, nSHL, nSHR, nUS, n31, n255, Nat.and_one_is_mod, b_I, b_V, b_L, not_or, Nat.not_lt_zero, Nat.not_le, Nat.not_lt, not_false_eq_true, true_and, and_true, false_or, or_false, Classical.not_not, if_true, if_false, if_pos, if_neg]
  rw [e, X_get (by omega), b_I, h.don d hd]
  by_cases c : t < s.don d
  · simp (disch := first | omega | assumption) only [fa_lit, nLE, nLT, nEQ, nI_add, nSA, nSUB, pk_mul, nDIV, nREM, nCL, fa_and, nx_xor, fa_or, nSHL, nSHR, nUS, n31, n255, Nat.and_one_is_mod, b_I, b_V, b_L, not_or, Nat.not_lt_zero, Nat.not_le, Nat.not_lt, not_false_eq_true, true_and, and_true, false_or, or_false, Classical.not_not, if_true, if_false, if_pos, if_neg]
  · simp (disch := first | omega | assumption) only [fa_lit, nLE, nLT, nEQ, nI_add, nSA, nSUB, pk_mul, nDIV, nREM, nCL, fa_and, nx_xor, fa_or, nSHL, nSHR, nUS, n31, n255, Nat.and_one_is_mod, b_I, b_V, b_L, not_or, Nat.not_lt_zero, Nat.not_le, Nat.not_lt, not_false_eq_true, true_and, and_true, false_or, or_false, Classical.not_not, if_true, if_false, if_pos, if_neg]
