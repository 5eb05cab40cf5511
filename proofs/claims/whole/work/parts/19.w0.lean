/-! methods with a table of their own that don't throw (the law's wrappers) -/
def wsW (y : MethodName) (cc : ByteArray) (maxL : Nat) (ret : Option FieldType) (hh : List (Nat × Nat × Nat × Nat)) : List Cond := Cond.codeWith y cc maxL ret hh :: UNI
def WI (l : Launch) (G : Gq) (y : MethodName) (cc : ByteArray) (maxL : Nat) (ret : Option FieldType) (hh : List (Nat × Nat × Nat × Nat)) (rm : Room) (n n' : Nat) (h : Hp) (av : Av) (post : Int32 → Hp → Prop) : Prop := Met l y (wsW y cc maxL ret hh) rm (qP G n h av) (va_Qi post (qB G n') (qA G)) rm.cells rm.slots (qA G)
def TX (X : Ctx) (hh : List (Nat × Nat × Nat × Nat)) : Prop := (xC X).exceptionTable.toList = tableOf hh
theorem Met_ofWH {l : Launch} {y : MethodName} {ws ws' : List Cond} {rm : Room} {Pc : Array Value → State → Prop} {Qc : Array Value → State → Outcome → State → Prop} {mc ms : Nat} {free : Addr → Prop} {cc : ByteArray} {maxL : Nat} {ret : Option FieldType} {hh : List (Nat × Nat × Nat × Nat)}
    (hy : plainName y.cls = true) (hw : ws = Cond.codeWith y cc maxL ret hh :: ws')
    (body : ∀ p e s m args below meth c s₁, BodyLoose p l y (headSpec ws rm) cc maxL ret e s m args below meth c s₁ → c.maxLocals = maxL → c.exceptionTable.toList = tableOf hh → Pc args s →
      W p l e (headSpec ws rm).room s m args below meth c s.heap [] 0 0 (MQ below Qc args s mc ms free) (entryFrame m args maxL)) : Met l y ws rm Pc Qc mc ms free := by
  refine MetFree.of_bodyS (code := cc) (maxLocals := maxL) (ret := ret) hy ?_ ?_
  · intro args s m h hn
    obtain ⟨m9, meth, c, hn9, h1, h2, h3, h4, -, h5, h6, -⟩ := Cond.codeWith_spec (atoms_spec (ws := ws) h _ (by rw [hw]; exact List.mem_cons_self))
    cases hn.symm.trans hn9
    exact ⟨meth, c, h1, h2, h3, h4, h5, h6⟩
  · intro p e s m args below meth c s₁ B hml hP _
    have hh0 : s₁.heap = s.heap := by rw [B.state]; rfl
    have ht : c.exceptionTable.toList = tableOf hh := vx_table (x := y) B (atoms_spec (ws := ws) B.pre _ (by rw [hw]; exact List.mem_cons_self))
    obtain ⟨t, a1, o, b1, b2, b3⟩ := body p e s m args below meth c s₁ B hml ht hP s₁ hh0 (Stand.of_body B)
    exact ⟨t, o, a1, b1, b2, ⟨b3.1, b3.2⟩⟩
set_option maxHeartbeats 1000000 in
theorem WI_of {l : Launch} {G : Gq} {y : MethodName} {cc : ByteArray} {maxL : Nat} {ty : FieldType} {hh : List (Nat × Nat × Nat × Nat)} {rm : Room} {n n' : Nat} {h : Hp} {av : Av} {post : Int32 → Hp → Prop} {L0 : Ctx → List (Option Value)} {own : String} (hl : l.stackTraces = false) (hy : plainName y.cls = true) (how : y.cls = own) (hlen : ∀ X : Ctx, (entL (av (rf X))).length ≤ maxL) (hL0 : ∀ X : Ctx, ent maxL (av (rf X)) = L0 X)
    (body : ∀ X : Ctx, xL X = l → GX X = G → EE X cc own maxL rm.frames rm.locals rm.cells rm.slots → TX X hh → ENDi X cc ty post n' rm.cells rm.slots → GG X 0 0 n h (L0 X) 0 []) : WI l G y cc maxL (some ty) hh rm n n' h av post := by
  obtain ⟨D, cy, b⟩ := G
  refine Met_ofWH (cc := cc) (maxL := maxL) (ret := (some ty)) (hh := hh) hy rfl ?_
  intro p e s m args below meth c s₁ B hml htab hv
  obtain ⟨rfl, hR, hK, hZ1, hZ2, hbs, hstr⟩ := hv
  have hx := B.exec
  have hb := B.bytes
  have hr := B.returns
  have hts := atoms_spec (ws := wsW y cc maxL (some ty) hh) B.pre
  have hown : s.vm.findClass own = some m.cls := how ▸ findClass_of_methodNamed B.named
  have hlocks := B.notSynchronized
  rw [lg_entry_eq]
  have key := body (p, l, e, (headSpec (wsW y cc maxL (some ty) hh) rm).room, s, m, (av (rb b)).toArray, below, meth, c, MQ below (va_Qi post (qB (D, cy, b) n') (qA (D, cy, b))) (av (rb b)).toArray s rm.cells rm.slots (qA (D, cy, b)), D, cy, b) rfl rfl
    ⟨hx, hb, hml, hown, fun w hw => hts w (List.mem_cons_of_mem _ hw), hK, Nat.le_refl _, Nat.le_refl _, Nat.le_refl _, Nat.le_refl _, hlocks, hbs, hZ1, hZ2, hl, hstr⟩ htab ?_
  · rw [← hL0] at key
    exact key s.heap [] _ hR va_S.rf (ent_P (av (rb b)) (hlen (p, l, e, (headSpec (wsW y cc maxL (some ty) hh) rm).room, s, m, (av (rb b)).toArray, below, meth, c, MQ below (va_Qi post (qB (D, cy, b) n') (qA (D, cy, b))) (av (rb b)).toArray s rm.cells rm.slots (qA (D, cy, b)), D, cy, b)))
  · intro k z u L v pc hk hz hd hnar hpost H locs ls hRu hS hl1
    refine W.widen (k := rm.cells) (n := rm.slots) hk hz ?_
    refine W.zret hx hb hr hnar (fun t ht hW => ⟨⟨v, u, rfl, hpost, ?_⟩, hS.F ht⟩) hS.2.2 hd
    exact Wld_of hRu hK hZ1 hZ2 hS hbs hstr ht hW.alike (StrOK_warm hW hstr)
/-- an exception of the class e that comes at pc goes to hp -/
def CatchAt (own : String) (hh : List (Nat × Nat × Nat × Nat)) (pc : Nat) (e : String) (hp : Nat) : Prop := ∃ (pre : List ExceptionTableEntry) (x : ExceptionTableEntry) (suf : List ExceptionTableEntry) (name : String), tableOf hh = pre ++ x :: suf ∧ (∀ z ∈ pre, covers z pc = false ∨ (z.catchType ≠ 0 ∧ ∃ nm : String, Cond.classLink own z.catchType nm ∈ UNI ∧ (e, nm) ∈ ncL)) ∧ covers x pc = true ∧ x.catchType ≠ 0 ∧ Cond.classLink own x.catchType name ∈ UNI ∧ Cond.castable e name ∈ nwL ∧ x.handlerPc = hp
section WRows
variable {X : Ctx} {cc : ByteArray} {own : String} {nL fr lo mc ms k z n pc : Nat} {h : Hp} {L : List (Option Value)} {st : List Value}
variable {i : Nat} {y : MethodName} {bytes : ByteArray} {maxL na : Nat} {rm : Room} {n' : Nat} {av : Av}
theorem r_astoreX (E : EE X cc own nL fr lo mc ms) {i0 : Fin 4} {q i : Nat} (L1 : List (Option Value)) (hi : (i0 : Nat) = i) (hn : i < L.length) (hL : stL L i (.ref q) = L1) (hd : decode cc pc = .ok (.astore_n i0, 1)) (kk : GG X k z n h L1 (pc + 1) st) : GG X k z n h L pc (.ref q :: st) := by
  obtain ⟨p, l, e, R, s, m, args, below, meth, c, Q, D, cy, b⟩ := X
  obtain ⟨hx, hb, hml, hown, hts, -⟩ := E
  intro H locs ls hR hS hl
  exact lv_astore_n hx hb hd hi (lvP_has hl) hn rfl fun ls1 hl1 => kk H locs ls1 hR hS (hL ▸ lvP_st1 rfl hl1)
theorem r_astoreXw (E : EE X cc own nL fr lo mc ms) {q i : Nat} (L1 : List (Option Value)) (hn : i < L.length) (hL : stL L i (.ref q) = L1) (hd : decode cc pc = .ok (.astore i, 2)) (kk : GG X k z n h L1 (pc + 2) st) : GG X k z n h L pc (.ref q :: st) := by
  obtain ⟨p, l, e, R, s, m, args, below, meth, c, Q, D, cy, b⟩ := X
  obtain ⟨hx, hb, hml, hown, hts, -⟩ := E
  intro H locs ls hR hS hl
  exact lv_astore hx hb hd (lvP_has hl) hn rfl fun ls1 hl1 => kk H locs ls1 hR hS (hL ▸ lvP_st1 rfl hl1)
theorem r_xcallVIc (E : EE X cc own nL fr lo mc ms) {ret : Option FieldType} {st0 As : List Value} {k1 z1 : Nat} {post : Int32 → Hp → Prop} {hh : List (Nat × Nat × Nat × Nat)} {xp : String → Hp → Prop} (hT : TX X hh) (hM : XI (xL X) (GX X) y bytes maxL ret rm n n' h av post xp) {j o : Nat} (F : LV own i y j bytes maxL ret na) (hrm : RM rm maxL fr lo) (hav : av (rf X) = rf X j o :: As) (hst0 : st0 = As.reverse ++ rf X j o :: st) (hna : As.length = na) (hLn : L.length = nL) (ho : o < nobj j) (hn : adr j o < n) (hcat : (st.map fun v => v.category).sum ≤ 8) (hk : k + rm.cells = k1) (hz : z + rm.slots = z1) (hk1 : k1 ≤ mc) (hz1 : z1 ≤ ms) (hd : decode cc pc = .ok (.invokevirtual i, 3))
    (kx : ∀ (e : String) (u : Hp) (q : Nat), xp e u → ∃ hp : Nat, CatchAt own hh pc e hp ∧ GG X k1 z1 n' u L hp [.ref q]) (kk : ∀ (r : Int32) (u : Hp), post r u → GG X k1 z1 n' u L (pc + 3) (.int r :: st)) : GG X k z n h L pc st0 := by
  obtain ⟨p, l, e, R, s, m, args, below, meth, c, Q, D, cy, b⟩ := X
  obtain ⟨hx, hb, hml, hown, hts, hK, hfr, hlo, hmc, hms, hlk, hbs, hZ1, hZ2, hst, hstr⟩ := E
  intro H locs ls hR hS hl
  subst hk; subst hz
  have hroom : rm.frames + 1 ≤ R.frames ∧ 8 + (maxL + 11) + rm.locals ≤ R.locals := ⟨Nat.le_trans hrm.1 hfr, Nat.le_trans hrm.2 hlo⟩
  obtain ⟨hj, f1, f2, f3, f4, f5, fy⟩ := F
  have cw := (⟨callB_of (R := R) (s := s) (args := args) (rm := rm) (ws := wsU y bytes maxL ret) na hts (gin (gin_c f5 gin_u)) rfl rfl rfl (hts _ f4) (hts _ f1) fy hroom, hts _ f2, hts _ f3⟩ : CallW R s args own (fCs j) i y bytes maxL ret (wsU y bytes maxL ret) rm rm.cells rm.slots na)
  refine vx_calli (vx_runV (As := As) (rest := st) ⟨hx, hb, hml, hown, hts⟩ hM cw ⟨qP_blind, va_recv hK hR.1 (kCl_at hj) ((wl_get ho hn).trans (by rw [cell_o (kt0 j hj)])), fun U hU hW => ⟨congrArg List.toArray hav.symm, Wld_of hR hK hZ1 hZ2 hS hbs hstr hU hW.alike (StrOK_warm hW hstr)⟩⟩ rfl hna (hl.1.trans hLn) (hst0.trans rfl) (lv_room hcat) hd ⟨Nat.le_trans hk1 hmc, Nat.le_trans hz1 hms⟩) hS (fun q _ w => w) (fun q w => w) (fun q _ w => w) (fun E ce q9 u t H1 locs1 ht hvm _ hB _ _ hS1 hcell hv hcl => ?_) (fun r u t H1 locs1 ht hvm hw hB hz1 hk9 hS1 => ?_)
  · obtain ⟨hp, ⟨pre, x, suf, name, t1, t2, t3, t4, t5, t6, t7⟩, g⟩ := kx E u q9 hB.1
    subst t7
    have hT : c.exceptionTable.toList = tableOf hh := hT
    refine vx_catch hown pre x suf (hT.trans t1) (fun z hz => (t2 z hz).imp (fun w => w) (fun w => ⟨w.1, by obtain ⟨nm, w1, w2⟩ := w.2; exact ⟨nm, hts _ w1, hstr.2.2.2 _ w2⟩⟩)) t3 t4 (hts _ t5) (va_Nw.use rfl (hstr.2.1 _ t6)) hcell hv hcl ?_
    exact g H1 locs1 ls (by have := hB.2; rw [ht] at this; exact this) hS1 hl
  · exact kk r u hw H1 locs1 ls (by have := hB.1; rw [ht] at this; exact this) hS1 hl
theorem r_xcallVFc (E : EE X cc own nL fr lo mc ms) {ret : Option FieldType} {st0 As : List Value} {k1 z1 : Nat} {post : UInt32 → Hp → Prop} {hh : List (Nat × Nat × Nat × Nat)} {xp : String → Hp → Prop} (hT : TX X hh) (hM : XF (xL X) (GX X) y bytes maxL ret rm n n' h av post xp) {j o : Nat} (F : LV own i y j bytes maxL ret na) (hrm : RM rm maxL fr lo) (hav : av (rf X) = rf X j o :: As) (hst0 : st0 = As.reverse ++ rf X j o :: st) (hna : As.length = na) (hLn : L.length = nL) (ho : o < nobj j) (hn : adr j o < n) (hcat : (st.map fun v => v.category).sum ≤ 8) (hk : k + rm.cells = k1) (hz : z + rm.slots = z1) (hk1 : k1 ≤ mc) (hz1 : z1 ≤ ms) (hd : decode cc pc = .ok (.invokevirtual i, 3))
    (kx : ∀ (e : String) (u : Hp) (q : Nat), xp e u → ∃ hp : Nat, CatchAt own hh pc e hp ∧ GG X k1 z1 n' u L hp [.ref q]) (kk : ∀ (r : UInt32) (u : Hp), post r u → GG X k1 z1 n' u L (pc + 3) (.float r :: st)) : GG X k z n h L pc st0 := by
  obtain ⟨p, l, e, R, s, m, args, below, meth, c, Q, D, cy, b⟩ := X
  obtain ⟨hx, hb, hml, hown, hts, hK, hfr, hlo, hmc, hms, hlk, hbs, hZ1, hZ2, hst, hstr⟩ := E
  intro H locs ls hR hS hl
  subst hk; subst hz
  have hroom : rm.frames + 1 ≤ R.frames ∧ 8 + (maxL + 11) + rm.locals ≤ R.locals := ⟨Nat.le_trans hrm.1 hfr, Nat.le_trans hrm.2 hlo⟩
  obtain ⟨hj, f1, f2, f3, f4, f5, fy⟩ := F
  have cw := (⟨callB_of (R := R) (s := s) (args := args) (rm := rm) (ws := wsU y bytes maxL ret) na hts (gin (gin_c f5 gin_u)) rfl rfl rfl (hts _ f4) (hts _ f1) fy hroom, hts _ f2, hts _ f3⟩ : CallW R s args own (fCs j) i y bytes maxL ret (wsU y bytes maxL ret) rm rm.cells rm.slots na)
  refine vx_callf (vx_runV (As := As) (rest := st) ⟨hx, hb, hml, hown, hts⟩ hM cw ⟨qP_blind, va_recv hK hR.1 (kCl_at hj) ((wl_get ho hn).trans (by rw [cell_o (kt0 j hj)])), fun U hU hW => ⟨congrArg List.toArray hav.symm, Wld_of hR hK hZ1 hZ2 hS hbs hstr hU hW.alike (StrOK_warm hW hstr)⟩⟩ rfl hna (hl.1.trans hLn) (hst0.trans rfl) (lv_room hcat) hd ⟨Nat.le_trans hk1 hmc, Nat.le_trans hz1 hms⟩) hS (fun q _ w => w) (fun q w => w) (fun q _ w => w) (fun E ce q9 u t H1 locs1 ht hvm _ hB _ _ hS1 hcell hv hcl => ?_) (fun r u t H1 locs1 ht hvm hw hB hz1 hk9 hS1 => ?_)
  · obtain ⟨hp, ⟨pre, x, suf, name, t1, t2, t3, t4, t5, t6, t7⟩, g⟩ := kx E u q9 hB.1
    subst t7
    have hT : c.exceptionTable.toList = tableOf hh := hT
    refine vx_catch hown pre x suf (hT.trans t1) (fun z hz => (t2 z hz).imp (fun w => w) (fun w => ⟨w.1, by obtain ⟨nm, w1, w2⟩ := w.2; exact ⟨nm, hts _ w1, hstr.2.2.2 _ w2⟩⟩)) t3 t4 (hts _ t5) (va_Nw.use rfl (hstr.2.1 _ t6)) hcell hv hcl ?_
    exact g H1 locs1 ls (by have := hB.2; rw [ht] at this; exact this) hS1 hl
  · exact kk r u hw H1 locs1 ls (by have := hB.1; rw [ht] at this; exact this) hS1 hl
theorem r_xcallVDc (E : EE X cc own nL fr lo mc ms) {ret : Option FieldType} {st0 As : List Value} {k1 z1 : Nat} {post : UInt64 → Hp → Prop} {hh : List (Nat × Nat × Nat × Nat)} {xp : String → Hp → Prop} (hT : TX X hh) (hM : XD (xL X) (GX X) y bytes maxL ret rm n n' h av post xp) {j o : Nat} (F : LV own i y j bytes maxL ret na) (hrm : RM rm maxL fr lo) (hav : av (rf X) = rf X j o :: As) (hst0 : st0 = As.reverse ++ rf X j o :: st) (hna : As.length = na) (hLn : L.length = nL) (ho : o < nobj j) (hn : adr j o < n) (hcat : (st.map fun v => v.category).sum ≤ 8) (hk : k + rm.cells = k1) (hz : z + rm.slots = z1) (hk1 : k1 ≤ mc) (hz1 : z1 ≤ ms) (hd : decode cc pc = .ok (.invokevirtual i, 3))
    (kx : ∀ (e : String) (u : Hp) (q : Nat), xp e u → ∃ hp : Nat, CatchAt own hh pc e hp ∧ GG X k1 z1 n' u L hp [.ref q]) (kk : ∀ (r : UInt64) (u : Hp), post r u → GG X k1 z1 n' u L (pc + 3) (.double r :: st)) : GG X k z n h L pc st0 := by
  obtain ⟨p, l, e, R, s, m, args, below, meth, c, Q, D, cy, b⟩ := X
  obtain ⟨hx, hb, hml, hown, hts, hK, hfr, hlo, hmc, hms, hlk, hbs, hZ1, hZ2, hst, hstr⟩ := E
  intro H locs ls hR hS hl
  subst hk; subst hz
  have hroom : rm.frames + 1 ≤ R.frames ∧ 8 + (maxL + 11) + rm.locals ≤ R.locals := ⟨Nat.le_trans hrm.1 hfr, Nat.le_trans hrm.2 hlo⟩
  obtain ⟨hj, f1, f2, f3, f4, f5, fy⟩ := F
  have cw := (⟨callB_of (R := R) (s := s) (args := args) (rm := rm) (ws := wsU y bytes maxL ret) na hts (gin (gin_c f5 gin_u)) rfl rfl rfl (hts _ f4) (hts _ f1) fy hroom, hts _ f2, hts _ f3⟩ : CallW R s args own (fCs j) i y bytes maxL ret (wsU y bytes maxL ret) rm rm.cells rm.slots na)
  refine vx_calld (vx_runV (As := As) (rest := st) ⟨hx, hb, hml, hown, hts⟩ hM cw ⟨qP_blind, va_recv hK hR.1 (kCl_at hj) ((wl_get ho hn).trans (by rw [cell_o (kt0 j hj)])), fun U hU hW => ⟨congrArg List.toArray hav.symm, Wld_of hR hK hZ1 hZ2 hS hbs hstr hU hW.alike (StrOK_warm hW hstr)⟩⟩ rfl hna (hl.1.trans hLn) (hst0.trans rfl) (lv_room hcat) hd ⟨Nat.le_trans hk1 hmc, Nat.le_trans hz1 hms⟩) hS (fun q _ w => w) (fun q w => w) (fun q _ w => w) (fun E ce q9 u t H1 locs1 ht hvm _ hB _ _ hS1 hcell hv hcl => ?_) (fun r u t H1 locs1 ht hvm hw hB hz1 hk9 hS1 => ?_)
  · obtain ⟨hp, ⟨pre, x, suf, name, t1, t2, t3, t4, t5, t6, t7⟩, g⟩ := kx E u q9 hB.1
    subst t7
    have hT : c.exceptionTable.toList = tableOf hh := hT
    refine vx_catch hown pre x suf (hT.trans t1) (fun z hz => (t2 z hz).imp (fun w => w) (fun w => ⟨w.1, by obtain ⟨nm, w1, w2⟩ := w.2; exact ⟨nm, hts _ w1, hstr.2.2.2 _ w2⟩⟩)) t3 t4 (hts _ t5) (va_Nw.use rfl (hstr.2.1 _ t6)) hcell hv hcl ?_
    exact g H1 locs1 ls (by have := hB.2; rw [ht] at this; exact this) hS1 hl
  · exact kk r u hw H1 locs1 ls (by have := hB.1; rw [ht] at this; exact this) hS1 hl
theorem r_callW (E : EE X cc own nL fr lo mc ms) {ret : Option FieldType} {st0 As : List Value} {k1 z1 : Nat} {post : Int32 → Hp → Prop} {hh : List (Nat × Nat × Nat × Nat)} (hM : WI (xL X) (GX X) y bytes maxL ret hh rm n n' h av post) (hlk : Cond.methodLink own i y ∈ UNI) (F : Cond.static y ∈ UNI ∧ Cond.initialized y.cls ∈ UNI ∧ Cond.codeWith y bytes maxL ret hh ∈ UNI ∧ YM y na) (hrm : RM rm maxL fr lo) (hav : av (rf X) = As) (hst0 : st0 = As.reverse ++ st) (hna : As.length = na) (hLn : L.length = nL) (hcat : (st.map fun v => v.category).sum ≤ 8) (hk : k + rm.cells = k1) (hz : z + rm.slots = z1) (hk1 : k1 ≤ mc) (hz1 : z1 ≤ ms) (hd : decode cc pc = .ok (.invokestatic i, 3))
    (kk : ∀ (r : Int32) (u : Hp), post r u → GG X k1 z1 n' u L (pc + 3) (.int r :: st)) : GG X k z n h L pc st0 := by
  obtain ⟨p, l, e, R, s, m, args, below, meth, c, Q, D, cy, b⟩ := X
  obtain ⟨hx, hb, hml, hown, hts, hK, hfr, hlo, hmc, hms, hlk9, hbs, hZ1, hZ2, hst, hstr⟩ := E
  intro H locs ls hR hS hl
  subst hk; subst hz
  have hroom : rm.frames + 1 ≤ R.frames ∧ 8 + (maxL + 11) + rm.locals ≤ R.locals := ⟨Nat.le_trans hrm.1 hfr, Nat.le_trans hrm.2 hlo⟩
  have cw := vx_cwSW (R := R) (s := s) (args := args) (own := own) (index := i) (y := y) (bytes := bytes) (maxL := maxL) (ret := ret) (hh := hh) (ws := wsW y bytes maxL ret hh) (rm := rm) (mc := rm.cells) (ms := rm.slots) na hts (gin (gin_c hlk (gin_c F.1 (gin_c F.2.1 (gin_c F.2.2.1 gin_u))))) rfl rfl rfl F.2.2.2 hroom
  refine va_calli (vx_runSW (As := As) (rest := st) ⟨hx, hb, hml, hown, hts⟩ hM cw ⟨qP_blind, fun U hU hW => ⟨congrArg List.toArray hav.symm, Wld_of hR hK hZ1 hZ2 hS hbs hstr hU hW.alike (StrOK_warm hW hstr)⟩⟩ rfl hna (hl.1.trans hLn) (hst0.trans rfl) (lv_room hcat) hd ⟨Nat.le_trans hk1 hmc, Nat.le_trans hz1 hms⟩) hS (fun q _ w => w) (fun q w => w) (fun r u t H1 locs1 ht hvm hw hB hz1 hk9 hS1 => ?_)
  exact kk r u hw H1 locs1 ls (by have := hB.1; rw [ht] at this; exact this) hS1 hl
/-! the script -/
def SX (X : Ctx) (bs L : Nat) (xs : Nat → Int32) : Prop := va_X bs L xs (xS X) (xS X).heap ∧ bs < (xS X).heap.size ∧ ¬ xb X ≤ bs
theorem r_aloadS (E : EE X cc own nL fr lo mc ms) {i : Fin 4} {bs : Nat} (hl0 : L[(i : Nat)]? = some (some (.ref bs))) (hd : decode cc pc = .ok (.aload_n i, 1)) (kk : GG X k z n h L (pc + 1) (.ref bs :: st)) : GG X k z n h L pc st := by
  obtain ⟨p, l, e, R, s, m, args, below, meth, c, Q, D, cy, b⟩ := X
  obtain ⟨hx, hb, hml, hown, hts, -⟩ := E
  intro H locs ls hR hS hl
  exact lv_aload_n hx hb hd rfl (hl.2.2 _ _ hl0) (kk H locs ls hR hS hl)
theorem r_slen (E : EE X cc own nL fr lo mc ms) {bs Ls : Nat} {xs : Nat → Int32} (hSX : SX X bs Ls xs) (hd : decode cc pc = .ok (.arraylength, 1)) (kk : GG X k z n h L (pc + 1) (.int (nI Ls) :: st)) : GG X k z n h L pc (.ref bs :: st) := by
  obtain ⟨p, l, e, R, s, m, args, below, meth, c, Q, D, cy, b⟩ := X
  obtain ⟨hx, hb, hml, hown, hts, -⟩ := E
  intro H locs ls hR hS hl
  exact va_slen hx hb hSX.1 hSX.2.1 hSX.2.2 hS hd (kk H locs ls hR hS hl)
theorem r_sld (E : EE X cc own nL fr lo mc ms) {bs Ls : Nat} {xs : Nat → Int32} {i : Int32} (hSX : SX X bs Ls xs) (hin : vp_in i Ls) (hd : decode cc pc = .ok (.iaload, 1)) (kk : GG X k z n h L (pc + 1) (.int (xs i.toNatClampNeg) :: st)) : GG X k z n h L pc (.int i :: .ref bs :: st) := by
  obtain ⟨p, l, e, R, s, m, args, below, meth, c, Q, D, cy, b⟩ := X
  obtain ⟨hx, hb, hml, hown, hts, -⟩ := E
  intro H locs ls hR hS hl
  exact va_sld hx hb hSX.1 hSX.2.1 hSX.2.2 hS hin hd (kk H locs ls hR hS hl)
end WRows
section WRows2
variable {X : Ctx} {cc : ByteArray} {own : String} {nL fr lo mc ms k z n pc : Nat} {h : Hp} {L : List (Option Value)} {st : List Value}
variable {i : Nat} {y : MethodName} {bytes : ByteArray} {maxL na : Nat} {rm : Room} {n' : Nat} {av : Av}
theorem r_callVF (E : EE X cc own nL fr lo mc ms) {ret : Option FieldType} {st0 As : List Value} {k1 z1 : Nat} {post : UInt32 → Hp → Prop} (hM : MF (xL X) (GX X) y bytes maxL ret rm n n' h av post) {j o : Nat} (F : LV own i y j bytes maxL ret na) (hrm : RM rm maxL fr lo) (hav : av (rf X) = rf X j o :: As) (hst0 : st0 = As.reverse ++ rf X j o :: st) (hna : As.length = na) (hLn : L.length = nL) (ho : o < nobj j) (hn : adr j o < n) (hcat : (st.map fun v => v.category).sum ≤ 8) (hk : k + rm.cells = k1) (hz : z + rm.slots = z1) (hk1 : k1 ≤ mc) (hz1 : z1 ≤ ms) (hd : decode cc pc = .ok (.invokevirtual i, 3)) (kk : ∀ (r : UInt32) (u : Hp), post r u → GG X k1 z1 n' u L (pc + 3) (.float r :: st)) : GG X k z n h L pc st0 := by
  obtain ⟨p, l, e, R, s, m, args, below, meth, c, Q, D, cy, b⟩ := X
  obtain ⟨hx, hb, hml, hown, hts, hK, hfr, hlo, hmc, hms, hlk, hbs, hZ1, hZ2, hst, hstr⟩ := E
  intro H locs ls hR hS hl
  subst hk; subst hz
  have hroom : rm.frames + 1 ≤ R.frames ∧ 8 + (maxL + 11) + rm.locals ≤ R.locals := ⟨Nat.le_trans hrm.1 hfr, Nat.le_trans hrm.2 hlo⟩
  obtain ⟨hj, f1, f2, f3, f4, f5, fy⟩ := F
  have cw := (⟨callB_of (R := R) (s := s) (args := args) (rm := rm) (ws := wsU y bytes maxL ret) na hts (gin (gin_c f5 gin_u)) rfl rfl rfl (hts _ f4) (hts _ f1) fy hroom, hts _ f2, hts _ f3⟩ : CallW R s args own (fCs j) i y bytes maxL ret (wsU y bytes maxL ret) rm rm.cells rm.slots na)
  refine va_callf (va_runV (As := As) (rest := st) ⟨hx, hb, hml, hown, hts⟩ hM cw ⟨qP_blind, va_recv hK hR.1 (kCl_at hj) ((wl_get ho hn).trans (by rw [cell_o (kt0 j hj)])), fun U hU hW => ⟨congrArg List.toArray hav.symm, Wld_of hR hK hZ1 hZ2 hS hbs hstr hU hW.alike (StrOK_warm hW hstr)⟩⟩ rfl hna (hl.1.trans hLn) (hst0.trans rfl) (lv_room hcat) hd ⟨Nat.le_trans hk1 hmc, Nat.le_trans hz1 hms⟩) hS (fun q _ w => w) (fun q w => w) (fun r u t H1 locs1 ht hvm hw hB hz1 hk9 hS1 => ?_)
  exact kk r u hw H1 locs1 ls (by have := hB.1; rw [ht] at this; exact this) hS1 hl
theorem r_callVD (E : EE X cc own nL fr lo mc ms) {ret : Option FieldType} {st0 As : List Value} {k1 z1 : Nat} {post : UInt64 → Hp → Prop} (hM : MD (xL X) (GX X) y bytes maxL ret rm n n' h av post) {j o : Nat} (F : LV own i y j bytes maxL ret na) (hrm : RM rm maxL fr lo) (hav : av (rf X) = rf X j o :: As) (hst0 : st0 = As.reverse ++ rf X j o :: st) (hna : As.length = na) (hLn : L.length = nL) (ho : o < nobj j) (hn : adr j o < n) (hcat : (st.map fun v => v.category).sum ≤ 8) (hk : k + rm.cells = k1) (hz : z + rm.slots = z1) (hk1 : k1 ≤ mc) (hz1 : z1 ≤ ms) (hd : decode cc pc = .ok (.invokevirtual i, 3)) (kk : ∀ (r : UInt64) (u : Hp), post r u → GG X k1 z1 n' u L (pc + 3) (.double r :: st)) : GG X k z n h L pc st0 := by
  obtain ⟨p, l, e, R, s, m, args, below, meth, c, Q, D, cy, b⟩ := X
  obtain ⟨hx, hb, hml, hown, hts, hK, hfr, hlo, hmc, hms, hlk, hbs, hZ1, hZ2, hst, hstr⟩ := E
  intro H locs ls hR hS hl
  subst hk; subst hz
  have hroom : rm.frames + 1 ≤ R.frames ∧ 8 + (maxL + 11) + rm.locals ≤ R.locals := ⟨Nat.le_trans hrm.1 hfr, Nat.le_trans hrm.2 hlo⟩
  obtain ⟨hj, f1, f2, f3, f4, f5, fy⟩ := F
  have cw := (⟨callB_of (R := R) (s := s) (args := args) (rm := rm) (ws := wsU y bytes maxL ret) na hts (gin (gin_c f5 gin_u)) rfl rfl rfl (hts _ f4) (hts _ f1) fy hroom, hts _ f2, hts _ f3⟩ : CallW R s args own (fCs j) i y bytes maxL ret (wsU y bytes maxL ret) rm rm.cells rm.slots na)
  refine va_calld (va_runV (As := As) (rest := st) ⟨hx, hb, hml, hown, hts⟩ hM cw ⟨qP_blind, va_recv hK hR.1 (kCl_at hj) ((wl_get ho hn).trans (by rw [cell_o (kt0 j hj)])), fun U hU hW => ⟨congrArg List.toArray hav.symm, Wld_of hR hK hZ1 hZ2 hS hbs hstr hU hW.alike (StrOK_warm hW hstr)⟩⟩ rfl hna (hl.1.trans hLn) (hst0.trans rfl) (lv_room hcat) hd ⟨Nat.le_trans hk1 hmc, Nat.le_trans hz1 hms⟩) hS (fun q _ w => w) (fun q w => w) (fun r u t H1 locs1 ht hvm hw hB hz1 hk9 hS1 => ?_)
  exact kk r u hw H1 locs1 ls (by have := hB.1; rw [ht] at this; exact this) hS1 hl
end WRows2
