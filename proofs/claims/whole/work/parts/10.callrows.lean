/-! calls -/
def YM (y : MethodName) (na : Nat) : Prop := y.cls ≠ "java/lang/invoke/MethodHandle" ∧ y.cls ≠ "java/lang/invoke/VarHandle" ∧ (parseMethodDescriptor y.desc).map (fun d => d.parameters.length) = some na
def LV (own : String) (i : Nat) (y : MethodName) (j : Nat) (bytes : ByteArray) (maxL : Nat) (ret : Option FieldType) (na : Nat) : Prop := j < 12 ∧ Cond.methodLink own i y ∈ UNI ∧ Cond.instanceMethod y ∈ UNI ∧ Cond.selects (fCs j) y y ∈ UNI ∧ Cond.initialized y.cls ∈ UNI ∧ Cond.code y bytes maxL ret ∈ UNI ∧ YM y na
def LSt (own : String) (i : Nat) (y : MethodName) (bytes : ByteArray) (maxL : Nat) (ret : Option FieldType) (na : Nat) : Prop := Cond.methodLink own i y ∈ UNI ∧ Cond.static y ∈ UNI ∧ Cond.initialized y.cls ∈ UNI ∧ Cond.code y bytes maxL ret ∈ UNI ∧ YM y na
def LSN (own : String) (i : Nat) (y : MethodName) (bytes : ByteArray) (maxL : Nat) (ret : Option FieldType) (na : Nat) : Prop := Cond.methodLinkNest own i y "Filterbench" ∈ nwL ∧ Cond.static y ∈ UNI ∧ Cond.initialized y.cls ∈ UNI ∧ Cond.code y bytes maxL ret ∈ UNI ∧ YM y na
def LI (own : String) (i : Nat) (y : MethodName) (bytes : ByteArray) (maxL : Nat) (na : Nat) : Prop := Cond.methodLink own i y ∈ UNI ∧ Cond.instanceMethod y ∈ UNI ∧ y.name = "<init>" ∧ Cond.initialized y.cls ∈ UNI ∧ Cond.code y bytes maxL none ∈ UNI ∧ YM y na
def LIN (own : String) (i : Nat) (y : MethodName) (bytes : ByteArray) (maxL : Nat) (na : Nat) : Prop := Cond.methodLinkNest own i y "Filterbench" ∈ nwL ∧ Cond.instanceMethod y ∈ UNI ∧ y.name = "<init>" ∧ Cond.initialized y.cls ∈ UNI ∧ Cond.code y bytes maxL none ∈ UNI ∧ YM y na
theorem nwL_ot : ∀ w ∈ nwL, w.onTables = true := by decide +kernel
def RM (rm : Room) (maxL fr lo : Nat) : Prop := rm.frames + 1 ≤ fr ∧ 8 + (maxL + 11) + rm.locals ≤ lo
section CallRows
variable {X : Ctx} {cc : ByteArray} {own : String} {nL fr lo mc ms k z n pc : Nat} {h : Hp} {L : List (Option Value)} {st : List Value}
variable {i : Nat} {y : MethodName} {bytes : ByteArray} {maxL na : Nat} {rm : Room} {n' : Nat} {av : Av}

theorem r_callVI (E : EE X cc own nL fr lo mc ms) {ret : Option FieldType} {st0 As : List Value} {k1 z1 : Nat} {post : Int32 → Hp → Prop} (hM : MI (xL X) (GX X) y bytes maxL ret rm n n' h av post) {j o : Nat} (F : LV own i y j bytes maxL ret na) (hrm : RM rm maxL fr lo) (hav : av (rf X) = rf X j o :: As) (hst0 : st0 = As.reverse ++ rf X j o :: st) (hna : As.length = na) (hLn : L.length = nL) (ho : o < nobj j) (hn : adr j o < n) (hcat : (st.map fun v => v.category).sum ≤ 8) (hk : k + rm.cells = k1) (hz : z + rm.slots = z1) (hk1 : k1 ≤ mc) (hz1 : z1 ≤ ms) (hd : decode cc pc = .ok (.invokevirtual i, 3)) (kk : ∀ (r : Int32) (u : Hp), post r u → GG X k1 z1 n' u L (pc + 3) (.int r :: st)) : GG X k z n h L pc st0 := by
  obtain ⟨p, l, e, R, s, m, args, below, meth, c, Q, D, cy, b⟩ := X
  obtain ⟨hx, hb, hml, hown, hts, hK, hfr, hlo, hmc, hms, hlk, hbs, hZ1, hZ2, hst, hstr⟩ := E
  intro H locs ls hR hS hl
  subst hk; subst hz
  have hroom : rm.frames + 1 ≤ R.frames ∧ 8 + (maxL + 11) + rm.locals ≤ R.locals := ⟨Nat.le_trans hrm.1 hfr, Nat.le_trans hrm.2 hlo⟩
  obtain ⟨hj, f1, f2, f3, f4, f5, fy⟩ := F
  have cw := (⟨callB_of (R := R) (s := s) (args := args) (rm := rm) (ws := wsU y bytes maxL ret) na hts (gin (gin_c f5 gin_u)) rfl rfl rfl (hts _ f4) (hts _ f1) fy hroom, hts _ f2, hts _ f3⟩ : CallW R s args own (fCs j) i y bytes maxL ret (wsU y bytes maxL ret) rm rm.cells rm.slots na)
  refine va_calli (va_runV (As := As) (rest := st) ⟨hx, hb, hml, hown, hts⟩ hM cw ⟨qP_blind, va_recv hK hR.1 (kCl_at hj) ((wl_get ho hn).trans (by rw [cell_o (kt0 j hj)])), fun U hU hW => ⟨congrArg List.toArray hav.symm, Wld_of hR hK hZ1 hZ2 hS hbs hstr hU hW.alike (StrOK_warm hW hstr)⟩⟩ rfl hna (hl.1.trans hLn) (hst0.trans rfl) (lv_room hcat) hd ⟨Nat.le_trans hk1 hmc, Nat.le_trans hz1 hms⟩) hS (fun q _ w => w) (fun q w => w) (fun r u t H1 locs1 ht hvm hw hB hz1 hk9 hS1 => ?_)
  exact kk r u hw H1 locs1 ls (by have := hB.1; rw [ht] at this; exact this) hS1 hl
theorem r_callVL (E : EE X cc own nL fr lo mc ms) {ret : Option FieldType} {st0 As : List Value} {k1 z1 : Nat} {post : Int64 → Hp → Prop} (hM : ML (xL X) (GX X) y bytes maxL ret rm n n' h av post) {j o : Nat} (F : LV own i y j bytes maxL ret na) (hrm : RM rm maxL fr lo) (hav : av (rf X) = rf X j o :: As) (hst0 : st0 = As.reverse ++ rf X j o :: st) (hna : As.length = na) (hLn : L.length = nL) (ho : o < nobj j) (hn : adr j o < n) (hcat : (st.map fun v => v.category).sum ≤ 8) (hk : k + rm.cells = k1) (hz : z + rm.slots = z1) (hk1 : k1 ≤ mc) (hz1 : z1 ≤ ms) (hd : decode cc pc = .ok (.invokevirtual i, 3)) (kk : ∀ (r : Int64) (u : Hp), post r u → GG X k1 z1 n' u L (pc + 3) (.long r :: st)) : GG X k z n h L pc st0 := by
  obtain ⟨p, l, e, R, s, m, args, below, meth, c, Q, D, cy, b⟩ := X
  obtain ⟨hx, hb, hml, hown, hts, hK, hfr, hlo, hmc, hms, hlk, hbs, hZ1, hZ2, hst, hstr⟩ := E
  intro H locs ls hR hS hl
  subst hk; subst hz
  have hroom : rm.frames + 1 ≤ R.frames ∧ 8 + (maxL + 11) + rm.locals ≤ R.locals := ⟨Nat.le_trans hrm.1 hfr, Nat.le_trans hrm.2 hlo⟩
  obtain ⟨hj, f1, f2, f3, f4, f5, fy⟩ := F
  have cw := (⟨callB_of (R := R) (s := s) (args := args) (rm := rm) (ws := wsU y bytes maxL ret) na hts (gin (gin_c f5 gin_u)) rfl rfl rfl (hts _ f4) (hts _ f1) fy hroom, hts _ f2, hts _ f3⟩ : CallW R s args own (fCs j) i y bytes maxL ret (wsU y bytes maxL ret) rm rm.cells rm.slots na)
  refine va_calll (va_runV (As := As) (rest := st) ⟨hx, hb, hml, hown, hts⟩ hM cw ⟨qP_blind, va_recv hK hR.1 (kCl_at hj) ((wl_get ho hn).trans (by rw [cell_o (kt0 j hj)])), fun U hU hW => ⟨congrArg List.toArray hav.symm, Wld_of hR hK hZ1 hZ2 hS hbs hstr hU hW.alike (StrOK_warm hW hstr)⟩⟩ rfl hna (hl.1.trans hLn) (hst0.trans rfl) (lv_room hcat) hd ⟨Nat.le_trans hk1 hmc, Nat.le_trans hz1 hms⟩) hS (fun q _ w => w) (fun q w => w) (fun r u t H1 locs1 ht hvm hw hB hz1 hk9 hS1 => ?_)
  exact kk r u hw H1 locs1 ls (by have := hB.1; rw [ht] at this; exact this) hS1 hl
theorem r_callVV (E : EE X cc own nL fr lo mc ms) {ret : Option FieldType} {st0 As : List Value} {k1 z1 : Nat} {post : Hp → Prop} (hM : MV (xL X) (GX X) y bytes maxL ret rm n n' h av post) {j o : Nat} (F : LV own i y j bytes maxL ret na) (hrm : RM rm maxL fr lo) (hav : av (rf X) = rf X j o :: As) (hst0 : st0 = As.reverse ++ rf X j o :: st) (hna : As.length = na) (hLn : L.length = nL) (ho : o < nobj j) (hn : adr j o < n) (hcat : (st.map fun v => v.category).sum ≤ 8) (hk : k + rm.cells = k1) (hz : z + rm.slots = z1) (hk1 : k1 ≤ mc) (hz1 : z1 ≤ ms) (hd : decode cc pc = .ok (.invokevirtual i, 3)) (kk : ∀ (u : Hp), post u → GG X k1 z1 n' u L (pc + 3) (st)) : GG X k z n h L pc st0 := by
  obtain ⟨p, l, e, R, s, m, args, below, meth, c, Q, D, cy, b⟩ := X
  obtain ⟨hx, hb, hml, hown, hts, hK, hfr, hlo, hmc, hms, hlk, hbs, hZ1, hZ2, hst, hstr⟩ := E
  intro H locs ls hR hS hl
  subst hk; subst hz
  have hroom : rm.frames + 1 ≤ R.frames ∧ 8 + (maxL + 11) + rm.locals ≤ R.locals := ⟨Nat.le_trans hrm.1 hfr, Nat.le_trans hrm.2 hlo⟩
  obtain ⟨hj, f1, f2, f3, f4, f5, fy⟩ := F
  have cw := (⟨callB_of (R := R) (s := s) (args := args) (rm := rm) (ws := wsU y bytes maxL ret) na hts (gin (gin_c f5 gin_u)) rfl rfl rfl (hts _ f4) (hts _ f1) fy hroom, hts _ f2, hts _ f3⟩ : CallW R s args own (fCs j) i y bytes maxL ret (wsU y bytes maxL ret) rm rm.cells rm.slots na)
  refine va_callv (va_runV (As := As) (rest := st) ⟨hx, hb, hml, hown, hts⟩ hM cw ⟨qP_blind, va_recv hK hR.1 (kCl_at hj) ((wl_get ho hn).trans (by rw [cell_o (kt0 j hj)])), fun U hU hW => ⟨congrArg List.toArray hav.symm, Wld_of hR hK hZ1 hZ2 hS hbs hstr hU hW.alike (StrOK_warm hW hstr)⟩⟩ rfl hna (hl.1.trans hLn) (hst0.trans rfl) (lv_room hcat) hd ⟨Nat.le_trans hk1 hmc, Nat.le_trans hz1 hms⟩) hS (fun q _ w => w) (fun q w => w) (fun u t H1 locs1 ht hvm hw hB hz1 hk9 hS1 => ?_)
  exact kk u hw H1 locs1 ls (by have := hB.1; rw [ht] at this; exact this) hS1 hl
theorem r_callSI (E : EE X cc own nL fr lo mc ms) {ret : Option FieldType} {st0 As : List Value} {k1 z1 : Nat} {post : Int32 → Hp → Prop} (hM : MI (xL X) (GX X) y bytes maxL ret rm n n' h av post) (F : LSt own i y bytes maxL ret na) (hrm : RM rm maxL fr lo) (hav : av (rf X) = As) (hst0 : st0 = As.reverse ++ st) (hna : As.length = na) (hLn : L.length = nL) (hcat : (st.map fun v => v.category).sum ≤ 8) (hk : k + rm.cells = k1) (hz : z + rm.slots = z1) (hk1 : k1 ≤ mc) (hz1 : z1 ≤ ms) (hd : decode cc pc = .ok (.invokestatic i, 3)) (kk : ∀ (r : Int32) (u : Hp), post r u → GG X k1 z1 n' u L (pc + 3) (.int r :: st)) : GG X k z n h L pc st0 := by
  obtain ⟨p, l, e, R, s, m, args, below, meth, c, Q, D, cy, b⟩ := X
  obtain ⟨hx, hb, hml, hown, hts, hK, hfr, hlo, hmc, hms, hlk, hbs, hZ1, hZ2, hst, hstr⟩ := E
  intro H locs ls hR hS hl
  subst hk; subst hz
  have hroom : rm.frames + 1 ≤ R.frames ∧ 8 + (maxL + 11) + rm.locals ≤ R.locals := ⟨Nat.le_trans hrm.1 hfr, Nat.le_trans hrm.2 hlo⟩
  obtain ⟨f1, f2, f4, f5, fy⟩ := F
  have cw := (⟨callB_of (R := R) (s := s) (args := args) (rm := rm) (ws := wsU y bytes maxL ret) na hts (gin (gin_c f5 gin_u)) rfl rfl rfl (hts _ f4) (hts _ f1) fy hroom, hts _ f2⟩ : CallB R s args own i y bytes maxL ret (wsU y bytes maxL ret) rm rm.cells rm.slots na ∧ (Cond.static y).before args s = true)
  refine va_calli (va_runS (As := As) (rest := st) ⟨hx, hb, hml, hown, hts⟩ hM cw ⟨qP_blind, fun U hU hW => ⟨congrArg List.toArray hav.symm, Wld_of hR hK hZ1 hZ2 hS hbs hstr hU hW.alike (StrOK_warm hW hstr)⟩⟩ rfl hna (hl.1.trans hLn) (hst0.trans rfl) (lv_room hcat) hd ⟨Nat.le_trans hk1 hmc, Nat.le_trans hz1 hms⟩) hS (fun q _ w => w) (fun q w => w) (fun r u t H1 locs1 ht hvm hw hB hz1 hk9 hS1 => ?_)
  exact kk r u hw H1 locs1 ls (by have := hB.1; rw [ht] at this; exact this) hS1 hl
theorem r_callSV (E : EE X cc own nL fr lo mc ms) {ret : Option FieldType} {st0 As : List Value} {k1 z1 : Nat} {post : Hp → Prop} (hM : MV (xL X) (GX X) y bytes maxL ret rm n n' h av post) (F : LSt own i y bytes maxL ret na) (hrm : RM rm maxL fr lo) (hav : av (rf X) = As) (hst0 : st0 = As.reverse ++ st) (hna : As.length = na) (hLn : L.length = nL) (hcat : (st.map fun v => v.category).sum ≤ 8) (hk : k + rm.cells = k1) (hz : z + rm.slots = z1) (hk1 : k1 ≤ mc) (hz1 : z1 ≤ ms) (hd : decode cc pc = .ok (.invokestatic i, 3)) (kk : ∀ (u : Hp), post u → GG X k1 z1 n' u L (pc + 3) (st)) : GG X k z n h L pc st0 := by
  obtain ⟨p, l, e, R, s, m, args, below, meth, c, Q, D, cy, b⟩ := X
  obtain ⟨hx, hb, hml, hown, hts, hK, hfr, hlo, hmc, hms, hlk, hbs, hZ1, hZ2, hst, hstr⟩ := E
  intro H locs ls hR hS hl
  subst hk; subst hz
  have hroom : rm.frames + 1 ≤ R.frames ∧ 8 + (maxL + 11) + rm.locals ≤ R.locals := ⟨Nat.le_trans hrm.1 hfr, Nat.le_trans hrm.2 hlo⟩
  obtain ⟨f1, f2, f4, f5, fy⟩ := F
  have cw := (⟨callB_of (R := R) (s := s) (args := args) (rm := rm) (ws := wsU y bytes maxL ret) na hts (gin (gin_c f5 gin_u)) rfl rfl rfl (hts _ f4) (hts _ f1) fy hroom, hts _ f2⟩ : CallB R s args own i y bytes maxL ret (wsU y bytes maxL ret) rm rm.cells rm.slots na ∧ (Cond.static y).before args s = true)
  refine va_callv (va_runS (As := As) (rest := st) ⟨hx, hb, hml, hown, hts⟩ hM cw ⟨qP_blind, fun U hU hW => ⟨congrArg List.toArray hav.symm, Wld_of hR hK hZ1 hZ2 hS hbs hstr hU hW.alike (StrOK_warm hW hstr)⟩⟩ rfl hna (hl.1.trans hLn) (hst0.trans rfl) (lv_room hcat) hd ⟨Nat.le_trans hk1 hmc, Nat.le_trans hz1 hms⟩) hS (fun q _ w => w) (fun q w => w) (fun u t H1 locs1 ht hvm hw hB hz1 hk9 hS1 => ?_)
  exact kk u hw H1 locs1 ls (by have := hB.1; rw [ht] at this; exact this) hS1 hl
theorem r_callSNI (E : EE X cc own nL fr lo mc ms) {ret : Option FieldType} {st0 As : List Value} {k1 z1 : Nat} {post : Int32 → Hp → Prop} (hM : MI (xL X) (GX X) y bytes maxL ret rm n n' h av post) (F : LSN own i y bytes maxL ret na) (hrm : RM rm maxL fr lo) (hav : av (rf X) = As) (hst0 : st0 = As.reverse ++ st) (hna : As.length = na) (hLn : L.length = nL) (hcat : (st.map fun v => v.category).sum ≤ 8) (hk : k + rm.cells = k1) (hz : z + rm.slots = z1) (hk1 : k1 ≤ mc) (hz1 : z1 ≤ ms) (hd : decode cc pc = .ok (.invokestatic i, 3)) (kk : ∀ (r : Int32) (u : Hp), post r u → GG X k1 z1 n' u L (pc + 3) (.int r :: st)) : GG X k z n h L pc st0 := by
  obtain ⟨p, l, e, R, s, m, args, below, meth, c, Q, D, cy, b⟩ := X
  obtain ⟨hx, hb, hml, hown, hts, hK, hfr, hlo, hmc, hms, hlk, hbs, hZ1, hZ2, hst, hstr⟩ := E
  intro H locs ls hR hS hl
  subst hk; subst hz
  have hroom : rm.frames + 1 ≤ R.frames ∧ 8 + (maxL + 11) + rm.locals ≤ R.locals := ⟨Nat.le_trans hrm.1 hfr, Nat.le_trans hrm.2 hlo⟩
  obtain ⟨f1, f2, f4, f5, fy⟩ := F
  have cw := (⟨va_cnB (R := R) (s := s) (args := args) (rm := rm) (ws := wsU y bytes maxL ret) na hts (gin (gin_c f5 gin_u)) rfl rfl rfl (hstr.2.1 _ f1) (hts _ f4) fy hroom, hts _ f2, trivial⟩ : va_CN R s args own i y "Filterbench" bytes maxL ret (wsU y bytes maxL ret) rm rm.cells rm.slots na ∧ (Cond.static y).before args s = true ∧ True)
  refine va_calli (va_runSN (As := As) (rest := st) ⟨hx, hb, hml, hown, hts⟩ hM cw ⟨qP_blind, fun U hU hW => ⟨congrArg List.toArray hav.symm, Wld_of hR hK hZ1 hZ2 hS hbs hstr hU hW.alike (StrOK_warm hW hstr)⟩⟩ rfl hna (hl.1.trans hLn) (hst0.trans rfl) (lv_room hcat) hd ⟨Nat.le_trans hk1 hmc, Nat.le_trans hz1 hms⟩) hS (fun q _ w => w) (fun q w => w) (fun r u t H1 locs1 ht hvm hw hB hz1 hk9 hS1 => ?_)
  exact kk r u hw H1 locs1 ls (by have := hB.1; rw [ht] at this; exact this) hS1 hl
theorem r_callSNV (E : EE X cc own nL fr lo mc ms) {ret : Option FieldType} {st0 As : List Value} {k1 z1 : Nat} {post : Hp → Prop} (hM : MV (xL X) (GX X) y bytes maxL ret rm n n' h av post) (F : LSN own i y bytes maxL ret na) (hrm : RM rm maxL fr lo) (hav : av (rf X) = As) (hst0 : st0 = As.reverse ++ st) (hna : As.length = na) (hLn : L.length = nL) (hcat : (st.map fun v => v.category).sum ≤ 8) (hk : k + rm.cells = k1) (hz : z + rm.slots = z1) (hk1 : k1 ≤ mc) (hz1 : z1 ≤ ms) (hd : decode cc pc = .ok (.invokestatic i, 3)) (kk : ∀ (u : Hp), post u → GG X k1 z1 n' u L (pc + 3) (st)) : GG X k z n h L pc st0 := by
  obtain ⟨p, l, e, R, s, m, args, below, meth, c, Q, D, cy, b⟩ := X
  obtain ⟨hx, hb, hml, hown, hts, hK, hfr, hlo, hmc, hms, hlk, hbs, hZ1, hZ2, hst, hstr⟩ := E
  intro H locs ls hR hS hl
  subst hk; subst hz
  have hroom : rm.frames + 1 ≤ R.frames ∧ 8 + (maxL + 11) + rm.locals ≤ R.locals := ⟨Nat.le_trans hrm.1 hfr, Nat.le_trans hrm.2 hlo⟩
  obtain ⟨f1, f2, f4, f5, fy⟩ := F
  have cw := (⟨va_cnB (R := R) (s := s) (args := args) (rm := rm) (ws := wsU y bytes maxL ret) na hts (gin (gin_c f5 gin_u)) rfl rfl rfl (hstr.2.1 _ f1) (hts _ f4) fy hroom, hts _ f2, trivial⟩ : va_CN R s args own i y "Filterbench" bytes maxL ret (wsU y bytes maxL ret) rm rm.cells rm.slots na ∧ (Cond.static y).before args s = true ∧ True)
  refine va_callv (va_runSN (As := As) (rest := st) ⟨hx, hb, hml, hown, hts⟩ hM cw ⟨qP_blind, fun U hU hW => ⟨congrArg List.toArray hav.symm, Wld_of hR hK hZ1 hZ2 hS hbs hstr hU hW.alike (StrOK_warm hW hstr)⟩⟩ rfl hna (hl.1.trans hLn) (hst0.trans rfl) (lv_room hcat) hd ⟨Nat.le_trans hk1 hmc, Nat.le_trans hz1 hms⟩) hS (fun q _ w => w) (fun q w => w) (fun u t H1 locs1 ht hvm hw hB hz1 hk9 hS1 => ?_)
  exact kk u hw H1 locs1 ls (by have := hB.1; rw [ht] at this; exact this) hS1 hl
theorem r_callIV (E : EE X cc own nL fr lo mc ms)  {st0 As : List Value} {k1 z1 : Nat} {post : Hp → Prop} (hM : MV (xL X) (GX X) y bytes maxL none rm n n' h av post) {j o : Nat} (F : LI own i y bytes maxL na) (hrm : RM rm maxL fr lo) (hav : av (rf X) = rf X j o :: As) (hst0 : st0 = As.reverse ++ rf X j o :: st) (hna : As.length = na) (hLn : L.length = nL) (hcat : (st.map fun v => v.category).sum ≤ 8) (hk : k + rm.cells = k1) (hz : z + rm.slots = z1) (hk1 : k1 ≤ mc) (hz1 : z1 ≤ ms) (hd : decode cc pc = .ok (.invokespecial i, 3)) (kk : ∀ (u : Hp), post u → GG X k1 z1 n' u L (pc + 3) (st)) : GG X k z n h L pc st0 := by
  obtain ⟨p, l, e, R, s, m, args, below, meth, c, Q, D, cy, b⟩ := X
  obtain ⟨hx, hb, hml, hown, hts, hK, hfr, hlo, hmc, hms, hlk, hbs, hZ1, hZ2, hst, hstr⟩ := E
  intro H locs ls hR hS hl
  subst hk; subst hz
  have hroom : rm.frames + 1 ≤ R.frames ∧ 8 + (maxL + 11) + rm.locals ≤ R.locals := ⟨Nat.le_trans hrm.1 hfr, Nat.le_trans hrm.2 hlo⟩
  obtain ⟨f1, f2, f3, f4, f5, fy⟩ := F
  have cw := (⟨callB_of (R := R) (s := s) (args := args) (rm := rm) (ws := wsU y bytes maxL none) na hts (gin (gin_c f5 gin_u)) rfl rfl rfl (hts _ f4) (hts _ f1) fy hroom, f3, hts _ f2⟩ : CallB R s args own i y bytes maxL none (wsU y bytes maxL none) rm rm.cells rm.slots na ∧ y.name = "<init>" ∧ (Cond.instanceMethod y).before args s = true)
  refine va_callv (va_runI (As := As) (rest := st) ⟨hx, hb, hml, hown, hts⟩ hM cw ⟨qP_blind, fun U hU hW => ⟨congrArg List.toArray hav.symm, Wld_of hR hK hZ1 hZ2 hS hbs hstr hU hW.alike (StrOK_warm hW hstr)⟩⟩ rfl hna (hl.1.trans hLn) (hst0.trans rfl) (lv_room hcat) hd ⟨Nat.le_trans hk1 hmc, Nat.le_trans hz1 hms⟩) hS (fun q _ w => w) (fun q w => w) (fun u t H1 locs1 ht hvm hw hB hz1 hk9 hS1 => ?_)
  exact kk u hw H1 locs1 ls (by have := hB.1; rw [ht] at this; exact this) hS1 hl
theorem r_callINV (E : EE X cc own nL fr lo mc ms)  {st0 As : List Value} {k1 z1 : Nat} {post : Hp → Prop} (hM : MV (xL X) (GX X) y bytes maxL none rm n n' h av post) {j o : Nat} (F : LIN own i y bytes maxL na) (hrm : RM rm maxL fr lo) (hav : av (rf X) = rf X j o :: As) (hst0 : st0 = As.reverse ++ rf X j o :: st) (hna : As.length = na) (hLn : L.length = nL) (hcat : (st.map fun v => v.category).sum ≤ 8) (hk : k + rm.cells = k1) (hz : z + rm.slots = z1) (hk1 : k1 ≤ mc) (hz1 : z1 ≤ ms) (hd : decode cc pc = .ok (.invokespecial i, 3)) (kk : ∀ (u : Hp), post u → GG X k1 z1 n' u L (pc + 3) (st)) : GG X k z n h L pc st0 := by
  obtain ⟨p, l, e, R, s, m, args, below, meth, c, Q, D, cy, b⟩ := X
  obtain ⟨hx, hb, hml, hown, hts, hK, hfr, hlo, hmc, hms, hlk, hbs, hZ1, hZ2, hst, hstr⟩ := E
  intro H locs ls hR hS hl
  subst hk; subst hz
  have hroom : rm.frames + 1 ≤ R.frames ∧ 8 + (maxL + 11) + rm.locals ≤ R.locals := ⟨Nat.le_trans hrm.1 hfr, Nat.le_trans hrm.2 hlo⟩
  obtain ⟨f1, f2, f3, f4, f5, fy⟩ := F
  have cw := (⟨va_cnB (R := R) (s := s) (args := args) (rm := rm) (ws := wsU y bytes maxL none) na hts (gin (gin_c f5 gin_u)) rfl rfl rfl (hstr.2.1 _ f1) (hts _ f4) fy hroom, f3, hts _ f2⟩ : va_CN R s args own i y "Filterbench" bytes maxL none (wsU y bytes maxL none) rm rm.cells rm.slots na ∧ y.name = "<init>" ∧ (Cond.instanceMethod y).before args s = true)
  refine va_callv (va_runIN (As := As) (rest := st) ⟨hx, hb, hml, hown, hts⟩ hM cw ⟨qP_blind, fun U hU hW => ⟨congrArg List.toArray hav.symm, Wld_of hR hK hZ1 hZ2 hS hbs hstr hU hW.alike (StrOK_warm hW hstr)⟩⟩ rfl hna (hl.1.trans hLn) (hst0.trans rfl) (lv_room hcat) hd ⟨Nat.le_trans hk1 hmc, Nat.le_trans hz1 hms⟩) hS (fun q _ w => w) (fun q w => w) (fun u t H1 locs1 ht hvm hw hB hz1 hk9 hS1 => ?_)
  exact kk u hw H1 locs1 ls (by have := hB.1; rw [ht] at this; exact this) hS1 hl
theorem r_xcallVV (E : EE X cc own nL fr lo mc ms) {ret : Option FieldType} {st0 As : List Value} {k1 z1 : Nat} {post : Hp → Prop} {xp xp' : String → Hp → Prop} {mc1 ms1 : Nat} (hX : QX X xp' mc1 ms1 n') (hxp : ∀ E u, xp E u → xp' E u) (hk2 : k1 ≤ mc1) (hz2 : z1 ≤ ms1) (hM : XV (xL X) (GX X) y bytes maxL ret rm n n' h av post xp) {j o : Nat} (F : LV own i y j bytes maxL ret na) (hrm : RM rm maxL fr lo) (hav : av (rf X) = rf X j o :: As) (hst0 : st0 = As.reverse ++ rf X j o :: st) (hna : As.length = na) (hLn : L.length = nL) (ho : o < nobj j) (hn : adr j o < n) (hcat : (st.map fun v => v.category).sum ≤ 8) (hk : k + rm.cells = k1) (hz : z + rm.slots = z1) (hk1 : k1 ≤ mc) (hz1 : z1 ≤ ms) (hd : decode cc pc = .ok (.invokevirtual i, 3)) (kk : ∀ (u : Hp), post u → GG X k1 z1 n' u L (pc + 3) (st)) : GG X k z n h L pc st0 := by
  obtain ⟨p, l, e, R, s, m, args, below, meth, c, Q, D, cy, b⟩ := X
  obtain ⟨hx, hb, hml, hown, hts, hK, hfr, hlo, hmc, hms, hlk, hbs, hZ1, hZ2, hst, hstr⟩ := E
  intro H locs ls hR hS hl
  subst hk; subst hz
  have hroom : rm.frames + 1 ≤ R.frames ∧ 8 + (maxL + 11) + rm.locals ≤ R.locals := ⟨Nat.le_trans hrm.1 hfr, Nat.le_trans hrm.2 hlo⟩
  obtain ⟨hj, f1, f2, f3, f4, f5, fy⟩ := F
  have cw := (⟨callB_of (R := R) (s := s) (args := args) (rm := rm) (ws := wsU y bytes maxL ret) na hts (gin (gin_c f5 gin_u)) rfl rfl rfl (hts _ f4) (hts _ f1) fy hroom, hts _ f2, hts _ f3⟩ : CallW R s args own (fCs j) i y bytes maxL ret (wsU y bytes maxL ret) rm rm.cells rm.slots na)
  refine vx_callv (vx_runV (As := As) (rest := st) ⟨hx, hb, hml, hown, hts⟩ hM cw ⟨qP_blind, va_recv hK hR.1 (kCl_at hj) ((wl_get ho hn).trans (by rw [cell_o (kt0 j hj)])), fun U hU hW => ⟨congrArg List.toArray hav.symm, Wld_of hR hK hZ1 hZ2 hS hbs hstr hU hW.alike (StrOK_warm hW hstr)⟩⟩ rfl hna (hl.1.trans hLn) (hst0.trans rfl) (lv_room hcat) hd ⟨Nat.le_trans hk1 hmc, Nat.le_trans hz1 hms⟩) hS (fun q _ w => w) (fun q w => w) (fun q _ w => w) (fun E ce q9 u t H1 locs1 ht hvm _ hB _ _ hS1 hcell hv hcl => ?_) (fun u t H1 locs1 ht hvm hw hB hz1 hk9 hS1 => ?_)
  · obtain ⟨hno, Qc, hQ⟩ := hX
    have hQ : Q = vx_MQ below Qc (qX (D, cy, b) n' xp') args s mc1 ms1 (qA (D, cy, b)) := hQ
    subst hQ
    refine vx_out (fun x hx9 => (hno x hx9).elim) hlk hcell hv hcl (fun t9 ht9 hA9 => ⟨u, trivial, ⟨hxp _ _ hB.1, ?_⟩, hS1.F ht9⟩) hS1.2.2 hk2 hz2
    have := hB.2
    rw [ht] at this
    show RepH D cy b n' u t9.heap
    rw [ht9]
    exact this
  · exact kk u hw H1 locs1 ls (by have := hB.1; rw [ht] at this; exact this) hS1 hl
theorem r_xcallSV (E : EE X cc own nL fr lo mc ms) {ret : Option FieldType} {st0 As : List Value} {k1 z1 : Nat} {post : Hp → Prop} {xp xp' : String → Hp → Prop} {mc1 ms1 : Nat} (hX : QX X xp' mc1 ms1 n') (hxp : ∀ E u, xp E u → xp' E u) (hk2 : k1 ≤ mc1) (hz2 : z1 ≤ ms1) (hM : XV (xL X) (GX X) y bytes maxL ret rm n n' h av post xp) (F : LSt own i y bytes maxL ret na) (hrm : RM rm maxL fr lo) (hav : av (rf X) = As) (hst0 : st0 = As.reverse ++ st) (hna : As.length = na) (hLn : L.length = nL) (hcat : (st.map fun v => v.category).sum ≤ 8) (hk : k + rm.cells = k1) (hz : z + rm.slots = z1) (hk1 : k1 ≤ mc) (hz1 : z1 ≤ ms) (hd : decode cc pc = .ok (.invokestatic i, 3)) (kk : ∀ (u : Hp), post u → GG X k1 z1 n' u L (pc + 3) (st)) : GG X k z n h L pc st0 := by
  obtain ⟨p, l, e, R, s, m, args, below, meth, c, Q, D, cy, b⟩ := X
  obtain ⟨hx, hb, hml, hown, hts, hK, hfr, hlo, hmc, hms, hlk, hbs, hZ1, hZ2, hst, hstr⟩ := E
  intro H locs ls hR hS hl
  subst hk; subst hz
  have hroom : rm.frames + 1 ≤ R.frames ∧ 8 + (maxL + 11) + rm.locals ≤ R.locals := ⟨Nat.le_trans hrm.1 hfr, Nat.le_trans hrm.2 hlo⟩
  obtain ⟨f1, f2, f4, f5, fy⟩ := F
  have cw := (⟨callB_of (R := R) (s := s) (args := args) (rm := rm) (ws := wsU y bytes maxL ret) na hts (gin (gin_c f5 gin_u)) rfl rfl rfl (hts _ f4) (hts _ f1) fy hroom, hts _ f2⟩ : CallB R s args own i y bytes maxL ret (wsU y bytes maxL ret) rm rm.cells rm.slots na ∧ (Cond.static y).before args s = true)
  refine vx_callv (vx_runS (As := As) (rest := st) ⟨hx, hb, hml, hown, hts⟩ hM cw ⟨qP_blind, fun U hU hW => ⟨congrArg List.toArray hav.symm, Wld_of hR hK hZ1 hZ2 hS hbs hstr hU hW.alike (StrOK_warm hW hstr)⟩⟩ rfl hna (hl.1.trans hLn) (hst0.trans rfl) (lv_room hcat) hd ⟨Nat.le_trans hk1 hmc, Nat.le_trans hz1 hms⟩) hS (fun q _ w => w) (fun q w => w) (fun q _ w => w) (fun E ce q9 u t H1 locs1 ht hvm _ hB _ _ hS1 hcell hv hcl => ?_) (fun u t H1 locs1 ht hvm hw hB hz1 hk9 hS1 => ?_)
  · obtain ⟨hno, Qc, hQ⟩ := hX
    have hQ : Q = vx_MQ below Qc (qX (D, cy, b) n' xp') args s mc1 ms1 (qA (D, cy, b)) := hQ
    subst hQ
    refine vx_out (fun x hx9 => (hno x hx9).elim) hlk hcell hv hcl (fun t9 ht9 hA9 => ⟨u, trivial, ⟨hxp _ _ hB.1, ?_⟩, hS1.F ht9⟩) hS1.2.2 hk2 hz2
    have := hB.2
    rw [ht] at this
    show RepH D cy b n' u t9.heap
    rw [ht9]
    exact this
  · exact kk u hw H1 locs1 ls (by have := hB.1; rw [ht] at this; exact this) hS1 hl
theorem r_throw (E : EE X cc own nL fr lo mc ms) {xp : String → Hp → Prop} {mc1 ms1 : Nat} (hX : QX X xp mc1 ms1 n) {cls text : String} {names : List String} {ik is ic : Nat} (hN : n = NT) (hown0 : own = RX10) (hcls : Bundle.fit cls = true) (hnames : ∀ q ∈ names, Bundle.fit q = true) (hk : Cond.classLink own ik cls ∈ UNI) (hini : Cond.initialized cls ∈ UNI) (hs0 : (is, text) ∈ strL) (hat : ∀ w ∈ (vx_atS own ic cls names).filter goodWord, w ∈ UNI) (hat2 : ∀ w ∈ (vx_atS own ic cls names).filter (fun w => !goodWord w), w ∈ nwL)
    (hgood : ∀ w ∈ Cond.classLink own ik cls :: Cond.initialized cls :: vx_atS own ic cls names, vx_ot w = true) (hLn : L.length = nL) (hxp : xp cls h)
    (d0 : decode cc pc = .ok (.new ik, 3)) (d3 : decode cc (pc + 3) = .ok (.dup, 1)) (d4 : decode cc (pc + 4) = .ok (.ldc is, 2)) (d6 : decode cc (pc + 6) = .ok (.invokespecial ic, 3)) (d9 : decode cc (pc + 9) = .ok (.athrow, 1))
    (hfr0 : names.length + 3 < fr) (hlo0 : (st.map fun v => v.category).sum + (13 * (names.length + 1) + 43) ≤ lo) (hk1 : k + 1 ≤ mc) (hz1 : z + 6 ≤ ms) (hk2 : k + 1 ≤ mc1) (hz2 : z + 6 ≤ ms1) : GG X k z n h L pc st := by
  obtain ⟨p, l, e, R, s, m, args, below, meth, c, Q, D, cy, b⟩ := X
  obtain ⟨hx, hb, hml, hown, hts, hK, hfr, hlo, hmc, hms, hlk, hbs, hZ1, hZ2, hst, hstr⟩ := E
  intro H locs ls hR hS hl
  obtain ⟨hno, Qc, hQ⟩ := hX
  have hQ : Q = vx_MQ below Qc (qX (D, cy, b) n xp) args s mc1 ms1 (qA (D, cy, b)) := hQ
  subst hQ
  subst hown0
  obtain ⟨sa, hsa⟩ := hstr.1 _ hs0
  refine vx_throwS hx hb hst hown hcls hnames (hts _ hk) (hts _ hini) hsa (vx_hat (fun w hw => hts _ (hat w hw)) hat2 (fun w hw => va_Nw.use (nwL_ot w hw) (hstr.2.1 w hw))) hgood hZ1 hZ2 hS ((hl.1.trans hLn).trans hml.symm) d0 d3 d4 d6 d9 (fun x hx9 => (hno x hx9).elim) (Nat.lt_of_lt_of_le hfr0 hfr) (Nat.le_trans hlo0 hlo) (Nat.le_trans hk1 hmc) (Nat.le_trans hz1 hms) hlk (fun t hA h1 h2 => ?_) hS.2.2 hk2 hz2
  obtain ⟨hP, hz, hSt, hnt⟩ := hR
  exact ⟨h, trivial, ⟨hxp, hP.kept (fun q x hq => h2 x.1 ((hP q x hq).lt)), fun w => absurd hN (Nat.ne_of_lt w), hSt, hnt⟩, Nat.le_trans hS.1 h1, fun q w1 w2 => (h2 q (Nat.lt_of_lt_of_le w1 hS.1)).trans (hS.2.1 q w1 w2)⟩
theorem r_throwW (E : EE X cc own nL fr lo mc ms) {xp : String → Hp → Prop} {mc1 ms1 : Nat} (hX : QX X xp mc1 ms1 n) {cls text : String} {names : List String} {ik is ic : Nat} (hN : n = NT) (hown0 : own = RX10) (hcls : Bundle.fit cls = true) (hnames : ∀ q ∈ names, Bundle.fit q = true) (hk : Cond.classLink own ik cls ∈ UNI) (hini : Cond.initialized cls ∈ UNI) (hs0 : (is, text) ∈ strL) (hat : ∀ w ∈ (vx_atS own ic cls names).filter goodWord, w ∈ UNI) (hat2 : ∀ w ∈ (vx_atS own ic cls names).filter (fun w => !goodWord w), w ∈ nwL)
    (hgood : ∀ w ∈ Cond.classLink own ik cls :: Cond.initialized cls :: vx_atS own ic cls names, vx_ot w = true) (hLn : L.length = nL) (hxp : xp cls h)
    (d0 : decode cc pc = .ok (.new ik, 3)) (d3 : decode cc (pc + 3) = .ok (.dup, 1)) (d4 : decode cc (pc + 4) = .ok (.ldc_w is, 3)) (d6 : decode cc (pc + 7) = .ok (.invokespecial ic, 3)) (d9 : decode cc (pc + 10) = .ok (.athrow, 1))
    (hfr0 : names.length + 3 < fr) (hlo0 : (st.map fun v => v.category).sum + (13 * (names.length + 1) + 43) ≤ lo) (hk1 : k + 1 ≤ mc) (hz1 : z + 6 ≤ ms) (hk2 : k + 1 ≤ mc1) (hz2 : z + 6 ≤ ms1) : GG X k z n h L pc st := by
  obtain ⟨p, l, e, R, s, m, args, below, meth, c, Q, D, cy, b⟩ := X
  obtain ⟨hx, hb, hml, hown, hts, hK, hfr, hlo, hmc, hms, hlk, hbs, hZ1, hZ2, hst, hstr⟩ := E
  intro H locs ls hR hS hl
  obtain ⟨hno, Qc, hQ⟩ := hX
  have hQ : Q = vx_MQ below Qc (qX (D, cy, b) n xp) args s mc1 ms1 (qA (D, cy, b)) := hQ
  subst hQ
  subst hown0
  obtain ⟨sa, hsa⟩ := hstr.1 _ hs0
  refine vx_throwSW hx hb hst hown hcls hnames (hts _ hk) (hts _ hini) hsa (vx_hat (fun w hw => hts _ (hat w hw)) hat2 (fun w hw => va_Nw.use (nwL_ot w hw) (hstr.2.1 w hw))) hgood hZ1 hZ2 hS ((hl.1.trans hLn).trans hml.symm) d0 d3 d4 d6 d9 (fun x hx9 => (hno x hx9).elim) (Nat.lt_of_lt_of_le hfr0 hfr) (Nat.le_trans hlo0 hlo) (Nat.le_trans hk1 hmc) (Nat.le_trans hz1 hms) hlk (fun t hA h1 h2 => ?_) hS.2.2 hk2 hz2
  obtain ⟨hP, hz, hSt, hnt⟩ := hR
  exact ⟨h, trivial, ⟨hxp, hP.kept (fun q x hq => h2 x.1 ((hP q x hq).lt)), fun w => absurd hN (Nat.ne_of_lt w), hSt, hnt⟩, Nat.le_trans hS.1 h1, fun q w1 w2 => (h2 q (Nat.lt_of_lt_of_le w1 hS.1)).trans (hS.2.1 q w1 w2)⟩
theorem r_mmax (E : EE X cc own nL fr lo mc ms) (hl0 : Cond.methodLink own i Lib.Math.max.name ∈ UNI) (hs0 : Cond.static Lib.Math.max.name ∈ UNI) (hi0 : Cond.initialized "java/lang/Math" ∈ UNI) (hc0 : Cond.code Lib.Math.max.name Lib.Math.max.code 2 (some .int) ∈ UNI) (hLn : L.length = nL) (hfr0 : 1 ≤ fr) (hlo0 : (st.map fun v => v.category).sum + 13 ≤ lo) (hk : k ≤ mc) (hz : z ≤ ms) {x y : Int32} (hd : decode cc pc = .ok (.invokestatic i, 3)) (kk : GG X k z n h L (pc + 3) (.int (if x < y then y else x) :: st)) : GG X k z n h L pc (.int y :: .int x :: st) := by
  obtain ⟨p, l, e, R, s, m, args, below, meth, c, Q, D, cy, b⟩ := X
  obtain ⟨hx, hb, hml, hown, hts, hK, hfr, hlo, hmc, hms, hlk, hbs, hZ1, hZ2, hst, hstr⟩ := E
  intro H locs ls hR hS hl
  exact va_mmax hx hb ((hl.1.trans hLn).trans hml.symm).symm hown (hts _ hl0) (hts _ hs0) (hts _ hi0) (hts _ hc0) (Nat.le_trans hfr0 hfr) (Nat.le_trans hlo0 hlo) (Nat.le_trans hk hmc) (Nat.le_trans hz hms) hd (kk H locs ls hR hS hl)
theorem r_mmin (E : EE X cc own nL fr lo mc ms) (hl0 : Cond.methodLink own i Lib.Math.min.name ∈ UNI) (hs0 : Cond.static Lib.Math.min.name ∈ UNI) (hi0 : Cond.initialized "java/lang/Math" ∈ UNI) (hc0 : Cond.code Lib.Math.min.name Lib.Math.min.code 2 (some .int) ∈ UNI) (hLn : L.length = nL) (hfr0 : 1 ≤ fr) (hlo0 : (st.map fun v => v.category).sum + 13 ≤ lo) (hk : k ≤ mc) (hz : z ≤ ms) {x y : Int32} (hd : decode cc pc = .ok (.invokestatic i, 3)) (kk : GG X k z n h L (pc + 3) (.int (if y < x then y else x) :: st)) : GG X k z n h L pc (.int y :: .int x :: st) := by
  obtain ⟨p, l, e, R, s, m, args, below, meth, c, Q, D, cy, b⟩ := X
  obtain ⟨hx, hb, hml, hown, hts, hK, hfr, hlo, hmc, hms, hlk, hbs, hZ1, hZ2, hst, hstr⟩ := E
  intro H locs ls hR hS hl
  exact va_mmin hx hb ((hl.1.trans hLn).trans hml.symm).symm hown (hts _ hl0) (hts _ hs0) (hts _ hi0) (hts _ hc0) (Nat.le_trans hfr0 hfr) (Nat.le_trans hlo0 hlo) (Nat.le_trans hk hmc) (Nat.le_trans hz hms) hd (kk H locs ls hR hS hl)
/-- the least fixed point of a loop: what a walk from its head must give -/
def LFP {σ : Type} (F : (σ → Prop) → σ → Prop) (x : σ) : Prop := ∀ P : σ → Prop, (∀ y, F P y → P y) → P x
theorem LFP.go {σ : Type} {F : (σ → Prop) → σ → Prop} {x : σ} (h : LFP F x) (P : σ → Prop) (hP : ∀ y, F P y → P y) : P x := h P hP
theorem LFP.by {σ : Type} {F : (σ → Prop) → σ → Prop} (I : σ → Prop) (μ : σ → Nat) (hs : ∀ y, I y → ∀ P : σ → Prop, (∀ z, I z → μ z < μ y → P z) → F P y) {x : σ} (hx : I x) : LFP F x := by
  intro P hP
  suffices key : ∀ (n : Nat) (y : σ), μ y < n → I y → P y from key (μ x + 1) x (Nat.lt_succ_self _) hx
  intro n
  induction n with
  | zero => intro y h _; exact absurd h (Nat.not_lt_zero _)
  | succ n ih => intro y h hy; exact hP y (hs y hy P fun z hz hlt => ih z (Nat.lt_of_lt_of_le hlt (Nat.le_of_lt_succ h)) hz)
theorem ite_t {c A B : Prop} [Decidable c] (h : if c then A else B) (hc : c) : A := by rwa [if_pos hc] at h
theorem ite_f {c A B : Prop} [Decidable c] (h : if c then A else B) (hc : ¬ c) : B := by rwa [if_neg hc] at h
end CallRows
