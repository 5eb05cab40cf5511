/-! contracts over the abstract heap -/
abbrev Gq : Type := va_G × (Nat → ClassId) × Nat
def GX (X : Ctx) : Gq := (xD X, xY X, xb X)
abbrev Av : Type := (Nat → Nat → Value) → List Value
def wsU (y : MethodName) (cc : ByteArray) (maxL : Nat) (ret : Option FieldType) : List Cond := Cond.code y cc maxL ret :: UNI
def qA (G : Gq) : Nat → Prop := fun q => G.2.2 ≤ q
def qP (G : Gq) (n : Nat) (h : Hp) (av : Av) : Array Value → State → Prop := va_Pc (av (rb G.2.2)) (Wld G.1 G.2.1 G.2.2 n h)
def qB (G : Gq) (n : Nat) : Hp → State → Prop := fun u t => Wld G.1 G.2.1 G.2.2 n u t
def qX (G : Gq) (n : Nat) (xp : String → Hp → Prop) : String → State → State → Prop := vx_X (fun _ : Hp => True) (fun E u t => xp E u ∧ RepH G.1 G.2.1 G.2.2 n u t.heap) (qA G)
def MI (l : Launch) (G : Gq) (y : MethodName) (cc : ByteArray) (maxL : Nat) (ret : Option FieldType) (rm : Room) (n n' : Nat) (h : Hp) (av : Av) (post : Int32 → Hp → Prop) : Prop := Met l y (wsU y cc maxL ret) rm (qP G n h av) (va_Qi post (qB G n') (qA G)) rm.cells rm.slots (qA G)
def ML (l : Launch) (G : Gq) (y : MethodName) (cc : ByteArray) (maxL : Nat) (ret : Option FieldType) (rm : Room) (n n' : Nat) (h : Hp) (av : Av) (post : Int64 → Hp → Prop) : Prop := Met l y (wsU y cc maxL ret) rm (qP G n h av) (va_Ql post (qB G n') (qA G)) rm.cells rm.slots (qA G)
def MV (l : Launch) (G : Gq) (y : MethodName) (cc : ByteArray) (maxL : Nat) (ret : Option FieldType) (rm : Room) (n n' : Nat) (h : Hp) (av : Av) (post : Hp → Prop) : Prop := Met l y (wsU y cc maxL ret) rm (qP G n h av) (va_Qv post (qB G n') (qA G)) rm.cells rm.slots (qA G)
def MF (l : Launch) (G : Gq) (y : MethodName) (cc : ByteArray) (maxL : Nat) (ret : Option FieldType) (rm : Room) (n n' : Nat) (h : Hp) (av : Av) (post : UInt32 → Hp → Prop) : Prop := Met l y (wsU y cc maxL ret) rm (qP G n h av) (va_Qf post (qB G n') (qA G)) rm.cells rm.slots (qA G)
def MD (l : Launch) (G : Gq) (y : MethodName) (cc : ByteArray) (maxL : Nat) (ret : Option FieldType) (rm : Room) (n n' : Nat) (h : Hp) (av : Av) (post : UInt64 → Hp → Prop) : Prop := Met l y (wsU y cc maxL ret) rm (qP G n h av) (va_Qd post (qB G n') (qA G)) rm.cells rm.slots (qA G)
def XI (l : Launch) (G : Gq) (y : MethodName) (cc : ByteArray) (maxL : Nat) (ret : Option FieldType) (rm : Room) (n n' : Nat) (h : Hp) (av : Av) (post : Int32 → Hp → Prop) (xp : String → Hp → Prop) : Prop := vx_Met l y (wsU y cc maxL ret) rm (qP G n h av) (va_Qi post (qB G n') (qA G)) (qX G n' xp) rm.cells rm.slots (qA G)
def XV (l : Launch) (G : Gq) (y : MethodName) (cc : ByteArray) (maxL : Nat) (ret : Option FieldType) (rm : Room) (n n' : Nat) (h : Hp) (av : Av) (post : Hp → Prop) (xp : String → Hp → Prop) : Prop := vx_Met l y (wsU y cc maxL ret) rm (qP G n h av) (va_Qv post (qB G n') (qA G)) (qX G n' xp) rm.cells rm.slots (qA G)
def XF (l : Launch) (G : Gq) (y : MethodName) (cc : ByteArray) (maxL : Nat) (ret : Option FieldType) (rm : Room) (n n' : Nat) (h : Hp) (av : Av) (post : UInt32 → Hp → Prop) (xp : String → Hp → Prop) : Prop := vx_Met l y (wsU y cc maxL ret) rm (qP G n h av) (va_Qf post (qB G n') (qA G)) (qX G n' xp) rm.cells rm.slots (qA G)
def XD (l : Launch) (G : Gq) (y : MethodName) (cc : ByteArray) (maxL : Nat) (ret : Option FieldType) (rm : Room) (n n' : Nat) (h : Hp) (av : Av) (post : UInt64 → Hp → Prop) (xp : String → Hp → Prop) : Prop := vx_Met l y (wsU y cc maxL ret) rm (qP G n h av) (va_Qd post (qB G n') (qA G)) (qX G n' xp) rm.cells rm.slots (qA G)
/-! moving a world -/
theorem StrOK_warm {s U : State} (hW : s.WarmedH U.vm) (h : StrOK s) : StrOK U := ⟨fun q hq => by obtain ⟨sa, hs⟩ := h.1 q hq; exact ⟨sa, hs.warm hW⟩, NwOK_warm hW h.2.1, ⟨va_AO.moved hW.alike h.2.2.1.1, va_AO.moved hW.alike h.2.2.1.2.1, va_AO.moved hW.alike h.2.2.1.2.2⟩, fun q hq => va_Nc.moved hW.alike (h.2.2.2 q hq)⟩
theorem StrOK_same {u U : State} (hv : U.vm = u.vm) (h : StrOK u) : StrOK U := ⟨fun q hq => by obtain ⟨sa, hs⟩ := h.1 q hq; exact ⟨sa, hs.same hv⟩, NwOK_same hv h.2.1, ⟨va_AO.moved (hv ▸ Vm.Alike.refl u.vm) h.2.2.1.1, va_AO.moved (hv ▸ Vm.Alike.refl u.vm) h.2.2.1.2.1, va_AO.moved (hv ▸ Vm.Alike.refl u.vm) h.2.2.1.2.2⟩, fun q hq => va_Nc.moved (hv ▸ Vm.Alike.refl u.vm) (h.2.2.2 q hq)⟩
theorem Wld_calling {D : va_G} {cy : Nat → ClassId} {b n : Nat} {h : Hp} {U : State} {g : JFrame} {mk : MethodId} {a : Array Value} (w : Wld D cy b n h U) : Wld D cy b n h (U.calling g mk a) :=
  ⟨w.1, va_K.moved (u := U) (U := U.calling g mk a) (Vm.Alike.refl U.vm) w.2.1, vx_Zq.moved (u := U) (U := U.calling g mk a) (Vm.Alike.refl U.vm) w.2.2.1, vx_Zq.moved (u := U) (U := U.calling g mk a) (Vm.Alike.refl U.vm) w.2.2.2.1, w.2.2.2.2.1, StrOK_same (u := U) (U := U.calling g mk a) rfl w.2.2.2.2.2⟩
theorem qP_blind {G : Gq} {n : Nat} {h : Hp} {av : Av} : FrameBlind (qP G n h av) := fun _ _ _ _ q => ⟨q.1, Wld_calling q.2⟩
/-- the world at a state that comes of s, with the heap H -/
theorem Wld_of {D : va_G} {cy : Nat → ClassId} {b n : Nat} {h : Hp} {s U : State} {H : Heap} {locs : List Loc} (hR : RepH D cy b n h H) (hK : va_K D kCl (tysL cy) s) (hZ1 : vx_Zq Bundle.tN UAq Bundle.steD (fun q => b ≤ q) s s.heap) (hZ2 : vx_Zq Bundle.tN SSq Bundle.listD (fun q => b ≤ q) s s.heap) (hS : va_S (fun q => b ≤ q) s.heap H locs) (hbs : b ≤ s.heap.size) (hstr : StrOK s) (hU : U.heap = H) (hA : s.vm.Alike U.vm) (hst : StrOK U) : Wld D cy b n h U := by
  subst hU
  exact ⟨hR, va_K.moved hA hK, vx_Zq.moved hA (hZ1.kept hS.2.1), vx_Zq.moved hA (hZ2.kept hS.2.1), Nat.le_trans hbs hS.1, hst⟩
/-! entry locals -/
def entL : List Value → List (Option Value)
  | [] => []
  | v :: vs => some v :: (if v.category = 2 then none :: entL vs else entL vs)
def ent (maxL : Nat) (vs : List Value) : List (Option Value) := entL vs ++ List.replicate (maxL - (entL vs).length) none
theorem entL_len : ∀ vs : List Value, (entL vs).length = (lg_sl vs).length
  | [] => rfl
  | v :: vs => by
    rw [show lg_sl (v :: vs) = (if v.category = 2 then [.val v, .second] else [.val v]) ++ lg_sl vs from rfl, entL]
    by_cases hv : v.category = 2
    · simp [hv, entL_len vs]
    · simp [hv, entL_len vs]
theorem entL_mem : ∀ (vs : List Value) (i j : Nat) (v : Value), (entL vs)[i]? = some (some v) → (j + i, v) ∈ lv_args j vs
  | [], i, j, v, h => by simp [entL] at h
  | w :: vs, i, j, v, h => by
    rw [lv_args]
    by_cases hw : w.category = 2
    · rw [if_pos hw]
      rw [entL, if_pos hw] at h
      match i, h with
      | 0, h => cases h; exact List.mem_cons_self
      | 1, h => simp at h
      | i + 2, h =>
        have := entL_mem vs i (j + 2) v (by simpa using h)
        rw [show j + 2 + i = j + (i + 2) by omega] at this
        exact List.mem_cons_of_mem _ this
    · rw [if_neg hw]
      rw [entL, if_neg hw] at h
      match i, h with
      | 0, h => cases h; exact List.mem_cons_self
      | i + 1, h =>
        have := entL_mem vs i (j + 1) v (by simpa using h)
        rw [show j + 1 + i = j + (i + 1) by omega] at this
        exact List.mem_cons_of_mem _ this
theorem ent_P (vs : List Value) {maxL : Nat} (h : (entL vs).length ≤ maxL) : lvP ((lg_sl vs ++ List.replicate (maxL - (lg_sl vs).length) Slot.unset).toArray) (ent maxL vs) := by
  have h0 : (lg_sl vs).length ≤ maxL := by rw [← entL_len]; exact h
  have he := lv_entry vs h0
  refine ⟨by rw [he.1, ent, List.length_append, List.length_replicate]; omega, he.2.1, fun i v hi => ?_⟩
  refine he.2.2 (i, v) ?_
  unfold ent at hi
  by_cases hl : i < (entL vs).length
  · rw [List.getElem?_append_left hl] at hi
    have := entL_mem vs i 0 v hi
    rwa [Nat.zero_add] at this
  · rw [List.getElem?_append_right (by omega), List.getElem?_replicate] at hi
    split at hi <;> cases hi
/-! ends -/

def ENDi (X : Ctx) (cc : ByteArray) (ty : FieldType) (post : Int32 → Hp → Prop) (n mc ms : Nat) : Prop := ∀ (k z : Nat) (h : Hp) (L : List (Option Value)) (v : Int32) (pc : Nat), k ≤ mc → z ≤ ms → decode cc pc = .ok (.ireturn, 1) → narrow ty (.int v) = .int v → post v h → GG X k z n h L pc [.int v]
def ENDl (X : Ctx) (cc : ByteArray) (post : Int64 → Hp → Prop) (n mc ms : Nat) : Prop := ∀ (k z : Nat) (h : Hp) (L : List (Option Value)) (v : Int64) (pc : Nat), k ≤ mc → z ≤ ms → decode cc pc = .ok (.lreturn, 1) → post v h → GG X k z n h L pc [.long v]
def ENDf (X : Ctx) (cc : ByteArray) (post : UInt32 → Hp → Prop) (n mc ms : Nat) : Prop := ∀ (k z : Nat) (h : Hp) (L : List (Option Value)) (v : UInt32) (pc : Nat), k ≤ mc → z ≤ ms → decode cc pc = .ok (.freturn, 1) → post v h → GG X k z n h L pc [.float v]
def ENDd (X : Ctx) (cc : ByteArray) (post : UInt64 → Hp → Prop) (n mc ms : Nat) : Prop := ∀ (k z : Nat) (h : Hp) (L : List (Option Value)) (v : UInt64) (pc : Nat), k ≤ mc → z ≤ ms → decode cc pc = .ok (.dreturn, 1) → post v h → GG X k z n h L pc [.double v]
def ENDv (X : Ctx) (cc : ByteArray) (post : Hp → Prop) (n mc ms : Nat) : Prop := ∀ (k z : Nat) (h : Hp) (L : List (Option Value)) (pc : Nat), k ≤ mc → z ≤ ms → decode cc pc = .ok (.return_, 1) → post h → GG X k z n h L pc []
/-- where exceptions may leave a method -/
def QX (X : Ctx) (xp : String → Hp → Prop) (mc ms n : Nat) : Prop := (∀ x ∈ (xC X).exceptionTable.toList, False) ∧ ∃ Qc, xQ X = vx_MQ (xB X) Qc (qX (GX X) n xp) (xA X) (xS X) mc ms (qA (GX X))
theorem gin {ws : List Cond} (h : ∀ w ∈ ws, w ∈ UNI) : GoodIn UNI ws := fun w hw => ⟨h w hw, good_of_word (List.mem_filter.mp (h w hw)).2⟩
theorem gin_c {w : Cond} {ws : List Cond} (h1 : w ∈ UNI) (h2 : ∀ w ∈ ws, w ∈ UNI) : ∀ w' ∈ w :: ws, w' ∈ UNI := fun w' hw => (List.mem_cons.mp hw).elim (fun e => e ▸ h1) (h2 w')
theorem gin_u : ∀ w ∈ UNI, w ∈ UNI := fun _ h => h

set_option maxHeartbeats 1000000 in
theorem MI_of {l : Launch} {G : Gq} {y : MethodName} {cc : ByteArray} {maxL : Nat} {ty : FieldType} {rm : Room} {n n' : Nat} {h : Hp} {av : Av} {post : Int32 → Hp → Prop} {L0 : Ctx → List (Option Value)} {own : String} (hl : l.stackTraces = false) (hy : plainName y.cls = true) (how : y.cls = own) (hlen : ∀ X : Ctx, (entL (av (rf X))).length ≤ maxL) (hL0 : ∀ X : Ctx, ent maxL (av (rf X)) = L0 X)
    (body : ∀ X : Ctx, xL X = l → GX X = G → EE X cc own maxL rm.frames rm.locals rm.cells rm.slots → ENDi X cc ty post n' rm.cells rm.slots → GG X 0 0 n h (L0 X) 0 []) : MI l G y cc maxL (some ty) rm n n' h av post := by
  obtain ⟨D, cy, b⟩ := G
  refine Met.ofW (cc := cc) (maxL := maxL) (ret := (some ty)) hy rfl ?_
  intro p e s m args below meth c s₁ B hml hv
  obtain ⟨rfl, hR, hK, hZ1, hZ2, hbs, hstr⟩ := hv
  have hx := B.exec
  have hb := B.bytes
  have hr := B.returns
  have hts := atoms_spec (ws := wsU y cc maxL (some ty)) B.pre
  have hown : s.vm.findClass own = some m.cls := how ▸ findClass_of_methodNamed B.named
  have hlocks := B.notSynchronized
  rw [lg_entry_eq]
  have key := body (p, l, e, (headSpec (wsU y cc maxL (some ty)) rm).room, s, m, (av (rb b)).toArray, below, meth, c, MQ below (va_Qi post (qB (D, cy, b) n') (qA (D, cy, b))) (av (rb b)).toArray s rm.cells rm.slots (qA (D, cy, b)), D, cy, b) rfl rfl
    ⟨hx, hb, hml, hown, fun w hw => hts w (List.mem_cons_of_mem _ hw), hK, Nat.le_refl _, Nat.le_refl _, Nat.le_refl _, Nat.le_refl _, hlocks, hbs, hZ1, hZ2, hl, hstr⟩ ?_
  · rw [← hL0] at key
    exact key s.heap [] _ hR va_S.rf (ent_P (av (rb b)) (hlen (p, l, e, (headSpec (wsU y cc maxL (some ty)) rm).room, s, m, (av (rb b)).toArray, below, meth, c, MQ below (va_Qi post (qB (D, cy, b) n') (qA (D, cy, b))) (av (rb b)).toArray s rm.cells rm.slots (qA (D, cy, b)), D, cy, b)))
  · intro k z u L v pc hk hz hd hnar hpost H locs ls hRu hS hl1
    refine W.widen (k := rm.cells) (n := rm.slots) hk hz ?_
    refine W.zret hx hb hr hnar (fun t ht hW => ⟨⟨v, u, rfl, hpost, ?_⟩, hS.F ht⟩) hS.2.2 hd
    exact Wld_of hRu hK hZ1 hZ2 hS hbs hstr ht hW.alike (StrOK_warm hW hstr)
set_option maxHeartbeats 1000000 in
theorem ML_of {l : Launch} {G : Gq} {y : MethodName} {cc : ByteArray} {maxL : Nat} {rm : Room} {n n' : Nat} {h : Hp} {av : Av} {post : Int64 → Hp → Prop} {L0 : Ctx → List (Option Value)} {own : String} (hl : l.stackTraces = false) (hy : plainName y.cls = true) (how : y.cls = own) (hlen : ∀ X : Ctx, (entL (av (rf X))).length ≤ maxL) (hL0 : ∀ X : Ctx, ent maxL (av (rf X)) = L0 X)
    (body : ∀ X : Ctx, xL X = l → GX X = G → EE X cc own maxL rm.frames rm.locals rm.cells rm.slots → ENDl X cc post n' rm.cells rm.slots → GG X 0 0 n h (L0 X) 0 []) : ML l G y cc maxL (some .long) rm n n' h av post := by
  obtain ⟨D, cy, b⟩ := G
  refine Met.ofW (cc := cc) (maxL := maxL) (ret := (some .long)) hy rfl ?_
  intro p e s m args below meth c s₁ B hml hv
  obtain ⟨rfl, hR, hK, hZ1, hZ2, hbs, hstr⟩ := hv
  have hx := B.exec
  have hb := B.bytes
  have hr := B.returns
  have hts := atoms_spec (ws := wsU y cc maxL (some .long)) B.pre
  have hown : s.vm.findClass own = some m.cls := how ▸ findClass_of_methodNamed B.named
  have hlocks := B.notSynchronized
  rw [lg_entry_eq]
  have key := body (p, l, e, (headSpec (wsU y cc maxL (some .long)) rm).room, s, m, (av (rb b)).toArray, below, meth, c, MQ below (va_Ql post (qB (D, cy, b) n') (qA (D, cy, b))) (av (rb b)).toArray s rm.cells rm.slots (qA (D, cy, b)), D, cy, b) rfl rfl
    ⟨hx, hb, hml, hown, fun w hw => hts w (List.mem_cons_of_mem _ hw), hK, Nat.le_refl _, Nat.le_refl _, Nat.le_refl _, Nat.le_refl _, hlocks, hbs, hZ1, hZ2, hl, hstr⟩ ?_
  · rw [← hL0] at key
    exact key s.heap [] _ hR va_S.rf (ent_P (av (rb b)) (hlen (p, l, e, (headSpec (wsU y cc maxL (some .long)) rm).room, s, m, (av (rb b)).toArray, below, meth, c, MQ below (va_Ql post (qB (D, cy, b) n') (qA (D, cy, b))) (av (rb b)).toArray s rm.cells rm.slots (qA (D, cy, b)), D, cy, b)))
  · intro k z u L v pc hk hz hd hpost H locs ls hRu hS hl1
    refine W.widen (k := rm.cells) (n := rm.slots) hk hz ?_
    refine W.lret hx hb hr (fun t ht hW => ⟨⟨v, u, rfl, hpost, ?_⟩, hS.F ht⟩) hS.2.2 hd
    exact Wld_of hRu hK hZ1 hZ2 hS hbs hstr ht hW.alike (StrOK_warm hW hstr)
set_option maxHeartbeats 1000000 in
theorem MV_of {l : Launch} {G : Gq} {y : MethodName} {cc : ByteArray} {maxL : Nat} {rm : Room} {n n' : Nat} {h : Hp} {av : Av} {post : Hp → Prop} {L0 : Ctx → List (Option Value)} {own : String} (hl : l.stackTraces = false) (hy : plainName y.cls = true) (how : y.cls = own) (hlen : ∀ X : Ctx, (entL (av (rf X))).length ≤ maxL) (hL0 : ∀ X : Ctx, ent maxL (av (rf X)) = L0 X)
    (body : ∀ X : Ctx, xL X = l → GX X = G → EE X cc own maxL rm.frames rm.locals rm.cells rm.slots → ENDv X cc post n' rm.cells rm.slots → GG X 0 0 n h (L0 X) 0 []) : MV l G y cc maxL none rm n n' h av post := by
  obtain ⟨D, cy, b⟩ := G
  refine Met.ofW (cc := cc) (maxL := maxL) (ret := none) hy rfl ?_
  intro p e s m args below meth c s₁ B hml hv
  obtain ⟨rfl, hR, hK, hZ1, hZ2, hbs, hstr⟩ := hv
  have hx := B.exec
  have hb := B.bytes
  have hr := B.returns
  have hts := atoms_spec (ws := wsU y cc maxL none) B.pre
  have hown : s.vm.findClass own = some m.cls := how ▸ findClass_of_methodNamed B.named
  have hlocks := B.notSynchronized
  rw [lg_entry_eq]
  have key := body (p, l, e, (headSpec (wsU y cc maxL none) rm).room, s, m, (av (rb b)).toArray, below, meth, c, MQ below (va_Qv post (qB (D, cy, b) n') (qA (D, cy, b))) (av (rb b)).toArray s rm.cells rm.slots (qA (D, cy, b)), D, cy, b) rfl rfl
    ⟨hx, hb, hml, hown, fun w hw => hts w (List.mem_cons_of_mem _ hw), hK, Nat.le_refl _, Nat.le_refl _, Nat.le_refl _, Nat.le_refl _, hlocks, hbs, hZ1, hZ2, hl, hstr⟩ ?_
  · rw [← hL0] at key
    exact key s.heap [] _ hR va_S.rf (ent_P (av (rb b)) (hlen (p, l, e, (headSpec (wsU y cc maxL none) rm).room, s, m, (av (rb b)).toArray, below, meth, c, MQ below (va_Qv post (qB (D, cy, b) n') (qA (D, cy, b))) (av (rb b)).toArray s rm.cells rm.slots (qA (D, cy, b)), D, cy, b)))
  · intro k z u L pc hk hz hd hpost H locs ls hRu hS hl1
    refine W.widen (k := rm.cells) (n := rm.slots) hk hz ?_
    refine W.vret hx hb hr (fun t ht hW => ⟨⟨u, rfl, hpost, ?_⟩, hS.F ht⟩) hS.2.2 hd
    exact Wld_of hRu hK hZ1 hZ2 hS hbs hstr ht hW.alike (StrOK_warm hW hstr)
set_option maxHeartbeats 1000000 in
theorem MF_of {l : Launch} {G : Gq} {y : MethodName} {cc : ByteArray} {maxL : Nat} {rm : Room} {n n' : Nat} {h : Hp} {av : Av} {post : UInt32 → Hp → Prop} {L0 : Ctx → List (Option Value)} {own : String} (hl : l.stackTraces = false) (hy : plainName y.cls = true) (how : y.cls = own) (hlen : ∀ X : Ctx, (entL (av (rf X))).length ≤ maxL) (hL0 : ∀ X : Ctx, ent maxL (av (rf X)) = L0 X)
    (body : ∀ X : Ctx, xL X = l → GX X = G → EE X cc own maxL rm.frames rm.locals rm.cells rm.slots → ENDf X cc post n' rm.cells rm.slots → GG X 0 0 n h (L0 X) 0 []) : MF l G y cc maxL (some .float) rm n n' h av post := by
  obtain ⟨D, cy, b⟩ := G
  refine Met.ofW (cc := cc) (maxL := maxL) (ret := (some .float)) hy rfl ?_
  intro p e s m args below meth c s₁ B hml hv
  obtain ⟨rfl, hR, hK, hZ1, hZ2, hbs, hstr⟩ := hv
  have hx := B.exec
  have hb := B.bytes
  have hr := B.returns
  have hts := atoms_spec (ws := wsU y cc maxL (some .float)) B.pre
  have hown : s.vm.findClass own = some m.cls := how ▸ findClass_of_methodNamed B.named
  have hlocks := B.notSynchronized
  rw [lg_entry_eq]
  have key := body (p, l, e, (headSpec (wsU y cc maxL (some .float)) rm).room, s, m, (av (rb b)).toArray, below, meth, c, MQ below (va_Qf post (qB (D, cy, b) n') (qA (D, cy, b))) (av (rb b)).toArray s rm.cells rm.slots (qA (D, cy, b)), D, cy, b) rfl rfl
    ⟨hx, hb, hml, hown, fun w hw => hts w (List.mem_cons_of_mem _ hw), hK, Nat.le_refl _, Nat.le_refl _, Nat.le_refl _, Nat.le_refl _, hlocks, hbs, hZ1, hZ2, hl, hstr⟩ ?_
  · rw [← hL0] at key
    exact key s.heap [] _ hR va_S.rf (ent_P (av (rb b)) (hlen (p, l, e, (headSpec (wsU y cc maxL (some .float)) rm).room, s, m, (av (rb b)).toArray, below, meth, c, MQ below (va_Qf post (qB (D, cy, b) n') (qA (D, cy, b))) (av (rb b)).toArray s rm.cells rm.slots (qA (D, cy, b)), D, cy, b)))
  · intro k z u L v pc hk hz hd hpost H locs ls hRu hS hl1
    refine W.widen (k := rm.cells) (n := rm.slots) hk hz ?_
    refine W.fret hx hb hr (fun t ht hW => ⟨⟨v, u, rfl, hpost, ?_⟩, hS.F ht⟩) hS.2.2 hd
    exact Wld_of hRu hK hZ1 hZ2 hS hbs hstr ht hW.alike (StrOK_warm hW hstr)
set_option maxHeartbeats 1000000 in
theorem MD_of {l : Launch} {G : Gq} {y : MethodName} {cc : ByteArray} {maxL : Nat} {rm : Room} {n n' : Nat} {h : Hp} {av : Av} {post : UInt64 → Hp → Prop} {L0 : Ctx → List (Option Value)} {own : String} (hl : l.stackTraces = false) (hy : plainName y.cls = true) (how : y.cls = own) (hlen : ∀ X : Ctx, (entL (av (rf X))).length ≤ maxL) (hL0 : ∀ X : Ctx, ent maxL (av (rf X)) = L0 X)
    (body : ∀ X : Ctx, xL X = l → GX X = G → EE X cc own maxL rm.frames rm.locals rm.cells rm.slots → ENDd X cc post n' rm.cells rm.slots → GG X 0 0 n h (L0 X) 0 []) : MD l G y cc maxL (some .double) rm n n' h av post := by
  obtain ⟨D, cy, b⟩ := G
  refine Met.ofW (cc := cc) (maxL := maxL) (ret := (some .double)) hy rfl ?_
  intro p e s m args below meth c s₁ B hml hv
  obtain ⟨rfl, hR, hK, hZ1, hZ2, hbs, hstr⟩ := hv
  have hx := B.exec
  have hb := B.bytes
  have hr := B.returns
  have hts := atoms_spec (ws := wsU y cc maxL (some .double)) B.pre
  have hown : s.vm.findClass own = some m.cls := how ▸ findClass_of_methodNamed B.named
  have hlocks := B.notSynchronized
  rw [lg_entry_eq]
  have key := body (p, l, e, (headSpec (wsU y cc maxL (some .double)) rm).room, s, m, (av (rb b)).toArray, below, meth, c, MQ below (va_Qd post (qB (D, cy, b) n') (qA (D, cy, b))) (av (rb b)).toArray s rm.cells rm.slots (qA (D, cy, b)), D, cy, b) rfl rfl
    ⟨hx, hb, hml, hown, fun w hw => hts w (List.mem_cons_of_mem _ hw), hK, Nat.le_refl _, Nat.le_refl _, Nat.le_refl _, Nat.le_refl _, hlocks, hbs, hZ1, hZ2, hl, hstr⟩ ?_
  · rw [← hL0] at key
    exact key s.heap [] _ hR va_S.rf (ent_P (av (rb b)) (hlen (p, l, e, (headSpec (wsU y cc maxL (some .double)) rm).room, s, m, (av (rb b)).toArray, below, meth, c, MQ below (va_Qd post (qB (D, cy, b) n') (qA (D, cy, b))) (av (rb b)).toArray s rm.cells rm.slots (qA (D, cy, b)), D, cy, b)))
  · intro k z u L v pc hk hz hd hpost H locs ls hRu hS hl1
    refine W.widen (k := rm.cells) (n := rm.slots) hk hz ?_
    refine W.dret hx hb hr (fun t ht hW => ⟨⟨v, u, rfl, hpost, ?_⟩, hS.F ht⟩) hS.2.2 hd
    exact Wld_of hRu hK hZ1 hZ2 hS hbs hstr ht hW.alike (StrOK_warm hW hstr)
set_option maxHeartbeats 1000000 in
theorem XI_of {l : Launch} {G : Gq} {y : MethodName} {cc : ByteArray} {maxL : Nat} {ty : FieldType} {rm : Room} {n n' : Nat} {h : Hp} {av : Av} {post : Int32 → Hp → Prop} {xp : String → Hp → Prop} {L0 : Ctx → List (Option Value)} {own : String} (hl : l.stackTraces = false) (hy : plainName y.cls = true) (how : y.cls = own) (hlen : ∀ X : Ctx, (entL (av (rf X))).length ≤ maxL) (hL0 : ∀ X : Ctx, ent maxL (av (rf X)) = L0 X)
    (body : ∀ X : Ctx, xL X = l → GX X = G → EE X cc own maxL rm.frames rm.locals rm.cells rm.slots → ENDi X cc ty post n' rm.cells rm.slots → QX X xp rm.cells rm.slots n' → GG X 0 0 n h (L0 X) 0 []) : XI l G y cc maxL (some ty) rm n n' h av post xp := by
  obtain ⟨D, cy, b⟩ := G
  refine vx_ofW (cc := cc) (maxL := maxL) (ret := (some ty)) hy rfl ?_
  intro p e s m args below meth c s₁ B hml hnt hv
  obtain ⟨rfl, hR, hK, hZ1, hZ2, hbs, hstr⟩ := hv
  have hx := B.exec
  have hb := B.bytes
  have hr := B.returns
  have hts := atoms_spec (ws := wsU y cc maxL (some ty)) B.pre
  have hown : s.vm.findClass own = some m.cls := how ▸ findClass_of_methodNamed B.named
  have hlocks := B.notSynchronized
  rw [lg_entry_eq]
  have key := body (p, l, e, (headSpec (wsU y cc maxL (some ty)) rm).room, s, m, (av (rb b)).toArray, below, meth, c, vx_MQ below (va_Qi post (qB (D, cy, b) n') (qA (D, cy, b))) (qX (D, cy, b) n' xp) (av (rb b)).toArray s rm.cells rm.slots (qA (D, cy, b)), D, cy, b) rfl rfl
    ⟨hx, hb, hml, hown, fun w hw => hts w (List.mem_cons_of_mem _ hw), hK, Nat.le_refl _, Nat.le_refl _, Nat.le_refl _, Nat.le_refl _, hlocks, hbs, hZ1, hZ2, hl, hstr⟩ ?_ ?_
  · rw [← hL0] at key
    exact key s.heap [] _ hR va_S.rf (ent_P (av (rb b)) (hlen (p, l, e, (headSpec (wsU y cc maxL (some ty)) rm).room, s, m, (av (rb b)).toArray, below, meth, c, vx_MQ below (va_Qi post (qB (D, cy, b) n') (qA (D, cy, b))) (qX (D, cy, b) n' xp) (av (rb b)).toArray s rm.cells rm.slots (qA (D, cy, b)), D, cy, b)))
  · intro k z u L v pc hk hz hd hnar hpost H locs ls hRu hS hl1
    refine vx_ret ?_
    refine W.widen (k := rm.cells) (n := rm.slots) hk hz ?_
    refine W.zret hx hb hr hnar (fun t ht hW => ⟨⟨v, u, rfl, hpost, ?_⟩, hS.F ht⟩) hS.2.2 hd
    exact Wld_of hRu hK hZ1 hZ2 hS hbs hstr ht hW.alike (StrOK_warm hW hstr)
  · exact ⟨hnt, _, rfl⟩
set_option maxHeartbeats 1000000 in
theorem XV_of {l : Launch} {G : Gq} {y : MethodName} {cc : ByteArray} {maxL : Nat} {rm : Room} {n n' : Nat} {h : Hp} {av : Av} {post : Hp → Prop} {xp : String → Hp → Prop} {L0 : Ctx → List (Option Value)} {own : String} (hl : l.stackTraces = false) (hy : plainName y.cls = true) (how : y.cls = own) (hlen : ∀ X : Ctx, (entL (av (rf X))).length ≤ maxL) (hL0 : ∀ X : Ctx, ent maxL (av (rf X)) = L0 X)
    (body : ∀ X : Ctx, xL X = l → GX X = G → EE X cc own maxL rm.frames rm.locals rm.cells rm.slots → ENDv X cc post n' rm.cells rm.slots → QX X xp rm.cells rm.slots n' → GG X 0 0 n h (L0 X) 0 []) : XV l G y cc maxL none rm n n' h av post xp := by
  obtain ⟨D, cy, b⟩ := G
  refine vx_ofW (cc := cc) (maxL := maxL) (ret := none) hy rfl ?_
  intro p e s m args below meth c s₁ B hml hnt hv
  obtain ⟨rfl, hR, hK, hZ1, hZ2, hbs, hstr⟩ := hv
  have hx := B.exec
  have hb := B.bytes
  have hr := B.returns
  have hts := atoms_spec (ws := wsU y cc maxL none) B.pre
  have hown : s.vm.findClass own = some m.cls := how ▸ findClass_of_methodNamed B.named
  have hlocks := B.notSynchronized
  rw [lg_entry_eq]
  have key := body (p, l, e, (headSpec (wsU y cc maxL none) rm).room, s, m, (av (rb b)).toArray, below, meth, c, vx_MQ below (va_Qv post (qB (D, cy, b) n') (qA (D, cy, b))) (qX (D, cy, b) n' xp) (av (rb b)).toArray s rm.cells rm.slots (qA (D, cy, b)), D, cy, b) rfl rfl
    ⟨hx, hb, hml, hown, fun w hw => hts w (List.mem_cons_of_mem _ hw), hK, Nat.le_refl _, Nat.le_refl _, Nat.le_refl _, Nat.le_refl _, hlocks, hbs, hZ1, hZ2, hl, hstr⟩ ?_ ?_
  · rw [← hL0] at key
    exact key s.heap [] _ hR va_S.rf (ent_P (av (rb b)) (hlen (p, l, e, (headSpec (wsU y cc maxL none) rm).room, s, m, (av (rb b)).toArray, below, meth, c, vx_MQ below (va_Qv post (qB (D, cy, b) n') (qA (D, cy, b))) (qX (D, cy, b) n' xp) (av (rb b)).toArray s rm.cells rm.slots (qA (D, cy, b)), D, cy, b)))
  · intro k z u L pc hk hz hd hpost H locs ls hRu hS hl1
    refine vx_ret ?_
    refine W.widen (k := rm.cells) (n := rm.slots) hk hz ?_
    refine W.vret hx hb hr (fun t ht hW => ⟨⟨u, rfl, hpost, ?_⟩, hS.F ht⟩) hS.2.2 hd
    exact Wld_of hRu hK hZ1 hZ2 hS hbs hstr ht hW.alike (StrOK_warm hW hstr)
  · exact ⟨hnt, _, rfl⟩
set_option maxHeartbeats 1000000 in
theorem XF_of {l : Launch} {G : Gq} {y : MethodName} {cc : ByteArray} {maxL : Nat} {rm : Room} {n n' : Nat} {h : Hp} {av : Av} {post : UInt32 → Hp → Prop} {xp : String → Hp → Prop} {L0 : Ctx → List (Option Value)} {own : String} (hl : l.stackTraces = false) (hy : plainName y.cls = true) (how : y.cls = own) (hlen : ∀ X : Ctx, (entL (av (rf X))).length ≤ maxL) (hL0 : ∀ X : Ctx, ent maxL (av (rf X)) = L0 X)
    (body : ∀ X : Ctx, xL X = l → GX X = G → EE X cc own maxL rm.frames rm.locals rm.cells rm.slots → ENDf X cc post n' rm.cells rm.slots → QX X xp rm.cells rm.slots n' → GG X 0 0 n h (L0 X) 0 []) : XF l G y cc maxL (some .float) rm n n' h av post xp := by
  obtain ⟨D, cy, b⟩ := G
  refine vx_ofW (cc := cc) (maxL := maxL) (ret := (some .float)) hy rfl ?_
  intro p e s m args below meth c s₁ B hml hnt hv
  obtain ⟨rfl, hR, hK, hZ1, hZ2, hbs, hstr⟩ := hv
  have hx := B.exec
  have hb := B.bytes
  have hr := B.returns
  have hts := atoms_spec (ws := wsU y cc maxL (some .float)) B.pre
  have hown : s.vm.findClass own = some m.cls := how ▸ findClass_of_methodNamed B.named
  have hlocks := B.notSynchronized
  rw [lg_entry_eq]
  have key := body (p, l, e, (headSpec (wsU y cc maxL (some .float)) rm).room, s, m, (av (rb b)).toArray, below, meth, c, vx_MQ below (va_Qf post (qB (D, cy, b) n') (qA (D, cy, b))) (qX (D, cy, b) n' xp) (av (rb b)).toArray s rm.cells rm.slots (qA (D, cy, b)), D, cy, b) rfl rfl
    ⟨hx, hb, hml, hown, fun w hw => hts w (List.mem_cons_of_mem _ hw), hK, Nat.le_refl _, Nat.le_refl _, Nat.le_refl _, Nat.le_refl _, hlocks, hbs, hZ1, hZ2, hl, hstr⟩ ?_ ?_
  · rw [← hL0] at key
    exact key s.heap [] _ hR va_S.rf (ent_P (av (rb b)) (hlen (p, l, e, (headSpec (wsU y cc maxL (some .float)) rm).room, s, m, (av (rb b)).toArray, below, meth, c, vx_MQ below (va_Qf post (qB (D, cy, b) n') (qA (D, cy, b))) (qX (D, cy, b) n' xp) (av (rb b)).toArray s rm.cells rm.slots (qA (D, cy, b)), D, cy, b)))
  · intro k z u L v pc hk hz hd hpost H locs ls hRu hS hl1
    refine vx_ret ?_
    refine W.widen (k := rm.cells) (n := rm.slots) hk hz ?_
    refine W.fret hx hb hr (fun t ht hW => ⟨⟨v, u, rfl, hpost, ?_⟩, hS.F ht⟩) hS.2.2 hd
    exact Wld_of hRu hK hZ1 hZ2 hS hbs hstr ht hW.alike (StrOK_warm hW hstr)
  · exact ⟨hnt, _, rfl⟩
set_option maxHeartbeats 1000000 in
theorem XD_of {l : Launch} {G : Gq} {y : MethodName} {cc : ByteArray} {maxL : Nat} {rm : Room} {n n' : Nat} {h : Hp} {av : Av} {post : UInt64 → Hp → Prop} {xp : String → Hp → Prop} {L0 : Ctx → List (Option Value)} {own : String} (hl : l.stackTraces = false) (hy : plainName y.cls = true) (how : y.cls = own) (hlen : ∀ X : Ctx, (entL (av (rf X))).length ≤ maxL) (hL0 : ∀ X : Ctx, ent maxL (av (rf X)) = L0 X)
    (body : ∀ X : Ctx, xL X = l → GX X = G → EE X cc own maxL rm.frames rm.locals rm.cells rm.slots → ENDd X cc post n' rm.cells rm.slots → QX X xp rm.cells rm.slots n' → GG X 0 0 n h (L0 X) 0 []) : XD l G y cc maxL (some .double) rm n n' h av post xp := by
  obtain ⟨D, cy, b⟩ := G
  refine vx_ofW (cc := cc) (maxL := maxL) (ret := (some .double)) hy rfl ?_
  intro p e s m args below meth c s₁ B hml hnt hv
  obtain ⟨rfl, hR, hK, hZ1, hZ2, hbs, hstr⟩ := hv
  have hx := B.exec
  have hb := B.bytes
  have hr := B.returns
  have hts := atoms_spec (ws := wsU y cc maxL (some .double)) B.pre
  have hown : s.vm.findClass own = some m.cls := how ▸ findClass_of_methodNamed B.named
  have hlocks := B.notSynchronized
  rw [lg_entry_eq]
  have key := body (p, l, e, (headSpec (wsU y cc maxL (some .double)) rm).room, s, m, (av (rb b)).toArray, below, meth, c, vx_MQ below (va_Qd post (qB (D, cy, b) n') (qA (D, cy, b))) (qX (D, cy, b) n' xp) (av (rb b)).toArray s rm.cells rm.slots (qA (D, cy, b)), D, cy, b) rfl rfl
    ⟨hx, hb, hml, hown, fun w hw => hts w (List.mem_cons_of_mem _ hw), hK, Nat.le_refl _, Nat.le_refl _, Nat.le_refl _, Nat.le_refl _, hlocks, hbs, hZ1, hZ2, hl, hstr⟩ ?_ ?_
  · rw [← hL0] at key
    exact key s.heap [] _ hR va_S.rf (ent_P (av (rb b)) (hlen (p, l, e, (headSpec (wsU y cc maxL (some .double)) rm).room, s, m, (av (rb b)).toArray, below, meth, c, vx_MQ below (va_Qd post (qB (D, cy, b) n') (qA (D, cy, b))) (qX (D, cy, b) n' xp) (av (rb b)).toArray s rm.cells rm.slots (qA (D, cy, b)), D, cy, b)))
  · intro k z u L v pc hk hz hd hpost H locs ls hRu hS hl1
    refine vx_ret ?_
    refine W.widen (k := rm.cells) (n := rm.slots) hk hz ?_
    refine W.dret hx hb hr (fun t ht hW => ⟨⟨v, u, rfl, hpost, ?_⟩, hS.F ht⟩) hS.2.2 hd
    exact Wld_of hRu hK hZ1 hZ2 hS hbs hstr ht hW.alike (StrOK_warm hW hstr)
  · exact ⟨hnt, _, rfl⟩
