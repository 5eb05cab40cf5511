/-! THE CLAIM OUT OF ONE WALK OF THE LAW'S BODY. Your part is whole_start (and what it stands on); all else here is the same for every law, but numbers. -/
def R_law : String := "FilterbenchLaw"
def lw_P (b : Addr) (xs : List Int32) (args : Array Value) (s : State) : Prop := args = #[.ref b] ∧ s.IntsAt b xs ∧ xs.length ≤ 3072 ∧ (Jvm.Cond.and given_1 narrow_1).before args s = true
/-- what a walk over the start with the record d0 says of its end, said of the start itself -/
theorem lw_closed {s t : State} {o : Outcome} {d0 : Drawn} {L : List Loc} {k n : Nat} (hd0 : s.drawn.sameBut d0 lw_cs) (hv : ∃ v, o = .returned v) (hW : (s.setDrawn d0).WarmedH t.vm) (hs : (s.setDrawn d0).sameButNew ({ t with vm := s.vm } : State) L k n) : State.butDraws s t lw_cs (fun t1 => Framed s o t1 L k n) := by
  have h2 : t.drawn = d0 := congrArg State.drawn hs.1
  refine ⟨⟨hv, hW, State.sameButNew.setDrawn hs s.drawn⟩, ?_, by decide⟩
  rw [h2]
  exact hd0
def lw_Q (_ : Array Value) (s : State) (o : Outcome) (t : State) : Prop := o = .returned (some (.int 1)) ∧ State.butDraws s t lw_cs (fun t1 => Framed s o t1 [] room_1.cells room_1.slots)
def lw_Z (below : List Frame) (a : Array Value) (s : State) : State → Prop := fun t => ∃ o, t.status = .running ∧ Ended t below o ∧ lw_Q a s o t
/-- the law's own end, with 1 on the stack, nothing written that was there before, its room as the claim has it; d0: the record of draws at this point (at the entry s.drawn: begin with 'refine W.base ?_' and 'have hd0 := Drawn.sameBut.refl s.drawn lw_cs') -/
theorem lw_ret {p : Program} {l : Launch} {e : Env} {s : State} {m : MethodId} {below : List Frame} {meth : Method} {c : Code} {b : Nat} {d0 : Drawn} (hd0 : s.drawn.sameBut d0 lw_cs) (hx : p.tables.exec = Jvm.exec) (hb : c.code = code) (hr : meth.sig.returnType = ret) (hlocks : meth.locks = false) {pc : Nat} {H : Heap} {ls : Array Slot} (hdg : decode code pc = .ok (.ireturn, 1)) : W p l e room_1 (s.setDrawn d0) m #[Value.ref b] below meth c H [] room_1.cells room_1.slots (lw_Z below #[Value.ref b] s) (F0 m pc ls [.int 1]) := by
  intro T hT X
  obtain ⟨fs, hret, hrun, hended, hW, hframe⟩ := X.leave (v := some (.int 1)) (hlocks := hlocks) (fun h => by rw [hr] at h; cases h)
  have hmeth' : T.vm.method? m = some meth := X.method'
  refine ⟨T.setFrames fs, ?_, .returned (some (.int 1)), hrun, hended, rfl, lw_closed hd0 ⟨_, rfl⟩ hW hframe⟩
  jvm_step X.here [X.here.top, hx, hb, hdg, hmeth', hr, ret, narrow_b1]
  (try refine ⟨rfl, ?_⟩); (try refine ⟨rfl, ?_⟩)
  first | (intro acts; rw [hret _ acts rfl rfl rfl]) | rw [hret _ _ rfl rfl rfl]
  exact Steps.refl _
/-- what holds at the law's entry: the machine, the code, the tables' words (any of lw_tbl by 'hts w (by decide +kernel)'), the script of L ints xs at the cell b, what the Statement gives of the start (any of its parts by flat_of_before) -/
def lw_At (p : Program) (s : State) (m : MethodId) (meth : Method) (c : Code) (b L : Nat) (xs : Nat → Int32) : Prop :=
  p.tables.exec = Jvm.exec ∧ c.code = code ∧ meth.sig.returnType = ret ∧ c.maxLocals = 9 ∧ s.vm.findClass R_law = some m.cls ∧ (∀ w ∈ lw_tbl, w.before #[Value.ref b] s = true) ∧ va_X b L xs s s.heap ∧ b < s.heap.size ∧ meth.locks = false ∧ (Jvm.Cond.and given_1 narrow_1).before #[Value.ref b] s = true

theorem law_end {p : Program} {l : Launch} {e : Env} {s : State} {m : MethodId} {below : List Frame} {meth : Method} {c : Code} {bs : Nat} {D : va_G} {cy : Nat → ClassId} (hx : p.tables.exec = Jvm.exec) (hb : c.code = code) (hr : meth.sig.returnType = ret) (hlocks : meth.locks = false) :
    ENDi (p, l, e, room_1, s, m, #[Value.ref bs], below, meth, c, lw_Z below #[Value.ref bs] s, D, cy, s.heap.size) cL_law .boolean (fun r u => isB r ∧ r = 1) NT 300000 3000000 := by
  intro k z h L v pc hk hz hd _ hv H locs ls hR hS hl
  obtain ⟨-, rfl⟩ := hv
  refine va_forget (fun q hq => hS.2.2 q hq) ?_
  refine W.widen (k := room_1.cells) (n := room_1.slots) (Nat.le_trans hk (Nat.le_of_ble_eq_true rfl)) (Nat.le_trans hz (Nat.le_of_ble_eq_true rfl)) ?_
  exact W.base (lw_ret (Drawn.sameBut.refl s.drawn lw_cs) hx hb hr hlocks hd)
theorem law_bound {Ls q : Nat} (hL : Ls ≤ 3072) (hq : q ≤ 3072) (hc : ¬ ((nI Ls - 6) < nI q)) : q + 6 ≤ Ls := by
  rcases Nat.lt_or_ge Ls (q + 6) with h | h
  · refine absurd ?_ hc
    rw [Int32.lt_iff_toInt_lt, show (6 : Int32) = nI 6 from rfl, pk_sub_toInt (by omega) (by omega), nI_toInt (by omega)]
    omega
  · exact h
theorem law_loop {X : Ctx} {Ls bs : Nat} {xs : Nat → Int32} (hL : Ls ≤ 3072) (E : EE X cL_law RL 9 1024 50000 300000 3000000) (hSX : SX X bs Ls xs) (hE : ENDi X cL_law .boolean (fun r u => isB r ∧ r = 1) NT 300000 3000000) {u : Hp} (hw : wp_L_law_b28 Ls xs 0 u (fun r _ => r = 1)) :
    GG X 270 64800 NT u [some (.ref bs), some (rf X 10 0), some (rf X 11 0), some (rf X 75 0), some (rf X 76 0), some (.int 0), none, none, none] 28 [] := by
  have key := hw (fun y u => ∀ k z q : Nat, y = nI q → q ≤ 3072 → k + (3072 - q) ≤ 10000 → z + 4 * (3072 - q) ≤ 100000 → GG X k z NT u [some (.ref bs), some (rf X 10 0), some (rf X 11 0), some (rf X 75 0), some (rf X 76 0), some (.int y), none, none, none] 28 []) (fun y u hF k z q hy hq hk hz => ?_)
  · exact key 270 64800 0 rfl (by omega) (by omega) (by omega)
  · refine t_L_law_b28F u y Ls xs bs hSX k z (by omega) (by omega) E hE _ (fun y5 u5 e5 hc hp => ?_) hF
    have hb := law_bound hL hq (by rw [← hy]; exact hc)
    exact hp (k + 4) (z + 24) (q + 6) (by rw [e5, hy, show (6 : Int32) = nI 6 from rfl, nI_add]) (by omega) (by omega) (by omega)
def hp0 : Hp := (fun _ _ _ => 0, fun _ _ _ => 0, fun _ _ _ => 0, fun _ _ _ => 0)
/-- the law's whole walk, out of its predicate -/
def LawOK : Prop := ∀ (Ls : Nat) (xs : Nat → Int32), Ls ≤ 3072 → wp_L_start 270 hp0 (fun u => wp_L_law_b28 Ls xs 0 u (fun r _ => r = 1))
theorem arr_ok {s : State} {args : Array Value} {ty : FieldType} (hne : ∀ C, ty ≠ .object C) (h : (Cond.arrayClass ty).before args s = true) : ∃ cA : ClassId, ArrOfT s cA ty ∧ va_RA s cA ty := by
  obtain ⟨cA, kA, comp, h1, h2, h3⟩ := Cond.arrayClass_spec h
  refine ⟨cA, fun n z => ⟨fun k h => (by cases h), kA, h2, comp, h3⟩, ?_⟩
  cases ty with
  | object C => exact absurd rfl (hne C)
  | _ => exact h1
theorem arrO_ok {s : State} {args : Array Value} {C : String} (h : (Cond.arrayOver (.object C)).before args s = true) : ∃ cA : ClassId, ArrOfT s cA (.object C) ∧ va_RA s cA (.object C) := by
  obtain ⟨comp, cA, kA, h1, -, h2, h3, h4⟩ := Cond.arrayOver_spec h
  exact ⟨cA, fun n z => ⟨fun k h => (by cases h), kA, h2, comp, h3⟩, kA, comp, h2, h3, h1, h4⟩
