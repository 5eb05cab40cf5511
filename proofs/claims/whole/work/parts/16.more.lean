/-! names for values, locals forgotten -/
abbrev LET {α : Type} (e : α) (f : α → Prop) : Prop := ∀ y, y = e → f y
theorem LET.mk {α : Type} {e : α} {f : α → Prop} (h : f e) : LET e f := fun y hy => hy ▸ h
theorem EE_st {X : Ctx} {cc : ByteArray} {own : String} {nL fr lo mc ms : Nat} (E : EE X cc own nL fr lo mc ms) : (xL X).stackTraces = false := E.2.2.2.2.2.2.2.2.2.2.2.2.2.2.1
theorem vp_in_lt {i : Int32} {N : Nat} (h : vp_in i N) : i.toNatClampNeg < N := Nat.not_le.mp fun q => h (Or.inr q)
section More
variable {X : Ctx} {cc : ByteArray} {own : String} {nL fr lo mc ms k z n pc : Nat} {h : Hp} {L : List (Option Value)} {st : List Value}
theorem GG_topI {x : Int32} (kk : ∀ y, y = x → GG X k z n h L pc (.int y :: st)) : GG X k z n h L pc (.int x :: st) := kk x rfl
theorem GG_topJ {x : Int64} (kk : ∀ y, y = x → GG X k z n h L pc (.long y :: st)) : GG X k z n h L pc (.long x :: st) := kk x rfl
theorem GG_topF {x : UInt32} (kk : ∀ y, y = x → GG X k z n h L pc (.float y :: st)) : GG X k z n h L pc (.float x :: st) := kk x rfl
theorem GG_topD {x : UInt64} (kk : ∀ y, y = x → GG X k z n h L pc (.double y :: st)) : GG X k z n h L pc (.double x :: st) := kk x rfl
theorem GG_toph (kk : ∀ u, u = h → GG X k z n u L pc st) : GG X k z n h L pc st := kk h rfl
def keepL : List Bool → List (Option Value) → List (Option Value)
  | true :: m, x :: t => x :: keepL m t
  | false :: m, _ :: t => none :: keepL m t
  | _, t => t
theorem keepL_len : ∀ (m : List Bool) (t : List (Option Value)), (keepL m t).length = t.length
  | [], t => by cases t <;> rfl
  | true :: m, [] => rfl
  | false :: m, [] => rfl
  | true :: m, x :: t => by simp [keepL, keepL_len m t]
  | false :: m, x :: t => by simp [keepL, keepL_len m t]
theorem keepL_get : ∀ (m : List Bool) (t : List (Option Value)) (i : Nat) (v : Value), (keepL m t)[i]? = some (some v) → t[i]? = some (some v)
  | [], t, i, v, h => by cases t <;> exact h
  | true :: m, [], i, v, h => h
  | false :: m, [], i, v, h => h
  | true :: m, x :: t, i, v, h => by
    cases i with
    | zero => exact h
    | succ i => exact keepL_get m t i v (by simpa [keepL] using h)
  | false :: m, x :: t, i, v, h => by
    cases i with
    | zero => simp [keepL] at h
    | succ i =>
      rw [List.getElem?_cons_succ]
      exact keepL_get m t i v (by simpa [keepL] using h)
/-- locals that are not wanted any more may be forgotten -/
theorem GG_weak (m : List Bool) {L1 : List (Option Value)} (hm : keepL m L = L1) (g : GG X k z n h L1 pc st) : GG X k z n h L pc st := by
  intro H locs ls hR hS hl
  refine g H locs ls hR hS ⟨?_, hl.2.1, fun i v hi => hl.2.2 i v (keepL_get m L i v (by rw [hm]; exact hi))⟩
  rw [hl.1, ← hm, keepL_len]
theorem GG_wid {k1 z1 : Nat} (hk : k ≤ k1) (hz : z ≤ z1) (g : GG X k1 z1 n h L pc st) : GG X k z n h L pc st := by
  intro H locs ls hR hS hl
  exact W.widen (k := k1) (n := z1) hk hz (g H locs ls hR hS hl)
theorem r_throwX (E : EE X cc own nL fr lo mc ms) {xp : String → Hp → Prop} {mc1 ms1 : Nat} (hX : QX X xp mc1 ms1 n) {cls text : String} {names : List String} {ik is ic : Nat} (hN : n = NT) (hown0 : own = RX10) (hcls : Bundle.fit cls = true) (hnames : ∀ q ∈ names, Bundle.fit q = true) (hk : Cond.classLink own ik cls ∈ UNI) (hini : Cond.initialized cls ∈ UNI) (hs0 : (is, text) ∈ strL) (hat : ∀ w ∈ (qx_at own ic cls 13 rxN names).filter goodWord, w ∈ UNI) (hat2 : ∀ w ∈ (qx_at own ic cls 13 rxN names).filter (fun w => !goodWord w), w ∈ nwL)
    (hgood : ∀ w ∈ Cond.classLink own ik cls :: Cond.initialized cls :: qx_at own ic cls 13 rxN names, vx_ot w = true) (hLn : L.length = nL) (hxp : xp cls h)
    (d0 : decode cc pc = .ok (.new ik, 3)) (d3 : decode cc (pc + 3) = .ok (.dup, 1)) (d4 : decode cc (pc + 4) = .ok (.ldc is, 2)) (d6 : decode cc (pc + 6) = .ok (.invokespecial ic, 3)) (d9 : decode cc (pc + 9) = .ok (.athrow, 1))
    (hfr0 : names.length + 3 < fr) (hlo0 : (st.map fun v => v.category).sum + (13 * (names.length + 1) + 43) ≤ lo) (hk1 : k + 1 ≤ mc) (hz1 : z + 6 ≤ ms) (hk2 : k + 1 ≤ mc1) (hz2 : z + 6 ≤ ms1) : GG X k z n h L pc st := by
  obtain ⟨p, l, e, R, s, m, args, below, meth, c, Q, D, cy, b⟩ := X
  obtain ⟨hx, hb, hml, hown, hts, hK, hfr, hlo, hmc, hms, hlk, hbs, hZ1, hZ2, hst, hstr⟩ := E
  intro H locs ls hR hS hl
  obtain ⟨hno, Qc, hQ⟩ := hX
  have hQ : Q = vx_MQ below Qc (qX (D, cy, b) n xp) args s mc1 ms1 (qA (D, cy, b)) := hQ
  subst hQ
  subst hown0
  obtain ⟨sa, hsa⟩ := hstr.1 _ hs0
  refine qx_throwS hx hb hst (ix := 13) (rx := rxN) (by decide +kernel) (by decide +kernel) (by decide +kernel) (by decide +kernel) hown hcls hnames (hts _ hk) (hts _ hini) hsa (vx_hat (fun w hw => hts _ (hat w hw)) hat2 (fun w hw => va_Nw.use (nwL_ot w hw) (hstr.2.1 w hw))) hgood hZ1 hZ2 hS ((hl.1.trans hLn).trans hml.symm) d0 d3 d4 d6 d9 (fun x hx9 => (hno x hx9).elim) (Nat.lt_of_lt_of_le hfr0 hfr) (Nat.le_trans hlo0 hlo) (Nat.le_trans hk1 hmc) (Nat.le_trans hz1 hms) hlk (fun t hA h1 h2 => ?_) hS.2.2 hk2 hz2
  obtain ⟨hP, hz, hSt, hnt⟩ := hR
  exact ⟨h, trivial, ⟨hxp, hP.kept (fun q x hq => h2 x.1 ((hP q x hq).lt)), fun w => absurd hN (Nat.ne_of_lt w), hSt, hnt⟩, Nat.le_trans hS.1 h1, fun q w1 w2 => (h2 q (Nat.lt_of_lt_of_le w1 hS.1)).trans (hS.2.1 q w1 w2)⟩
theorem r_throwXW (E : EE X cc own nL fr lo mc ms) {xp : String → Hp → Prop} {mc1 ms1 : Nat} (hX : QX X xp mc1 ms1 n) {cls text : String} {names : List String} {ik is ic : Nat} (hN : n = NT) (hown0 : own = RX10) (hcls : Bundle.fit cls = true) (hnames : ∀ q ∈ names, Bundle.fit q = true) (hk : Cond.classLink own ik cls ∈ UNI) (hini : Cond.initialized cls ∈ UNI) (hs0 : (is, text) ∈ strL) (hat : ∀ w ∈ (qx_at own ic cls 13 rxN names).filter goodWord, w ∈ UNI) (hat2 : ∀ w ∈ (qx_at own ic cls 13 rxN names).filter (fun w => !goodWord w), w ∈ nwL)
    (hgood : ∀ w ∈ Cond.classLink own ik cls :: Cond.initialized cls :: qx_at own ic cls 13 rxN names, vx_ot w = true) (hLn : L.length = nL) (hxp : xp cls h)
    (d0 : decode cc pc = .ok (.new ik, 3)) (d3 : decode cc (pc + 3) = .ok (.dup, 1)) (d4 : decode cc (pc + 4) = .ok (.ldc_w is, 3)) (d6 : decode cc (pc + 7) = .ok (.invokespecial ic, 3)) (d9 : decode cc (pc + 10) = .ok (.athrow, 1))
    (hfr0 : names.length + 3 < fr) (hlo0 : (st.map fun v => v.category).sum + (13 * (names.length + 1) + 43) ≤ lo) (hk1 : k + 1 ≤ mc) (hz1 : z + 6 ≤ ms) (hk2 : k + 1 ≤ mc1) (hz2 : z + 6 ≤ ms1) : GG X k z n h L pc st := by
  obtain ⟨p, l, e, R, s, m, args, below, meth, c, Q, D, cy, b⟩ := X
  obtain ⟨hx, hb, hml, hown, hts, hK, hfr, hlo, hmc, hms, hlk, hbs, hZ1, hZ2, hst, hstr⟩ := E
  intro H locs ls hR hS hl
  obtain ⟨hno, Qc, hQ⟩ := hX
  have hQ : Q = vx_MQ below Qc (qX (D, cy, b) n xp) args s mc1 ms1 (qA (D, cy, b)) := hQ
  subst hQ
  subst hown0
  obtain ⟨sa, hsa⟩ := hstr.1 _ hs0
  refine qx_throwSW hx hb hst (ix := 13) (rx := rxN) (by decide +kernel) (by decide +kernel) (by decide +kernel) (by decide +kernel) hown hcls hnames (hts _ hk) (hts _ hini) hsa (vx_hat (fun w hw => hts _ (hat w hw)) hat2 (fun w hw => va_Nw.use (nwL_ot w hw) (hstr.2.1 w hw))) hgood hZ1 hZ2 hS ((hl.1.trans hLn).trans hml.symm) d0 d3 d4 d6 d9 (fun x hx9 => (hno x hx9).elim) (Nat.lt_of_lt_of_le hfr0 hfr) (Nat.le_trans hlo0 hlo) (Nat.le_trans hk1 hmc) (Nat.le_trans hz1 hms) hlk (fun t hA h1 h2 => ?_) hS.2.2 hk2 hz2
  obtain ⟨hP, hz, hSt, hnt⟩ := hR
  exact ⟨h, trivial, ⟨hxp, hP.kept (fun q x hq => h2 x.1 ((hP q x hq).lt)), fun w => absurd hN (Nat.ne_of_lt w), hSt, hnt⟩, Nat.le_trans hS.1 h1, fun q w1 w2 => (h2 q (Nat.lt_of_lt_of_le w1 hS.1)).trans (hS.2.1 q w1 w2)⟩
end More
def LFP1 {A1 : Type} (F : (A1 → Prop) → A1 → Prop) (a1 : A1) : Prop := ∀ P : A1 → Prop, (∀ (a1 : A1), F P a1 → P a1) → P a1
theorem LFP1.by {A1 : Type} {F : (A1 → Prop) → A1 → Prop} (I : A1 → Prop) (μ : A1 → Nat) {a1 : A1} (hx : I a1) (hs : ∀ (a1 : A1), I a1 → ∀ P : A1 → Prop, (∀ (b1 : A1), I b1 → μ b1 < μ a1 → P b1) → F P a1) : LFP1 F a1 := by
  intro P hP
  suffices key : ∀ (q : Nat) (b1 : A1), μ b1 < q → I b1 → P b1 from key (μ a1 + 1) a1 (Nat.lt_succ_self _) hx
  intro q
  induction q with
  | zero => intro b1 h _; exact absurd h (Nat.not_lt_zero _)
  | succ q ih => intro b1 h hy; exact hP b1 (hs b1 hy P fun c1 hz hlt => ih c1 (Nat.lt_of_lt_of_le hlt (Nat.le_of_lt_succ h)) hz)
def LFP2 {A1 A2 : Type} (F : (A1 → A2 → Prop) → A1 → A2 → Prop) (a1 : A1) (a2 : A2) : Prop := ∀ P : A1 → A2 → Prop, (∀ (a1 : A1) (a2 : A2), F P a1 a2 → P a1 a2) → P a1 a2
theorem LFP2.by {A1 A2 : Type} {F : (A1 → A2 → Prop) → A1 → A2 → Prop} (I : A1 → A2 → Prop) (μ : A1 → A2 → Nat) {a1 : A1} {a2 : A2} (hx : I a1 a2) (hs : ∀ (a1 : A1) (a2 : A2), I a1 a2 → ∀ P : A1 → A2 → Prop, (∀ (b1 : A1) (b2 : A2), I b1 b2 → μ b1 b2 < μ a1 a2 → P b1 b2) → F P a1 a2) : LFP2 F a1 a2 := by
  intro P hP
  suffices key : ∀ (q : Nat) (b1 : A1) (b2 : A2), μ b1 b2 < q → I b1 b2 → P b1 b2 from key (μ a1 a2 + 1) a1 a2 (Nat.lt_succ_self _) hx
  intro q
  induction q with
  | zero => intro b1 b2 h _; exact absurd h (Nat.not_lt_zero _)
  | succ q ih => intro b1 b2 h hy; exact hP b1 b2 (hs b1 b2 hy P fun c1 c2 hz hlt => ih c1 c2 (Nat.lt_of_lt_of_le hlt (Nat.le_of_lt_succ h)) hz)
def LFP3 {A1 A2 A3 : Type} (F : (A1 → A2 → A3 → Prop) → A1 → A2 → A3 → Prop) (a1 : A1) (a2 : A2) (a3 : A3) : Prop := ∀ P : A1 → A2 → A3 → Prop, (∀ (a1 : A1) (a2 : A2) (a3 : A3), F P a1 a2 a3 → P a1 a2 a3) → P a1 a2 a3
theorem LFP3.by {A1 A2 A3 : Type} {F : (A1 → A2 → A3 → Prop) → A1 → A2 → A3 → Prop} (I : A1 → A2 → A3 → Prop) (μ : A1 → A2 → A3 → Nat) {a1 : A1} {a2 : A2} {a3 : A3} (hx : I a1 a2 a3) (hs : ∀ (a1 : A1) (a2 : A2) (a3 : A3), I a1 a2 a3 → ∀ P : A1 → A2 → A3 → Prop, (∀ (b1 : A1) (b2 : A2) (b3 : A3), I b1 b2 b3 → μ b1 b2 b3 < μ a1 a2 a3 → P b1 b2 b3) → F P a1 a2 a3) : LFP3 F a1 a2 a3 := by
  intro P hP
  suffices key : ∀ (q : Nat) (b1 : A1) (b2 : A2) (b3 : A3), μ b1 b2 b3 < q → I b1 b2 b3 → P b1 b2 b3 from key (μ a1 a2 a3 + 1) a1 a2 a3 (Nat.lt_succ_self _) hx
  intro q
  induction q with
  | zero => intro b1 b2 b3 h _; exact absurd h (Nat.not_lt_zero _)
  | succ q ih => intro b1 b2 b3 h hy; exact hP b1 b2 b3 (hs b1 b2 b3 hy P fun c1 c2 c3 hz hlt => ih c1 c2 c3 (Nat.lt_of_lt_of_le hlt (Nat.le_of_lt_succ h)) hz)
def LFP4 {A1 A2 A3 A4 : Type} (F : (A1 → A2 → A3 → A4 → Prop) → A1 → A2 → A3 → A4 → Prop) (a1 : A1) (a2 : A2) (a3 : A3) (a4 : A4) : Prop := ∀ P : A1 → A2 → A3 → A4 → Prop, (∀ (a1 : A1) (a2 : A2) (a3 : A3) (a4 : A4), F P a1 a2 a3 a4 → P a1 a2 a3 a4) → P a1 a2 a3 a4
theorem LFP4.by {A1 A2 A3 A4 : Type} {F : (A1 → A2 → A3 → A4 → Prop) → A1 → A2 → A3 → A4 → Prop} (I : A1 → A2 → A3 → A4 → Prop) (μ : A1 → A2 → A3 → A4 → Nat) {a1 : A1} {a2 : A2} {a3 : A3} {a4 : A4} (hx : I a1 a2 a3 a4) (hs : ∀ (a1 : A1) (a2 : A2) (a3 : A3) (a4 : A4), I a1 a2 a3 a4 → ∀ P : A1 → A2 → A3 → A4 → Prop, (∀ (b1 : A1) (b2 : A2) (b3 : A3) (b4 : A4), I b1 b2 b3 b4 → μ b1 b2 b3 b4 < μ a1 a2 a3 a4 → P b1 b2 b3 b4) → F P a1 a2 a3 a4) : LFP4 F a1 a2 a3 a4 := by
  intro P hP
  suffices key : ∀ (q : Nat) (b1 : A1) (b2 : A2) (b3 : A3) (b4 : A4), μ b1 b2 b3 b4 < q → I b1 b2 b3 b4 → P b1 b2 b3 b4 from key (μ a1 a2 a3 a4 + 1) a1 a2 a3 a4 (Nat.lt_succ_self _) hx
  intro q
  induction q with
  | zero => intro b1 b2 b3 b4 h _; exact absurd h (Nat.not_lt_zero _)
  | succ q ih => intro b1 b2 b3 b4 h hy; exact hP b1 b2 b3 b4 (hs b1 b2 b3 b4 hy P fun c1 c2 c3 c4 hz hlt => ih c1 c2 c3 c4 (Nat.lt_of_lt_of_le hlt (Nat.le_of_lt_succ h)) hz)
def LFP5 {A1 A2 A3 A4 A5 : Type} (F : (A1 → A2 → A3 → A4 → A5 → Prop) → A1 → A2 → A3 → A4 → A5 → Prop) (a1 : A1) (a2 : A2) (a3 : A3) (a4 : A4) (a5 : A5) : Prop := ∀ P : A1 → A2 → A3 → A4 → A5 → Prop, (∀ (a1 : A1) (a2 : A2) (a3 : A3) (a4 : A4) (a5 : A5), F P a1 a2 a3 a4 a5 → P a1 a2 a3 a4 a5) → P a1 a2 a3 a4 a5
theorem LFP5.by {A1 A2 A3 A4 A5 : Type} {F : (A1 → A2 → A3 → A4 → A5 → Prop) → A1 → A2 → A3 → A4 → A5 → Prop} (I : A1 → A2 → A3 → A4 → A5 → Prop) (μ : A1 → A2 → A3 → A4 → A5 → Nat) {a1 : A1} {a2 : A2} {a3 : A3} {a4 : A4} {a5 : A5} (hx : I a1 a2 a3 a4 a5) (hs : ∀ (a1 : A1) (a2 : A2) (a3 : A3) (a4 : A4) (a5 : A5), I a1 a2 a3 a4 a5 → ∀ P : A1 → A2 → A3 → A4 → A5 → Prop, (∀ (b1 : A1) (b2 : A2) (b3 : A3) (b4 : A4) (b5 : A5), I b1 b2 b3 b4 b5 → μ b1 b2 b3 b4 b5 < μ a1 a2 a3 a4 a5 → P b1 b2 b3 b4 b5) → F P a1 a2 a3 a4 a5) : LFP5 F a1 a2 a3 a4 a5 := by
  intro P hP
  suffices key : ∀ (q : Nat) (b1 : A1) (b2 : A2) (b3 : A3) (b4 : A4) (b5 : A5), μ b1 b2 b3 b4 b5 < q → I b1 b2 b3 b4 b5 → P b1 b2 b3 b4 b5 from key (μ a1 a2 a3 a4 a5 + 1) a1 a2 a3 a4 a5 (Nat.lt_succ_self _) hx
  intro q
  induction q with
  | zero => intro b1 b2 b3 b4 b5 h _; exact absurd h (Nat.not_lt_zero _)
  | succ q ih => intro b1 b2 b3 b4 b5 h hy; exact hP b1 b2 b3 b4 b5 (hs b1 b2 b3 b4 b5 hy P fun c1 c2 c3 c4 c5 hz hlt => ih c1 c2 c3 c4 c5 (Nat.lt_of_lt_of_le hlt (Nat.le_of_lt_succ h)) hz)
def LFP6 {A1 A2 A3 A4 A5 A6 : Type} (F : (A1 → A2 → A3 → A4 → A5 → A6 → Prop) → A1 → A2 → A3 → A4 → A5 → A6 → Prop) (a1 : A1) (a2 : A2) (a3 : A3) (a4 : A4) (a5 : A5) (a6 : A6) : Prop := ∀ P : A1 → A2 → A3 → A4 → A5 → A6 → Prop, (∀ (a1 : A1) (a2 : A2) (a3 : A3) (a4 : A4) (a5 : A5) (a6 : A6), F P a1 a2 a3 a4 a5 a6 → P a1 a2 a3 a4 a5 a6) → P a1 a2 a3 a4 a5 a6
theorem LFP6.by {A1 A2 A3 A4 A5 A6 : Type} {F : (A1 → A2 → A3 → A4 → A5 → A6 → Prop) → A1 → A2 → A3 → A4 → A5 → A6 → Prop} (I : A1 → A2 → A3 → A4 → A5 → A6 → Prop) (μ : A1 → A2 → A3 → A4 → A5 → A6 → Nat) {a1 : A1} {a2 : A2} {a3 : A3} {a4 : A4} {a5 : A5} {a6 : A6} (hx : I a1 a2 a3 a4 a5 a6) (hs : ∀ (a1 : A1) (a2 : A2) (a3 : A3) (a4 : A4) (a5 : A5) (a6 : A6), I a1 a2 a3 a4 a5 a6 → ∀ P : A1 → A2 → A3 → A4 → A5 → A6 → Prop, (∀ (b1 : A1) (b2 : A2) (b3 : A3) (b4 : A4) (b5 : A5) (b6 : A6), I b1 b2 b3 b4 b5 b6 → μ b1 b2 b3 b4 b5 b6 < μ a1 a2 a3 a4 a5 a6 → P b1 b2 b3 b4 b5 b6) → F P a1 a2 a3 a4 a5 a6) : LFP6 F a1 a2 a3 a4 a5 a6 := by
  intro P hP
  suffices key : ∀ (q : Nat) (b1 : A1) (b2 : A2) (b3 : A3) (b4 : A4) (b5 : A5) (b6 : A6), μ b1 b2 b3 b4 b5 b6 < q → I b1 b2 b3 b4 b5 b6 → P b1 b2 b3 b4 b5 b6 from key (μ a1 a2 a3 a4 a5 a6 + 1) a1 a2 a3 a4 a5 a6 (Nat.lt_succ_self _) hx
  intro q
  induction q with
  | zero => intro b1 b2 b3 b4 b5 b6 h _; exact absurd h (Nat.not_lt_zero _)
  | succ q ih => intro b1 b2 b3 b4 b5 b6 h hy; exact hP b1 b2 b3 b4 b5 b6 (hs b1 b2 b3 b4 b5 b6 hy P fun c1 c2 c3 c4 c5 c6 hz hlt => ih c1 c2 c3 c4 c5 c6 (Nat.lt_of_lt_of_le hlt (Nat.le_of_lt_succ h)) hz)
def LFP7 {A1 A2 A3 A4 A5 A6 A7 : Type} (F : (A1 → A2 → A3 → A4 → A5 → A6 → A7 → Prop) → A1 → A2 → A3 → A4 → A5 → A6 → A7 → Prop) (a1 : A1) (a2 : A2) (a3 : A3) (a4 : A4) (a5 : A5) (a6 : A6) (a7 : A7) : Prop := ∀ P : A1 → A2 → A3 → A4 → A5 → A6 → A7 → Prop, (∀ (a1 : A1) (a2 : A2) (a3 : A3) (a4 : A4) (a5 : A5) (a6 : A6) (a7 : A7), F P a1 a2 a3 a4 a5 a6 a7 → P a1 a2 a3 a4 a5 a6 a7) → P a1 a2 a3 a4 a5 a6 a7
theorem LFP7.by {A1 A2 A3 A4 A5 A6 A7 : Type} {F : (A1 → A2 → A3 → A4 → A5 → A6 → A7 → Prop) → A1 → A2 → A3 → A4 → A5 → A6 → A7 → Prop} (I : A1 → A2 → A3 → A4 → A5 → A6 → A7 → Prop) (μ : A1 → A2 → A3 → A4 → A5 → A6 → A7 → Nat) {a1 : A1} {a2 : A2} {a3 : A3} {a4 : A4} {a5 : A5} {a6 : A6} {a7 : A7} (hx : I a1 a2 a3 a4 a5 a6 a7) (hs : ∀ (a1 : A1) (a2 : A2) (a3 : A3) (a4 : A4) (a5 : A5) (a6 : A6) (a7 : A7), I a1 a2 a3 a4 a5 a6 a7 → ∀ P : A1 → A2 → A3 → A4 → A5 → A6 → A7 → Prop, (∀ (b1 : A1) (b2 : A2) (b3 : A3) (b4 : A4) (b5 : A5) (b6 : A6) (b7 : A7), I b1 b2 b3 b4 b5 b6 b7 → μ b1 b2 b3 b4 b5 b6 b7 < μ a1 a2 a3 a4 a5 a6 a7 → P b1 b2 b3 b4 b5 b6 b7) → F P a1 a2 a3 a4 a5 a6 a7) : LFP7 F a1 a2 a3 a4 a5 a6 a7 := by
  intro P hP
  suffices key : ∀ (q : Nat) (b1 : A1) (b2 : A2) (b3 : A3) (b4 : A4) (b5 : A5) (b6 : A6) (b7 : A7), μ b1 b2 b3 b4 b5 b6 b7 < q → I b1 b2 b3 b4 b5 b6 b7 → P b1 b2 b3 b4 b5 b6 b7 from key (μ a1 a2 a3 a4 a5 a6 a7 + 1) a1 a2 a3 a4 a5 a6 a7 (Nat.lt_succ_self _) hx
  intro q
  induction q with
  | zero => intro b1 b2 b3 b4 b5 b6 b7 h _; exact absurd h (Nat.not_lt_zero _)
  | succ q ih => intro b1 b2 b3 b4 b5 b6 b7 h hy; exact hP b1 b2 b3 b4 b5 b6 b7 (hs b1 b2 b3 b4 b5 b6 b7 hy P fun c1 c2 c3 c4 c5 c6 c7 hz hlt => ih c1 c2 c3 c4 c5 c6 c7 (Nat.lt_of_lt_of_le hlt (Nat.le_of_lt_succ h)) hz)
def LFP8 {A1 A2 A3 A4 A5 A6 A7 A8 : Type} (F : (A1 → A2 → A3 → A4 → A5 → A6 → A7 → A8 → Prop) → A1 → A2 → A3 → A4 → A5 → A6 → A7 → A8 → Prop) (a1 : A1) (a2 : A2) (a3 : A3) (a4 : A4) (a5 : A5) (a6 : A6) (a7 : A7) (a8 : A8) : Prop := ∀ P : A1 → A2 → A3 → A4 → A5 → A6 → A7 → A8 → Prop, (∀ (a1 : A1) (a2 : A2) (a3 : A3) (a4 : A4) (a5 : A5) (a6 : A6) (a7 : A7) (a8 : A8), F P a1 a2 a3 a4 a5 a6 a7 a8 → P a1 a2 a3 a4 a5 a6 a7 a8) → P a1 a2 a3 a4 a5 a6 a7 a8
theorem LFP8.by {A1 A2 A3 A4 A5 A6 A7 A8 : Type} {F : (A1 → A2 → A3 → A4 → A5 → A6 → A7 → A8 → Prop) → A1 → A2 → A3 → A4 → A5 → A6 → A7 → A8 → Prop} (I : A1 → A2 → A3 → A4 → A5 → A6 → A7 → A8 → Prop) (μ : A1 → A2 → A3 → A4 → A5 → A6 → A7 → A8 → Nat) {a1 : A1} {a2 : A2} {a3 : A3} {a4 : A4} {a5 : A5} {a6 : A6} {a7 : A7} {a8 : A8} (hx : I a1 a2 a3 a4 a5 a6 a7 a8) (hs : ∀ (a1 : A1) (a2 : A2) (a3 : A3) (a4 : A4) (a5 : A5) (a6 : A6) (a7 : A7) (a8 : A8), I a1 a2 a3 a4 a5 a6 a7 a8 → ∀ P : A1 → A2 → A3 → A4 → A5 → A6 → A7 → A8 → Prop, (∀ (b1 : A1) (b2 : A2) (b3 : A3) (b4 : A4) (b5 : A5) (b6 : A6) (b7 : A7) (b8 : A8), I b1 b2 b3 b4 b5 b6 b7 b8 → μ b1 b2 b3 b4 b5 b6 b7 b8 < μ a1 a2 a3 a4 a5 a6 a7 a8 → P b1 b2 b3 b4 b5 b6 b7 b8) → F P a1 a2 a3 a4 a5 a6 a7 a8) : LFP8 F a1 a2 a3 a4 a5 a6 a7 a8 := by
  intro P hP
  suffices key : ∀ (q : Nat) (b1 : A1) (b2 : A2) (b3 : A3) (b4 : A4) (b5 : A5) (b6 : A6) (b7 : A7) (b8 : A8), μ b1 b2 b3 b4 b5 b6 b7 b8 < q → I b1 b2 b3 b4 b5 b6 b7 b8 → P b1 b2 b3 b4 b5 b6 b7 b8 from key (μ a1 a2 a3 a4 a5 a6 a7 a8 + 1) a1 a2 a3 a4 a5 a6 a7 a8 (Nat.lt_succ_self _) hx
  intro q
  induction q with
  | zero => intro b1 b2 b3 b4 b5 b6 b7 b8 h _; exact absurd h (Nat.not_lt_zero _)
  | succ q ih => intro b1 b2 b3 b4 b5 b6 b7 b8 h hy; exact hP b1 b2 b3 b4 b5 b6 b7 b8 (hs b1 b2 b3 b4 b5 b6 b7 b8 hy P fun c1 c2 c3 c4 c5 c6 c7 c8 hz hlt => ih c1 c2 c3 c4 c5 c6 c7 c8 (Nat.lt_of_lt_of_le hlt (Nat.le_of_lt_succ h)) hz)
