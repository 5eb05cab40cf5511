/-! making objects -/
theorem lo_code : Cond.instanceMethod Lib.objectInit ∈ UNI ∧ Cond.code Lib.objectInit ⟨#[0xb1]⟩ 1 none ∈ UNI := ⟨uni_of (List.mem_of_getElem? (i := 31) (by decide +kernel)) (by decide +kernel), uni_of (List.mem_of_getElem? (i := 32) (by decide +kernel)) (by decide +kernel)⟩
theorem lo_X10_1 : Cond.methodLink RX10 1 Lib.objectInit ∈ UNI := uni_of (List.mem_of_getElem? (i := 30) (by decide +kernel)) (by decide +kernel)
theorem lo_X0_3 : Cond.methodLink RX0 3 Lib.objectInit ∈ UNI := uni_of (List.mem_of_getElem? (i := 216) (by decide +kernel)) (by decide +kernel)
theorem lo_X1_5 : Cond.methodLink RX1 5 Lib.objectInit ∈ UNI := uni_of (List.mem_of_getElem? (i := 415) (by decide +kernel)) (by decide +kernel)
theorem lo_X2_1 : Cond.methodLink RX2 1 Lib.objectInit ∈ UNI := uni_of (List.mem_of_getElem? (i := 75) (by decide +kernel)) (by decide +kernel)
theorem lo_X3_3 : Cond.methodLink RX3 3 Lib.objectInit ∈ UNI := uni_of (List.mem_of_getElem? (i := 68) (by decide +kernel)) (by decide +kernel)
theorem lo_X4_1 : Cond.methodLink RX4 1 Lib.objectInit ∈ UNI := uni_of (List.mem_of_getElem? (i := 326) (by decide +kernel)) (by decide +kernel)
theorem lo_X5_3 : Cond.methodLink RX5 3 Lib.objectInit ∈ UNI := uni_of (List.mem_of_getElem? (i := 222) (by decide +kernel)) (by decide +kernel)
theorem lo_X6_3 : Cond.methodLink RX6 3 Lib.objectInit ∈ UNI := uni_of (List.mem_of_getElem? (i := 179) (by decide +kernel)) (by decide +kernel)
theorem lo_X7_1 : Cond.methodLink RX7 1 Lib.objectInit ∈ UNI := uni_of (List.mem_of_getElem? (i := 172) (by decide +kernel)) (by decide +kernel)
theorem lo_X8_3 : Cond.methodLink RX8 3 Lib.objectInit ∈ UNI := uni_of (List.mem_of_getElem? (i := 332) (by decide +kernel)) (by decide +kernel)
theorem lo_X9_3 : Cond.methodLink RX9 3 Lib.objectInit ∈ UNI := uni_of (List.mem_of_getElem? (i := 38) (by decide +kernel)) (by decide +kernel)
theorem lo_X11_1 : Cond.methodLink RX11 1 Lib.objectInit ∈ UNI := uni_of (List.mem_of_getElem? (i := 1163) (by decide +kernel)) (by decide +kernel)
theorem li_0 : Cond.instantiable (fCs 0) (ntab 0) ∈ UNI ∧ Cond.initialized (fCs 0) ∈ UNI := ⟨uni_of (List.mem_of_getElem? (i := 212) (by decide +kernel)) (by decide +kernel), uni_of (List.mem_of_getElem? (i := 7) (by decide +kernel)) (by decide +kernel)⟩
theorem li_1 : Cond.instantiable (fCs 1) (ntab 1) ∈ UNI ∧ Cond.initialized (fCs 1) ∈ UNI := ⟨uni_of (List.mem_of_getElem? (i := 411) (by decide +kernel)) (by decide +kernel), uni_of (List.mem_of_getElem? (i := 11) (by decide +kernel)) (by decide +kernel)⟩
theorem li_2 : Cond.instantiable (fCs 2) (ntab 2) ∈ UNI ∧ Cond.initialized (fCs 2) ∈ UNI := ⟨uni_of (List.mem_of_getElem? (i := 71) (by decide +kernel)) (by decide +kernel), uni_of (List.mem_of_getElem? (i := 4) (by decide +kernel)) (by decide +kernel)⟩
theorem li_3 : Cond.instantiable (fCs 3) (ntab 3) ∈ UNI ∧ Cond.initialized (fCs 3) ∈ UNI := ⟨uni_of (List.mem_of_getElem? (i := 64) (by decide +kernel)) (by decide +kernel), uni_of (List.mem_of_getElem? (i := 3) (by decide +kernel)) (by decide +kernel)⟩
theorem li_4 : Cond.instantiable (fCs 4) (ntab 4) ∈ UNI ∧ Cond.initialized (fCs 4) ∈ UNI := ⟨uni_of (List.mem_of_getElem? (i := 322) (by decide +kernel)) (by decide +kernel), uni_of (List.mem_of_getElem? (i := 9) (by decide +kernel)) (by decide +kernel)⟩
theorem li_5 : Cond.instantiable (fCs 5) (ntab 5) ∈ UNI ∧ Cond.initialized (fCs 5) ∈ UNI := ⟨uni_of (List.mem_of_getElem? (i := 218) (by decide +kernel)) (by decide +kernel), uni_of (List.mem_of_getElem? (i := 8) (by decide +kernel)) (by decide +kernel)⟩
theorem li_6 : Cond.instantiable (fCs 6) (ntab 6) ∈ UNI ∧ Cond.initialized (fCs 6) ∈ UNI := ⟨uni_of (List.mem_of_getElem? (i := 175) (by decide +kernel)) (by decide +kernel), uni_of (List.mem_of_getElem? (i := 6) (by decide +kernel)) (by decide +kernel)⟩
theorem li_7 : Cond.instantiable (fCs 7) (ntab 7) ∈ UNI ∧ Cond.initialized (fCs 7) ∈ UNI := ⟨uni_of (List.mem_of_getElem? (i := 168) (by decide +kernel)) (by decide +kernel), uni_of (List.mem_of_getElem? (i := 5) (by decide +kernel)) (by decide +kernel)⟩
theorem li_8 : Cond.instantiable (fCs 8) (ntab 8) ∈ UNI ∧ Cond.initialized (fCs 8) ∈ UNI := ⟨uni_of (List.mem_of_getElem? (i := 328) (by decide +kernel)) (by decide +kernel), uni_of (List.mem_of_getElem? (i := 10) (by decide +kernel)) (by decide +kernel)⟩
theorem li_9 : Cond.instantiable (fCs 9) (ntab 9) ∈ UNI ∧ Cond.initialized (fCs 9) ∈ UNI := ⟨uni_of (List.mem_of_getElem? (i := 34) (by decide +kernel)) (by decide +kernel), uni_of (List.mem_of_getElem? (i := 2) (by decide +kernel)) (by decide +kernel)⟩
theorem li_10 : Cond.instantiable (fCs 10) (ntab 10) ∈ UNI ∧ Cond.initialized (fCs 10) ∈ UNI := ⟨uni_of (List.mem_of_getElem? (i := 26) (by decide +kernel)) (by decide +kernel), uni_of (List.mem_of_getElem? (i := 1) (by decide +kernel)) (by decide +kernel)⟩
theorem li_11 : Cond.instantiable (fCs 11) (ntab 11) ∈ UNI ∧ Cond.initialized (fCs 11) ∈ UNI := ⟨uni_of (List.mem_of_getElem? (i := 1159) (by decide +kernel)) (by decide +kernel), uni_of (List.mem_of_getElem? (i := 12) (by decide +kernel)) (by decide +kernel)⟩
theorem lar_char : Cond.arrayClass .char ∈ UNI := uni_of (List.mem_of_getElem? (i := 61) (by decide +kernel)) (by decide +kernel)
theorem lar_int : Cond.arrayClass .int ∈ UNI := uni_of (List.mem_of_getElem? (i := 62) (by decide +kernel)) (by decide +kernel)
theorem lar_long : Cond.arrayClass .long ∈ UNI := uni_of (List.mem_of_getElem? (i := 448) (by decide +kernel)) (by decide +kernel)
theorem lar_boolean : Cond.arrayClass .boolean ∈ UNI := uni_of (List.mem_of_getElem? (i := 447) (by decide +kernel)) (by decide +kernel)
theorem lar_double : Cond.arrayClass .double ∈ UNI := uni_of (List.mem_of_getElem? (i := 1658) (by decide +kernel)) (by decide +kernel)
theorem AL_adr {n j o : Nat} (h : lay n = (j, o)) (hn : n < NT) : adr j o = n := by
  have := (adr_lay n hn).1
  rwa [h] at this
theorem dft : ∀ j, j < 12 → ∀ q, q < ntab j → defaultValue (fTy j q) = (match ftab j q with
  | 0 => Value.int 0
  | 1 => Value.long 0
  | _ => Value.null) := by decide +kernel
theorem fv_zer {b : Nat} {h : Hp} {j o q : Nat} : fv b (zer h j o) j o q = (match ftab j q with
  | 0 => Value.int 0
  | 1 => Value.long 0
  | _ => Value.null) := by
  unfold fv
  have e1 : gI (zer h j o) j o q = 0 := by simp [gI, zer]
  have e2 : gJ (zer h j o) j o q = 0 := by simp [gJ, zer]
  have e3 : gR (zer h j o) j o q = 0 := by simp [gR, zer]
  rw [e1, e2, e3]
  generalize ftab j q = t
  match t with
  | 0 => rfl
  | 1 => rfl
  | t + 2 => rfl
abbrev GC (X : Ctx) (n0 n : Nat) (h : Hp) (L : List (Option Value)) (pc : Nat) (st : List Value) : Prop := GG X (n - n0) (240 * (n - n0)) n h L pc st
section News
variable {X : Ctx} {cc : ByteArray} {own : String} {nL fr lo mc ms n n0 pc : Nat} {h : Hp} {L : List (Option Value)} {st : List Value} {i : Nat}
theorem r_objInit (E : EE X cc own nL fr lo mc ms) {k z j o : Nat} (hl0 : Cond.methodLink own i Lib.objectInit ∈ UNI) (hLn : L.length = nL) (hfr0 : 1 ≤ fr) (hlo0 : (st.map fun v => v.category).sum + 12 ≤ lo) (hd : decode cc pc = .ok (.invokespecial i, 3)) (kk : GG X k z n h L (pc + 3) st) : GG X k z n h L pc (rf X j o :: st) := by
  obtain ⟨p, l, e, R, s, m, args, below, meth, c, Q, D, cy, b⟩ := X
  obtain ⟨hx, hb, hml, hown, hts, hK, hfr, hlo, hmc, hms, hlk, hbs, hZ1, hZ2, hst, hstr⟩ := E
  intro H locs ls hR hS hl
  exact W.objInit hx hb hown (hts _ hl0) (hts _ lo_code.1) (hts _ lo_code.2) rfl ((hl.1.trans hLn).trans hml.symm) rfl hd (Nat.le_trans hfr0 hfr) (Nat.le_trans (by show 2 * 0 + _ + 12 ≤ _; omega) hlo) (kk H locs ls hR hS hl)
theorem r_new (E : EE X cc own nL fr lo mc ms) {j o : Nat} (hc : Cond.classLink own i (fCs j) ∈ UNI) (hi : Cond.instantiable (fCs j) (ntab j) ∈ UNI ∧ Cond.initialized (fCs j) ∈ UNI) (hj : j < 12) (hsm : ntab j ≤ 240) (hlay : lay n = (j, o)) (hn0 : n0 ≤ n) (hnt0 : n + 1 < NT) (hmc0 : n + 1 - n0 ≤ mc) (hms0 : 240 * (n + 1 - n0) ≤ ms) (hd : decode cc pc = .ok (.new i, 3)) (kk : GC X n0 (n + 1) (zer h j o) L (pc + 3) (rf X j o :: st)) : GC X n0 n h L pc st := by
  have hmc1 : n - n0 + 1 ≤ mc := by omega
  have hms1 : 240 * (n - n0) + ntab j ≤ ms := by omega
  have kk' : GG X (n - n0 + 1) (240 * (n - n0) + ntab j) (n + 1) (zer h j o) L (pc + 3) (rf X j o :: st) := GG_wid (by omega) (by omega) kk
  obtain ⟨p, l, e, R, s, m, args, below, meth, c, Q, D, cy, b⟩ := X
  obtain ⟨hx, hb, hml, hown, hts, hK, hfr, hlo, hmc, hms, hlk, hbs, hZ1, hZ2, hst, hstr⟩ := E
  intro H locs ls hR hS hl
  obtain ⟨hP, hz, hSt, hnt⟩ := hR
  have hsz : H.size = b + n := hz (by omega)
  have had : adr j o = n := AL_adr hlay (by omega)
  have hKn := hK.1 j _ (kCl_at hj)
  refine W.newcK hx hb hown (hts _ hc) (hts _ hi.1) (hts _ hi.2) rfl hd (Nat.le_trans hmc1 hmc) (Nat.le_trans hms1 hms) hKn.2.1 hsz fun H1 kC hkC e1 z1 o1 => ?_
  have hpush : wl b cy (n + 1) (zer h j o) = wl b cy n h ++ [(b + n, cellE b cy (zer h j o) j o)] := by
    have := wl_push (b := b) (cy := cy) (h := h) (h' := zer h j o) (n := n) (by omega) (by rw [hlay]; exact cell_zer)
    rw [hlay] at this
    exact this
  have hP1 : va_P D kCl (wl b cy (n + 1) (zer h j o)) H1 := by
    rw [hpush, cell_o (kt0 j hj)]
    refine (hP.kept fun q x hq => o1 x.1 (by rw [← hsz]; exact (hP q x hq).lt)).app (fun q x hx9 => ?_)
    have hz9 : q < 1 := (List.getElem?_eq_some_iff.mp hx9).1
    rw [show q = 0 by omega] at hx9
    cases hx9
    refine ⟨_, kCl_at hj, (u_born (fTy j) hts (hin_all j hj) hKn hkC e1 (ty_all j hj)).to fun q hq => ?_⟩
    show defaultValue (fTy j q) = vp_V _ q
    rw [dft j hj q hq, vp_V, List.getD_eq_getElem?_getD, fvl hq, fv_zer]
    rfl
  have := kk' H1 locs ls ⟨hP1, fun _ => by rw [z1]; omega, fun w => absurd w (Nat.ne_of_lt hnt0), by omega⟩ ⟨Nat.le_trans hS.1 (by rw [z1, hsz]; omega), fun x h1 h2 => (o1 x (by rw [← hsz]; exact Nat.lt_of_lt_of_le h1 hS.1)).trans (hS.2.1 x h1 h2), hS.2.2⟩ hl
  have hrf : rf (p, l, e, R, s, m, args, below, meth, c, Q, D, cy, b) j o = .ref (b + n) := by
    show Value.ref (b + adr j o) = _
    rw [had]
  rw [hrf] at this
  exact this
theorem r_newa_int (E : EE X cc own nL fr lo mc ms) {j o N : Nat} {v : Int32} (ha : ktab j = 1) (ht : atab j = 1) (hN : ntab j = N) (hv : ¬ v < 0) (hv2 : v.toNatClampNeg = N) (hsm : N ≤ 240) (hlay : lay n = (j, o)) (hn0 : n0 ≤ n) (hnt0 : n + 1 < NT ∨ (n + 1 = NT ∧ St (zer h j o))) (hmc0 : n + 1 - n0 ≤ mc) (hms0 : 240 * (n + 1 - n0) ≤ ms) (hd : decode cc pc = .ok (.newarray .int, 2)) (kk : GC X n0 (n + 1) (zer h j o) L (pc + 2) (rf X j o :: st)) : GC X n0 n h L pc (.int v :: st) := by
  subst hN
  have hle : n + 1 ≤ NT := by rcases hnt0 with w | w <;> omega
  have hmc1 : n - n0 + 1 ≤ mc := by omega
  have hms1 : 240 * (n - n0) + ntab j ≤ ms := by omega
  have kk' : GG X (n - n0 + 1) (240 * (n - n0) + ntab j) (n + 1) (zer h j o) L (pc + 2) (rf X j o :: st) := GG_wid (by omega) (by omega) kk
  obtain ⟨p, l, e, R, s, m, args, below, meth, c, Q, D, cy, b⟩ := X
  obtain ⟨hx, hb, hml, hown, hts, hK, hfr, hlo, hmc, hms, hlk, hbs, hZ1, hZ2, hst, hstr⟩ := E
  intro H locs ls hR hS hl
  obtain ⟨hP, hz, hSt, hnt⟩ := hR
  have hsz : H.size = b + n := hz (by omega)
  have had : adr j o = n := AL_adr hlay (by omega)
  refine va_newaK hx hb (atype := .int) (hts _ lar_int) rfl hd rfl hv hv2 (Nat.le_trans (Nat.mul_le_mul_right _ hsm) (by decide)) (Nat.le_trans hmc1 hmc) (Nat.le_trans hms1 hms) hsz fun H1 cA e1 z1 o1 _ hfc => ?_
  have hcy : cy 1 = cA := Option.some.inj ((hK.2 1 _ (tys_at (Nat.le_of_ble_eq_true rfl))).2.symm.trans hfc)
  have hpush : wl b cy (n + 1) (zer h j o) = wl b cy n h ++ [(b + n, cellE b cy (zer h j o) j o)] := by
    have := wl_push (b := b) (cy := cy) (h := h) (h' := zer h j o) (n := n) (by omega) (by rw [hlay]; exact cell_zer)
    rw [hlay] at this
    exact this
  have hP1 : va_P D kCl (wl b cy (n + 1) (zer h j o)) H1 := by
    rw [hpush, cell_i ha, ht, hcy]
    refine (hP.kept fun q x hq => o1 x.1 (by rw [← hsz]; exact (hP q x hq).lt)).app (fun q x hx9 => ?_)
    have hz9 : q < 1 := (List.getElem?_eq_some_iff.mp hx9).1
    rw [show q = 0 by omega] at hx9
    cases hx9
    show H1[b + n]? = some (vp_cell _ _)
    rw [vp_cell_i, e1]
    have e0 : gI (zer h j o) j o = fun _ => 0 := by funext q; simp [gI, zer]
    rw [e0]
    rfl
  have := kk' H1 locs ls ⟨hP1, fun _ => by rw [z1]; omega, fun w => by rcases hnt0 with w2 | w2; exact absurd w (Nat.ne_of_lt w2); exact w2.2, by omega⟩ ⟨Nat.le_trans hS.1 (by rw [z1, hsz]; omega), fun x h1 h2 => (o1 x (by rw [← hsz]; exact Nat.lt_of_lt_of_le h1 hS.1)).trans (hS.2.1 x h1 h2), hS.2.2⟩ hl
  have hrf : rf (p, l, e, R, s, m, args, below, meth, c, Q, D, cy, b) j o = .ref (b + n) := by
    show Value.ref (b + adr j o) = _
    rw [had]
  rw [hrf] at this
  exact this
theorem r_newa_char (E : EE X cc own nL fr lo mc ms) {j o N : Nat} {v : Int32} (ha : ktab j = 1) (ht : atab j = 0) (hN : ntab j = N) (hv : ¬ v < 0) (hv2 : v.toNatClampNeg = N) (hsm : N ≤ 240) (hlay : lay n = (j, o)) (hn0 : n0 ≤ n) (hnt0 : n + 1 < NT ∨ (n + 1 = NT ∧ St (zer h j o))) (hmc0 : n + 1 - n0 ≤ mc) (hms0 : 240 * (n + 1 - n0) ≤ ms) (hd : decode cc pc = .ok (.newarray .char, 2)) (kk : GC X n0 (n + 1) (zer h j o) L (pc + 2) (rf X j o :: st)) : GC X n0 n h L pc (.int v :: st) := by
  subst hN
  have hle : n + 1 ≤ NT := by rcases hnt0 with w | w <;> omega
  have hmc1 : n - n0 + 1 ≤ mc := by omega
  have hms1 : 240 * (n - n0) + ntab j ≤ ms := by omega
  have kk' : GG X (n - n0 + 1) (240 * (n - n0) + ntab j) (n + 1) (zer h j o) L (pc + 2) (rf X j o :: st) := GG_wid (by omega) (by omega) kk
  obtain ⟨p, l, e, R, s, m, args, below, meth, c, Q, D, cy, b⟩ := X
  obtain ⟨hx, hb, hml, hown, hts, hK, hfr, hlo, hmc, hms, hlk, hbs, hZ1, hZ2, hst, hstr⟩ := E
  intro H locs ls hR hS hl
  obtain ⟨hP, hz, hSt, hnt⟩ := hR
  have hsz : H.size = b + n := hz (by omega)
  have had : adr j o = n := AL_adr hlay (by omega)
  refine va_newaK hx hb (atype := .char) (hts _ lar_char) rfl hd rfl hv hv2 (Nat.le_trans (Nat.mul_le_mul_right _ hsm) (by decide)) (Nat.le_trans hmc1 hmc) (Nat.le_trans hms1 hms) hsz fun H1 cA e1 z1 o1 _ hfc => ?_
  have hcy : cy 0 = cA := Option.some.inj ((hK.2 0 _ (tys_at (Nat.le_of_ble_eq_true rfl))).2.symm.trans hfc)
  have hpush : wl b cy (n + 1) (zer h j o) = wl b cy n h ++ [(b + n, cellE b cy (zer h j o) j o)] := by
    have := wl_push (b := b) (cy := cy) (h := h) (h' := zer h j o) (n := n) (by omega) (by rw [hlay]; exact cell_zer)
    rw [hlay] at this
    exact this
  have hP1 : va_P D kCl (wl b cy (n + 1) (zer h j o)) H1 := by
    rw [hpush, cell_i ha, ht, hcy]
    refine (hP.kept fun q x hq => o1 x.1 (by rw [← hsz]; exact (hP q x hq).lt)).app (fun q x hx9 => ?_)
    have hz9 : q < 1 := (List.getElem?_eq_some_iff.mp hx9).1
    rw [show q = 0 by omega] at hx9
    cases hx9
    show H1[b + n]? = some (vp_cell _ _)
    rw [vp_cell_i, e1]
    have e0 : gI (zer h j o) j o = fun _ => 0 := by funext q; simp [gI, zer]
    rw [e0]
    rfl
  have := kk' H1 locs ls ⟨hP1, fun _ => by rw [z1]; omega, fun w => by rcases hnt0 with w2 | w2; exact absurd w (Nat.ne_of_lt w2); exact w2.2, by omega⟩ ⟨Nat.le_trans hS.1 (by rw [z1, hsz]; omega), fun x h1 h2 => (o1 x (by rw [← hsz]; exact Nat.lt_of_lt_of_le h1 hS.1)).trans (hS.2.1 x h1 h2), hS.2.2⟩ hl
  have hrf : rf (p, l, e, R, s, m, args, below, meth, c, Q, D, cy, b) j o = .ref (b + n) := by
    show Value.ref (b + adr j o) = _
    rw [had]
  rw [hrf] at this
  exact this
theorem r_newa_boolean (E : EE X cc own nL fr lo mc ms) {j o N : Nat} {v : Int32} (ha : ktab j = 1) (ht : atab j = 3) (hN : ntab j = N) (hv : ¬ v < 0) (hv2 : v.toNatClampNeg = N) (hsm : N ≤ 240) (hlay : lay n = (j, o)) (hn0 : n0 ≤ n) (hnt0 : n + 1 < NT ∨ (n + 1 = NT ∧ St (zer h j o))) (hmc0 : n + 1 - n0 ≤ mc) (hms0 : 240 * (n + 1 - n0) ≤ ms) (hd : decode cc pc = .ok (.newarray .boolean, 2)) (kk : GC X n0 (n + 1) (zer h j o) L (pc + 2) (rf X j o :: st)) : GC X n0 n h L pc (.int v :: st) := by
  subst hN
  have hle : n + 1 ≤ NT := by rcases hnt0 with w | w <;> omega
  have hmc1 : n - n0 + 1 ≤ mc := by omega
  have hms1 : 240 * (n - n0) + ntab j ≤ ms := by omega
  have kk' : GG X (n - n0 + 1) (240 * (n - n0) + ntab j) (n + 1) (zer h j o) L (pc + 2) (rf X j o :: st) := GG_wid (by omega) (by omega) kk
  obtain ⟨p, l, e, R, s, m, args, below, meth, c, Q, D, cy, b⟩ := X
  obtain ⟨hx, hb, hml, hown, hts, hK, hfr, hlo, hmc, hms, hlk, hbs, hZ1, hZ2, hst, hstr⟩ := E
  intro H locs ls hR hS hl
  obtain ⟨hP, hz, hSt, hnt⟩ := hR
  have hsz : H.size = b + n := hz (by omega)
  have had : adr j o = n := AL_adr hlay (by omega)
  refine va_newaK hx hb (atype := .boolean) (hts _ lar_boolean) rfl hd rfl hv hv2 (Nat.le_trans (Nat.mul_le_mul_right _ hsm) (by decide)) (Nat.le_trans hmc1 hmc) (Nat.le_trans hms1 hms) hsz fun H1 cA e1 z1 o1 _ hfc => ?_
  have hcy : cy 3 = cA := Option.some.inj ((hK.2 3 _ (tys_at (Nat.le_of_ble_eq_true rfl))).2.symm.trans hfc)
  have hpush : wl b cy (n + 1) (zer h j o) = wl b cy n h ++ [(b + n, cellE b cy (zer h j o) j o)] := by
    have := wl_push (b := b) (cy := cy) (h := h) (h' := zer h j o) (n := n) (by omega) (by rw [hlay]; exact cell_zer)
    rw [hlay] at this
    exact this
  have hP1 : va_P D kCl (wl b cy (n + 1) (zer h j o)) H1 := by
    rw [hpush, cell_i ha, ht, hcy]
    refine (hP.kept fun q x hq => o1 x.1 (by rw [← hsz]; exact (hP q x hq).lt)).app (fun q x hx9 => ?_)
    have hz9 : q < 1 := (List.getElem?_eq_some_iff.mp hx9).1
    rw [show q = 0 by omega] at hx9
    cases hx9
    show H1[b + n]? = some (vp_cell _ _)
    rw [vp_cell_i, e1]
    have e0 : gI (zer h j o) j o = fun _ => 0 := by funext q; simp [gI, zer]
    rw [e0]
    rfl
  have := kk' H1 locs ls ⟨hP1, fun _ => by rw [z1]; omega, fun w => by rcases hnt0 with w2 | w2; exact absurd w (Nat.ne_of_lt w2); exact w2.2, by omega⟩ ⟨Nat.le_trans hS.1 (by rw [z1, hsz]; omega), fun x h1 h2 => (o1 x (by rw [← hsz]; exact Nat.lt_of_lt_of_le h1 hS.1)).trans (hS.2.1 x h1 h2), hS.2.2⟩ hl
  have hrf : rf (p, l, e, R, s, m, args, below, meth, c, Q, D, cy, b) j o = .ref (b + n) := by
    show Value.ref (b + adr j o) = _
    rw [had]
  rw [hrf] at this
  exact this
theorem r_newa_long (E : EE X cc own nL fr lo mc ms) {j o N : Nat} {v : Int32} (ha : ktab j = 2) (ht : atab j = 2) (hN : ntab j = N) (hv : ¬ v < 0) (hv2 : v.toNatClampNeg = N) (hsm : N ≤ 240) (hlay : lay n = (j, o)) (hn0 : n0 ≤ n) (hnt0 : n + 1 < NT ∨ (n + 1 = NT ∧ St (zer h j o))) (hmc0 : n + 1 - n0 ≤ mc) (hms0 : 240 * (n + 1 - n0) ≤ ms) (hd : decode cc pc = .ok (.newarray .long, 2)) (kk : GC X n0 (n + 1) (zer h j o) L (pc + 2) (rf X j o :: st)) : GC X n0 n h L pc (.int v :: st) := by
  subst hN
  have hle : n + 1 ≤ NT := by rcases hnt0 with w | w <;> omega
  have hmc1 : n - n0 + 1 ≤ mc := by omega
  have hms1 : 240 * (n - n0) + ntab j ≤ ms := by omega
  have kk' : GG X (n - n0 + 1) (240 * (n - n0) + ntab j) (n + 1) (zer h j o) L (pc + 2) (rf X j o :: st) := GG_wid (by omega) (by omega) kk
  obtain ⟨p, l, e, R, s, m, args, below, meth, c, Q, D, cy, b⟩ := X
  obtain ⟨hx, hb, hml, hown, hts, hK, hfr, hlo, hmc, hms, hlk, hbs, hZ1, hZ2, hst, hstr⟩ := E
  intro H locs ls hR hS hl
  obtain ⟨hP, hz, hSt, hnt⟩ := hR
  have hsz : H.size = b + n := hz (by omega)
  have had : adr j o = n := AL_adr hlay (by omega)
  refine va_newaK hx hb (atype := .long) (hts _ lar_long) rfl hd rfl hv hv2 (Nat.le_trans (Nat.mul_le_mul_right _ hsm) (by decide)) (Nat.le_trans hmc1 hmc) (Nat.le_trans hms1 hms) hsz fun H1 cA e1 z1 o1 _ hfc => ?_
  have hcy : cy 2 = cA := Option.some.inj ((hK.2 2 _ (tys_at (Nat.le_of_ble_eq_true rfl))).2.symm.trans hfc)
  have hpush : wl b cy (n + 1) (zer h j o) = wl b cy n h ++ [(b + n, cellE b cy (zer h j o) j o)] := by
    have := wl_push (b := b) (cy := cy) (h := h) (h' := zer h j o) (n := n) (by omega) (by rw [hlay]; exact cell_zer)
    rw [hlay] at this
    exact this
  have hP1 : va_P D kCl (wl b cy (n + 1) (zer h j o)) H1 := by
    rw [hpush, cell_l ha, ht, hcy]
    refine (hP.kept fun q x hq => o1 x.1 (by rw [← hsz]; exact (hP q x hq).lt)).app (fun q x hx9 => ?_)
    have hz9 : q < 1 := (List.getElem?_eq_some_iff.mp hx9).1
    rw [show q = 0 by omega] at hx9
    cases hx9
    show H1[b + n]? = some (vp_cell _ _)
    rw [vp_cell_l, e1]
    have e0 : gJ (zer h j o) j o = fun _ => 0 := by funext q; simp [gJ, zer]
    rw [e0]
    rfl
  have := kk' H1 locs ls ⟨hP1, fun _ => by rw [z1]; omega, fun w => by rcases hnt0 with w2 | w2; exact absurd w (Nat.ne_of_lt w2); exact w2.2, by omega⟩ ⟨Nat.le_trans hS.1 (by rw [z1, hsz]; omega), fun x h1 h2 => (o1 x (by rw [← hsz]; exact Nat.lt_of_lt_of_le h1 hS.1)).trans (hS.2.1 x h1 h2), hS.2.2⟩ hl
  have hrf : rf (p, l, e, R, s, m, args, below, meth, c, Q, D, cy, b) j o = .ref (b + n) := by
    show Value.ref (b + adr j o) = _
    rw [had]
  rw [hrf] at this
  exact this
theorem r_newa_double (E : EE X cc own nL fr lo mc ms) {j o N : Nat} {v : Int32} (ha : ktab j = 4) (ht : atab j = 7) (hN : ntab j = N) (hv : ¬ v < 0) (hv2 : v.toNatClampNeg = N) (hsm : N ≤ 240) (hlay : lay n = (j, o)) (hn0 : n0 ≤ n) (hnt0 : n + 1 < NT ∨ (n + 1 = NT ∧ St (zer h j o))) (hmc0 : n + 1 - n0 ≤ mc) (hms0 : 240 * (n + 1 - n0) ≤ ms) (hd : decode cc pc = .ok (.newarray .double, 2)) (kk : GC X n0 (n + 1) (zer h j o) L (pc + 2) (rf X j o :: st)) : GC X n0 n h L pc (.int v :: st) := by
  subst hN
  have hle : n + 1 ≤ NT := by rcases hnt0 with w | w <;> omega
  have hmc1 : n - n0 + 1 ≤ mc := by omega
  have hms1 : 240 * (n - n0) + ntab j ≤ ms := by omega
  have kk' : GG X (n - n0 + 1) (240 * (n - n0) + ntab j) (n + 1) (zer h j o) L (pc + 2) (rf X j o :: st) := GG_wid (by omega) (by omega) kk
  obtain ⟨p, l, e, R, s, m, args, below, meth, c, Q, D, cy, b⟩ := X
  obtain ⟨hx, hb, hml, hown, hts, hK, hfr, hlo, hmc, hms, hlk, hbs, hZ1, hZ2, hst, hstr⟩ := E
  intro H locs ls hR hS hl
  obtain ⟨hP, hz, hSt, hnt⟩ := hR
  have hsz : H.size = b + n := hz (by omega)
  have had : adr j o = n := AL_adr hlay (by omega)
  refine va_newaK hx hb (atype := .double) (hts _ lar_double) rfl hd rfl hv hv2 (Nat.le_trans (Nat.mul_le_mul_right _ hsm) (by decide)) (Nat.le_trans hmc1 hmc) (Nat.le_trans hms1 hms) hsz fun H1 cA e1 z1 o1 _ hfc => ?_
  have hcy : cy 7 = cA := Option.some.inj ((hK.2 7 _ (tys_at (Nat.le_of_ble_eq_true rfl))).2.symm.trans hfc)
  have hpush : wl b cy (n + 1) (zer h j o) = wl b cy n h ++ [(b + n, cellE b cy (zer h j o) j o)] := by
    have := wl_push (b := b) (cy := cy) (h := h) (h' := zer h j o) (n := n) (by omega) (by rw [hlay]; exact cell_zer)
    rw [hlay] at this
    exact this
  have hP1 : va_P D kCl (wl b cy (n + 1) (zer h j o)) H1 := by
    rw [hpush, cell_d ha, ht, hcy]
    refine (hP.kept fun q x hq => o1 x.1 (by rw [← hsz]; exact (hP q x hq).lt)).app (fun q x hx9 => ?_)
    have hz9 : q < 1 := (List.getElem?_eq_some_iff.mp hx9).1
    rw [show q = 0 by omega] at hx9
    cases hx9
    show H1[b + n]? = some (vp_cell _ _)
    rw [vp_cell_d, e1]
    have e0 : gD (zer h j o) j o = fun _ => 0 := by funext q; simp [gD, zer]
    rw [e0]
    rfl
  have := kk' H1 locs ls ⟨hP1, fun _ => by rw [z1]; omega, fun w => by rcases hnt0 with w2 | w2; exact absurd w (Nat.ne_of_lt w2); exact w2.2, by omega⟩ ⟨Nat.le_trans hS.1 (by rw [z1, hsz]; omega), fun x h1 h2 => (o1 x (by rw [← hsz]; exact Nat.lt_of_lt_of_le h1 hS.1)).trans (hS.2.1 x h1 h2), hS.2.2⟩ hl
  have hrf : rf (p, l, e, R, s, m, args, below, meth, c, Q, D, cy, b) j o = .ref (b + n) := by
    show Value.ref (b + adr j o) = _
    rw [had]
  rw [hrf] at this
  exact this
theorem r_newq_2 (E : EE X cc own nL fr lo mc ms) {j o N : Nat} {v : Int32} (hc : Cond.classLink own i RX2 ∈ UNI) (ha : ktab j = 3) (ht : atab j = 4) (hN : ntab j = N) (hv : ¬ v < 0) (hv2 : v.toNatClampNeg = N) (hsm : N ≤ 240) (hlay : lay n = (j, o)) (hn0 : n0 ≤ n) (hnt0 : n + 1 < NT) (hmc0 : n + 1 - n0 ≤ mc) (hms0 : 240 * (n + 1 - n0) ≤ ms) (hd : decode cc pc = .ok (.anewarray i, 3)) (kk : GC X n0 (n + 1) (zer h j o) L (pc + 3) (rf X j o :: st)) : GC X n0 n h L pc (.int v :: st) := by
  subst hN
  have hmc1 : n - n0 + 1 ≤ mc := by omega
  have hms1 : 240 * (n - n0) + v.toNatClampNeg ≤ ms := by omega
  have kk' : GG X (n - n0 + 1) (240 * (n - n0) + v.toNatClampNeg) (n + 1) (zer h j o) L (pc + 3) (rf X j o :: st) := GG_wid (by omega) (by omega) kk
  obtain ⟨p, l, e, R, s, m, args, below, meth, c, Q, D, cy, b⟩ := X
  obtain ⟨hx, hb, hml, hown, hts, hK, hfr, hlo, hmc, hms, hlk, hbs, hZ1, hZ2, hst, hstr⟩ := E
  intro H locs ls hR hS hl
  obtain ⟨hP, hz, hSt, hnt⟩ := hR
  have hsz : H.size = b + n := hz (by omega)
  have had : adr j o = n := AL_adr hlay (by omega)
  refine W.anew hx hb hown (hts _ hc) (va_AO.use hstr.2.2.1.1) rfl hd rfl hv (by omega) (Nat.le_trans hmc1 hmc) (Nat.le_trans hms1 hms) fun cA kA comp f1 f2 f3 f4 => ?_
  generalize hH1 : H.push ({ cls := cA, slots := Array.replicate v.toNatClampNeg .null, vm := .none } : Cell) = H1
  have z1 : H1.size = H.size + 1 := by rw [← hH1, Array.size_push]
  have e1 : H1[H.size]? = some (arrV cA v.toNatClampNeg (fun _ => .null)) := by rw [← hH1, Array.getElem?_push_size, ← arrV_new]
  have o1 : ∀ q : Nat, q < H.size → H1[q]? = H[q]? := fun q hq => by rw [← hH1, Array.getElem?_push, if_neg (Nat.ne_of_lt hq)]
  have hcy : cy 4 = cA := by
    obtain ⟨kA', comp', -, -, -, g4⟩ := (hK.2 4 _ (tys_at (Nat.le_of_ble_eq_true rfl))).2
    exact Option.some.inj (g4.symm.trans f1)
  have hpush : wl b cy (n + 1) (zer h j o) = wl b cy n h ++ [(b + n, cellE b cy (zer h j o) j o)] := by
    have := wl_push (b := b) (cy := cy) (h := h) (h' := zer h j o) (n := n) (by omega) (by rw [hlay]; exact cell_zer)
    rw [hlay] at this
    exact this
  have hP1 : va_P D kCl (wl b cy (n + 1) (zer h j o)) H1 := by
    rw [hpush, cell_q ha, ht, hcy]
    refine (hP.kept fun q x hq => o1 x.1 ((hP q x hq).lt)).app (fun q x hx9 => ?_)
    have hz9 : q < 1 := (List.getElem?_eq_some_iff.mp hx9).1
    rw [show q = 0 by omega] at hx9
    cases hx9
    show H1[b + n]? = some (vp_cell _ _)
    rw [vp_cell_q, ← hsz, e1, hv2]
    have e0 : (fun k : Nat => va_rf (ro b j 0 (gR (zer h j o) j o k))) = fun _ => Value.null := by funext q; simp [gR, zer, ro, va_rf]
    rw [e0]
  have := kk' H1 locs ls ⟨hP1, fun _ => by rw [z1]; omega, fun w => absurd w (Nat.ne_of_lt hnt0), by omega⟩ ⟨Nat.le_trans hS.1 (by rw [z1]; omega), fun x h1 h2 => (o1 x (Nat.lt_of_lt_of_le h1 hS.1)).trans (hS.2.1 x h1 h2), hS.2.2⟩ hl
  have hrf : rf (p, l, e, R, s, m, args, below, meth, c, Q, D, cy, b) j o = .ref H.size := by
    show Value.ref (b + adr j o) = _
    rw [had, hsz]
  rw [hrf] at this
  exact this
theorem r_newq_6 (E : EE X cc own nL fr lo mc ms) {j o N : Nat} {v : Int32} (hc : Cond.classLink own i RX6 ∈ UNI) (ha : ktab j = 3) (ht : atab j = 5) (hN : ntab j = N) (hv : ¬ v < 0) (hv2 : v.toNatClampNeg = N) (hsm : N ≤ 240) (hlay : lay n = (j, o)) (hn0 : n0 ≤ n) (hnt0 : n + 1 < NT) (hmc0 : n + 1 - n0 ≤ mc) (hms0 : 240 * (n + 1 - n0) ≤ ms) (hd : decode cc pc = .ok (.anewarray i, 3)) (kk : GC X n0 (n + 1) (zer h j o) L (pc + 3) (rf X j o :: st)) : GC X n0 n h L pc (.int v :: st) := by
  subst hN
  have hmc1 : n - n0 + 1 ≤ mc := by omega
  have hms1 : 240 * (n - n0) + v.toNatClampNeg ≤ ms := by omega
  have kk' : GG X (n - n0 + 1) (240 * (n - n0) + v.toNatClampNeg) (n + 1) (zer h j o) L (pc + 3) (rf X j o :: st) := GG_wid (by omega) (by omega) kk
  obtain ⟨p, l, e, R, s, m, args, below, meth, c, Q, D, cy, b⟩ := X
  obtain ⟨hx, hb, hml, hown, hts, hK, hfr, hlo, hmc, hms, hlk, hbs, hZ1, hZ2, hst, hstr⟩ := E
  intro H locs ls hR hS hl
  obtain ⟨hP, hz, hSt, hnt⟩ := hR
  have hsz : H.size = b + n := hz (by omega)
  have had : adr j o = n := AL_adr hlay (by omega)
  refine W.anew hx hb hown (hts _ hc) (va_AO.use hstr.2.2.1.2.1) rfl hd rfl hv (by omega) (Nat.le_trans hmc1 hmc) (Nat.le_trans hms1 hms) fun cA kA comp f1 f2 f3 f4 => ?_
  generalize hH1 : H.push ({ cls := cA, slots := Array.replicate v.toNatClampNeg .null, vm := .none } : Cell) = H1
  have z1 : H1.size = H.size + 1 := by rw [← hH1, Array.size_push]
  have e1 : H1[H.size]? = some (arrV cA v.toNatClampNeg (fun _ => .null)) := by rw [← hH1, Array.getElem?_push_size, ← arrV_new]
  have o1 : ∀ q : Nat, q < H.size → H1[q]? = H[q]? := fun q hq => by rw [← hH1, Array.getElem?_push, if_neg (Nat.ne_of_lt hq)]
  have hcy : cy 5 = cA := by
    obtain ⟨kA', comp', -, -, -, g4⟩ := (hK.2 5 _ (tys_at (Nat.le_of_ble_eq_true rfl))).2
    exact Option.some.inj (g4.symm.trans f1)
  have hpush : wl b cy (n + 1) (zer h j o) = wl b cy n h ++ [(b + n, cellE b cy (zer h j o) j o)] := by
    have := wl_push (b := b) (cy := cy) (h := h) (h' := zer h j o) (n := n) (by omega) (by rw [hlay]; exact cell_zer)
    rw [hlay] at this
    exact this
  have hP1 : va_P D kCl (wl b cy (n + 1) (zer h j o)) H1 := by
    rw [hpush, cell_q ha, ht, hcy]
    refine (hP.kept fun q x hq => o1 x.1 ((hP q x hq).lt)).app (fun q x hx9 => ?_)
    have hz9 : q < 1 := (List.getElem?_eq_some_iff.mp hx9).1
    rw [show q = 0 by omega] at hx9
    cases hx9
    show H1[b + n]? = some (vp_cell _ _)
    rw [vp_cell_q, ← hsz, e1, hv2]
    have e0 : (fun k : Nat => va_rf (ro b j 0 (gR (zer h j o) j o k))) = fun _ => Value.null := by funext q; simp [gR, zer, ro, va_rf]
    rw [e0]
  have := kk' H1 locs ls ⟨hP1, fun _ => by rw [z1]; omega, fun w => absurd w (Nat.ne_of_lt hnt0), by omega⟩ ⟨Nat.le_trans hS.1 (by rw [z1]; omega), fun x h1 h2 => (o1 x (Nat.lt_of_lt_of_le h1 hS.1)).trans (hS.2.1 x h1 h2), hS.2.2⟩ hl
  have hrf : rf (p, l, e, R, s, m, args, below, meth, c, Q, D, cy, b) j o = .ref H.size := by
    show Value.ref (b + adr j o) = _
    rw [had, hsz]
  rw [hrf] at this
  exact this
theorem r_newq_7 (E : EE X cc own nL fr lo mc ms) {j o N : Nat} {v : Int32} (hc : Cond.classLink own i RX7 ∈ UNI) (ha : ktab j = 3) (ht : atab j = 6) (hN : ntab j = N) (hv : ¬ v < 0) (hv2 : v.toNatClampNeg = N) (hsm : N ≤ 240) (hlay : lay n = (j, o)) (hn0 : n0 ≤ n) (hnt0 : n + 1 < NT) (hmc0 : n + 1 - n0 ≤ mc) (hms0 : 240 * (n + 1 - n0) ≤ ms) (hd : decode cc pc = .ok (.anewarray i, 3)) (kk : GC X n0 (n + 1) (zer h j o) L (pc + 3) (rf X j o :: st)) : GC X n0 n h L pc (.int v :: st) := by
  subst hN
  have hmc1 : n - n0 + 1 ≤ mc := by omega
  have hms1 : 240 * (n - n0) + v.toNatClampNeg ≤ ms := by omega
  have kk' : GG X (n - n0 + 1) (240 * (n - n0) + v.toNatClampNeg) (n + 1) (zer h j o) L (pc + 3) (rf X j o :: st) := GG_wid (by omega) (by omega) kk
  obtain ⟨p, l, e, R, s, m, args, below, meth, c, Q, D, cy, b⟩ := X
  obtain ⟨hx, hb, hml, hown, hts, hK, hfr, hlo, hmc, hms, hlk, hbs, hZ1, hZ2, hst, hstr⟩ := E
  intro H locs ls hR hS hl
  obtain ⟨hP, hz, hSt, hnt⟩ := hR
  have hsz : H.size = b + n := hz (by omega)
  have had : adr j o = n := AL_adr hlay (by omega)
  refine W.anew hx hb hown (hts _ hc) (va_AO.use hstr.2.2.1.2.2) rfl hd rfl hv (by omega) (Nat.le_trans hmc1 hmc) (Nat.le_trans hms1 hms) fun cA kA comp f1 f2 f3 f4 => ?_
  generalize hH1 : H.push ({ cls := cA, slots := Array.replicate v.toNatClampNeg .null, vm := .none } : Cell) = H1
  have z1 : H1.size = H.size + 1 := by rw [← hH1, Array.size_push]
  have e1 : H1[H.size]? = some (arrV cA v.toNatClampNeg (fun _ => .null)) := by rw [← hH1, Array.getElem?_push_size, ← arrV_new]
  have o1 : ∀ q : Nat, q < H.size → H1[q]? = H[q]? := fun q hq => by rw [← hH1, Array.getElem?_push, if_neg (Nat.ne_of_lt hq)]
  have hcy : cy 6 = cA := by
    obtain ⟨kA', comp', -, -, -, g4⟩ := (hK.2 6 _ (tys_at (Nat.le_of_ble_eq_true rfl))).2
    exact Option.some.inj (g4.symm.trans f1)
  have hpush : wl b cy (n + 1) (zer h j o) = wl b cy n h ++ [(b + n, cellE b cy (zer h j o) j o)] := by
    have := wl_push (b := b) (cy := cy) (h := h) (h' := zer h j o) (n := n) (by omega) (by rw [hlay]; exact cell_zer)
    rw [hlay] at this
    exact this
  have hP1 : va_P D kCl (wl b cy (n + 1) (zer h j o)) H1 := by
    rw [hpush, cell_q ha, ht, hcy]
    refine (hP.kept fun q x hq => o1 x.1 ((hP q x hq).lt)).app (fun q x hx9 => ?_)
    have hz9 : q < 1 := (List.getElem?_eq_some_iff.mp hx9).1
    rw [show q = 0 by omega] at hx9
    cases hx9
    show H1[b + n]? = some (vp_cell _ _)
    rw [vp_cell_q, ← hsz, e1, hv2]
    have e0 : (fun k : Nat => va_rf (ro b j 0 (gR (zer h j o) j o k))) = fun _ => Value.null := by funext q; simp [gR, zer, ro, va_rf]
    rw [e0]
  have := kk' H1 locs ls ⟨hP1, fun _ => by rw [z1]; omega, fun w => absurd w (Nat.ne_of_lt hnt0), by omega⟩ ⟨Nat.le_trans hS.1 (by rw [z1]; omega), fun x h1 h2 => (o1 x (Nat.lt_of_lt_of_le h1 hS.1)).trans (hS.2.1 x h1 h2), hS.2.2⟩ hl
  have hrf : rf (p, l, e, R, s, m, args, below, meth, c, Q, D, cy, b) j o = .ref H.size := by
    show Value.ref (b + adr j o) = _
    rw [had, hsz]
  rw [hrf] at this
  exact this
end News
set_option maxHeartbeats 1000000 in
theorem CV_of {l : Launch} {G : Gq} {y : MethodName} {cc : ByteArray} {maxL : Nat} {rm : Room} {n n' : Nat} {h : Hp} {av : Av} {post : Hp → Prop} {L0 : Ctx → List (Option Value)} {own : String} (hl : l.stackTraces = false) (hy : plainName y.cls = true) (how : y.cls = own) (hyn : y.name = "<init>") (hlen : ∀ X : Ctx, (entL (av (rf X))).length ≤ maxL) (hL0 : ∀ X : Ctx, ent maxL (av (rf X)) = L0 X)
    (body : ∀ X : Ctx, xL X = l → GX X = G → EE X cc own maxL rm.frames rm.locals rm.cells rm.slots → (xMe X).name = "<init>" → ENDv X cc post n' rm.cells rm.slots → GG X 0 0 n h (L0 X) 0 []) : MV l G y cc maxL none rm n n' h av post := by
  obtain ⟨D, cy, b⟩ := G
  refine Met.ofW (cc := cc) (maxL := maxL) (ret := none) hy rfl ?_
  intro p e s m args below meth c s₁ B hml hv
  obtain ⟨rfl, hR, hK, hZ1, hZ2, hbs, hstr⟩ := hv
  have hx := B.exec
  have hb := B.bytes
  have hr := B.returns
  have hts := atoms_spec (ws := wsU y cc maxL none) B.pre
  have hown : s.vm.findClass own = some m.cls := how ▸ findClass_of_methodNamed B.named
  have hlocks := B.notSynchronized
  rw [lg_entry_eq]
  have key := body (p, l, e, (headSpec (wsU y cc maxL none) rm).room, s, m, (av (rb b)).toArray, below, meth, c, MQ below (va_Qv post (qB (D, cy, b) n') (qA (D, cy, b))) (av (rb b)).toArray s rm.cells rm.slots (qA (D, cy, b)), D, cy, b) rfl rfl
    ⟨hx, hb, hml, hown, fun w hw => hts w (List.mem_cons_of_mem _ hw), hK, Nat.le_refl _, Nat.le_refl _, Nat.le_refl _, Nat.le_refl _, hlocks, hbs, hZ1, hZ2, hl, hstr⟩ ((name_of_methodNamed B.named B.method).1.trans hyn) ?_
  · rw [← hL0] at key
    exact key s.heap [] _ hR va_S.rf (ent_P (av (rb b)) (hlen (p, l, e, (headSpec (wsU y cc maxL none) rm).room, s, m, (av (rb b)).toArray, below, meth, c, MQ below (va_Qv post (qB (D, cy, b) n') (qA (D, cy, b))) (av (rb b)).toArray s rm.cells rm.slots (qA (D, cy, b)), D, cy, b)))
  · intro k z u L pc hk hz hd hpost H locs ls hRu hS hl1
    refine W.widen (k := rm.cells) (n := rm.slots) hk hz ?_
    refine W.vret hx hb hr (fun t ht hW => ⟨⟨u, rfl, hpost, ?_⟩, hS.F ht⟩) hS.2.2 hd
    exact Wld_of hRu hK hZ1 hZ2 hS hbs hstr ht hW.alike (StrOK_warm hW hstr)
