theorem wl_putI {b n : Nat} {cy : Nat → ClassId} {h : Hp} {j o q : Nat} {v : Int32} (hnt : n ≤ NT) (ho : o < nobj j) (hn : adr j o < n) (hj : j < 12) (hf : ftab j q = 0) : (wl b cy n h).set (adr j o) (b + adr j o, .inr (j, ((List.range (ntab j)).map (fv b h j o)).set q (.int v))) = wl b cy n (sI h j o q v) := by
  have e := fv_up (b := b) (h := h) (h' := sI h j o q v) (j := j) (o := o) (q := q) (fun i hi => gI_ne hi) (fun _ _ => rfl) (fun _ _ => rfl)
  rw [fv_I hf, gI_s] at e
  rw [e, ← cell_o (cy := cy) (kt0 j hj), wl_ext hnt ho hn cell_sI]
theorem wl_putJ {b n : Nat} {cy : Nat → ClassId} {h : Hp} {j o q : Nat} {v : Int64} (hnt : n ≤ NT) (ho : o < nobj j) (hn : adr j o < n) (hj : j < 12) (hf : ftab j q = 1) : (wl b cy n h).set (adr j o) (b + adr j o, .inr (j, ((List.range (ntab j)).map (fv b h j o)).set q (.long v))) = wl b cy n (sJ h j o q v) := by
  have e := fv_up (b := b) (h := h) (h' := sJ h j o q v) (j := j) (o := o) (q := q) (fun _ _ => rfl) (fun i hi => gJ_ne hi) (fun _ _ => rfl)
  rw [fv_J hf, gJ_s] at e
  rw [e, ← cell_o (cy := cy) (kt0 j hj), wl_ext hnt ho hn cell_sJ]
theorem wl_putR {b n : Nat} {cy : Nat → ClassId} {h : Hp} {j o q t j1 : Nat} (hnt : n ≤ NT) (ho : o < nobj j) (hn : adr j o < n) (hj : j < 12) (hf : ftab j q = 2) (hr : rtab j q = j1) : (wl b cy n h).set (adr j o) (b + adr j o, .inr (j, ((List.range (ntab j)).map (fv b h j o)).set q (.ref (b + adr j1 t)))) = wl b cy n (sR h j o q (t + 1)) := by
  have e := fv_up (b := b) (h := h) (h' := sR h j o q (t + 1)) (j := j) (o := o) (q := q) (fun _ _ => rfl) (fun _ _ => rfl) (fun i hi => gR_ne hi)
  rw [fv_R hf gR_s, hr] at e
  rw [e, ← cell_o (cy := cy) (kt0 j hj), wl_ext hnt ho hn cell_sR]
theorem wl_ai {b n : Nat} {cy : Nat → ClassId} {h : Hp} {j o q t : Nat} {v : Int32} (hnt : n ≤ NT) (ho : o < nobj j) (hn : adr j o < n) (ha : ktab j = 1) (ht : atab j = t) : (wl b cy n h).set (adr j o) (b + adr j o, .inl (cy t, ntab j, .inl (upd (gI h j o) q v))) = wl b cy n (sI h j o q v) := by
  have e : upd (gI h j o) q v = gI (sI h j o q v) j o := by
    funext i
    by_cases hq : i = q <;> simp [gI, sI, upd, up3, hq]
  rw [e, ← ht, ← cell_i (cy := cy) (b := b) ha, wl_ext hnt ho hn cell_sI]
theorem wl_al {b n : Nat} {cy : Nat → ClassId} {h : Hp} {j o q t : Nat} {v : Int64} (hnt : n ≤ NT) (ho : o < nobj j) (hn : adr j o < n) (ha : ktab j = 2) (ht : atab j = t) : (wl b cy n h).set (adr j o) (b + adr j o, .inl (cy t, ntab j, .inr (.inl (vp_updL (gJ h j o) q v)))) = wl b cy n (sJ h j o q v) := by
  have e : vp_updL (gJ h j o) q v = gJ (sJ h j o q v) j o := by
    funext i
    by_cases hq : i = q <;> simp [gJ, sJ, vp_updL, up3, hq]
  rw [e, ← ht, ← cell_l (cy := cy) (b := b) ha, wl_ext hnt ho hn cell_sJ]
theorem wl_ad {b n : Nat} {cy : Nat → ClassId} {h : Hp} {j o q t : Nat} {v : UInt64} (hnt : n ≤ NT) (ho : o < nobj j) (hn : adr j o < n) (ha : ktab j = 4) (ht : atab j = t) : (wl b cy n h).set (adr j o) (b + adr j o, .inl (cy t, ntab j, .inr (.inr (.inr (.inl (vf_upd (gD h j o) q v)))))) = wl b cy n (sD h j o q v) := by
  have e : vf_upd (gD h j o) q v = gD (sD h j o q v) j o := by
    funext i
    by_cases hq : i = q <;> simp [gD, sD, vf_upd, up3, hq]
  rw [e, ← ht, ← cell_d (cy := cy) (b := b) ha, wl_ext hnt ho hn cell_sD]
theorem wl_aq {b n : Nat} {cy : Nat → ClassId} {h : Hp} {j o q t j1 v : Nat} (hnt : n ≤ NT) (ho : o < nobj j) (hn : adr j o < n) (ha : ktab j = 3) (ht : atab j = t) (hr : rtab j 0 = j1) : (wl b cy n h).set (adr j o) (b + adr j o, .inl (cy t, ntab j, .inr (.inr (.inr (.inr (va_up (fun k => ro b j 0 (gR h j o k)) q (some (b + adr j1 v)))))))) = wl b cy n (sR h j o q (v + 1)) := by
  have e : va_up (fun k => ro b j 0 (gR h j o k)) q (some (b + adr j1 v)) = (fun k => ro b j 0 (gR (sR h j o q (v + 1)) j o k)) := by
    funext i
    by_cases hq : i = q
    · subst hq
      rw [gR_s]
      simp [va_up, ro, hr]
    · rw [gR_ne hq]
      simp [va_up, hq]
  rw [e, ← ht, ← cell_q (cy := cy) (b := b) ha, wl_ext hnt ho hn cell_sR]

section Rows2
variable {X : Ctx} {cc : ByteArray} {own : String} {nL fr lo mc ms k z n pc : Nat} {h : Hp} {L : List (Option Value)} {st : List Value}

theorem r_ldcw (E : EE X cc own nL fr lo mc ms) {i : Nat} (v : Int32) (hc : Cond.constant own i v ∈ UNI) (hd : decode cc pc = .ok (.ldc_w i, 3)) (kk : GG X k z n h L (pc + 3) (.int v :: st)) : GG X k z n h L pc st := by
  obtain ⟨p, l, e, R, s, m, args, below, meth, c, Q, D, cy, b⟩ := X
  obtain ⟨hx, hb, hml, hown, hts, -⟩ := E
  intro H locs ls hR hS hl
  exact lv_ldcw hx hb hown (hts _ hc) hd (kk H locs ls hR hS hl)
theorem r_getI (E : EE X cc own nL fr lo mc ms) {i j o q : Nat} (F : FD own i j q) (hf : ftab j q = 0) (ho : o < nobj j) (hn : adr j o < n) (hd : decode cc pc = .ok (.getfield i, 3)) (kk : GG X k z n h L (pc + 3) (.int (gI h j o q) :: st)) : GG X k z n h L pc (rf X j o :: st) := by
  obtain ⟨p, l, e, R, s, m, args, below, meth, c, Q, D, cy, b⟩ := X
  obtain ⟨hx, hb, hml, hown, hts, hK, hfr, hlo, hmc, hms, hlk, hbs, hZ1, hZ2, hst, hstr⟩ := E
  intro H locs ls hR hS hl
  obtain ⟨hP, hz, hSt, hnt⟩ := hR
  exact va_get (D := D) hx hb hts (hin_all j F.1) hown hK hP (adr j o) ((wl_get ho hn).trans (by rw [cell_o (kt0 j F.1)])) (kCl_at F.1) q F.2.1 (hts _ F.2.2) (fun _ h9 => h9) ((fvl F.2.1).trans (congrArg some (fv_I hf))) hd (kk H locs ls ⟨hP, hz, hSt, hnt⟩ hS hl)
theorem r_getJ (E : EE X cc own nL fr lo mc ms) {i j o q : Nat} (F : FD own i j q) (hf : ftab j q = 1) (ho : o < nobj j) (hn : adr j o < n) (hd : decode cc pc = .ok (.getfield i, 3)) (kk : GG X k z n h L (pc + 3) (.long (gJ h j o q) :: st)) : GG X k z n h L pc (rf X j o :: st) := by
  obtain ⟨p, l, e, R, s, m, args, below, meth, c, Q, D, cy, b⟩ := X
  obtain ⟨hx, hb, hml, hown, hts, hK, hfr, hlo, hmc, hms, hlk, hbs, hZ1, hZ2, hst, hstr⟩ := E
  intro H locs ls hR hS hl
  obtain ⟨hP, hz, hSt, hnt⟩ := hR
  exact va_get (D := D) hx hb hts (hin_all j F.1) hown hK hP (adr j o) ((wl_get ho hn).trans (by rw [cell_o (kt0 j F.1)])) (kCl_at F.1) q F.2.1 (hts _ F.2.2) (fun _ h9 => h9) ((fvl F.2.1).trans (congrArg some (fv_J hf))) hd (kk H locs ls ⟨hP, hz, hSt, hnt⟩ hS hl)
theorem r_getS (E : EE X cc own nL fr lo mc ms) {i j o q : Nat} (F : FD own i j q) {t j1 : Nat} (hN : n = NT) (hf : ftab j q = 2) (hs : srf j o q = t + 1) (hr : rtab j q = j1) (ho : o < nobj j) (hn : adr j o < n) (hd : decode cc pc = .ok (.getfield i, 3)) (kk : GG X k z n h L (pc + 3) (rf X j1 t :: st)) : GG X k z n h L pc (rf X j o :: st) := by
  obtain ⟨p, l, e, R, s, m, args, below, meth, c, Q, D, cy, b⟩ := X
  obtain ⟨hx, hb, hml, hown, hts, hK, hfr, hlo, hmc, hms, hlk, hbs, hZ1, hZ2, hst, hstr⟩ := E
  intro H locs ls hR hS hl
  obtain ⟨hP, hz, hSt, hnt⟩ := hR
  exact va_get (D := D) hx hb hts (hin_all j F.1) hown hK hP (adr j o) ((wl_get ho hn).trans (by rw [cell_o (kt0 j F.1)])) (kCl_at F.1) q F.2.1 (hts _ F.2.2) (fun _ h9 => h9) ((fvl F.2.1).trans (congrArg some ((fv_R hf ((hSt hN j o q ho F.2.1 (by rw [hs]; exact Nat.succ_ne_zero _)).trans hs)).trans (by rw [hr]; rfl)))) hd (kk H locs ls ⟨hP, hz, hSt, hnt⟩ hS hl)
theorem r_getSN (E : EE X cc own nL fr lo mc ms) {i j o q : Nat} (F : FN own i j q) {t j1 : Nat} (hN : n = NT) (hf : ftab j q = 2) (hs : srf j o q = t + 1) (hr : rtab j q = j1) (ho : o < nobj j) (hn : adr j o < n) (hd : decode cc pc = .ok (.getfield i, 3)) (kk : GG X k z n h L (pc + 3) (rf X j1 t :: st)) : GG X k z n h L pc (rf X j o :: st) := by
  obtain ⟨p, l, e, R, s, m, args, below, meth, c, Q, D, cy, b⟩ := X
  obtain ⟨hx, hb, hml, hown, hts, hK, hfr, hlo, hmc, hms, hlk, hbs, hZ1, hZ2, hst, hstr⟩ := E
  intro H locs ls hR hS hl
  obtain ⟨hP, hz, hSt, hnt⟩ := hR
  exact va_getN (D := D) hx hb hts (hin_all j F.1) hown hK hP (adr j o) ((wl_get ho hn).trans (by rw [cell_o (kt0 j F.1)])) (kCl_at F.1) q F.2.1 (va_Nw.use rfl (hstr.2.1 _ F.2.2)) (fun _ h9 => h9) ((fvl F.2.1).trans (congrArg some ((fv_R hf ((hSt hN j o q ho F.2.1 (by rw [hs]; exact Nat.succ_ne_zero _)).trans hs)).trans (by rw [hr]; rfl)))) hd (kk H locs ls ⟨hP, hz, hSt, hnt⟩ hS hl)
theorem r_getR (E : EE X cc own nL fr lo mc ms) {i j o q : Nat} (F : FD own i j q) {t j1 : Nat} (hf : ftab j q = 2) (hv : gR h j o q = t + 1) (hr : rtab j q = j1) (ho : o < nobj j) (hn : adr j o < n) (hd : decode cc pc = .ok (.getfield i, 3)) (kk : GG X k z n h L (pc + 3) (rf X j1 t :: st)) : GG X k z n h L pc (rf X j o :: st) := by
  obtain ⟨p, l, e, R, s, m, args, below, meth, c, Q, D, cy, b⟩ := X
  obtain ⟨hx, hb, hml, hown, hts, hK, hfr, hlo, hmc, hms, hlk, hbs, hZ1, hZ2, hst, hstr⟩ := E
  intro H locs ls hR hS hl
  obtain ⟨hP, hz, hSt, hnt⟩ := hR
  exact va_get (D := D) hx hb hts (hin_all j F.1) hown hK hP (adr j o) ((wl_get ho hn).trans (by rw [cell_o (kt0 j F.1)])) (kCl_at F.1) q F.2.1 (hts _ F.2.2) (fun _ h9 => h9) ((fvl F.2.1).trans (congrArg some ((fv_R hf hv).trans (by rw [hr]; rfl)))) hd (kk H locs ls ⟨hP, hz, hSt, hnt⟩ hS hl)
/-- a value that a field of a small type takes -/
def isB (v : Int32) : Prop := v = 0 ∨ v = 1
theorem isB_nar {v : Int32} (h : isB v) : narrow .boolean (.int v) = .int v := by rcases h with h | h <;> subst h <;> rfl
theorem isB_fit {v : Int32} (h : isB v) : fits .boolean (.int v) = true := by rcases h with h | h <;> subst h <;> rfl
theorem isB_ite {c : Prop} [Decidable c] : isB (if c then 1 else 0) := by by_cases h : c <;> simp [h, isB]
theorem isB_iten {c : Prop} [Decidable c] : isB (if c then 0 else 1) := by by_cases h : c <;> simp [h, isB]
theorem isB_0 : isB 0 := Or.inl rfl
theorem isB_1 : isB 1 := Or.inr rfl
/-- a char -/
def isC (v : Int32) : Prop := narrow .char (.int v) = .int v ∧ fits .char (.int v) = true
def PIq (ty : FieldType) (v : Int32) : Prop := narrow ty (.int v) = .int v ∧ fits ty (.int v) = true
theorem PI_int {v : Int32} : PIq .int v := ⟨rfl, rfl⟩
theorem PI_z {v : Int32} (h : isB v) : PIq .boolean v := ⟨isB_nar h, isB_fit h⟩
theorem PI_c {v : Int32} (h : isC v) : PIq .char v := h
theorem StI {h : Hp} {j o q : Nat} {v : Int32} (hs : St h) : St (sI h j o q v) := hs
theorem StJ {h : Hp} {j o q : Nat} {v : Int64} (hs : St h) : St (sJ h j o q v) := hs
theorem StD {h : Hp} {j o q : Nat} {v : UInt64} (hs : St h) : St (sD h j o q v) := hs
theorem StR {h : Hp} {j o q : Nat} {v : Nat} (h0 : srf j o q = 0) (hs : St h) : St (sR h j o q v) := by
  intro j' o' q' ho hk hne
  rw [← hs j' o' q' ho hk hne]
  exact up3_ne (fun e => hne (by rw [e.1, e.2.1, e.2.2]; exact h0))
theorem r_putI (E : EE X cc own nL fr lo mc ms) {i j o q : Nat} {v : Int32} (F : FD own i j q) (hf : ftab j q = 0) (hp : PIq (fTy j q) v) (ho : o < nobj j) (hn : adr j o < n) (hfin : (fT j q).2.2.2 = false) (hd : decode cc pc = .ok (.putfield i, 3)) (kk : GG X k z n (sI h j o q v) L (pc + 3) st) : GG X k z n h L pc (.int v :: rf X j o :: st) := by
  obtain ⟨p, l, e, R, s, m, args, below, meth, c, Q, D, cy, b⟩ := X
  obtain ⟨hx, hb, hml, hown, hts, hK, hfr, hlo, hmc, hms, hlk, hbs, hZ1, hZ2, hst, hstr⟩ := E
  intro H locs ls hR hS hl
  obtain ⟨hP, hz, hSt, hnt⟩ := hR
  refine wa_put (D := D) hx hb hts (hin_all j F.1) (fTy j) (ty_all j F.1) (nm_all j F.1) hown hK hP wl_D hS (adr j o) ((wl_get ho hn).trans (by rw [cell_o (kt0 j F.1)])) (kCl_at F.1) q F.2.1 (hts _ F.2.2) (fun _ h9 => h9) hfin (ty_all j F.1 q F.2.1) hp.1 hp.2 (by rw [List.length_map, List.length_range]; exact F.2.1) hd (fun H1 locs1 hP1 _ hS1 hsz => kk H1 locs1 ls ⟨?_, fun w => hsz.trans (hz w), fun w => StI (hSt w), hnt⟩ hS1 hl)
  exact (wl_putI (b := b) (cy := cy) hnt ho hn F.1 hf) ▸ hP1
theorem r_putJ (E : EE X cc own nL fr lo mc ms) {i j o q : Nat} {v : Int64} (F : FD own i j q) (hf : ftab j q = 1) (ht : fTy j q = .long) (ho : o < nobj j) (hn : adr j o < n) (hfin : (fT j q).2.2.2 = false) (hd : decode cc pc = .ok (.putfield i, 3)) (kk : GG X k z n (sJ h j o q v) L (pc + 3) st) : GG X k z n h L pc (.long v :: rf X j o :: st) := by
  obtain ⟨p, l, e, R, s, m, args, below, meth, c, Q, D, cy, b⟩ := X
  obtain ⟨hx, hb, hml, hown, hts, hK, hfr, hlo, hmc, hms, hlk, hbs, hZ1, hZ2, hst, hstr⟩ := E
  intro H locs ls hR hS hl
  obtain ⟨hP, hz, hSt, hnt⟩ := hR
  refine wa_put (D := D) hx hb hts (hin_all j F.1) (fTy j) (ty_all j F.1) (nm_all j F.1) hown hK hP wl_D hS (adr j o) ((wl_get ho hn).trans (by rw [cell_o (kt0 j F.1)])) (kCl_at F.1) q F.2.1 (hts _ F.2.2) (fun _ h9 => h9) hfin (ty_all j F.1 q F.2.1) (by rw [ht]; rfl) (by rw [ht]; rfl) (by rw [List.length_map, List.length_range]; exact F.2.1) hd (fun H1 locs1 hP1 _ hS1 hsz => kk H1 locs1 ls ⟨?_, fun w => hsz.trans (hz w), fun w => StJ (hSt w), hnt⟩ hS1 hl)
  exact (wl_putJ (b := b) (cy := cy) hnt ho hn F.1 hf) ▸ hP1
theorem r_putR (E : EE X cc own nL fr lo mc ms) {i j o q : Nat} {t j1 : Nat} (F : FD own i j q) (hf : ftab j q = 2) (hr : rtab j q = j1) (hty : narrow (fTy j q) (rf X j1 t) = rf X j1 t ∧ fits (fTy j q) (rf X j1 t) = true) (h0 : srf j o q = 0) (ho : o < nobj j) (hn : adr j o < n) (hfin : (fT j q).2.2.2 = false) (hd : decode cc pc = .ok (.putfield i, 3)) (kk : GG X k z n (sR h j o q (t + 1)) L (pc + 3) st) : GG X k z n h L pc (rf X j1 t :: rf X j o :: st) := by
  obtain ⟨p, l, e, R, s, m, args, below, meth, c, Q, D, cy, b⟩ := X
  obtain ⟨hx, hb, hml, hown, hts, hK, hfr, hlo, hmc, hms, hlk, hbs, hZ1, hZ2, hst, hstr⟩ := E
  intro H locs ls hR hS hl
  obtain ⟨hP, hz, hSt, hnt⟩ := hR
  refine wa_put (D := D) hx hb hts (hin_all j F.1) (fTy j) (ty_all j F.1) (nm_all j F.1) hown hK hP wl_D hS (adr j o) ((wl_get ho hn).trans (by rw [cell_o (kt0 j F.1)])) (kCl_at F.1) q F.2.1 (hts _ F.2.2) (fun _ h9 => h9) hfin (ty_all j F.1 q F.2.1) hty.1 hty.2 (by rw [List.length_map, List.length_range]; exact F.2.1) hd (fun H1 locs1 hP1 _ hS1 hsz => kk H1 locs1 ls ⟨?_, fun w => hsz.trans (hz w), fun w => StR h0 (hSt w), hnt⟩ hS1 hl)
  exact (wl_putR (b := b) (cy := cy) (t := t) hnt ho hn F.1 hf hr) ▸ hP1
theorem r_putRF (E : EE X cc own nL fr lo mc ms) {i j o q : Nat} {t j1 : Nat} (F : FD own i j q) (hf : ftab j q = 2) (hr : rtab j q = j1) (hty : narrow (fTy j q) (rf X j1 t) = rf X j1 t ∧ fits (fTy j q) (rf X j1 t) = true) (hN : n < NT) (hin2 : (xMe X).name = "<init>") (hdc : (fT j q).1 = own) (ho : o < nobj j) (hn : adr j o < n) (hfin : (fT j q).2.2.2 = true) (hd : decode cc pc = .ok (.putfield i, 3)) (kk : GG X k z n (sR h j o q (t + 1)) L (pc + 3) st) : GG X k z n h L pc (rf X j1 t :: rf X j o :: st) := by
  obtain ⟨p, l, e, R, s, m, args, below, meth, c, Q, D, cy, b⟩ := X
  obtain ⟨hx, hb, hml, hown, hts, hK, hfr, hlo, hmc, hms, hlk, hbs, hZ1, hZ2, hst, hstr⟩ := E
  intro H locs ls hR hS hl
  obtain ⟨hP, hz, hSt, hnt⟩ := hR
  refine wa_putF (D := D) hx hb hts (hin_all j F.1) (fTy j) (ty_all j F.1) (nm_all j F.1) hown hK hP wl_D hS (adr j o) ((wl_get ho hn).trans (by rw [cell_o (kt0 j F.1)])) (kCl_at F.1) q F.2.1 (hts _ F.2.2) (fun _ h9 => h9) hfin hin2 hdc (ty_all j F.1 q F.2.1) hty.1 hty.2 (by rw [List.length_map, List.length_range]; exact F.2.1) hd (fun H1 locs1 hP1 _ hS1 hsz => kk H1 locs1 ls ⟨?_, fun w => hsz.trans (hz w), fun w => absurd w (Nat.ne_of_lt hN), hnt⟩ hS1 hl)
  exact (wl_putR (b := b) (cy := cy) (t := t) hnt ho hn F.1 hf hr) ▸ hP1
theorem ro_eq {b j r t : Nat} (h : r = t + 1) : va_rf (ro b j 0 r) = .ref (b + adr (rtab j 0) t) := by rw [h]; rfl
theorem r_iald (E : EE X cc own nL fr lo mc ms) {j o N : Nat} {i : Int32} (ha : ktab j = 1) (ht : atab j = 1) (hN : ntab j = N) (ho : o < nobj j) (hn : adr j o < n) (hin : vp_in i N) (hd : decode cc pc = .ok (.iaload, 1)) (kk : GG X k z n h L (pc + 1) (.int (gI h j o i.toNatClampNeg) :: st)) : GG X k z n h L pc (.int i :: rf X j o :: st) := by
  obtain ⟨p, l, e, R, s, m, args, below, meth, c, Q, D, cy, b⟩ := X
  obtain ⟨hx, hb, hml, hown, hts, hK, hfr, hlo, hmc, hms, hlk, hbs, hZ1, hZ2, hst, hstr⟩ := E
  intro H locs ls hR hS hl
  obtain ⟨hP, hz, hSt, hnt⟩ := hR
  subst hN
  exact va_iald (D := D) hx hb hK hP (adr j o) 1 ((wl_get ho hn).trans (by rw [cell_i ha, ht])) (tys_at (Nat.le_of_ble_eq_true rfl)) hin hd (kk H locs ls ⟨hP, hz, hSt, hnt⟩ hS hl)
theorem r_cald (E : EE X cc own nL fr lo mc ms) {j o N : Nat} {i : Int32} (ha : ktab j = 1) (ht : atab j = 0) (hN : ntab j = N) (ho : o < nobj j) (hn : adr j o < n) (hin : vp_in i N) (hd : decode cc pc = .ok (.caload, 1)) (kk : GG X k z n h L (pc + 1) (.int (gI h j o i.toNatClampNeg) :: st)) : GG X k z n h L pc (.int i :: rf X j o :: st) := by
  obtain ⟨p, l, e, R, s, m, args, below, meth, c, Q, D, cy, b⟩ := X
  obtain ⟨hx, hb, hml, hown, hts, hK, hfr, hlo, hmc, hms, hlk, hbs, hZ1, hZ2, hst, hstr⟩ := E
  intro H locs ls hR hS hl
  obtain ⟨hP, hz, hSt, hnt⟩ := hR
  subst hN
  exact va_cald (D := D) hx hb hK hP (adr j o) 0 ((wl_get ho hn).trans (by rw [cell_i ha, ht])) (tys_at (Nat.le_of_ble_eq_true rfl)) hin hd (kk H locs ls ⟨hP, hz, hSt, hnt⟩ hS hl)
theorem r_zald (E : EE X cc own nL fr lo mc ms) {j o N : Nat} {i : Int32} (ha : ktab j = 1) (ht : atab j = 3) (hN : ntab j = N) (ho : o < nobj j) (hn : adr j o < n) (hin : vp_in i N) (hd : decode cc pc = .ok (.baload, 1)) (kk : GG X k z n h L (pc + 1) (.int (gI h j o i.toNatClampNeg) :: st)) : GG X k z n h L pc (.int i :: rf X j o :: st) := by
  obtain ⟨p, l, e, R, s, m, args, below, meth, c, Q, D, cy, b⟩ := X
  obtain ⟨hx, hb, hml, hown, hts, hK, hfr, hlo, hmc, hms, hlk, hbs, hZ1, hZ2, hst, hstr⟩ := E
  intro H locs ls hR hS hl
  obtain ⟨hP, hz, hSt, hnt⟩ := hR
  subst hN
  exact va_zald (D := D) hx hb hK hP (adr j o) 3 ((wl_get ho hn).trans (by rw [cell_i ha, ht])) (tys_at (Nat.le_of_ble_eq_true rfl)) hin hd (kk H locs ls ⟨hP, hz, hSt, hnt⟩ hS hl)
theorem r_lald (E : EE X cc own nL fr lo mc ms) {j o N : Nat} {i : Int32} (ha : ktab j = 2) (ht : atab j = 2) (hN : ntab j = N) (ho : o < nobj j) (hn : adr j o < n) (hin : vp_in i N) (hd : decode cc pc = .ok (.laload, 1)) (kk : GG X k z n h L (pc + 1) (.long (gJ h j o i.toNatClampNeg) :: st)) : GG X k z n h L pc (.int i :: rf X j o :: st) := by
  obtain ⟨p, l, e, R, s, m, args, below, meth, c, Q, D, cy, b⟩ := X
  obtain ⟨hx, hb, hml, hown, hts, hK, hfr, hlo, hmc, hms, hlk, hbs, hZ1, hZ2, hst, hstr⟩ := E
  intro H locs ls hR hS hl
  obtain ⟨hP, hz, hSt, hnt⟩ := hR
  subst hN
  exact va_lald (D := D) hx hb hK hP (adr j o) 2 ((wl_get ho hn).trans (by rw [cell_l ha, ht])) (tys_at (Nat.le_of_ble_eq_true rfl)) hin hd (kk H locs ls ⟨hP, hz, hSt, hnt⟩ hS hl)
theorem r_dald (E : EE X cc own nL fr lo mc ms) {j o N : Nat} {i : Int32} (ha : ktab j = 4) (ht : atab j = 7) (hN : ntab j = N) (ho : o < nobj j) (hn : adr j o < n) (hin : vp_in i N) (hd : decode cc pc = .ok (.daload, 1)) (kk : GG X k z n h L (pc + 1) (.double (gD h j o i.toNatClampNeg) :: st)) : GG X k z n h L pc (.int i :: rf X j o :: st) := by
  obtain ⟨p, l, e, R, s, m, args, below, meth, c, Q, D, cy, b⟩ := X
  obtain ⟨hx, hb, hml, hown, hts, hK, hfr, hlo, hmc, hms, hlk, hbs, hZ1, hZ2, hst, hstr⟩ := E
  intro H locs ls hR hS hl
  obtain ⟨hP, hz, hSt, hnt⟩ := hR
  subst hN
  exact va_dald (D := D) hx hb hK hP (adr j o) 7 ((wl_get ho hn).trans (by rw [cell_d ha, ht])) (tys_at (Nat.le_of_ble_eq_true rfl)) hin hd (kk H locs ls ⟨hP, hz, hSt, hnt⟩ hS hl)
theorem r_aald (E : EE X cc own nL fr lo mc ms) {j o N t j1 ta : Nat} {i : Int32} {C : String} (ha : ktab j = 3) (ht : atab j = ta) (ht8 : ta < 8) (hty : atyL.getD ta .int = .object C) (hr : rtab j 0 = j1) (hN : ntab j = N) (ho : o < nobj j) (hn : adr j o < n) (hin : vp_in i N) (hv : gR h j o i.toNatClampNeg = t + 1) (hd : decode cc pc = .ok (.aaload, 1)) (kk : GG X k z n h L (pc + 1) (rf X j1 t :: st)) : GG X k z n h L pc (.int i :: rf X j o :: st) := by
  obtain ⟨p, l, e, R, s, m, args, below, meth, c, Q, D, cy, b⟩ := X
  obtain ⟨hx, hb, hml, hown, hts, hK, hfr, hlo, hmc, hms, hlk, hbs, hZ1, hZ2, hst, hstr⟩ := E
  intro H locs ls hR hS hl
  obtain ⟨hP, hz, hSt, hnt⟩ := hR
  subst hN
  refine va_aldq (D := D) hx hb hK hP (adr j o) ta ((wl_get ho hn).trans (by rw [cell_q ha, ht])) ((tys_at ht8).trans (by rw [hty])) hin hd ?_
  rw [ro_eq hv, hr]
  exact kk H locs ls ⟨hP, hz, hSt, hnt⟩ hS hl
theorem r_aaldS (E : EE X cc own nL fr lo mc ms) {j o N j1 ta : Nat} {i : Int32} {C : String} (ha : ktab j = 3) (ht : atab j = ta) (ht8 : ta < 8) (hty : atyL.getD ta .int = .object C) (hr : rtab j 0 = j1) (hN : ntab j = N) (ho : o < nobj j) (hn : adr j o < n) (hin : vp_in i N) (hnn : n = NT) (hs : srf j o i.toNatClampNeg = i.toNatClampNeg + 1) (hd : decode cc pc = .ok (.aaload, 1)) (kk : GG X k z n h L (pc + 1) (rf X j1 i.toNatClampNeg :: st)) : GG X k z n h L pc (.int i :: rf X j o :: st) := by
  intro H locs ls hR hS hl
  exact r_aald E ha ht ht8 hty hr hN ho hn hin ((hR.2.2.1 hnn j o _ ho (hN ▸ Nat.not_le.mp (fun q => hin (Or.inr q))) (by rw [hs]; exact Nat.succ_ne_zero _)).trans hs) hd kk H locs ls hR hS hl
theorem r_iast (E : EE X cc own nL fr lo mc ms) {j o N : Nat} {i : Int32} {v : Int32} (ha : ktab j = 1) (ht : atab j = 1) (hN : ntab j = N) (ho : o < nobj j) (hn : adr j o < n) (hin : vp_in i N) (hd : decode cc pc = .ok (.iastore, 1)) (kk : GG X k z n (sI h j o i.toNatClampNeg v) L (pc + 1) st) : GG X k z n h L pc (.int v :: .int i :: rf X j o :: st) := by
  obtain ⟨p, l, e, R, s, m, args, below, meth, c, Q, D, cy, b⟩ := X
  obtain ⟨hx, hb, hml, hown, hts, hK, hfr, hlo, hmc, hms, hlk, hbs, hZ1, hZ2, hst, hstr⟩ := E
  intro H locs ls hR hS hl
  obtain ⟨hP, hz, hSt, hnt⟩ := hR
  subst hN
  refine wa_iast (D := D) hx hb hK hP wl_D hS (adr j o) 1 ((wl_get ho hn).trans (by rw [cell_i ha, ht])) (tys_at (Nat.le_of_ble_eq_true rfl)) hin hd (fun H1 locs1 hP1 _ hS1 hsz => kk H1 locs1 ls ⟨?_, fun w => hsz.trans (hz w), fun w => StI (hSt w), hnt⟩ hS1 hl)
  exact (wl_ai (b := b) (cy := cy) hnt ho hn ha ht) ▸ hP1
theorem r_cast (E : EE X cc own nL fr lo mc ms) {j o N : Nat} {i : Int32} {v : Int32} (ha : ktab j = 1) (ht : atab j = 0) (hN : ntab j = N) (ho : o < nobj j) (hn : adr j o < n) (hin : vp_in i N) (hnn : n = NT) (hd : decode cc pc = .ok (.castore, 1)) (kk : GG X k z n (sI h j o i.toNatClampNeg (vp_nar .char v)) L (pc + 1) st) : GG X k z n h L pc (.int v :: .int i :: rf X j o :: st) := by
  obtain ⟨p, l, e, R, s, m, args, below, meth, c, Q, D, cy, b⟩ := X
  obtain ⟨hx, hb, hml, hown, hts, hK, hfr, hlo, hmc, hms, hlk, hbs, hZ1, hZ2, hst, hstr⟩ := E
  intro H locs ls hR hS hl
  obtain ⟨hP, hz, hSt, hnt⟩ := hR
  subst hN
  refine va_cast (D := D) hx hb hK hP wl_D hS (adr j o) 0 ((wl_get ho hn).trans (by rw [cell_i ha, ht])) (tys_at (Nat.le_of_ble_eq_true rfl)) hin hd (fun H1 locs1 hP1 _ hS1 => kk H1 locs1 ls ⟨?_, fun w => absurd hnn (Nat.ne_of_lt w), fun w => StI (hSt w), hnt⟩ hS1 hl)
  exact (wl_ai (b := b) (cy := cy) hnt ho hn ha ht) ▸ hP1
theorem r_zast (E : EE X cc own nL fr lo mc ms) {j o N : Nat} {i : Int32} {v : Int32} (ha : ktab j = 1) (ht : atab j = 3) (hN : ntab j = N) (ho : o < nobj j) (hn : adr j o < n) (hin : vp_in i N) (hnn : n = NT) (hd : decode cc pc = .ok (.bastore, 1)) (kk : GG X k z n (sI h j o i.toNatClampNeg (vp_nar .boolean v)) L (pc + 1) st) : GG X k z n h L pc (.int v :: .int i :: rf X j o :: st) := by
  obtain ⟨p, l, e, R, s, m, args, below, meth, c, Q, D, cy, b⟩ := X
  obtain ⟨hx, hb, hml, hown, hts, hK, hfr, hlo, hmc, hms, hlk, hbs, hZ1, hZ2, hst, hstr⟩ := E
  intro H locs ls hR hS hl
  obtain ⟨hP, hz, hSt, hnt⟩ := hR
  subst hN
  refine va_zast (D := D) hx hb hK hP wl_D hS (adr j o) 3 ((wl_get ho hn).trans (by rw [cell_i ha, ht])) (tys_at (Nat.le_of_ble_eq_true rfl)) hin hd (fun H1 locs1 hP1 _ hS1 => kk H1 locs1 ls ⟨?_, fun w => absurd hnn (Nat.ne_of_lt w), fun w => StI (hSt w), hnt⟩ hS1 hl)
  exact (wl_ai (b := b) (cy := cy) hnt ho hn ha ht) ▸ hP1
theorem r_last (E : EE X cc own nL fr lo mc ms) {j o N : Nat} {i : Int32} {v : Int64} (ha : ktab j = 2) (ht : atab j = 2) (hN : ntab j = N) (ho : o < nobj j) (hn : adr j o < n) (hin : vp_in i N) (hnn : n = NT) (hd : decode cc pc = .ok (.lastore, 1)) (kk : GG X k z n (sJ h j o i.toNatClampNeg v) L (pc + 1) st) : GG X k z n h L pc (.long v :: .int i :: rf X j o :: st) := by
  obtain ⟨p, l, e, R, s, m, args, below, meth, c, Q, D, cy, b⟩ := X
  obtain ⟨hx, hb, hml, hown, hts, hK, hfr, hlo, hmc, hms, hlk, hbs, hZ1, hZ2, hst, hstr⟩ := E
  intro H locs ls hR hS hl
  obtain ⟨hP, hz, hSt, hnt⟩ := hR
  subst hN
  refine va_last (D := D) hx hb hK hP wl_D hS (adr j o) 2 ((wl_get ho hn).trans (by rw [cell_l ha, ht])) (tys_at (Nat.le_of_ble_eq_true rfl)) hin hd (fun H1 locs1 hP1 _ hS1 => kk H1 locs1 ls ⟨?_, fun w => absurd hnn (Nat.ne_of_lt w), fun w => StJ (hSt w), hnt⟩ hS1 hl)
  exact (wl_al (b := b) (cy := cy) hnt ho hn ha ht) ▸ hP1
theorem r_dast (E : EE X cc own nL fr lo mc ms) {j o N : Nat} {i : Int32} {v : UInt64} (ha : ktab j = 4) (ht : atab j = 7) (hN : ntab j = N) (ho : o < nobj j) (hn : adr j o < n) (hin : vp_in i N) (hnn : n = NT) (hd : decode cc pc = .ok (.dastore, 1)) (kk : GG X k z n (sD h j o i.toNatClampNeg v) L (pc + 1) st) : GG X k z n h L pc (.double v :: .int i :: rf X j o :: st) := by
  obtain ⟨p, l, e, R, s, m, args, below, meth, c, Q, D, cy, b⟩ := X
  obtain ⟨hx, hb, hml, hown, hts, hK, hfr, hlo, hmc, hms, hlk, hbs, hZ1, hZ2, hst, hstr⟩ := E
  intro H locs ls hR hS hl
  obtain ⟨hP, hz, hSt, hnt⟩ := hR
  subst hN
  refine va_dast (D := D) hx hb hK hP wl_D hS (adr j o) 7 ((wl_get ho hn).trans (by rw [cell_d ha, ht])) (tys_at (Nat.le_of_ble_eq_true rfl)) hin hd (fun H1 locs1 hP1 _ hS1 => kk H1 locs1 ls ⟨?_, fun w => absurd hnn (Nat.ne_of_lt w), fun w => StD (hSt w), hnt⟩ hS1 hl)
  exact (wl_ad (b := b) (cy := cy) hnt ho hn ha ht) ▸ hP1
theorem r_aast (E : EE X cc own nL fr lo mc ms) {j o N t j1 ta : Nat} {i : Int32} (ha : ktab j = 3) (ht : atab j = ta) (ht8 : ta < 8) (hty : atyL.getD ta .int = .object (fCs j1)) (hj1 : j1 < 12) (hr : rtab j 0 = j1) (hN : ntab j = N) (ho : o < nobj j) (hn : adr j o < n) (hot : t < nobj j1) (hnt1 : adr j1 t < n) (hin : vp_in i N) (h0 : n < NT ∨ srf j o i.toNatClampNeg = 0) (hd : decode cc pc = .ok (.aastore, 1)) (kk : GG X k z n (sR h j o i.toNatClampNeg (t + 1)) L (pc + 1) st) : GG X k z n h L pc (rf X j1 t :: .int i :: rf X j o :: st) := by
  obtain ⟨p, l, e, R, s, m, args, below, meth, c, Q, D, cy, b⟩ := X
  obtain ⟨hx, hb, hml, hown, hts, hK, hfr, hlo, hmc, hms, hlk, hbs, hZ1, hZ2, hst, hstr⟩ := E
  intro H locs ls hR hS hl
  obtain ⟨hP, hz, hSt, hnt⟩ := hR
  subst hN
  refine wa_astq (D := D) hx hb hK hP wl_D hS (adr j o) ta (adr j1 t) j1 (r := (fCs j1, fT j1, ntab j1)) ((wl_get ho hn).trans (by rw [cell_q ha, ht])) ((tys_at ht8).trans (by rw [hty])) ((wl_get hot hnt1).trans (by rw [cell_o (kt0 j1 hj1)])) (kCl_at hj1) hin hd (fun H1 locs1 hP1 _ hS1 hsz => kk H1 locs1 ls ⟨?_, fun w => hsz.trans (hz w), fun w => ?_, hnt⟩ hS1 hl)
  · exact (wl_aq (b := b) (cy := cy) hnt ho hn ha ht hr) ▸ hP1
  · rcases h0 with h0 | h0
    · exact absurd w (Nat.ne_of_lt h0)
    · exact StR h0 (hSt w)
end Rows2
