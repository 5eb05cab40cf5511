/-! the model tries all assignments -/
theorem dom_w {v sz : Nat} {h : Hp} {Q : Int32 → Prop} (hv : v < 45) (e : gI h 11 0 62 = nI sz) : wp_X11_domain (nI v) h Q = Q (nI (dm sz v)) := by
  unfold wp_X11_domain dm
  rw [e]
  by_cases v0 : v = 0
  · subst v0; rfl
  rw [if_neg (show ¬ nI v = 0 from nI_ne (b := 0) (by omega) (by omega) v0), if_neg v0]
  by_cases v1 : v = 1
  · subst v1; rfl
  rw [if_neg (show ¬ nI v = 1 from nI_ne (b := 1) (by omega) (by omega) v1), if_neg v1]
  by_cases v2 : v = 2
  · subst v2; rfl
  rw [if_neg (show ¬ nI v = 2 from nI_ne (b := 2) (by omega) (by omega) v2), if_neg v2]
  rfl
theorem dm_61 {sz v : Nat} (h : sz ≤ 61) : dm sz v ≤ 61 := by
  unfold dm
  split
  · omega
  · split
    · omega
    · split <;> omega
def phi (um : Nat) (x : Int32) (h : Hp) : Nat := sN (fun j => if nI j ≤ x then (62 - cl (gI h 67 0 j)) * 64 ^ (45 - j) else 0) um
/-- what gathering leaves: the used variables u, um of them -/
def GT (h : Hp) (nt sz um : Nat) (u : Nat → Nat) (nd : Nat → Bool) : Prop := um ≤ 45 ∧ gI h 11 0 58 = nI um ∧ (∀ j, j < um → gI h 66 0 j = nI (u j) ∧ u j < 45) ∧ (∀ i j, i < um → j < um → u i = u j → i = j) ∧ (∀ val : Nat → Int32, (∀ j, j < um → val (u j) ≠ -1) → KN (gI h 49 0) (gI h 50 0) nt nd val)
  ∧ gI h 11 0 62 = nI sz ∧ sz ≤ 61 ∧ (∀ x, x < sz → inZ (gI h 71 0 x) 1 999) ∧ (∀ M, VM M → ∃ x, x < sz ∧ ∀ t, t < nt → nd t = true → gI h 49 0 t = 122 → (gI h 71 0 x ≤ gI h 50 0 t ↔ M 4 ≤ gI h 50 0 t))
section
variable {h : Hp} {nt sz um : Nat} {u : Nat → Nat} {nd wH wF : Nat → Bool}
def ASG (h : Hp) (nt sz : Nat) (nd wH wF : Nat → Bool) (f : Nat → Nat) : Prop := ∃ M, VM M ∧ GL nt (cv (gI h 49 0) (gI h 50 0) (gI h 51 0) M) nd wH wF (gI h 11 0 65) (gI h 11 0 66) ∧ ∀ v, v < 45 → f v < dm sz v ∧ rl (gI h 49 0) (gI h 50 0) nt nd (gI h 71 0) v (f v) M
def WON (h : Hp) (nt : Nat) (nd wH wF : Nat → Bool) : Prop := ∃ M, VM M ∧ GL nt (cv (gI h 49 0) (gI h 50 0) (gI h 51 0) M) nd wH wF (gI h 11 0 65) (gI h 11 0 66)
theorem asg_ex (G : GT h nt sz um u nd) (w : WON h nt nd wH wF) : ∃ f, ASG h nt sz nd wH wF f := by
  obtain ⟨-, -, -, -, -, -, -, -, gx⟩ := G
  obtain ⟨M, v, g⟩ := w
  obtain ⟨x, hx, ex⟩ := gx M v
  have c0 := cl_n v.1 (by decide)
  have c5 := cl_n v.2.2.2.2.2 (by decide)
  refine ⟨fun w => if w = 0 then cl (M 0) else if w = 1 then cl (M 5) else if w = 2 then x else if w < 13 then (if bI (M 1) (w - 3) = true then 1 else 0) else if w < 29 then (if bI (M 2) (w - 13) = true then 1 else 0) else (if bI (M 3) (w - 29) = true then 1 else 0), M, v, g, fun w hw => ?_⟩
  by_cases w0 : w = 0
  · subst w0
    refine ⟨by simp only [if_true]; exact c0.1, fun _ => by simp only [if_true]; exact c0.2, fun q => by omega, fun q => by omega, fun q => by omega, fun q => by omega, fun q => by omega⟩
  by_cases w1 : w = 1
  · subst w1
    refine ⟨by simp only [show ¬ (1 = 0) by decide, if_false, if_true]; exact c5.1, fun q => by omega, fun _ => by simp only [show ¬ (1 = 0) by decide, if_false, if_true]; exact c5.2, fun q => by omega, fun q => by omega, fun q => by omega, fun q => by omega⟩
  by_cases w2 : w = 2
  · subst w2
    refine ⟨by simp only [show ¬ (2 = 0) by decide, show ¬ (2 = 1) by decide, if_false, if_true]; exact hx, fun q => by omega, fun q => by omega, fun _ => by simp only [show ¬ (2 = 0) by decide, show ¬ (2 = 1) by decide, if_false, if_true]; exact ex, fun q => by omega, fun q => by omega, fun q => by omega⟩
  simp only [w0, w1, w2, if_false]
  have b2 : ∀ b : Bool, (if b = true then 1 else 0) < 2 := fun b => by cases b <;> decide
  have b1 : ∀ b : Bool, ((if b = true then 1 else 0) = 1 ↔ b = true) := fun b => by cases b <;> decide
  rw [dm2 (by omega)]
  by_cases l13 : w < 13
  · rw [if_pos l13]
    exact ⟨b2 _, fun q => by omega, fun q => by omega, fun q => by omega, fun _ _ => b1 _, fun q => by omega, fun q => by omega⟩
  rw [if_neg l13]
  by_cases l29 : w < 29
  · rw [if_pos l29]
    exact ⟨b2 _, fun q => by omega, fun q => by omega, fun q => by omega, fun q => by omega, fun _ _ => b1 _, fun q => by omega⟩
  · rw [if_neg l29]
    exact ⟨b2 _, fun q => by omega, fun q => by omega, fun q => by omega, fun q => by omega, fun q => by omega, fun _ _ => b1 _⟩
/-- the level at, the choices c -/
def LVL (h : Hp) (nt sz um : Nat) (u : Nat → Nat) (nd wH wF : Nat → Bool) (at_ : Nat) (c : Nat → Nat) (h1 : Hp) : Prop :=
  (∀ j, j ≤ at_ → j < um → gI h1 67 0 j = nI (c j) ∧ c j ≤ dm sz (u j)) ∧ (∀ j, j < at_ → 1 ≤ c j ∧ gI h1 64 0 (u j) = nI (c j - 1)) ∧ VAL (gI h1 64 0) sz ∧ (∀ v, v < 45 → (∀ j, j ≤ at_ → j < um → u j ≠ v) → gI h1 64 0 v = -1)
  ∧ ∀ f, ASG h nt sz nd wH wF f → ∀ j, j ≤ at_ → j < um → (∀ i, i < j → f (u i) + 1 = c i) → (if j = at_ then c j else c j - 1) ≤ f (u j)
abbrev PB (h : Hp) (nt : Nat) (nd wH wF : Nat → Bool) (val : Nat → Int32) : Prop := POSM (gI h 49 0) (gI h 50 0) (gI h 51 0) nt nd wH wF (gI h 11 0 65) (gI h 11 0 66) (gI h 71 0) val
theorem bt_w {at0 : Nat} {c0 : Nat → Nat} {h0 : Hp} {Q : Int32 → Hp → Prop} (B : MB h nt sz nd wH wF) (G : GT h nt sz um u nd) (A0 : ag (wS [64, 67, 69, 70] []) h h0) (ha0 : at0 ≤ um) (L0 : LVL h nt sz um u nd wH wF at0 c0 h0) (w0 : at0 = um → PB h nt nd wH wF (gI h0 64 0))
    (f : ∀ r h', ag (wS [64, 67, 69, 70] []) h h' → (r = 1 ∧ WON h nt nd wH wF ∨ r = 0 ∧ ¬ WON h nt nd wH wF) → Q r h') : wp_X11_isSome_b29 (nI at0) h0 Q := by
  have G' := G
  obtain ⟨g45, e58, eu, inj, kn, e62, g61, glk, gx⟩ := G'
  have B' := B
  obtain ⟨T, e19, N, hnd, ew, hsz, ho, ho2⟩ := B'
  unfold wp_X11_isSome_b29
  refine LFP2.by (I := fun x h1 => ag (wS [64, 67, 69, 70] []) h h1 ∧ (x = -1 ∧ (¬ ∃ f, ASG h nt sz nd wH wF f) ∨ ∃ a c, a ≤ um ∧ x = nI a ∧ LVL h nt sz um u nd wH wF a c h1 ∧ (a = um → PB h nt nd wH wF (gI h1 64 0)))) (μ := phi um) ⟨A0, Or.inr ⟨at0, c0, ha0, rfl, L0, w0⟩⟩ ?_
  rintro x h1 ⟨A1, I⟩ P hP
  unfold wp_X11_isSome_b29F wp_X11_isSome_b125 wp_X11_isSome_b122
  rcases I with ⟨rfl, none⟩ | ⟨a, c, ha, rfl, L, won⟩
  · rw [if_pos (by decide), if_pos (by decide)]
    exact f 0 h1 A1 (Or.inr ⟨rfl, fun w => none (asg_ex G w)⟩)
  rw [if_neg (nI_pos (by omega)), A1.I 11 0 58, e58]
  obtain ⟨L1, L2, L3, L4, L5⟩ := L
  by_cases e : a = um
  · subst e
    rw [if_pos (nI_le (Nat.le_refl _) (by omega)), if_neg (nI_pos (by omega))]
    refine f 1 h1 A1 (Or.inl ⟨rfl, ?_⟩)
    refine pos_whole T N ho L3 glk (kn _ (fun j hj => ?_)) (won rfl)
    rw [(L2 j hj).2]
    have := (L1 j (by omega) hj).2
    have := dm_61 (sz := sz) (v := u j) g61
    exact nI_nm1 (by omega)
  rw [if_neg (nI_ge (show a < um by omega) (by omega))]
  have hu := eu a (by omega)
  obtain ⟨c1, c2⟩ := L1 a (Nat.le_refl _) (by omega)
  have d61 := dm_61 (sz := sz) (v := u a) g61
  have vu : vp_in (nI (u a)) 45 := vp_in_nI hu.2 (by decide)
  have cu : (nI (u a)).toNatClampNeg = u a := nI_clamp (by have := hu.2; omega)
  refine ⟨vp_in_nI (by omega) (by decide), ?_⟩
  unfold LET
  simp only [forall_eq]
  rw [nI_clamp (show a < 2 ^ 31 by omega), A1.I 66 0 a, hu.1, dom_w hu.2 (by rw [A1.I 11 0 62]; exact e62), c1, cu]
  have hja : ∀ j, j < um → (nI j ≤ nI a ↔ j ≤ a) := fun j hj => nI_leI (by omega) (by omega)
  have ccl : ∀ j, j ≤ a → j < um → cl (gI h1 67 0 j) = c j := fun j h1 h2 => by
    rw [(L1 j h1 h2).1]
    have := (L1 j h1 h2).2
    have := dm_61 (sz := sz) (v := u j) g61
    exact nI_clamp (by omega)
  by_cases full : c a = dm sz (u a)
  · -- all values were tried: back
    rw [full, if_pos rfl]
    refine ⟨vu, ?_⟩
    have p64 : 1 ≤ 64 ^ (45 - a) := Nat.pow_pos (by decide)
    by_cases a0 : a = 0
    · subst a0
      refine hP _ _ ⟨A1.sI rfl, Or.inl ⟨by decide, fun ⟨f, hf⟩ => ?_⟩⟩ ?_
      · have q := L5 f hf 0 (Nat.le_refl _) (by omega) (fun i hi => by omega)
        rw [if_pos rfl] at q
        obtain ⟨M, _, _, z⟩ := hf
        have := (z (u 0) hu.2).1
        omega
      · unfold phi
        have := sN_one (f := fun j => if nI j ≤ nI 0 + (-1) then (62 - cl (gI (sI h1 64 0 (u 0) (-1)) 67 0 j)) * 64 ^ (45 - j) else 0) (g := fun j => if nI j ≤ nI 0 then (62 - cl (gI h1 67 0 j)) * 64 ^ (45 - j) else 0) (t := 0) (n := um) (by omega) (fun j hj hne => by
          rw [if_neg (show ¬ nI j ≤ nI 0 by rw [hja j hj]; omega), if_neg (fun q => ?_)]
          have q2 : (nI j).toInt ≤ (nI 0 + (-1)).toInt := Int32.le_iff_toInt_le.mp q
          rw [nI_toInt (by omega), show (nI 0 + (-1)).toInt = -1 from rfl] at q2
          omega)
        rw [if_pos (Int32.le_refl _), ccl 0 (Nat.le_refl _) (by omega), full, if_neg (by decide)] at this
        have : 1 ≤ (62 - dm sz (u 0)) * 64 ^ (45 - 0) := Nat.mul_pos (by omega) p64
        omega
    · have em : nI a + (-1) = nI (a - 1) := nI_dec (by omega)
      rw [em]
      refine hP _ _ ⟨A1.sI rfl, Or.inr ⟨a - 1, c, by omega, rfl, ⟨fun j h2 h3 => ?_, fun j hj => ?_, fun v hv => ?_, fun v hv hn => ?_, fun f hf j h2 h3 h4 => ?_⟩, fun q => by omega⟩⟩ ?_
      · rw [gI_o (by omega)]
        exact L1 j (by omega) h3
      · have ne : u j ≠ u a := fun q => by have := inj j a (by omega) (by omega) q; omega
        rw [gI_o (Or.inr (Or.inr ne))]
        exact L2 j (by omega)
      · by_cases ev : v = u a
        · rw [ev, gI_e]; exact Or.inl rfl
        · rw [gI_o (by omega)]; exact L3 v hv
      · by_cases ev : v = u a
        · rw [ev, gI_e]
        · rw [gI_o (by omega)]
          refine L4 v hv (fun j h2 h3 => ?_)
          by_cases ej : j = a
          · rw [ej]; exact fun q => ev q.symm
          · exact hn j (by omega) h3
      · by_cases ej : j = a - 1
        · rw [if_pos ej]
          have q := L5 f hf j (by omega) h3 h4
          rw [if_neg (by omega)] at q
          rcases Nat.lt_or_ge (f (u j)) (c j) with l | l
          · exfalso
            have e1 : f (u j) + 1 = c j := by omega
            have q2 := L5 f hf a (Nat.le_refl _) (by omega) (fun i hi => by
              by_cases ei : i = j
              · rw [ei]; exact e1
              · exact h4 i (by omega))
            rw [if_pos rfl] at q2
            obtain ⟨M, _, _, z⟩ := hf
            have := (z (u a) hu.2).1
            omega
          · exact l
        · rw [if_neg ej]
          have q := L5 f hf j (by omega) h3 h4
          rw [if_neg (by omega)] at q
          exact q
      · unfold phi
        have := sN_one (f := fun j => if nI j ≤ nI (a - 1) then (62 - cl (gI (sI h1 64 0 (u a) (-1)) 67 0 j)) * 64 ^ (45 - j) else 0) (g := fun j => if nI j ≤ nI a then (62 - cl (gI h1 67 0 j)) * 64 ^ (45 - j) else 0) (t := a) (n := um) (by omega) (fun j hj hne => by
          have e1 : (nI j ≤ nI (a - 1)) ↔ (nI j ≤ nI a) := by rw [hja j hj, nI_leI (by omega) (by omega)]; omega
          rw [gI_o (by omega)]
          by_cases z : nI j ≤ nI a
          · rw [if_pos z, if_pos (e1.mpr z)]
          · rw [if_neg z, if_neg (fun q => z (e1.mp q))])
        rw [if_pos (Int32.le_refl _), ccl a (Nat.le_refl _) (by omega), full, if_neg (show ¬ nI a ≤ nI (a - 1) by rw [nI_leI (by omega) (by omega)]; omega)] at this
        have : 1 ≤ (62 - dm sz (u a)) * 64 ^ (45 - a) := Nat.mul_pos (by omega) p64
        omega
  · -- the next value
    rw [if_neg (nI_ne (by omega) (by omega) full)]
    refine ⟨vu, ?_⟩
    rw [gI_o (show (67 : Nat) ≠ 64 ∨ _ from Or.inl (by decide)), c1, nI_1]
    have A2 : ag (wS [64, 67, 69, 70] []) h (sI (sI h1 64 0 (u a) (nI (c a))) 67 0 a (nI (c a + 1))) := (A1.sI rfl).sI rfl
    have v64 : ∀ v, gI (sI (sI h1 64 0 (u a) (nI (c a))) 67 0 a (nI (c a + 1))) 64 0 v = if v = u a then nI (c a) else gI h1 64 0 v := fun v => by
      rw [gI_o (by omega)]
      by_cases ev : v = u a
      · rw [ev, gI_e, if_pos rfl]
      · rw [gI_o (by omega), if_neg ev]
    generalize hh : sI (sI h1 64 0 (u a) (nI (c a))) 67 0 a (nI (c a + 1)) = h2 at *
    have v67 : ∀ j, gI h2 67 0 j = if j = a then nI (c a + 1) else gI h1 67 0 j := fun j => by
      rw [← hh]
      by_cases ej : j = a
      · rw [ej, gI_e, if_pos rfl]
      · rw [gI_o (by omega), gI_o (by omega), if_neg ej]
    have V2 : VAL (gI h2 64 0) sz := fun v hv => by
      rw [v64]
      by_cases ev : v = u a
      · rw [if_pos ev, ev]
        exact Or.inr ⟨c a, by omega, rfl⟩
      · rw [if_neg ev]; exact L3 v hv
    have B2 : MB h2 nt sz nd wH wF := by
      unfold MB
      rw [show gI h2 49 0 = gI h 49 0 from funext (fun k => A2.I 49 0 k), show gI h2 50 0 = gI h 50 0 from funext (fun k => A2.I 50 0 k), show gI h2 51 0 = gI h 51 0 from funext (fun k => A2.I 51 0 k), A2.I 11 0 19, A2.I 11 0 65, A2.I 11 0 66]
      exact ⟨T, e19, N, fun t ht => by rw [A2.I 68 0 t]; exact hnd t ht, fun t ht => by rw [A2.I 72 0 t]; exact ew t ht, hsz, ho, ho2⟩
    have pm2 : PM h2 nt nd wH wF ↔ PB h nt nd wH wF (gI h2 64 0) := by
      unfold PM PB
      rw [show gI h2 49 0 = gI h 49 0 from funext (fun k => A2.I 49 0 k), show gI h2 50 0 = gI h 50 0 from funext (fun k => A2.I 50 0 k), show gI h2 51 0 = gI h 51 0 from funext (fun k => A2.I 51 0 k), show gI h2 71 0 = gI h 71 0 from funext (fun k => A2.I 71 0 k), A2.I 11 0 65, A2.I 11 0 66]
    refine ipo_w B2 V2 (fun r h3 A3 z => ?_)
    have AA : ag (wS [64, 67, 69, 70] []) h h3 := A2.trans (A3.mono (wS_mono (by decide) (by decide)))
    have w64 : gI h3 64 0 = gI h2 64 0 := funext (fun k => A3.I 64 0 k)
    have pw : 64 ^ (45 - a) = 64 * 64 ^ (44 - a) := by rw [show 45 - a = (44 - a) + 1 by omega, Nat.pow_succ]; omega
    have pp : 1 ≤ 64 ^ (44 - a) := Nat.pow_pos (by decide)
    have ct1 : cl (nI (c a + 1)) = c a + 1 := nI_clamp (by omega)
    have t1 : (62 - c a) * 64 ^ (45 - a) = (62 - (c a + 1)) * 64 ^ (45 - a) + 64 ^ (45 - a) := by
      rw [show 62 - c a = (62 - (c a + 1)) + 1 by omega, Nat.add_mul, Nat.one_mul]
    obtain ⟨c', ec', eco⟩ : ∃ c' : Nat → Nat, c' a = c a + 1 ∧ ∀ j, j ≠ a → c' j = c j := ⟨fun j => if j = a then c a + 1 else c j, by simp, fun j hj => by simp [hj]⟩
    rcases z with ⟨rfl, z⟩ | ⟨rfl, z⟩
    · rw [if_neg (by decide), AA.I 11 0 58, e58, nI_1]
      -- one level on
      have Lv : ∀ h4, (∀ j, j ≤ a → j < um → gI h4 67 0 j = gI h2 67 0 j) → (a + 1 < um → gI h4 67 0 (a + 1) = nI 0) → gI h4 64 0 = gI h2 64 0 → ∃ c'', LVL h nt sz um u nd wH wF (a + 1) c'' h4 := fun h4 q1 q2 q3 => by
        obtain ⟨c'', ez, eo⟩ : ∃ c'' : Nat → Nat, c'' (a + 1) = 0 ∧ ∀ j, j ≠ a + 1 → c'' j = c' j := ⟨fun j => if j = a + 1 then 0 else c' j, by simp, fun j hj => by simp [hj]⟩
        refine ⟨c'', fun j h2 h3 => ?_, fun j hj => ?_, ?_, fun v hv hn => ?_, fun f hf j h2 h3 h4 => ?_⟩
        · by_cases ej : j = a + 1
          · subst ej
            rw [ez]
            exact ⟨q2 h3, Nat.zero_le _⟩
          · rw [q1 j (by omega) h3, v67, eo j ej]
            by_cases ea : j = a
            · rw [if_pos ea, ea, ec']
              exact ⟨rfl, by omega⟩
            · rw [if_neg ea, eco j ea]
              exact L1 j (by omega) h3
        · rw [q3, v64, eo j (by omega)]
          by_cases ea : j = a
          · rw [ea, if_pos rfl, ec']
            exact ⟨by omega, by rw [Nat.add_sub_cancel]⟩
          · have ne : u j ≠ u a := fun q => ea (inj j a (by omega) (by omega) q)
            rw [if_neg ne, eco j ea]
            exact L2 j (by omega)
        · rw [q3]; exact V2
        · rw [q3, v64]
          have : v ≠ u a := fun q => hn a (by omega) (by omega) q.symm
          rw [if_neg this]
          exact L4 v hv (fun j h2 h3 => hn j (by omega) h3)
        · by_cases ej : j = a + 1
          · rw [if_pos ej, ej, ez]; exact Nat.zero_le _
          · rw [if_neg ej, eo j ej]
            have h4' : ∀ i, i < j → f (u i) + 1 = c i := fun i hi => by
              have := h4 i hi
              rw [eo i (by omega), eco i (by omega)] at this
              exact this
            have q := L5 f hf j (by omega) h3 h4'
            by_cases ea : j = a
            · rw [if_pos ea] at q
              rw [ea, ec', Nat.add_sub_cancel]
              rw [ea] at q
              exact q
            · rw [if_neg ea] at q
              rw [eco j ea]
              exact q
      by_cases last : a + 1 = um
      · rw [if_pos (nI_le (by omega) (by omega))]
        obtain ⟨c'', hl⟩ := Lv h3 (fun j _ _ => A3.I 67 0 j) (fun q => by omega) w64
        refine hP _ _ ⟨AA, Or.inr ⟨a + 1, c'', by omega, rfl, hl, fun _ => by rw [w64]; exact pm2.mp z⟩⟩ ?_
        unfold phi
        have := sN_one (f := fun j => if nI j ≤ nI (a + 1) then (62 - cl (gI h3 67 0 j)) * 64 ^ (45 - j) else 0) (g := fun j => if nI j ≤ nI a then (62 - cl (gI h1 67 0 j)) * 64 ^ (45 - j) else 0) (t := a) (n := um) (by omega) (fun j hj hne => by
          rw [if_pos (show nI j ≤ nI (a + 1) by rw [nI_leI (by omega) (by omega)]; omega), if_pos (show nI j ≤ nI a by rw [hja j hj]; omega), A3.I 67 0 j, v67, if_neg hne])
        rw [if_pos (Int32.le_refl _), ccl a (Nat.le_refl _) (by omega), if_pos (show nI a ≤ nI (a + 1) by rw [nI_leI (by omega) (by omega)]; omega), A3.I 67 0 a, v67, if_pos rfl, ct1] at this
        omega
      · rw [if_neg (nI_ge (show a + 1 < um by omega) (by omega)), nI_clamp (show a + 1 < 2 ^ 31 by omega)]
        refine ⟨vp_in_nI (by omega) (by decide), ?_⟩
        obtain ⟨c'', hl⟩ := Lv (sI h3 67 0 (a + 1) 0) (fun j _ _ => by rw [gI_o (by omega)]; exact A3.I 67 0 j) (fun q => by rw [gI_e]; rfl) (funext (fun k => by rw [gI_o (by omega)]; exact A3.I 64 0 k))
        refine hP _ _ ⟨AA.sI rfl, Or.inr ⟨a + 1, c'', by omega, rfl, hl, fun q => by omega⟩⟩ ?_
        unfold phi
        have s1 := sN_one (f := fun j => if j = a + 1 then 0 else if nI j ≤ nI (a + 1) then (62 - cl (gI (sI h3 67 0 (a + 1) 0) 67 0 j)) * 64 ^ (45 - j) else 0) (g := fun j => if nI j ≤ nI a then (62 - cl (gI h1 67 0 j)) * 64 ^ (45 - j) else 0) (t := a) (n := um) (by omega) (fun j hj hne => by
          by_cases ej : j = a + 1
          · rw [if_pos ej, if_neg (show ¬ nI j ≤ nI a by rw [hja j hj]; omega)]
          · rw [if_neg ej, gI_o (by omega)]
            by_cases l : j ≤ a
            · rw [if_pos (show nI j ≤ nI (a + 1) by rw [nI_leI (by omega) (by omega)]; omega), if_pos (show nI j ≤ nI a by rw [hja j hj]; omega), A3.I 67 0 j, v67, if_neg hne]
            · rw [if_neg (show ¬ nI j ≤ nI (a + 1) by rw [nI_leI (by omega) (by omega)]; omega), if_neg (show ¬ nI j ≤ nI a by rw [hja j hj]; omega)])
        rw [if_pos (Int32.le_refl _), ccl a (Nat.le_refl _) (by omega), if_neg (show ¬ a = a + 1 by omega), if_pos (show nI a ≤ nI (a + 1) by rw [nI_leI (by omega) (by omega)]; omega), gI_o (by omega), A3.I 67 0 a, v67, if_pos rfl, ct1] at s1
        have s2 := sN_one (f := fun j => if nI j ≤ nI (a + 1) then (62 - cl (gI (sI h3 67 0 (a + 1) 0) 67 0 j)) * 64 ^ (45 - j) else 0) (g := fun j => if j = a + 1 then 0 else if nI j ≤ nI (a + 1) then (62 - cl (gI (sI h3 67 0 (a + 1) 0) 67 0 j)) * 64 ^ (45 - j) else 0) (t := a + 1) (n := um) (by omega) (fun j hj hne => by
          rw [if_neg hne])
        rw [if_pos rfl, if_pos (Int32.le_refl _), gI_e, show cl 0 = 0 from rfl, show 45 - (a + 1) = 44 - a by omega] at s2
        omega
    · rw [if_pos rfl]
      refine hP _ _ ⟨AA, Or.inr ⟨a, c', by omega, rfl, ⟨fun j h2 h3 => ?_, fun j hj => ?_, by rw [w64]; exact V2, fun v hv hn => ?_, fun f hf j h2 h3 h4 => ?_⟩, fun q => by omega⟩⟩ ?_
      · rw [A3.I 67 0 j, v67]
        by_cases ea : j = a
        · rw [if_pos ea, ea, ec']
          exact ⟨rfl, by omega⟩
        · rw [if_neg ea, eco j ea]
          exact L1 j h2 h3
      · have ne : u j ≠ u a := fun q => by have := inj j a (by omega) (by omega) q; omega
        rw [w64, v64, if_neg ne, eco j (by omega)]
        exact L2 j hj
      · rw [w64, v64]
        have : v ≠ u a := fun q => hn a (Nat.le_refl _) (by omega) q.symm
        rw [if_neg this]
        exact L4 v hv hn
      · have h4' : ∀ i, i < j → f (u i) + 1 = c i := fun i hi => by
          have := h4 i hi
          rw [eco i (by omega)] at this
          exact this
        have q := L5 f hf j h2 h3 h4'
        by_cases ea : j = a
        · subst ea
          rw [if_pos rfl] at q ⊢
          rw [ec']
          rcases Nat.lt_or_ge (c j) (f (u j)) with l | l
          · exact l
          · exfalso
            have e1 : f (u j) = c j := by omega
            refine z (pm2.mpr ?_)
            obtain ⟨M, m1, m2, m3⟩ := hf
            refine pos_sound T N ho V2 g61 m1 m2 (fun x v hv ex hx => ?_)
            have fx : f v = x := by
              rw [v64] at ex
              by_cases ev : v = u j
              · rw [if_pos ev] at ex
                rw [ev, e1]
                have : dm sz v ≤ 61 := dm_61 g61
                exact (nI_eq (by omega) (by omega)).mp ex
              · rw [if_neg ev] at ex
                by_cases wh : ∃ i, i < j ∧ u i = v
                · obtain ⟨i, hi, ei⟩ := wh
                  have e2 := (L2 i hi).2
                  rw [ei, ex] at e2
                  have b1 := (L1 i (by omega) (by omega)).2
                  have b2 := dm_61 (sz := sz) (v := u i) g61
                  have b3 : dm sz v ≤ 61 := dm_61 g61
                  have e3 := (nI_eq (by omega) (by omega)).mp e2
                  have e4 := h4' i hi
                  rw [ei] at e4
                  omega
                · exfalso
                  rw [L4 v hv (fun i h2 h3 q => ?_)] at ex
                  · have : dm sz v ≤ 61 := dm_61 g61
                    exact nI_nm1 (by omega) ex.symm
                  · by_cases ei : i = j
                    · rw [ei] at q; exact ev q.symm
                    · exact wh ⟨i, by omega, q⟩
            have := (m3 v hv).2
            rw [fx] at this
            exact this
        · rw [if_neg ea] at q ⊢
          rw [eco j ea]
          exact q
      · unfold phi
        have := sN_one (f := fun j => if nI j ≤ nI a then (62 - cl (gI h3 67 0 j)) * 64 ^ (45 - j) else 0) (g := fun j => if nI j ≤ nI a then (62 - cl (gI h1 67 0 j)) * 64 ^ (45 - j) else 0) (t := a) (n := um) (by omega) (fun j hj hne => by
          rw [A3.I 67 0 j, v67, if_neg hne])
        rw [if_pos (Int32.le_refl _), if_pos (Int32.le_refl _), ccl a (Nat.le_refl _) (by omega), A3.I 67 0 a, v67, if_pos rfl, ct1] at this
        omega
end
