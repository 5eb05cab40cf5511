/-! the model's isPossible -/
/-- what the reasoner of the model stands on -/
def MB (h : Hp) (nt sz : Nat) (nd wH wF : Nat → Bool) : Prop := TV (gI h 49 0) (gI h 50 0) (gI h 51 0) nt ∧ gI h 11 0 19 = nI nt ∧ NCL (gI h 49 0) (gI h 50 0) (gI h 51 0) nt nd ∧ (∀ t, t < nt → gI h 68 0 t = bit01 (nd t)) ∧ (∀ t, t < nt → gI h 72 0 t = nI ((if wH t = true then 1 else 0) + (if wF t = true then 2 else 0))) ∧ sz ≤ 61
  ∧ (gI h 11 0 65 ≠ -1 → (cl (gI h 11 0 65) < nt ∧ nd (cl (gI h 11 0 65)) = true) ∧ (cl (gI h 11 0 66) < nt ∧ nd (cl (gI h 11 0 66)) = true)) ∧ (gI h 11 0 65 = -1 ∨ inN (gI h 11 0 65) 60 ∧ inN (gI h 11 0 66) 60)
abbrev PM (h : Hp) (nt : Nat) (nd wH wF : Nat → Bool) : Prop := POSM (gI h 49 0) (gI h 50 0) (gI h 51 0) nt nd wH wF (gI h 11 0 65) (gI h 11 0 66) (gI h 71 0) (gI h 64 0)
theorem ipo_w {nt sz : Nat} {nd wH wF : Nat → Bool} {h : Hp} {Q : Int32 → Hp → Prop} (B : MB h nt sz nd wH wF) (V : VAL (gI h 64 0) sz) (f : ∀ r h', ag (wS [69, 70] []) h h' → (r = 1 ∧ PM h nt nd wH wF ∨ r = 0 ∧ ¬ PM h nt nd wH wF) → Q r h') : wp_X11_isPossible h Q := by
  obtain ⟨T, e19, N, hnd, ew, hsz, ho, ho2⟩ := B
  have n60 := T.1
  unfold wp_X11_isPossible
  refine ctd_w (b := true) ?_
  have l10 : cnN (gI h 64 0) true ≤ 10 := ct_le _ 10
  by_cases c0 : cnN (gI h 64 0) true = 0
  · rw [c0, if_pos (show nI 0 = 0 from rfl)]
    exact f 0 h ag.rfl (Or.inr ⟨rfl, fun q => q.1 c0⟩)
  rw [if_neg (show ¬ nI (cnN (gI h 64 0) true) = 0 from nI_ne (b := 0) (by omega) (by omega) c0)]
  unfold wp_X11_isPossible_b12
  refine LFP2.by (I := fun y h1 => ∃ n, n ≤ nt ∧ y = nI n ∧ ag (wS [69, 70] []) h h1 ∧ ∀ t, t < n → nd t = true → gI h1 69 0 t = bit01 (gc (gI h 49 0) (gI h 50 0) (gI h 51 0) (cb (gI h 64 0) (gI h 71 0)) t true) ∧ gI h1 70 0 t = bit01 (gc (gI h 49 0) (gI h 50 0) (gI h 51 0) (cb (gI h 64 0) (gI h 71 0)) t false) ∧ (wH t = true → gc (gI h 49 0) (gI h 50 0) (gI h 51 0) (cb (gI h 64 0) (gI h 71 0)) t true = true) ∧ (wF t = true → gc (gI h 49 0) (gI h 50 0) (gI h 51 0) (cb (gI h 64 0) (gI h 71 0)) t false = true)) (μ := fun y _ => 60 - y.toNatClampNeg)
    ⟨0, by omega, rfl, ag.rfl, fun t ht => by omega⟩ ?_
  rintro y h1 ⟨n, hn, rfl, A1, C⟩ P hP
  unfold wp_X11_isPossible_b12F wp_X11_isPossible_b357
  rw [A1.I 11 0 19, e19, A1.I 11 0 65, A1.I 11 0 66]
  by_cases cn : n = nt
  · subst cn
    rw [if_pos (nI_le (Nat.le_refl _) (by omega))]
    have all : ∀ t, t < n → nd t = true → (wH t = true → gc (gI h 49 0) (gI h 50 0) (gI h 51 0) (cb (gI h 64 0) (gI h 71 0)) t true = true) ∧ (wF t = true → gc (gI h 49 0) (gI h 50 0) (gI h 51 0) (cb (gI h 64 0) (gI h 71 0)) t false = true) := fun t ht hd => (C t ht hd).2.2
    by_cases o1 : gI h 11 0 65 = -1
    · rw [if_pos o1]
      exact f 1 h1 A1 (Or.inl ⟨rfl, c0, all, Or.inl o1⟩)
    rw [if_neg o1]
    obtain ⟨⟨a1, a2⟩, b1, b2⟩ := ho o1
    obtain ⟨i1, i2⟩ : inN (gI h 11 0 65) 60 ∧ inN (gI h 11 0 66) 60 := by
      rcases ho2 with q | q
      · exact absurd q o1
      · exact q
    have v1 := inN_vp i1 (by decide)
    have v2 := inN_vp i2 (by decide)
    obtain ⟨x1, x2, -⟩ := C _ a1 a2
    obtain ⟨y1, y2, -⟩ := C _ b1 b2
    rw [show (gI h 11 0 65).toNatClampNeg = cl (gI h 11 0 65) from rfl, show (gI h 11 0 66).toNatClampNeg = cl (gI h 11 0 66) from rfl, x1, x2, y1, y2]
    refine ⟨v1, ?_⟩
    have no : (¬ (gc (gI h 49 0) (gI h 50 0) (gI h 51 0) (cb (gI h 64 0) (gI h 71 0)) (cl (gI h 11 0 65)) true = true ∧ gc (gI h 49 0) (gI h 50 0) (gI h 51 0) (cb (gI h 64 0) (gI h 71 0)) (cl (gI h 11 0 66)) false = true)) → (vp_in (gI h 11 0 65) 60 ∧ if bit01 (gc (gI h 49 0) (gI h 50 0) (gI h 51 0) (cb (gI h 64 0) (gI h 71 0)) (cl (gI h 11 0 65)) false) = 0 then Q 0 h1 else vp_in (gI h 11 0 66) 60 ∧ if bit01 (gc (gI h 49 0) (gI h 50 0) (gI h 51 0) (cb (gI h 64 0) (gI h 71 0)) (cl (gI h 11 0 66)) true) = 0 then Q 0 h1 else Q 1 h1) := fun nn => by
      refine ⟨v1, ?_⟩
      cases z1 : gc (gI h 49 0) (gI h 50 0) (gI h 51 0) (cb (gI h 64 0) (gI h 71 0)) (cl (gI h 11 0 65)) false
      · rw [if_pos (show bit01 false = 0 from rfl)]
        refine f 0 h1 A1 (Or.inr ⟨rfl, fun q => ?_⟩)
        rcases q.2.2 with q | q | q
        · exact o1 q
        · exact nn q
        · rw [z1] at q; exact absurd q.1 (by decide)
      · rw [if_neg (show ¬ bit01 true = 0 by decide)]
        refine ⟨v2, ?_⟩
        cases z2 : gc (gI h 49 0) (gI h 50 0) (gI h 51 0) (cb (gI h 64 0) (gI h 71 0)) (cl (gI h 11 0 66)) true
        · rw [if_pos (show bit01 false = 0 from rfl)]
          refine f 0 h1 A1 (Or.inr ⟨rfl, fun q => ?_⟩)
          rcases q.2.2 with q | q | q
          · exact o1 q
          · exact nn q
          · rw [z2] at q; exact absurd q.2 (by decide)
        · rw [if_neg (show ¬ bit01 true = 0 by decide)]
          exact f 1 h1 A1 (Or.inl ⟨rfl, c0, all, Or.inr (Or.inr ⟨z1, z2⟩)⟩)
    cases z1 : gc (gI h 49 0) (gI h 50 0) (gI h 51 0) (cb (gI h 64 0) (gI h 71 0)) (cl (gI h 11 0 65)) true
    · rw [if_pos (show bit01 false = 0 from rfl)]
      exact no (fun q => by rw [z1] at q; exact absurd q.1 (by decide))
    · rw [if_neg (show ¬ bit01 true = 0 by decide)]
      refine ⟨v2, ?_⟩
      cases z2 : gc (gI h 49 0) (gI h 50 0) (gI h 51 0) (cb (gI h 64 0) (gI h 71 0)) (cl (gI h 11 0 66)) false
      · rw [if_pos (show bit01 false = 0 from rfl)]
        exact no (fun q => by rw [z2] at q; exact absurd q.2 (by decide))
      · rw [if_neg (show ¬ bit01 true = 0 by decide)]
        exact f 1 h1 A1 (Or.inl ⟨rfl, c0, all, Or.inr (Or.inl ⟨z1, z2⟩)⟩)
  rw [if_neg (nI_ge (show n < nt by omega) (by omega))]
  have vn : vp_in (nI n) 60 := vp_in_nI (by omega) (by decide)
  have cn' : (nI n).toNatClampNeg = n := nI_clamp (by omega)
  refine ⟨vn, ?_⟩
  rw [cn', A1.I 68 0 n, hnd n (by omega)]
  cases hd : nd n
  · rw [if_pos (show bit01 false = 0 from rfl)]
    unfold wp_X11_isPossible_b319 LET
    rintro y rfl
    refine hP _ _ ⟨n + 1, by omega, nI_1 n, A1, fun t ht hd' => ?_⟩ (by rw [nI_1, nI_clamp (by omega), nI_clamp (by omega)]; omega)
    by_cases e : t = n
    · subst e; rw [hd] at hd'; cases hd'
    · exact C t (by omega) hd'
  rw [if_neg (show ¬ bit01 true = 0 by decide)]
  have vv := T.2 n (by omega)
  -- the end of one test
  have fin : ∀ g1 g2, g1 = gc (gI h 49 0) (gI h 50 0) (gI h 51 0) (cb (gI h 64 0) (gI h 71 0)) n true → g2 = gc (gI h 49 0) (gI h 50 0) (gI h 51 0) (cb (gI h 64 0) (gI h 71 0)) n false → wp_X11_isPossible_b276 (nI n) (nI n) (bit01 g2) (sI h1 69 0 n (bit01 g1)) P Q := fun g1 g2 eg1 eg2 => by
    refine chk_w (b1 := g1) (wH := wH n) (wF := wF n) (by omega) gI_e (by rw [gI_o (by omega), A1.I 72 0 n]; exact ew n (by omega)) (fun z => ?_) (fun z1 z2 => ?_)
    · refine f 0 _ ((A1.sI rfl).sI rfl) (Or.inr ⟨rfl, fun q => ?_⟩)
      have := q.2.1 n (by omega) hd
      rcases z with ⟨w, z⟩ | ⟨w, z⟩
      · rw [eg1, this.1 w] at z; cases z
      · rw [eg2, this.2 w] at z; cases z
    · refine hP _ _ ⟨n + 1, by omega, nI_1 n, (A1.sI rfl).sI rfl, fun t ht hd' => ?_⟩ (by rw [nI_1, nI_clamp (by omega), nI_clamp (by omega)]; omega)
      by_cases e : t = n
      · subst e
        rw [gI_o (by omega), gI_e, gI_e, ← eg1, ← eg2]
        exact ⟨rfl, rfl, z1, z2⟩
      · rw [gI_o (by omega), gI_o (by omega), gI_o (by omega), gI_o (by omega)]
        exact C t (by omega) hd'
  have ge := fun p => gc_eq (lv := cb (gI h 64 0) (gI h 71 0)) T (show n < nt by omega) p
  unfold LET
  simp only [forall_eq]
  rw [A1.I 49 0 n, A1.I 50 0 n]
  have w1 : gI h1 64 0 = gI h 64 0 := funext (fun k => A1.I 64 0 k)
  have w2 : gI h1 71 0 = gI h 71 0 := funext (fun k => A1.I 71 0 k)
  by_cases m : mk (gI h 49 0 n)
  · obtain ⟨ha, hb⟩ := StV_mk vv m
    have ha' : vp_in (gI h 50 0 n) 60 := by obtain ⟨j, hj, e⟩ := ha; rw [e]; exact vp_in_nI (by omega) (by decide)
    have la := cl_lt ha (by omega)
    obtain ⟨d1, d2⟩ := N n (by omega) hd
    obtain ⟨x1, x2, -⟩ := C _ la (d1 m)
    have na : cl (gI h 50 0 n) ≠ n := by omega
    by_cases k33 : gI h 49 0 n = 33
    · rw [if_pos k33]
      unfold wp_X11_isPossible_b56 wp_X11_isPossible_b61 wp_X11_isPossible_b89 wp_X11_isPossible_b183 LET
      rw [ip_0 (by rw [k33]; decide), if_pos rfl, if_neg (by decide), if_neg (by decide), if_pos k33]
      refine ⟨ha', vn, ?_⟩
      rw [show (gI h 50 0 n).toNatClampNeg = cl (gI h 50 0 n) from rfl, x2, vnb, cn']
      simp only [forall_eq]
      rw [if_neg (by decide), if_pos k33, gI_o (by omega), x1]
      refine ⟨ha', fin _ _ ?_ ?_⟩
      · rw [ge true]; unfold cw; rw [if_pos k33]; rfl
      · rw [ge false]; unfold cw; rw [if_pos k33]; rfl
    · have kk : gI h 49 0 n = 38 ∨ gI h 49 0 n = 124 := by rcases m with q | q; exact absurd q k33; exact q
      obtain ⟨hb2⟩ : Nonempty (inN (gI h 51 0 n) n) := ⟨hb k33⟩
      have hb' : vp_in (gI h 51 0 n) 60 := by obtain ⟨j, hj, e⟩ := hb2; rw [e]; exact vp_in_nI (by omega) (by decide)
      have lb := cl_lt hb2 (by omega)
      obtain ⟨y1, y2, -⟩ := C _ lb (d2 kk)
      have nb : cl (gI h 51 0 n) ≠ n := by omega
      clear C hP f
      generalize hgc : gc (gI h 49 0) (gI h 50 0) (gI h 51 0) (cb (gI h 64 0) (gI h 71 0)) = G at fin ge x1 x2 y1 y2
      have half2 : ∀ g1, g1 = G n true → wp_X11_isPossible_b183 (nI n) (gI h 49 0 n) (gI h 50 0 n) 1 (gI h 51 0 n) (nI n) (bit01 g1) h1 P Q := fun g1 eg1 => by
        unfold wp_X11_isPossible_b183 wp_X11_isPossible_b244 wp_X11_isPossible_b275 LET
        rw [vnb, cn']
        simp only [forall_eq]
        refine ⟨vn, ?_⟩
        rw [if_neg (by decide), if_neg k33, show (gI h 50 0 n).toNatClampNeg = cl (gI h 50 0 n) from rfl, show (gI h 51 0 n).toNatClampNeg = cl (gI h 51 0 n) from rfl, gI_o (show (70 : Nat) ≠ 69 ∨ _ from Or.inl (by decide)), gI_o (show (70 : Nat) ≠ 69 ∨ _ from Or.inl (by decide)), x2, y2]
        by_cases k38 : gI h 49 0 n = 38
        · have e2 : G n false = (G (cl (gI h 50 0 n)) false || G (cl (gI h 51 0 n)) false) := by
            rw [ge false]; unfold cw; rw [if_neg k33, if_pos kk, if_neg (by rw [decide_eq_true k38]; decide)]
          rw [if_pos k38]
          refine ⟨ha', ?_⟩
          cases u3 : G (cl (gI h 50 0 n)) false
          · rw [if_pos (show bit01 false = 0 from rfl)]
            refine ⟨hb', ?_⟩
            cases u4 : G (cl (gI h 51 0 n)) false
            · rw [if_pos (show bit01 false = 0 from rfl)]
              exact fin g1 false eg1 (by rw [e2, u3, u4]; rfl)
            · rw [if_neg (show ¬ bit01 true = 0 by decide)]
              exact fin g1 true eg1 (by rw [e2, u3, u4]; rfl)
          · rw [if_neg (show ¬ bit01 true = 0 by decide)]
            exact fin g1 true eg1 (by rw [e2, u3]; rfl)
        · have e2 : G n false = (G (cl (gI h 50 0 n)) false && G (cl (gI h 51 0 n)) false) := by
            rw [ge false]; unfold cw; rw [if_neg k33, if_pos kk, if_pos (decide_eq_false k38)]
          rw [if_neg k38]
          refine ⟨ha', ?_⟩
          cases u3 : G (cl (gI h 50 0 n)) false
          · rw [if_pos (show bit01 false = 0 from rfl)]
            exact fin g1 false eg1 (by rw [e2, u3]; rfl)
          · rw [if_neg (show ¬ bit01 true = 0 by decide)]
            refine ⟨hb', ?_⟩
            cases u4 : G (cl (gI h 51 0 n)) false
            · rw [if_pos (show bit01 false = 0 from rfl)]
              exact fin g1 false eg1 (by rw [e2, u3, u4]; rfl)
            · rw [if_neg (show ¬ bit01 true = 0 by decide)]
              exact fin g1 true eg1 (by rw [e2, u3, u4]; rfl)
      rw [if_neg k33, ip_1 kk, if_neg (by decide)]
      unfold wp_X11_isPossible_b56 wp_X11_isPossible_b61 wp_X11_isPossible_b89 wp_X11_isPossible_b155 wp_X11_isPossible_b178
      rw [ip_1 kk, if_neg (by decide), cn', A1.I 51 0 n]
      refine ⟨vn, ?_⟩
      rw [if_neg (by decide), if_neg k33, show (gI h 50 0 n).toNatClampNeg = cl (gI h 50 0 n) from rfl, show (gI h 51 0 n).toNatClampNeg = cl (gI h 51 0 n) from rfl, x1, y1]
      by_cases k38 : gI h 49 0 n = 38
      · have e1 : G n true = (G (cl (gI h 50 0 n)) true && G (cl (gI h 51 0 n)) true) := by
          rw [ge true]; unfold cw; rw [if_neg k33, if_pos kk, if_pos (decide_eq_true k38)]
        rw [if_pos k38]
        refine ⟨ha', ?_⟩
        cases u3 : G (cl (gI h 50 0 n)) true
        · rw [if_pos (show bit01 false = 0 from rfl)]
          exact half2 false (by rw [e1, u3]; rfl)
        · rw [if_neg (show ¬ bit01 true = 0 by decide)]
          refine ⟨hb', ?_⟩
          cases u4 : G (cl (gI h 51 0 n)) true
          · rw [if_pos (show bit01 false = 0 from rfl)]
            exact half2 false (by rw [e1, u3, u4]; rfl)
          · rw [if_neg (show ¬ bit01 true = 0 by decide)]
            exact half2 true (by rw [e1, u3, u4]; rfl)
      · have e1 : G n true = (G (cl (gI h 50 0 n)) true || G (cl (gI h 51 0 n)) true) := by
          rw [ge true]; unfold cw; rw [if_neg k33, if_pos kk, if_neg (by rw [decide_eq_false k38]; decide)]
        rw [if_neg k38]
        refine ⟨ha', ?_⟩
        cases u3 : G (cl (gI h 50 0 n)) true
        · rw [if_pos (show bit01 false = 0 from rfl)]
          refine ⟨hb', ?_⟩
          cases u4 : G (cl (gI h 51 0 n)) true
          · rw [if_pos (show bit01 false = 0 from rfl)]
            exact half2 false (by rw [e1, u3, u4]; rfl)
          · rw [if_neg (show ¬ bit01 true = 0 by decide)]
            exact half2 true (by rw [e1, u3, u4]; rfl)
        · rw [if_neg (show ¬ bit01 true = 0 by decide)]
          exact half2 true (by rw [e1, u3]; rfl)
  · have o := StV_lf vv m
    have m' := m
    unfold mk at m'
    simp only [not_or] at m'
    have np : ¬ (gI h 49 0 n = 38 ∨ gI h 49 0 n = 124) := fun q => by rcases q with q | q; exact m'.2.1 q; exact m'.2.2 q
    rw [if_neg m'.1, ip_0 np, if_pos rfl]
    unfold wp_X11_isPossible_b61 wp_X11_isPossible_b89 wp_X11_isPossible_b183 LET
    rw [ip_0 np, if_pos rfl, if_pos rfl, if_pos rfl]
    refine cbe_w (p := true) (by rw [w1]; exact V) hsz o ?_
    rw [vnb, cn', w1, w2]
    simp only [forall_eq]
    refine ⟨vn, ?_⟩
    rw [if_pos trivial]
    refine cbe_w (p := false) (sz := sz) (by
      rw [show gI (sI h1 69 0 n (bit01 (cb (gI h 64 0) (gI h 71 0) (gI h 49 0 n) (gI h 50 0 n) true))) 64 0 = gI h1 64 0 from funext (fun k => gI_o (by omega)), w1]; exact V) hsz o ?_
    rw [show gI (sI h1 69 0 n (bit01 (cb (gI h 64 0) (gI h 71 0) (gI h 49 0 n) (gI h 50 0 n) true))) 64 0 = gI h1 64 0 from funext (fun k => gI_o (by omega)), show gI (sI h1 69 0 n (bit01 (cb (gI h 64 0) (gI h 71 0) (gI h 49 0 n) (gI h 50 0 n) true))) 71 0 = gI h1 71 0 from funext (fun k => gI_o (by omega)), w1, w2]
    refine fin _ _ ?_ ?_
    · rw [ge true]; unfold cw; rw [if_neg m'.1, if_neg np]
    · rw [ge false]; unfold cw; rw [if_neg m'.1, if_neg np]
