/-! areSame -/
theorem cvs_ext {K A B K' A' B' M : Nat → Int32} {n : Nat} (e : ∀ t, t < n → K t = K' t ∧ A t = A' t ∧ B t = B' t) : ∀ t p, cvs K A B M n t p = cvs K' A' B' M n t p := by
  induction n with
  | zero => intro t p; rfl
  | succ n ih =>
    intro t p
    have ih' := ih (fun t ht => e t (by omega))
    have ef : cvs K A B M n = cvs K' A' B' M n := funext (fun t => funext (fun p => ih' t p))
    obtain ⟨e1, e2, e3⟩ := e n (by omega)
    simp only [cvs]
    rw [ef, e1, e2, e3]
theorem cv_ext {K A B K' A' B' M : Nat → Int32} {nt t : Nat} {p : Bool} (e : ∀ t, t < nt → K t = K' t ∧ A t = A' t ∧ B t = B' t) (ht : t < nt) : cv K A B M t p = cv K' A' B' M t p := cvs_ext (fun x hx => e x (by omega)) t p
theorem STest.cv {nt t : Nat} {h : Hp} {M : Nat → Int32} {p : Bool} (s : STest nt h) (ht : t < nt) : cvh h M t p = cv (gI h 49 0) (gI h 50 0) (gI h 51 0) M t p :=
  cv_ext (fun x hx => by obtain ⟨q1, q2, q3, -⟩ := s.2.2.2.1 x hx; exact ⟨q1, q2, q3⟩) ht
theorem STest.tvm {nt : Nat} {h : Hp} (s : STest nt h) : TV (gI h 49 0) (gI h 50 0) (gI h 51 0) nt := ⟨s.1, fun t ht => s.vM ht⟩
theorem one_bit {t : Nat} (ht : t < 64) (x : Nat) : bJ ((1 : Int64) <<< ((nI t).toInt64 &&& 63)) x = decide (t = x) := bJ_sh ht x
theorem ctJ0 : ct (bJ 0) 60 = 0 := by decide +kernel
theorem two_bits {t u : Nat} (ht : t < 60) (hu : u < 60) : ct (bJ (((1 : Int64) <<< ((nI t).toInt64 &&& 63)) ||| ((1 : Int64) <<< ((nI u).toInt64 &&& 63)))) 60 ≤ 12 := by
  have c1 := ct_set (x := 0) (y := (1 : Int64) <<< ((nI t).toInt64 &&& 63)) (t := t) (n := 60) (fun i e => by rw [one_bit (by omega)] at e; right; simpa using (of_decide_eq_true e).symm)
  have c2 := ct_set (x := (1 : Int64) <<< ((nI t).toInt64 &&& 63)) (y := ((1 : Int64) <<< ((nI t).toInt64 &&& 63)) ||| ((1 : Int64) <<< ((nI u).toInt64 &&& 63))) (t := u) (n := 60) (fun i e => by
    rw [bJ_or, one_bit (t := u) (by omega)] at e
    simp only [Bool.or_eq_true] at e
    rcases e with e | e
    · exact Or.inl e
    · exact Or.inr (of_decide_eq_true e).symm)
  have := ctJ0
  omega
theorem poss_pair {h : Hp} {nt t u : Nat} (n60 : nt ≤ 60) (ht : t < nt) (hu : u < nt) : POSS h nt ((1 : Int64) <<< ((nI t).toInt64 &&& 63)) ((1 : Int64) <<< ((nI u).toInt64 &&& 63)) ↔ ∃ M, VM M ∧ cvh h M t true = true ∧ cvh h M u false = true := by
  constructor
  · rintro ⟨M, v, g⟩
    exact ⟨M, v, g true t ht (by show bJ _ t = true; rw [one_bit (by omega)]; simp), g false u hu (by show bJ _ u = true; rw [one_bit (by omega)]; simp)⟩
  · rintro ⟨M, v, g1, g2⟩
    refine ⟨M, v, fun p x hx e => ?_⟩
    cases p
    · have e : bJ _ x = true := e
      rw [one_bit (by omega)] at e
      rw [← of_decide_eq_true e]; exact g2
    · have e : bJ _ x = true := e
      rw [one_bit (by omega)] at e
      rw [← of_decide_eq_true e]; exact g1
theorem wn_w {h : Hp} {Q : Hp → Prop} (f : ∀ h', ag (wS [68, 72] [(11, 65), (11, 66)]) h h' → (∀ t, t < 60 → gI h' 68 0 t = 0 ∧ gI h' 72 0 t = 0) → gI h' 11 0 65 = -1 → gI h' 11 0 66 = -1 → Q h') : wp_X11_wantsNothing h Q := by
  unfold wp_X11_wantsNothing wp_X11_wantsNothing_b2
  refine LFP2.by (I := fun y h1 => ∃ n, n ≤ 60 ∧ y = nI n ∧ ag (wS [68, 72] []) h h1 ∧ ∀ t, t < n → gI h1 68 0 t = 0 ∧ gI h1 72 0 t = 0) (μ := fun y _ => 60 - y.toNatClampNeg) ⟨0, by omega, rfl, ag.rfl, fun t ht => by omega⟩ ?_
  rintro y h1 ⟨n, hn, rfl, A1, C⟩ P hP
  unfold wp_X11_wantsNothing_b2F LET
  simp only [forall_eq]
  by_cases c : n = 60
  · subst c
    rw [if_pos (by decide)]
    refine f _ (((A1.mono (wS_mono (by decide) (by decide))).sI rfl).sI rfl) (fun t ht => by rw [gI_o (by omega), gI_o (by omega), gI_o (by omega), gI_o (by omega)]; exact C t ht) (by rw [gI_o (by omega), gI_e]) gI_e
  · rw [if_neg (show ¬ (60 : Int32) ≤ nI n from nI_ge (b := 60) (show n < 60 by omega) (by omega)), nI_clamp (by omega), show vp_nar .boolean 0 = 0 from vnb false]
    refine ⟨vp_in_nI (by omega) (by decide), ?_⟩
    refine hP _ _ ⟨n + 1, by omega, nI_1 n, (A1.sI rfl).sI rfl, fun t ht => ?_⟩ (by rw [nI_1, nI_clamp (by omega), nI_clamp (by omega)]; omega)
    by_cases e : t = n
    · rw [e, gI_o (by omega), gI_e, gI_e]; exact ⟨rfl, rfl⟩
    · rw [gI_o (by omega), gI_o (by omega), gI_o (by omega), gI_o (by omega)]; exact C t (by omega)
theorem c_areSame {i : Nat} {h : Hp} (S : Sim i h) (p1 p2 : Int32) {K : Int32 → Int32 → Hp → Prop} (hK : SKB i K) :
    wp_L_areSame p1 p2 h (fun r h1 => wp_X11_areSame p1 p2 h1 (fun b h2 => K r b h2)) := by
  unfold wp_L_areSame wp_X10_areSame wp_X11_areSame wp_X11_areSame_b21 wp_X11_areSame_b22 wp_L_areSame_b16 LET
  obtain ⟨d, nm, nt, hd, s1, s2, s3, s4, s5, s6, s7⟩ := id S
  obtain ⟨n60, u1, u2, -⟩ := id s5
  by_cases a1 : inN p1 nt
  case neg =>
    simp [rb_0 nt a1 u1 (by omega), it_0 u2 n60 a1, gI_sI, gI_sJ, gI_sR, gI_sD, gJ_sI, gJ_sJ, gJ_sR, gJ_sD, gR_sI, gR_sJ, gR_sR, gR_sD, gD_sI, gD_sJ, gD_sR, gD_sD]
    exact hK.go (h := h) (wS [75, 76] [(11, 0)]) (by repeat first | exact ag.rfl | refine ag.sI ?_ rfl | refine ag.sJ ?_ rfl | refine ag.sR ?_ rfl | refine ag.sD ?_ rfl) (fun A => S.quiet A) (by simp [gI_sI, gI_sJ, gI_sR, gI_sD, gJ_sI, gJ_sJ, gJ_sR, gJ_sD, gR_sI, gR_sJ, gR_sR, gR_sD, gD_sI, gD_sJ, gD_sR, gD_sD]) (fun q => by cases q)
  by_cases a2 : inN p2 nt
  case neg =>
    simp [rb_1 nt a1 u1 (by omega), rb_0 nt a2 u1 (by omega), it_1 u2 n60 a1, it_0 u2 n60 a2, gI_sI, gI_sJ, gI_sR, gI_sD, gJ_sI, gJ_sJ, gJ_sR, gJ_sD, gR_sI, gR_sJ, gR_sR, gR_sD, gD_sI, gD_sJ, gD_sR, gD_sD]
    exact hK.go (h := h) (wS [75, 76] [(11, 0)]) (by repeat first | exact ag.rfl | refine ag.sI ?_ rfl | refine ag.sJ ?_ rfl | refine ag.sR ?_ rfl | refine ag.sD ?_ rfl) (fun A => S.quiet A) (by simp [gI_sI, gI_sJ, gI_sR, gI_sD, gJ_sI, gJ_sJ, gJ_sR, gJ_sD, gR_sI, gR_sJ, gR_sR, gR_sD, gD_sI, gD_sJ, gD_sR, gD_sD]) (fun q => by cases q)
  obtain ⟨t, ht, rfl⟩ := id a1
  obtain ⟨u, hu, rfl⟩ := id a2
  rw [rb_1 nt a1 u1 (by omega), rb_1 nt a2 u1 (by omega)]
  have ob : ∀ a b, a < nt → b < nt → ∀ q x, pb ((1 : Int64) <<< ((nI a).toInt64 &&& 63)) ((1 : Int64) <<< ((nI b).toInt64 &&& 63)) q x = true → x < nt := fun a b ha hb q x e => by
    cases q
    · have e : bJ _ x = true := e
      rw [one_bit (by omega)] at e
      rw [← of_decide_eq_true e]; exact hb
    · have e : bJ _ x = true := e
      rw [one_bit (by omega)] at e
      rw [← of_decide_eq_true e]; exact ha
  have ct' : cl (nI t) = t := nI_clamp (by omega)
  have cu' : cl (nI u) = u := nI_clamp (by omega)
  -- the model, and both together
  have model : ∀ (w : Bool) h1, ag (wS [4, 8, 28] []) h h1 → (w = true ↔ ¬ (POSS h nt ((1 : Int64) <<< ((nI t).toInt64 &&& 63)) ((1 : Int64) <<< ((nI u).toInt64 &&& 63)) ∨ POSS h nt ((1 : Int64) <<< ((nI u).toInt64 &&& 63)) ((1 : Int64) <<< ((nI t).toInt64 &&& 63)))) → ∀ v, v = (bit01 w).toInt64 →
      wp_X11_isTest (nI t) (sJ h1 75 0 0 v) (fun r1 => if r1 = 0 then ∀ y, y = sI (sJ h1 75 0 0 v) 11 0 0 1 → if gI y 11 0 0 ≤ 0 then wp_X11_wantsNothing y (fun h3 => vp_in (nI t) 60 ∧ ∀ y, y = sI h3 68 0 (nI t).toNatClampNeg (vp_nar .boolean 1) → vp_in (nI u) 60 ∧ ∀ y_1, y_1 = sI y 68 0 (nI u).toNatClampNeg (vp_nar .boolean 1) → ∀ y, y = sI y_1 11 0 65 (nI t) → ∀ y_2, y_2 = sI y 11 0 66 (nI u) → wp_X11_isSome y_2 (fun r10 h11 => if r10 = 0 then K 0 1 h11 else K 0 0 h11)) else K 0 0 y
        else wp_X11_isTest (nI u) (sJ h1 75 0 0 v) (fun r3 => if r3 = 0 then ∀ y, y = sI (sJ h1 75 0 0 v) 11 0 0 1 → if gI y 11 0 0 ≤ 0 then wp_X11_wantsNothing y (fun h3 => vp_in (nI t) 60 ∧ ∀ y, y = sI h3 68 0 (nI t).toNatClampNeg (vp_nar .boolean 1) → vp_in (nI u) 60 ∧ ∀ y_1, y_1 = sI y 68 0 (nI u).toNatClampNeg (vp_nar .boolean 1) → ∀ y, y = sI y_1 11 0 65 (nI t) → ∀ y_2, y_2 = sI y 11 0 66 (nI u) → wp_X11_isSome y_2 (fun r10 h11 => if r10 = 0 then K 0 1 h11 else K 0 0 h11)) else K 0 0 y
          else ∀ y, y = sI (sJ h1 75 0 0 v) 11 0 0 0 → if gI y 11 0 0 ≤ 0 then wp_X11_wantsNothing y (fun h3 => vp_in (nI t) 60 ∧ ∀ y, y = sI h3 68 0 (nI t).toNatClampNeg (vp_nar .boolean 1) → vp_in (nI u) 60 ∧ ∀ y_1, y_1 = sI y 68 0 (nI u).toNatClampNeg (vp_nar .boolean 1) → ∀ y, y = sI y_1 11 0 65 (nI t) → ∀ y_2, y_2 = sI y 11 0 66 (nI u) → wp_X11_isSome y_2 (fun r10 h11 => if r10 = 0 then K 0 1 h11 else K 0 0 h11)) else K 0 0 y)) := by
    intro w h1 A1 hw v hv
    have f2 : gI (sJ h1 75 0 0 v) 11 0 19 = nI nt := by simp only [gI_sI, gI_sJ, gI_sR, gI_sD, gJ_sI, gJ_sJ, gJ_sR, gJ_sD, gR_sI, gR_sJ, gR_sR, gR_sD, gD_sI, gD_sJ, gD_sR, gD_sD]; rw [A1.I 11 0 19]; exact u2
    rw [it_1 f2 n60 a1, if_neg (by decide), it_1 f2 n60 a2, if_neg (by decide)]
    rintro y rfl
    rw [if_pos (by rw [gI_e]; decide)]
    refine wn_w (fun h3 A3 z68 z65 z66 => ?_)
    refine ⟨vp_in_nI (by omega) (by decide), ?_⟩
    rintro y rfl
    refine ⟨vp_in_nI (by omega) (by decide), ?_⟩
    rintro y rfl y rfl y rfl
    rw [show vp_nar .boolean 1 = 1 from vnb true, nI_clamp (show t < 2 ^ 31 by omega), nI_clamp (show u < 2 ^ 31 by omega)]
    have A4 : ag (wS [4, 8, 28, 68, 72, 75] [(11, 0), (11, 65), (11, 66)]) h (sI (sI (sI (sI h3 68 0 t 1) 68 0 u 1) 11 0 65 (nI t)) 11 0 66 (nI u)) :=
      (((((show ag (wS [4, 8, 28, 68, 72, 75] [(11, 0), (11, 65), (11, 66)]) h (sI (sJ h1 75 0 0 v) 11 0 0 0) from ((A1.mono (wS_mono (by decide) (by decide))).sJ rfl).sI rfl).trans (A3.mono (wS_mono (by decide) (by decide)))).sI rfl).sI rfl).sI rfl).sI rfl
    have c0 : gI (sI (sI (sI (sI h3 68 0 t 1) 68 0 u 1) 11 0 65 (nI t)) 11 0 66 (nI u)) 11 0 0 = 0 := by
      rw [gI_o (by omega), gI_o (by omega), gI_o (by omega), gI_o (by omega), A3.I 11 0 0, gI_e]
    have o0 : gJ (sI (sI (sI (sI h3 68 0 t 1) 68 0 u 1) 11 0 65 (nI t)) 11 0 66 (nI u)) 75 0 0 = v := by
      simp only [gJ_sI]
      rw [A3.J 75 0 0]
      simp [gI_sI, gI_sJ, gI_sR, gI_sD, gJ_sI, gJ_sJ, gJ_sR, gJ_sD, gR_sI, gR_sJ, gR_sR, gR_sD, gD_sI, gD_sJ, gD_sR, gD_sD]
    have e65 : gI (sI (sI (sI (sI h3 68 0 t 1) 68 0 u 1) 11 0 65 (nI t)) 11 0 66 (nI u)) 11 0 65 = nI t := by rw [gI_o (by omega), gI_e]
    have e66 : gI (sI (sI (sI (sI h3 68 0 t 1) 68 0 u 1) 11 0 65 (nI t)) 11 0 66 (nI u)) 11 0 66 = nI u := gI_e
    have e68 : ∀ x, gI (sI (sI (sI (sI h3 68 0 t 1) 68 0 u 1) 11 0 65 (nI t)) 11 0 66 (nI u)) 68 0 x = if x = t ∨ x = u then 1 else gI h3 68 0 x := fun x => by
      rw [gI_o (by omega), gI_o (by omega)]
      by_cases xu : x = u
      · rw [xu, gI_e, if_pos (Or.inr rfl)]
      · rw [gI_o (by omega)]
        by_cases xt : x = t
        · rw [xt, gI_e, if_pos (Or.inl rfl)]
        · rw [gI_o (by omega), if_neg (fun q => by rcases q with q | q; exact xt q; exact xu q)]
    have e72 : ∀ x, x < 60 → gI (sI (sI (sI (sI h3 68 0 t 1) 68 0 u 1) 11 0 65 (nI t)) 11 0 66 (nI u)) 72 0 x = 0 := fun x hx => by
      rw [gI_o (by omega), gI_o (by omega), gI_o (by omega), gI_o (by omega)]
      exact (z68 x hx).2
    generalize sI (sI (sI (sI h3 68 0 t 1) 68 0 u 1) 11 0 65 (nI t)) 11 0 66 (nI u) = h4 at *
    have k49 : gI h4 49 0 = gI h 49 0 := funext (fun x => A4.I 49 0 x)
    have k50 : gI h4 50 0 = gI h 50 0 := funext (fun x => A4.I 50 0 x)
    have k51 : gI h4 51 0 = gI h 51 0 := funext (fun x => A4.I 51 0 x)
    refine some_w (nd0 := fun x => decide (x = t ∨ x = u)) (wH := fun _ => false) (wF := fun _ => false) (nt := nt) (by rw [k49, k50, k51]; exact s5.tvm) (by rw [A4.I 11 0 19]; exact u2) (fun x hx => ?_) (fun x e => ?_) (fun x hx => by rw [e72 x (by omega)]; rfl) (fun x e => by rcases e with e | e <;> cases e) (Or.inr ?_) (fun r h5 A5 z => ?_)
    · rw [e68]
      by_cases q : x = t ∨ x = u
      · rw [if_pos q, decide_eq_true q]; rfl
      · rw [if_neg q, decide_eq_false q, (z68 x hx).1]; rfl
    · rcases of_decide_eq_true e with q | q
      · rw [q]; exact ht
      · rw [q]; exact hu
    · rw [e65, e66, ct', cu']
      exact ⟨⟨t, by omega, rfl⟩, ⟨u, by omega, rfl⟩, by simp, by simp⟩
    · have AA : ag (wS [4, 8, 28, 64, 65, 66, 67, 68, 69, 70, 71, 72, 75] [(11, 0), (11, 58), (11, 62), (11, 65), (11, 66)]) h h5 := (A4.mono (wS_mono (by decide) (by decide))).trans (A5.mono (wS_mono (by decide) (by decide)))
      have want : WANT h4 nt (fun _ => false) (fun _ => false) (gI h4 11 0 65) (gI h4 11 0 66) ↔ (POSS h nt ((1 : Int64) <<< ((nI t).toInt64 &&& 63)) ((1 : Int64) <<< ((nI u).toInt64 &&& 63)) ∨ POSS h nt ((1 : Int64) <<< ((nI u).toInt64 &&& 63)) ((1 : Int64) <<< ((nI t).toInt64 &&& 63))) := by
        rw [poss_pair n60 ht hu, poss_pair n60 hu ht]
        unfold WANT GL
        rw [k49, k50, k51, e65, e66, ct', cu']
        have n1 : ¬ nI t = -1 := nI_nm1 (by omega)
        constructor
        · rintro ⟨M, v, -, g⟩
          rcases g with g | g | g
          · exact absurd g n1
          · exact Or.inl ⟨M, v, by rw [s5.cv ht]; exact g.1, by rw [s5.cv hu]; exact g.2⟩
          · exact Or.inr ⟨M, v, by rw [s5.cv hu]; exact g.2, by rw [s5.cv ht]; exact g.1⟩
        · rintro (⟨M, v, g1, g2⟩ | ⟨M, v, g1, g2⟩)
          · rw [s5.cv ht] at g1; rw [s5.cv hu] at g2
            exact ⟨M, v, fun _ _ _ => ⟨fun q => (by cases q), fun q => (by cases q)⟩, Or.inr (Or.inl ⟨g1, g2⟩)⟩
          · rw [s5.cv hu] at g1; rw [s5.cv ht] at g2
            exact ⟨M, v, fun _ _ _ => ⟨fun q => (by cases q), fun q => (by cases q)⟩, Or.inr (Or.inr ⟨g2, g1⟩)⟩
      rw [want] at z
      have fin : K 0 (bit01 w) h5 := hK.go _ AA (fun A => (S.stay A (wS_dis (by decide))).mono (by omega)) (by rw [A5.I 11 0 0]; exact c0) (fun _ => ⟨by cases w; exact Or.inl rfl; exact Or.inr rfl, by rw [A5.J 75 0 0, o0, hv]⟩)
      rcases z with ⟨rfl, z⟩ | ⟨rfl, z⟩
      · rw [if_neg (by decide)]
        have : w = false := by
          cases w
          · rfl
          · exact absurd z (hw.mp rfl)
        rw [this] at fin
        exact fin
      · rw [if_pos rfl]
        rw [hw.mpr z] at fin
        exact fin
  refine isp_w s5.tt ag.rfl u1 (ob t u ht hu) (two_bits (by omega) (by omega)) (fun r h1 A1 z1 => ?_)
  rcases z1 with ⟨rfl, z1⟩ | ⟨rfl, z1⟩
  · rw [if_neg (by decide)]
    refine ⟨z_in ▸ trivial, ?_⟩
    rintro y rfl
    rw [z_cl]
    exact model false h1 A1 ⟨fun q => (by cases q), fun q => absurd (Or.inl z1) q⟩ _ rfl
  · rw [if_pos rfl]
    refine isp_w (h0 := h) s5.tt A1 u1 (ob u t hu ht) (two_bits (by omega) (by omega)) (fun r h2 A2 z2 => ?_)
    rcases z2 with ⟨rfl, z2⟩ | ⟨rfl, z2⟩
    · rw [if_neg (by decide)]
      refine ⟨z_in ▸ trivial, ?_⟩
      rintro y rfl
      rw [z_cl]
      exact model false h2 A2 ⟨fun q => (by cases q), fun q => absurd (Or.inr z2) q⟩ _ rfl
    · rw [if_pos rfl]
      refine ⟨z_in ▸ trivial, ?_⟩
      rintro y rfl
      rw [z_cl]
      exact model true h2 A2 ⟨fun _ q => q.elim z1 z2, fun _ => rfl⟩ _ rfl
