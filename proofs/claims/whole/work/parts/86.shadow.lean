/-! isShadowed -/
def esN (g : Nat → Int32) : Nat → Bool
  | 0 => false
  | n + 1 => esN g n || (decide (g n = 115) || decide (g n = 83))
theorem esN_in {g : Nat → Int32} {a : Nat} : ∀ n, a < n → (g a = 115 ∨ g a = 83) → esN g n = true := by
  intro n
  induction n with
  | zero => intro h; omega
  | succ n ih =>
    intro h k
    simp only [esN]
    by_cases e : a = n
    · subst e
      rcases k with k | k <;> simp [k]
    · rw [ih (by omega) k]; rfl
theorem esN_ext {g g' : Nat → Int32} : ∀ n, (∀ a, a < n → g a = g' a) → esN g n = esN g' n := by
  intro n
  induction n with
  | zero => intro _; rfl
  | succ n ih => intro h; simp only [esN]; rw [ih (fun a ha => h a (by omega)), h n (by omega)]
theorem es_w {q cn : Nat} {h : Hp} {Q : Int32 → Prop} (e3 : gI h 6 q 3 = nI cn) (hc : cn ≤ 5) (f : Q (bit01 (esN (gI h 23 q) cn))) : wp_X6_endsScript q h Q := by
  unfold wp_X6_endsScript wp_X6_endsScript_b2
  refine LFP1.by (I := fun y => ∃ n, n ≤ cn ∧ y = nI n ∧ esN (gI h 23 q) n = false) (μ := fun y => 5 - y.toNatClampNeg) ⟨0, by omega, rfl, rfl⟩ ?_
  rintro y ⟨n, hn, rfl, no⟩ P hP
  unfold wp_X6_endsScript_b2F LET
  rw [e3]
  by_cases c : n = cn
  · subst c
    rw [if_pos (nI_le (Nat.le_refl _) (by omega))]
    rw [no] at f
    exact f
  rw [if_neg (nI_ge (show n < cn by omega) (by omega)), nI_clamp (by omega)]
  refine ⟨vp_in_nI (by omega) (by decide), ?_⟩
  by_cases k1 : gI h 23 q n = 115
  · rw [if_pos k1]
    rw [esN_in cn (show n < cn by omega) (Or.inl k1)] at f
    exact f
  rw [if_neg k1]
  by_cases k2 : gI h 23 q n = 83
  · rw [if_pos k2]
    rw [esN_in cn (show n < cn by omega) (Or.inr k2)] at f
    exact f
  rw [if_neg k2]
  rintro y rfl
  refine hP _ ⟨n + 1, by omega, nI_1 n, ?_⟩ (by rw [nI_1, nI_clamp (by omega), nI_clamp (by omega)]; omega)
  simp only [esN]
  rw [no, decide_eq_false k1, decide_eq_false k2]
  rfl
theorem em_w {p cn : Nat} {h : Hp} {Q : Int32 → Prop} (hp : p < 48) (e3 : gI h 55 0 p = nI cn) (hc : cn ≤ 5) (f : Q (bit01 (esN (fun a => gI h 56 0 (5 * p + a)) cn))) : wp_X11_ends (nI p) h Q := by
  unfold wp_X11_ends wp_X11_ends_b2
  refine LFP1.by (I := fun y => ∃ n, n ≤ cn ∧ y = nI n ∧ esN (fun a => gI h 56 0 (5 * p + a)) n = false) (μ := fun y => 5 - y.toNatClampNeg) ⟨0, by omega, rfl, rfl⟩ ?_
  rintro y ⟨n, hn, rfl, no⟩ P hP
  unfold wp_X11_ends_b2F LET
  rw [nI_clamp (show p < 2 ^ 31 by omega), e3]
  refine ⟨vp_in_nI hp (by decide), ?_⟩
  by_cases c : n = cn
  · subst c
    rw [if_pos (nI_le (Nat.le_refl _) (by omega))]
    rw [no] at f
    exact f
  rw [if_neg (nI_ge (show n < cn by omega) (by omega)), ix5, nI_clamp (by omega)]
  refine ⟨vp_in_nI (by omega) (by decide), ?_⟩
  by_cases k1 : gI h 56 0 (5 * p + n) = 115
  · rw [if_pos k1]
    rw [esN_in cn (show n < cn by omega) (Or.inl k1)] at f
    exact f
  rw [if_neg k1]
  by_cases k2 : gI h 56 0 (5 * p + n) = 83
  · rw [if_pos k2]
    rw [esN_in cn (show n < cn by omega) (Or.inr k2)] at f
    exact f
  rw [if_neg k2]
  rintro y rfl
  refine hP _ ⟨n + 1, by omega, nI_1 n, ?_⟩ (by rw [nI_1, nI_clamp (by omega), nI_clamp (by omega)]; omega)
  simp only [esN]
  rw [no, decide_eq_false k1, decide_eq_false k2]
  rfl
/-- does the rule end its script; its test; which tests end it before the rule k -/
def ES (h : Hp) (s r : Nat) : Bool := esN (fun a => gI h 56 0 (5 * (12 * s + r) + a)) (cl (gI h 55 0 (12 * s + r)))
def tst (h : Hp) (s r : Nat) : Nat := cl (gI h 54 0 (12 * s + r))
def wFn (h : Hp) (s : Nat) : Nat → Nat → Bool
  | 0, _ => false
  | k + 1, t => wFn h s k t || (ES h s k && decide (tst h s k = t))
theorem wFn_iff {h : Hp} {s : Nat} : ∀ k t, wFn h s k t = true ↔ ∃ i, i < k ∧ ES h s i = true ∧ tst h s i = t := by
  intro k
  induction k with
  | zero => intro t; simp [wFn]
  | succ k ih =>
    intro t
    simp only [wFn, Bool.or_eq_true, Bool.and_eq_true, decide_eq_true_eq, ih]
    constructor
    · rintro (⟨i, hi, e⟩ | e)
      · exact ⟨i, by omega, e⟩
      · exact ⟨k, by omega, e⟩
    · rintro ⟨i, hi, e⟩
      by_cases z : i = k
      · subst z; exact Or.inr e
      · exact Or.inl ⟨i, by omega, e⟩
/-- the rule can be come to -/
def NDP (h : Hp) (s r : Nat) : Prop := ∃ M, VM M ∧ cv (gI h 49 0) (gI h 50 0) (gI h 51 0) M (tst h s r) true = true ∧ ∀ i, i < r → ES h s i = true → cv (gI h 49 0) (gI h 50 0) (gI h 51 0) M (tst h s i) false = true
theorem SScr.rr {nt : Nat} {h : Hp} (s6 : SScr nt h) {s : Nat} (hs : s < 4) : ∃ nr, nr ≤ 12 ∧ gI h 7 s 1 = nI nr ∧ gI h 53 0 s = nI nr ∧ ∀ r, r < nr → ∃ q t cn, gR h 22 s r = q + 1 ∧ q < 48 ∧ gI h 6 q 2 = nI t ∧ gI h 54 0 (12 * s + r) = nI t ∧ t < nt ∧ RE h q (12 * s + r) cn := by
  obtain ⟨nr, t1, t2, t3, q, t4, t5, t6⟩ := s6 s hs
  refine ⟨nr, t1, t2, t3, fun r hr => ?_⟩
  obtain ⟨x1, x2, ⟨t, ht, x3⟩, c, y1, y2, y3⟩ := t6 r hr
  obtain ⟨v1, v2, v3⟩ := t4 r (by omega)
  exact ⟨q r, t, c, v1, by omega, by rw [x1, x3], x3, ht, y1, by rw [x2, y2], y2, y3⟩
theorem nd_w {nt nr s r : Nat} {h h' : Hp} {Q : Int32 → Hp → Prop} (s5 : STest nt h) (s6 : SScr nt h) (A : ag (wS [0, 4, 5, 8, 25, 26, 27, 28] []) h h') (hs : s < 4) (e7 : gI h 7 s 1 = nI nr) (h12 : nr ≤ 12) (hr : r < nr)
    (f : ∀ v h'', ag (wS [4, 8, 28] []) h' h'' → (v = 1 ∧ ¬ NDP h s r ∨ v = 0 ∧ NDP h s r) → Q v h'') : wp_X10_isNeverDone (nI s) (nI r) h' Q := by
  have n60 := s5.1
  have s5' : STest nt h' := s5.ag A (wS_dis (by decide))
  obtain ⟨nr', t1, t2, t3, t4⟩ := s6.rr hs
  have enr : nr' = nr := (nI_eq (by omega) (by omega)).mp (by rw [← t2, e7])
  subst enr
  have tsl : ∀ i, i < nr' → tst h s i < nt := fun i hi => by
    obtain ⟨q, t, cn, g1, g2, g3, g4, g5, E⟩ := t4 i hi
    unfold tst
    rw [g4, show cl (nI t) = t from nI_clamp (by omega)]; exact g5
  unfold wp_X10_isNeverDone wp_X10_isNeverDone_b16
  refine ⟨vp_in_nI hs (by decide), ?_⟩
  rw [nI_clamp (show s < 2 ^ 31 by omega)]
  refine LFP3.by (I := fun x y h1 => h1 = h' ∧ ∃ k, k ≤ r ∧ y = nI k ∧ (∀ t, t < 64 → bJ x t = wFn h s k t) ∧ ct (bJ x) 60 ≤ k) (μ := fun _ y _ => 12 - y.toNatClampNeg) ⟨rfl, 0, by omega, rfl, fun t _ => bJ_0 t, by rw [ctJ0]; exact Nat.le_refl _⟩ ?_
  rintro x y h1 ⟨rfl, k, hk, rfl, bx, cx⟩ P hP
  unfold wp_X10_isNeverDone_b16F wp_X10_isNeverDone_b46 LET
  simp only [forall_eq]
  by_cases c : k = r
  · subst c
    obtain ⟨q, t, cn, g1, g2, g3, g4, g5, E⟩ := t4 k hr
    have et : tst h s k = t := by unfold tst; rw [g4]; exact nI_clamp (by omega)
    rw [if_pos (nI_le (Nat.le_refl _) (by omega)), nI_clamp (show k < 2 ^ 31 by omega), A.R 22 s k, g1, dref g2, A.I 6 q 2, g3]
    refine ⟨vp_in_nI (by omega) (by decide), ?_⟩
    have ob : ∀ p z, pb ((1 : Int64) <<< ((nI t).toInt64 &&& 63)) x p z = true → z < nt := fun p z e => by
      cases p
      · have e : bJ x z = true := e
        rcases Nat.lt_or_ge z 64 with l | l
        · rw [bx z l, wFn_iff] at e
          obtain ⟨i, hi, _, ei⟩ := e
          rw [← ei]; exact tsl i (by omega)
        · rw [bJ_big l] at e; cases e
      · have e : bJ _ z = true := e
        rw [one_bit (by omega)] at e
        rw [← of_decide_eq_true e]; exact g5
    have cc : ct (bJ (((1 : Int64) <<< ((nI t).toInt64 &&& 63)) ||| x)) 60 ≤ 12 := by
      have := ct_set (x := x) (y := ((1 : Int64) <<< ((nI t).toInt64 &&& 63)) ||| x) (t := t) (n := 60) (fun i e => by
        rw [bJ_or, one_bit (by omega)] at e
        simp only [Bool.or_eq_true] at e
        rcases e with e | e
        · exact Or.inr (of_decide_eq_true e).symm
        · exact Or.inl e)
      omega
    refine isp_w s5'.tt ag.rfl s5'.2.1 ob cc (fun v h2 A2 z => ?_)
    have eq : POSS h1 nt ((1 : Int64) <<< ((nI t).toInt64 &&& 63)) x ↔ NDP h s k := by
      have cvE : ∀ M z p, z < nt → cvh h1 M z p = cv (gI h 49 0) (gI h 50 0) (gI h 51 0) M z p := fun M z p hz => by
        rw [s5'.cv hz, show gI h1 49 0 = gI h 49 0 from funext (fun k => A.I 49 0 k), show gI h1 50 0 = gI h 50 0 from funext (fun k => A.I 50 0 k), show gI h1 51 0 = gI h 51 0 from funext (fun k => A.I 51 0 k)]
      constructor
      · rintro ⟨M, v, g⟩
        refine ⟨M, v, ?_, fun i hi e => ?_⟩
        · rw [et, ← cvE M t true g5]
          exact g true t g5 (by show bJ _ t = true; rw [one_bit (by omega)]; simp)
        · have li := tsl i (by omega)
          rw [← cvE M _ false li]
          exact g false _ li (by show bJ x _ = true; rw [bx _ (by omega), wFn_iff]; exact ⟨i, hi, e, rfl⟩)
      · rintro ⟨M, v, g1', g2'⟩
        refine ⟨M, v, fun p z hz e => ?_⟩
        rw [cvE M z p hz]
        cases p
        · have e : bJ x z = true := e
          rw [bx z (by omega), wFn_iff] at e
          obtain ⟨i, hi, e1, e2⟩ := e
          rw [← e2]; exact g2' i hi e1
        · have e : bJ _ z = true := e
          rw [one_bit (by omega)] at e
          rw [← of_decide_eq_true e, ← et]; exact g1'
    rw [eq] at z
    rcases z with ⟨rfl, z⟩ | ⟨rfl, z⟩
    · rw [if_neg (by decide)]
      exact f 0 h2 A2 (Or.inr ⟨rfl, z⟩)
    · rw [if_pos rfl]
      exact f 1 h2 A2 (Or.inl ⟨rfl, z⟩)
  · rw [if_neg (nI_ge (show k < r by omega) (by omega)), nI_clamp (show k < 2 ^ 31 by omega)]
    obtain ⟨q, t, cn, g1, g2, g3, g4, g5, E⟩ := t4 k (by omega)
    have et : tst h s k = t := by unfold tst; rw [g4]; exact nI_clamp (by omega)
    have eES : ES h s k = esN (gI h1 23 q) cn := by
      unfold ES
      rw [E.2.2.1, show cl (nI cn) = cn from nI_clamp (by have := E.1; omega)]
      exact esN_ext cn (fun a ha => by rw [A.I 23 q a]; exact (E.2.2.2 a ha).1.symm)
    rw [A.R 22 s k, g1, dref g2, dref g2, A.I 6 q 2, g3]
    refine ⟨vp_in_nI (by omega) (by decide), ?_⟩
    refine es_w (cn := cn) (by rw [A.I 6 q 3]; exact E.2.1) E.1 ?_
    rw [← eES]
    have go : ∀ x', (∀ t, t < 64 → bJ x' t = wFn h s (k + 1) t) → ct (bJ x') 60 ≤ k + 1 → P x' (nI k + 1) h1 := fun x' b c => hP _ _ _ ⟨rfl, k + 1, by omega, nI_1 k, b, c⟩ (by rw [nI_1, nI_clamp (by omega), nI_clamp (by omega)]; omega)
    cases b : ES h s k
    · rw [if_pos (show bit01 false = 0 from rfl)]
      refine go x (fun z hz => ?_) (by omega)
      rw [bx z hz]
      simp only [wFn]
      rw [b]; simp
    · rw [if_neg (show ¬ bit01 true = 0 by decide)]
      have ebx : ∀ z, bJ (x ||| ((1 : Int64) <<< ((nI t).toInt64 &&& 63))) z = (bJ x z || decide (t = z)) := fun z => by rw [bJ_or, one_bit (by omega)]
      refine go _ (fun z hz => ?_) ?_
      · rw [ebx, bx z hz]
        simp only [wFn]
        rw [b, et]; simp
      · have := ct_set (x := x) (y := x ||| ((1 : Int64) <<< ((nI t).toInt64 &&& 63))) (t := t) (n := 60) (fun i e => by
          rw [ebx] at e
          simp only [Bool.or_eq_true] at e
          rcases e with e | e
          · exact Or.inl e
          · exact Or.inr (of_decide_eq_true e).symm)
        omega
theorem wa_w {t : Nat} {v : Int32} {h : Hp} {Q : Hp → Prop} (ht : t < 60) (f : Q (sI (sI h 68 0 t 1) 72 0 t (gI h 72 0 t ||| v))) : wp_X11_wants (nI t) v h Q := by
  unfold wp_X11_wants LET
  refine ⟨vp_in_nI ht (by decide), ?_⟩
  rw [nI_clamp (by omega), show vp_nar .boolean 1 = 1 from vnb true]
  rintro y rfl y rfl
  rw [gI_o (show (72 : Nat) ≠ 68 ∨ _ from Or.inl (by decide))]
  exact f
theorem c_isShadowed {i : Nat} {h : Hp} (S : Sim i h) (p1 p2 : Int32) {K : Int32 → Int32 → Hp → Prop} (hK : SKB i K) :
    wp_L_isShadowed p1 p2 h (fun r h1 => wp_X11_isShadowed p1 p2 h1 (fun b h2 => K r b h2)) := by
  unfold wp_L_isShadowed wp_X10_isShadowed wp_X11_isShadowed wp_X11_isShadowed_b15 wp_L_isShadowed_b16 LET
  obtain ⟨d, nm, nt, hd, s1, s2, s3, s4, s5, s6, s7⟩ := id S
  obtain ⟨n60, u1, u2, -⟩ := id s5
  by_cases a1 : inN p1 4
  case neg =>
    simp [rr_n a1, ir_n a1, gI_sI, gI_sJ, gI_sR, gI_sD, gJ_sI, gJ_sJ, gJ_sR, gJ_sD, gR_sI, gR_sJ, gR_sR, gR_sD, gD_sI, gD_sJ, gD_sR, gD_sD]
    exact hK.go (h := h) (wS [75, 76] [(11, 0)]) (by repeat first | exact ag.rfl | refine ag.sI ?_ rfl | refine ag.sJ ?_ rfl | refine ag.sR ?_ rfl | refine ag.sD ?_ rfl) (fun A => S.quiet A) (by simp [gI_sI, gI_sJ, gI_sR, gI_sD, gJ_sI, gJ_sJ, gJ_sR, gJ_sD, gR_sI, gR_sJ, gR_sR, gR_sD, gD_sI, gD_sJ, gD_sR, gD_sD]) (fun q => by cases q)
  obtain ⟨s, hs, rfl⟩ := id a1
  obtain ⟨nr, t1, t2, t3, t4⟩ := s6.rr hs
  by_cases a2 : inN p2 nr
  case neg =>
    simp [rr_0 hs t1 t2 a2, ir_0 hs t1 t3 a2, gI_sI, gI_sJ, gI_sR, gI_sD, gJ_sI, gJ_sJ, gJ_sR, gJ_sD, gR_sI, gR_sJ, gR_sR, gR_sD, gD_sI, gD_sJ, gD_sR, gD_sD]
    exact hK.go (h := h) (wS [75, 76] [(11, 0)]) (by repeat first | exact ag.rfl | refine ag.sI ?_ rfl | refine ag.sJ ?_ rfl | refine ag.sR ?_ rfl | refine ag.sD ?_ rfl) (fun A => S.quiet A) (by simp [gI_sI, gI_sJ, gI_sR, gI_sD, gJ_sI, gJ_sJ, gJ_sR, gJ_sD, gR_sI, gR_sJ, gR_sR, gR_sD, gD_sI, gD_sJ, gD_sR, gD_sD]) (fun q => by cases q)
  obtain ⟨r, hr, rfl⟩ := id a2
  have tsl : ∀ i, i < nr → tst h s i < nt := fun i hi => by
    obtain ⟨q, t, cn, g1, g2, g3, g4, g5, E⟩ := t4 i hi
    unfold tst
    rw [g4, show cl (nI t) = t from nI_clamp (by omega)]; exact g5
  rw [rr_1 hs t1 t2 a2]
  refine nd_w s5 s6 ag.rfl hs t2 t1 hr (fun w h1 A1 z => ?_)
  -- the model
  have model : ∀ v, v = w.toInt64 → wp_X11_isRule (nI s) (nI r) (sJ h1 75 0 0 v) (fun r1 => if r1 = 0 then ∀ y, y = sI (sJ h1 75 0 0 v) 11 0 0 1 → if gI y 11 0 0 ≤ 0 then wp_X11_wantsNothing y (fun h3 => wp_X11_isShadowed_b33 (nI s) (nI r) 0 h3 (fun b h2 => K 0 b h2)) else K 0 0 y else ∀ y, y = sI (sJ h1 75 0 0 v) 11 0 0 0 → if gI y 11 0 0 ≤ 0 then wp_X11_wantsNothing y (fun h3 => wp_X11_isShadowed_b33 (nI s) (nI r) 0 h3 (fun b h2 => K 0 b h2)) else K 0 0 y) := by
    intro v hv
    have f3 : gI (sJ h1 75 0 0 v) 53 0 s = nI nr := by simp only [gI_sI, gI_sJ, gI_sR, gI_sD, gJ_sI, gJ_sJ, gJ_sR, gJ_sD, gR_sI, gR_sJ, gR_sR, gR_sD, gD_sI, gD_sJ, gD_sR, gD_sD]; rw [A1.I 53 0 s]; exact t3
    rw [ir_1 hs t1 f3 a2, if_neg (by decide)]
    rintro y rfl
    rw [if_pos (by rw [gI_e]; decide)]
    refine wn_w (fun h3 A3 z68 z65 z66 => ?_)
    have A03 : ag (wS [4, 8, 28, 68, 72, 75] [(11, 0), (11, 65), (11, 66)]) h h3 := (show ag (wS [4, 8, 28, 68, 72, 75] [(11, 0), (11, 65), (11, 66)]) h (sI (sJ h1 75 0 0 v) 11 0 0 0) from ((A1.mono (wS_mono (by decide) (by decide))).sJ rfl).sI rfl).trans (A3.mono (wS_mono (by decide) (by decide)))
    have c0 : gI h3 11 0 0 = 0 := by rw [A3.I 11 0 0, gI_e]
    have o0 : gJ h3 75 0 0 = v := by rw [A3.J 75 0 0]; simp [gI_sI, gI_sJ, gI_sR, gI_sD, gJ_sI, gJ_sJ, gJ_sR, gJ_sD, gR_sI, gR_sJ, gR_sR, gR_sD, gD_sI, gD_sJ, gD_sR, gD_sD]
    unfold wp_X11_isShadowed_b33
    refine LFP2.by (I := fun y h4 => ∃ k, k ≤ r ∧ y = nI k ∧ ag (wS [68, 72] []) h3 h4 ∧ (∀ t, t < 60 → gI h4 68 0 t = bit01 (wFn h s k t) ∧ gI h4 72 0 t = nI (if wFn h s k t = true then 2 else 0))) (μ := fun y _ => 12 - y.toNatClampNeg) ⟨0, by omega, rfl, ag.rfl, fun t ht => ⟨(z68 t ht).1, (z68 t ht).2⟩⟩ ?_
    rintro y h4 ⟨k, hk, rfl, A4, C⟩ P hP
    have A04 : ag (wS [4, 8, 28, 68, 72, 75] [(11, 0), (11, 65), (11, 66)]) h h4 := A03.trans (A4.mono (wS_mono (by decide) (by decide)))
    unfold wp_X11_isShadowed_b33F wp_X11_isShadowed_b67 LET
    simp only [forall_eq]
    by_cases c : k = r
    · subst c
      obtain ⟨q, t, cn, g1, g2, g3, g4, g5, E⟩ := t4 k hr
      have et : tst h s k = t := by unfold tst; rw [g4]; exact nI_clamp (by omega)
      rw [if_pos (nI_le (Nat.le_refl _) (by omega)), ix12, nI_clamp (show 12 * s + k < 2 ^ 31 by omega), A04.I 54 0 _, g4]
      refine ⟨vp_in_nI (by omega) (by decide), ?_⟩
      refine wa_w (by omega) ?_
      have A5 : ag (wS [4, 8, 28, 68, 72, 75] [(11, 0), (11, 65), (11, 66)]) h (sI (sI h4 68 0 t 1) 72 0 t (gI h4 72 0 t ||| 1)) := (A04.sI rfl).sI rfl
      have e68 : ∀ x, gI (sI (sI h4 68 0 t 1) 72 0 t (gI h4 72 0 t ||| 1)) 68 0 x = if x = t then 1 else gI h4 68 0 x := fun x => by
        rw [gI_o (by omega)]
        by_cases e : x = t
        · rw [e, gI_e, if_pos rfl]
        · rw [gI_o (by omega), if_neg e]
      have e72 : ∀ x, gI (sI (sI h4 68 0 t 1) 72 0 t (gI h4 72 0 t ||| 1)) 72 0 x = if x = t then gI h4 72 0 t ||| 1 else gI h4 72 0 x := fun x => by
        by_cases e : x = t
        · rw [e, gI_e, if_pos rfl]
        · rw [gI_o (by omega), gI_o (by omega), if_neg e]
      have c5 : gI (sI (sI h4 68 0 t 1) 72 0 t (gI h4 72 0 t ||| 1)) 11 0 0 = 0 := by rw [gI_o (by omega), gI_o (by omega), A4.I 11 0 0, c0]
      have o5 : gJ (sI (sI h4 68 0 t 1) 72 0 t (gI h4 72 0 t ||| 1)) 75 0 0 = v := by simp only [gJ_sI]; rw [A4.J 75 0 0, o0]
      have e65 : gI (sI (sI h4 68 0 t 1) 72 0 t (gI h4 72 0 t ||| 1)) 11 0 65 = -1 := by rw [gI_o (by omega), gI_o (by omega), A4.I 11 0 65, z65]
      have e66 : gI (sI (sI h4 68 0 t 1) 72 0 t (gI h4 72 0 t ||| 1)) 11 0 66 = -1 := by rw [gI_o (by omega), gI_o (by omega), A4.I 11 0 66, z66]
      generalize sI (sI h4 68 0 t 1) 72 0 t (gI h4 72 0 t ||| 1) = h5 at *
      have k49 : gI h5 49 0 = gI h 49 0 := funext (fun x => A5.I 49 0 x)
      have k50 : gI h5 50 0 = gI h 50 0 := funext (fun x => A5.I 50 0 x)
      have k51 : gI h5 51 0 = gI h 51 0 := funext (fun x => A5.I 51 0 x)
      refine some_w (nd0 := fun x => decide (x = t) || wFn h s k x) (wH := fun x => decide (x = t)) (wF := wFn h s k) (nt := nt) (by rw [k49, k50, k51]; exact s5.tvm) (by rw [A5.I 11 0 19]; exact u2) (fun x hx => ?_) (fun x e => ?_) (fun x hx => ?_) (fun x e => ?_) (Or.inl e65) (fun rr h6 A6 z6 => ?_)
      · rw [e68]
        by_cases e : x = t
        · rw [if_pos e, decide_eq_true e]; rfl
        · rw [if_neg e, decide_eq_false e, (C x hx).1, Bool.false_or]
      · simp only [Bool.or_eq_true, decide_eq_true_eq] at e
        rcases e with e | e
        · rw [e]; exact g5
        · rw [wFn_iff] at e
          obtain ⟨i, hi, _, ei⟩ := e
          rw [← ei]; exact tsl i (by omega)
      · rw [e72]
        by_cases e : x = t
        · rw [if_pos e, decide_eq_true e, e, (C t (by omega)).2]
          cases wFn h s k t <;> decide
        · rw [if_neg e, decide_eq_false e, (C x (by omega)).2]
          cases wFn h s k x <;> rfl
      · rcases e with e | e
        · simp only [Bool.or_eq_true]; exact Or.inl e
        · simp only [Bool.or_eq_true]; exact Or.inr e
      · have AA : ag (wS [4, 8, 28, 64, 65, 66, 67, 68, 69, 70, 71, 72, 75] [(11, 0), (11, 58), (11, 62), (11, 65), (11, 66)]) h h6 := (A5.mono (wS_mono (by decide) (by decide))).trans (A6.mono (wS_mono (by decide) (by decide)))
        have want : WANT h5 nt (fun x => decide (x = t)) (wFn h s k) (gI h5 11 0 65) (gI h5 11 0 66) ↔ NDP h s k := by
          unfold WANT GL NDP
          rw [k49, k50, k51, e65, et]
          constructor
          · rintro ⟨M, vm, g, -⟩
            refine ⟨M, vm, (g t g5 rfl).1 (by simp), fun i hi e => ?_⟩
            exact (g (tst h s i) (tsl i (by omega)) rfl).2 ((wFn_iff _ _).mpr ⟨i, hi, e, rfl⟩)
          · rintro ⟨M, vm, y1, y2⟩
            refine ⟨M, vm, fun x hx _ => ⟨fun e => ?_, fun e => ?_⟩, Or.inl rfl⟩
            · rw [of_decide_eq_true e]; exact y1
            · obtain ⟨i, hi, e1, e2⟩ := (wFn_iff _ _).mp e
              rw [← e2]; exact y2 i hi e1
        rw [want] at z6
        have fin : ∀ b : Bool, w = bit01 b → K 0 (bit01 b) h6 := fun b eb => hK.go _ AA (fun A => (S.stay A (wS_dis (by decide))).mono (by omega)) (by rw [A6.I 11 0 0]; exact c5) (fun _ => ⟨by cases b; exact Or.inl rfl; exact Or.inr rfl, by rw [A6.J 75 0 0, o5, hv, eb]⟩)
        rcases z6 with ⟨rfl, z6⟩ | ⟨rfl, z6⟩
        · rw [if_neg (by decide)]
          rcases z with ⟨-, z⟩ | ⟨e, -⟩
          · exact absurd z6 z
          · exact fin false e
        · rw [if_pos rfl]
          rcases z with ⟨e, -⟩ | ⟨-, z⟩
          · exact fin true e
          · exact absurd z z6
    · obtain ⟨q, t, cn, g1, g2, g3, g4, g5, E⟩ := t4 k (by omega)
      have et : tst h s k = t := by unfold tst; rw [g4]; exact nI_clamp (by omega)
      have eES : ES h s k = esN (fun a => gI h4 56 0 (5 * (12 * s + k) + a)) cn := by
        unfold ES
        rw [E.2.2.1, show cl (nI cn) = cn from nI_clamp (by have := E.1; omega)]
        exact esN_ext cn (fun a ha => (A04.I 56 0 _).symm)
      rw [if_neg (nI_ge (show k < r by omega) (by omega)), ix12]
      refine em_w (cn := cn) (by omega) (by rw [A04.I 55 0 _]; exact E.2.2.1) E.1 ?_
      rw [← eES]
      have go : ∀ h5, ag (wS [68, 72] []) h3 h5 → (∀ t, t < 60 → gI h5 68 0 t = bit01 (wFn h s (k + 1) t) ∧ gI h5 72 0 t = nI (if wFn h s (k + 1) t = true then 2 else 0)) → P (nI k + 1) h5 := fun h5 A5 C5 => hP _ _ ⟨k + 1, by omega, nI_1 k, A5, C5⟩ (by rw [nI_1, nI_clamp (by omega), nI_clamp (by omega)]; omega)
      cases b : ES h s k
      · rw [if_pos (show bit01 false = 0 from rfl)]
        refine go h4 A4 (fun x hx => ?_)
        have ew : wFn h s (k + 1) x = wFn h s k x := by
          simp only [wFn]
          rw [b]; simp
        rw [ew]
        exact C x hx
      · rw [if_neg (show ¬ bit01 true = 0 by decide), nI_clamp (show 12 * s + k < 2 ^ 31 by omega), A04.I 54 0 _, g4]
        refine ⟨vp_in_nI (by omega) (by decide), ?_⟩
        refine wa_w (by omega) ?_
        refine go _ ((A4.sI rfl).sI rfl) (fun x hx => ?_)
        have ew : wFn h s (k + 1) x = (wFn h s k x || decide (t = x)) := by
          simp only [wFn]
          rw [b, et]; simp
        rw [ew]
        by_cases e : x = t
        · rw [e, gI_o (by omega), gI_e, gI_e, (C t (by omega)).2, decide_eq_true rfl, Bool.or_true]
          refine ⟨rfl, ?_⟩
          cases wFn h s k t <;> decide
        · rw [gI_o (by omega), gI_o (by omega), gI_o (by omega), gI_o (by omega), decide_eq_false (fun q => e q.symm), Bool.or_false]
          exact C x hx
  rcases z with ⟨rfl, z⟩ | ⟨rfl, z⟩
  · dsimp only
    rw [if_neg (by decide)]
    refine ⟨z_in ▸ trivial, ?_⟩
    rintro y rfl
    rw [z_cl]
    exact model _ rfl
  · dsimp only
    rw [if_pos rfl]
    refine ⟨z_in ▸ trivial, ?_⟩
    rintro y rfl
    rw [z_cl]
    exact model _ rfl
