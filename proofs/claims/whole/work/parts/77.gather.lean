/-! gathering, and the class's answer -/
theorem ct_up {f : Nat → Bool} : ∀ n m, m ≤ n → ct f m ≤ ct f n := by
  intro n
  induction n with
  | zero => intro m h; rw [show m = 0 by omega]; exact Nat.le_refl _
  | succ n ih =>
    intro m h
    by_cases e : m = n + 1
    · rw [e]; exact Nat.le_refl _
    · have := ih m (by omega)
      simp only [ct]
      omega
section
variable {h0 : Hp} {nt : Nat}
/-- closed under parts, from the test n on -/
def CLP (h0 : Hp) (x : Int64) (n nt : Nat) : Prop := ∀ t, n ≤ t → t < nt → bJ x t = true → (mk (gI h0 12 0 t) → bJ x (cl (gI h0 13 0 t)) = true) ∧ (gI h0 12 0 t = 38 ∨ gI h0 12 0 t = 124 → bJ x (cl (gI h0 14 0 t)) = true)
def wt (h0 : Hp) (x : Int64) (n t : Nat) : Nat := if bJ x t = true ∧ n ≤ t then tP (gI h0 12 0 t) else 0
theorem tP_le (k : Int32) : 2 * (if lfB k = true then 1 else 0) + tP k ≤ 2 := by
  unfold lfB tP
  by_cases k38 : k = 38
  · simp [k38]
  · by_cases k124 : k = 124
    · simp [k124]
    · by_cases k33 : k = 33
      · simp [k33]
      · simp [k38, k124, k33]
theorem gath_w {p : Int64} {h : Hp} {Q : Hp → Prop} (T : TT h0 nt) (A : ag (wS [4, 8, 28] []) h0 h) (e4 : gI h0 9 0 4 = nI nt) (ob : ∀ t, bJ p t = true → t < nt) (o12 : ct (bJ p) 60 ≤ 12)
    (f : ∀ as ac h', AK (gI h0 12 0) (gI h0 13 0) (gI h0 14 0) nt as ac → AH h0 as ac h' → (∀ t, bJ p t = true → isA as ac t) → ct (fun i => lfB (gI h0 12 0 (as i))) ac ≤ 36 → Q h') : wp_X4_gather p h Q := by
  have n60 := T.1.1
  unfold wp_X4_gather LET wp_X4_gather_b13
  simp only [forall_eq]
  rw [A.I 9 0 4, e4]
  refine LFP3.by (I := fun x y h1 => h1 = h ∧ ∃ n, n ≤ nt ∧ y = nI n - 1 ∧ (∀ t, bJ x t = true → t < nt) ∧ (∀ t, bJ p t = true → bJ x t = true) ∧ CLP h0 x n nt ∧ ct (bJ x) 60 ≤ 12 + sN (wt h0 x n) 60) (μ := fun _ y _ => (y + 1).toNatClampNeg)
    ⟨rfl, nt, Nat.le_refl _, rfl, ob, fun _ e => e, fun t h1 h2 => by omega, by omega⟩ ?_
  rintro x y h1 ⟨rfl, n, hn, rfl, ox, px, cx, sx⟩ P hP
  unfold wp_X4_gather_b13F wp_X4_gather_b64 wp_X4_gather_b89 wp_X4_gather_b91 LET
  simp only [forall_eq]
  by_cases n0 : n = 0
  · subst n0
    rw [if_pos (by decide)]
    -- the second loop
    have hL : 2 * ct (fun t => bJ x t && lfB (gI h0 12 0 t)) 60 + sN (wt h0 x 0) 60 ≤ 2 * ct (bJ x) 60 := sN_le 60 (fun t _ => by
      unfold wt
      cases b : bJ x t
      · simp
      · have := tP_le (gI h0 12 0 t)
        simp only [Bool.true_and, true_and, Nat.zero_le, if_true]
        omega)
    have h60 := ct_le (bJ x) 60
    have L36 : ct (fun t => bJ x t && lfB (gI h0 12 0 t)) 60 ≤ 36 := by omega
    unfold wp_X4_gather_b105
    refine LFP2.by (I := fun y h2 => ∃ n c as, n ≤ nt ∧ c ≤ n ∧ y = nI n ∧ ag (wS [28] [(4, 3)]) h1 h2 ∧ gI h2 4 0 3 = nI c ∧ (∀ i, i < c → gI h2 28 0 i = nI (as i)) ∧ (∀ i, i < c → as i < n ∧ bJ x (as i) = true) ∧ (∀ i j, i < j → j < c → as i < as j) ∧ (∀ t, t < n → bJ x t = true → ∃ i, i < c ∧ as i = t) ∧ ct (fun i => lfB (gI h0 12 0 (as i))) c = ct (fun t => bJ x t && lfB (gI h0 12 0 t)) n) (μ := fun y _ => 60 - y.toNatClampNeg)
      ⟨0, 0, fun _ => 0, by omega, Nat.le_refl _, rfl, (by repeat first | exact ag.rfl | refine ag.sI ?_ rfl | refine ag.sJ ?_ rfl | refine ag.sR ?_ rfl | refine ag.sD ?_ rfl), by simp [gI_sI, gI_sJ, gI_sR, gI_sD, gJ_sI, gJ_sJ, gJ_sR, gJ_sD, gR_sI, gR_sJ, gR_sR, gR_sD, gD_sI, gD_sJ, gD_sR, gD_sD]; rfl, fun i hi => by omega, fun i hi => by omega, fun i j h1 h2 => by omega, fun t ht => by omega, rfl⟩ ?_
    rintro y h2 ⟨n, c, as, hn, hc, rfl, A2, e3, q1, q2, q3, q4, q5⟩ P hP
    unfold wp_X4_gather_b105F wp_X4_gather_b147 LET
    simp only [forall_eq]
    have AA : ag (wS [4, 8, 28] []) h0 h2 := A.trans (A2.mono (wS_mono (by decide) (by decide)))
    rw [AA.I 9 0 4, e4]
    by_cases cn : n = nt
    · subst cn
      rw [if_pos (nI_le (Nat.le_refl _) (by omega))]
      refine f as c h2 ⟨by omega, fun i hi => (q2 i hi).1, q3, fun i hi => ?_⟩ ⟨AA, e3, q1⟩ (fun t e => q4 t (ox t (px t e)) (px t e)) ?_
      · obtain ⟨z1, z2⟩ := q2 i hi
        have vv := T.1.2 (as i) z1
        obtain ⟨c1, c2⟩ := cx (as i) (Nat.zero_le _) z1 z2
        refine ⟨fun m => ?_, fun kk => ?_⟩
        · obtain ⟨j, hj, ej⟩ := q4 _ (ox _ (c1 m)) (c1 m)
          refine ⟨j, ?_, ej⟩
          have la := cl_lt (StV_mk vv m).1 (by omega)
          rw [← ej] at la
          rcases Nat.lt_or_ge j i with l | l
          · exact l
          · rcases Nat.eq_or_lt_of_le l with l | l
            · rw [l] at la; omega
            · have := q3 i j l hj; omega
        · obtain ⟨j, hj, ej⟩ := q4 _ (ox _ (c2 kk)) (c2 kk)
          refine ⟨j, ?_, ej⟩
          have k33 : gI h0 12 0 (as i) ≠ 33 := fun q => by rcases kk with k | k <;> rw [k] at q <;> exact absurd q (by decide)
          have la := cl_lt ((StV_mk vv (Or.inr kk)).2 k33) (by omega)
          rw [← ej] at la
          rcases Nat.lt_or_ge j i with l | l
          · exact l
          · rcases Nat.eq_or_lt_of_le l with l | l
            · rw [l] at la; omega
            · have := q3 i j l hj; omega
      · rw [q5]
        have := ct_up (f := fun t => bJ x t && lfB (gI h0 12 0 t)) 60 n n60
        omega
    rw [if_neg (nI_ge (show n < nt by omega) (by omega)), hbJ_w (n := 64) ⟨n, by omega, rfl⟩ (by decide), show cl (nI n) = n from nI_clamp (by omega)]
    cases b : bJ x n
    · rw [if_pos (show bit01 false = 0 from rfl)]
      refine hP _ _ ⟨n + 1, c, as, by omega, by omega, nI_1 n, A2, e3, q1, fun i hi => ⟨by have := (q2 i hi).1; omega, (q2 i hi).2⟩, q3, fun t ht e => ?_, ?_⟩ (by rw [nI_1, nI_clamp (by omega), nI_clamp (by omega)]; omega)
      · by_cases z : t = n
        · rw [z, b] at e; cases e
        · exact q4 t (by omega) e
      · rw [q5]
        show _ = ct _ n + (if (bJ x n && lfB (gI h0 12 0 n)) = true then 1 else 0)
        rw [b]
        simp
    · rw [if_neg (show ¬ bit01 true = 0 by decide), e3, nI_clamp (show c < 2 ^ 31 by omega)]
      refine ⟨vp_in_nI (by omega) (by decide), ?_⟩
      rw [gI_o (show (4 : Nat) ≠ 28 ∨ _ from Or.inl (by decide)), e3, nI_1]
      obtain ⟨as', asc, asn⟩ : ∃ as' : Nat → Nat, as' c = n ∧ ∀ i, i < c → as' i = as i := ⟨fun i => if i = c then n else as i, by simp, fun i hi => by simp [show ¬ i = c by omega]⟩
      refine hP _ _ ⟨n + 1, c + 1, as', by omega, by omega, rfl, (A2.sI rfl).sI rfl, by rw [gI_e, nI_1], fun i hi => ?_, fun i hi => ?_, fun i j hij hj => ?_, fun t ht e => ?_, ?_⟩ (by rw [nI_clamp (by omega), nI_clamp (by omega)]; omega)
      · rw [gI_o (by omega)]
        by_cases e : i = c
        · rw [e, asc, gI_e]
        · rw [asn i (by omega), gI_o (by omega)]
          exact q1 i (by omega)
      · by_cases e : i = c
        · rw [e, asc]; exact ⟨by omega, b⟩
        · rw [asn i (by omega)]
          obtain ⟨z1, z2⟩ := q2 i (by omega)
          exact ⟨by omega, z2⟩
      · rw [asn i (by omega)]
        by_cases e : j = c
        · rw [e, asc]; exact (q2 i (by omega)).1
        · rw [asn j (by omega)]; exact q3 i j hij (by omega)
      · by_cases z : t = n
        · exact ⟨c, by omega, by rw [asc, z]⟩
        · obtain ⟨i, hi, ei⟩ := q4 t (by omega) e
          exact ⟨i, by omega, by rw [asn i hi]; exact ei⟩
      · show ct _ c + (if lfB (gI h0 12 0 (as' c)) = true then 1 else 0) = ct _ n + (if (bJ x n && lfB (gI h0 12 0 n)) = true then 1 else 0)
        rw [← q5, b, asc, ct_ext (f := fun i => lfB (gI h0 12 0 (as' i))) (g := fun i => lfB (gI h0 12 0 (as i))) (fun i hi => by rw [asn i hi])]
        simp
  obtain ⟨i, rfl⟩ : ∃ i, n = i + 1 := ⟨n - 1, by omega⟩
  rw [nI_sub1 (by omega), show i + 1 - 1 = i by omega, if_neg (nI_pos (by omega)), hbJ_w (n := 64) ⟨i, by omega, rfl⟩ (by decide), show cl (nI i) = i from nI_clamp (by omega)]
  have go : ∀ x', (∀ t, bJ x' t = true → t < nt) → (∀ t, bJ x t = true → bJ x' t = true) → (∀ t, bJ x' t = true → bJ x t = true ∨ t < i) → (bJ x i = true → (mk (gI h0 12 0 i) → bJ x' (cl (gI h0 13 0 i)) = true) ∧ (gI h0 12 0 i = 38 ∨ gI h0 12 0 i = 124 → bJ x' (cl (gI h0 14 0 i)) = true)) → ct (bJ x') 60 ≤ ct (bJ x) 60 + (if bJ x i = true then tP (gI h0 12 0 i) else 0) → P x' (nI i + (-1)) h1 := by
    intro x' ox' mx' nx' ci cc
    rw [show nI i + (-1) = nI i - 1 from (Int32.sub_eq_add_neg _ _).symm]
    refine hP _ _ _ ⟨rfl, i, by omega, rfl, ox', fun t e => mx' t (px t e), fun t h1 h2 e => ?_, ?_⟩ (by rw [Int32.sub_add_cancel, Int32.sub_add_cancel, nI_clamp (by omega), nI_clamp (by omega)]; omega)
    · by_cases z : t = i
      · subst z
        refine ci ?_
        rcases nx' t e with q | q
        · exact q
        · omega
      · have e' : bJ x t = true := by
          rcases nx' t e with q | q
          · exact q
          · omega
        obtain ⟨c1, c2⟩ := cx t (by omega) h2 e'
        exact ⟨fun m => mx' _ (c1 m), fun kk => mx' _ (c2 kk)⟩
    · have e2 := sN_one (f := wt h0 x' i) (g := wt h0 x (i + 1)) (t := i) (n := 60) (by omega) (fun t _ z => by
        unfold wt
        by_cases l : i + 1 ≤ t
        · have : bJ x' t = bJ x t := by
            cases b : bJ x t
            · cases b' : bJ x' t
              · rfl
              · rcases nx' t b' with q | q
                · rw [b] at q; cases q
                · omega
            · exact mx' t b
          rw [this]
          by_cases b : bJ x t = true
          · rw [if_pos ⟨b, by omega⟩, if_pos ⟨b, l⟩]
          · rw [if_neg (fun q => b q.1), if_neg (fun q => b q.1)]
        · rw [if_neg (fun q => by have := q.2; omega), if_neg (fun q => l q.2)])
      have w1 : wt h0 x (i + 1) i = 0 := by
        unfold wt
        rw [if_neg (fun q => by have := q.2; omega)]
      have w2 : wt h0 x' i i = if bJ x i = true then tP (gI h0 12 0 i) else 0 := by
        unfold wt
        have : bJ x' i = bJ x i := by
          cases b : bJ x i
          · cases b' : bJ x' i
            · rfl
            · rcases nx' i b' with q | q
              · rw [b] at q; cases q
              · omega
          · exact mx' i b
        rw [this]
        simp
      rw [w1, w2] at e2
      omega
  cases b : bJ x i
  · rw [if_pos (show bit01 false = 0 from rfl)]
    refine go x ox (fun _ e => e) (fun _ e => Or.inl e) (fun q => by rw [b] at q; cases q) (by omega)
  rw [if_neg (show ¬ bit01 true = 0 by decide), nI_clamp (show i < 2 ^ 31 by omega), A.I 12 0 i, A.I 13 0 i, A.I 14 0 i, pt_e]
  refine ⟨vp_in_nI (by omega) (by decide), ?_⟩
  have vv := T.1.2 i (by omega)
  have go := fun x' a1 a2 a3 a4 a5 => go x' a1 a2 a3 (fun _ => a4) (by rw [b, if_pos rfl]; exact a5)
  by_cases m : mk (gI h0 12 0 i)
  case neg =>
    have t0 : tP (gI h0 12 0 i) = 0 := by
      have m := m
      unfold mk at m
      simp only [not_or] at m
      unfold tP
      rw [if_neg (fun q => by rcases q with q | q; exact m.2.1 q; exact m.2.2 q), if_neg m.1]
    rw [t0, if_pos (by decide), if_pos (by decide)]
    have e0 : x ||| 0 ||| 0 = x := by simp
    rw [e0]
    exact go x ox (fun _ e => e) (fun _ e => Or.inl e) ⟨fun q => absurd q m, fun q => absurd (Or.inr q) m⟩ (by omega)
  obtain ⟨ha, hb⟩ := StV_mk vv m
  have ha' : inN (gI h0 13 0 i) 64 := by obtain ⟨j, hj, e⟩ := ha; exact ⟨j, by omega, e⟩
  have la := cl_lt ha (by omega)
  rw [if_neg (show ¬ nI (tP (gI h0 12 0 i)) ≤ 0 by rcases m with q | q | q <;> rw [q] <;> decide)]
  by_cases k33 : gI h0 12 0 i = 33
  · have t1 : tP (gI h0 12 0 i) = 1 := by rw [k33]; decide
    rw [t1, if_pos (by decide)]
    have eb : ∀ t, bJ (x ||| ((1 : Int64) <<< ((gI h0 13 0 i).toInt64 &&& 63)) ||| 0) t = (bJ x t || decide (t = cl (gI h0 13 0 i))) := fun t => by rw [bJ_or, bJ_or, shB ha' (by decide), bJ_0, Bool.or_false]
    rw [t1] at go
    refine go _ (fun t e => ?_) (fun t e => by rw [eb, e]; rfl) (fun t e => ?_) ⟨fun _ => by rw [eb]; simp, fun kk => by rcases kk with k | k <;> rw [k33] at k <;> exact absurd k (by decide)⟩ (ct_set (t := cl (gI h0 13 0 i)) (fun t e => ?_))
    · rw [eb] at e
      simp at e
      rcases e with e | e
      · exact ox t e
      · omega
    · rw [eb] at e
      simp at e
      rcases e with e | e
      · exact Or.inl e
      · exact Or.inr (by omega)
    · rw [eb] at e
      simp at e
      exact e
  · have lb := cl_lt (hb k33) (by omega)
    have hb' : inN (gI h0 14 0 i) 64 := by obtain ⟨j, hj, e⟩ := hb k33; exact ⟨j, by omega, e⟩
    have t2 : tP (gI h0 12 0 i) = 2 := by rcases m with q | q | q; exact absurd q k33; rw [q]; decide; rw [q]; decide
    rw [t2, if_neg (by decide)]
    refine ⟨vp_in_nI (by omega) (by decide), ?_⟩
    have eb : ∀ t, bJ (x ||| ((1 : Int64) <<< ((gI h0 13 0 i).toInt64 &&& 63)) ||| ((1 : Int64) <<< ((gI h0 14 0 i).toInt64 &&& 63))) t = (bJ x t || decide (t = cl (gI h0 13 0 i)) || decide (t = cl (gI h0 14 0 i))) := fun t => by rw [bJ_or, bJ_or, shB ha' (by decide), shB hb' (by decide)]
    have eb1 : ∀ t, bJ (x ||| ((1 : Int64) <<< ((gI h0 13 0 i).toInt64 &&& 63))) t = (bJ x t || decide (t = cl (gI h0 13 0 i))) := fun t => by rw [bJ_or, shB ha' (by decide)]
    rw [t2] at go
    refine go _ (fun t e => ?_) (fun t e => by rw [eb, e]; rfl) (fun t e => ?_) ⟨fun _ => by rw [eb]; simp, fun _ => by rw [eb]; simp⟩ ?_
    · rw [eb] at e
      simp at e
      rcases e with (e | e) | e
      · exact ox t e
      · omega
      · omega
    · rw [eb] at e
      simp at e
      rcases e with (e | e) | e
      · exact Or.inl e
      · exact Or.inr (by omega)
      · exact Or.inr (by omega)
    · have c1 := ct_set (x := x) (y := x ||| ((1 : Int64) <<< ((gI h0 13 0 i).toInt64 &&& 63))) (t := cl (gI h0 13 0 i)) (n := 60) (fun t e => by
        rw [eb1] at e
        simpa using e)
      have c2 := ct_set (x := x ||| ((1 : Int64) <<< ((gI h0 13 0 i).toInt64 &&& 63))) (y := x ||| ((1 : Int64) <<< ((gI h0 13 0 i).toInt64 &&& 63)) ||| ((1 : Int64) <<< ((gI h0 14 0 i).toInt64 &&& 63))) (t := cl (gI h0 14 0 i)) (n := 60) (fun t e => by
        rw [eb] at e
        rw [eb1]
        simpa using e)
      omega
/-- is there a mail for which those of H can hold and those of F can fail? -/
def POSS (h0 : Hp) (nt : Nat) (H F : Int64) : Prop := ∃ M, VM M ∧ ∀ p t, t < nt → pb H F p t = true → cvh h0 M t p = true
theorem isp_w {H F : Int64} {h : Hp} {Q : Int32 → Hp → Prop} (T : TT h0 nt) (A : ag (wS [4, 8, 28] []) h0 h) (e4 : gI h0 9 0 4 = nI nt) (ob : ∀ q t, pb H F q t = true → t < nt) (o12 : ct (bJ (H ||| F)) 60 ≤ 12)
    (f : ∀ r h', ag (wS [4, 8, 28] []) h0 h' → (r = 1 ∧ POSS h0 nt H F ∨ r = 0 ∧ ¬ POSS h0 nt H F) → Q r h') : wp_X4_isPossible H F h Q := by
  unfold wp_X4_isPossible
  refine gath_w T A e4 (fun t e => ?_) o12 (fun as ac h1 K A1 only L36 => ?_)
  · rw [bJ_or] at e
    simp only [Bool.or_eq_true] at e
    rcases e with e | e
    · exact ob true t e
    · exact ob false t e
  have k1 := K.2.1
  have only : ONLY as ac H F := fun q t e => only t (by
    rw [bJ_or]
    cases q
    · have e : bJ F t = true := e
      rw [e]; simp
    · have e : bJ H t = true := e
      rw [e]; rfl)
  refine hmr T K L36 38 0 rfl (by omega) H F h1 _ A1 only (Nat.zero_le _) (fun r h2 A2 z => f r h2 A2.1 ?_)
  have eq : (∃ M, SO h0 as ac H F M) ↔ POSS h0 nt H F := by
    constructor
    · rintro ⟨M, m1, m2⟩
      refine ⟨M, m1, fun p t _ e => ?_⟩
      obtain ⟨i, hi, rfl⟩ := only p t e
      exact m2 i p hi e
    · rintro ⟨M, m1, m2⟩
      exact ⟨M, m1, fun i p hi e => m2 p (as i) (k1 i hi) e⟩
  rw [← eq]
  exact z
end
