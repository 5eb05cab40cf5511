/-! the search -/
def lfB (k : Int32) : Bool := !(decide (k = 33) || decide (k = 38) || decide (k = 124))
theorem lfB_1 {k : Int32} (m : ¬ mk k) : lfB k = true := by
  unfold mk at m
  simp only [not_or] at m
  unfold lfB
  simp [m.1, m.2.1, m.2.2]
section
variable {h0 : Hp} {nt ac : Nat} {as : Nat → Nat}
def scn (h0 : Hp) (as : Nat → Nat) (ac : Nat) (H F : Int64) : Nat := ct (fun i => lfB (gI h0 12 0 (as i)) && (pb H F true (as i) || pb H F false (as i))) ac
theorem hmr (T : TT h0 nt) (K : AK (gI h0 12 0) (gI h0 13 0) (gI h0 14 0) nt as ac) (L36 : ct (fun i => lfB (gI h0 12 0 (as i))) ac ≤ 36) : ∀ d k, d + k = 38 → 1 ≤ d → ∀ p0 p1 h (Q : Int32 → Hp → Prop), AH h0 as ac h → ONLY as ac p0 p1 → k ≤ scn h0 as ac p0 p1 →
    (∀ r h', AH h0 as ac h' → (r = 1 ∧ (∃ M, SO h0 as ac p0 p1 M) ∨ r = 0 ∧ ¬ ∃ M, SO h0 as ac p0 p1 M) → Q r h') → wp_X4_hasMail d p0 p1 (nI k) h Q := by
  have K' := K
  obtain ⟨k60, k1, k2, k3⟩ := K'
  have n60 := T.1.1
  intro d
  induction d with
  | zero => intro k _ h1; omega
  | succ d ih =>
    intro k hd _ p0 p1 h Q a o s f
    show wp_X4_hasMailB (wp_X4_hasMail d) p0 p1 (nI k) h Q
    have sl : ∀ H F, scn h0 as ac H F ≤ 36 := fun H F => by
      have : scn h0 as ac H F ≤ ct (fun i => lfB (gI h0 12 0 (as i))) ac := ct_mono ac (fun i _ e => by
        simp only [Bool.and_eq_true] at e
        exact e.1)
      omega
    have k36 : k ≤ 36 := by have := sl p0 p1; omega
    unfold wp_X4_hasMailB LET
    simp only [forall_eq]
    rw [if_neg (show ¬ (36 : Int32) < nI k from nI_nlt (a := 36) (show k ≤ 36 by omega) (by omega))]
    refine fo_w T K a o (fun h3 A3 no => ?_) (fun h3 A3 mono only sol full => ?_)
    · rw [if_pos rfl]
      exact f 0 h3 A3 (Or.inr ⟨rfl, no⟩)
    rw [if_neg (by decide)]
    have full' := full
    obtain ⟨S, E, ex, D, W, C, ma⟩ := full'
    refine lo_w T K A3 (fun sh => ?_) (fun i hi kk hH hS => ?_)
    · rw [if_neg (by decide)]
      refine f 1 h3 A3 (Or.inl ⟨rfl, ?_⟩)
      obtain ⟨M, m1, m2⟩ := full_sol T K full sh
      exact ⟨M, m1, fun i p hi e => m2 i p hi (mono p _ e)⟩
    · rw [if_pos (show (0 : Int32) ≤ nI (as i) from nI_le (a := 0) (Nat.zero_le _) (by have := k1 i hi; omega))]
      refine uu_w T K A3 W hi (ma _ i hi hH) hS (fun j p h4 hj lf mj sj A4 => ?_)
      have B4 : AH h0 as ac h4 := A3.ag (A4.mono (wS_mono (by decide) (by decide)))
      have fr := leaf_free T K W S E (by obtain ⟨M, _, I⟩ := ex; exact ⟨M, I⟩) D hj lf mj sj
      have htj := k1 j hj
      -- one more leaf is settled
      have more : ∀ q, ∀ H F, (∀ q' x, pb H F q' x = (pb (gJ h3 4 0 4) (gJ h3 4 0 5) q' x || (decide (q' = q) && decide (x = as j)))) → ONLY as ac H F ∧ k + 1 ≤ scn h0 as ac H F := fun q H F e => by
        refine ⟨fun q' x z => ?_, ?_⟩
        · rw [e] at z
          simp only [Bool.or_eq_true, Bool.and_eq_true] at z
          rcases z with z | z
          · exact only q' x z
          · exact ⟨j, hj, (of_decide_eq_true z.2).symm⟩
        · have : scn h0 as ac p0 p1 < scn h0 as ac H F := by
            refine ct_lt ac (fun i _ z => ?_) j hj ?_ ?_
            · simp only [Bool.and_eq_true, Bool.or_eq_true] at z ⊢
              refine ⟨z.1, ?_⟩
              rcases z.2 with z | z
              · exact Or.inl (by rw [e, mono _ _ z]; rfl)
              · exact Or.inr (by rw [e, mono _ _ z]; rfl)
            · have z1 : pb p0 p1 true (as j) = false := by
                cases z : pb p0 p1 true (as j)
                · rfl
                · have := mono _ _ z
                  rw [fr] at this; cases this
              have z2 : pb p0 p1 false (as j) = false := by
                cases z : pb p0 p1 false (as j)
                · rfl
                · have := mono _ _ z
                  rw [fr] at this; cases this
              simp [z1, z2]
            · rw [lfB_1 lf, e, e]
              cases q <;> simp
          omega
      have shj : ∀ x, bJ ((1 : Int64) <<< ((nI (as j)).toInt64 &&& 63)) x = decide (x = as j) := fun x => by
        rw [shB (n := 64) ⟨as j, by omega, rfl⟩ (by decide), show cl (nI (as j)) = as j from nI_clamp (by omega)]
      have eT : ∀ q' x, pb (gJ h3 4 0 4 ||| ((1 : Int64) <<< ((nI (as j)).toInt64 &&& 63))) (gJ h3 4 0 5) q' x = (pb (gJ h3 4 0 4) (gJ h3 4 0 5) q' x || (decide (q' = true) && decide (x = as j))) := fun q' x => by
        cases q'
        · simp [pb]
        · simp only [pb, if_true, bJ_or, shj]; simp
      have eF : ∀ q' x, pb (gJ h3 4 0 4) (gJ h3 4 0 5 ||| ((1 : Int64) <<< ((nI (as j)).toInt64 &&& 63))) q' x = (pb (gJ h3 4 0 4) (gJ h3 4 0 5) q' x || (decide (q' = false) && decide (x = as j))) := fun q' x => by
        cases q'
        · simp only [pb, Bool.false_eq_true, if_false, bJ_or, shj]; simp
        · simp [pb]
      obtain ⟨oT, cT⟩ := more true _ _ eT
      obtain ⟨oF, cF⟩ := more false _ _ eF
      have back : ∀ {q H F}, (∀ q' x, pb H F q' x = (pb (gJ h3 4 0 4) (gJ h3 4 0 5) q' x || (decide (q' = q) && decide (x = as j)))) → (∃ M, SO h0 as ac H F M) → ∃ M, SO h0 as ac p0 p1 M := fun e ⟨M, m1, m2⟩ => ⟨M, m1, fun i p hi z => m2 i p hi (by rw [e, mono _ _ z]; rfl)⟩
      have both : (¬ ∃ M, SO h0 as ac (gJ h3 4 0 4 ||| ((1 : Int64) <<< ((nI (as j)).toInt64 &&& 63))) (gJ h3 4 0 5) M) → (¬ ∃ M, SO h0 as ac (gJ h3 4 0 4) (gJ h3 4 0 5 ||| ((1 : Int64) <<< ((nI (as j)).toInt64 &&& 63))) M) → ¬ ∃ M, SO h0 as ac p0 p1 M := fun n1 n2 ⟨M, s⟩ => by
        have s' := sol M s
        rcases cv_some (M := M) T.1 (as j) htj with c | c
        · refine n1 ⟨M, s'.1, fun i p hi z => ?_⟩
          rw [eT] at z
          simp only [Bool.or_eq_true, Bool.and_eq_true] at z
          rcases z with z | z
          · exact s'.2 i p hi z
          · rw [of_decide_eq_true z.1, of_decide_eq_true z.2]; exact c
        · refine n2 ⟨M, s'.1, fun i p hi z => ?_⟩
          rw [eF] at z
          simp only [Bool.or_eq_true, Bool.and_eq_true] at z
          rcases z with z | z
          · exact s'.2 i p hi z
          · rw [of_decide_eq_true z.1, of_decide_eq_true z.2]; exact c
      rw [nI_1]
      by_cases tf : gI h4 4 0 10 = 0
      · rw [if_pos tf]
        refine ih (k + 1) (by omega) (by omega) _ _ _ _ B4 oF cF (fun r h5 A5 z => ?_)
        rcases z with ⟨rfl, z⟩ | ⟨rfl, z⟩
        · rw [if_neg (by decide)]
          exact f 1 h5 A5 (Or.inl ⟨rfl, back eF z⟩)
        · rw [if_pos rfl]
          refine ih (k + 1) (by omega) (by omega) _ _ _ _ A5 oT cT (fun r h6 A6 z' => ?_)
          rcases z' with ⟨rfl, z'⟩ | ⟨rfl, z'⟩
          · rw [if_neg (by decide)]
            exact f 1 h6 A6 (Or.inl ⟨rfl, back eT z'⟩)
          · rw [if_pos rfl]
            exact f 0 h6 A6 (Or.inr ⟨rfl, both z' z⟩)
      · rw [if_neg tf]
        refine ih (k + 1) (by omega) (by omega) _ _ _ _ B4 oT cT (fun r h5 A5 z => ?_)
        rcases z with ⟨rfl, z⟩ | ⟨rfl, z⟩
        · rw [if_neg (by decide)]
          exact f 1 h5 A5 (Or.inl ⟨rfl, back eT z⟩)
        · rw [if_pos rfl]
          refine ih (k + 1) (by omega) (by omega) _ _ _ _ A5 oF cF (fun r h6 A6 z' => ?_)
          rcases z' with ⟨rfl, z'⟩ | ⟨rfl, z'⟩
          · rw [if_neg (by decide)]
            exact f 1 h6 A6 (Or.inl ⟨rfl, back eF z'⟩)
          · rw [if_pos rfl]
            exact f 0 h6 A6 (Or.inr ⟨rfl, both z z'⟩)
end
/-! gathering the tests that are asked for -/
def sN (f : Nat → Nat) : Nat → Nat
  | 0 => 0
  | n + 1 => sN f n + f n
theorem sN_ext {f g : Nat → Nat} : ∀ {n : Nat}, (∀ t, t < n → f t = g t) → sN f n = sN g n := by
  intro n
  induction n with
  | zero => intro _; rfl
  | succ n ih => intro h; simp only [sN]; rw [ih (fun t ht => h t (by omega)), h n (by omega)]
theorem sN_one {f g : Nat → Nat} {t : Nat} : ∀ {n : Nat}, t < n → (∀ x, x < n → x ≠ t → f x = g x) → sN f n + g t = sN g n + f t := by
  intro n
  induction n with
  | zero => intro h; omega
  | succ n ih =>
    intro ht h
    simp only [sN]
    by_cases e : t = n
    · subst e
      rw [sN_ext (fun x hx => h x (by omega) (by omega))]
      omega
    · have := ih (by omega) (fun x hx => h x (by omega))
      have := h n (by omega) (fun q => e q.symm)
      omega
theorem sN_le {a b : Nat → Bool} {p : Nat → Nat} : ∀ n, (∀ t, t < n → 2 * (if a t = true then 1 else 0) + p t ≤ 2 * (if b t = true then 1 else 0)) → 2 * ct a n + sN p n ≤ 2 * ct b n := by
  intro n
  induction n with
  | zero => intro _; simp [ct, sN]
  | succ n ih =>
    intro h
    have := ih (fun t ht => h t (by omega))
    have := h n (by omega)
    simp only [ct, sN]
    omega
theorem ct_set {x y : Int64} {t n : Nat} (h : ∀ i, bJ y i = true → bJ x i = true ∨ i = t) : ct (bJ y) n ≤ ct (bJ x) n + 1 := by
  induction n with
  | zero => simp [ct]
  | succ n ih =>
    have key : ∀ m, (∀ i, i < m → i ≠ t) → ct (bJ y) m ≤ ct (bJ x) m := fun m hm => ct_mono m (fun i hi e => by
      rcases h i e with q | q
      · exact q
      · exact absurd q (hm i hi))
    simp only [ct]
    by_cases e : n = t
    · have := key n (fun i hi q => by omega)
      split <;> split <;> omega
    · cases b : bJ y n
      · simp; omega
      · rcases h n b with q | q
        · rw [q]; simp; omega
        · exact absurd q e
