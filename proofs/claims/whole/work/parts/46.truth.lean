/-! the truth of all tests -/
def tstep (M : Nat → Int32) (f : Nat → Bool) (k a b : Int32) : Bool :=
  if k = 33 then !f (cl a) else if k = 38 then f (cl a) && f (cl b) else if k = 124 then f (cl a) || f (cl b) else fit M k a
def tvs (K A B M : Nat → Int32) : Nat → Nat → Bool
  | 0 => fun _ => false
  | n + 1 => fun t => if t = n then tstep M (tvs K A B M n) (K n) (A n) (B n) else tvs K A B M n t
theorem tvs_ge (K A B M : Nat → Int32) : ∀ n t, n ≤ t → tvs K A B M n t = false := by
  intro n
  induction n with
  | zero => intros; rfl
  | succ n ih =>
    intro t ht
    simp only [tvs]
    rw [if_neg (by omega)]
    exact ih t (by omega)
theorem hbJ_w {x : Int64} {a : Int32} {h : Hp} {Q : Int32 → Prop} {n : Nat} (ha : inN a n) (hn : n ≤ 64) : wp_X10_hasBit_ x a h Q = Q (bit01 (bJ x (cl a))) := by
  obtain ⟨j, hj, rfl⟩ := ha
  rw [show cl (nI j) = j from nI_clamp (by omega)]
  cases b : bJ x j
  · rw [hbJ_0 (by omega) b]; rfl
  · rw [hbJ_1 (by omega) b]; rfl
theorem bit01_0 (b : Bool) : (bit01 b = 0) ↔ b = false := by cases b <;> decide
theorem isTrueBy_w {t m : Nat} {fl : Int32} {x : Int64} {h : Hp} {Q : Int32 → Prop} (ht : t < 60) (v : StV (gI h 12 0 t) (gI h 13 0 t) (gI h 14 0 t) t) (hr : inN (gI h 2 m 1) 1024)
    (f : Q (bit01 (tstep (mC h m fl) (bJ x) (gI h 12 0 t) (gI h 13 0 t) (gI h 14 0 t)))) : wp_X9_isTrueBy (nI t) x m fl h Q := by
  unfold wp_X9_isTrueBy LET
  refine ⟨vp_in_nI ht (by decide), ?_⟩
  rw [nI_clamp (by omega)]
  rintro a rfl
  rcases v with v | ⟨k3, v1, v2⟩
  · obtain ⟨n1, n2, n3⟩ := leaf_k v
    rw [if_neg n1, if_neg n2, if_neg n3, fits_w v hr]
    unfold tstep at f
    rw [if_neg n1, if_neg n2, if_neg n3] at f
    exact f
  · have v1' : inN (gI h 13 0 t) t := v1
    by_cases k33 : gI h 12 0 t = 33
    · rw [if_pos k33, hbJ_w v1' (by omega)]
      unfold tstep at f
      rw [if_pos k33] at f
      cases b : bJ x (cl (gI h 13 0 t)) <;> simpa [b, bit01] using f
    · have v2' : inN (gI h 14 0 t) t := v2 k33
      by_cases k38 : gI h 12 0 t = 38
      · rw [if_neg k33, if_pos k38, hbJ_w v1' (by omega), hbJ_w v2' (by omega)]
        unfold tstep at f
        rw [if_neg k33, if_pos k38] at f
        cases b : bJ x (cl (gI h 13 0 t)) <;> cases b' : bJ x (cl (gI h 14 0 t)) <;> simpa [b, b', bit01] using f
      · have k124 : gI h 12 0 t = 124 := by rcases k3 with q | q | q; exact absurd q k33; exact absurd q k38; exact q
        rw [if_neg k33, if_neg k38, if_pos k124, hbJ_w v1' (by omega), hbJ_w v2' (by omega)]
        unfold tstep at f
        rw [if_neg k33, if_neg k38, if_pos k124] at f
        cases b : bJ x (cl (gI h 13 0 t)) <;> cases b' : bJ x (cl (gI h 14 0 t)) <;> simpa [b, b', bit01] using f
