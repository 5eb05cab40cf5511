/-! reorder -/
theorem nI_sub1 {k : Nat} (h : 1 ≤ k) : nI k - 1 = nI (k - 1) := by
  obtain ⟨j, rfl⟩ : ∃ j, k = j + 1 := ⟨k - 1, by omega⟩
  rw [← nI_1 j, Nat.add_sub_cancel]
  simp
theorem nI_dec {k : Nat} (h : 1 ≤ k) : nI k + (-1) = nI (k - 1) := by rw [← nI_sub1 h, Int32.sub_eq_add_neg]
def sw (a b p : Nat) : Nat := if p = a then b else if p = b then a else p
def CE (h h' : Hp) (p p' : Nat) : Prop := gI h' 54 0 p = gI h 54 0 p' ∧ gI h' 55 0 p = gI h 55 0 p' ∧ ∀ x, x < 5 → (vp_nar .char (gI h 56 0 (5 * p' + x)) = gI h 56 0 (5 * p' + x) → gI h' 56 0 (5 * p + x) = gI h 56 0 (5 * p' + x)) ∧ gI h' 57 0 (5 * p + x) = gI h 57 0 (5 * p' + x)
theorem CE.rfl {h : Hp} {p : Nat} : CE h h p p := ⟨Eq.refl _, Eq.refl _, fun _ _ => ⟨fun _ => Eq.refl _, Eq.refl _⟩⟩
theorem CE.trans {h h' h'' : Hp} {p p' p'' : Nat} (a : CE h h' p' p'') (b : CE h' h'' p p') : CE h h'' p p'' := by
  obtain ⟨a1, a2, a3⟩ := a
  obtain ⟨b1, b2, b3⟩ := b
  refine ⟨b1.trans a1, b2.trans a2, fun x hx => ⟨fun n => ?_, (b3 x hx).2.trans (a3 x hx).2⟩⟩
  have e := (a3 x hx).1 n
  rw [← e]
  exact (b3 x hx).1 (by rw [e, n])
theorem ix5e {p a x k : Nat} (hx : x < 5) (hk : k < 5) : (5 * p + x = 5 * a + k) ↔ (p = a ∧ x = k) := by omega
theorem exch_w {a b : Nat} {h : Hp} {Q : Hp → Prop} (ha : a < 48) (hb : b < 48) (hab : a ≠ b)
    (f : ∀ h', ag (wS [54, 55, 56, 57] []) h h' → (∀ p, p < 48 → CE h h' p (sw a b p)) → Q h') : wp_X11_exchanges (nI a) (nI b) h Q := by
  unfold wp_X11_exchanges wp_X11_exchanges_b57 LET
  simp only [forall_eq, vp_in_nI ha (by decide), vp_in_nI hb (by decide), true_and, nI_clamp (show a < 2 ^ 31 by omega), nI_clamp (show b < 2 ^ 31 by omega)]
  refine LFP2.by (I := fun y h' => ∃ k, k ≤ 5 ∧ y = nI k ∧ ag (wS [54, 55, 56, 57] []) h h' ∧ (∀ p, p < 48 → gI h' 54 0 p = gI h 54 0 (sw a b p) ∧ gI h' 55 0 p = gI h 55 0 (sw a b p)) ∧ ∀ p x, p < 48 → x < 5 →
      (x < k → (vp_nar .char (gI h 56 0 (5 * sw a b p + x)) = gI h 56 0 (5 * sw a b p + x) → gI h' 56 0 (5 * p + x) = gI h 56 0 (5 * sw a b p + x)) ∧ gI h' 57 0 (5 * p + x) = gI h 57 0 (5 * sw a b p + x)) ∧
      (k ≤ x → gI h' 56 0 (5 * p + x) = gI h 56 0 (5 * p + x) ∧ gI h' 57 0 (5 * p + x) = gI h 57 0 (5 * p + x))) (μ := fun y _ => 5 - y.toNatClampNeg) ⟨0, by omega, rfl, (by repeat first | exact ag.rfl | refine ag.sI ?_ rfl | refine ag.sJ ?_ rfl | refine ag.sR ?_ rfl | refine ag.sD ?_ rfl), fun p hp => ?_, fun p x hp hx => ⟨fun q => by omega, fun _ => by simp [gI_sI, gI_sJ, gI_sR, gI_sD, gJ_sI, gJ_sJ, gJ_sR, gJ_sD, gR_sI, gR_sJ, gR_sR, gR_sD, gD_sI, gD_sJ, gD_sR, gD_sD]⟩⟩ ?_
  · unfold sw
    simp only [gI_sI, gI_sJ, gI_sR, gI_sD, gJ_sI, gJ_sJ, gJ_sR, gJ_sD, gR_sI, gR_sJ, gR_sR, gR_sD, gD_sI, gD_sJ, gD_sR, gD_sD, Nat.reduceEqDiff, false_and, and_false, true_and, and_true, and_self, reduceIte, if_true, if_false, ite_true, ite_false]
    by_cases e : p = b
    · subst e
      have : ¬ p = a := fun q => hab q.symm
      simp [this]
    · by_cases e' : p = a <;> simp [e, e', hab]
  rintro y h' ⟨k, hk, rfl, A, B, C⟩ P hP
  unfold wp_X11_exchanges_b57F LET
  by_cases c : k = 5
  · subst c
    rw [if_pos (by decide)]
    exact f h' A (fun p hp => ⟨(B p hp).1, (B p hp).2, fun x hx => (C p x hp hx).1 hx⟩)
  · rw [if_neg (show ¬ (5 : Int32) ≤ nI k from nI_ge (b := 5) (show k < 5 by omega) (by omega))]
    have va : vp_in (nI (5 * a + k)) 240 := vp_in_nI (by omega) (by decide)
    have vb : vp_in (nI (5 * b + k)) 240 := vp_in_nI (by omega) (by decide)
    simp only [ix5, forall_eq, va, vb, true_and, nI_clamp (show 5 * a + k < 2 ^ 31 by omega), nI_clamp (show 5 * b + k < 2 ^ 31 by omega)]
    have n1 : ¬ 5 * b + k = 5 * a + k := by omega
    have n2 : ¬ 5 * a + k = 5 * b + k := by omega
    obtain ⟨ca1, ca2⟩ := (C a k ha (by omega)).2 (Nat.le_refl _)
    obtain ⟨cb1, cb2⟩ := (C b k hb (by omega)).2 (Nat.le_refl _)
    refine hP _ _ ⟨k + 1, by omega, nI_1 k, by repeat first | exact A | refine ag.sI ?_ rfl, fun p hp => ?_, fun p x hp hx => ?_⟩ (by rw [nI_1, nI_clamp (by omega), nI_clamp (by omega)]; omega)
    · simp only [gI_sI, gI_sJ, gI_sR, gI_sD, gJ_sI, gJ_sJ, gJ_sR, gJ_sD, gR_sI, gR_sJ, gR_sR, gR_sD, gD_sI, gD_sJ, gD_sR, gD_sD, Nat.reduceEqDiff, false_and, and_false, true_and, and_true, and_self, reduceIte, if_true, if_false, ite_true, ite_false]
      exact B p hp
    · simp only [gI_sI, gI_sJ, gI_sR, gI_sD, gJ_sI, gJ_sJ, gJ_sR, gJ_sD, gR_sI, gR_sJ, gR_sR, gR_sD, gD_sI, gD_sJ, gD_sR, gD_sD, Nat.reduceEqDiff, false_and, and_false, true_and, and_true, and_self, reduceIte, if_true, if_false, ite_true, ite_false, ix5e hx (show k < 5 by omega)]
      by_cases ex : x = k
      · subst ex
        refine ⟨fun _ => ?_, fun q => by omega⟩
        unfold sw
        by_cases ea : p = a
        · subst ea
          simp only [hab, gI_sI, gI_sJ, gI_sR, gI_sD, gJ_sI, gJ_sJ, gJ_sR, gJ_sD, gR_sI, gR_sJ, gR_sR, gR_sD, gD_sI, gD_sJ, gD_sR, gD_sD, Nat.reduceEqDiff, false_and, and_false, true_and, and_true, and_self, reduceIte, if_true, if_false, ite_true, ite_false, ca1, ca2, cb1, cb2]
          exact fun n => n
        · by_cases eb : p = b
          · subst eb
            simp only [ea, gI_sI, gI_sJ, gI_sR, gI_sD, gJ_sI, gJ_sJ, gJ_sR, gJ_sD, gR_sI, gR_sJ, gR_sR, gR_sD, gD_sI, gD_sJ, gD_sR, gD_sD, Nat.reduceEqDiff, false_and, and_false, true_and, and_true, and_self, reduceIte, if_true, if_false, ite_true, ite_false, ca1, ca2, cb1, cb2]
            exact fun n => n
          · simp only [ea, eb, gI_sI, gI_sJ, gI_sR, gI_sD, gJ_sI, gJ_sJ, gJ_sR, gJ_sD, gR_sI, gR_sJ, gR_sR, gR_sD, gD_sI, gD_sJ, gD_sR, gD_sD, Nat.reduceEqDiff, false_and, and_false, true_and, and_true, and_self, reduceIte, if_true, if_false, ite_true, ite_false]
            obtain ⟨c1, c2⟩ := (C p x hp hx).2 (Nat.le_refl _)
            exact ⟨fun _ => c1, c2⟩
      · simp only [ex, gI_sI, gI_sJ, gI_sR, gI_sD, gJ_sI, gJ_sJ, gJ_sR, gJ_sD, gR_sI, gR_sJ, gR_sR, gR_sD, gD_sI, gD_sJ, gD_sR, gD_sD, Nat.reduceEqDiff, false_and, and_false, true_and, and_true, and_self, reduceIte, if_true, if_false, ite_true, ite_false]
        exact ⟨fun q => (C p x hp hx).1 (by omega), fun q => (C p x hp hx).2 (by omega)⟩
/-- where the rule now at r came from, when the rule f was put at the place k -/
def rot (f k r : Nat) : Nat := if f ≤ k then (if f ≤ r ∧ r < k then r + 1 else if r = k then f else r) else (if k < r ∧ r ≤ f then r - 1 else if r = k then f else r)
theorem rot_up {f k : Nat} (h : f ≤ k) (r : Nat) : rot f k (sw k (k + 1) r) = rot f (k + 1) r := by
  unfold rot sw
  rw [if_pos h, if_pos (show f ≤ k + 1 by omega)]
  by_cases a : r = k
  · rw [if_pos a, if_neg (by omega), if_neg (by omega), if_pos (by omega)]; omega
  · rw [if_neg a]
    by_cases b : r = k + 1
    · rw [if_pos b, if_neg (by omega), if_pos rfl, if_neg (by omega), if_pos b]
    · rw [if_neg b, if_neg a, if_neg b]
      by_cases c : f ≤ r ∧ r < k
      · rw [if_pos c, if_pos (by omega)]
      · rw [if_neg c, if_neg (by omega)]
theorem rot_down {f k : Nat} (h : k ≤ f) (hk : 1 ≤ k) (r : Nat) : rot f k (sw k (k - 1) r) = rot f (k - 1) r := by
  unfold rot sw
  rw [if_neg (show ¬ f ≤ k - 1 by omega)]
  by_cases a : r = k
  · rw [if_pos a, if_pos (show k - 1 < r ∧ r ≤ f by omega)]
    by_cases e : f ≤ k
    · rw [if_pos e, if_neg (by omega), if_neg (by omega)]; omega
    · rw [if_neg e, if_neg (by omega), if_neg (by omega)]; omega
  · rw [if_neg a]
    by_cases b : r = k - 1
    · rw [if_pos b, if_neg (show ¬ (k - 1 < r ∧ r ≤ f) by omega), if_pos b]
      by_cases e : f ≤ k
      · rw [if_pos e, if_neg (by omega), if_pos rfl]
      · rw [if_neg e, if_neg (by omega), if_pos rfl]
    · simp only [a, b, if_false]
      by_cases e : f ≤ k
      · rw [if_pos e, if_neg (by omega), if_neg (by omega)]
      · rw [if_neg e]
        by_cases c : k < r ∧ r ≤ f
        · rw [if_pos c, if_pos (by omega)]
        · rw [if_neg c, if_neg (by omega)]
theorem rot_self (f r : Nat) : rot f f r = r := by
  unfold rot
  rw [if_pos (Nat.le_refl f), if_neg (by omega)]
  by_cases e : r = f
  · rw [if_pos e, e]
  · rw [if_neg e]
theorem rot_lt {f t r n : Nat} (hf : f < n) (ht : t < n) (hr : r < n) : rot f t r < n := by
  unfold rot
  split <;> split
  · omega
  · split <;> omega
  · omega
  · split <;> omega
theorem rot_inj {f t r r' : Nat} (e : rot f t r = rot f t r') : r = r' := by
  unfold rot at e
  split at e
  · split at e
    · split at e
      · omega
      · split at e <;> omega
    · split at e
      · split at e
        · omega
        · split at e <;> omega
      · split at e
        · omega
        · split at e <;> omega
  · split at e
    · split at e
      · omega
      · split at e <;> omega
    · split at e
      · split at e
        · omega
        · split at e <;> omega
      · split at e
        · omega
        · split at e <;> omega
/-- the model's rules of the script s, moved about -/
def RuM (s : Nat) (π : Nat → Nat) (h h' : Hp) : Prop := (∀ r, r < 12 → CE h h' (12 * s + r) (12 * s + π r)) ∧ ∀ p, p < 48 → (p < 12 * s ∨ 12 * s + 12 ≤ p) → CE h h' p p
theorem RuM_sw {s a b : Nat} {π : Nat → Nat} {h h' h'' : Hp} (hs : s < 4) (ha : a < 12) (hb : b < 12) (r : RuM s π h h') (c : ∀ p, p < 48 → CE h' h'' p (sw (12 * s + a) (12 * s + b) p)) : RuM s (fun r => π (sw a b r)) h h'' := by
  refine ⟨fun x hx => ?_, fun p hp q => ?_⟩
  · have := c (12 * s + x) (by omega)
    have e : sw (12 * s + a) (12 * s + b) (12 * s + x) = 12 * s + sw a b x := by
      unfold sw
      by_cases e1 : x = a
      · rw [if_pos (by omega), if_pos e1]
      · rw [if_neg (by omega), if_neg e1]
        by_cases e2 : x = b
        · rw [if_pos (by omega), if_pos e2]
        · rw [if_neg (by omega), if_neg e2]
    rw [e] at this
    refine (r.1 _ ?_).trans this
    unfold sw
    split
    · exact hb
    · split
      · exact ha
      · exact hx
  · have := c p hp
    rw [show sw (12 * s + a) (12 * s + b) p = p from by unfold sw; rw [if_neg (by omega), if_neg (by omega)]] at this
    exact (r.2 p hp q).trans this
theorem RuM_id (s : Nat) (h : Hp) : RuM s (fun r => r) h h := ⟨fun r _ => CE.rfl, fun p _ _ => CE.rfl⟩
theorem RuM_ext {s : Nat} {π π' : Nat → Nat} {h h' : Hp} (a : RuM s π h h') (e : ∀ r, r < 12 → π r = π' r) : RuM s π' h h' := ⟨fun r hr => by rw [← e r hr]; exact a.1 r hr, a.2⟩
theorem reoM_w {s f t : Nat} {h : Hp} {Q : Int32 → Hp → Prop} (hs : s < 4) (hf : f < 12) (ht : t < 12) (g : ∀ h', ag (wS [54, 55, 56, 57] []) h h' → RuM s (rot f t) h h' → Q (gI h' 53 0 s) h') : wp_X11_reorder_b32 (nI s) (nI f) (nI t) (nI f) h Q := by
  have v4 : vp_in (nI s) 4 := vp_in_nI hs (by decide)
  have r0 : RuM s (rot f f) h h := RuM_ext (RuM_id s h) (fun r _ => (rot_self f r).symm)
  unfold wp_X11_reorder_b32
  refine LFP2.by (I := fun y h' => ∃ k, f ≤ k ∧ (k ≤ t ∨ k = f) ∧ k < 12 ∧ y = nI k ∧ ag (wS [54, 55, 56, 57] []) h h' ∧ RuM s (rot f k) h h') (μ := fun y _ => 12 - y.toNatClampNeg) ⟨f, by omega, by omega, hf, rfl, ag.rfl, r0⟩ ?_
  rintro y h' ⟨k, h1, h2, h3, rfl, A, R⟩ P hP
  unfold wp_X11_reorder_b32F LET
  by_cases c : t ≤ k
  · rw [if_pos (nI_le c (by omega))]
    unfold wp_X11_reorder_b67
    refine LFP2.by (I := fun y h' => ∃ k, k ≤ f ∧ y = nI k ∧ ag (wS [54, 55, 56, 57] []) h h' ∧ (f ≤ t → RuM s (rot f t) h h') ∧ (t < f → t ≤ k ∧ RuM s (rot f k) h h')) (μ := fun y _ => y.toNatClampNeg) ⟨f, by omega, rfl, A, fun q => ?_, fun q => ⟨by omega, ?_⟩⟩ ?_
    · have : k = t := by omega
      rw [← this]; exact R
    · have : k = f := by omega
      rw [this] at R; exact R
    rintro y h' ⟨k, h1, rfl, A, R1, R2⟩ P hP
    unfold wp_X11_reorder_b67F LET
    by_cases c : k ≤ t
    · rw [if_pos (nI_le c (by omega))]
      refine ⟨v4, ?_⟩
      rw [nI_clamp (by omega)]
      refine g h' A ?_
      rcases Nat.lt_or_ge t f with q | q
      · obtain ⟨a, b⟩ := R2 q
        have : k = t := by omega
        rw [← this]; exact b
      · exact R1 q
    · rw [if_neg (nI_ge (show t < k by omega) (by omega))]
      obtain ⟨a, b⟩ := R2 (by omega)
      rw [ix12, nI_sub1 (by omega), show 12 * s + k - 1 = 12 * s + (k - 1) by omega]
      refine exch_w (by omega) (by omega) (by omega) (fun h'' A' C => ?_)
      simp only [forall_eq]
      rw [nI_dec (by omega)]
      exact hP _ _ ⟨k - 1, by omega, rfl, A.trans A', fun q => absurd q (by omega), fun _ => ⟨by omega, RuM_ext (RuM_sw hs (by omega) (by omega) b C) (fun r _ => rot_down h1 (by omega) r)⟩⟩ (by rw [nI_clamp (by omega), nI_clamp (by omega)]; omega)
  · rw [if_neg (nI_ge (show k < t by omega) (by omega)), ix12, nI_1, show 12 * s + k + 1 = 12 * s + (k + 1) by omega]
    refine exch_w (by omega) (by omega) (by omega) (fun h'' A' C => ?_)
    simp only [forall_eq]
    rw [nI_1]
    exact hP _ _ ⟨k + 1, by omega, by omega, by omega, rfl, A.trans A', RuM_ext (RuM_sw hs (by omega) (by omega) R C) (fun r _ => rot_up h1 r)⟩ (by rw [nI_clamp (by omega), nI_clamp (by omega)]; omega)
theorem reoC_w {s f t : Nat} {q : Nat → Nat} {h : Hp} {Q : Hp → Prop} (hs : s < 4) (hf : f < 12) (ht : t < 12) (hq : ∀ r, r < 12 → gR h 22 s r = q r + 1 ∧ q r < 48)
    (g : ∀ h', ag (wS [22] []) h h' → (∀ r, r < 12 → gR h' 22 s r = q (rot f t r) + 1) → (∀ o k, o ≠ s → gR h' 22 o k = gR h 22 o k) → Q h') : wp_X7_shift s (nI f) (nI t) h Q := by
  unfold wp_X7_shift wp_X7_shift_b10
  refine ⟨vp_in_nI hf (by decide), ?_⟩
  rw [nI_clamp (by omega)]
  refine ⟨q f, (hq f hf).1, (hq f hf).2, ?_⟩
  refine LFP2.by (I := fun y h' => ∃ k, f ≤ k ∧ (k ≤ t ∨ k = f) ∧ k < 12 ∧ y = nI k ∧ ag (wS [22] []) h h' ∧ (∀ r, r < 12 → gR h' 22 s r = (if f ≤ r ∧ r < k then q (r + 1) else q r) + 1) ∧ (∀ o k, o ≠ s → gR h' 22 o k = gR h 22 o k)) (μ := fun y _ => 12 - y.toNatClampNeg) ⟨f, by omega, by omega, hf, rfl, ag.rfl, fun r hr => by rw [if_neg (by omega)]; exact (hq r hr).1, fun _ _ _ => rfl⟩ ?_
  rintro y h' ⟨k, h1, h2, h3, rfl, A, B, C⟩ P hP
  unfold wp_X7_shift_b10F LET
  by_cases c : t ≤ k
  · rw [if_pos (nI_le c (by omega))]
    unfold wp_X7_shift_b41
    refine LFP2.by (I := fun y h' => ∃ k, k ≤ f ∧ y = nI k ∧ ag (wS [22] []) h h' ∧ (∀ o k, o ≠ s → gR h' 22 o k = gR h 22 o k) ∧ (f ≤ t → ∀ r, r < 12 → gR h' 22 s r = (if f ≤ r ∧ r < t then q (r + 1) else q r) + 1) ∧ (t < f → t ≤ k ∧ ∀ r, r < 12 → gR h' 22 s r = (if k < r ∧ r ≤ f then q (r - 1) else q r) + 1)) (μ := fun y _ => y.toNatClampNeg) ⟨f, by omega, rfl, A, C, fun q => ?_, fun q => ⟨by omega, fun r hr => ?_⟩⟩ ?_
    · have : k = t := by omega
      rw [← this]; exact B
    · rw [B r hr, if_neg (by omega), if_neg (by omega)]
    rintro y h' ⟨k, h1, rfl, A, C, R1, R2⟩ P hP
    unfold wp_X7_shift_b41F LET
    by_cases c : k ≤ t
    · rw [if_pos (nI_le c (by omega))]
      refine ⟨vp_in_nI ht (by decide), ?_⟩
      rw [nI_clamp (by omega)]
      simp only [forall_eq]
      refine g _ (A.sR rfl) (fun r hr => ?_) (fun o k ho => ?_)
      · rw [gR_sR]
        unfold rot
        by_cases e : r = t
        · subst e
          rw [if_pos ⟨rfl, rfl, rfl⟩]
          by_cases e' : f ≤ r
          · rw [if_pos e', if_neg (by omega), if_pos rfl]
          · rw [if_neg e', if_neg (by omega), if_pos rfl]
        · rw [if_neg (fun x => e x.2.2)]
          rcases Nat.lt_or_ge t f with x | x
          · obtain ⟨a, b⟩ := R2 x
            have : k = t := by omega
            subst this
            rw [b r hr, if_neg (show ¬ f ≤ k by omega)]
            by_cases e' : k < r ∧ r ≤ f
            · rw [if_pos e', if_pos e']
            · rw [if_neg e', if_neg e', if_neg e]
          · rw [R1 x r hr, if_pos x]
            by_cases e' : f ≤ r ∧ r < t
            · rw [if_pos e', if_pos e']
            · rw [if_neg e', if_neg e', if_neg e]
      · rw [gR_sR, if_neg (fun x => ho x.2.1)]
        exact C o k ho
    · rw [if_neg (nI_ge (show t < k by omega) (by omega))]
      obtain ⟨a, b⟩ := R2 (by omega)
      rw [nI_sub1 (by omega), nI_dec (by omega)]
      refine ⟨vp_in_nI (by omega) (by decide), q (k - 1), ?_, (hq (k - 1) (by omega)).2, vp_in_nI (by omega) (by decide), ?_⟩
      · rw [nI_clamp (by omega), b (k - 1) (by omega), if_neg (by omega)]
      · simp only [forall_eq]
        rw [nI_clamp (by omega)]
        refine hP _ _ ⟨k - 1, by omega, rfl, A.sR rfl, fun o k ho => ?_, fun q => absurd q (by omega), fun _ => ⟨by omega, fun r hr => ?_⟩⟩ (by rw [nI_clamp (by omega), nI_clamp (by omega)]; omega)
        · rw [gR_sR, if_neg (fun x => ho x.2.1)]
          exact C o k ho
        · rw [gR_sR]
          by_cases e : r = k
          · subst e
            rw [if_pos ⟨rfl, rfl, rfl⟩, if_pos (by omega)]
          · rw [if_neg (fun x => e x.2.2), b r hr]
            by_cases e' : k < r ∧ r ≤ f
            · rw [if_pos e', if_pos (by omega)]
            · rw [if_neg e', if_neg (by omega)]
  · rw [if_neg (nI_ge (show k < t by omega) (by omega)), nI_1]
    refine ⟨vp_in_nI (by omega) (by decide), q (k + 1), ?_, (hq (k + 1) (by omega)).2, vp_in_nI (by omega) (by decide), ?_⟩
    · rw [nI_clamp (by omega), B (k + 1) (by omega), if_neg (by omega)]
    · simp only [forall_eq]
      rw [nI_clamp (by omega)]
      refine hP _ _ ⟨k + 1, by omega, by omega, by omega, rfl, A.sR rfl, fun r hr => ?_, fun o k ho => ?_⟩ (by rw [nI_clamp (by omega), nI_clamp (by omega)]; omega)
      · rw [gR_sR]
        by_cases e : r = k
        · subst e
          rw [if_pos ⟨rfl, rfl, rfl⟩, if_pos (by omega)]
        · rw [if_neg (fun x => e x.2.2), B r hr]
          by_cases e' : f ≤ r ∧ r < k
          · rw [if_pos e', if_pos (by omega)]
          · rw [if_neg e', if_neg (by omega)]
      · rw [gR_sR, if_neg (fun x => ho x.2.1)]
        exact C o k ho
theorem SaV_ch {k a : Int32} (v : SaV k a) : vp_nar .char k = k := by
  rcases v with (rfl | rfl | rfl | rfl | rfl) | ⟨rfl | rfl, -⟩ | ⟨rfl, -⟩ | ⟨rfl | rfl, -⟩ | ⟨rfl, -⟩ | ⟨rfl, -⟩ <;> decide +kernel
theorem c_reorder {i : Nat} {h : Hp} (S : Sim i h) (p1 p2 p3 : Int32) {K : Int32 → Int32 → Hp → Prop} (hK : SK i K) :
    wp_L_reorder p1 p2 p3 h (fun r h1 => wp_X11_reorder p1 p2 p3 h1 (fun b h2 => K r b h2)) := by
  unfold wp_L_reorder wp_X10_reorder wp_X11_reorder wp_X11_reorder_b23 wp_X11_fails LET
  obtain ⟨d, nm, nt, hd, s1, s2, s3, s4, s5, s6, s7⟩ := id S
  by_cases a1 : inN p1 4
  case neg => simp [rr_n a1, ir_n a1]; exact hK.fail S 1 (by decide) (by exact ag.rfl.sI)
  obtain ⟨m, hm, rfl⟩ := id a1
  obtain ⟨nr, t1, t2, t3, q, t4, t5, t6⟩ := id (s6 m hm)
  have f2 : gI (sI h 11 0 0 0) 53 0 m = nI nr := by simp [gI_sI, gI_sJ, gI_sR, gI_sD, gJ_sI, gJ_sJ, gJ_sR, gJ_sD, gR_sI, gR_sJ, gR_sR, gR_sD, gD_sI, gD_sJ, gD_sR, gD_sD, t3]
  by_cases a2 : inN p2 nr
  case neg => simp [rr_0 hm t1 t2 a2, ir_0 hm t1 f2 a2]; exact hK.fail S 1 (by decide) (by exact ag.rfl.sI)
  obtain ⟨f, hf, rfl⟩ := id a2
  by_cases a3 : inN p3 nr
  case neg => simp [rr_1 hm t1 t2 a2, ir_1 hm t1 f2 a2, rr_0 hm t1 t2 a3, ir_0 hm t1 f2 a3]; exact hK.fail S 1 (by decide) (by exact ag.rfl.sI)
  obtain ⟨t, ht, rfl⟩ := id a3
  rw [rr_1 hm t1 t2 a2, rr_1 hm t1 t2 a3]
  refine ⟨vp_in_nI hm (by decide), ?_⟩
  rw [nI_clamp (by omega)]
  refine reoC_w hm (by omega) (by omega) (fun r hr => ⟨(t4 r hr).1, by have := (t4 r hr).2; omega⟩) (fun h1 A1 B1 C1 => ?_)
  refine ⟨z_in ▸ trivial, ?_⟩
  rintro y rfl y rfl
  have f3 : ∀ v, gI (sI (sJ h1 75 0 0 v) 11 0 0 0) 53 0 m = nI nr := fun v => by simp only [gI_sI, gI_sJ, gI_sR, gI_sD, gJ_sI, gJ_sJ, gJ_sR, gJ_sD, gR_sI, gR_sJ, gR_sR, gR_sD, gD_sI, gD_sJ, gD_sR, gD_sD, Nat.reduceEqDiff, false_and, and_false, true_and, and_true, and_self, reduceIte, if_true, if_false, ite_true, ite_false]; rw [A1.I 53 0 m, t3]
  have e7 : gI h1 7 m 1 = nI nr := by rw [A1.I 7 m 1, t2]
  rw [z_cl, e7, ir_1 hm t1 (f3 _) a2, if_neg (by decide), ir_1 hm t1 (f3 _) a3, if_neg (by decide)]
  refine reoM_w hm (by omega) (by omega) (fun h2 A2 R => ?_)
  have A12 : ag (wS [22, 75] [(11, 0)]) h (sI (sJ h1 75 0 0 (nI nr).toInt64) 11 0 0 0) := ((A1.mono (wS_mono (by decide) (by decide))).sJ rfl).sI rfl
  have A : ag (wS [22, 54, 55, 56, 57, 75] [(11, 0)]) h h2 := (A12.mono (wS_mono (by decide) (by decide))).trans (A2.mono (wS_mono (by decide) (by decide)))
  have e53 : gI h2 53 0 m = nI nr := by rw [A.I 53 0 m, t3]
  rw [e53]
  refine hK.go _ A (fun A => ⟨d, nm, nt, by omega, s1.ag A (wS_dis (by decide)), s2.ag A (wS_dis (by decide)), s3.ag A (wS_dis (by decide)), (s4.mono (by omega) (by omega)).ag A (wS_dis (by decide)), s5.ag A (wS_dis (by decide)), ?_, s7.ag A (wS_dis (by decide))⟩) (by rw [A2.I 11 0 0]; simp [gI_sI, gI_sJ, gI_sR, gI_sD, gJ_sI, gJ_sJ, gJ_sR, gJ_sD, gR_sI, gR_sJ, gR_sR, gR_sD, gD_sI, gD_sJ, gD_sR, gD_sD]) (fun _ => by rw [A2.J 75 0 0]; simp [gI_sI, gI_sJ, gI_sR, gI_sD, gJ_sI, gJ_sJ, gJ_sR, gJ_sD, gR_sI, gR_sJ, gR_sR, gR_sD, gD_sI, gD_sJ, gD_sR, gD_sD])
  have cb : ∀ p, gI (sI (sJ h1 75 0 0 (nI nr).toInt64) 11 0 0 0) 54 0 p = gI h 54 0 p ∧ gI (sI (sJ h1 75 0 0 (nI nr).toInt64) 11 0 0 0) 55 0 p = gI h 55 0 p ∧ gI (sI (sJ h1 75 0 0 (nI nr).toInt64) 11 0 0 0) 56 0 p = gI h 56 0 p ∧ gI (sI (sJ h1 75 0 0 (nI nr).toInt64) 11 0 0 0) 57 0 p = gI h 57 0 p := fun p => ⟨A12.I 54 0 p, A12.I 55 0 p, A12.I 56 0 p, A12.I 57 0 p⟩
  have mv : ∀ q' p p', SrE nt h q' p' → CE (sI (sJ h1 75 0 0 (nI nr).toInt64) 11 0 0 0) h2 p p' → SrE nt h2 q' p := by
    rintro q' p p' ⟨x1, x2, x3, c, y1, y2, y3⟩ ⟨z1, z2, z3⟩
    rw [(cb p').1] at z1
    rw [(cb p').2.1] at z2
    refine ⟨by rw [A.I 6 q' 2, x1, z1], by rw [A.I 6 q' 3, x2, z2], by rw [z1]; exact x3, c, y1, by rw [z2]; exact y2, fun a ha => ?_⟩
    obtain ⟨w1, w2, w3⟩ := y3 a ha
    obtain ⟨v1, v2⟩ := z3 a (by omega)
    rw [(cb (5 * p' + a)).2.2.1] at v1
    rw [(cb (5 * p' + a)).2.2.2] at v2
    have v1 := v1 (SaV_ch w3)
    refine ⟨by rw [A.I 23 q' a, w1, v1], by rw [A.I 24 q' a, w2, v2], by rw [v1, v2]; exact w3⟩
  intro s hs
  by_cases e : s = m
  · subst e
    refine ⟨nr, t1, by rw [A.I 7 s 1, t2], by rw [e53], fun r => q (rot f t r), fun r hr => ?_, fun r r' hr hr' e => rot_inj (t5 _ _ (rot_lt (by omega) (by omega) hr) (rot_lt (by omega) (by omega) hr') e), fun r hr => ?_⟩
    · have := t4 (rot f t r) (rot_lt (by omega) (by omega) hr)
      refine ⟨?_, this.2⟩
      rw [A2.R 22 s r]
      simp only [gI_sI, gI_sJ, gI_sR, gI_sD, gJ_sI, gJ_sJ, gJ_sR, gJ_sD, gR_sI, gR_sJ, gR_sR, gR_sD, gD_sI, gD_sJ, gD_sR, gD_sD]
      exact B1 r hr
    · exact mv _ _ _ (t6 (rot f t r) (rot_lt hf ht hr)) (R.1 r (by omega))
  · obtain ⟨nr', t1', t2', t3', q', t4', t5', t6'⟩ := s6 s hs
    refine ⟨nr', t1', by rw [A.I 7 s 1, t2'], by rw [A.I 53 0 s, t3'], q', fun r hr => ?_, t5', fun r hr => ?_⟩
    · refine ⟨?_, (t4' r hr).2⟩
      rw [A2.R 22 s r]
      simp only [gI_sI, gI_sJ, gI_sR, gI_sD, gJ_sI, gJ_sJ, gJ_sR, gJ_sD, gR_sI, gR_sJ, gR_sR, gR_sD, gD_sI, gD_sJ, gD_sR, gD_sD]
      rw [C1 s r e]
      exact (t4' r hr).1
    · exact mv _ _ _ (t6' r hr) (R.2 (12 * s + r) (by omega) (by omega))
