/-! the model's reasoner: what it computes -/
def lvC (M : Nat → Int32) (k a : Int32) (p : Bool) : Bool := if k = 107 then true else (fit M k a == p)
def gcs (K A B : Nat → Int32) (lv : Int32 → Int32 → Bool → Bool) : Nat → Nat → Bool → Bool
  | 0 => fun _ _ => false
  | n + 1 => fun t p => if t = n then cw (gcs K A B lv n) (K n) (A n) (B n) p (lv (K n) (A n) p) else gcs K A B lv n t p
def gc (K A B : Nat → Int32) (lv : Int32 → Int32 → Bool → Bool) (t : Nat) (p : Bool) : Bool := gcs K A B lv (t + 1) t p
section
variable {K A B : Nat → Int32} {nt : Nat} {lv : Int32 → Int32 → Bool → Bool}
theorem gcs_up : ∀ n t p, t < n → gcs K A B lv n t p = gc K A B lv t p := by
  intro n
  induction n with
  | zero => intro t p ht; omega
  | succ n ih =>
    intro t p ht
    by_cases e : t = n
    · subst e; rfl
    · rw [← ih t p (by omega)]
      show (if t = n then _ else gcs K A B lv n t p) = _
      rw [if_neg e]
theorem gc_eq (T : TV K A B nt) {t : Nat} (ht : t < nt) (p : Bool) : gc K A B lv t p = cw (gc K A B lv) (K t) (A t) (B t) p (lv (K t) (A t) p) := by
  have v := T.2 t ht
  have n60 := T.1
  unfold gc
  show (if t = t then cw (gcs K A B lv t) (K t) (A t) (B t) p (lv (K t) (A t) p) else _) = _
  rw [if_pos rfl]
  refine cw_ext (fun m p => ?_) (fun kk p => ?_)
  · exact gcs_up t _ _ (cl_lt (StV_mk v m).1 (by omega))
  · have k33 : K t ≠ 33 := fun q => by rcases kk with k | k <;> rw [k] at q <;> exact absurd q (by decide)
    exact gcs_up t _ _ (cl_lt ((StV_mk v (Or.inr kk)).2 k33) (by omega))
theorem cv_cw {M : Nat → Int32} (T : TV K A B nt) {t : Nat} (ht : t < nt) (p : Bool) : cv K A B M t p = cw (cv K A B M) (K t) (A t) (B t) p (lvC M (K t) (A t) p) := by
  rw [cv_eq T ht]
  unfold cst cw lvC
  rfl
/-- tests whose leaves do the same do the same -/
theorem cw_imp {f g : Nat → Bool → Bool} {l1 l2 : Int32 → Int32 → Bool → Bool} {nd : Nat → Bool} (T : TV K A B nt) (hf : ∀ t p, t < nt → f t p = cw f (K t) (A t) (B t) p (l1 (K t) (A t) p)) (hg : ∀ t p, t < nt → g t p = cw g (K t) (A t) (B t) p (l2 (K t) (A t) p))
    (hn : ∀ t, t < nt → nd t = true → (mk (K t) → nd (cl (A t)) = true) ∧ (K t = 38 ∨ K t = 124 → nd (cl (B t)) = true)) (hl : ∀ t p, t < nt → nd t = true → ¬ mk (K t) → l1 (K t) (A t) p = true → l2 (K t) (A t) p = true) : ∀ t, t < nt → nd t = true → ∀ p, f t p = true → g t p = true := by
  intro t
  induction t using Nat.strongRecOn with
  | ind t ih =>
    intro ht hd p e
    rw [hf t p ht] at e
    rw [hg t p ht]
    have v := T.2 t ht
    have n60 := T.1
    obtain ⟨d1, d2⟩ := hn t ht hd
    unfold cw at e ⊢
    by_cases k33 : K t = 33
    · rw [if_pos k33] at e ⊢
      have la := cl_lt (StV_mk v (Or.inl k33)).1 (by omega)
      exact ih _ la (by omega) (d1 (Or.inl k33)) _ e
    rw [if_neg k33] at e ⊢
    by_cases kk : K t = 38 ∨ K t = 124
    · rw [if_pos kk] at e ⊢
      have la := cl_lt (StV_mk v (Or.inr kk)).1 (by omega)
      have lb := cl_lt ((StV_mk v (Or.inr kk)).2 k33) (by omega)
      have ia := ih _ la (by omega) (d1 (Or.inr kk)) p
      have ib := ih _ lb (by omega) (d2 kk) p
      by_cases al : decide (K t = 38) = p
      · rw [if_pos al] at e ⊢
        simp only [Bool.and_eq_true] at e ⊢
        exact ⟨ia e.1, ib e.2⟩
      · rw [if_neg al] at e ⊢
        simp only [Bool.or_eq_true] at e ⊢
        rcases e with e | e
        · exact Or.inl (ia e)
        · exact Or.inr (ib e)
    · rw [if_neg kk] at e ⊢
      exact hl t p ht hd (fun m => by rcases m with q | q; exact k33 q; exact kk q) e
end
/-- the variable of a leaf -/
def vr (k a : Int32) : Nat := if k = 102 then 0 else if k = 100 then 1 else if k = 122 then 2 else if k = 116 then 3 + cl a else if k = 115 then 13 + cl a else 29 + cl a
def cnN (val : Nat → Int32) (b : Bool) : Nat := ct (fun i => decide (val (3 + i) = 1) || (b && decide (val (3 + i) = -1))) 10
def cb (val lk : Nat → Int32) (k a : Int32) (p : Bool) : Bool :=
  if k = 97 then p else if k = 107 then true else if k = 110 then (if p = true then decide (¬ nI (cnN val true) < a) else (decide (¬ a ≤ 1) && decide (¬ a ≤ nI (cnN val false))))
  else if val (vr k a) = -1 then (if k = 122 then (if p = true then decide (¬ (999 : Int32) ≤ a) else decide (¬ a ≤ 0)) else true)
  else if k = 102 ∨ k = 100 then (decide (val (vr k a) = a) == p) else if k = 122 then (decide (¬ lk (cl (val 2)) ≤ a) == p) else (decide (val (vr k a) = 1) == p)
/-- a variable's value, and a mail -/
def rl (K A : Nat → Int32) (nt : Nat) (nd : Nat → Bool) (lk : Nat → Int32) (v x : Nat) (M : Nat → Int32) : Prop :=
  (v = 0 → M 0 = nI x) ∧ (v = 1 → M 5 = nI x) ∧ (v = 2 → ∀ t, t < nt → nd t = true → K t = 122 → (lk x ≤ A t ↔ M 4 ≤ A t)) ∧ (3 ≤ v → v < 13 → (x = 1 ↔ bI (M 1) (v - 3) = true)) ∧ (13 ≤ v → v < 29 → (x = 1 ↔ bI (M 2) (v - 13) = true)) ∧ (29 ≤ v → v < 45 → (x = 1 ↔ bI (M 3) (v - 29) = true))
/-- what stands in value: nothing, or a number of the domain -/
def dm (sz v : Nat) : Nat := if v = 0 then 10 else if v = 1 then 7 else if v = 2 then sz else 2
def VAL (val : Nat → Int32) (sz : Nat) : Prop := ∀ v, v < 45 → val v = -1 ∨ ∃ x, x < dm sz v ∧ val v = nI x
section
variable {K A : Nat → Int32} {nt sz : Nat} {nd : Nat → Bool} {val lk M : Nat → Int32}
theorem dm2 {v : Nat} (h : 3 ≤ v) : dm sz v = 2 := by unfold dm; rw [if_neg (by omega), if_neg (by omega), if_neg (by omega)]
theorem pcn_bits (v : VM M) : ∃ R, R < 1024 ∧ cl (M 1) = R ∧ (∀ i, i < 10 → R.testBit i = bI (M 1) i) ∧ pcn R = ct (fun i => bI (M 1) i) 10 ∧ 1 ≤ pcn R := by
  obtain ⟨R, hR, e1, e2, -⟩ := recv_n v
  have h1 : 1 ≤ pcn R := by
    have : R ≠ 0 := fun q => by
      have := v.2.1.1
      rw [e1, q] at this
      exact absurd this (by decide)
    have : ∀ n, n < 1024 → n ≠ 0 → 1 ≤ pcn n := by decide +kernel
    exact this R hR (by assumption)
  refine ⟨R, hR, e2, fun i hi => by rw [e1, bI_nI (by omega)], ?_, h1⟩
  rw [pcn_ct R hR]
  exact ct_ext (fun i hi => by rw [e1, bI_nI (by omega)])
/-- a mail's leaf, as far as variables are known -/
theorem cb_sound (V : VAL val sz) (hsz : sz ≤ 61) (v : VM M) (C : ∀ x v, v < 45 → val v = nI x → x < dm sz v → rl K A nt nd lk v x M) {t : Nat} (ht : t < nt) (hd : nd t = true) (o : leafOK (K t) (A t)) {p : Bool} (e : lvC M (K t) (A t) p = true) : cb val lk (K t) (A t) p = true := by
  generalize hk : K t = k at *
  generalize ha : A t = a at *
  have bin : ∀ w, 3 ≤ w → w < 45 → val w ≠ -1 → val w = 0 ∨ val w = 1 := fun w h1 h2 n => by
    rcases V w h2 with q | ⟨x, hx, q⟩
    · exact absurd q n
    · rw [dm2 h1] at hx
      rcases (show x = 0 ∨ x = 1 by omega) with rfl | rfl
      · exact Or.inl q
      · exact Or.inr q
  have recv1 : ∀ i, i < 10 → val (3 + i) = 1 → bI (M 1) i = true := fun i hi q => by
    have := (C 1 (3 + i) (by omega) q (by rw [dm2 (by omega)]; omega)).2.2.2.1 (by omega) (by omega)
    rw [show 3 + i - 3 = i by omega] at this
    exact this.mp rfl
  have recv0 : ∀ i, i < 10 → val (3 + i) = 0 → bI (M 1) i = false := fun i hi q => by
    have := (C 0 (3 + i) (by omega) q (by rw [dm2 (by omega)]; omega)).2.2.2.1 (by omega) (by omega)
    rw [show 3 + i - 3 = i by omega] at this
    cases b : bI (M 1) i
    · rfl
    · exact absurd (this.mpr b) (by decide)
  unfold lvC at e
  unfold cb
  by_cases k97 : k = 97
  · rw [if_pos k97]
    rw [k97, if_neg (by decide), fit97] at e
    cases p
    · cases e
    · rfl
  rw [if_neg k97]
  by_cases k107 : k = 107
  · rw [if_pos k107]
  rw [if_neg k107] at e ⊢
  have f : fit M k a = p := by simpa using e
  by_cases k110 : k = 110
  · rw [if_pos k110]
    obtain ⟨R, hR, r1, r2, r3, r4⟩ := pcn_bits v
    rw [k110] at f
    unfold fit at f
    simp at f
    rw [r1] at f
    have lR := pcn_le hR
    have tR := nI_toInt (n := pcn R) (by omega)
    cases p
    · rw [if_neg (by decide)]
      have f : nI (pcn R) < a := by simpa using f
      rw [Int32.lt_iff_toInt_lt, tR] at f
      have le : cnN val false ≤ pcn R := by
        rw [r3]
        unfold cnN
        refine ct_mono 10 (fun i hi q => ?_)
        simp at q
        exact recv1 i hi q
      have tc := nI_toInt (n := cnN val false) (by omega)
      rw [decide_eq_true, decide_eq_true]
      · rfl
      · rw [Int32.le_iff_toInt_le, tc]; omega
      · rw [Int32.le_iff_toInt_le, show (1 : Int32).toInt = 1 from rfl]; omega
    · rw [if_pos rfl]
      have f : a ≤ nI (pcn R) := by simpa using f
      rw [Int32.le_iff_toInt_le, tR] at f
      have le : pcn R ≤ cnN val true := by
        rw [r3]
        unfold cnN
        refine ct_mono 10 (fun i hi q => ?_)
        by_cases n : val (3 + i) = -1
        · simp [n]
        · rcases bin (3 + i) (by omega) (by omega) n with z | z
          · rw [recv0 i hi z] at q; cases q
          · simp [z]
      have l10 : cnN val true ≤ 10 := ct_le _ 10
      have tc := nI_toInt (n := cnN val true) (by omega)
      refine decide_eq_true ?_
      rw [Int32.lt_iff_toInt_lt, tc]
      omega
  rw [if_neg k110]
  have vlt : vr k a < 45 := by
    unfold vr
    rcases o with rfl | ⟨rfl | rfl, o⟩ | ⟨rfl | rfl, o⟩ | ⟨rfl, o⟩ | ⟨rfl, o⟩ | ⟨rfl, o⟩ | ⟨rfl, o⟩
    · exact absurd rfl k97
    · simp
    · have := cl_lt o (by decide); simp; omega
    · have := cl_lt o (by decide); simp; omega
    · have := cl_lt o (by decide); simp; omega
    · simp
    · simp
    · exact absurd rfl k110
    · exact absurd rfl k107
  by_cases un : val (vr k a) = -1
  · rw [if_pos un]
    by_cases k122 : k = 122
    · rw [if_pos k122]
      rw [k122] at f
      unfold fit at f
      simp at f
      obtain ⟨m1, m2⟩ := v.2.2.2.2.1
      rw [show (1 : Int32).toInt = 1 from rfl] at m1
      rw [show (999 : Int32).toInt = 999 from rfl] at m2
      cases p
      · have f : M 4 ≤ a := by simpa using f
        rw [Int32.le_iff_toInt_le] at f
        rw [if_neg (by decide)]
        refine decide_eq_true ?_
        rw [Int32.le_iff_toInt_le, show (0 : Int32).toInt = 0 from rfl]; omega
      · have f : a < M 4 := by simpa using f
        rw [Int32.lt_iff_toInt_lt] at f
        rw [if_pos rfl]
        refine decide_eq_true ?_
        rw [Int32.le_iff_toInt_le, show (999 : Int32).toInt = 999 from rfl]; omega
    · rw [if_neg k122]
  rw [if_neg un]
  obtain ⟨x, hx, ex⟩ : ∃ x, x < dm sz (vr k a) ∧ val (vr k a) = nI x := by
    rcases V _ vlt with q | q
    · exact absurd q un
    · exact q
  have c := C x _ vlt ex hx
  rcases o with rfl | ⟨rfl | rfl, o⟩ | ⟨rfl | rfl, o⟩ | ⟨rfl, o⟩ | ⟨rfl, o⟩ | ⟨rfl, o⟩ | ⟨rfl, o⟩
  · exact absurd rfl k97
  · rw [if_pos (Or.inl rfl), ex, ← c.1 rfl]
    unfold fit at f
    simp at f
    rw [f]
    simp
  · have hx := cl_lt o (by decide)
    simp only [show ((116 : Int32) = 102) = False by decide, show ((116 : Int32) = 100) = False by decide, show ((116 : Int32) = 122) = False by decide, or_self, if_false]
    unfold fit at f
    simp at f
    have e3 : vr 116 a = 3 + cl a := by unfold vr; simp
    rw [e3] at ex un ⊢
    rcases bin _ (by omega) (by omega) un with z | z
    · rw [z]
      rw [recv0 _ hx z] at f
      rw [← f]; decide
    · rw [z]
      rw [recv1 _ hx z] at f
      rw [← f]; decide
  · have hx2 := cl_lt o (by decide)
    simp only [show ((115 : Int32) = 102) = False by decide, show ((115 : Int32) = 100) = False by decide, show ((115 : Int32) = 122) = False by decide, or_self, if_false]
    unfold fit at f
    simp at f
    have e3 : vr 115 a = 13 + cl a := by unfold vr; simp
    rw [e3] at ex un c hx ⊢
    rw [dm2 (by omega)] at hx
    have c := c.2.2.2.2.1 (by omega) (by omega)
    rw [show 13 + cl a - 13 = cl a by omega] at c
    rcases bin _ (by omega) (by omega) un with z | z
    · rw [z] at ex ⊢
      have x0 : x ≠ 1 := fun q => by rw [q] at ex; exact absurd ex (by decide)
      have : bI (M 2) (cl a) = false := by
        cases b : bI (M 2) (cl a)
        · rfl
        · exact absurd (c.mpr b) x0
      rw [this] at f
      rw [← f]; decide
    · rw [z] at ex ⊢
      have x1 : x = 1 := ((nI_eq (a := 1) (by omega) (by omega)).mp ex).symm
      rw [c.mp x1] at f
      rw [← f]; decide
  · have hx2 := cl_lt o (by decide)
    simp only [show ((98 : Int32) = 102) = False by decide, show ((98 : Int32) = 100) = False by decide, show ((98 : Int32) = 122) = False by decide, or_self, if_false]
    unfold fit at f
    simp at f
    have e3 : vr 98 a = 29 + cl a := by unfold vr; simp
    rw [e3] at ex un c hx ⊢
    rw [dm2 (by omega)] at hx
    have c := c.2.2.2.2.2 (by omega) (by omega)
    rw [show 29 + cl a - 29 = cl a by omega] at c
    rcases bin _ (by omega) (by omega) un with z | z
    · rw [z] at ex ⊢
      have x0 : x ≠ 1 := fun q => by rw [q] at ex; exact absurd ex (by decide)
      have : bI (M 3) (cl a) = false := by
        cases b : bI (M 3) (cl a)
        · rfl
        · exact absurd (c.mpr b) x0
      rw [this] at f
      rw [← f]; decide
    · rw [z] at ex ⊢
      have x1 : x = 1 := ((nI_eq (a := 1) (by omega) (by omega)).mp ex).symm
      rw [c.mp x1] at f
      rw [← f]; decide
  · simp only [show ((122 : Int32) = 102) = False by decide, show ((122 : Int32) = 100) = False by decide, or_self, if_false, if_true]
    have e3 : vr 122 a = 2 := by unfold vr; simp
    rw [e3] at ex c hx
    have hx61 : x < 61 := by
      have : dm sz 2 = sz := by unfold dm; simp
      omega
    have c := c.2.2.1 rfl t ht hd hk
    rw [ha] at c
    rw [ex, show cl (nI x) = x from nI_clamp (by omega)]
    unfold fit at f
    simp only [show ((122 : Int32) = 98) = False by decide, show ((122 : Int32) = 100) = False by decide, show ((122 : Int32) = 102) = False by decide, show ((122 : Int32) = 107) = False by decide, show ((122 : Int32) = 110) = False by decide, show ((122 : Int32) = 115) = False by decide, show ((122 : Int32) = 116) = False by decide, if_false, if_true] at f
    rw [← f, show decide (¬ lk x ≤ a) = decide (¬ M 4 ≤ a) from decide_eq_decide.mpr (not_congr c)]
    simp
  · rw [if_pos (Or.inr rfl), ex, ← c.2.1 rfl]
    unfold fit at f
    simp at f
    rw [f]
    simp
  · exact absurd rfl k110
  · exact absurd rfl k107
end
