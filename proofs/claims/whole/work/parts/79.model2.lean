/-! the model's reasoner: a whole assignment is a mail -/
def bn (f : Nat → Bool) : Nat → Nat
  | 0 => 0
  | n + 1 => (if f n = true then 2 ^ n else 0) + bn f n
theorem bn_lt (f : Nat → Bool) : ∀ n, bn f n < 2 ^ n := by
  intro n
  induction n with
  | zero => simp [bn]
  | succ n ih =>
    simp only [bn]
    have := Nat.pow_succ 2 n
    split <;> omega
theorem bn_bit (f : Nat → Bool) : ∀ n i, i < n → (bn f n).testBit i = f i := by
  intro n
  induction n with
  | zero => intro i h; omega
  | succ n ih =>
    intro i hi
    simp only [bn]
    cases e : f n
    · rw [if_neg (by decide), Nat.zero_add]
      by_cases q : i = n
      · rw [q, e]
        exact Nat.testBit_lt_two_pow (bn_lt f n)
      · exact ih i (by omega)
    · rw [if_pos rfl]
      by_cases q : i = n
      · rw [q, e, Nat.testBit_two_pow_add_eq, Nat.testBit_lt_two_pow (bn_lt f n)]; rfl
      · rw [Nat.testBit_two_pow_add_gt (by omega)]
        exact ih i (by omega)
def mkM (val lk : Nat → Int32) (i : Nat) : Int32 :=
  if i = 0 then (if val 0 = -1 then 0 else val 0) else if i = 1 then nI (bn (fun i => decide (val (3 + i) ≠ 0)) 10) else if i = 2 then nI (bn (fun i => decide (val (13 + i) = 1)) 16) else if i = 3 then nI (bn (fun i => decide (val (29 + i) = 1)) 16)
  else if i = 4 then (if val 2 = -1 then 1 else lk (cl (val 2))) else (if val 1 = -1 then 0 else val 1)
/-- what is wanted, by f: wH must hold, wF must fail; one and other must differ -/
def GL (nt : Nat) (f : Nat → Bool → Bool) (nd wH wF : Nat → Bool) (one other : Int32) : Prop := (∀ t, t < nt → nd t = true → (wH t = true → f t true = true) ∧ (wF t = true → f t false = true)) ∧ (one = -1 ∨ (f (cl one) true = true ∧ f (cl other) false = true) ∨ (f (cl one) false = true ∧ f (cl other) true = true))
theorem GL.mono {nt : Nat} {f g : Nat → Bool → Bool} {nd wH wF : Nat → Bool} {one other : Int32} (s : GL nt f nd wH wF one other) (h : ∀ t, t < nt → nd t = true → ∀ p, f t p = true → g t p = true) (ho : one ≠ -1 → (cl one < nt ∧ nd (cl one) = true) ∧ (cl other < nt ∧ nd (cl other) = true)) : GL nt g nd wH wF one other := by
  obtain ⟨s1, s2⟩ := s
  refine ⟨fun t ht hd => ⟨fun w => h t ht hd _ ((s1 t ht hd).1 w), fun w => h t ht hd _ ((s1 t ht hd).2 w)⟩, ?_⟩
  by_cases q : one = -1
  · exact Or.inl q
  obtain ⟨⟨o1, o2⟩, o3, o4⟩ := ho q
  rcases s2 with z | ⟨z1, z2⟩ | ⟨z1, z2⟩
  · exact absurd z q
  · exact Or.inr (Or.inl ⟨h _ o1 o2 _ z1, h _ o3 o4 _ z2⟩)
  · exact Or.inr (Or.inr ⟨h _ o1 o2 _ z1, h _ o3 o4 _ z2⟩)
section
variable {K A B : Nat → Int32} {nt sz : Nat} {nd : Nat → Bool} {val lk M : Nat → Int32}
/-- the variables that matter are known -/
def KN (K A : Nat → Int32) (nt : Nat) (nd : Nat → Bool) (val : Nat → Int32) : Prop := ∀ t, t < nt → nd t = true → (skK (K t) → K t ≠ 110 → val (vr (K t) (A t)) ≠ -1) ∧ (K t = 110 → ∀ i, i < 10 → val (3 + i) ≠ -1)
theorem mkM_vm (V : VAL val sz) (L : ∀ x, x < sz → inZ (lk x) 1 999) (c : cnN val true ≠ 0) : VM (mkM val lk) := by
  have hR := bn_lt (fun i => decide (val (3 + i) ≠ 0)) 10
  have hS := bn_lt (fun i => decide (val (13 + i) = 1)) 16
  have hB := bn_lt (fun i => decide (val (29 + i) = 1)) 16
  have d2 : dm sz 2 = sz := by unfold dm; simp
  refine ⟨?_, ⟨?_, ?_⟩, ⟨_, by rw [show (65536 : Nat) = 2 ^ 16 by decide]; exact hS, rfl⟩, ⟨_, by rw [show (65536 : Nat) = 2 ^ 16 by decide]; exact hB, rfl⟩, ?_, ?_⟩
  · show inN (if val 0 = -1 then 0 else val 0) 10
    rcases V 0 (by omega) with q | ⟨x, hx, q⟩
    · rw [if_pos q]; exact ⟨0, by omega, rfl⟩
    · rw [q, if_neg (nI_nm1 (by unfold dm at hx; simp at hx; omega))]
      exact ⟨x, by unfold dm at hx; simpa using hx, rfl⟩
  · show (1 : Int32).toInt ≤ (nI (bn _ 10)).toInt
    rw [nI_toInt (by omega), show (1 : Int32).toInt = 1 from rfl]
    have : bn (fun i => decide (val (3 + i) ≠ 0)) 10 ≠ 0 := fun q => by
      have : cnN val true ≤ ct (fun _ => false) 10 := by
        unfold cnN
        refine ct_mono 10 (fun i hi e => ?_)
        have b := bn_bit (fun i => decide (val (3 + i) ≠ 0)) 10 i hi
        rw [q, Nat.zero_testBit] at b
        have b : val (3 + i) = 0 := by simpa using b.symm
        rw [b] at e
        revert e; decide
      have z : ct (fun _ => false) 10 = 0 := by decide
      omega
    omega
  · show (nI (bn _ 10)).toInt ≤ (1023 : Int32).toInt
    rw [nI_toInt (by omega), show (1023 : Int32).toInt = 1023 from rfl]
    omega
  · show inZ (if val 2 = -1 then 1 else lk (cl (val 2))) 1 999
    rcases V 2 (by omega) with q | ⟨x, hx, q⟩
    · rw [if_pos q]; exact ⟨by decide, by decide⟩
    · rw [d2] at hx
      by_cases z : val 2 = -1
      · rw [if_pos z]; exact ⟨by decide, by decide⟩
      · rw [if_neg z]
        rcases Nat.lt_or_ge x (2 ^ 31) with l | l
        · rw [q, show cl (nI x) = x from nI_clamp l]
          exact L x hx
        · have := cl (nI x)
          refine L _ ?_
          have : cl (val 2) < 2 ^ 31 := by
            unfold cl
            rw [Int32.toNatClampNeg]
            have := Int32.toInt_lt (val 2)
            omega
          omega
  · show inN (if val 1 = -1 then 0 else val 1) 7
    rcases V 1 (by omega) with q | ⟨x, hx, q⟩
    · rw [if_pos q]; exact ⟨0, by omega, rfl⟩
    · rw [q, if_neg (nI_nm1 (by unfold dm at hx; simp at hx; omega))]
      exact ⟨x, by unfold dm at hx; simpa using hx, rfl⟩
theorem cb_whole (V : VAL val sz) (kn : KN K A nt nd val) (c : cnN val true ≠ 0) {t : Nat} (ht : t < nt) (hd : nd t = true) (o : leafOK (K t) (A t)) {p : Bool} (e : cb val lk (K t) (A t) p = true) : lvC (mkM val lk) (K t) (A t) p = true := by
  obtain ⟨kn1, kn2⟩ := kn t ht hd
  generalize hk : K t = k at *
  generalize ha : A t = a at *
  have bin : ∀ w, 3 ≤ w → w < 45 → val w ≠ -1 → val w = 0 ∨ val w = 1 := fun w h1 h2 n => by
    rcases V w h2 with q | ⟨x, hx, q⟩
    · exact absurd q n
    · rw [dm2 h1] at hx
      rcases (show x = 0 ∨ x = 1 by omega) with rfl | rfl
      · exact Or.inl q
      · exact Or.inr q
  have hR := bn_lt (fun i => decide (val (3 + i) ≠ 0)) 10
  unfold cb at e
  unfold lvC
  by_cases k97 : k = 97
  · rw [if_pos k97] at e
    rw [k97, if_neg (by decide), fit97, e]; rfl
  rw [if_neg k97] at e
  by_cases k107 : k = 107
  · rw [if_pos k107]
  rw [if_neg k107] at e ⊢
  have sk := nmk_skK o k107 k97
  by_cases k110 : k = 110
  · rw [if_pos k110] at e
    have kn2 := kn2 k110
    have m1 : cl (mkM val lk 1) = bn (fun i => decide (val (3 + i) ≠ 0)) 10 := nI_clamp (by omega)
    have pc : pcn (bn (fun i => decide (val (3 + i) ≠ 0)) 10) = ct (fun i => decide (val (3 + i) = 1)) 10 := by
      rw [pcn_ct _ hR]
      refine ct_ext (fun i hi => ?_)
      rw [bn_bit _ 10 i hi]
      rcases bin (3 + i) (by omega) (by omega) (kn2 i hi) with z | z <;> rw [z] <;> decide
    have c1 : ∀ b, cnN val b = ct (fun i => decide (val (3 + i) = 1)) 10 := fun b => ct_ext (fun i hi => by rw [decide_eq_false (kn2 i hi)]; simp)
    rw [c1, c1] at e
    rw [k110]
    unfold fit
    simp only [show ((110 : Int32) = 98) = False by decide, show ((110 : Int32) = 100) = False by decide, show ((110 : Int32) = 102) = False by decide, show ((110 : Int32) = 107) = False by decide, if_false, if_true, m1, pc]
    cases p
    · rw [if_neg (by decide)] at e
      simp only [Bool.and_eq_true] at e
      have e2 := of_decide_eq_true e.2
      have : ¬ (¬ nI (ct (fun i => decide (val (3 + i) = 1)) 10) < a) := fun q => by
        rw [Int32.lt_iff_toInt_lt] at q
        rw [Int32.le_iff_toInt_le] at e2
        omega
      rw [decide_eq_false this]; rfl
    · rw [if_pos rfl] at e
      rw [e]; rfl
  rw [if_neg k110] at e
  have un := kn1 sk k110
  rw [if_neg un] at e
  rcases o with rfl | ⟨rfl | rfl, o⟩ | ⟨rfl | rfl, o⟩ | ⟨rfl, o⟩ | ⟨rfl, o⟩ | ⟨rfl, o⟩ | ⟨rfl, o⟩
  · exact absurd rfl k97
  · have e3 : vr 102 a = 0 := by unfold vr; simp
    rw [if_pos (Or.inl rfl), e3] at e
    rw [e3] at un
    have m0 : mkM val lk 0 = val 0 := by show (if val 0 = -1 then 0 else val 0) = _; rw [if_neg un]
    unfold fit
    simp only [show ((102 : Int32) = 98) = False by decide, show ((102 : Int32) = 100) = False by decide, if_false, if_true, m0]
    exact e
  · have hx := cl_lt o (by decide)
    have e3 : vr 116 a = 3 + cl a := by unfold vr; simp
    simp only [show ((116 : Int32) = 102) = False by decide, show ((116 : Int32) = 100) = False by decide, show ((116 : Int32) = 122) = False by decide, or_self, if_false, e3] at e
    rw [e3] at un
    unfold fit
    simp only [show ((116 : Int32) = 98) = False by decide, show ((116 : Int32) = 100) = False by decide, show ((116 : Int32) = 102) = False by decide, show ((116 : Int32) = 107) = False by decide, show ((116 : Int32) = 110) = False by decide, show ((116 : Int32) = 115) = False by decide, if_false, if_true]
    rw [show mkM val lk 1 = nI (bn (fun i => decide (val (3 + i) ≠ 0)) 10) from rfl, bI_nI (by omega), bn_bit _ 10 _ hx]
    rcases bin _ (by omega) (by omega) un with z | z
    · rw [z] at e ⊢
      revert e
      cases p <;> decide
    · rw [z] at e ⊢
      revert e
      cases p <;> decide
  · have hx := cl_lt o (by decide)
    have e3 : vr 115 a = 13 + cl a := by unfold vr; simp
    simp only [show ((115 : Int32) = 102) = False by decide, show ((115 : Int32) = 100) = False by decide, show ((115 : Int32) = 122) = False by decide, or_self, if_false, e3] at e
    unfold fit
    simp only [show ((115 : Int32) = 98) = False by decide, show ((115 : Int32) = 100) = False by decide, show ((115 : Int32) = 102) = False by decide, show ((115 : Int32) = 107) = False by decide, show ((115 : Int32) = 110) = False by decide, if_false, if_true]
    rw [show mkM val lk 2 = nI (bn (fun i => decide (val (13 + i) = 1)) 16) from rfl, bI_nI (by omega), bn_bit _ 16 _ hx]
    exact e
  · have hx := cl_lt o (by decide)
    have e3 : vr 98 a = 29 + cl a := by unfold vr; simp
    simp only [show ((98 : Int32) = 102) = False by decide, show ((98 : Int32) = 100) = False by decide, show ((98 : Int32) = 122) = False by decide, or_self, if_false, e3] at e
    unfold fit
    simp only [if_true]
    rw [show mkM val lk 3 = nI (bn (fun i => decide (val (29 + i) = 1)) 16) from rfl, bI_nI (by omega), bn_bit _ 16 _ hx]
    exact e
  · have e3 : vr 122 a = 2 := by unfold vr; simp
    simp only [show ((122 : Int32) = 102) = False by decide, show ((122 : Int32) = 100) = False by decide, or_self, if_false, if_true] at e
    rw [e3] at un
    have m4 : mkM val lk 4 = lk (cl (val 2)) := by show (if val 2 = -1 then 1 else lk (cl (val 2))) = _; rw [if_neg un]
    unfold fit
    simp only [show ((122 : Int32) = 98) = False by decide, show ((122 : Int32) = 100) = False by decide, show ((122 : Int32) = 102) = False by decide, show ((122 : Int32) = 107) = False by decide, show ((122 : Int32) = 110) = False by decide, show ((122 : Int32) = 115) = False by decide, show ((122 : Int32) = 116) = False by decide, if_false, if_true, m4]
    exact e
  · have e3 : vr 100 a = 1 := by unfold vr; simp
    rw [if_pos (Or.inr rfl), e3] at e
    rw [e3] at un
    have m5 : mkM val lk 5 = val 1 := by show (if val 1 = -1 then 0 else val 1) = _; rw [if_neg un]
    unfold fit
    simp only [show ((100 : Int32) = 98) = False by decide, if_false, if_true, m5]
    exact e
  · exact absurd rfl k110
  · exact absurd rfl k107
/-- closed under parts -/
def NCL (K A B : Nat → Int32) (nt : Nat) (nd : Nat → Bool) : Prop := ∀ t, t < nt → nd t = true → (mk (K t) → nd (cl (A t)) = true) ∧ (K t = 38 ∨ K t = 124 → nd (cl (B t)) = true)
def POSM (K A B : Nat → Int32) (nt : Nat) (nd wH wF : Nat → Bool) (one other : Int32) (lk val : Nat → Int32) : Prop := cnN val true ≠ 0 ∧ GL nt (gc K A B (cb val lk)) nd wH wF one other
theorem pos_sound {wH wF : Nat → Bool} {one other : Int32} (T : TV K A B nt) (N : NCL K A B nt nd) (ho : one ≠ -1 → (cl one < nt ∧ nd (cl one) = true) ∧ (cl other < nt ∧ nd (cl other) = true)) (V : VAL val sz) (hsz : sz ≤ 61) (v : VM M) (g : GL nt (cv K A B M) nd wH wF one other) (C : ∀ x v, v < 45 → val v = nI x → x < dm sz v → rl K A nt nd lk v x M) : POSM K A B nt nd wH wF one other lk val := by
  refine ⟨?_, g.mono (fun t ht hd p e => cw_imp (f := cv K A B M) (g := gc K A B (cb val lk)) (l1 := lvC M) (l2 := cb val lk) T (fun t p ht => cv_cw T ht p) (fun t p ht => gc_eq T ht p) N (fun t p ht hd m e => cb_sound V hsz v C ht hd (StV_lf (T.2 t ht) m) e) t ht hd p e) ho⟩
  obtain ⟨R, hR, r1, r2, r3, r4⟩ := pcn_bits v
  have : pcn R ≤ cnN val true := by
    rw [r3]
    unfold cnN
    refine ct_mono 10 (fun i hi q => ?_)
    rcases V (3 + i) (by omega) with z | ⟨x, hx, z⟩
    · simp [z]
    · rw [dm2 (by omega)] at hx
      have c := (C x (3 + i) (by omega) z (by rw [dm2 (by omega)]; exact hx)).2.2.2.1 (by omega) (by omega)
      rw [show 3 + i - 3 = i by omega] at c
      rw [z, c.mpr q, show decide (nI 1 = 1) = true by decide]
      rfl
  omega
theorem pos_whole {wH wF : Nat → Bool} {one other : Int32} (T : TV K A B nt) (N : NCL K A B nt nd) (ho : one ≠ -1 → (cl one < nt ∧ nd (cl one) = true) ∧ (cl other < nt ∧ nd (cl other) = true)) (V : VAL val sz) (L : ∀ x, x < sz → inZ (lk x) 1 999) (kn : KN K A nt nd val) (g : POSM K A B nt nd wH wF one other lk val) : ∃ M, VM M ∧ GL nt (cv K A B M) nd wH wF one other :=
  ⟨mkM val lk, mkM_vm V L g.1, g.2.mono (fun t ht hd p e => cw_imp (g := cv K A B (mkM val lk)) (f := gc K A B (cb val lk)) (l2 := lvC (mkM val lk)) (l1 := cb val lk) T (fun t p ht => gc_eq T ht p) (fun t p ht => cv_cw T ht p) N (fun t p ht hd m e => cb_whole V kn g.1 ht hd (StV_lf (T.2 t ht) m) e) t ht hd p e) ho⟩
end
