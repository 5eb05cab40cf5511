/-! the sketch: what it says is right -/
section
variable {c M : Nat → Int32}
theorem sbn {x y : Nat} (hx : x < 2 ^ 30) (hy : y < 2 ^ 30) : (nI x - nI y).toInt = (x : Int) - y := pk_sub_toInt hx hy
theorem pcn_le {n : Nat} (h : n < 1024) : pcn n ≤ 10 := by rw [pcn_ct n h]; exact ct_le _ 10
theorem recv_n (v : VM M) : ∃ R, R < 1024 ∧ M 1 = nI R ∧ cl (M 1) = R ∧ cnt M = nI (pcn R) := by
  obtain ⟨R, hR, e⟩ := recv_ok v.2.1
  have : cl (M 1) = R := by rw [e]; exact nI_clamp (by omega)
  exact ⟨R, hR, e, this, by unfold cnt; rw [this]⟩
/-- the number of receivers lies between the ends -/
theorem cnt_ends (v : VM M) (h : SSh c) (e : SEn c) (s : InSk c M) : (c 8).toInt ≤ (cnt M).toInt ∧ (cnt M).toInt ≤ (c 9).toInt := by
  obtain ⟨R, hR, e1, e2, e3⟩ := recv_n v
  obtain ⟨s0, s1, s2, s3, s4, s5, s6, s7, -⟩ := s
  obtain ⟨b0, b1, b2, b3, b4, b5, -⟩ := h
  obtain ⟨r, hr, er⟩ : inN (c 4) 1024 := bb_inN (n := 10) (by decide) b4
  obtain ⟨n, hn, en⟩ : inN (c 5) 1024 := bb_inN (n := 10) (by decide) b5
  have cr : cl (c 4) = r := by rw [er]; exact nI_clamp (by omega)
  have cn : cl (c 5) = n := by rw [en]; exact nI_clamp (by omega)
  have k1 : pcn r ≤ pcn R := by
    rw [pcn_ct r hr, pcn_ct R hR]
    refine ct_mono 10 (fun i hi q => ?_)
    have := s4 i hi (by rw [er, bI_nI (by omega)]; exact q)
    rw [e1, bI_nI (by omega)] at this
    exact this
  have k2 : pcn R + pcn n ≤ 10 := by
    rw [pcn_ct n hn, pcn_ct R hR]
    refine ct_dis 10 (fun i hi q => ?_)
    have := s5 i hi (by rw [en, bI_nI (by omega)]; exact q.2)
    rw [e1, bI_nI (by omega)] at this
    rw [this] at q
    exact absurd q.1 (by decide)
  have l := pcn_le hR
  obtain ⟨e8, e9⟩ := e
  rw [cr] at e8
  rw [cn] at e9
  rw [e3] at s6 s7 ⊢
  have s6 := i32_ne s6
  have s7 := i32_ne s7
  have t1 := nI_toInt (n := pcn R) (by omega)
  have t2 := nI_toInt (n := pcn r) (by omega)
  have t3 : (10 - nI (pcn n)).toInt = 10 - (pcn n : Int) := sbn (x := 10) (by decide) (by omega)
  constructor
  · rw [e8]
    split
    · omega
    · exact s6
  · rw [e9]
    split
    · omega
    · exact s7
theorem cl_lt {x : Int32} {n : Nat} (a : inN x n) (hn : n < 2 ^ 31) : cl x < n := (cl_n a hn).1
theorem cl_inj {x y : Int32} {n : Nat} (a : inN x n) (b : inN y n) (hn : n < 2 ^ 31) (e : cl x = cl y) : x = y := by rw [(cl_n a hn).2, (cl_n b hn).2, e]
theorem ct_lt {f g : Nat → Bool} : ∀ n, (∀ i, i < n → f i = true → g i = true) → ∀ i, i < n → f i = false → g i = true → ct f n < ct g n := by
  intro n
  induction n with
  | zero => intro _ i hi; omega
  | succ n ih =>
    intro h i hi e1 e2
    simp only [ct]
    by_cases e : i = n
    · subst e
      have := ct_mono i (fun j hj => h j (by omega))
      rw [e1, e2]
      simp
      omega
    · have := ih (fun j hj => h j (by omega)) i (by omega) e1 e2
      cases q : f n
      · simp; omega
      · rw [h n (by omega) q]; simp; omega
theorem not_bit {x : Int32} {j i : Nat} (hj : j < 32) (hi : i < 32) : bI (x &&& ((1 <<< (nI j &&& 31)) ^^^ (-1))) i = (bI x i && decide (¬ i = j)) := by
  rw [bI_and, bI_not _ hi, bI_sh hj]
  by_cases e : j = i
  · subst e; simp
  · simp [e, show ¬ i = j from fun q => e q.symm]
theorem may_ok {k a : Int32} {p : Bool} (v : VM M) (h : SSh c) (e : SEn c) (s : InSk c M) (o : leafOK k a) (hk : skK k) (f : fit M k a = p) : skM c k a p = true := by
  obtain ⟨en1, en2⟩ := cnt_ends v h e s
  obtain ⟨R, hR, r1, r2, r3⟩ := recv_n v
  obtain ⟨s0, s1, s2, s3, s4, s5, s6, s7, s8, s9, s10, s11⟩ := s
  obtain ⟨b0, b1, b2, b3, b4, b5, -⟩ := h
  have s2 := i32_ne s2
  have s3 := i32_ne s3
  unfold fit at f
  unfold skM
  rcases o with rfl | ⟨rfl | rfl, o⟩ | ⟨rfl | rfl, o⟩ | ⟨rfl, o⟩ | ⟨rfl, o⟩ | ⟨rfl, o⟩ | ⟨rfl, o⟩
  · exact absurd hk (by unfold skK; decide)
  · simp at f ⊢
    cases p
    · have n : M 0 ≠ a := by simpa using f
      simp
      intro q
      obtain ⟨j, hj, rfl⟩ := id o
      have := not_bit (x := c 0) (j := j) (i := cl (M 0)) (by omega) (by have := cl_lt v.1 (by decide); omega)
      rw [Int32.xor_neg_one, q, bI_0, s0, Bool.true_and] at this
      have := this.symm
      simp at this
      exact n (cl_inj v.1 o (by decide) (by rw [this]; exact (nI_clamp (by omega)).symm))
    · have n : M 0 = a := by simpa using f
      simp
      rw [← n]; exact s0
  · simp at f ⊢
    have hx := cl_lt o (by decide)
    obtain ⟨r, hr, er⟩ : inN (c 4) 1024 := bb_inN (n := 10) (by decide) b4
    obtain ⟨n, hn, en⟩ : inN (c 5) 1024 := bb_inN (n := 10) (by decide) b5
    have cr : cl (c 4) = r := by rw [er]; exact nI_clamp (by omega)
    have cn : cl (c 5) = n := by rw [en]; exact nI_clamp (by omega)
    have mono : ∀ i, i < 10 → r.testBit i = true → R.testBit i = true := fun i hi q => by
      have := s4 i hi (by rw [er, bI_nI (by omega)]; exact q)
      rw [r1, bI_nI (by omega)] at this
      exact this
    have dis : ∀ i, i < 10 → n.testBit i = true → R.testBit i = false := fun i hi q => by
      have := s5 i hi (by rw [en, bI_nI (by omega)]; exact q)
      rw [r1, bI_nI (by omega)] at this
      exact this
    have l := pcn_le hR
    have l' := pcn_le hn
    have t1 := nI_toInt (n := pcn R) (by omega)
    rw [r3, t1] at en1 en2
    cases p
    · simp
      rw [cn]
      cases q5 : bI (c 5) (cl a)
      · right
        constructor
        · cases q4 : bI (c 4) (cl a)
          · rfl
          · rw [s4 _ hx q4] at f; cases f
        · rw [Int32.lt_iff_toInt_lt, show (10 - nI (pcn n)).toInt = 10 - (pcn n : Int) from sbn (x := 10) (by decide) (by omega)]
          have k : pcn R + pcn n < 10 := by
            have c1 := ct_dis (f := fun i => R.testBit i || decide (i = cl a)) (g := fun i => n.testBit i) 10 (fun i hi q => by
              have q1 := q.1
              simp at q1
              rcases q1 with q1 | q1
              · rw [dis i hi q.2] at q1; cases q1
              · rw [q1] at q
                have := q.2
                rw [en, bI_nI (by omega)] at q5
                simp [q5] at this)
            have c2 := ct_lt (f := fun i => R.testBit i) (g := fun i => R.testBit i || decide (i = cl a)) 10 (fun i _ q => by simp at q ⊢; exact Or.inl q) (cl a) hx (by
              rw [r1, bI_nI (by omega)] at f
              exact f) (by simp)
            rw [pcn_ct n hn, pcn_ct R hR]
            omega
          omega
      · exact Or.inl rfl
    · simp
      rw [cr]
      cases q4 : bI (c 4) (cl a)
      · right
        constructor
        · cases q5 : bI (c 5) (cl a)
          · rfl
          · rw [s5 _ hx q5] at f; cases f
        · have k : pcn r < pcn R := by
            rw [pcn_ct r hr, pcn_ct R hR]
            refine ct_lt 10 mono (cl a) hx ?_ ?_
            · rw [er, bI_nI (by omega)] at q4
              exact q4
            · rw [r1, bI_nI (by omega)] at f
              exact f
          rw [Int32.lt_iff_toInt_lt, nI_toInt (n := pcn r) (by omega)]
          omega
      · exact Or.inl rfl
  · simp at f ⊢
    have hx := cl_lt o (by decide)
    cases p
    · simp
      cases q : bI (c 10) (cl a)
      · rfl
      · rw [s8 _ hx q] at f; cases f
    · simp
      cases q : bI (c 11) (cl a)
      · rfl
      · rw [s9 _ hx q] at f; cases f
  · simp at f ⊢
    have hx := cl_lt o (by decide)
    cases p
    · simp
      cases q : bI (c 12) (cl a)
      · rfl
      · rw [s10 _ hx q] at f; cases f
    · simp
      cases q : bI (c 13) (cl a)
      · rfl
      · rw [s11 _ hx q] at f; cases f
  · simp at f ⊢
    cases p
    · have n : M 4 ≤ a := by simpa using f
      simp
      rw [Int32.le_iff_toInt_le] at n ⊢
      omega
    · have n : a < M 4 := by simpa using f
      simp
      rw [Int32.lt_iff_toInt_lt] at n ⊢
      omega
  · simp at f ⊢
    cases p
    · have n : M 5 ≠ a := by simpa using f
      simp
      intro q
      obtain ⟨j, hj, rfl⟩ := id o
      have := not_bit (x := c 1) (j := j) (i := cl (M 5)) (by omega) (by have := cl_lt v.2.2.2.2.2 (by decide); omega)
      rw [Int32.xor_neg_one, q, bI_0, s1, Bool.true_and] at this
      have := this.symm
      simp at this
      exact n (cl_inj v.2.2.2.2.2 o (by decide) (by rw [this]; exact (nI_clamp (by omega)).symm))
    · have n : M 5 = a := by simpa using f
      simp
      rw [← n]; exact s1
  · simp at f ⊢
    rw [show nI (pcn (cl (M 1))) = cnt M from rfl] at f
    cases p
    · have n : cnt M < a := by simpa using f
      simp
      rw [Int32.lt_iff_toInt_lt] at n ⊢
      omega
    · have n : a ≤ cnt M := by simpa using f
      simp
      rw [Int32.le_iff_toInt_le] at n ⊢
      omega
  · exact absurd hk (by unfold skK; decide)
end
theorem bnot0 {x : Int32} {j n : Nat} (hn : n ≤ 32) (hj : j < n) (h : bb x n) (e : ∀ i, i < n → i ≠ j → bI x i = false) : x &&& ((1 <<< (nI j &&& 31)) ^^^ (-1)) = 0 := bI_ext (fun i hi => by
  rw [not_bit (by omega) hi, bI_0]
  by_cases q : i = j
  · simp [q]
  · rcases Nat.lt_or_ge i n with l | l
    · rw [e i l q]; rfl
    · rw [h i l hi]; rfl)
section
variable {c : Nat → Int32}
theorem not_ok {k a : Int32} {p : Bool} (h : SSh c) (e : SEn c) (s : ∃ M, InSk c M) (o : leafOK k a) (hk : skK k) (f : SkF c k a p) : skM c k a (!p) = false := by
  obtain ⟨M, s⟩ := s
  obtain ⟨s0, s1, s2, s3, s4, s5, s6, s7, s8, s9, s10, s11⟩ := s
  obtain ⟨b0, b1, b2, b3, b4, b5, -⟩ := h
  obtain ⟨f1, f2, f3, f4, f5, f6, f7⟩ := f
  unfold skM
  rcases o with rfl | ⟨rfl | rfl, o⟩ | ⟨rfl | rfl, o⟩ | ⟨rfl, o⟩ | ⟨rfl, o⟩ | ⟨rfl, o⟩ | ⟨rfl, o⟩
  · exact absurd hk (by unfold skK; decide)
  · have f := f3 rfl
    cases p
    · simpa using f
    · obtain ⟨j, hj, rfl⟩ := id o
      rw [show cl (nI j) = j from nI_clamp (by omega)] at f
      have := bnot0 (by decide) hj b0 (fun i hi q => f i hi q)
      simp only [show (!true) = true ↔ False by decide, if_false]
      simp only [show ((102 : Int32) = 98) = False by decide, show ((102 : Int32) = 100) = False by decide, if_false, if_true]
      exact decide_eq_false (fun q => q this)
  · have f := f6 rfl
    have hx := cl_lt o (by decide)
    cases p
    · simp at f ⊢
      refine ⟨?_, fun q => by rw [f] at q; cases q⟩
      cases q : bI (c 4) (cl a)
      · rfl
      · have := s4 _ hx q
        rw [s5 _ hx f] at this; cases this
    · simp at f ⊢
      refine ⟨?_, fun q => by rw [f] at q; cases q⟩
      cases q : bI (c 5) (cl a)
      · rfl
      · have := s5 _ hx q
        rw [s4 _ hx f] at this; cases this
  · have f := f5 rfl
    cases p <;> simpa using f
  · have f := f1 rfl
    cases p <;> simpa using f
  · have f := f7 rfl
    cases p
    · simp at f ⊢; exact f
    · simp at f ⊢; exact f
  · have f := f2 rfl
    cases p
    · simpa using f
    · obtain ⟨j, hj, rfl⟩ := id o
      rw [show cl (nI j) = j from nI_clamp (by omega)] at f
      have := bnot0 (by decide) hj b1 (fun i hi q => f i hi q)
      simp only [show (!true) = true ↔ False by decide, if_false]
      simp only [show ((100 : Int32) = 98) = False by decide, if_false, if_true]
      exact decide_eq_false (fun q => q this)
  · have f := f4 rfl
    obtain ⟨e8, e9⟩ := e
    cases p
    · simp at f ⊢
      rw [e9, Int32.lt_iff_toInt_lt]
      rw [Int32.lt_iff_toInt_lt] at f
      split
      · rename_i q
        rw [Int32.lt_iff_toInt_lt] at q
        omega
      · exact f
    · simp at f ⊢
      rw [e8, Int32.le_iff_toInt_le]
      rw [Int32.le_iff_toInt_le] at f
      split
      · rename_i q
        rw [Int32.lt_iff_toInt_lt] at q
        omega
      · exact f
  · exact absurd hk (by unfold skK; decide)
/-- the class asks it -/
theorem mh_w {k a : Int32} {h : Hp} {Q : Int32 → Prop} (s : SSh (gI h 8 0)) (o : leafOK k a) (hk : k ≠ 107) (f : Q (bit01 (skM (gI h 8 0) k a true))) : wp_X8_mayHold k a h Q := by
  obtain ⟨b0, b1, b2, b3, b4, b5, -⟩ := s
  obtain ⟨r, hr, er⟩ : inN (gI h 8 0 4) 1024 := bb_inN (n := 10) (by decide) b4
  have cr : cl (gI h 8 0 4) = r := by rw [er]; exact nI_clamp (by omega)
  unfold wp_X8_mayHold
  unfold skM at f
  rw [if_pos rfl] at f
  rcases o with rfl | ⟨rfl | rfl, o⟩ | ⟨rfl | rfl, o⟩ | ⟨rfl, o⟩ | ⟨rfl, o⟩ | ⟨rfl, o⟩ | ⟨rfl, o⟩
  · simpa [bit01] using f
  · simp only [show ((102 : Int32) = 98) = False by decide, show ((102 : Int32) = 100) = False by decide, if_false, if_true, hb_w o (by decide)] at f ⊢
    exact f
  · simp only [show ((116 : Int32) = 98) = False by decide, show ((116 : Int32) = 100) = False by decide, show ((116 : Int32) = 102) = False by decide, show ((116 : Int32) = 110) = False by decide, show ((116 : Int32) = 115) = False by decide, if_false, if_true, hb_w o (by decide)] at f ⊢
    rw [cr] at f
    rw [er, bc_w hr]
    rw [er] at f
    cases q4 : bI (nI r) (cl a) <;> cases q5 : bI (gI h 8 0 5) (cl a) <;> by_cases q : gI h 8 0 9 ≤ nI (pcn r) <;> simpa [q4, q5, q, bit01] using f
  · simp only [show ((115 : Int32) = 98) = False by decide, show ((115 : Int32) = 100) = False by decide, show ((115 : Int32) = 102) = False by decide, show ((115 : Int32) = 110) = False by decide, if_false, if_true, hb_w o (by decide)] at f ⊢
    cases q : bI (gI h 8 0 11) (cl a) <;> simpa [q, bit01] using f
  · simp only [if_true, hb_w o (by decide)] at f ⊢
    cases q : bI (gI h 8 0 13) (cl a) <;> simpa [q, bit01] using f
  · simp only [show ((122 : Int32) = 98) = False by decide, show ((122 : Int32) = 100) = False by decide, show ((122 : Int32) = 102) = False by decide, show ((122 : Int32) = 110) = False by decide, show ((122 : Int32) = 115) = False by decide, show ((122 : Int32) = 116) = False by decide, if_false, if_true] at f ⊢
    by_cases q : gI h 8 0 3 ≤ a <;> simpa [q, bit01] using f
  · simp only [show ((100 : Int32) = 98) = False by decide, if_false, if_true, hb_w o (by decide)] at f ⊢
    exact f
  · simp only [show ((110 : Int32) = 98) = False by decide, show ((110 : Int32) = 100) = False by decide, show ((110 : Int32) = 102) = False by decide, if_false, if_true] at f ⊢
    by_cases q : gI h 8 0 9 < a <;> simpa [q, bit01] using f
  · exact absurd rfl hk
theorem mf_w {k a : Int32} {h : Hp} {Q : Int32 → Prop} (s : SSh (gI h 8 0)) (o : leafOK k a) (hk : k ≠ 107) (f : Q (bit01 (skM (gI h 8 0) k a false))) : wp_X8_mayFail k a h Q := by
  obtain ⟨b0, b1, b2, b3, b4, b5, -⟩ := s
  obtain ⟨r, hr, er⟩ : inN (gI h 8 0 5) 1024 := bb_inN (n := 10) (by decide) b5
  have cr : cl (gI h 8 0 5) = r := by rw [er]; exact nI_clamp (by omega)
  unfold wp_X8_mayFail
  unfold skM at f
  rw [if_neg (by decide)] at f
  rcases o with rfl | ⟨rfl | rfl, o⟩ | ⟨rfl | rfl, o⟩ | ⟨rfl, o⟩ | ⟨rfl, o⟩ | ⟨rfl, o⟩ | ⟨rfl, o⟩
  · simpa [bit01] using f
  · simp only [show ((102 : Int32) = 98) = False by decide, show ((102 : Int32) = 100) = False by decide, if_false, if_true] at f ⊢
    by_cases q : gI h 8 0 0 &&& ((1 <<< (a &&& 31)) ^^^ (-1)) = 0
    · rw [if_pos q]; rw [decide_eq_false (fun x => x q)] at f; exact f
    · rw [if_neg q]; rw [decide_eq_true q] at f; exact f
  · simp only [show ((116 : Int32) = 98) = False by decide, show ((116 : Int32) = 100) = False by decide, show ((116 : Int32) = 102) = False by decide, show ((116 : Int32) = 110) = False by decide, show ((116 : Int32) = 115) = False by decide, if_false, if_true, hb_w o (by decide)] at f ⊢
    rw [cr] at f
    rw [er, bc_w hr]
    rw [er] at f
    cases q4 : bI (nI r) (cl a) <;> cases q5 : bI (gI h 8 0 4) (cl a) <;> by_cases q : 10 - nI (pcn r) ≤ gI h 8 0 8 <;> simpa [q4, q5, q, bit01] using f
  · simp only [show ((115 : Int32) = 98) = False by decide, show ((115 : Int32) = 100) = False by decide, show ((115 : Int32) = 102) = False by decide, show ((115 : Int32) = 110) = False by decide, if_false, if_true, hb_w o (by decide)] at f ⊢
    cases q : bI (gI h 8 0 10) (cl a) <;> simpa [q, bit01] using f
  · simp only [if_true, hb_w o (by decide)] at f ⊢
    cases q : bI (gI h 8 0 12) (cl a) <;> simpa [q, bit01] using f
  · simp only [show ((122 : Int32) = 98) = False by decide, show ((122 : Int32) = 100) = False by decide, show ((122 : Int32) = 102) = False by decide, show ((122 : Int32) = 110) = False by decide, show ((122 : Int32) = 115) = False by decide, show ((122 : Int32) = 116) = False by decide, if_false, if_true] at f ⊢
    by_cases q : a < gI h 8 0 2 <;> simpa [q, bit01] using f
  · simp only [show ((100 : Int32) = 98) = False by decide, if_false, if_true] at f ⊢
    by_cases q : gI h 8 0 1 &&& ((1 <<< (a &&& 31)) ^^^ (-1)) = 0
    · rw [if_pos q]; rw [decide_eq_false (fun x => x q)] at f; exact f
    · rw [if_neg q]; rw [decide_eq_true q] at f; exact f
  · simp only [show ((110 : Int32) = 98) = False by decide, show ((110 : Int32) = 100) = False by decide, show ((110 : Int32) = 102) = False by decide, if_false, if_true] at f ⊢
    by_cases q : a ≤ gI h 8 0 8 <;> simpa [q, bit01] using f
  · exact absurd rfl hk
end
