/-! isTrue: what was reached can be reached -/
theorem fit_fl {h : Hp} {m : Nat} {fl : Int32} {k a : Int32} (n : k ≠ 107) : fit (mM h m fl) k a = fit (mM h m 0) k a := by
  unfold fit
  rw [if_neg n, if_neg n]
  rfl
theorem tT_eq {h : Hp} {m nt : Nat} {fl : Int32} (T : TV (gI h 49 0) (gI h 50 0) (gI h 51 0) nt) {t : Nat} (ht : t < nt) : tT h m fl t = tstep (mM h m fl) (tT h m fl) (gI h 49 0 t) (gI h 50 0 t) (gI h 51 0 t) := by
  have v := T.2 t ht
  have n60 := T.1
  show (if t = t then tstep (mM h m fl) (tvM h (mM h m fl) t) (gI h 49 0 t) (gI h 50 0 t) (gI h 51 0 t) else _) = _
  rw [if_pos rfl]
  exact tstep_ext v (fun x hx => tvs_up _ _ _ _ t x hx) (by omega)
theorem tv_cv {h : Hp} {m nt : Nat} {fl : Int32} (T : TV (gI h 49 0) (gI h 50 0) (gI h 51 0) nt) : ∀ t, t < nt → ∀ p, tT h m fl t = p → cv (gI h 49 0) (gI h 50 0) (gI h 51 0) (mM h m 0) t p = true := by
  intro t
  induction t using Nat.strongRecOn with
  | ind t ih =>
    intro ht p e
    rw [tT_eq T ht] at e
    have v := T.2 t ht
    have n60 := T.1
    unfold tstep at e
    by_cases mm : mk (gI h 49 0 t)
    · obtain ⟨ha, hb⟩ := StV_mk v mm
      have la := cl_lt ha (by omega)
      have ia := ih _ la (by omega)
      by_cases k33 : gI h 49 0 t = 33
      · rw [if_pos k33] at e
        rw [cv_not T ht k33]
        refine ia _ ?_
        rw [← e]; simp
      · have kk : gI h 49 0 t = 38 ∨ gI h 49 0 t = 124 := by rcases mm with q | q; exact absurd q k33; exact q
        have lb := cl_lt (hb k33) (by omega)
        have ib := ih _ lb (by omega)
        rw [if_neg k33] at e
        by_cases k38 : gI h 49 0 t = 38
        · rw [if_pos k38] at e
          cases p
          · rw [cv_or T ht kk false (by rw [decide_eq_true k38]; decide)]
            cases x : tT h m fl (cl (gI h 50 0 t))
            · rw [ia false x]; rfl
            · rw [x, Bool.true_and] at e
              rw [ib false e]; simp
          · rw [cv_and T ht kk true (decide_eq_true k38)]
            simp only [Bool.and_eq_true] at e
            rw [ia true e.1, ib true e.2]; rfl
        · have k124 : gI h 49 0 t = 124 := by rcases kk with q | q; exact absurd q k38; exact q
          rw [if_neg k38, if_pos k124] at e
          cases p
          · rw [cv_and T ht kk false (decide_eq_false k38)]
            simp only [Bool.or_eq_false_iff] at e
            rw [ia false e.1, ib false e.2]; rfl
          · rw [cv_or T ht kk true (by rw [decide_eq_false k38]; decide)]
            cases x : tT h m fl (cl (gI h 50 0 t))
            · rw [x, Bool.false_or] at e
              rw [ib true e]; simp
            · rw [ia true x]; rfl
    · rw [cv_lf T ht mm]
      have m' := mm
      unfold mk at m'
      simp only [not_or] at m'
      rw [if_neg m'.1, if_neg m'.2.1, if_neg m'.2.2] at e
      by_cases k7 : gI h 49 0 t = 107
      · rw [if_pos k7]
      · rw [if_neg k7, ← fit_fl (fl := fl) k7, e]
        cases p <;> rfl
theorem mM_vm {h : Hp} {d m : Nat} (hd : d < 2 ^ 30) (s : SmV d h m) : VM (mM h m 0) := by
  obtain ⟨s0, s1, s2, s3, s4, c, hc, s5⟩ := s
  refine ⟨s0, s1, s2, s3, s4, ?_⟩
  show inN (gI h 38 0 m - gI h 38 0 m / 7 * 7) 7
  rw [s5, show (7 : Int32) = nI 7 from rfl, pk_rem (by omega) (by omega) (by omega)]
  exact ⟨c % 7, Nat.mod_lt _ (by omega), rfl⟩
section
variable {h : Hp} {m : Nat}
theorem x8_one {e : Nat} {RS : Int32 → (Nat → Int32) → Nat → Int32} {k a code : Int32} {σ : Nat → Int32} (hR : ∀ a σ', RS a σ' 8 = σ' 8) : xOne h m e RS k a code σ 8 = σ 8 := by
  unfold xOne
  split
  · exact up_n (by omega)
  · split
    · have := xFault_le (h := h) (m := m) e k a σ
      exact up_n (by omega)
    · split
      · exact up_n (by omega)
      · have d8 : xDid σ code 8 = σ 8 := by unfold xDid; rw [up_n (by omega), up_n (by omega)]
        split
        · rw [hR, d8]
        · unfold xAct
          rw [← d8]
          split
          · exact up_n (by omega)
          split
          · exact up_n (by omega)
          split
          · exact up_n (by omega)
          split
          · rw [up_n (by omega), up_n (by omega), up_n (by omega)]
          split
          · exact up_n (by omega)
          split
          · split
            · rw [up_n (by omega), up_n (by omega), up_n (by omega)]
            · rw [up_n (by omega), up_n (by omega)]
          split
          · exact up_n (by omega)
          split
          · split
            · rw [up_n (by omega), up_n (by omega)]
            · exact up_n (by omega)
          split
          · rw [up_n (by omega), up_n (by omega)]
          split
          · exact up_n (by omega)
          · rfl
theorem x8_acts {e p : Nat} {RS : Int32 → (Nat → Int32) → Nat → Int32} {c : Int32} (hR : ∀ a σ', RS a σ' 8 = σ' 8) : ∀ n i σ, (xActs h m e RS p c n i σ).1 8 = σ 8 := by
  intro n
  induction n with
  | zero => intro i σ; rfl
  | succ n ih =>
    intro i σ
    show (if σ 11 ≠ 0 then (σ, false) else _).1 8 = _
    split
    · rfl
    · split
      · exact x8_one hR
      · rw [ih]; exact x8_one hR
theorem x8_rules {e s : Nat} {RS : Int32 → (Nat → Int32) → Nat → Int32} (he : e ≠ 4) (hR : ∀ a σ', RS a σ' 8 = σ' 8) : ∀ n r σ, xRules h m e RS s n r σ 8 = σ 8 := by
  intro n
  induction n with
  | zero => intro r σ; rfl
  | succ n ih =>
    intro r σ
    have mk8 : xMark e r σ = σ := by unfold xMark; rw [if_neg he]
    show (if σ 11 ≠ 0 then σ else _) 8 = _
    rw [mk8]
    split
    · rfl
    · split
      · split
        · exact x8_acts hR _ _ _
        · rw [ih]; exact x8_acts hR _ _ _
      · exact ih _ _
theorem x8_run : ∀ e, e < 4 → ∀ a σ, xRun h m e a σ 8 = σ 8 := by
  intro e
  induction e with
  | zero => intro _ a σ; unfold xRun; exact x8_rules (by omega) (fun _ _ => rfl) _ _ _
  | succ e ih => intro he a σ; unfold xRun; exact x8_rules (by omega) (fun a σ' => ih (by omega) a σ') _ _ _
theorem acts_ends {e p : Nat} {RS : Int32 → (Nat → Int32) → Nat → Int32} {c : Int32} : ∀ n i σ, (xActs h m e RS p c n i σ).2 = false → (xActs h m e RS p c n i σ).1 11 = 0 → ∀ a, i ≤ a → a < i + n → gI h 56 0 (5 * p + a) ≠ 115 ∧ gI h 56 0 (5 * p + a) ≠ 83 := by
  intro n
  induction n with
  | zero => intro i σ _ _ a h1 h2; omega
  | succ n ih =>
    intro i σ e2 e1 a h1 h2
    have fx : xActs h m e RS p c (n + 1) i σ = if σ 11 ≠ 0 then (σ, false) else if xEnds (gI h 56 0 (5 * p + i)) σ = true then (xOne h m e RS (gI h 56 0 (5 * p + i)) (gI h 57 0 (5 * p + i)) (c + nI i) σ, true)
      else xActs h m e RS p c n (i + 1) (xOne h m e RS (gI h 56 0 (5 * p + i)) (gI h 57 0 (5 * p + i)) (c + nI i) σ) := rfl
    rw [fx] at e1 e2
    by_cases o : σ 11 = 0
    case neg => rw [if_pos o] at e1; exact absurd e1 o
    rw [if_neg (fun q => q o)] at e1 e2
    by_cases en : xEnds (gI h 56 0 (5 * p + i)) σ = true
    · rw [if_pos en] at e2; cases e2
    rw [if_neg en] at e1 e2
    have no : ∀ x, xOne h m e RS (gI h 56 0 (5 * p + i)) (gI h 57 0 (5 * p + i)) (c + nI i) σ 11 = x → x = 0 := fun x hx => by
      by_cases z : x = 0
      · exact z
      · rw [xActs_over (by rw [hx]; exact z)] at e1
        exact hx.symm.trans e1
    by_cases ea : a = i
    · subst ea
      refine ⟨fun k => ?_, fun k => ?_⟩
      · have s2 : σ 2 = 200 := by
          refine Classical.byContradiction (fun q => en ?_)
          unfold xEnds; simp [k, q]
        have := no 1 (by
          rw [k, one_over (by unfold xClash; simp [kd_45_70, kd_45_83, kd_45_85, kd_45_99, kd_45_105, kd_45_107, kd_45_109, kd_45_114, kd_45_115, kd_45_118, kd_45_119, kd_45_120, kd_70_45, kd_70_83, kd_70_85, kd_70_99, kd_70_105, kd_70_107, kd_70_109, kd_70_114, kd_70_115, kd_70_118, kd_70_119, kd_70_120, kd_83_45, kd_83_70, kd_83_85, kd_83_99, kd_83_105, kd_83_107, kd_83_109, kd_83_114, kd_83_115, kd_83_118, kd_83_119, kd_83_120, kd_85_45, kd_85_70, kd_85_83, kd_85_99, kd_85_105, kd_85_107, kd_85_109, kd_85_114, kd_85_115, kd_85_118, kd_85_119, kd_85_120, kd_99_45, kd_99_70, kd_99_83, kd_99_85, kd_99_105, kd_99_107, kd_99_109, kd_99_114, kd_99_115, kd_99_118, kd_99_119, kd_99_120, kd_105_45, kd_105_70, kd_105_83, kd_105_85, kd_105_99, kd_105_107, kd_105_109, kd_105_114, kd_105_115, kd_105_118, kd_105_119, kd_105_120, kd_107_45, kd_107_70, kd_107_83, kd_107_85, kd_107_99, kd_107_105, kd_107_109, kd_107_114, kd_107_115, kd_107_118, kd_107_119, kd_107_120, kd_109_45, kd_109_70, kd_109_83, kd_109_85, kd_109_99, kd_109_105, kd_109_107, kd_109_114, kd_109_115, kd_109_118, kd_109_119, kd_109_120, kd_114_45, kd_114_70, kd_114_83, kd_114_85, kd_114_99, kd_114_105, kd_114_107, kd_114_109, kd_114_115, kd_114_118, kd_114_119, kd_114_120, kd_115_45, kd_115_70, kd_115_83, kd_115_85, kd_115_99, kd_115_105, kd_115_107, kd_115_109, kd_115_114, kd_115_118, kd_115_119, kd_115_120, kd_118_45, kd_118_70, kd_118_83, kd_118_85, kd_118_99, kd_118_105, kd_118_107, kd_118_109, kd_118_114, kd_118_115, kd_118_119, kd_118_120, kd_119_45, kd_119_70, kd_119_83, kd_119_85, kd_119_99, kd_119_105, kd_119_107, kd_119_109, kd_119_114, kd_119_115, kd_119_118, kd_119_120, kd_120_45, kd_120_70, kd_120_83, kd_120_85, kd_120_99, kd_120_105, kd_120_107, kd_120_109, kd_120_114, kd_120_115, kd_120_118, kd_120_119]) (by unfold xFault; simp [kd_45_70, kd_45_83, kd_45_85, kd_45_99, kd_45_105, kd_45_107, kd_45_109, kd_45_114, kd_45_115, kd_45_118, kd_45_119, kd_45_120, kd_70_45, kd_70_83, kd_70_85, kd_70_99, kd_70_105, kd_70_107, kd_70_109, kd_70_114, kd_70_115, kd_70_118, kd_70_119, kd_70_120, kd_83_45, kd_83_70, kd_83_85, kd_83_99, kd_83_105, kd_83_107, kd_83_109, kd_83_114, kd_83_115, kd_83_118, kd_83_119, kd_83_120, kd_85_45, kd_85_70, kd_85_83, kd_85_99, kd_85_105, kd_85_107, kd_85_109, kd_85_114, kd_85_115, kd_85_118, kd_85_119, kd_85_120, kd_99_45, kd_99_70, kd_99_83, kd_99_85, kd_99_105, kd_99_107, kd_99_109, kd_99_114, kd_99_115, kd_99_118, kd_99_119, kd_99_120, kd_105_45, kd_105_70, kd_105_83, kd_105_85, kd_105_99, kd_105_107, kd_105_109, kd_105_114, kd_105_115, kd_105_118, kd_105_119, kd_105_120, kd_107_45, kd_107_70, kd_107_83, kd_107_85, kd_107_99, kd_107_105, kd_107_109, kd_107_114, kd_107_115, kd_107_118, kd_107_119, kd_107_120, kd_109_45, kd_109_70, kd_109_83, kd_109_85, kd_109_99, kd_109_105, kd_109_107, kd_109_114, kd_109_115, kd_109_118, kd_109_119, kd_109_120, kd_114_45, kd_114_70, kd_114_83, kd_114_85, kd_114_99, kd_114_105, kd_114_107, kd_114_109, kd_114_115, kd_114_118, kd_114_119, kd_114_120, kd_115_45, kd_115_70, kd_115_83, kd_115_85, kd_115_99, kd_115_105, kd_115_107, kd_115_109, kd_115_114, kd_115_118, kd_115_119, kd_115_120, kd_118_45, kd_118_70, kd_118_83, kd_118_85, kd_118_99, kd_118_105, kd_118_107, kd_118_109, kd_118_114, kd_118_115, kd_118_119, kd_118_120, kd_119_45, kd_119_70, kd_119_83, kd_119_85, kd_119_99, kd_119_105, kd_119_107, kd_119_109, kd_119_114, kd_119_115, kd_119_118, kd_119_120, kd_120_45, kd_120_70, kd_120_83, kd_120_85, kd_120_99, kd_120_105, kd_120_107, kd_120_109, kd_120_114, kd_120_115, kd_120_118, kd_120_119]) s2, up_e])
        exact absurd this (by decide)
      · have := no 1 (by
          rw [k]
          by_cases s2 : σ 2 = 200
          · rw [one_over (by unfold xClash; simp [kd_45_70, kd_45_83, kd_45_85, kd_45_99, kd_45_105, kd_45_107, kd_45_109, kd_45_114, kd_45_115, kd_45_118, kd_45_119, kd_45_120, kd_70_45, kd_70_83, kd_70_85, kd_70_99, kd_70_105, kd_70_107, kd_70_109, kd_70_114, kd_70_115, kd_70_118, kd_70_119, kd_70_120, kd_83_45, kd_83_70, kd_83_85, kd_83_99, kd_83_105, kd_83_107, kd_83_109, kd_83_114, kd_83_115, kd_83_118, kd_83_119, kd_83_120, kd_85_45, kd_85_70, kd_85_83, kd_85_99, kd_85_105, kd_85_107, kd_85_109, kd_85_114, kd_85_115, kd_85_118, kd_85_119, kd_85_120, kd_99_45, kd_99_70, kd_99_83, kd_99_85, kd_99_105, kd_99_107, kd_99_109, kd_99_114, kd_99_115, kd_99_118, kd_99_119, kd_99_120, kd_105_45, kd_105_70, kd_105_83, kd_105_85, kd_105_99, kd_105_107, kd_105_109, kd_105_114, kd_105_115, kd_105_118, kd_105_119, kd_105_120, kd_107_45, kd_107_70, kd_107_83, kd_107_85, kd_107_99, kd_107_105, kd_107_109, kd_107_114, kd_107_115, kd_107_118, kd_107_119, kd_107_120, kd_109_45, kd_109_70, kd_109_83, kd_109_85, kd_109_99, kd_109_105, kd_109_107, kd_109_114, kd_109_115, kd_109_118, kd_109_119, kd_109_120, kd_114_45, kd_114_70, kd_114_83, kd_114_85, kd_114_99, kd_114_105, kd_114_107, kd_114_109, kd_114_115, kd_114_118, kd_114_119, kd_114_120, kd_115_45, kd_115_70, kd_115_83, kd_115_85, kd_115_99, kd_115_105, kd_115_107, kd_115_109, kd_115_114, kd_115_118, kd_115_119, kd_115_120, kd_118_45, kd_118_70, kd_118_83, kd_118_85, kd_118_99, kd_118_105, kd_118_107, kd_118_109, kd_118_114, kd_118_115, kd_118_119, kd_118_120, kd_119_45, kd_119_70, kd_119_83, kd_119_85, kd_119_99, kd_119_105, kd_119_107, kd_119_109, kd_119_114, kd_119_115, kd_119_118, kd_119_120, kd_120_45, kd_120_70, kd_120_83, kd_120_85, kd_120_99, kd_120_105, kd_120_107, kd_120_109, kd_120_114, kd_120_115, kd_120_118, kd_120_119]) (by unfold xFault; simp [kd_45_70, kd_45_83, kd_45_85, kd_45_99, kd_45_105, kd_45_107, kd_45_109, kd_45_114, kd_45_115, kd_45_118, kd_45_119, kd_45_120, kd_70_45, kd_70_83, kd_70_85, kd_70_99, kd_70_105, kd_70_107, kd_70_109, kd_70_114, kd_70_115, kd_70_118, kd_70_119, kd_70_120, kd_83_45, kd_83_70, kd_83_85, kd_83_99, kd_83_105, kd_83_107, kd_83_109, kd_83_114, kd_83_115, kd_83_118, kd_83_119, kd_83_120, kd_85_45, kd_85_70, kd_85_83, kd_85_99, kd_85_105, kd_85_107, kd_85_109, kd_85_114, kd_85_115, kd_85_118, kd_85_119, kd_85_120, kd_99_45, kd_99_70, kd_99_83, kd_99_85, kd_99_105, kd_99_107, kd_99_109, kd_99_114, kd_99_115, kd_99_118, kd_99_119, kd_99_120, kd_105_45, kd_105_70, kd_105_83, kd_105_85, kd_105_99, kd_105_107, kd_105_109, kd_105_114, kd_105_115, kd_105_118, kd_105_119, kd_105_120, kd_107_45, kd_107_70, kd_107_83, kd_107_85, kd_107_99, kd_107_105, kd_107_109, kd_107_114, kd_107_115, kd_107_118, kd_107_119, kd_107_120, kd_109_45, kd_109_70, kd_109_83, kd_109_85, kd_109_99, kd_109_105, kd_109_107, kd_109_114, kd_109_115, kd_109_118, kd_109_119, kd_109_120, kd_114_45, kd_114_70, kd_114_83, kd_114_85, kd_114_99, kd_114_105, kd_114_107, kd_114_109, kd_114_115, kd_114_118, kd_114_119, kd_114_120, kd_115_45, kd_115_70, kd_115_83, kd_115_85, kd_115_99, kd_115_105, kd_115_107, kd_115_109, kd_115_114, kd_115_118, kd_115_119, kd_115_120, kd_118_45, kd_118_70, kd_118_83, kd_118_85, kd_118_99, kd_118_105, kd_118_107, kd_118_109, kd_118_114, kd_118_115, kd_118_119, kd_118_120, kd_119_45, kd_119_70, kd_119_83, kd_119_85, kd_119_99, kd_119_105, kd_119_107, kd_119_109, kd_119_114, kd_119_115, kd_119_118, kd_119_120, kd_120_45, kd_120_70, kd_120_83, kd_120_85, kd_120_99, kd_120_105, kd_120_107, kd_120_109, kd_120_114, kd_120_115, kd_120_118, kd_120_119]) s2, up_e]
          · rw [one_act (by unfold xClash; simp [kd_45_70, kd_45_83, kd_45_85, kd_45_99, kd_45_105, kd_45_107, kd_45_109, kd_45_114, kd_45_115, kd_45_118, kd_45_119, kd_45_120, kd_70_45, kd_70_83, kd_70_85, kd_70_99, kd_70_105, kd_70_107, kd_70_109, kd_70_114, kd_70_115, kd_70_118, kd_70_119, kd_70_120, kd_83_45, kd_83_70, kd_83_85, kd_83_99, kd_83_105, kd_83_107, kd_83_109, kd_83_114, kd_83_115, kd_83_118, kd_83_119, kd_83_120, kd_85_45, kd_85_70, kd_85_83, kd_85_99, kd_85_105, kd_85_107, kd_85_109, kd_85_114, kd_85_115, kd_85_118, kd_85_119, kd_85_120, kd_99_45, kd_99_70, kd_99_83, kd_99_85, kd_99_105, kd_99_107, kd_99_109, kd_99_114, kd_99_115, kd_99_118, kd_99_119, kd_99_120, kd_105_45, kd_105_70, kd_105_83, kd_105_85, kd_105_99, kd_105_107, kd_105_109, kd_105_114, kd_105_115, kd_105_118, kd_105_119, kd_105_120, kd_107_45, kd_107_70, kd_107_83, kd_107_85, kd_107_99, kd_107_105, kd_107_109, kd_107_114, kd_107_115, kd_107_118, kd_107_119, kd_107_120, kd_109_45, kd_109_70, kd_109_83, kd_109_85, kd_109_99, kd_109_105, kd_109_107, kd_109_114, kd_109_115, kd_109_118, kd_109_119, kd_109_120, kd_114_45, kd_114_70, kd_114_83, kd_114_85, kd_114_99, kd_114_105, kd_114_107, kd_114_109, kd_114_115, kd_114_118, kd_114_119, kd_114_120, kd_115_45, kd_115_70, kd_115_83, kd_115_85, kd_115_99, kd_115_105, kd_115_107, kd_115_109, kd_115_114, kd_115_118, kd_115_119, kd_115_120, kd_118_45, kd_118_70, kd_118_83, kd_118_85, kd_118_99, kd_118_105, kd_118_107, kd_118_109, kd_118_114, kd_118_115, kd_118_119, kd_118_120, kd_119_45, kd_119_70, kd_119_83, kd_119_85, kd_119_99, kd_119_105, kd_119_107, kd_119_109, kd_119_114, kd_119_115, kd_119_118, kd_119_120, kd_120_45, kd_120_70, kd_120_83, kd_120_85, kd_120_99, kd_120_105, kd_120_107, kd_120_109, kd_120_114, kd_120_115, kd_120_118, kd_120_119]) (by unfold xFault; simp [kd_45_70, kd_45_83, kd_45_85, kd_45_99, kd_45_105, kd_45_107, kd_45_109, kd_45_114, kd_45_115, kd_45_118, kd_45_119, kd_45_120, kd_70_45, kd_70_83, kd_70_85, kd_70_99, kd_70_105, kd_70_107, kd_70_109, kd_70_114, kd_70_115, kd_70_118, kd_70_119, kd_70_120, kd_83_45, kd_83_70, kd_83_85, kd_83_99, kd_83_105, kd_83_107, kd_83_109, kd_83_114, kd_83_115, kd_83_118, kd_83_119, kd_83_120, kd_85_45, kd_85_70, kd_85_83, kd_85_99, kd_85_105, kd_85_107, kd_85_109, kd_85_114, kd_85_115, kd_85_118, kd_85_119, kd_85_120, kd_99_45, kd_99_70, kd_99_83, kd_99_85, kd_99_105, kd_99_107, kd_99_109, kd_99_114, kd_99_115, kd_99_118, kd_99_119, kd_99_120, kd_105_45, kd_105_70, kd_105_83, kd_105_85, kd_105_99, kd_105_107, kd_105_109, kd_105_114, kd_105_115, kd_105_118, kd_105_119, kd_105_120, kd_107_45, kd_107_70, kd_107_83, kd_107_85, kd_107_99, kd_107_105, kd_107_109, kd_107_114, kd_107_115, kd_107_118, kd_107_119, kd_107_120, kd_109_45, kd_109_70, kd_109_83, kd_109_85, kd_109_99, kd_109_105, kd_109_107, kd_109_114, kd_109_115, kd_109_118, kd_109_119, kd_109_120, kd_114_45, kd_114_70, kd_114_83, kd_114_85, kd_114_99, kd_114_105, kd_114_107, kd_114_109, kd_114_115, kd_114_118, kd_114_119, kd_114_120, kd_115_45, kd_115_70, kd_115_83, kd_115_85, kd_115_99, kd_115_105, kd_115_107, kd_115_109, kd_115_114, kd_115_118, kd_115_119, kd_115_120, kd_118_45, kd_118_70, kd_118_83, kd_118_85, kd_118_99, kd_118_105, kd_118_107, kd_118_109, kd_118_114, kd_118_115, kd_118_119, kd_118_120, kd_119_45, kd_119_70, kd_119_83, kd_119_85, kd_119_99, kd_119_105, kd_119_107, kd_119_109, kd_119_114, kd_119_115, kd_119_118, kd_119_120, kd_120_45, kd_120_70, kd_120_83, kd_120_85, kd_120_99, kd_120_105, kd_120_107, kd_120_109, kd_120_114, kd_120_115, kd_120_118, kd_120_119]) s2 (by decide)]
            unfold xAct
            simp only [kd_45_70, kd_45_83, kd_45_85, kd_45_99, kd_45_105, kd_45_107, kd_45_109, kd_45_114, kd_45_115, kd_45_118, kd_45_119, kd_45_120, kd_70_45, kd_70_83, kd_70_85, kd_70_99, kd_70_105, kd_70_107, kd_70_109, kd_70_114, kd_70_115, kd_70_118, kd_70_119, kd_70_120, kd_83_45, kd_83_70, kd_83_85, kd_83_99, kd_83_105, kd_83_107, kd_83_109, kd_83_114, kd_83_115, kd_83_118, kd_83_119, kd_83_120, kd_85_45, kd_85_70, kd_85_83, kd_85_99, kd_85_105, kd_85_107, kd_85_109, kd_85_114, kd_85_115, kd_85_118, kd_85_119, kd_85_120, kd_99_45, kd_99_70, kd_99_83, kd_99_85, kd_99_105, kd_99_107, kd_99_109, kd_99_114, kd_99_115, kd_99_118, kd_99_119, kd_99_120, kd_105_45, kd_105_70, kd_105_83, kd_105_85, kd_105_99, kd_105_107, kd_105_109, kd_105_114, kd_105_115, kd_105_118, kd_105_119, kd_105_120, kd_107_45, kd_107_70, kd_107_83, kd_107_85, kd_107_99, kd_107_105, kd_107_109, kd_107_114, kd_107_115, kd_107_118, kd_107_119, kd_107_120, kd_109_45, kd_109_70, kd_109_83, kd_109_85, kd_109_99, kd_109_105, kd_109_107, kd_109_114, kd_109_115, kd_109_118, kd_109_119, kd_109_120, kd_114_45, kd_114_70, kd_114_83, kd_114_85, kd_114_99, kd_114_105, kd_114_107, kd_114_109, kd_114_115, kd_114_118, kd_114_119, kd_114_120, kd_115_45, kd_115_70, kd_115_83, kd_115_85, kd_115_99, kd_115_105, kd_115_107, kd_115_109, kd_115_114, kd_115_118, kd_115_119, kd_115_120, kd_118_45, kd_118_70, kd_118_83, kd_118_85, kd_118_99, kd_118_105, kd_118_107, kd_118_109, kd_118_114, kd_118_115, kd_118_119, kd_118_120, kd_119_45, kd_119_70, kd_119_83, kd_119_85, kd_119_99, kd_119_105, kd_119_107, kd_119_109, kd_119_114, kd_119_115, kd_119_118, kd_119_120, kd_120_45, kd_120_70, kd_120_83, kd_120_85, kd_120_99, kd_120_105, kd_120_107, kd_120_109, kd_120_114, kd_120_115, kd_120_118, kd_120_119, if_false, if_true]
            rw [up_e])
        exact absurd this (by decide)
    · exact ih (i + 1) _ e2 e1 a (by omega) (by omega)
/-- the rule r was come to -/
def RCB (h : Hp) (m s r : Nat) : Prop := (∃ fl, tT h m fl (tst h s r) = true) ∧ ∀ i, i < r → ES h s i = true → ∃ fl, tT h m fl (tst h s i) = false
theorem esN_no {g : Nat → Int32} : ∀ n, (∀ a, a < n → g a ≠ 115 ∧ g a ≠ 83) → esN g n = false := by
  intro n
  induction n with
  | zero => intro _; rfl
  | succ n ih =>
    intro h
    simp only [esN]
    rw [ih (fun a ha => h a (by omega)), decide_eq_false (h n (by omega)).1, decide_eq_false (h n (by omega)).2]
    rfl
theorem xr_ok {s nr : Nat} {RS : Int32 → (Nat → Int32) → Nat → Int32} (hR : ∀ a σ', RS a σ' 8 = σ' 8) (h12 : nr ≤ 12) : ∀ n r σ, r + n = nr → (∀ i, i < r → ES h s i = true → ∃ fl, tT h m fl (tst h s i) = false) → (∀ x, x < nr → bI (σ 8) x = true → RCB h m s x) → ∀ x, x < nr → bI (xRules h m 4 RS s n r σ 8) x = true → RCB h m s x := by
  intro n
  induction n with
  | zero => intro r σ _ _ b x hx e; exact b x hx e
  | succ n ih =>
    intro r σ hr pre b x hx e
    have fx : xRules h m 4 RS s (n + 1) r σ = if σ 11 ≠ 0 then σ else if tT h m (σ 1) (cl (gI h 54 0 (12 * s + r))) = true then
        (if (xActs h m 4 RS (12 * s + r) (1000 * nI s + 10 * nI r) (cl (gI h 55 0 (12 * s + r))) 0 (xMark 4 r σ)).2 = true then (xActs h m 4 RS (12 * s + r) (1000 * nI s + 10 * nI r) (cl (gI h 55 0 (12 * s + r))) 0 (xMark 4 r σ)).1
        else xRules h m 4 RS s n (r + 1) (xActs h m 4 RS (12 * s + r) (1000 * nI s + 10 * nI r) (cl (gI h 55 0 (12 * s + r))) 0 (xMark 4 r σ)).1)
      else xRules h m 4 RS s n (r + 1) σ := rfl
    rw [fx] at e
    by_cases o : σ 11 = 0
    case neg => rw [if_pos o] at e; exact b x hx e
    rw [if_neg (fun q => q o)] at e
    cases tt : tT h m (σ 1) (cl (gI h 54 0 (12 * s + r)))
    · rw [tt, if_neg (by decide)] at e
      refine ih (r + 1) σ (by omega) (fun i hi es => ?_) b x hx e
      by_cases ei : i = r
      · subst ei; exact ⟨σ 1, tt⟩
      · exact pre i (by omega) es
    · rw [tt, if_pos rfl] at e
      have me : RCB h m s r := ⟨⟨σ 1, tt⟩, pre⟩
      have b2 : ∀ x, x < nr → bI ((xActs h m 4 RS (12 * s + r) (1000 * nI s + 10 * nI r) (cl (gI h 55 0 (12 * s + r))) 0 (xMark 4 r σ)).1 8) x = true → RCB h m s x := fun x hx e => by
        rw [x8_acts hR] at e
        unfold xMark at e
        rw [if_pos rfl, up_e, bI_or, bI_sh (by omega)] at e
        simp only [Bool.or_eq_true] at e
        rcases e with e | e
        · exact b x hx e
        · rw [← of_decide_eq_true e]; exact me
      have ends := acts_ends (h := h) (m := m) (e := 4) (p := 12 * s + r) (RS := RS) (c := 1000 * nI s + 10 * nI r) (cl (gI h 55 0 (12 * s + r))) 0 (xMark 4 r σ)
      generalize xActs h m 4 RS (12 * s + r) (1000 * nI s + 10 * nI r) (cl (gI h 55 0 (12 * s + r))) 0 (xMark 4 r σ) = X at *
      cases z : X.2
      · rw [z, if_neg (by decide)] at e
        by_cases o2 : X.1 11 = 0
        · refine ih (r + 1) X.1 (by omega) (fun i hi es => ?_) b2 x hx e
          by_cases ei : i = r
          · subst ei
            have := esN_no (g := fun a => gI h 56 0 (5 * (12 * s + i) + a)) (cl (gI h 55 0 (12 * s + i))) (fun a ha => ends z o2 a (by omega) (by omega))
            unfold ES at es
            rw [this] at es; cases es
          · exact pre i (by omega) es
        · rw [xRules_over o2] at e
          exact b2 x hx e
      · rw [z, if_pos rfl] at e
        exact b2 x hx e
end
theorem reach_ok {h : Hp} {m nm nt s nr r : Nat} {g : Nat → Int32} (B : BF h m nm nt) (hs : s < 4) (e53 : gI h 53 0 s = nI nr) (h12 : nr ≤ 12) (hr : r < nr) (e : bI (xFin (xRun h m 4 (nI s) (xInit h m nm g)) 8) r = true) : NDP h s r := by
  obtain ⟨d, i, hi, hd, s1, s2, s3, s4, s5, s6, hm⟩ := B
  rw [xFin_o (by omega)] at e
  have cs : cl (nI s) = s := nI_clamp (by omega)
  have cn : cl (gI h 53 0 s) = nr := by rw [e53]; exact nI_clamp (by omega)
  have ex : xRun h m 4 (nI s) (xInit h m nm g) = xRules h m 4 (xRun h m 3) s nr 0 (xInit h m nm g) := by
    show xRules h m 4 (xRun h m 3) (cl (nI s)) (cl (gI h 53 0 (cl (nI s)))) 0 _ = _
    rw [cs, cn]
  rw [ex] at e
  obtain ⟨⟨fl, t1⟩, t2⟩ := xr_ok (s := s) (nr := nr) (fun a σ' => x8_run 3 (by omega) a σ') h12 nr 0 (xInit h m nm g) (by omega) (fun i hi => by omega) (fun x _ q => by rw [show xInit h m nm g 8 = 0 from rfl, bI_0] at q; cases q) r hr e
  obtain ⟨nr', z1, z2, z3, z4⟩ := s6.rr hs
  have enr : nr' = nr := (nI_eq (by omega) (by omega)).mp (by rw [← z3, e53])
  subst enr
  have tsl : ∀ i, i < nr' → tst h s i < nt := fun i hi => by
    obtain ⟨q, t, cn, g1, g2, g3, g4, g5, E⟩ := z4 i hi
    unfold tst
    rw [g4, show cl (nI t) = t from nI_clamp (by have := s5.1; omega)]; exact g5
  exact ⟨mM h m 0, mM_vm (by omega) (s2.2.2.2.1 m hm).1, tv_cv s5.tvm _ (tsl r hr) true t1, fun i hi es => by
    obtain ⟨fl', t3⟩ := t2 i hi es
    exact tv_cv s5.tvm _ (tsl i (by omega)) false t3⟩
theorem c_isTrue {i : Nat} {h : Hp} (hi : i < 2 ^ 20) (S : Sim i h) {K : Int32 → Int32 → Hp → Prop} (hK : SKN i K) : wp_X10_isTrue h (fun r => fun h1 => wp_X11_isTrue h1 (fun b h2 => K r b h2)) := by
  obtain ⟨d, nm, nt, hd, s1, s2, s3, s4, s5, s6, s7⟩ := id S
  obtain ⟨n40, e1, e2, q2, q2', q2''⟩ := id s2
  unfold wp_X10_isTrue wp_X10_isTrue_b2
  refine LFP2.by (I := fun y h1 => ∃ s, s ≤ 4 ∧ y = nI s ∧ ag (wS [0, 4, 5, 8, 25, 26, 27, 28] []) h h1 ∧ (∀ o k, o ≠ 2 → gI h1 5 o k = gI h 5 o k ∧ gI h1 26 o k = gI h 26 o k)) (μ := fun y _ => 4 - y.toNatClampNeg) ⟨0, by omega, rfl, ag.rfl, fun _ _ _ => ⟨rfl, rfl⟩⟩ ?_
  rintro y h1 ⟨s, hs, rfl, A1, O1⟩ P hP
  unfold wp_X10_isTrue_b2F
  by_cases c : s = 4
  · subst c
    rw [if_pos (by decide)]
    unfold wp_X11_isTrue LET
    rintro y rfl
    refine hK 1 _ ?_
    have AA : ag (wS [0, 4, 5, 8, 25, 26, 27, 28] [(11, 0)]) h (sI h1 11 0 0 0) := (A1.mono (wS_mono (by decide) (by decide))).sI rfl
    exact ⟨d, nm, nt, by omega, s1.ag AA (wS_dis (by decide)), s2.ag AA (wS_dis (by decide)), s3.ag AA (wS_dis (by decide)), (s4.mono (by omega) (by omega)).ag AA (wS_dis (by decide)), s5.ag AA (wS_dis (by decide)), s6.ag AA (wS_dis (by decide)), s7.eq (fun k => by rw [gI_o (by omega)]; exact (O1 1 k (by omega)).1) (fun k => by rw [gI_o (by omega)]; exact (O1 1 k (by omega)).2) (fun k => AA.I 63 0 k) (fun k k1 k2 => by rw [gI_o (by omega)]; exact A1.I 11 0 k)⟩
  rw [if_neg (show ¬ (4 : Int32) ≤ nI s from nI_ge (b := 4) (show s < 4 by omega) (by omega))]
  have hs4 : s < 4 := by omega
  have z5 : STest nt h1 := s5.ag A1 (wS_dis (by decide))
  have z6 : SScr nt h1 := s6.ag A1 (wS_dis (by decide))
  have hB : ∀ m, m < nm → BF h1 m nm nt := fun m hm => ⟨d, i, hi, by omega, s1.ag A1 (wS_dis (by decide)), s2.ag A1 (wS_dis (by decide)), s3.ag A1 (wS_dis (by decide)), s4.ag A1 (wS_dis (by decide)), z5, z6, hm⟩
  obtain ⟨nr, t1, t2, t3, t4⟩ := z6.rr hs4
  unfold wp_X10_isTrue_b11
  refine LFP3.by (I := fun x y h2 => ∃ n, n ≤ nm ∧ y = nI n ∧ ag (wS [0, 5, 25, 26, 27] []) h1 h2 ∧ (∀ o k, o ≠ 2 → gI h2 5 o k = gI h1 5 o k ∧ gI h2 26 o k = gI h1 26 o k) ∧ ∀ r, r < nr → bI x r = true → NDP h1 s r) (μ := fun _ y _ => 40 - y.toNatClampNeg) ⟨0, by omega, rfl, ag.rfl, fun _ _ _ => ⟨rfl, rfl⟩, fun r _ q => by rw [bI_0] at q; cases q⟩ ?_
  rintro x y h2 ⟨n, hn, rfl, A2, O2, R⟩ P2 hP2
  unfold wp_X10_isTrue_b11F LET
  rw [A2.I 3 0 6, A1.I 3 0 6, e1]
  by_cases cn : n = nm
  · subst cn
    rw [if_pos (nI_le (Nat.le_refl _) (by omega))]
    unfold wp_X10_isTrue_b53
    refine LFP2.by (I := fun y h3 => ∃ r, r ≤ nr ∧ y = nI r ∧ ag (wS [0, 4, 5, 8, 25, 26, 27, 28] []) h1 h3 ∧ (∀ o k, o ≠ 2 → gI h3 5 o k = gI h1 5 o k ∧ gI h3 26 o k = gI h1 26 o k)) (μ := fun y _ => 12 - y.toNatClampNeg) ⟨0, by omega, rfl, A2.mono (wS_mono (by decide) (by decide)), O2⟩ ?_
    rintro y h3 ⟨r, hr, rfl, A3, O3⟩ P3 hP3
    unfold wp_X10_isTrue_b53F wp_X10_isTrue_b85 LET
    simp only [forall_eq]
    rw [nI_clamp (show s < 2 ^ 31 by omega), A3.I 7 s 1, t2]
    refine ⟨vp_in_nI hs4 (by decide), ?_⟩
    by_cases cr : r = nr
    · subst cr
      rw [if_pos (nI_le (Nat.le_refl _) (by omega))]
      refine hP _ _ ⟨s + 1, by omega, nI_1 s, A1.trans A3, fun o k ho => ⟨(O3 o k ho).1.trans (O1 o k ho).1, (O3 o k ho).2.trans (O1 o k ho).2⟩⟩ (by rw [nI_1, nI_clamp (by omega), nI_clamp (by omega)]; omega)
    rw [if_neg (nI_ge (show r < nr by omega) (by omega)), hb_w (n := 12) ⟨r, by omega, rfl⟩ (by decide), show cl (nI r) = r from nI_clamp (by omega)]
    have go : ∀ h4, ag (wS [4, 8, 28] []) h3 h4 → P3 (nI r + 1) h4 := fun h4 A4 => hP3 _ _ ⟨r + 1, by omega, nI_1 r, A3.trans (A4.mono (wS_mono (by decide) (by decide))), fun o k ho => by rw [A4.I 5 o k, A4.I 26 o k]; exact O3 o k ho⟩ (by rw [nI_1, nI_clamp (by omega), nI_clamp (by omega)]; omega)
    cases b : bI x r
    · rw [if_pos (show bit01 false = 0 from rfl)]
      exact go h3 ag.rfl
    · rw [if_neg (show ¬ bit01 true = 0 by decide)]
      refine nd_w z5 z6 A3 hs4 t2 t1 (show r < nr by omega) (fun v h4 A4 z => ?_)
      rcases z with ⟨rfl, z⟩ | ⟨rfl, z⟩
      · exact absurd (R r (by omega) b) z
      · rw [if_pos rfl]
        exact go h4 A4
  · rw [if_neg (nI_ge (show n < nm by omega) (by omega))]
    refine perf_w (hB n (by omega)) (by omega) ⟨s, hs4, rfl⟩ A2 O2 (fun g h3 rc => ?_)
    simp only [forall_eq]
    have x8 : gI h3 5 2 10 = xFin (xRun h1 n 4 (nI s) (xInit h1 n nm g)) 8 := rc.2.2.2.2.1 8 (by omega)
    refine hP2 _ _ _ ⟨n + 1, by omega, nI_1 n, rc.1, rc.2.1, fun r hr q => ?_⟩ (by rw [nI_1, nI_clamp (by omega), nI_clamp (by omega)]; omega)
    rw [bI_or, x8] at q
    simp only [Bool.or_eq_true] at q
    rcases q with q | q
    · exact R r hr q
    · exact reach_ok (hB n (by omega)) hs4 t3 t1 hr q
