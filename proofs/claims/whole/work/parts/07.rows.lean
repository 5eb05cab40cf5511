/-! the judgement: the machine in a method, over the abstract heap -/
def UNI : List Cond := lw_tbl.filter goodWord
theorem uni_of {w : Cond} (h : w ∈ tables_1) (g : goodWord w = true) : w ∈ UNI := List.mem_filter.mpr ⟨List.mem_append_right _ h, g⟩
abbrev Ctx : Type := Program × Launch × Env × Room × State × MethodId × Array Value × List Frame × Method × Code × (State → Prop) × va_G × (Nat → ClassId) × Nat
abbrev xP (X : Ctx) : Program := X.1
abbrev xL (X : Ctx) : Launch := X.2.1
abbrev xE (X : Ctx) : Env := X.2.2.1
abbrev xR (X : Ctx) : Room := X.2.2.2.1
abbrev xS (X : Ctx) : State := X.2.2.2.2.1
abbrev xM (X : Ctx) : MethodId := X.2.2.2.2.2.1
abbrev xA (X : Ctx) : Array Value := X.2.2.2.2.2.2.1
abbrev xB (X : Ctx) : List Frame := X.2.2.2.2.2.2.2.1
abbrev xMe (X : Ctx) : Method := X.2.2.2.2.2.2.2.2.1
abbrev xC (X : Ctx) : Code := X.2.2.2.2.2.2.2.2.2.1
abbrev xQ (X : Ctx) : State → Prop := X.2.2.2.2.2.2.2.2.2.2.1
abbrev xD (X : Ctx) : va_G := X.2.2.2.2.2.2.2.2.2.2.2.1
abbrev xY (X : Ctx) : Nat → ClassId := X.2.2.2.2.2.2.2.2.2.2.2.2.1
abbrev xb (X : Ctx) : Nat := X.2.2.2.2.2.2.2.2.2.2.2.2.2
def rb (b j o : Nat) : Value := .ref (b + adr j o)
def rf (X : Ctx) (j o : Nat) : Value := .ref (xb X + adr j o)
theorem rf_cat {X : Ctx} {j o : Nat} : (rf X j o).category = 1 := rfl
/-- the locals by place -/
def lvP (ls : Array Slot) (L : List (Option Value)) : Prop := ls.size = L.length ∧ lv_wf ls ∧ ∀ (i : Nat) (v : Value), L[i]? = some (some v) → ls[i]? = some (.val v)
def stLa (i : Nat) (v : Value) : Nat → List (Option Value) → List (Option Value)
  | _, [] => []
  | j, x :: t => (if j == i then some v else match x with
      | none => none
      | some w => if ((j + 1 == i) && (w.category == 2)) || ((j == i + 1) && (v.category == 2)) then none else some w) :: stLa i v (j + 1) t
def stL (L : List (Option Value)) (i : Nat) (v : Value) : List (Option Value) := stLa i v 0 L
def lvl : Nat → List (Option Value) → List (Nat × Value)
  | _, [] => []
  | j, none :: t => lvl (j + 1) t
  | j, some v :: t => (j, v) :: lvl (j + 1) t
theorem lvl_mem : ∀ (L : List (Option Value)) (j i : Nat) (v : Value), (i, v) ∈ lvl j L ↔ j ≤ i ∧ L[i - j]? = some (some v)
  | [], j, i, v => by simp [lvl]
  | none :: t, j, i, v => by
    rw [lvl, lvl_mem t (j + 1) i v]
    constructor
    · rintro ⟨h1, h2⟩
      refine ⟨by omega, ?_⟩
      rw [show i - j = (i - (j + 1)) + 1 by omega, List.getElem?_cons_succ]
      exact h2
    · rintro ⟨h1, h2⟩
      rcases Nat.eq_or_lt_of_le h1 with q | q
      · subst q
        rw [Nat.sub_self, List.getElem?_cons_zero] at h2
        cases h2
      · refine ⟨q, ?_⟩
        rw [show i - j = (i - (j + 1)) + 1 by omega, List.getElem?_cons_succ] at h2
        exact h2
  | some w :: t, j, i, v => by
    rw [lvl, List.mem_cons, lvl_mem t (j + 1) i v]
    constructor
    · rintro (h | ⟨h1, h2⟩)
      · cases h
        exact ⟨Nat.le_refl _, by rw [Nat.sub_self]; rfl⟩
      · refine ⟨by omega, ?_⟩
        rw [show i - j = (i - (j + 1)) + 1 by omega, List.getElem?_cons_succ]
        exact h2
    · rintro ⟨h1, h2⟩
      rcases Nat.eq_or_lt_of_le h1 with q | q
      · subst q
        rw [Nat.sub_self, List.getElem?_cons_zero] at h2
        cases h2
        exact Or.inl rfl
      · refine Or.inr ⟨q, ?_⟩
        rw [show i - j = (i - (j + 1)) + 1 by omega, List.getElem?_cons_succ] at h2
        exact h2
theorem lvP_has {ls : Array Slot} {L : List (Option Value)} (h : lvP ls L) : lv_has ls L.length (lvl 0 L) :=
  ⟨h.1, h.2.1, fun q hq => h.2.2 q.1 q.2 (by have := (lvl_mem L 0 q.1 q.2).mp hq; simpa using this.2)⟩
theorem stLa_len (i : Nat) (v : Value) : ∀ (L : List (Option Value)) (j : Nat), (stLa i v j L).length = L.length
  | [], _ => rfl
  | x :: t, j => by simp [stLa, stLa_len i v t (j + 1)]
theorem stLa_get (i : Nat) (v : Value) : ∀ (L : List (Option Value)) (j k : Nat) (w : Value), (stLa i v j L)[k]? = some (some w) → (j + k = i ∧ w = v) ∨ (j + k ≠ i ∧ L[k]? = some (some w) ∧ ¬ (j + k + 1 = i ∧ w.category = 2) ∧ ¬ (j + k = i + 1 ∧ v.category = 2))
  | [], j, k, w, h => by simp [stLa] at h
  | x :: t, j, k, w, h => by
    cases k with
    | zero =>
      simp only [stLa, List.getElem?_cons_zero] at h
      by_cases hj : j = i
      · subst hj
        simp at h
        exact Or.inl ⟨rfl, h.symm⟩
      · have hb : (j == i) = false := by simpa using hj
        rw [hb] at h
        cases x with
        | none => simp at h
        | some u =>
          simp only [Bool.false_eq_true, if_false] at h
          by_cases hc : (((j + 1 == i) && (u.category == 2)) || ((j == i + 1) && (v.category == 2))) = true
          · rw [if_pos hc] at h
            simp at h
          · rw [if_neg hc] at h
            simp at h
            subst h
            simp only [Bool.or_eq_true, Bool.and_eq_true, beq_iff_eq] at hc
            exact Or.inr ⟨hj, rfl, fun e => hc (Or.inl e), fun e => hc (Or.inr e)⟩
    | succ k =>
      simp only [stLa, List.getElem?_cons_succ] at h
      rcases stLa_get i v t (j + 1) k w h with ⟨h1, h2⟩ | ⟨h1, h2, h3, h4⟩
      · exact Or.inl ⟨by omega, h2⟩
      · refine Or.inr ⟨by omega, by rw [List.getElem?_cons_succ]; exact h2, fun e => h3 ⟨by omega, e.2⟩, fun e => h4 ⟨by omega, e.2⟩⟩
theorem lvP_st1 {ls : Array Slot} {L : List (Option Value)} {i : Nat} {v : Value} (hc : v.category = 1) (h : lv_has ls L.length ((i, v) :: (lvl 0 L).filter (fun q => !(q.1 == i) && !(q.1 + 1 == i && q.2.category == 2)))) : lvP ls (stL L i v) := by
  refine ⟨by rw [h.1]; exact (stLa_len i v L 0).symm, h.2.1, fun k w hk => ?_⟩
  rcases stLa_get i v L 0 k w hk with ⟨h1, h2⟩ | ⟨h1, h2, h3, h4⟩
  · rw [Nat.zero_add] at h1
    subst h1; subst h2
    exact h.2.2 (k, w) List.mem_cons_self
  · refine h.2.2 (k, w) (List.mem_cons_of_mem _ (List.mem_filter.mpr ⟨(lvl_mem L 0 k w).mpr ⟨Nat.zero_le _, h2⟩, ?_⟩))
    have e1 : (k == i) = false := by simpa using h1
    by_cases e2 : k + 1 = i
    · have e3 : ¬ w.category = 2 := fun e => h3 ⟨by omega, e⟩
      simp [e1, e3]
    · simp [e1, e2]
theorem lvP_st2 {ls : Array Slot} {L : List (Option Value)} {i : Nat} {v : Value} (hc : v.category = 2) (h : lv_has ls L.length ((i, v) :: (lvl 0 L).filter (fun q => !(q.1 == i) && (!(q.1 == i + 1) && !(q.1 + 1 == i && q.2.category == 2))))) : lvP ls (stL L i v) := by
  refine ⟨by rw [h.1]; exact (stLa_len i v L 0).symm, h.2.1, fun k w hk => ?_⟩
  rcases stLa_get i v L 0 k w hk with ⟨h1, h2⟩ | ⟨h1, h2, h3, h4⟩
  · rw [Nat.zero_add] at h1
    subst h1; subst h2
    exact h.2.2 (k, w) List.mem_cons_self
  · refine h.2.2 (k, w) (List.mem_cons_of_mem _ (List.mem_filter.mpr ⟨(lvl_mem L 0 k w).mpr ⟨Nat.zero_le _, h2⟩, ?_⟩))
    have e1 : (k == i) = false := by simpa using h1
    have e4 : ¬ k = i + 1 := fun e => h4 ⟨by omega, hc⟩
    by_cases e2 : k + 1 = i
    · have e3 : ¬ w.category = 2 := fun e => h3 ⟨by omega, e⟩
      simp [e1, e3, e4]
    · simp [e1, e2, e4]
/-- the world of a state -/
def RepH (D : va_G) (cy : Nat → ClassId) (b n : Nat) (h : Hp) (H : Heap) : Prop := va_P D kCl (wl b cy n h) H ∧ (n < NT → H.size = b + n) ∧ (n = NT → St h) ∧ n ≤ NT
abbrev UAq : String := "UNASSIGNED_STACK"
abbrev SSq : String := "SUPPRESSED_SENTINEL"
def strL : List (Nat × String) := [(78, "a number of the mail is out of range"), (89, "there are 40 mails"), (96, "the number of days is out of range"), (103, "no box with a quota"), (106, "the quota is out of range"), (295, "no such number"), (291, "the mail was not delivered, or is gone"), (150, "no such kind, or its number is out of range"), (293, "there would be more than 60 tests"), (174, "the script has 12 rules"), (189, "the rule has 5 actions"), (226, "no such kind of fault"), (248, "no mail was moved there, or no test tells it apart"), (270, "no mail was delivered"), (276, "no mail is in the box")]
def nwL : List Cond := [Cond.fieldLinkNest RX4 44 "Filterbench$Tests" "kinds" "[C" "Filterbench", Cond.fieldLinkNest RX4 52 "Filterbench$Tests" "firsts" "[I" "Filterbench", Cond.fieldLinkNest RX4 55 "Filterbench$Tests" "seconds" "[I" "Filterbench", Cond.methodLinkNest RX10 9 yX9_init "Filterbench", Cond.methodLinkNest RX10 41 yX5_init "Filterbench", Cond.methodLinkNest RX0 29 yX5_init "Filterbench", Cond.methodLinkNest RX0 36 yX2_init "Filterbench", Cond.methodLinkNest RX0 114 yX10_hasBit_ "Filterbench", Cond.methodLinkNest RX0 159 yX10_hasBit "Filterbench", Cond.methodLinkNest RX3 33 yX2_init "Filterbench", Cond.methodLinkNest RX3 95 yX10_hasBit "Filterbench", Cond.methodLinkNest RX4 9 yX8_init "Filterbench", Cond.methodLinkNest RX4 38 yX10_hasBit_ "Filterbench", Cond.methodLinkNest RX6 19 yX10_isBelow "Filterbench", Cond.methodLinkNest RX6 23 yX10_lies "Filterbench", Cond.methodLinkNest RX7 15 yX6_init "Filterbench", Cond.methodLinkNest RX8 69 yX10_hasBit "Filterbench", Cond.methodLinkNest RX9 22 yX10_isBelow "Filterbench", Cond.methodLinkNest RX9 26 yX10_lies "Filterbench", Cond.methodLinkNest RX9 46 yX10_hasBit_ "Filterbench", Cond.methodLinkNest RX9 66 yX10_hasBit "Filterbench", Cond.castable "java/lang/IllegalArgumentException" "java/lang/IllegalArgumentException", Cond.castable "java/lang/IllegalStateException" "java/lang/IllegalStateException", Cond.castable "java/lang/IndexOutOfBoundsException" "java/lang/IndexOutOfBoundsException", Cond.castable "java/util/NoSuchElementException" "java/util/NoSuchElementException", Cond.castable "java/lang/ArithmeticException" "java/lang/ArithmeticException", Cond.declares ⟨"java/lang/RuntimeException", "<init>", "(Ljava/lang/String;)V"⟩, Cond.declares ⟨"java/lang/Exception", "<init>", "(Ljava/lang/String;)V"⟩, Cond.declares ⟨"java/lang/Throwable", "<init>", "(Ljava/lang/String;)V"⟩]
def ncL : List (String × String) := [("java/lang/IllegalArgumentException", "java/lang/IllegalStateException"), ("java/lang/IllegalArgumentException", "java/lang/IndexOutOfBoundsException"), ("java/lang/IllegalArgumentException", "java/util/NoSuchElementException"), ("java/lang/IllegalArgumentException", "java/lang/ArithmeticException"), ("java/lang/IllegalStateException", "java/lang/IllegalArgumentException"), ("java/lang/IllegalStateException", "java/lang/IndexOutOfBoundsException"), ("java/lang/IllegalStateException", "java/util/NoSuchElementException"), ("java/lang/IllegalStateException", "java/lang/ArithmeticException"), ("java/lang/IndexOutOfBoundsException", "java/lang/IllegalArgumentException"), ("java/lang/IndexOutOfBoundsException", "java/lang/IllegalStateException"), ("java/lang/IndexOutOfBoundsException", "java/util/NoSuchElementException"), ("java/lang/IndexOutOfBoundsException", "java/lang/ArithmeticException"), ("java/util/NoSuchElementException", "java/lang/IllegalArgumentException"), ("java/util/NoSuchElementException", "java/lang/IllegalStateException"), ("java/util/NoSuchElementException", "java/lang/IndexOutOfBoundsException"), ("java/util/NoSuchElementException", "java/lang/ArithmeticException"), ("java/lang/ArithmeticException", "java/lang/IllegalArgumentException"), ("java/lang/ArithmeticException", "java/lang/IllegalStateException"), ("java/lang/ArithmeticException", "java/lang/IndexOutOfBoundsException"), ("java/lang/ArithmeticException", "java/util/NoSuchElementException")]
theorem NwOK_warm {s U : State} (hW : s.WarmedH U.vm) (h : ∀ w ∈ nwL, va_Nw w s) : ∀ w ∈ nwL, va_Nw w U := by
  intro w hw
  have h1 := h w hw
  simp only [nwL, List.mem_cons, List.not_mem_nil, or_false] at hw
  rcases hw with rfl | rfl | rfl | rfl | rfl | rfl | rfl | rfl | rfl | rfl | rfl | rfl | rfl | rfl | rfl | rfl | rfl | rfl | rfl | rfl | rfl | rfl | rfl | rfl | rfl | rfl | rfl | rfl | rfl
  · exact va_Nw.warmF hW h1
  · exact va_Nw.warmF hW h1
  · exact va_Nw.warmF hW h1
  · exact va_Nw.warmM hW h1
  · exact va_Nw.warmM hW h1
  · exact va_Nw.warmM hW h1
  · exact va_Nw.warmM hW h1
  · exact va_Nw.warmM hW h1
  · exact va_Nw.warmM hW h1
  · exact va_Nw.warmM hW h1
  · exact va_Nw.warmM hW h1
  · exact va_Nw.warmM hW h1
  · exact va_Nw.warmM hW h1
  · exact va_Nw.warmM hW h1
  · exact va_Nw.warmM hW h1
  · exact va_Nw.warmM hW h1
  · exact va_Nw.warmM hW h1
  · exact va_Nw.warmM hW h1
  · exact va_Nw.warmM hW h1
  · exact va_Nw.warmM hW h1
  · exact va_Nw.warmM hW h1
  · exact va_Nw.warmC hW h1
  · exact va_Nw.warmC hW h1
  · exact va_Nw.warmC hW h1
  · exact va_Nw.warmC hW h1
  · exact va_Nw.warmC hW h1
  · exact va_Nw.warmD hW h1
  · exact va_Nw.warmD hW h1
  · exact va_Nw.warmD hW h1
theorem NwOK_same {u U : State} (hv : U.vm = u.vm) (h : ∀ w ∈ nwL, va_Nw w u) : ∀ w ∈ nwL, va_Nw w U := by
  intro w hw
  have h1 := h w hw
  simp only [nwL, List.mem_cons, List.not_mem_nil, or_false] at hw
  rcases hw with rfl | rfl | rfl | rfl | rfl | rfl | rfl | rfl | rfl | rfl | rfl | rfl | rfl | rfl | rfl | rfl | rfl | rfl | rfl | rfl | rfl | rfl | rfl | rfl | rfl | rfl | rfl | rfl | rfl <;> exact va_Nw.same rfl hv.symm h1
def StrOK (U : State) : Prop := (∀ q ∈ strL, ∃ sa : Nat, vk_R RX10 q.1 q.2 sa U) ∧ (∀ w ∈ nwL, va_Nw w U) ∧ (va_AO RX2 U ∧ va_AO RX6 U ∧ va_AO RX7 U) ∧ ∀ q ∈ ncL, va_Nc q.1 q.2 U
def Wld (D : va_G) (cy : Nat → ClassId) (b n : Nat) (h : Hp) (U : State) : Prop := RepH D cy b n h U.heap ∧ va_K D kCl (tysL cy) U ∧ vx_Zq Bundle.tN UAq Bundle.steD (fun q => b ≤ q) U U.heap ∧ vx_Zq Bundle.tN SSq Bundle.listD (fun q => b ≤ q) U U.heap ∧ b ≤ U.heap.size ∧ StrOK U
def GG (X : Ctx) (k z n : Nat) (h : Hp) (L : List (Option Value)) (pc : Nat) (st : List Value) : Prop :=
  ∀ (H : Heap) (locs : List Loc) (ls : Array Slot), RepH (xD X) (xY X) (xb X) n h H → va_S (fun q => xb X ≤ q) (xS X).heap H locs → lvP ls L →
    W (xP X) (xL X) (xE X) (xR X) (xS X) (xM X) (xA X) (xB X) (xMe X) (xC X) H locs k z (xQ X) (F0 (xM X) pc ls st)
/-- what holds all through a method -/
def EE (X : Ctx) (cc : ByteArray) (own : String) (nL fr lo mc ms : Nat) : Prop :=
  (xP X).tables.exec = Jvm.exec ∧ (xC X).code = cc ∧ (xC X).maxLocals = nL ∧ (xS X).vm.findClass own = some (xM X).cls ∧ (∀ w ∈ UNI, w.before (xA X) (xS X) = true) ∧ va_K (xD X) kCl (tysL (xY X)) (xS X) ∧ fr ≤ (xR X).frames ∧ lo ≤ (xR X).locals ∧ mc ≤ (xR X).cells ∧ ms ≤ (xR X).slots ∧ (xMe X).locks = false ∧ xb X ≤ (xS X).heap.size ∧
  vx_Zq Bundle.tN UAq Bundle.steD (fun q => xb X ≤ q) (xS X) (xS X).heap ∧ vx_Zq Bundle.tN SSq Bundle.listD (fun q => xb X ≤ q) (xS X) (xS X).heap ∧ (xL X).stackTraces = false ∧ StrOK (xS X)
section Rows
variable {X : Ctx} {cc : ByteArray} {own : String} {nL fr lo mc ms k z n pc : Nat} {h : Hp} {L : List (Option Value)} {st : List Value}

theorem r_iconst (E : EE X cc own nL fr lo mc ms) {i : Int} (v : Int32) (hv : Int32.ofInt i = v) (hd : decode cc pc = .ok (.iconst i, 1)) (kk : GG X k z n h L (pc + 1) (.int v :: st)) : GG X k z n h L pc st := by
  obtain ⟨p, l, e, R, s, m, args, below, meth, c, Q, D, cy, b⟩ := X
  obtain ⟨hx, hb, hml, hown, hts, -⟩ := E
  intro H locs ls hR hS hl
  exact lv_iconst hx hb hd hv (kk H locs ls hR hS hl)
theorem r_bipush (E : EE X cc own nL fr lo mc ms) {i : Int} (v : Int32) (hv : (Int8.ofInt i).toInt32 = v) (hd : decode cc pc = .ok (.bipush i, 2)) (kk : GG X k z n h L (pc + 2) (.int v :: st)) : GG X k z n h L pc st := by
  obtain ⟨p, l, e, R, s, m, args, below, meth, c, Q, D, cy, b⟩ := X
  obtain ⟨hx, hb, hml, hown, hts, -⟩ := E
  intro H locs ls hR hS hl
  exact lv_bipush hx hb hd hv (kk H locs ls hR hS hl)
theorem r_sipush (E : EE X cc own nL fr lo mc ms) {i : Int} (v : Int32) (hv : (Int16.ofInt i).toInt32 = v) (hd : decode cc pc = .ok (.sipush i, 3)) (kk : GG X k z n h L (pc + 3) (.int v :: st)) : GG X k z n h L pc st := by
  obtain ⟨p, l, e, R, s, m, args, below, meth, c, Q, D, cy, b⟩ := X
  obtain ⟨hx, hb, hml, hown, hts, -⟩ := E
  intro H locs ls hR hS hl
  exact lv_sipush hx hb hd hv (kk H locs ls hR hS hl)
theorem r_lconst (E : EE X cc own nL fr lo mc ms) {i : Fin 2} (v : Int64) (hv : Int64.ofNat (i : Nat) = v) (hd : decode cc pc = .ok (.lconst i, 1)) (kk : GG X k z n h L (pc + 1) (.long v :: st)) : GG X k z n h L pc st := by
  obtain ⟨p, l, e, R, s, m, args, below, meth, c, Q, D, cy, b⟩ := X
  obtain ⟨hx, hb, hml, hown, hts, -⟩ := E
  intro H locs ls hR hS hl
  exact lv_lconst hx hb hd hv (kk H locs ls hR hS hl)
theorem r_ldc (E : EE X cc own nL fr lo mc ms) {i : Nat} (v : Int32) (hc : Cond.constant own i v ∈ UNI) (hd : decode cc pc = .ok (.ldc i, 2)) (kk : GG X k z n h L (pc + 2) (.int v :: st)) : GG X k z n h L pc st := by
  obtain ⟨p, l, e, R, s, m, args, below, meth, c, Q, D, cy, b⟩ := X
  obtain ⟨hx, hb, hml, hown, hts, -⟩ := E
  intro H locs ls hR hS hl
  exact lv_ldc hx hb hown (hts _ hc) hd (kk H locs ls hR hS hl)
theorem r_ldc2 (E : EE X cc own nL fr lo mc ms) {i : Nat} (v : Int64) (hc : Cond.constantLong own i v ∈ UNI) (hd : decode cc pc = .ok (.ldc2_w i, 3)) (kk : GG X k z n h L (pc + 3) (.long v :: st)) : GG X k z n h L pc st := by
  obtain ⟨p, l, e, R, s, m, args, below, meth, c, Q, D, cy, b⟩ := X
  obtain ⟨hx, hb, hml, hown, hts, -⟩ := E
  intro H locs ls hR hS hl
  exact lv_ldc2 hx hb hown (hts _ hc) hd (kk H locs ls hR hS hl)
theorem r_iload_n (E : EE X cc own nL fr lo mc ms) {i : Fin 4} (x : Int32) (hl0 : L[(i : Nat)]? = some (some (.int x))) (hd : decode cc pc = .ok (.iload_n i, 1)) (kk : GG X k z n h L (pc + 1) (.int x :: st)) : GG X k z n h L pc st := by
  obtain ⟨p, l, e, R, s, m, args, below, meth, c, Q, D, cy, b⟩ := X
  obtain ⟨hx, hb, hml, hown, hts, -⟩ := E
  intro H locs ls hR hS hl
  exact lv_iload_n hx hb hd rfl (hl.2.2 _ _ hl0) (kk H locs ls hR hS hl)
theorem r_iload (E : EE X cc own nL fr lo mc ms) {i : Nat} (x : Int32) (hl0 : L[i]? = some (some (.int x))) (hd : decode cc pc = .ok (.iload i, 2)) (kk : GG X k z n h L (pc + 2) (.int x :: st)) : GG X k z n h L pc st := by
  obtain ⟨p, l, e, R, s, m, args, below, meth, c, Q, D, cy, b⟩ := X
  obtain ⟨hx, hb, hml, hown, hts, -⟩ := E
  intro H locs ls hR hS hl
  exact lv_iload hx hb hd (hl.2.2 _ _ hl0) (kk H locs ls hR hS hl)
theorem r_lload_n (E : EE X cc own nL fr lo mc ms) {i : Fin 4} (x : Int64) (hl0 : L[(i : Nat)]? = some (some (.long x))) (hd : decode cc pc = .ok (.lload_n i, 1)) (kk : GG X k z n h L (pc + 1) (.long x :: st)) : GG X k z n h L pc st := by
  obtain ⟨p, l, e, R, s, m, args, below, meth, c, Q, D, cy, b⟩ := X
  obtain ⟨hx, hb, hml, hown, hts, -⟩ := E
  intro H locs ls hR hS hl
  exact lv_lload_n hx hb hd rfl (hl.2.2 _ _ hl0) (kk H locs ls hR hS hl)
theorem r_lload (E : EE X cc own nL fr lo mc ms) {i : Nat} (x : Int64) (hl0 : L[i]? = some (some (.long x))) (hd : decode cc pc = .ok (.lload i, 2)) (kk : GG X k z n h L (pc + 2) (.long x :: st)) : GG X k z n h L pc st := by
  obtain ⟨p, l, e, R, s, m, args, below, meth, c, Q, D, cy, b⟩ := X
  obtain ⟨hx, hb, hml, hown, hts, -⟩ := E
  intro H locs ls hR hS hl
  exact lv_lload hx hb hd (hl.2.2 _ _ hl0) (kk H locs ls hR hS hl)
theorem r_fload_n (E : EE X cc own nL fr lo mc ms) {i : Fin 4} (x : UInt32) (hl0 : L[(i : Nat)]? = some (some (.float x))) (hd : decode cc pc = .ok (.fload_n i, 1)) (kk : GG X k z n h L (pc + 1) (.float x :: st)) : GG X k z n h L pc st := by
  obtain ⟨p, l, e, R, s, m, args, below, meth, c, Q, D, cy, b⟩ := X
  obtain ⟨hx, hb, hml, hown, hts, -⟩ := E
  intro H locs ls hR hS hl
  exact lv_fload_n hx hb hd rfl (hl.2.2 _ _ hl0) (kk H locs ls hR hS hl)
theorem r_fload (E : EE X cc own nL fr lo mc ms) {i : Nat} (x : UInt32) (hl0 : L[i]? = some (some (.float x))) (hd : decode cc pc = .ok (.fload i, 2)) (kk : GG X k z n h L (pc + 2) (.float x :: st)) : GG X k z n h L pc st := by
  obtain ⟨p, l, e, R, s, m, args, below, meth, c, Q, D, cy, b⟩ := X
  obtain ⟨hx, hb, hml, hown, hts, -⟩ := E
  intro H locs ls hR hS hl
  exact lv_fload hx hb hd (hl.2.2 _ _ hl0) (kk H locs ls hR hS hl)
theorem r_dload_n (E : EE X cc own nL fr lo mc ms) {i : Fin 4} (x : UInt64) (hl0 : L[(i : Nat)]? = some (some (.double x))) (hd : decode cc pc = .ok (.dload_n i, 1)) (kk : GG X k z n h L (pc + 1) (.double x :: st)) : GG X k z n h L pc st := by
  obtain ⟨p, l, e, R, s, m, args, below, meth, c, Q, D, cy, b⟩ := X
  obtain ⟨hx, hb, hml, hown, hts, -⟩ := E
  intro H locs ls hR hS hl
  exact lv_dload_n hx hb hd rfl (hl.2.2 _ _ hl0) (kk H locs ls hR hS hl)
theorem r_dload (E : EE X cc own nL fr lo mc ms) {i : Nat} (x : UInt64) (hl0 : L[i]? = some (some (.double x))) (hd : decode cc pc = .ok (.dload i, 2)) (kk : GG X k z n h L (pc + 2) (.double x :: st)) : GG X k z n h L pc st := by
  obtain ⟨p, l, e, R, s, m, args, below, meth, c, Q, D, cy, b⟩ := X
  obtain ⟨hx, hb, hml, hown, hts, -⟩ := E
  intro H locs ls hR hS hl
  exact lv_dload hx hb hd (hl.2.2 _ _ hl0) (kk H locs ls hR hS hl)
theorem r_aload_n (E : EE X cc own nL fr lo mc ms) {i : Fin 4} (j q : Nat) (hl0 : L[(i : Nat)]? = some (some (rf X j q))) (hd : decode cc pc = .ok (.aload_n i, 1)) (kk : GG X k z n h L (pc + 1) (rf X j q :: st)) : GG X k z n h L pc st := by
  obtain ⟨p, l, e, R, s, m, args, below, meth, c, Q, D, cy, b⟩ := X
  obtain ⟨hx, hb, hml, hown, hts, -⟩ := E
  intro H locs ls hR hS hl
  exact lv_aload_n hx hb hd rfl (hl.2.2 _ _ hl0) (kk H locs ls hR hS hl)
theorem r_aload (E : EE X cc own nL fr lo mc ms) {i : Nat} (j q : Nat) (hl0 : L[i]? = some (some (rf X j q))) (hd : decode cc pc = .ok (.aload i, 2)) (kk : GG X k z n h L (pc + 2) (rf X j q :: st)) : GG X k z n h L pc st := by
  obtain ⟨p, l, e, R, s, m, args, below, meth, c, Q, D, cy, b⟩ := X
  obtain ⟨hx, hb, hml, hown, hts, -⟩ := E
  intro H locs ls hR hS hl
  exact lv_aload hx hb hd (hl.2.2 _ _ hl0) (kk H locs ls hR hS hl)
theorem r_istore_n (E : EE X cc own nL fr lo mc ms) {i0 : Fin 4} {i : Nat} {x : Int32} (L1 : List (Option Value)) (hi : (i0 : Nat) = i) (hn : i < L.length) (hL : stL L i (.int x) = L1) (hd : decode cc pc = .ok (.istore_n i0, 1)) (kk : GG X k z n h L1 (pc + 1) (st)) : GG X k z n h L pc (.int x :: st) := by
  obtain ⟨p, l, e, R, s, m, args, below, meth, c, Q, D, cy, b⟩ := X
  obtain ⟨hx, hb, hml, hown, hts, -⟩ := E
  intro H locs ls hR hS hl
  exact lv_istore_n hx hb hd hi (lvP_has hl) hn rfl fun ls1 hl1 => kk H locs ls1 hR hS (hL ▸ lvP_st1 rfl hl1)
theorem r_istore (E : EE X cc own nL fr lo mc ms) {i : Nat} {x : Int32} (L1 : List (Option Value)) (hn : i < L.length) (hL : stL L i (.int x) = L1) (hd : decode cc pc = .ok (.istore i, 2)) (kk : GG X k z n h L1 (pc + 2) (st)) : GG X k z n h L pc (.int x :: st) := by
  obtain ⟨p, l, e, R, s, m, args, below, meth, c, Q, D, cy, b⟩ := X
  obtain ⟨hx, hb, hml, hown, hts, -⟩ := E
  intro H locs ls hR hS hl
  exact lv_istore hx hb hd (lvP_has hl) hn rfl fun ls1 hl1 => kk H locs ls1 hR hS (hL ▸ lvP_st1 rfl hl1)
theorem r_lstore_n (E : EE X cc own nL fr lo mc ms) {i0 : Fin 4} {i : Nat} {x : Int64} (L1 : List (Option Value)) (hi : (i0 : Nat) = i) (hn : i + 1 < L.length) (hL : stL L i (.long x) = L1) (hd : decode cc pc = .ok (.lstore_n i0, 1)) (kk : GG X k z n h L1 (pc + 1) (st)) : GG X k z n h L pc (.long x :: st) := by
  obtain ⟨p, l, e, R, s, m, args, below, meth, c, Q, D, cy, b⟩ := X
  obtain ⟨hx, hb, hml, hown, hts, -⟩ := E
  intro H locs ls hR hS hl
  exact lv_lstore_n hx hb hd hi (lvP_has hl) hn rfl fun ls1 hl1 => kk H locs ls1 hR hS (hL ▸ lvP_st2 rfl hl1)
theorem r_lstore (E : EE X cc own nL fr lo mc ms) {i : Nat} {x : Int64} (L1 : List (Option Value)) (hn : i + 1 < L.length) (hL : stL L i (.long x) = L1) (hd : decode cc pc = .ok (.lstore i, 2)) (kk : GG X k z n h L1 (pc + 2) (st)) : GG X k z n h L pc (.long x :: st) := by
  obtain ⟨p, l, e, R, s, m, args, below, meth, c, Q, D, cy, b⟩ := X
  obtain ⟨hx, hb, hml, hown, hts, -⟩ := E
  intro H locs ls hR hS hl
  exact lv_lstore hx hb hd (lvP_has hl) hn rfl fun ls1 hl1 => kk H locs ls1 hR hS (hL ▸ lvP_st2 rfl hl1)
theorem r_fstore_n (E : EE X cc own nL fr lo mc ms) {i0 : Fin 4} {i : Nat} {x : UInt32} (L1 : List (Option Value)) (hi : (i0 : Nat) = i) (hn : i < L.length) (hL : stL L i (.float x) = L1) (hd : decode cc pc = .ok (.fstore_n i0, 1)) (kk : GG X k z n h L1 (pc + 1) (st)) : GG X k z n h L pc (.float x :: st) := by
  obtain ⟨p, l, e, R, s, m, args, below, meth, c, Q, D, cy, b⟩ := X
  obtain ⟨hx, hb, hml, hown, hts, -⟩ := E
  intro H locs ls hR hS hl
  exact lv_fstore_n hx hb hd hi (lvP_has hl) hn rfl fun ls1 hl1 => kk H locs ls1 hR hS (hL ▸ lvP_st1 rfl hl1)
theorem r_fstore (E : EE X cc own nL fr lo mc ms) {i : Nat} {x : UInt32} (L1 : List (Option Value)) (hn : i < L.length) (hL : stL L i (.float x) = L1) (hd : decode cc pc = .ok (.fstore i, 2)) (kk : GG X k z n h L1 (pc + 2) (st)) : GG X k z n h L pc (.float x :: st) := by
  obtain ⟨p, l, e, R, s, m, args, below, meth, c, Q, D, cy, b⟩ := X
  obtain ⟨hx, hb, hml, hown, hts, -⟩ := E
  intro H locs ls hR hS hl
  exact lv_fstore hx hb hd (lvP_has hl) hn rfl fun ls1 hl1 => kk H locs ls1 hR hS (hL ▸ lvP_st1 rfl hl1)
theorem r_dstore_n (E : EE X cc own nL fr lo mc ms) {i0 : Fin 4} {i : Nat} {x : UInt64} (L1 : List (Option Value)) (hi : (i0 : Nat) = i) (hn : i + 1 < L.length) (hL : stL L i (.double x) = L1) (hd : decode cc pc = .ok (.dstore_n i0, 1)) (kk : GG X k z n h L1 (pc + 1) (st)) : GG X k z n h L pc (.double x :: st) := by
  obtain ⟨p, l, e, R, s, m, args, below, meth, c, Q, D, cy, b⟩ := X
  obtain ⟨hx, hb, hml, hown, hts, -⟩ := E
  intro H locs ls hR hS hl
  exact lv_dstore_n hx hb hd hi (lvP_has hl) hn rfl fun ls1 hl1 => kk H locs ls1 hR hS (hL ▸ lvP_st2 rfl hl1)
theorem r_dstore (E : EE X cc own nL fr lo mc ms) {i : Nat} {x : UInt64} (L1 : List (Option Value)) (hn : i + 1 < L.length) (hL : stL L i (.double x) = L1) (hd : decode cc pc = .ok (.dstore i, 2)) (kk : GG X k z n h L1 (pc + 2) (st)) : GG X k z n h L pc (.double x :: st) := by
  obtain ⟨p, l, e, R, s, m, args, below, meth, c, Q, D, cy, b⟩ := X
  obtain ⟨hx, hb, hml, hown, hts, -⟩ := E
  intro H locs ls hR hS hl
  exact lv_dstore hx hb hd (lvP_has hl) hn rfl fun ls1 hl1 => kk H locs ls1 hR hS (hL ▸ lvP_st2 rfl hl1)
theorem r_astore_n (E : EE X cc own nL fr lo mc ms) {i0 : Fin 4} {i j q : Nat} (L1 : List (Option Value)) (hi : (i0 : Nat) = i) (hn : i < L.length) (hL : stL L i (rf X j q) = L1) (hd : decode cc pc = .ok (.astore_n i0, 1)) (kk : GG X k z n h L1 (pc + 1) (st)) : GG X k z n h L pc (rf X j q :: st) := by
  obtain ⟨p, l, e, R, s, m, args, below, meth, c, Q, D, cy, b⟩ := X
  obtain ⟨hx, hb, hml, hown, hts, -⟩ := E
  intro H locs ls hR hS hl
  exact lv_astore_n hx hb hd hi (lvP_has hl) hn rfl fun ls1 hl1 => kk H locs ls1 hR hS (hL ▸ lvP_st1 rfl hl1)
theorem r_astore (E : EE X cc own nL fr lo mc ms) {i j q : Nat} (L1 : List (Option Value)) (hn : i < L.length) (hL : stL L i (rf X j q) = L1) (hd : decode cc pc = .ok (.astore i, 2)) (kk : GG X k z n h L1 (pc + 2) (st)) : GG X k z n h L pc (rf X j q :: st) := by
  obtain ⟨p, l, e, R, s, m, args, below, meth, c, Q, D, cy, b⟩ := X
  obtain ⟨hx, hb, hml, hown, hts, -⟩ := E
  intro H locs ls hR hS hl
  exact lv_astore hx hb hd (lvP_has hl) hn rfl fun ls1 hl1 => kk H locs ls1 hR hS (hL ▸ lvP_st1 rfl hl1)
theorem lvl_find {L : List (Option Value)} {i : Nat} {v : Value} (h : L[i]? = some (some v)) : ∃ q : Nat, (lvl 0 L)[q]? = some (i, v) := List.getElem?_of_mem ((lvl_mem L 0 i v).mpr ⟨Nat.zero_le _, h⟩)
theorem r_iinc (E : EE X cc own nL fr lo mc ms) {i : Nat} {d : Int} (x v : Int32) (L1 : List (Option Value)) (hl0 : L[i]? = some (some (.int x))) (hv : x + Int32.ofInt d = v) (hn : i < L.length) (hL : stL L i (.int v) = L1) (hd : decode cc pc = .ok (.iinc i d, 3)) (kk : GG X k z n h L1 (pc + 3) (st)) : GG X k z n h L pc st := by
  obtain ⟨p, l, e, R, s, m, args, below, meth, c, Q, D, cy, b⟩ := X
  obtain ⟨hx, hb, hml, hown, hts, -⟩ := E
  intro H locs ls hR hS hl
  obtain ⟨q, hq⟩ := lvl_find hl0
  exact lv_iinc hx hb hd (lvP_has hl) hq hv hn rfl fun ls1 hl1 => kk H locs ls1 hR hS (hL ▸ lvP_st1 rfl hl1)
theorem r_iadd (E : EE X cc own nL fr lo mc ms) {x y : Int32} (hd : decode cc pc = .ok (.iadd, 1)) (kk : GG X k z n h L (pc + 1) (.int (x + y) :: st)) : GG X k z n h L pc (.int y :: .int x :: st) := by
  obtain ⟨p, l, e, R, s, m, args, below, meth, c, Q, D, cy, b⟩ := X
  obtain ⟨hx, hb, hml, hown, hts, -⟩ := E
  intro H locs ls hR hS hl
  exact lv_iadd hx hb hd (kk H locs ls hR hS hl)
theorem r_isub (E : EE X cc own nL fr lo mc ms) {x y : Int32} (hd : decode cc pc = .ok (.isub, 1)) (kk : GG X k z n h L (pc + 1) (.int (x - y) :: st)) : GG X k z n h L pc (.int y :: .int x :: st) := by
  obtain ⟨p, l, e, R, s, m, args, below, meth, c, Q, D, cy, b⟩ := X
  obtain ⟨hx, hb, hml, hown, hts, -⟩ := E
  intro H locs ls hR hS hl
  exact lv_isub hx hb hd (kk H locs ls hR hS hl)
theorem r_imul (E : EE X cc own nL fr lo mc ms) {x y : Int32} (hd : decode cc pc = .ok (.imul, 1)) (kk : GG X k z n h L (pc + 1) (.int (x * y) :: st)) : GG X k z n h L pc (.int y :: .int x :: st) := by
  obtain ⟨p, l, e, R, s, m, args, below, meth, c, Q, D, cy, b⟩ := X
  obtain ⟨hx, hb, hml, hown, hts, -⟩ := E
  intro H locs ls hR hS hl
  exact lv_imul hx hb hd (kk H locs ls hR hS hl)
theorem r_iand (E : EE X cc own nL fr lo mc ms) {x y : Int32} (hd : decode cc pc = .ok (.iand, 1)) (kk : GG X k z n h L (pc + 1) (.int (x &&& y) :: st)) : GG X k z n h L pc (.int y :: .int x :: st) := by
  obtain ⟨p, l, e, R, s, m, args, below, meth, c, Q, D, cy, b⟩ := X
  obtain ⟨hx, hb, hml, hown, hts, -⟩ := E
  intro H locs ls hR hS hl
  exact lv_iand hx hb hd (kk H locs ls hR hS hl)
theorem r_ior (E : EE X cc own nL fr lo mc ms) {x y : Int32} (hd : decode cc pc = .ok (.ior, 1)) (kk : GG X k z n h L (pc + 1) (.int (x ||| y) :: st)) : GG X k z n h L pc (.int y :: .int x :: st) := by
  obtain ⟨p, l, e, R, s, m, args, below, meth, c, Q, D, cy, b⟩ := X
  obtain ⟨hx, hb, hml, hown, hts, -⟩ := E
  intro H locs ls hR hS hl
  exact lv_ior hx hb hd (kk H locs ls hR hS hl)
theorem r_ixor (E : EE X cc own nL fr lo mc ms) {x y : Int32} (hd : decode cc pc = .ok (.ixor, 1)) (kk : GG X k z n h L (pc + 1) (.int (x ^^^ y) :: st)) : GG X k z n h L pc (.int y :: .int x :: st) := by
  obtain ⟨p, l, e, R, s, m, args, below, meth, c, Q, D, cy, b⟩ := X
  obtain ⟨hx, hb, hml, hown, hts, -⟩ := E
  intro H locs ls hR hS hl
  exact lv_ixor hx hb hd (kk H locs ls hR hS hl)
theorem r_ishl (E : EE X cc own nL fr lo mc ms) {x y : Int32} (hd : decode cc pc = .ok (.ishl, 1)) (kk : GG X k z n h L (pc + 1) (.int (x <<< (y &&& 31)) :: st)) : GG X k z n h L pc (.int y :: .int x :: st) := by
  obtain ⟨p, l, e, R, s, m, args, below, meth, c, Q, D, cy, b⟩ := X
  obtain ⟨hx, hb, hml, hown, hts, -⟩ := E
  intro H locs ls hR hS hl
  exact lv_ishl hx hb hd (kk H locs ls hR hS hl)
theorem r_ishr (E : EE X cc own nL fr lo mc ms) {x y : Int32} (hd : decode cc pc = .ok (.ishr, 1)) (kk : GG X k z n h L (pc + 1) (.int (x >>> (y &&& 31)) :: st)) : GG X k z n h L pc (.int y :: .int x :: st) := by
  obtain ⟨p, l, e, R, s, m, args, below, meth, c, Q, D, cy, b⟩ := X
  obtain ⟨hx, hb, hml, hown, hts, -⟩ := E
  intro H locs ls hR hS hl
  exact lv_ishr hx hb hd (kk H locs ls hR hS hl)
theorem r_iushr (E : EE X cc own nL fr lo mc ms) {x y : Int32} (hd : decode cc pc = .ok (.iushr, 1)) (kk : GG X k z n h L (pc + 1) (.int ((x.toUInt32 >>> (y.toUInt32 &&& Int32.toUInt32 31)).toInt32) :: st)) : GG X k z n h L pc (.int y :: .int x :: st) := by
  obtain ⟨p, l, e, R, s, m, args, below, meth, c, Q, D, cy, b⟩ := X
  obtain ⟨hx, hb, hml, hown, hts, -⟩ := E
  intro H locs ls hR hS hl
  exact lv_iushr hx hb hd rfl (kk H locs ls hR hS hl)
theorem r_idiv (E : EE X cc own nL fr lo mc ms) {x y : Int32} (hne : ¬ y = 0) (hd : decode cc pc = .ok (.idiv, 1)) (kk : GG X k z n h L (pc + 1) (.int (x / y) :: st)) : GG X k z n h L pc (.int y :: .int x :: st) := by
  obtain ⟨p, l, e, R, s, m, args, below, meth, c, Q, D, cy, b⟩ := X
  obtain ⟨hx, hb, hml, hown, hts, -⟩ := E
  intro H locs ls hR hS hl
  exact lv_idiv hx hb hd hne (kk H locs ls hR hS hl)
theorem r_irem (E : EE X cc own nL fr lo mc ms) {x y : Int32} (hne : ¬ y = 0) (hd : decode cc pc = .ok (.irem, 1)) (kk : GG X k z n h L (pc + 1) (.int (x - x / y * y) :: st)) : GG X k z n h L pc (.int y :: .int x :: st) := by
  obtain ⟨p, l, e, R, s, m, args, below, meth, c, Q, D, cy, b⟩ := X
  obtain ⟨hx, hb, hml, hown, hts, -⟩ := E
  intro H locs ls hR hS hl
  exact lv_irem hx hb hd hne (kk H locs ls hR hS hl)
theorem r_ladd (E : EE X cc own nL fr lo mc ms) {x y : Int64} (hd : decode cc pc = .ok (.ladd, 1)) (kk : GG X k z n h L (pc + 1) (.long (x + y) :: st)) : GG X k z n h L pc (.long y :: .long x :: st) := by
  obtain ⟨p, l, e, R, s, m, args, below, meth, c, Q, D, cy, b⟩ := X
  obtain ⟨hx, hb, hml, hown, hts, -⟩ := E
  intro H locs ls hR hS hl
  exact lv_ladd hx hb hd (kk H locs ls hR hS hl)
theorem r_land (E : EE X cc own nL fr lo mc ms) {x y : Int64} (hd : decode cc pc = .ok (.land, 1)) (kk : GG X k z n h L (pc + 1) (.long (x &&& y) :: st)) : GG X k z n h L pc (.long y :: .long x :: st) := by
  obtain ⟨p, l, e, R, s, m, args, below, meth, c, Q, D, cy, b⟩ := X
  obtain ⟨hx, hb, hml, hown, hts, -⟩ := E
  intro H locs ls hR hS hl
  exact lv_land hx hb hd (kk H locs ls hR hS hl)
theorem r_lor (E : EE X cc own nL fr lo mc ms) {x y : Int64} (hd : decode cc pc = .ok (.lor, 1)) (kk : GG X k z n h L (pc + 1) (.long (x ||| y) :: st)) : GG X k z n h L pc (.long y :: .long x :: st) := by
  obtain ⟨p, l, e, R, s, m, args, below, meth, c, Q, D, cy, b⟩ := X
  obtain ⟨hx, hb, hml, hown, hts, -⟩ := E
  intro H locs ls hR hS hl
  exact lv_lor hx hb hd (kk H locs ls hR hS hl)
theorem r_lxor (E : EE X cc own nL fr lo mc ms) {x y : Int64} (hd : decode cc pc = .ok (.lxor, 1)) (kk : GG X k z n h L (pc + 1) (.long (x ^^^ y) :: st)) : GG X k z n h L pc (.long y :: .long x :: st) := by
  obtain ⟨p, l, e, R, s, m, args, below, meth, c, Q, D, cy, b⟩ := X
  obtain ⟨hx, hb, hml, hown, hts, -⟩ := E
  intro H locs ls hR hS hl
  exact lv_lxor hx hb hd (kk H locs ls hR hS hl)
theorem r_lshl (E : EE X cc own nL fr lo mc ms) {x : Int64} {y : Int32} (hd : decode cc pc = .ok (.lshl, 1)) (kk : GG X k z n h L (pc + 1) (.long (x <<< (y.toInt64 &&& 63)) :: st)) : GG X k z n h L pc (.int y :: .long x :: st) := by
  obtain ⟨p, l, e, R, s, m, args, below, meth, c, Q, D, cy, b⟩ := X
  obtain ⟨hx, hb, hml, hown, hts, -⟩ := E
  intro H locs ls hR hS hl
  exact lv_lshl hx hb hd rfl (kk H locs ls hR hS hl)
theorem r_lshr (E : EE X cc own nL fr lo mc ms) {x : Int64} {y : Int32} (hd : decode cc pc = .ok (.lshr, 1)) (kk : GG X k z n h L (pc + 1) (.long (x >>> (y.toInt64 &&& 63)) :: st)) : GG X k z n h L pc (.int y :: .long x :: st) := by
  obtain ⟨p, l, e, R, s, m, args, below, meth, c, Q, D, cy, b⟩ := X
  obtain ⟨hx, hb, hml, hown, hts, -⟩ := E
  intro H locs ls hR hS hl
  exact lv_lshr hx hb hd rfl (kk H locs ls hR hS hl)
theorem r_i2l (E : EE X cc own nL fr lo mc ms) {x : Int32} (hd : decode cc pc = .ok (.i2l, 1)) (kk : GG X k z n h L (pc + 1) (.long x.toInt64 :: st)) : GG X k z n h L pc (.int x :: st) := by
  obtain ⟨p, l, e, R, s, m, args, below, meth, c, Q, D, cy, b⟩ := X
  obtain ⟨hx, hb, hml, hown, hts, -⟩ := E
  intro H locs ls hR hS hl
  exact lv_i2l hx hb hd rfl (kk H locs ls hR hS hl)
theorem r_i2c (E : EE X cc own nL fr lo mc ms) {x : Int32} (hd : decode cc pc = .ok (.i2c, 1)) (kk : GG X k z n h L (pc + 1) (.int ((x.toUInt32 % 65536).toInt32) :: st)) : GG X k z n h L pc (.int x :: st) := by
  obtain ⟨p, l, e, R, s, m, args, below, meth, c, Q, D, cy, b⟩ := X
  obtain ⟨hx, hb, hml, hown, hts, -⟩ := E
  intro H locs ls hR hS hl
  exact lv_i2c hx hb hd rfl (kk H locs ls hR hS hl)
theorem r_i2f (E : EE X cc own nL fr lo mc ms) {x : Int32} (hd : decode cc pc = .ok (.i2f, 1)) (kk : GG X k z n h L (pc + 1) (.float (FP.i2f x) :: st)) : GG X k z n h L pc (.int x :: st) := by
  obtain ⟨p, l, e, R, s, m, args, below, meth, c, Q, D, cy, b⟩ := X
  obtain ⟨hx, hb, hml, hown, hts, -⟩ := E
  intro H locs ls hR hS hl
  exact lv_i2f hx hb hd (kk H locs ls hR hS hl)
theorem r_i2d (E : EE X cc own nL fr lo mc ms) {x : Int32} (hd : decode cc pc = .ok (.i2d, 1)) (kk : GG X k z n h L (pc + 1) (.double (FP.i2d x) :: st)) : GG X k z n h L pc (.int x :: st) := by
  obtain ⟨p, l, e, R, s, m, args, below, meth, c, Q, D, cy, b⟩ := X
  obtain ⟨hx, hb, hml, hown, hts, -⟩ := E
  intro H locs ls hR hS hl
  exact lv_i2d hx hb hd (kk H locs ls hR hS hl)
theorem r_f2d (E : EE X cc own nL fr lo mc ms) {x : UInt32} (hne : vf_n64 (FP.f2d x)) (hd : decode cc pc = .ok (.f2d, 1)) (kk : GG X k z n h L (pc + 1) (.double (FP.f2d x) :: st)) : GG X k z n h L pc (.float x :: st) := by
  obtain ⟨p, l, e, R, s, m, args, below, meth, c, Q, D, cy, b⟩ := X
  obtain ⟨hx, hb, hml, hown, hts, -⟩ := E
  intro H locs ls hR hS hl
  exact lv_f2d hx hb hd hne (kk H locs ls hR hS hl)
theorem r_fdiv (E : EE X cc own nL fr lo mc ms) {x y : UInt32} (hne : vf_n32 (FP.fdiv x y)) (hd : decode cc pc = .ok (.fdiv, 1)) (kk : GG X k z n h L (pc + 1) (.float (FP.fdiv x y) :: st)) : GG X k z n h L pc (.float y :: .float x :: st) := by
  obtain ⟨p, l, e, R, s, m, args, below, meth, c, Q, D, cy, b⟩ := X
  obtain ⟨hx, hb, hml, hown, hts, -⟩ := E
  intro H locs ls hR hS hl
  exact lv_fdiv hx hb hd hne (kk H locs ls hR hS hl)
theorem r_ddiv (E : EE X cc own nL fr lo mc ms) {x y : UInt64} (hne : vf_n64 (FP.ddiv x y)) (hd : decode cc pc = .ok (.ddiv, 1)) (kk : GG X k z n h L (pc + 1) (.double (FP.ddiv x y) :: st)) : GG X k z n h L pc (.double y :: .double x :: st) := by
  obtain ⟨p, l, e, R, s, m, args, below, meth, c, Q, D, cy, b⟩ := X
  obtain ⟨hx, hb, hml, hown, hts, -⟩ := E
  intro H locs ls hR hS hl
  exact lv_ddiv hx hb hd hne (kk H locs ls hR hS hl)
theorem r_dup (E : EE X cc own nL fr lo mc ms) {v : Value} (hv : v.category = 1) (hd : decode cc pc = .ok (.dup, 1)) (kk : GG X k z n h L (pc + 1) (v :: v :: st)) : GG X k z n h L pc (v :: st) := by
  obtain ⟨p, l, e, R, s, m, args, below, meth, c, Q, D, cy, b⟩ := X
  obtain ⟨hx, hb, hml, hown, hts, -⟩ := E
  intro H locs ls hR hS hl
  exact lv_dup hx hb hd hv (kk H locs ls hR hS hl)
theorem r_dup2 (E : EE X cc own nL fr lo mc ms) {v w : Value} (hv : v.category = 1) (hw : w.category = 1) (hd : decode cc pc = .ok (.dup2, 1)) (kk : GG X k z n h L (pc + 1) (v :: w :: v :: w :: st)) : GG X k z n h L pc (v :: w :: st) := by
  obtain ⟨p, l, e, R, s, m, args, below, meth, c, Q, D, cy, b⟩ := X
  obtain ⟨hx, hb, hml, hown, hts, -⟩ := E
  intro H locs ls hR hS hl
  exact lv_dup2_11 hx hb hd hv hw (kk H locs ls hR hS hl)
theorem r_dup_x1 (E : EE X cc own nL fr lo mc ms) {v w : Value} (hv : v.category = 1) (hw : w.category = 1) (hd : decode cc pc = .ok (.dup_x1, 1)) (kk : GG X k z n h L (pc + 1) (v :: w :: v :: st)) : GG X k z n h L pc (v :: w :: st) := by
  obtain ⟨p, l, e, R, s, m, args, below, meth, c, Q, D, cy, b⟩ := X
  obtain ⟨hx, hb, hml, hown, hts, -⟩ := E
  intro H locs ls hR hS hl
  exact lv_dup_x1 hx hb hd hv hw (kk H locs ls hR hS hl)
theorem r_pop (E : EE X cc own nL fr lo mc ms) {v : Value} (hv : v.category = 1) (hd : decode cc pc = .ok (.pop, 1)) (kk : GG X k z n h L (pc + 1) (st)) : GG X k z n h L pc (v :: st) := by
  obtain ⟨p, l, e, R, s, m, args, below, meth, c, Q, D, cy, b⟩ := X
  obtain ⟨hx, hb, hml, hown, hts, -⟩ := E
  intro H locs ls hR hS hl
  exact lv_pop hx hb hd hv (kk H locs ls hR hS hl)
theorem r_goto (E : EE X cc own nL fr lo mc ms) {off : Int} (tgt : Nat) (ht : (pc : Int) + off = (tgt : Int)) (hd : decode cc pc = .ok (.goto off, 3)) (kk : GG X k z n h L tgt (st)) : GG X k z n h L pc st := by
  obtain ⟨p, l, e, R, s, m, args, below, meth, c, Q, D, cy, b⟩ := X
  obtain ⟨hx, hb, hml, hown, hts, -⟩ := E
  intro H locs ls hR hS hl
  exact lv_goto hx hb hd ht (kk H locs ls hR hS hl)
theorem r_if_eq (E : EE X cc own nL fr lo mc ms) {x : Int32} {off : Int} (tgt : Nat) (ht : (pc : Int) + off = (tgt : Int)) (hd : decode cc pc = .ok (.ifCond .eq off, 3)) (kt : x = 0 → GG X k z n h L tgt (st)) (kf : ¬ x = 0 → GG X k z n h L (pc + 3) (st)) : GG X k z n h L pc (.int x :: st) := by
  obtain ⟨p, l, e, R, s, m, args, below, meth, c, Q, D, cy, b⟩ := X
  obtain ⟨hx, hb, hml, hown, hts, -⟩ := E
  intro H locs ls hR hS hl
  exact lv_if_eq hx hb hd ht (fun q => kt q H locs ls hR hS hl) (fun q => kf q H locs ls hR hS hl)
theorem r_if_lt (E : EE X cc own nL fr lo mc ms) {x : Int32} {off : Int} (tgt : Nat) (ht : (pc : Int) + off = (tgt : Int)) (hd : decode cc pc = .ok (.ifCond .lt off, 3)) (kt : x < 0 → GG X k z n h L tgt (st)) (kf : ¬ x < 0 → GG X k z n h L (pc + 3) (st)) : GG X k z n h L pc (.int x :: st) := by
  obtain ⟨p, l, e, R, s, m, args, below, meth, c, Q, D, cy, b⟩ := X
  obtain ⟨hx, hb, hml, hown, hts, -⟩ := E
  intro H locs ls hR hS hl
  exact lv_if_lt hx hb hd ht (fun q => kt q H locs ls hR hS hl) (fun q => kf q H locs ls hR hS hl)
theorem r_if_le (E : EE X cc own nL fr lo mc ms) {x : Int32} {off : Int} (tgt : Nat) (ht : (pc : Int) + off = (tgt : Int)) (hd : decode cc pc = .ok (.ifCond .le off, 3)) (kt : x ≤ 0 → GG X k z n h L tgt (st)) (kf : ¬ x ≤ 0 → GG X k z n h L (pc + 3) (st)) : GG X k z n h L pc (.int x :: st) := by
  obtain ⟨p, l, e, R, s, m, args, below, meth, c, Q, D, cy, b⟩ := X
  obtain ⟨hx, hb, hml, hown, hts, -⟩ := E
  intro H locs ls hR hS hl
  exact lv_if_le hx hb hd ht (fun q => kt q H locs ls hR hS hl) (fun q => kf q H locs ls hR hS hl)
theorem r_if_ge (E : EE X cc own nL fr lo mc ms) {x : Int32} {off : Int} (tgt : Nat) (ht : (pc : Int) + off = (tgt : Int)) (hd : decode cc pc = .ok (.ifCond .ge off, 3)) (kt : 0 ≤ x → GG X k z n h L tgt (st)) (kf : ¬ 0 ≤ x → GG X k z n h L (pc + 3) (st)) : GG X k z n h L pc (.int x :: st) := by
  obtain ⟨p, l, e, R, s, m, args, below, meth, c, Q, D, cy, b⟩ := X
  obtain ⟨hx, hb, hml, hown, hts, -⟩ := E
  intro H locs ls hR hS hl
  exact lv_if_ge hx hb hd ht (fun q => kt q H locs ls hR hS hl) (fun q => kf q H locs ls hR hS hl)
theorem r_if_gt (E : EE X cc own nL fr lo mc ms) {x : Int32} {off : Int} (tgt : Nat) (ht : (pc : Int) + off = (tgt : Int)) (hd : decode cc pc = .ok (.ifCond .gt off, 3)) (kt : 0 < x → GG X k z n h L tgt (st)) (kf : ¬ 0 < x → GG X k z n h L (pc + 3) (st)) : GG X k z n h L pc (.int x :: st) := by
  obtain ⟨p, l, e, R, s, m, args, below, meth, c, Q, D, cy, b⟩ := X
  obtain ⟨hx, hb, hml, hown, hts, -⟩ := E
  intro H locs ls hR hS hl
  exact lv_if_gt hx hb hd ht (fun q => kt q H locs ls hR hS hl) (fun q => kf q H locs ls hR hS hl)
theorem r_icmp_eq (E : EE X cc own nL fr lo mc ms) {x y : Int32} {off : Int} (tgt : Nat) (ht : (pc : Int) + off = (tgt : Int)) (hd : decode cc pc = .ok (.if_icmp .eq off, 3)) (kt : x = y → GG X k z n h L tgt (st)) (kf : ¬ x = y → GG X k z n h L (pc + 3) (st)) : GG X k z n h L pc (.int y :: .int x :: st) := by
  obtain ⟨p, l, e, R, s, m, args, below, meth, c, Q, D, cy, b⟩ := X
  obtain ⟨hx, hb, hml, hown, hts, -⟩ := E
  intro H locs ls hR hS hl
  exact lv_icmp_eq hx hb hd ht (fun q => kt q H locs ls hR hS hl) (fun q => kf q H locs ls hR hS hl)
theorem r_icmp_lt (E : EE X cc own nL fr lo mc ms) {x y : Int32} {off : Int} (tgt : Nat) (ht : (pc : Int) + off = (tgt : Int)) (hd : decode cc pc = .ok (.if_icmp .lt off, 3)) (kt : x < y → GG X k z n h L tgt (st)) (kf : ¬ x < y → GG X k z n h L (pc + 3) (st)) : GG X k z n h L pc (.int y :: .int x :: st) := by
  obtain ⟨p, l, e, R, s, m, args, below, meth, c, Q, D, cy, b⟩ := X
  obtain ⟨hx, hb, hml, hown, hts, -⟩ := E
  intro H locs ls hR hS hl
  exact lv_icmp_lt hx hb hd ht (fun q => kt q H locs ls hR hS hl) (fun q => kf q H locs ls hR hS hl)
theorem r_icmp_le (E : EE X cc own nL fr lo mc ms) {x y : Int32} {off : Int} (tgt : Nat) (ht : (pc : Int) + off = (tgt : Int)) (hd : decode cc pc = .ok (.if_icmp .le off, 3)) (kt : x ≤ y → GG X k z n h L tgt (st)) (kf : ¬ x ≤ y → GG X k z n h L (pc + 3) (st)) : GG X k z n h L pc (.int y :: .int x :: st) := by
  obtain ⟨p, l, e, R, s, m, args, below, meth, c, Q, D, cy, b⟩ := X
  obtain ⟨hx, hb, hml, hown, hts, -⟩ := E
  intro H locs ls hR hS hl
  exact lv_icmp_le hx hb hd ht (fun q => kt q H locs ls hR hS hl) (fun q => kf q H locs ls hR hS hl)
theorem r_icmp_ge (E : EE X cc own nL fr lo mc ms) {x y : Int32} {off : Int} (tgt : Nat) (ht : (pc : Int) + off = (tgt : Int)) (hd : decode cc pc = .ok (.if_icmp .ge off, 3)) (kt : y ≤ x → GG X k z n h L tgt (st)) (kf : ¬ y ≤ x → GG X k z n h L (pc + 3) (st)) : GG X k z n h L pc (.int y :: .int x :: st) := by
  obtain ⟨p, l, e, R, s, m, args, below, meth, c, Q, D, cy, b⟩ := X
  obtain ⟨hx, hb, hml, hown, hts, -⟩ := E
  intro H locs ls hR hS hl
  exact lv_icmp_ge hx hb hd ht (fun q => kt q H locs ls hR hS hl) (fun q => kf q H locs ls hR hS hl)
theorem r_icmp_gt (E : EE X cc own nL fr lo mc ms) {x y : Int32} {off : Int} (tgt : Nat) (ht : (pc : Int) + off = (tgt : Int)) (hd : decode cc pc = .ok (.if_icmp .gt off, 3)) (kt : y < x → GG X k z n h L tgt (st)) (kf : ¬ y < x → GG X k z n h L (pc + 3) (st)) : GG X k z n h L pc (.int y :: .int x :: st) := by
  obtain ⟨p, l, e, R, s, m, args, below, meth, c, Q, D, cy, b⟩ := X
  obtain ⟨hx, hb, hml, hown, hts, -⟩ := E
  intro H locs ls hR hS hl
  exact lv_icmp_gt hx hb hd ht (fun q => kt q H locs ls hR hS hl) (fun q => kf q H locs ls hR hS hl)
theorem r_if_ne (E : EE X cc own nL fr lo mc ms) {x : Int32} {off : Int} (tgt : Nat) (ht : (pc : Int) + off = (tgt : Int)) (hd : decode cc pc = .ok (.ifCond .ne off, 3)) (kt : x = 0 → GG X k z n h L (pc + 3) (st)) (kf : ¬ x = 0 → GG X k z n h L tgt (st)) : GG X k z n h L pc (.int x :: st) := by
  obtain ⟨p, l, e, R, s, m, args, below, meth, c, Q, D, cy, b⟩ := X
  obtain ⟨hx, hb, hml, hown, hts, -⟩ := E
  intro H locs ls hR hS hl
  exact lv_if_ne hx hb hd ht (fun q => kf q H locs ls hR hS hl) (fun q => kt q H locs ls hR hS hl)
theorem r_icmp_ne (E : EE X cc own nL fr lo mc ms) {x y : Int32} {off : Int} (tgt : Nat) (ht : (pc : Int) + off = (tgt : Int)) (hd : decode cc pc = .ok (.if_icmp .ne off, 3)) (kt : x = y → GG X k z n h L (pc + 3) (st)) (kf : ¬ x = y → GG X k z n h L tgt (st)) : GG X k z n h L pc (.int y :: .int x :: st) := by
  obtain ⟨p, l, e, R, s, m, args, below, meth, c, Q, D, cy, b⟩ := X
  obtain ⟨hx, hb, hml, hown, hts, -⟩ := E
  intro H locs ls hR hS hl
  exact lv_icmp_ne hx hb hd ht (fun q => kf q H locs ls hR hS hl) (fun q => kt q H locs ls hR hS hl)
theorem lg_cmp0 {x y : Int64} : lg_cmp x y = 0 ↔ x = y := by
  unfold lg_cmp
  constructor
  · intro h
    by_cases h1 : x > y
    · rw [if_pos h1] at h
      exact absurd h (by decide)
    · rw [if_neg h1] at h
      by_cases h2 : x = y
      · exact h2
      · rw [if_neg h2] at h
        exact absurd h (by decide)
  · intro h
    subst h
    rw [if_neg (show ¬ x > x from Int64.lt_irrefl), if_pos rfl]
theorem r_lcmp_eq (E : EE X cc own nL fr lo mc ms) {x y : Int64} {off : Int} (tgt : Nat) (ht : ((pc + 1 : Nat) : Int) + off = (tgt : Int)) (hd : decode cc pc = .ok (.lcmp, 1)) (hd2 : decode cc (pc + 1) = .ok (.ifCond .eq off, 3)) (kt : x = y → GG X k z n h L tgt (st)) (kf : ¬ x = y → GG X k z n h L (pc + 4) (st)) : GG X k z n h L pc (.long y :: .long x :: st) := by
  obtain ⟨p, l, e, R, s, m, args, below, meth, c, Q, D, cy, b⟩ := X
  obtain ⟨hx, hb, hml, hown, hts, -⟩ := E
  intro H locs ls hR hS hl
  exact W.lcmp hx hb hd (lv_if_eq hx hb hd2 ht (fun q => kt (lg_cmp0.mp q) H locs ls hR hS hl) (fun q => kf (fun w => q (lg_cmp0.mpr w)) H locs ls hR hS hl))
theorem r_lcmp_ne (E : EE X cc own nL fr lo mc ms) {x y : Int64} {off : Int} (tgt : Nat) (ht : ((pc + 1 : Nat) : Int) + off = (tgt : Int)) (hd : decode cc pc = .ok (.lcmp, 1)) (hd2 : decode cc (pc + 1) = .ok (.ifCond .ne off, 3)) (kt : x = y → GG X k z n h L (pc + 4) (st)) (kf : ¬ x = y → GG X k z n h L tgt (st)) : GG X k z n h L pc (.long y :: .long x :: st) := by
  obtain ⟨p, l, e, R, s, m, args, below, meth, c, Q, D, cy, b⟩ := X
  obtain ⟨hx, hb, hml, hown, hts, -⟩ := E
  intro H locs ls hR hS hl
  exact W.lcmp hx hb hd (lv_if_ne hx hb hd2 ht (fun q => kf (fun w => q (lg_cmp0.mpr w)) H locs ls hR hS hl) (fun q => kt (lg_cmp0.mp q) H locs ls hR hS hl))
theorem r_dcmp (E : EE X cc own nL fr lo mc ms) {x y : UInt64} {op : CmpOp} (hd : decode cc pc = .ok (.dcmp op, 1)) (kk : GG X k z n h L (pc + 1) (.int (Op.cmpValue (FP.dcmp x y) op) :: st)) : GG X k z n h L pc (.double y :: .double x :: st) := by
  obtain ⟨p, l, e, R, s, m, args, below, meth, c, Q, D, cy, b⟩ := X
  obtain ⟨hx, hb, hml, hown, hts, -⟩ := E
  intro H locs ls hR hS hl
  exact lv_dcmp hx hb hd (kk H locs ls hR hS hl)
theorem r_fcmp (E : EE X cc own nL fr lo mc ms) {x y : UInt32} {op : CmpOp} (hd : decode cc pc = .ok (.fcmp op, 1)) (kk : GG X k z n h L (pc + 1) (.int (Op.cmpValue (FP.fcmp x y) op) :: st)) : GG X k z n h L pc (.float y :: .float x :: st) := by
  obtain ⟨p, l, e, R, s, m, args, below, meth, c, Q, D, cy, b⟩ := X
  obtain ⟨hx, hb, hml, hown, hts, -⟩ := E
  intro H locs ls hR hS hl
  exact lv_fcmp hx hb hd (kk H locs ls hR hS hl)
theorem r_fconst0 (E : EE X cc own nL fr lo mc ms)  (hd : decode cc pc = .ok (.fconst 0, 1)) (kk : GG X k z n h L (pc + 1) (.float 0 :: st)) : GG X k z n h L pc st := by
  obtain ⟨p, l, e, R, s, m, args, below, meth, c, Q, D, cy, b⟩ := X
  obtain ⟨hx, hb, hml, hown, hts, -⟩ := E
  intro H locs ls hR hS hl
  exact lv_fconst0 hx hb hd (kk H locs ls hR hS hl)
theorem r_dconst0 (E : EE X cc own nL fr lo mc ms)  (hd : decode cc pc = .ok (.dconst 0, 1)) (kk : GG X k z n h L (pc + 1) (.double 0 :: st)) : GG X k z n h L pc st := by
  obtain ⟨p, l, e, R, s, m, args, below, meth, c, Q, D, cy, b⟩ := X
  obtain ⟨hx, hb, hml, hown, hts, -⟩ := E
  intro H locs ls hR hS hl
  exact lv_dconst0 hx hb hd (kk H locs ls hR hS hl)
theorem r_lookup (E : EE X cc own nL fr lo mc ms) {dflt : Int} {ps : Array (Int × Int)} {len : Nat} {x : Int32} {off : Int} (tgt : Nat) (hd : decode cc pc = .ok (.lookupswitch dflt ps, len)) (hp : (ps.toList.zip (ps.toList.drop 1)).all (fun (a, next) => a.1 < next.1) = true) (ho : Op.lookupswitch.offset ps.toList dflt x.toInt = off) (ht : (pc : Int) + off = (tgt : Int)) (kk : GG X k z n h L tgt (st)) : GG X k z n h L pc (.int x :: st) := by
  obtain ⟨p, l, e, R, s, m, args, below, meth, c, Q, D, cy, b⟩ := X
  obtain ⟨hx, hb, hml, hown, hts, -⟩ := E
  intro H locs ls hR hS hl
  exact lv_lookup hx hb hd hp ho ht (kk H locs ls hR hS hl)
theorem r_tableO (E : EE X cc own nL fr lo mc ms) {dflt lo1 hi1 : Int} {offs : Array Int} {len : Nat} {x : Int32} (tgt : Nat) (hd : decode cc pc = .ok (.tableswitch dflt lo1 hi1 offs, len)) (h1 : x.toInt < lo1 ∨ hi1 < x.toInt) (ht : (pc : Int) + dflt = (tgt : Int)) (kk : GG X k z n h L tgt (st)) : GG X k z n h L pc (.int x :: st) := by
  obtain ⟨p, l, e, R, s, m, args, below, meth, c, Q, D, cy, b⟩ := X
  obtain ⟨hx, hb, hml, hown, hts, -⟩ := E
  intro H locs ls hR hS hl
  exact lv_tableOut hx hb hd h1 ht (kk H locs ls hR hS hl)
theorem r_tableI (E : EE X cc own nL fr lo mc ms) {dflt lo1 hi1 : Int} {offs : Array Int} {len : Nat} {x : Int32} (v : Int32) (hv : x = v) {off : Int} (tgt : Nat) (hd : decode cc pc = .ok (.tableswitch dflt lo1 hi1 offs, len)) (h1 : ¬ v.toInt < lo1) (h2 : ¬ hi1 < v.toInt) (ho : offs[(v.toInt - lo1).toNat]? = some off) (ht : (pc : Int) + off = (tgt : Int)) (kk : GG X k z n h L tgt (st)) : GG X k z n h L pc (.int x :: st) := by
  obtain ⟨p, l, e, R, s, m, args, below, meth, c, Q, D, cy, b⟩ := X
  obtain ⟨hx, hb, hml, hown, hts, -⟩ := E
  subst hv
  intro H locs ls hR hS hl
  exact lv_tableIn hx hb hd h1 h2 ho ht (kk H locs ls hR hS hl)
end Rows
/-! fields -/
theorem hin_0 : ∀ w ∈ u_ws (fCs 0) (fT 0) (ntab 0), w ∈ UNI := by decide +kernel
theorem hin_1 : ∀ w ∈ u_ws (fCs 1) (fT 1) (ntab 1), w ∈ UNI := by decide +kernel
theorem hin_2 : ∀ w ∈ u_ws (fCs 2) (fT 2) (ntab 2), w ∈ UNI := by decide +kernel
theorem hin_3 : ∀ w ∈ u_ws (fCs 3) (fT 3) (ntab 3), w ∈ UNI := by decide +kernel
theorem hin_4 : ∀ w ∈ u_ws (fCs 4) (fT 4) (ntab 4), w ∈ UNI := by decide +kernel
theorem hin_5 : ∀ w ∈ u_ws (fCs 5) (fT 5) (ntab 5), w ∈ UNI := by decide +kernel
theorem hin_6 : ∀ w ∈ u_ws (fCs 6) (fT 6) (ntab 6), w ∈ UNI := by decide +kernel
theorem hin_7 : ∀ w ∈ u_ws (fCs 7) (fT 7) (ntab 7), w ∈ UNI := by decide +kernel
theorem hin_8 : ∀ w ∈ u_ws (fCs 8) (fT 8) (ntab 8), w ∈ UNI := by decide +kernel
theorem hin_9 : ∀ w ∈ u_ws (fCs 9) (fT 9) (ntab 9), w ∈ UNI := by decide +kernel
theorem hin_10 : ∀ w ∈ u_ws (fCs 10) (fT 10) (ntab 10), w ∈ UNI := by decide +kernel
theorem hin_11 : ∀ w ∈ u_ws (fCs 11) (fT 11) (ntab 11), w ∈ UNI := by decide +kernel
theorem hin_all : ∀ j, j < 12 → ∀ w ∈ u_ws (fCs j) (fT j) (ntab j), w ∈ UNI := fun j hj => match j, hj with
  | 0, _ => hin_0
  | 1, _ => hin_1
  | 2, _ => hin_2
  | 3, _ => hin_3
  | 4, _ => hin_4
  | 5, _ => hin_5
  | 6, _ => hin_6
  | 7, _ => hin_7
  | 8, _ => hin_8
  | 9, _ => hin_9
  | 10, _ => hin_10
  | 11, _ => hin_11
theorem ty_all : ∀ j, j < 12 → ∀ q, q < ntab j → parseFieldDescriptor (fT j q).2.2.1 = some (fTy j q) := by decide +kernel
theorem nm_all : ∀ j, j < 12 → ∀ a, a < ntab j → ∀ b, b < ntab j → a ≠ b → (fT j a).2.1 ≠ (fT j b).2.1 := by decide +kernel
theorem kt0 : ∀ j, j < 12 → ktab j = 0 := by decide +kernel
/-- a field by its link -/
def FD (own : String) (i j q : Nat) : Prop := j < 12 ∧ q < ntab j ∧ Cond.fieldLink own i (fT j q).1 (fT j q).2.1 (fT j q).2.2.1 ∈ UNI
/-- the same, of a nest mate's private field -/
def FN (own : String) (i j q : Nat) : Prop := j < 12 ∧ q < ntab j ∧ Cond.fieldLinkNest own i (fT j q).1 (fT j q).2.1 (fT j q).2.2.1 "Filterbench" ∈ nwL
theorem fvl {b : Nat} {h : Hp} {j o q : Nat} (hq : q < ntab j) : ((List.range (ntab j)).map (fv b h j o))[q]? = some (fv b h j o q) := by simp [hq]
theorem fv_I {b : Nat} {h : Hp} {j o q : Nat} (hf : ftab j q = 0) : fv b h j o q = .int (gI h j o q) := by simp only [fv, hf]
theorem fv_J {b : Nat} {h : Hp} {j o q : Nat} (hf : ftab j q = 1) : fv b h j o q = .long (gJ h j o q) := by simp only [fv, hf]
theorem fv_R {b : Nat} {h : Hp} {j o q t : Nat} (hf : ftab j q = 2) (hv : gR h j o q = t + 1) : fv b h j o q = .ref (b + adr (rtab j q) t) := by simp only [fv, hf, hv, ro, va_rf]
theorem fv_up {b : Nat} {h h' : Hp} {j o q : Nat} (hI : ∀ i, i ≠ q → gI h' j o i = gI h j o i) (hJ : ∀ i, i ≠ q → gJ h' j o i = gJ h j o i) (hR : ∀ i, i ≠ q → gR h' j o i = gR h j o i) : ((List.range (ntab j)).map (fv b h j o)).set q (fv b h' j o q) = (List.range (ntab j)).map (fv b h' j o) :=
  range_set _ _ _ _ fun i hi => fv_at (hI i hi) (hJ i hi) (hR i hi)
theorem gI_ne {h : Hp} {j o q i : Nat} {v : Int32} (hi : i ≠ q) : gI (sI h j o q v) j o i = gI h j o i := up3_ne (fun e => hi e.2.2)
theorem gJ_ne {h : Hp} {j o q i : Nat} {v : Int64} (hi : i ≠ q) : gJ (sJ h j o q v) j o i = gJ h j o i := up3_ne (fun e => hi e.2.2)
theorem gR_ne {h : Hp} {j o q i : Nat} {v : Nat} (hi : i ≠ q) : gR (sR h j o q v) j o i = gR h j o i := up3_ne (fun e => hi e.2.2)
theorem gI_s {h : Hp} {j o q : Nat} {v : Int32} : gI (sI h j o q v) j o q = v := up3_s
theorem gJ_s {h : Hp} {j o q : Nat} {v : Int64} : gJ (sJ h j o q v) j o q = v := up3_s
theorem gR_s {h : Hp} {j o q : Nat} {v : Nat} : gR (sR h j o q v) j o q = v := up3_s
theorem gD_s {h : Hp} {j o q : Nat} {v : UInt64} : gD (sD h j o q v) j o q = v := up3_s
section Puts
variable {p : Program} {l : Launch} {e : Env} {R : Room} {s : State} {m : MethodId} {args : Array Value} {below : List Frame} {meth : Method} {c : Code} {H : Heap} {locs : List Loc} {cells slots : Nat} {Q : State → Prop}
variable {cc : ByteArray} {pc : Nat} {ls : Array Slot} {rest : List Value} {D : va_G} {cl : List vw_C} {A : Nat → Prop} {a : Nat} {tys : List (ClassId × FieldType)} {ws : va_W} {H0 : Heap}
/-! the kit's rows of stores (va_put, va_putN, va_putF, va_iast, va_astq), with the heap's size told -/
theorem wa_put (hexec : p.tables.exec = Jvm.exec) (hb : c.code = cc) {own ref C : String} {T : u_T} {N ci index : Nat} {Ts : List Cond} (hts : ∀ w ∈ Ts, w.before args s = true) (hin : ∀ w ∈ u_ws C T N, w ∈ Ts) (ty0 : Nat → FieldType) (hty : ∀ k, k < N → parseFieldDescriptor (T k).2.2.1 = some (ty0 k)) (hnm : ∀ a, a < N → ∀ b, b < N → a ≠ b → (T a).2.1 ≠ (T b).2.1) (hown : s.vm.findClass own = some m.cls) (hK : va_K D cl tys s) (hP : va_P D cl ws H) (hD : va_D A ws) (hS0 : va_S A H0 H locs) (q0 : Nat) {fs : List Value} (he : ws[q0]? = some (a, .inr (ci, fs))) (hc : cl[ci]? = some (C, T, N)) (k : Nat) (hk : k < N) (hlink : (Cond.fieldLink own index ref (T k).2.1 (T k).2.2.1).before args s = true) (hsame : ∀ x, s.fieldFound? (T k).1 (T k).2.1 (T k).2.2.1 = some x → s.fieldFound? ref (T k).2.1 (T k).2.2.1 = some x) (hfin : (T k).2.2.2 = false) {ty : FieldType} {v : Value} (hd : parseFieldDescriptor (T k).2.2.1 = some ty) (hn : narrow ty v = v) (hfit : fits ty v = true) (hl : k < fs.length)
    (hdg : decode cc pc = .ok (.putfield index, 3)) (kk : ∀ (H1 : Heap) (locs1 : List Loc), va_P D cl (ws.set q0 (a, .inr (ci, fs.set k v))) H1 → va_D A (ws.set q0 (a, .inr (ci, fs.set k v))) → va_S A H0 H1 locs1 → H1.size = H.size → W p l e R s m args below meth c H1 locs1 cells slots Q (F0 m (pc + 3) ls rest)) : W p l e R s m args below meth c H locs cells slots Q (F0 m pc ls (v :: .ref a :: rest)) := by
  have hap := va_apart (own := own) hts hin ty0 hty hnm hK hc
  obtain ⟨r, h1, cell, q1, q2, q3, q4⟩ := hP q0 _ he
  have hr : r = (C, T, N) := Option.some.inj (h1.symm.trans hc)
  subst hr
  obtain ⟨hS, hfc, kC, hkC, hkind⟩ := hK.1 ci _ hc
  obtain ⟨cf, kf, fi, f, hi, hsl⟩ := hS k hk
  have hlay := hts _ (hin _ (u_in_lay hk))
  unfold u_lay at hlay
  rw [if_neg (by rw [hfin]; decide)] at hlay
  have hst := (u_facts hfc hkC (u_lays hts hin hk) hi).1
  have h6 := u_store hfc hkC hkind hlay hi hd hn hfit
  refine W.putK hexec hb (f := f) ⟨hown, hlink, ⟨_, _, _, hsame _ hi⟩, hst⟩ (by rw [q2]; exact h6) q1 q3 (by rw [hsl]; exact k2_hasslot (q4 k hk)) rfl rfl hdg fun H' e1 e2 e3 => ?_
  rw [hsl] at e1 ⊢
  exact kk H' _ (hP.set hD he ⟨_, hc, t_OB.to (V := updV (vp_V fs) k v) ⟨_, e1, q2, q3, t_set q4 hap hk v⟩ (fun j _ => vp_updV_set hl v j)⟩ e3) (hD.set he) (hS0.put e2 e3 (hD.2 q0 _ he)) e2
theorem wa_putN (hexec : p.tables.exec = Jvm.exec) (hb : c.code = cc) {own ref C host : String} {T : u_T} {N ci index : Nat} {Ts : List Cond} (hts : ∀ w ∈ Ts, w.before args s = true) (hin : ∀ w ∈ u_ws C T N, w ∈ Ts) (ty0 : Nat → FieldType) (hty : ∀ k, k < N → parseFieldDescriptor (T k).2.2.1 = some (ty0 k)) (hnm : ∀ a, a < N → ∀ b, b < N → a ≠ b → (T a).2.1 ≠ (T b).2.1) (hown : s.vm.findClass own = some m.cls) (hK : va_K D cl tys s) (hP : va_P D cl ws H) (hD : va_D A ws) (hS0 : va_S A H0 H locs) (q0 : Nat) {fs : List Value} (he : ws[q0]? = some (a, .inr (ci, fs))) (hc : cl[ci]? = some (C, T, N)) (k : Nat) (hk : k < N) (hlink : (Cond.fieldLinkNest own index ref (T k).2.1 (T k).2.2.1 host).before args s = true) (hsame : ∀ x, s.fieldFound? (T k).1 (T k).2.1 (T k).2.2.1 = some x → s.fieldFound? ref (T k).2.1 (T k).2.2.1 = some x) (hfin : (T k).2.2.2 = false) {ty : FieldType} {v : Value} (hd : parseFieldDescriptor (T k).2.2.1 = some ty) (hn : narrow ty v = v) (hfit : fits ty v = true) (hl : k < fs.length)
    (hdg : decode cc pc = .ok (.putfield index, 3)) (kk : ∀ (H1 : Heap) (locs1 : List Loc), va_P D cl (ws.set q0 (a, .inr (ci, fs.set k v))) H1 → va_D A (ws.set q0 (a, .inr (ci, fs.set k v))) → va_S A H0 H1 locs1 → H1.size = H.size → W p l e R s m args below meth c H1 locs1 cells slots Q (F0 m (pc + 3) ls rest)) : W p l e R s m args below meth c H locs cells slots Q (F0 m pc ls (v :: .ref a :: rest)) := by
  have hap := va_apart (own := own) hts hin ty0 hty hnm hK hc
  obtain ⟨r, h1, cell, q1, q2, q3, q4⟩ := hP q0 _ he
  have hr : r = (C, T, N) := Option.some.inj (h1.symm.trans hc)
  subst hr
  obtain ⟨hS, hfc, kC, hkC, hkind⟩ := hK.1 ci _ hc
  obtain ⟨cf, kf, fi, f, hi, hsl⟩ := hS k hk
  have hlay := hts _ (hin _ (u_in_lay hk))
  unfold u_lay at hlay
  rw [if_neg (by rw [hfin]; decide)] at hlay
  have hst := (u_facts hfc hkC (u_lays hts hin hk) hi).1
  have h6 := u_store hfc hkC hkind hlay hi hd hn hfit
  refine va_WputK hexec hb (f := f) hown hlink (hsame _ hi) hst (by rw [q2]; exact h6) q1 q3 (by rw [hsl]; exact k2_hasslot (q4 k hk)) rfl rfl hdg fun H' e1 e2 e3 => ?_
  rw [hsl] at e1 ⊢
  exact kk H' _ (hP.set hD he ⟨_, hc, t_OB.to (V := updV (vp_V fs) k v) ⟨_, e1, q2, q3, t_set q4 hap hk v⟩ (fun j _ => vp_updV_set hl v j)⟩ e3) (hD.set he) (hS0.put e2 e3 (hD.2 q0 _ he)) e2
theorem wa_putF (hexec : p.tables.exec = Jvm.exec) (hb : c.code = cc) {own ref C : String} {T : u_T} {N ci index : Nat} {Ts : List Cond} (hts : ∀ w ∈ Ts, w.before args s = true) (hin : ∀ w ∈ u_ws C T N, w ∈ Ts) (ty0 : Nat → FieldType) (hty : ∀ k, k < N → parseFieldDescriptor (T k).2.2.1 = some (ty0 k)) (hnm : ∀ a, a < N → ∀ b, b < N → a ≠ b → (T a).2.1 ≠ (T b).2.1) (hown : s.vm.findClass own = some m.cls) (hK : va_K D cl tys s) (hP : va_P D cl ws H) (hD : va_D A ws) (hS0 : va_S A H0 H locs) (q0 : Nat) {fs : List Value} (he : ws[q0]? = some (a, .inr (ci, fs))) (hc : cl[ci]? = some (C, T, N)) (k : Nat) (hk : k < N) (hlink : (Cond.fieldLink own index ref (T k).2.1 (T k).2.2.1).before args s = true) (hsame : ∀ x, s.fieldFound? (T k).1 (T k).2.1 (T k).2.2.1 = some x → s.fieldFound? ref (T k).2.1 (T k).2.2.1 = some x) (hfin : (T k).2.2.2 = true) (hin2 : meth.name = "<init>") (hdecl : (T k).1 = own) {ty : FieldType} {v : Value} (hd : parseFieldDescriptor (T k).2.2.1 = some ty) (hn : narrow ty v = v) (hfit : fits ty v = true) (hl : k < fs.length)
    (hdg : decode cc pc = .ok (.putfield index, 3)) (kk : ∀ (H1 : Heap) (locs1 : List Loc), va_P D cl (ws.set q0 (a, .inr (ci, fs.set k v))) H1 → va_D A (ws.set q0 (a, .inr (ci, fs.set k v))) → va_S A H0 H1 locs1 → H1.size = H.size → W p l e R s m args below meth c H1 locs1 cells slots Q (F0 m (pc + 3) ls rest)) : W p l e R s m args below meth c H locs cells slots Q (F0 m pc ls (v :: .ref a :: rest)) := by
  have hap := va_apart (own := own) hts hin ty0 hty hnm hK hc
  obtain ⟨r, h1, cell, q1, q2, q3, q4⟩ := hP q0 _ he
  have hr : r = (C, T, N) := Option.some.inj (h1.symm.trans hc)
  subst hr
  obtain ⟨hS, hfc, kC, hkC, hkind⟩ := hK.1 ci _ hc
  obtain ⟨cf, kf, fi, f, hi, hsl⟩ := hS k hk
  have hlay := hts _ (hin _ (u_in_lay hk))
  unfold u_lay at hlay
  rw [if_pos hfin] at hlay
  have hst := (u_facts hfc hkC (u_lays hts hin hk) hi).1
  have hcf : m.cls = cf := by
    obtain ⟨_, _, c', _, _, _, -, -, hf', -, -, -, hown2, -⟩ := Cond.laysFinal_spec hlay
    have e1 : c' = cf := by have := hi.symm.trans hf'; simp at this; exact this.1.symm
    rw [hdecl] at hown2
    rw [← e1]; exact Option.some.inj (hown.symm.trans hown2)
  have h6 := u_fits hfc hkC hkind (Or.inr hlay) hi hd hn hfit
  refine W.putFinK hexec hb hown hlink (hsame _ hi) hst hcf hin2 (by rw [q2]; exact h6) q1 q3 (by rw [hsl]; exact k2_hasslot (q4 k hk)) rfl rfl hdg fun H' e1 e2 e3 => ?_
  rw [hsl] at e1 ⊢
  exact kk H' _ (hP.set hD he ⟨_, hc, t_OB.to (V := updV (vp_V fs) k v) ⟨_, e1, q2, q3, t_set q4 hap hk v⟩ (fun j _ => vp_updV_set hl v j)⟩ e3) (hD.set he) (hS0.put e2 e3 (hD.2 q0 _ he)) e2
theorem wa_iast (hexec : p.tables.exec = Jvm.exec) (hb : c.code = cc) (hK : va_K D cl tys s) (hP : va_P D cl ws H) (hD : va_D A ws) (hS : va_S A H0 H locs) (q0 t0 : Nat) {cA : ClassId} {n : Nat} {f : Nat → Int32} (ha : ws[q0]? = some (a, .inl (cA, n, .inl f))) (ht : tys[t0]? = some (cA, .int)) {i : Int32} {x : Int32} (hin : vp_in i n) (hdg : decode cc pc = .ok (.iastore, 1))
    (kk : ∀ (H1 : Heap) (locs1 : List Loc), va_P D cl (ws.set q0 (a, .inl (cA, n, .inl (upd f i.toNatClampNeg x)))) H1 → va_D A (ws.set q0 (a, .inl (cA, n, .inl (upd f i.toNatClampNeg x)))) → va_S A H0 H1 locs1 → H1.size = H.size → W p l e R s m args below meth c H1 locs1 cells slots Q (F0 m (pc + 1) ls rest)) : W p l e R s m args below meth c H locs cells slots Q (F0 m pc ls (.int x :: .int i :: .ref a :: rest)) := by
  refine W.iast hexec hb (hP q0 _ ha) ((hK.2 t0 _ ht).1 n (fun j => .int (f j))) (fun q => by cases q) (by show ¬ (i < 0 ∨ (arrV _ _ _).slots.size ≤ _); rw [arrV_size]; exact hin) rfl rfl hdg fun H1 e z oq => ?_
  refine kk H1 _ (hP.set hD ha ?_ oq) (hD.set ha) (hS.put z oq (hD.2 q0 _ ha)) z
  show H1[a]? = some (vp_cell _ _)
  rw [e]
  rw [vp_cell_i, vp_cell_i, arrV_store]
  congr 2
  funext q
  by_cases hq : q = i.toNatClampNeg
  · subst hq
    simp [updV, upd]
    
  · simp [updV, upd, hq]
theorem wa_astq (hexec : p.tables.exec = Jvm.exec) (hb : c.code = cc) (hK : va_K D cl tys s) (hP : va_P D cl ws H) (hD : va_D A ws) (hS : va_S A H0 H locs) (q0 t0 qk ci : Nat) {cA : ClassId} {r : vw_C} {n v : Nat} {vs : List Value} {f : Nat → Option Nat} (ha : ws[q0]? = some (a, .inl (cA, n, .inr (.inr (.inr (.inr f)))))) (ht : tys[t0]? = some (cA, .object r.1)) (hv : ws[qk]? = some (v, .inr (ci, vs))) (hc : cl[ci]? = some r) {i : Int32} (hin : vp_in i n) (hdg : decode cc pc = .ok (.aastore, 1))
    (kk : ∀ (H1 : Heap) (locs1 : List Loc), va_P D cl (ws.set q0 (a, .inl (cA, n, .inr (.inr (.inr (.inr (va_up f i.toNatClampNeg (some v)))))))) H1 → va_D A (ws.set q0 (a, .inl (cA, n, .inr (.inr (.inr (.inr (va_up f i.toNatClampNeg (some v)))))))) → va_S A H0 H1 locs1 → H1.size = H.size → W p l e R s m args below meth c H1 locs1 cells slots Q (F0 m (pc + 1) ls rest)) : W p l e R s m args below meth c H locs cells slots Q (F0 m pc ls (.ref v :: .int i :: .ref a :: rest)) := by
  have hlt : i.toNatClampNeg < n := Nat.not_le.mp fun q => hin (Or.inr q)
  have h0 : ¬ i < 0 := fun q => hin (Or.inl q)
  obtain ⟨r', hr', cellV, g1, g2, g3, -⟩ := hP qk _ hv
  have hcls := (hK.1 ci r hc).2
  obtain ⟨kA, comp, k1, k2, k3, -⟩ := (hK.2 t0 _ ht).2
  have hcomp : comp = D.1 ci := Option.some.inj (k3.symm.trans hcls.1)
  subst hcomp
  obtain ⟨kC, hkC, -⟩ := hcls.2
  refine W.aast hexec hb (hP q0 _ ha) (fun q h => by cases h) (fun h => by cases h) k1 k2 rfl hkC ⟨h0, by show _ < (arrV _ _ _).slots.size; rw [arrV_size]; exact hlt⟩ g1 (fun q h => by rw [g3] at h; cases h) (by rw [g2]; exact hkC) (by rw [g2]; exact va_assign hcls) rfl rfl hdg fun H1 e z oq => ?_
  refine kk H1 _ (hP.set hD ha ?_ oq) (hD.set ha) (hS.put z oq (hD.2 q0 _ ha)) z
  show H1[a]? = some (vp_cell _ _)
  rw [e]
  rw [vp_cell_q, vp_cell_q, arrV_store]
  congr 2
  funext q
  by_cases hq : q = i.toNatClampNeg
  · subst hq
    simp [updV, va_up, va_rf]
  · simp [updV, va_up, hq]
end Puts
