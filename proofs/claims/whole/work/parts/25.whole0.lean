theorem st_lays : Cond.laysStatic Bundle.tN UAq Bundle.steD ∈ lw_tbl ∧ Cond.laysStatic Bundle.tN SSq Bundle.listD ∈ lw_tbl ∧ Cond.initialized Bundle.tN ∈ lw_tbl := ⟨List.mem_append_right _ (List.mem_of_getElem? (i := 731) (by decide +kernel)), List.mem_append_right _ (List.mem_of_getElem? (i := 733) (by decide +kernel)), List.mem_append_right _ (List.mem_of_getElem? (i := 13) (by decide +kernel))⟩
theorem st_ao : Cond.arrayOver (.object RX2) ∈ lw_tbl ∧ Cond.arrayOver (.object RX6) ∈ lw_tbl ∧ Cond.arrayOver (.object RX7) ∈ lw_tbl := ⟨List.mem_append_right _ (List.mem_of_getElem? (i := 70) (by decide +kernel)), List.mem_append_right _ (List.mem_of_getElem? (i := 174) (by decide +kernel)), List.mem_append_right _ (List.mem_of_getElem? (i := 167) (by decide +kernel))⟩
theorem st_str : ∀ q ∈ strL, Cond.stringRef RX10 q.1 q.2 ∈ lw_tbl := by
  intro q hq
  simp only [strL, List.mem_cons, List.not_mem_nil, or_false] at hq
  rcases hq with rfl | rfl | rfl | rfl | rfl | rfl | rfl | rfl | rfl | rfl | rfl | rfl | rfl | rfl | rfl
  · exact List.mem_append_right _ (List.mem_of_getElem? (i := 748) (by decide +kernel))
  · exact List.mem_append_right _ (List.mem_of_getElem? (i := 784) (by decide +kernel))
  · exact List.mem_append_right _ (List.mem_of_getElem? (i := 802) (by decide +kernel))
  · exact List.mem_append_right _ (List.mem_of_getElem? (i := 843) (by decide +kernel))
  · exact List.mem_append_right _ (List.mem_of_getElem? (i := 847) (by decide +kernel))
  · exact List.mem_append_right _ (List.mem_of_getElem? (i := 858) (by decide +kernel))
  · exact List.mem_append_right _ (List.mem_of_getElem? (i := 890) (by decide +kernel))
  · exact List.mem_append_right _ (List.mem_of_getElem? (i := 923) (by decide +kernel))
  · exact List.mem_append_right _ (List.mem_of_getElem? (i := 929) (by decide +kernel))
  · exact List.mem_append_right _ (List.mem_of_getElem? (i := 955) (by decide +kernel))
  · exact List.mem_append_right _ (List.mem_of_getElem? (i := 976) (by decide +kernel))
  · exact List.mem_append_right _ (List.mem_of_getElem? (i := 1032) (by decide +kernel))
  · exact List.mem_append_right _ (List.mem_of_getElem? (i := 1111) (by decide +kernel))
  · exact List.mem_append_right _ (List.mem_of_getElem? (i := 1147) (by decide +kernel))
  · exact List.mem_append_right _ (List.mem_of_getElem? (i := 1157) (by decide +kernel))
theorem st_nw : ∀ w ∈ nwL, w ∈ lw_tbl := by
  intro w hw
  simp only [nwL, List.mem_cons, List.not_mem_nil, or_false] at hw
  rcases hw with rfl | rfl | rfl | rfl | rfl | rfl | rfl | rfl | rfl | rfl | rfl | rfl | rfl | rfl | rfl | rfl | rfl | rfl | rfl | rfl | rfl | rfl | rfl | rfl | rfl | rfl | rfl | rfl | rfl
  · exact List.mem_append_right _ (List.mem_of_getElem? (i := 40) (by decide +kernel))
  · exact List.mem_append_right _ (List.mem_of_getElem? (i := 42) (by decide +kernel))
  · exact List.mem_append_right _ (List.mem_of_getElem? (i := 44) (by decide +kernel))
  · exact List.mem_append_right _ (List.mem_of_getElem? (i := 35) (by decide +kernel))
  · exact List.mem_append_right _ (List.mem_of_getElem? (i := 320) (by decide +kernel))
  · exact List.mem_append_right _ (List.mem_of_getElem? (i := 219) (by decide +kernel))
  · exact List.mem_append_right _ (List.mem_of_getElem? (i := 287) (by decide +kernel))
  · exact List.mem_append_right _ (List.mem_of_getElem? (i := 541) (by decide +kernel))
  · exact List.mem_append_right _ (List.mem_of_getElem? (i := 558) (by decide +kernel))
  · exact List.mem_append_right _ (List.mem_of_getElem? (i := 72) (by decide +kernel))
  · exact List.mem_append_right _ (List.mem_of_getElem? (i := 1010) (by decide +kernel))
  · exact List.mem_append_right _ (List.mem_of_getElem? (i := 329) (by decide +kernel))
  · exact List.mem_append_right _ (List.mem_of_getElem? (i := 600) (by decide +kernel))
  · exact List.mem_append_right _ (List.mem_of_getElem? (i := 974) (by decide +kernel))
  · exact List.mem_append_right _ (List.mem_of_getElem? (i := 975) (by decide +kernel))
  · exact List.mem_append_right _ (List.mem_of_getElem? (i := 176) (by decide +kernel))
  · exact List.mem_append_right _ (List.mem_of_getElem? (i := 658) (by decide +kernel))
  · exact List.mem_append_right _ (List.mem_of_getElem? (i := 921) (by decide +kernel))
  · exact List.mem_append_right _ (List.mem_of_getElem? (i := 922) (by decide +kernel))
  · exact List.mem_append_right _ (List.mem_of_getElem? (i := 526) (by decide +kernel))
  · exact List.mem_append_right _ (List.mem_of_getElem? (i := 532) (by decide +kernel))
  · exact List.mem_append_right _ (List.mem_of_getElem? (i := 706) (by decide +kernel))
  · exact List.mem_append_right _ (List.mem_of_getElem? (i := 777) (by decide +kernel))
  · exact List.mem_append_right _ (List.mem_of_getElem? (i := 836) (by decide +kernel))
  · exact List.mem_append_right _ (List.mem_of_getElem? (i := 883) (by decide +kernel))
  · exact List.mem_append_right _ (List.mem_of_getElem? (i := 1140) (by decide +kernel))
  · exact List.mem_append_right _ (List.mem_of_getElem? (i := 708) (by decide +kernel))
  · exact List.mem_append_right _ (List.mem_of_getElem? (i := 710) (by decide +kernel))
  · exact List.mem_append_right _ (List.mem_of_getElem? (i := 712) (by decide +kernel))
set_option maxRecDepth 100000 in
theorem st_nc : ∀ q ∈ ncL, Cond.not (.castable q.1 q.2) ∈ flatC (Jvm.Cond.and given_1 narrow_1) := by
  intro q hq
  simp only [ncL, List.mem_cons, List.not_mem_nil, or_false] at hq
  rcases hq with rfl | rfl | rfl | rfl | rfl | rfl | rfl | rfl | rfl | rfl | rfl | rfl | rfl | rfl | rfl | rfl | rfl | rfl | rfl | rfl
  · exact List.mem_of_getElem? (i := 35) (by decide +kernel)
  · exact List.mem_of_getElem? (i := 52) (by decide +kernel)
  · exact List.mem_of_getElem? (i := 68) (by decide +kernel)
  · exact List.mem_of_getElem? (i := 85) (by decide +kernel)
  · exact List.mem_of_getElem? (i := 18) (by decide +kernel)
  · exact List.mem_of_getElem? (i := 53) (by decide +kernel)
  · exact List.mem_of_getElem? (i := 69) (by decide +kernel)
  · exact List.mem_of_getElem? (i := 86) (by decide +kernel)
  · exact List.mem_of_getElem? (i := 20) (by decide +kernel)
  · exact List.mem_of_getElem? (i := 37) (by decide +kernel)
  · exact List.mem_of_getElem? (i := 71) (by decide +kernel)
  · exact List.mem_of_getElem? (i := 88) (by decide +kernel)
  · exact List.mem_of_getElem? (i := 21) (by decide +kernel)
  · exact List.mem_of_getElem? (i := 38) (by decide +kernel)
  · exact List.mem_of_getElem? (i := 54) (by decide +kernel)
  · exact List.mem_of_getElem? (i := 89) (by decide +kernel)
  · exact List.mem_of_getElem? (i := 22) (by decide +kernel)
  · exact List.mem_of_getElem? (i := 39) (by decide +kernel)
  · exact List.mem_of_getElem? (i := 55) (by decide +kernel)
  · exact List.mem_of_getElem? (i := 72) (by decide +kernel)
set_option maxRecDepth 100000 in
theorem st_ref : Cond.isRef (.static Bundle.tN UAq Bundle.steD) ∈ flatC (Jvm.Cond.and given_1 narrow_1) ∧ Cond.isRef (.static Bundle.tN SSq Bundle.listD) ∈ flatC (Jvm.Cond.and given_1 narrow_1) := ⟨List.mem_of_getElem? (i := 4) (by decide +kernel), List.mem_of_getElem? (i := 5) (by decide +kernel)⟩
theorem li_all : ∀ j, j < 12 → Cond.instantiable (fCs j) (ntab j) ∈ UNI := fun j hj => match j, hj with
  | 0, _ => li_0.1
  | 1, _ => li_1.1
  | 2, _ => li_2.1
  | 3, _ => li_3.1
  | 4, _ => li_4.1
  | 5, _ => li_5.1
  | 6, _ => li_6.1
  | 7, _ => li_7.1
  | 8, _ => li_8.1
  | 9, _ => li_9.1
  | 10, _ => li_10.1
  | 11, _ => li_11.1
theorem uni_tbl {w : Cond} (h : w ∈ UNI) : w ∈ lw_tbl := (List.mem_filter.mp h).1
set_option maxHeartbeats 4000000 in
/-- the walk of the law's body, out of its predicate -/
theorem whole_of (hok : LawOK) {p : Program} {e : Env} {s : State} {m : MethodId} {below : List Frame} {meth : Method} {c : Code} (l : Launch) (hflags : l.flags = flags0) (hst : l.stackTraces = false) {b L : Nat} {xs : Nat → Int32} (hL : L ≤ 3072) (C0 : lw_At p s m meth c b L xs) : W p l e room_1 s m #[Value.ref b] below meth c s.heap [] 0 0 (lw_Z below #[Value.ref b] s) (entryFrame m ([Value.ref b] : List Value).toArray 9) := by
  obtain ⟨hx, hb, hr, hml, hown, hts0, hX, hbl, hlocks, hgv⟩ := C0
  have hts : ∀ w ∈ UNI, w.before #[Value.ref b] s = true := fun w hw => hts0 w (uni_tbl hw)
  have hcls : ∀ j, ∃ (cC : ClassId) (iS : Nat → Nat), j < 12 → u_Kn s (fCs j) (fT j) (ntab j) cC iS := by
    intro j
    by_cases hj : j < 12
    · obtain ⟨cC, iS, h⟩ := u_known (args := #[Value.ref b]) hts (hin_all j hj) (hts _ (li_all j hj))
      exact ⟨cC, iS, fun _ => h⟩
    · exact ⟨0, fun _ => 0, fun h => absurd h hj⟩
  have harr : ∀ t, ∃ cA : ClassId, t < 8 → ArrOfT s cA (atyL.getD t .int) ∧ va_RA s cA (atyL.getD t .int) := by
    intro t
    match t with
    | 0 => obtain ⟨cA, h⟩ := arr_ok (fun C => by intro w; cases w) (hts _ lar_char); exact ⟨cA, fun _ => h⟩
    | 1 => obtain ⟨cA, h⟩ := arr_ok (fun C => by intro w; cases w) (hts _ lar_int); exact ⟨cA, fun _ => h⟩
    | 2 => obtain ⟨cA, h⟩ := arr_ok (fun C => by intro w; cases w) (hts _ lar_long); exact ⟨cA, fun _ => h⟩
    | 3 => obtain ⟨cA, h⟩ := arr_ok (fun C => by intro w; cases w) (hts _ lar_boolean); exact ⟨cA, fun _ => h⟩
    | 4 => obtain ⟨cA, h⟩ := arrO_ok (hts0 _ st_ao.1); exact ⟨cA, fun _ => h⟩
    | 5 => obtain ⟨cA, h⟩ := arrO_ok (hts0 _ st_ao.2.1); exact ⟨cA, fun _ => h⟩
    | 6 => obtain ⟨cA, h⟩ := arrO_ok (hts0 _ st_ao.2.2); exact ⟨cA, fun _ => h⟩
    | 7 => obtain ⟨cA, h⟩ := arr_ok (fun C => by intro w; cases w) (hts _ lar_double); exact ⟨cA, fun _ => h⟩
    | t + 8 => exact ⟨0, fun h => absurd h (by omega)⟩
  obtain ⟨dC, hdC⟩ : ∃ f : Nat → ClassId, ∀ j, ∃ (iS : Nat → Nat), j < 12 → u_Kn s (fCs j) (fT j) (ntab j) (f j) iS := ⟨fun j => Classical.choose (hcls j), fun j => Classical.choose_spec (hcls j)⟩
  obtain ⟨dI, hdI⟩ : ∃ g : Nat → Nat → Nat, ∀ j, j < 12 → u_Kn s (fCs j) (fT j) (ntab j) (dC j) (g j) := ⟨fun j => Classical.choose (hdC j), fun j => Classical.choose_spec (hdC j)⟩
  obtain ⟨cy, hcy⟩ : ∃ f : Nat → ClassId, ∀ t, t < 8 → ArrOfT s (f t) (atyL.getD t .int) ∧ va_RA s (f t) (atyL.getD t .int) := ⟨fun t => Classical.choose (harr t), fun t => Classical.choose_spec (harr t)⟩
  have hK : va_K (dC, dI) kCl (tysL cy) s := by
    refine ⟨fun j q hq => ?_, fun t q hq => ?_⟩
    · have hj : j < 12 := by have := (List.getElem?_eq_some_iff.mp hq).1; simpa [kCl] using this
      rw [kCl_at hj] at hq
      cases hq
      exact hdI j hj
    · have ht : t < 8 := by have := (List.getElem?_eq_some_iff.mp hq).1; simpa [tysL] using this
      rw [tys_at ht] at hq
      cases hq
      exact hcy t ht
  have hA : ∀ a : Nat, a < s.heap.size → ¬ s.heap.size ≤ a := fun a h => Nat.not_le.mpr h
  have hZ1 : vx_Zq Bundle.tN UAq Bundle.steD (fun q => s.heap.size ≤ q) s s.heap := vx_Zqof (hts0 _ st_lays.1) (hts0 _ st_lays.2.2) (flat_of_before _ hgv _ st_ref.1) hA
  have hZ2 : vx_Zq Bundle.tN SSq Bundle.listD (fun q => s.heap.size ≤ q) s s.heap := vx_Zqof (hts0 _ st_lays.2.1) (hts0 _ st_lays.2.2) (flat_of_before _ hgv _ st_ref.2) hA
  have hstr : StrOK s := by
    refine ⟨fun q hq => ?_, fun w hw => va_Nw.of (nwL_ot w hw) (hts0 _ (st_nw w hw)), ⟨va_AO.of (hts0 _ st_ao.1), va_AO.of (hts0 _ st_ao.2.1), va_AO.of (hts0 _ st_ao.2.2)⟩, fun q hq => va_Nc.of (flat_of_before _ hgv _ (st_nc q hq))⟩
    have h1 := hts0 _ (st_str q hq)
    obtain ⟨k, cf, i, a, -, -, -, -, -, hev⟩ := Cond.stringRef_spec (hdI 10 (by decide)).2.1 h1
    have h2 : (Cond.stringRef RX10 q.1 q.2).before #[] s = true := h1
    obtain ⟨k', cf', i', a', -, -, -, -, -, hev'⟩ := Cond.stringRef_spec (hdI 10 (by decide)).2.1 h2
    exact ⟨a', h2, hev'⟩
  rw [lg_entry_eq]
  obtain ⟨X, hXe⟩ : ∃ X : Ctx, X = (p, l, e, room_1, s, m, #[Value.ref b], below, meth, c, lw_Z below #[Value.ref b] s, (dC, dI), cy, s.heap.size) := ⟨_, rfl⟩
  have E : EE X cL_law RL 9 1024 50000 300000 3000000 := by
    rw [hXe]
    exact ⟨hx, hb, hml, hown, hts, hK, Nat.le_of_ble_eq_true rfl, Nat.le_of_ble_eq_true rfl, Nat.le_of_ble_eq_true rfl, Nat.le_of_ble_eq_true rfl, hlocks, Nat.le_refl _, hZ1, hZ2, hst, hstr⟩
  have hSX : SX X b L xs := by
    rw [hXe]
    exact ⟨hX, hbl, Nat.not_le.mpr hbl⟩
  have hE : ENDi X cL_law .boolean (fun r u => isB r ∧ r = 1) NT 300000 3000000 := by
    rw [hXe]
    exact law_end hx hb hr hlocks
  have key : GC X 0 0 hp0 [some (.ref b), none, none, none, none, none, none, none, none] 0 [] :=
    t_L_start hp0 b 270 rfl rfl E (fun u hu => law_loop hL E hSX hE hu) (hok L xs hL)
  rw [hXe] at key
  refine key s.heap [] _ ⟨fun k q hk => by simp [wl] at hk, fun _ => rfl, fun w => absurd w (by decide), Nat.zero_le _⟩ va_S.rf ?_
  exact ent_P [Value.ref b] (Nat.le_of_ble_eq_true rfl)
