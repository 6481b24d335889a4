theorem la_of1 {w : Cond} (k : Nat) (h : tables_1_1[k]? = some w) : w ∈ lw_tbl := List.mem_append_right _ (List.mem_append_left _ (List.mem_of_getElem? h))
theorem la_of2 {w : Cond} (k : Nat) (h : tables_1_2[k]? = some w) : w ∈ lw_tbl := List.mem_append_right _ (List.mem_append_right _ (List.mem_append_left _ (List.mem_of_getElem? h)))
theorem la_of3 {w : Cond} (k : Nat) (h : tables_1_3[k]? = some w) : w ∈ lw_tbl := List.mem_append_right _ (List.mem_append_right _ (List.mem_append_right _ (List.mem_of_getElem? h)))
theorem la_gw {s : State} {b : Nat} (hts : ∀ w ∈ lw_tbl, w.before #[Value.ref b] s = true) : ∀ w ∈ gw_c :: gw_tbl, w.before #[Value.ref b] s = true :=
  List.forall_mem_cons.mpr ⟨hts _ (List.mem_filter.mp gw_0).1, fun w hw => hts w (List.mem_filter.mp hw).1⟩
/-- the classes' and the arrays' ids, and what the tables say of them -/
theorem la_env {s : State} {b : Nat} (hts : ∀ w ∈ lw_tbl, w.before #[Value.ref b] s = true) : ∃ D : va_G, kx_K D s := by
  have hg := la_gw hts
  obtain ⟨c0, i0, h0⟩ := u_known (C := "TouchSelect$MissedRows") (T := tt_Mi) (N := 3) (n := 3) hg (in_Mi gw_c) (hg _ (gw_in gw_79))
  obtain ⟨c1, i1, h1⟩ := u_known (C := "TouchSelect$Ranking") (T := tt_Ra) (N := 4) (n := 4) hg (in_Ra gw_c) (hg _ (gw_in gw_63))
  obtain ⟨c2, i2, h2⟩ := u_known (C := "TouchSelect$Selection") (T := tt_Se) (N := 4) (n := 4) hg (in_Se gw_c) (hg _ (gw_in gw_46))
  obtain ⟨c3, i3, h3⟩ := u_known (C := "TouchSelect$Sources") (T := tt_So) (N := 6) (n := 6) hg (in_So gw_c) (hg _ (gw_in gw_19))
  obtain ⟨c4, i4, h4⟩ := u_known (C := "TouchSelect$TestRow") (T := tt_Tr) (N := 11) (n := 11) hg (in_Tr gw_c) (hg _ (gw_in gw_148))
  obtain ⟨c5, i5, h5⟩ := u_known (C := "TouchSelect") (T := tt_Ts) (N := 6) (n := 6) hg (in_Ts gw_c) (hg _ (gw_in gw_11))
  obtain ⟨c6, i6, h6⟩ := u_known (C := "TouchSelectModel") (T := tt_Mo) (N := 32) (n := 32) hg (in_Mo gw_c) (hg _ (gw_in gw_309))
  obtain ⟨x0, xk, xm, x1, x2, x3⟩ := Cond.arrayClass_spec (hg (.arrayClass .int) (gw_in gw_43))
  obtain ⟨y0, yk, ym, y1, y2, y3⟩ := Cond.arrayClass_spec (hg (.arrayClass .boolean) (gw_in gw_42))
  obtain ⟨z0, zk, zm, z1, z2, z3⟩ := Cond.arrayClass_spec (hg (.arrayClass .long) (gw_in gw_41))
  obtain ⟨om, o0, ok, o1, o2, o3, o4, o5⟩ := Cond.arrayOver_spec (hts (.arrayOver (.object "TouchSelect$TestRow")) (la_of1 53 rfl))
  refine ⟨(fun k => match k with | 0 => c0 | 1 => c1 | 2 => c2 | 3 => c3 | 4 => c4 | 5 => c5 | 6 => c6 | 100 => x0 | 101 => y0 | 102 => z0 | 103 => o0 | _ => c0, fun k => match k with | 0 => i0 | 1 => i1 | 2 => i2 | 3 => i3 | 4 => i4 | 5 => i5 | 6 => i6 | _ => i0), ⟨fun k q hq => ?_, fun k q hq => ?_⟩, va_AO.of (hts (.arrayOver (.object "TouchSelect$TestRow")) (la_of1 53 rfl)), va_Nw.of rfl (hts _ (la_of1 20 rfl)), va_Nw.of rfl (hts _ (la_of1 56 rfl)), va_Nw.of rfl (hts _ (la_of1 79 rfl)), va_Nw.of rfl (hts _ (la_of1 101 rfl))⟩
  · match k, hq with
    | 0, hq => cases hq; exact h0
    | 1, hq => cases hq; exact h1
    | 2, hq => cases hq; exact h2
    | 3, hq => cases hq; exact h3
    | 4, hq => cases hq; exact h4
    | 5, hq => cases hq; exact h5
    | 6, hq => cases hq; exact h6
    | k + 7, hq => simp [vwCl] at hq
  · match k, hq with
    | 0, hq => obtain rfl := Option.some.inj (show some (x0, FieldType.int) = some q from hq); exact ⟨fun n z => ⟨fun k h => (by cases h), xk, x2, _, x3⟩, x1⟩
    | 1, hq => obtain rfl := Option.some.inj (show some (y0, FieldType.boolean) = some q from hq); exact ⟨fun n z => ⟨fun k h => (by cases h), yk, y2, _, y3⟩, y1⟩
    | 2, hq => obtain rfl := Option.some.inj (show some (z0, FieldType.long) = some q from hq); exact ⟨fun n z => ⟨fun k h => (by cases h), zk, z2, _, z3⟩, z1⟩
    | 3, hq => obtain rfl := Option.some.inj (show some (o0, FieldType.object "TouchSelect$TestRow") = some q from hq); exact ⟨fun n z => ⟨fun k h => (by cases h), ok, o3, om, o4⟩, ok, om, o3, o4, o1, o5⟩
    | k + 4, hq => simp [kx_tys] at hq
