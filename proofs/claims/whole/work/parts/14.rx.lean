/-! rx: the rows of the class's tests: any number of them, four cells each -/
abbrev rx_T : Type := Nat × Nat × Int64 × Int64 × Bool × Int64 × Int64 × Nat × (Nat → Int64) × (Nat → Int64) × (Nat → Nat)
abbrev rx_A : Type := Nat × Nat × Nat × Nat
def rx_ws (D : va_G) (a : rx_A) (u : rx_T) : va_W := [(a.1, .inr (4, [.int (nI u.1), .int (nI u.2.1), .long u.2.2.1, .long u.2.2.2.1, .int (kx_b u.2.2.2.2.1), .long u.2.2.2.2.2.1, .long u.2.2.2.2.2.2.1, .ref a.2.1, .ref a.2.2.1, .int (nI u.2.2.2.2.2.2.2.1), .ref a.2.2.2])), (a.2.1, .inl (D.1 102, 20, .inr (.inl u.2.2.2.2.2.2.2.2.1))), (a.2.2.1, .inl (D.1 102, 40, .inr (.inl u.2.2.2.2.2.2.2.2.2.1))), (a.2.2.2, .inl (D.1 100, 20, .inl (kx_ni u.2.2.2.2.2.2.2.2.2.2)))]
def rx_rows (D : va_G) (ra : Nat → rx_A) (u : Nat → rx_T) : Nat → va_W
  | 0 => []
  | n + 1 => rx_rows D ra u n ++ rx_ws D (ra n) (u n)
/-- all rows but the i-th -/
def rx_rowsE (D : va_G) (ra : Nat → rx_A) (u : Nat → rx_T) (i : Nat) : Nat → va_W
  | 0 => []
  | n + 1 => rx_rowsE D ra u i n ++ if n = i then [] else rx_ws D (ra n) (u n)
theorem va_P_perm {D : va_G} {cl : List vw_C} {ws ws' : va_W} {H : Heap} (h : ws.Perm ws') (hP : va_P D cl ws H) : va_P D cl ws' H := fun k q hk => by
  have h1 : q ∈ ws := h.mem_iff.mpr (List.mem_of_getElem? hk)
  obtain ⟨j, hj⟩ := List.getElem?_of_mem h1
  exact hP j q hj
theorem va_D_nodup {A : Nat → Prop} {ws : va_W} : va_D A ws ↔ (ws.map Prod.fst).Nodup ∧ ∀ q ∈ ws, A q.1 := by
  constructor
  · intro h
    refine ⟨?_, fun q hq => ?_⟩
    · refine List.pairwise_iff_getElem.mpr ?_
      intro i j hi hj hij heq
      rw [List.getElem_map, List.getElem_map] at heq
      rw [List.length_map] at hi hj
      have := h.1 i j _ _ (List.getElem?_eq_getElem hi) (List.getElem?_eq_getElem hj) heq
      omega
    · obtain ⟨j, hj⟩ := List.getElem?_of_mem hq
      exact h.2 j q hj
  · rintro ⟨h1, h2⟩
    refine ⟨fun i j p q hi hj e => ?_, fun k q hk => h2 q (List.mem_of_getElem? hk)⟩
    have h1 := List.pairwise_iff_getElem.mp h1
    obtain ⟨li, ei⟩ := List.getElem?_eq_some_iff.mp hi
    obtain ⟨lj, ej⟩ := List.getElem?_eq_some_iff.mp hj
    rcases Nat.lt_trichotomy i j with q1 | q1 | q1
    · exact absurd (by rw [List.getElem_map, List.getElem_map, ei, ej]; exact e) (h1 i j (by rw [List.length_map]; exact li) (by rw [List.length_map]; exact lj) q1)
    · exact q1
    · exact absurd (by rw [List.getElem_map, List.getElem_map, ei, ej]; exact e.symm) (h1 j i (by rw [List.length_map]; exact lj) (by rw [List.length_map]; exact li) q1)
theorem va_D_perm {A : Nat → Prop} {ws ws' : va_W} (h : ws.Perm ws') (hD : va_D A ws) : va_D A ws' := by
  rw [va_D_nodup] at hD ⊢
  exact ⟨(h.map Prod.fst).nodup_iff.mp hD.1, fun q hq => hD.2 q (h.mem_iff.mpr hq)⟩
theorem rx_rowsE_ge {D : va_G} {ra : Nat → rx_A} {u : Nat → rx_T} {i : Nat} : ∀ n, n ≤ i → rx_rowsE D ra u i n = rx_rows D ra u n
  | 0, _ => rfl
  | n + 1, h => by
    show rx_rowsE D ra u i n ++ (if n = i then [] else rx_ws D (ra n) (u n)) = rx_rows D ra u n ++ rx_ws D (ra n) (u n)
    rw [rx_rowsE_ge n (by omega), if_neg (by omega)]
theorem rx_perm {D : va_G} {ra : Nat → rx_A} {u : Nat → rx_T} {i : Nat} : ∀ n, i < n → (rx_rows D ra u n).Perm (rx_ws D (ra i) (u i) ++ rx_rowsE D ra u i n)
  | 0, h => absurd h (by omega)
  | n + 1, h => by
    show (rx_rows D ra u n ++ rx_ws D (ra n) (u n)).Perm (rx_ws D (ra i) (u i) ++ (rx_rowsE D ra u i n ++ (if n = i then [] else rx_ws D (ra n) (u n))))
    by_cases q : n = i
    · subst q
      rw [if_pos rfl, List.append_nil, rx_rowsE_ge n (Nat.le_refl _)]
      exact List.perm_append_comm
    · rw [if_neg q, ← List.append_assoc]
      exact (rx_perm n (by omega)).append_right _
theorem rx_rowsE_up {D : va_G} {ra : Nat → rx_A} {u : Nat → rx_T} {i : Nat} {v : rx_T} : ∀ n, rx_rowsE D ra (va_up u i v) i n = rx_rowsE D ra u i n
  | 0 => rfl
  | n + 1 => by
    show rx_rowsE D ra (va_up u i v) i n ++ (if n = i then [] else rx_ws D (ra n) (va_up u i v n)) = rx_rowsE D ra u i n ++ (if n = i then [] else rx_ws D (ra n) (u n))
    rw [rx_rowsE_up n]
    by_cases q : n = i
    · rw [if_pos q, if_pos q]
    · rw [if_neg q, if_neg q, va_up_ne u v q]
theorem rx_permX {D : va_G} {ra : Nat → rx_A} {u : Nat → rx_T} {i n : Nat} {X : va_W} (h : i < n) : (X ++ rx_rows D ra u n).Perm ((X ++ rx_ws D (ra i) (u i)) ++ rx_rowsE D ra u i n) := by
  rw [List.append_assoc]
  exact (rx_perm n h).append_left X
theorem rx_openP {D : va_G} {cl : List vw_C} {H : Heap} {ra : Nat → rx_A} {u : Nat → rx_T} {i n : Nat} {X : va_W} (h : i < n) (hP : va_P D cl (X ++ rx_rows D ra u n) H) : va_P D cl ((X ++ rx_ws D (ra i) (u i)) ++ rx_rowsE D ra u i n) H := va_P_perm (rx_permX h) hP
theorem rx_openD {D : va_G} {A : Nat → Prop} {ra : Nat → rx_A} {u : Nat → rx_T} {i n : Nat} {X : va_W} (h : i < n) (hD : va_D A (X ++ rx_rows D ra u n)) : va_D A ((X ++ rx_ws D (ra i) (u i)) ++ rx_rowsE D ra u i n) := va_D_perm (rx_permX h) hD
theorem rx_permY {D : va_G} {ra : Nat → rx_A} {u : Nat → rx_T} {i n : Nat} {X : va_W} {v : rx_T} (h : i < n) : ((X ++ rx_ws D (ra i) v) ++ rx_rowsE D ra u i n).Perm (X ++ rx_rows D ra (va_up u i v) n) := by
  have h1 := rx_permX (D := D) (ra := ra) (u := va_up u i v) (X := X) h
  rw [rx_rowsE_up, va_up_self] at h1
  exact h1.symm
theorem rx_closeP {D : va_G} {cl : List vw_C} {H : Heap} {ra : Nat → rx_A} {u : Nat → rx_T} {i n : Nat} {X : va_W} {v : rx_T} (h : i < n) (hP : va_P D cl ((X ++ rx_ws D (ra i) v) ++ rx_rowsE D ra u i n) H) : va_P D cl (X ++ rx_rows D ra (va_up u i v) n) H := va_P_perm (rx_permY h) hP
theorem rx_closeD {D : va_G} {A : Nat → Prop} {ra : Nat → rx_A} {u : Nat → rx_T} {i n : Nat} {X : va_W} {v : rx_T} (h : i < n) (hD : va_D A ((X ++ rx_ws D (ra i) v) ++ rx_rowsE D ra u i n)) : va_D A (X ++ rx_rows D ra (va_up u i v) n) := va_D_perm (rx_permY h) hD
theorem rx_rows_congr {D : va_G} {ra ra' : Nat → rx_A} {u u' : Nat → rx_T} : ∀ n, (∀ j, j < n → ra' j = ra j ∧ u' j = u j) → rx_rows D ra' u' n = rx_rows D ra u n
  | 0, _ => rfl
  | n + 1, h => by
    show rx_rows D ra' u' n ++ rx_ws D (ra' n) (u' n) = rx_rows D ra u n ++ rx_ws D (ra n) (u n)
    rw [rx_rows_congr n (fun j hj => h j (by omega)), (h n (by omega)).1, (h n (by omega)).2]
theorem rx_permA {D : va_G} {ra : Nat → rx_A} {u : Nat → rx_T} {n : Nat} {X : va_W} {a : rx_A} {v : rx_T} : ((X ++ rx_ws D a v) ++ rx_rows D ra u n).Perm (X ++ rx_rows D (va_up ra n a) (va_up u n v) (n + 1)) := by
  have e : rx_rows D (va_up ra n a) (va_up u n v) (n + 1) = rx_rows D ra u n ++ rx_ws D a v := by
    show rx_rows D (va_up ra n a) (va_up u n v) n ++ rx_ws D (va_up ra n a n) (va_up u n v n) = _
    rw [va_up_self, va_up_self, rx_rows_congr (ra := ra) (u := u) n (fun j hj => ⟨va_up_ne _ _ (by omega), va_up_ne _ _ (by omega)⟩)]
  rw [e, List.append_assoc]
  exact List.perm_append_comm.append_left X
theorem rx_addP {D : va_G} {cl : List vw_C} {H : Heap} {ra : Nat → rx_A} {u : Nat → rx_T} {n : Nat} {X : va_W} {a : rx_A} {v : rx_T} (hP : va_P D cl ((X ++ rx_ws D a v) ++ rx_rows D ra u n) H) : va_P D cl (X ++ rx_rows D (va_up ra n a) (va_up u n v) (n + 1)) H := va_P_perm rx_permA hP
theorem rx_addD {D : va_G} {A : Nat → Prop} {ra : Nat → rx_A} {u : Nat → rx_T} {n : Nat} {X : va_W} {a : rx_A} {v : rx_T} (hD : va_D A ((X ++ rx_ws D a v) ++ rx_rows D ra u n)) : va_D A (X ++ rx_rows D (va_up ra n a) (va_up u n v) (n + 1)) := va_D_perm rx_permA hD
/-- a test's row: what the class holds to -/
def rx_ok (u : rx_T) : Prop := u.2.2.2.2.2.2.2.1 ≤ 40 ∧ u.1 < 2 ^ 31 ∧ u.2.1 < 2 ^ 31
def rx_new (md tm : Nat) : rx_T := (md, tm, 0, 0, false, 0, 0, 0, fun _ => 0, fun _ => 0, fun _ => 0)
def rx_sg (u : rx_T) (d : Int64) : rx_T := (u.1, u.2.1, d, u.2.2.2.1, u.2.2.2.2.1, u.2.2.2.2.2.1, u.2.2.2.2.2.2.1, u.2.2.2.2.2.2.2.1, u.2.2.2.2.2.2.2.2.1, u.2.2.2.2.2.2.2.2.2.1, u.2.2.2.2.2.2.2.2.2.2)
def rx_rdS (u : rx_T) (r : Nat) : rx_T := (u.1, u.2.1, u.2.2.1, if px_bit u.2.2.2.1 r = false ∧ bc_cnt u.2.2.2.1 < 30 then u.2.2.2.1 ||| px_one r else u.2.2.2.1, u.2.2.2.2.1, u.2.2.2.2.2.1, u.2.2.2.2.2.2.1, u.2.2.2.2.2.2.2.1, u.2.2.2.2.2.2.2.2.1, u.2.2.2.2.2.2.2.2.2.1, u.2.2.2.2.2.2.2.2.2.2)
def rx_rdV (u : rx_T) (r : Nat) : Int32 := if px_bit u.2.2.2.1 r = true then 0 else if bc_cnt u.2.2.2.1 < 30 then 1 else -1
def rx_rdA (tn : Nat) (p0 : Int32) (u : Nat → rx_T) (o : Option Nat) : Int32 := if px_has tn p0 = true then (match o with | none => -1 | some r => rx_rdV (u (px_ix p0)) r) else -1
def rx_rdU (tn : Nat) (p0 : Int32) (u : Nat → rx_T) (o : Option Nat) : Nat → rx_T := if px_has tn p0 = true then (match o with | none => u | some r => va_up u (px_ix p0) (rx_rdS (u (px_ix p0)) r)) else u
def rx_out (rs fn : Nat → Int64) (nc : Nat) (td : Nat → Bool) (f : Bool) (u : rx_T) : rx_T := (u.1, u.2.1, u.2.2.1, 0, true, u.2.2.2.1, u.2.2.1, nc, px_mix rs u.2.2.2.2.2.2.2.2.1 20, px_mix fn u.2.2.2.2.2.2.2.2.2.1 40, if f = true then px_fail u.2.2.2.2.2.2.2.2.2.2 td 20 else u.2.2.2.2.2.2.2.2.2.2)
def rx_rr (rs fn : Nat → Int64) (fo : Nat → Nat) (nc : Nat) (u : rx_T) : Nat → Nat := px_rr u.1 u.2.2.2.2.2.2.2.2.1 rs u.2.2.2.2.2.2.2.2.2.1 fn fo u.2.2.2.2.2.2.2.1 nc
def rx_fr (rs fn : Nat → Int64) (fo : Nat → Nat) (nc : Nat) (u : rx_T) : Nat := px_fr (px_bit u.2.2.2.2.2.1) (px_rr u.1 u.2.2.2.2.2.2.2.2.1 rs u.2.2.2.2.2.2.2.2.2.1 fn fo u.2.2.2.2.2.2.2.1 nc) 60
def rx_ch (rs fn : Nat → Int64) (fo : Nat → Nat) (nc : Nat) (u : rx_T) : Nat := px_ch (px_bit u.2.2.2.2.2.1) (px_rr u.1 u.2.2.2.2.2.2.2.2.1 rs u.2.2.2.2.2.2.2.2.2.1 fn fo u.2.2.2.2.2.2.2.1 nc) 60
def rx_why (rs fn : Nat → Int64) (fo : Nat → Nat) (nc : Nat) (u : rx_T) : Nat := px_why u.1 u.2.2.2.2.1 u.2.2.1 u.2.2.2.2.2.2.1 (px_fr (px_bit u.2.2.2.2.2.1) (px_rr u.1 u.2.2.2.2.2.2.2.2.1 rs u.2.2.2.2.2.2.2.2.2.1 fn fo u.2.2.2.2.2.2.2.1 nc) 60)
def rx_sh (tc : Nat → Bool) (u : rx_T) : Nat := px_sum u.2.2.2.2.2.2.2.2.2.2 tc 20
/-- a selection as it grows: members, their number; those that may become extras (tests, shares, times, their number) -/
abbrev px_S : Type := (Nat → Nat) × Nat × (Nat → Nat) × (Nat → Nat) × (Nat → Nat) × Nat
def px_gg (w : px_S) (hs tm : Nat) : Nat → Bool := fun j => decide (w.2.2.2.1 j * tm < hs * w.2.2.2.2.1 j)
def px_stp (wy hs tm i : Nat) (w : px_S) : px_S :=
  if wy ≠ 0 then (va_up w.1 w.2.1 i, w.2.1 + 1, w.2.2)
  else if 0 < hs then (w.1, w.2.1, px_ins w.2.2.1 (px_pos (px_gg w hs tm) w.2.2.2.2.2) w.2.2.2.2.2 i, px_ins w.2.2.2.1 (px_pos (px_gg w hs tm) w.2.2.2.2.2) w.2.2.2.2.2 hs, px_ins w.2.2.2.2.1 (px_pos (px_gg w hs tm) w.2.2.2.2.2) w.2.2.2.2.2 tm, w.2.2.2.2.2 + 1)
  else w
def px_run (wy hs tm : Nat → Nat) (w : px_S) : Nat → px_S
  | 0 => w
  | i + 1 => px_stp (wy i) (hs i) (tm i) i (px_run wy hs tm w i)
/-- what of the budget is left, and the members, behind the first i that may be extras -/
def px_tk (rt ri : Nat → Nat) (b : Nat) (mb : Nat → Nat) (sn : Nat) : Nat → Nat × (Nat → Nat) × Nat
  | 0 => (b, mb, sn)
  | i + 1 => if ri i ≤ (px_tk rt ri b mb sn i).1 then ((px_tk rt ri b mb sn i).1 - ri i, (if (px_tk rt ri b mb sn i).2.2 < 24 then va_up (px_tk rt ri b mb sn i).2.1 (px_tk rt ri b mb sn i).2.2 (rt i) else (px_tk rt ri b mb sn i).2.1), (if (px_tk rt ri b mb sn i).2.2 < 24 then (px_tk rt ri b mb sn i).2.2 + 1 else (px_tk rt ri b mb sn i).2.2)) else px_tk rt ri b mb sn i
theorem px_tk_le {rt ri mb : Nat → Nat} {b sn : Nat} : ∀ i, (px_tk rt ri b mb sn i).1 ≤ b
  | 0 => Nat.le_refl _
  | i + 1 => by
    have h := px_tk_le (rt := rt) (ri := ri) (mb := mb) (b := b) (sn := sn) i
    unfold px_tk
    split
    · exact Nat.le_trans (Nat.sub_le _ _) h
    · exact h
theorem px_tk_sn {rt ri mb : Nat → Nat} {b sn : Nat} (hs : sn ≤ 24) : ∀ i, (px_tk rt ri b mb sn i).2.2 ≤ 24
  | 0 => hs
  | i + 1 => by
    have h := px_tk_sn (rt := rt) (ri := ri) (mb := mb) (b := b) hs i
    unfold px_tk
    split
    · show (if (px_tk rt ri b mb sn i).2.2 < 24 then (px_tk rt ri b mb sn i).2.2 + 1 else (px_tk rt ri b mb sn i).2.2) ≤ 24
      split <;> omega
    · exact h
/-- what holds of a selection as it grows, behind i tests -/
def px_okS (w : px_S) (i : Nat) : Prop := w.2.1 ≤ i ∧ w.2.2.2.2.2 ≤ i ∧ ∀ j, j < w.2.2.2.2.2 → w.2.2.2.1 j < 2 ^ 31 ∧ w.2.2.2.2.1 j < 2 ^ 31
theorem rx_backP {D : va_G} {cl : List vw_C} {H : Heap} {ra : Nat → rx_A} {u : Nat → rx_T} {i n : Nat} {X : va_W} (h : i < n) (hP : va_P D cl ((X ++ rx_ws D (ra i) (u i)) ++ rx_rowsE D ra u i n) H) : va_P D cl (X ++ rx_rows D ra u n) H := va_P_perm (rx_permX h).symm hP
theorem rx_backD {D : va_G} {A : Nat → Prop} {ra : Nat → rx_A} {u : Nat → rx_T} {i n : Nat} {X : va_W} (h : i < n) (hD : va_D A ((X ++ rx_ws D (ra i) (u i)) ++ rx_rowsE D ra u i n)) : va_D A (X ++ rx_rows D ra u n) := va_D_perm (rx_permX h).symm hD
theorem px_why_lt {md : Nat} {hr : Bool} {sg ks : Int64} {x : Nat} (h : x < 7) : px_why md hr sg ks x < 7 := by
  unfold px_why
  repeat' split
  all_goals omega
theorem rx_why_lt (rs fn : Nat → Int64) (fo : Nat → Nat) (nc : Nat) (u : rx_T) : rx_why rs fn fo nc u < 7 := px_why_lt (px_fr_lt (fun _ => px_rr_lt) 60)
theorem px_ins_lt {f : Nat → Nat} {q n x b : Nat} (hq : q ≤ n) (hf : ∀ j, j < n → f j < b) (hx : x < b) : ∀ j, j < n + 1 → px_ins f q n x j < b := by
  intro j hj
  unfold px_ins
  by_cases h1 : j < q
  · rw [if_pos h1]; exact hf j (by omega)
  · rw [if_neg h1]
    by_cases h2 : j = q
    · rw [if_pos h2]; exact hx
    · rw [if_neg h2, if_pos (by omega)]; exact hf _ (by omega)
theorem px_okS_s {w : px_S} {wy hs tm i : Nat} (h : px_okS w i) (h1 : hs < 2 ^ 31) (h2 : tm < 2 ^ 31) : px_okS (px_stp wy hs tm i w) (i + 1) := by
  obtain ⟨a, b, c⟩ := h
  unfold px_stp
  split
  · exact ⟨Nat.succ_le_succ a, Nat.le_succ_of_le b, c⟩
  · split
    · refine ⟨Nat.le_succ_of_le a, Nat.succ_le_succ b, fun j hj => ⟨?_, ?_⟩⟩
      · exact px_ins_lt (px_pos_le _ _) (fun k hk => (c k hk).1) h1 j hj
      · exact px_ins_lt (px_pos_le _ _) (fun k hk => (c k hk).2) h2 j hj
    · exact ⟨Nat.le_succ_of_le a, Nat.le_succ_of_le b, c⟩
theorem px_tk_y {rt ri mb : Nat → Nat} {b sn i : Nat} (h : ri i ≤ (px_tk rt ri b mb sn i).1) : px_tk rt ri b mb sn (i + 1) = ((px_tk rt ri b mb sn i).1 - ri i, (if (px_tk rt ri b mb sn i).2.2 < 24 then va_up (px_tk rt ri b mb sn i).2.1 (px_tk rt ri b mb sn i).2.2 (rt i) else (px_tk rt ri b mb sn i).2.1), (if (px_tk rt ri b mb sn i).2.2 < 24 then (px_tk rt ri b mb sn i).2.2 + 1 else (px_tk rt ri b mb sn i).2.2)) := if_pos h
theorem px_tk_n {rt ri mb : Nat → Nat} {b sn i : Nat} (h : (px_tk rt ri b mb sn i).1 < ri i) : px_tk rt ri b mb sn (i + 1) = px_tk rt ri b mb sn i := if_neg (by omega)
