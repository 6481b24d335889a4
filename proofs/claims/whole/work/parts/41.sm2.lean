/-! sm2: the order of the extras: by insertion, and by taking the best again and again -/
/-- a is no worse than b: share a for its time against share b for its time -/
theorem sm_tr {a b c x y z : Nat} (hy : 0 < y) (h1 : b * x ≤ a * y) (h2 : c * y ≤ b * z) : c * x ≤ a * z := by
  have e1 : b * x * z ≤ a * y * z := Nat.mul_le_mul_right z h1
  have e2 : c * y * x ≤ b * z * x := Nat.mul_le_mul_right x h2
  have e3 : c * x * y ≤ a * z * y := by
    calc c * x * y = c * y * x := by rw [Nat.mul_assoc, Nat.mul_comm x y, ← Nat.mul_assoc]
      _ ≤ b * z * x := e2
      _ = b * x * z := by rw [Nat.mul_assoc, Nat.mul_comm z x, ← Nat.mul_assoc]
      _ ≤ a * y * z := e1
      _ = a * z * y := by rw [Nat.mul_assoc, Nat.mul_comm y z, ← Nat.mul_assoc]
  exact Nat.le_of_mul_le_mul_right e3 hy
theorem sm_tr_lt2 {a b c x y z : Nat} (hy : 0 < y) (hz : 0 < z) (h1 : b * x < a * y) (h2 : c * y ≤ b * z) : c * x < a * z := by
  have e1 : b * x * z < a * y * z := Nat.mul_lt_mul_of_pos_right h1 hz
  have e2 : c * y * x ≤ b * z * x := Nat.mul_le_mul_right x h2
  have e3 : c * x * y < a * z * y := by
    calc c * x * y = c * y * x := by rw [Nat.mul_assoc, Nat.mul_comm x y, ← Nat.mul_assoc]
      _ ≤ b * z * x := e2
      _ = b * x * z := by rw [Nat.mul_assoc, Nat.mul_comm z x, ← Nat.mul_assoc]
      _ < a * y * z := e1
      _ = a * z * y := by rw [Nat.mul_assoc, Nat.mul_comm y z, ← Nat.mul_assoc]
  exact Nat.lt_of_mul_lt_mul_right e3
/-- what the best of the unmarked is -/
theorem sm_best_spec {sh tm : Nat → Nat} {lk : Nat → Bool} (ht : ∀ t, 0 < tm t) : ∀ n, match mo_best sh tm lk n with
    | none => ∀ t, t < n → lk t = true ∨ sh t = 0
    | some b => b < n ∧ lk b = false ∧ sh b ≠ 0 ∧ ∀ t, t < n → lk t = false → sh t ≠ 0 → sh t * tm b ≤ sh b * tm t ∧ (t < b → sh t * tm b < sh b * tm t)
  | 0 => fun t h => absurd h (by omega)
  | n + 1 => by
    have ih := sm_best_spec (sh := sh) (lk := lk) ht n
    by_cases h1 : lk n = true ∨ sh n = 0
    · have e : mo_best sh tm lk (n + 1) = mo_best sh tm lk n := if_pos h1
      rw [e]
      cases q : mo_best sh tm lk n with
      | none =>
        rw [q] at ih
        intro t ht2
        rcases Nat.lt_or_ge t n with r | r
        · exact ih t r
        · rw [show t = n by omega]; exact h1
      | some b =>
        rw [q] at ih
        obtain ⟨i1, i2, i3, i4⟩ := ih
        refine ⟨by omega, i2, i3, fun t h2 h3 h4 => ?_⟩
        rcases Nat.lt_or_ge t n with r | r
        · exact i4 t r h3 h4
        · have : t = n := by omega
          subst this
          exact h1.elim (fun z => Bool.noConfusion (z.symm.trans h3)) (fun z => absurd z h4)
    · have hl : lk n = false := by cases q : lk n; rfl; exact absurd (Or.inl q) h1
      have hs : sh n ≠ 0 := fun q => h1 (Or.inr q)
      cases q : mo_best sh tm lk n with
      | none =>
        rw [mo_best_c hl hs q]
        rw [q] at ih
        refine ⟨by omega, hl, hs, fun t h2 h3 h4 => ?_⟩
        rcases Nat.lt_or_ge t n with r | r
        · exact (ih t r).elim (fun z => Bool.noConfusion (z.symm.trans h3)) (fun z => absurd z h4)
        · have : t = n := by omega
          subst this
          exact ⟨Nat.le_refl _, fun z => absurd z (by omega)⟩
      | some b =>
        rw [q] at ih
        obtain ⟨i1, i2, i3, i4⟩ := ih
        by_cases h3 : sh b * tm n < sh n * tm b
        · rw [mo_best_d hl hs q h3]
          refine ⟨by omega, hl, hs, fun t h2 h5 h4 => ?_⟩
          rcases Nat.lt_or_ge t n with r | r
          · have z := (i4 t r h5 h4).1
            have z2 : sh t * tm n < sh n * tm t := sm_tr_lt2 (ht b) (ht t) h3 z
            exact ⟨Nat.le_of_lt z2, fun _ => z2⟩
          · have : t = n := by omega
            subst this
            exact ⟨Nat.le_refl _, fun z => absurd z (by omega)⟩
        · rw [mo_best_e hl hs q h3]
          refine ⟨by omega, i2, i3, fun t h2 h5 h4 => ?_⟩
          rcases Nat.lt_or_ge t n with r | r
          · exact i4 t r h5 h4
          · have : t = n := by omega
            subst this
            exact ⟨by omega, fun z => absurd z (by omega)⟩
theorem sm_pos_hi {g : Nat → Bool} : ∀ n j, px_pos g n ≤ j → j < n → g j = true
  | 0, j, _, h => absurd h (by omega)
  | n + 1, j, h1, h2 => by
    by_cases q : g n = true
    · have e : px_pos g (n + 1) = px_pos g n := if_pos q
      rw [e] at h1
      rcases Nat.lt_or_ge j n with r | r
      · exact sm_pos_hi n j h1 r
      · rw [show j = n by omega]; exact q
    · have e : px_pos g (n + 1) = n + 1 := if_neg q
      rw [e] at h1
      omega
theorem sm_pos_lo {g : Nat → Bool} : ∀ n, 0 < px_pos g n → g (px_pos g n - 1) = false
  | 0, h => absurd h (Nat.lt_irrefl 0)
  | n + 1, h => by
    by_cases q : g n = true
    · have e : px_pos g (n + 1) = px_pos g n := if_pos q
      rw [e] at h ⊢
      exact sm_pos_lo n h
    · have e : px_pos g (n + 1) = n + 1 := if_neg q
      rw [e, Nat.add_sub_cancel]
      cases z : g n
      · rfl
      · exact absurd z q
theorem sm_ins_lt {f : Nat → Nat} {q n x j : Nat} (h : j < q) : px_ins f q n x j = f j := if_pos h
theorem sm_ins_eq {f : Nat → Nat} {q n x : Nat} : px_ins f q n x q = x := by unfold px_ins; rw [if_neg (by omega), if_pos rfl]
theorem sm_ins_gt {f : Nat → Nat} {q n x j : Nat} (h : q < j) (h2 : j ≤ n) : px_ins f q n x j = f (j - 1) := by unfold px_ins; rw [if_neg (by omega), if_neg (by omega), if_pos h2]
/-- the ranking behind i tests: whom it holds, in which order -/
def sm_rk (wy sh tm rt rh ri : Nat → Nat) (rn i : Nat) : Prop :=
  (∀ j, j < rn → rt j < i ∧ wy (rt j) = 0 ∧ 0 < sh (rt j) ∧ rh j = sh (rt j) ∧ ri j = tm (rt j))
  ∧ (∀ t, t < i → wy t = 0 → 0 < sh t → ∃ j, j < rn ∧ rt j = t)
  ∧ (∀ j k, j < k → k < rn → rt j ≠ rt k ∧ sh (rt k) * tm (rt j) ≤ sh (rt j) * tm (rt k) ∧ (rt k < rt j → sh (rt k) * tm (rt j) < sh (rt j) * tm (rt k)))
theorem sm_rk_skip {wy sh tm rt rh ri : Nat → Nat} {rn i : Nat} (h : sm_rk wy sh tm rt rh ri rn i) (hs : ¬ (wy i = 0 ∧ 0 < sh i)) : sm_rk wy sh tm rt rh ri rn (i + 1) := by
  obtain ⟨h1, h2, h3⟩ := h
  refine ⟨fun j hj => ?_, fun t h4 h5 h6 => ?_, h3⟩
  · obtain ⟨a, b⟩ := h1 j hj
    exact ⟨by omega, b⟩
  · rcases Nat.lt_or_ge t i with r | r
    · exact h2 t r h5 h6
    · have : t = i := by omega
      subst this
      exact absurd ⟨h5, h6⟩ hs
theorem sm_rk_ins {wy sh tm rt rh ri : Nat → Nat} {rn i k : Nat} (ht : ∀ t, 0 < tm t) (h : sm_rk wy sh tm rt rh ri rn i) (hwi : wy i = 0) (p : 0 < sh i) (hpl : k ≤ rn) (hhi : ∀ j, k ≤ j → j < rn → decide (rh j * tm i < sh i * ri j) = true) (hlo : 0 < k → decide (rh (k - 1) * tm i < sh i * ri (k - 1)) = false) : sm_rk wy sh tm (px_ins rt k rn i) (px_ins rh k rn (sh i)) (px_ins ri k rn (tm i)) (rn + 1) (i + 1) := by
  obtain ⟨h1, h2, h3⟩ := h
  have ghi : ∀ j, k ≤ j → j < rn → sh (rt j) * tm i < sh i * tm (rt j) := fun j a b => by
    have := of_decide_eq_true (hhi j a b)
    rw [(h1 j b).2.2.2.1, (h1 j b).2.2.2.2] at this
    exact this
  have glo : ∀ j, j < k → sh i * tm (rt j) ≤ sh (rt j) * tm i := fun j a => by
    have hk : sh i * tm (rt (k - 1)) ≤ sh (rt (k - 1)) * tm i := by
      have := of_decide_eq_false (hlo (by omega))
      rw [(h1 (k - 1) (by omega)).2.2.2.1, (h1 (k - 1) (by omega)).2.2.2.2] at this
      exact Nat.not_lt.mp this
    rcases Nat.lt_or_ge j (k - 1) with r | r
    · exact sm_tr (ht _) (h3 j (k - 1) r (by omega)).2.1 hk
    · rw [show j = k - 1 by omega]; exact hk
  refine ⟨fun j hj => ?_, fun t h4 h5 h6 => ?_, fun j l hjl hl => ?_⟩
  · rcases Nat.lt_trichotomy j k with r | r | r
    · rw [sm_ins_lt r, sm_ins_lt r, sm_ins_lt r]
      obtain ⟨a, b⟩ := h1 j (by omega)
      exact ⟨by omega, b⟩
    · subst r
      rw [sm_ins_eq, sm_ins_eq, sm_ins_eq]
      exact ⟨by omega, hwi, p, rfl, rfl⟩
    · rw [sm_ins_gt r (by omega), sm_ins_gt r (by omega), sm_ins_gt r (by omega)]
      obtain ⟨a, b⟩ := h1 (j - 1) (by omega)
      exact ⟨by omega, b⟩
  · rcases Nat.lt_or_ge t i with r | r
    · obtain ⟨j, a, b⟩ := h2 t r h5 h6
      rcases Nat.lt_or_ge j k with z | z
      · exact ⟨j, by omega, by rw [sm_ins_lt z]; exact b⟩
      · exact ⟨j + 1, by omega, by rw [sm_ins_gt (by omega) (by omega), Nat.add_sub_cancel]; exact b⟩
    · exact ⟨k, by omega, by rw [sm_ins_eq]; omega⟩
  · rcases Nat.lt_trichotomy l k with r | r | r
    · rw [sm_ins_lt r, sm_ins_lt (show j < k by omega)]
      exact h3 j l hjl (by omega)
    · subst r
      rw [sm_ins_eq, sm_ins_lt hjl]
      have a := (h1 j (by omega)).1
      exact ⟨by omega, glo j hjl, fun z => absurd z (by omega)⟩
    · rw [sm_ins_gt r (by omega)]
      rcases Nat.lt_trichotomy j k with z | z | z
      · rw [sm_ins_lt z]
        exact h3 j (l - 1) (by omega) (by omega)
      · subst z
        rw [sm_ins_eq]
        have a := (h1 (l - 1) (by omega)).1
        have b := ghi (l - 1) (by omega) (by omega)
        exact ⟨by omega, Nat.le_of_lt b, fun _ => b⟩
      · rw [sm_ins_gt z (by omega)]
        exact h3 (j - 1) (l - 1) (by omega) (by omega)
def sm_rkw (wy sh tm : Nat → Nat) (w : px_S) (i : Nat) : Prop := sm_rk wy sh tm w.2.2.1 w.2.2.2.1 w.2.2.2.2.1 w.2.2.2.2.2 i
theorem sm_rk_s {wy sh tm : Nat → Nat} {w : px_S} {i : Nat} (ht : ∀ t, 0 < tm t) (h : sm_rkw wy sh tm w i) : sm_rkw wy sh tm (px_stp (wy i) (sh i) (tm i) i w) (i + 1) := by
  unfold px_stp
  by_cases q : wy i ≠ 0
  · rw [if_pos q]
    exact sm_rk_skip h (fun z => q z.1)
  · rw [if_neg q]
    by_cases p : 0 < sh i
    · rw [if_pos p]
      have hwi : wy i = 0 := by
        rcases Nat.eq_zero_or_pos (wy i) with z | z
        · exact z
        · exact absurd (by omega) q
      exact sm_rk_ins ht h hwi p (px_pos_le _ _) (sm_pos_hi (g := px_gg w (sh i) (tm i)) w.2.2.2.2.2) (sm_pos_lo (g := px_gg w (sh i) (tm i)) w.2.2.2.2.2)
    · rw [if_neg p]
      exact sm_rk_skip h (fun z => p z.2)
theorem sm_rk_run {wy sh tm : Nat → Nat} {w : px_S} (ht : ∀ t, 0 < tm t) (h0 : w.2.2.2.2.2 = 0) : ∀ i, sm_rkw wy sh tm (px_run wy sh tm w i) i
  | 0 => by
    show sm_rk wy sh tm w.2.2.1 w.2.2.2.1 w.2.2.2.2.1 w.2.2.2.2.2 0
    rw [h0]
    exact ⟨fun j hj => absurd hj (by omega), fun t h => absurd h (by omega), fun j k _ hk => absurd hk (by omega)⟩
  | i + 1 => sm_rk_s ht (sm_rk_run ht h0 i)
/-- members and marks behind i tests are the reference's -/
theorem sm_A {wy sh tm : Nat → Nat} {mb rt rh ri : Nat → Nat} {ip lk : Nat → Bool} : ∀ i, (mo_A wy (mb, 0, ip, lk) i).1 = (px_run wy sh tm (mb, 0, rt, rh, ri, 0) i).1 ∧ (mo_A wy (mb, 0, ip, lk) i).2.1 = (px_run wy sh tm (mb, 0, rt, rh, ri, 0) i).2.1
  | 0 => ⟨rfl, rfl⟩
  | i + 1 => by
    obtain ⟨h1, h2⟩ := sm_A (wy := wy) (sh := sh) (tm := tm) (mb := mb) (rt := rt) (rh := rh) (ri := ri) (ip := ip) (lk := lk) i
    have e : px_run wy sh tm (mb, 0, rt, rh, ri, 0) (i + 1) = px_stp (wy i) (sh i) (tm i) i (px_run wy sh tm (mb, 0, rt, rh, ri, 0) i) := rfl
    rw [e]
    unfold px_stp
    by_cases q : wy i = 0
    · rw [mo_A_n q, if_neg (fun z => z q)]
      by_cases p : 0 < sh i
      · rw [if_pos p]; exact ⟨h1, h2⟩
      · rw [if_neg p]; exact ⟨h1, h2⟩
    · rw [mo_A_y q, if_pos q]
      exact ⟨by show va_up _ _ _ = va_up _ _ _; rw [h1, h2], by show _ + 1 = _ + 1; rw [h2]⟩
theorem sm_A_lk {wy : Nat → Nat} {mb : Nat → Nat} {ip lk : Nat → Bool} (hl : ∀ j, j < 24 → lk j = false) : ∀ i, i ≤ 24 → ∀ t, t < 24 → ((mo_A wy (mb, 0, ip, lk) i).2.2.2 t = true ↔ t < i ∧ wy t ≠ 0)
  | 0, _, t, ht => by
    show lk t = true ↔ _
    rw [hl t ht]
    exact ⟨fun h => Bool.noConfusion h, fun h => absurd h.1 (by omega)⟩
  | i + 1, hi, t, ht => by
    have ih := sm_A_lk (wy := wy) (mb := mb) (ip := ip) hl i (by omega) t ht
    by_cases q : wy i = 0
    · rw [mo_A_n q, ih]
      constructor
      · intro h; exact ⟨by omega, h.2⟩
      · intro h
        rcases Nat.lt_or_ge t i with r | r
        · exact ⟨r, h.2⟩
        · exact absurd (by rw [show t = i by omega]; exact q) h.2
    · rw [mo_A_y q]
      show va_up _ i true t = true ↔ _
      by_cases p : t = i
      · subst p
        rw [va_up_self]
        exact ⟨fun _ => ⟨by omega, q⟩, fun _ => rfl⟩
      · rw [va_up_ne _ _ p, ih]
        constructor
        · intro h; exact ⟨by omega, h.2⟩
        · intro h; exact ⟨by omega, h.2⟩
