/-! mo3: the reference's selection, as pure words -/
abbrev mo_S : Type := (Nat → Nat) × Nat × (Nat → Bool) × (Nat → Bool)
def mo_A (wy : Nat → Nat) (w : mo_S) : Nat → mo_S
  | 0 => w
  | t + 1 => if wy t = 0 then mo_A wy w t else (va_up (mo_A wy w t).1 (mo_A wy w t).2.1 t, (mo_A wy w t).2.1 + 1, va_up (mo_A wy w t).2.2.1 t true, va_up (mo_A wy w t).2.2.2 t true)
def mo_B (sh tm : Nat → Nat) (tn : Nat) (w : Nat × mo_S) : Nat → Nat × mo_S
  | 0 => w
  | n + 1 => match mo_best sh tm (mo_B sh tm tn w n).2.2.2.2 tn with
    | none => mo_B sh tm tn w n
    | some b => if tm b ≤ (mo_B sh tm tn w n).1 then ((mo_B sh tm tn w n).1 - tm b, va_up (mo_B sh tm tn w n).2.1 (mo_B sh tm tn w n).2.2.1 b, (mo_B sh tm tn w n).2.2.1 + 1, va_up (mo_B sh tm tn w n).2.2.2.1 b true, va_up (mo_B sh tm tn w n).2.2.2.2 b true) else ((mo_B sh tm tn w n).1, (mo_B sh tm tn w n).2.1, (mo_B sh tm tn w n).2.2.1, (mo_B sh tm tn w n).2.2.2.1, va_up (mo_B sh tm tn w n).2.2.2.2 b true)
theorem mo_A_y {wy : Nat → Nat} {w : mo_S} {t : Nat} (h : wy t ≠ 0) : mo_A wy w (t + 1) = (va_up (mo_A wy w t).1 (mo_A wy w t).2.1 t, (mo_A wy w t).2.1 + 1, va_up (mo_A wy w t).2.2.1 t true, va_up (mo_A wy w t).2.2.2 t true) := if_neg h
theorem mo_A_n {wy : Nat → Nat} {w : mo_S} {t : Nat} (h : wy t = 0) : mo_A wy w (t + 1) = mo_A wy w t := if_pos h
theorem mo_B_0 {sh tm : Nat → Nat} {tn n : Nat} {w : Nat × mo_S} (h : mo_best sh tm (mo_B sh tm tn w n).2.2.2.2 tn = none) : mo_B sh tm tn w (n + 1) = mo_B sh tm tn w n := by
  show (match mo_best sh tm (mo_B sh tm tn w n).2.2.2.2 tn with | none => _ | some b => _) = _
  rw [h]
theorem mo_B_y {sh tm : Nat → Nat} {tn n b : Nat} {w : Nat × mo_S} (h : mo_best sh tm (mo_B sh tm tn w n).2.2.2.2 tn = some b) (h2 : tm b ≤ (mo_B sh tm tn w n).1) : mo_B sh tm tn w (n + 1) = ((mo_B sh tm tn w n).1 - tm b, va_up (mo_B sh tm tn w n).2.1 (mo_B sh tm tn w n).2.2.1 b, (mo_B sh tm tn w n).2.2.1 + 1, va_up (mo_B sh tm tn w n).2.2.2.1 b true, va_up (mo_B sh tm tn w n).2.2.2.2 b true) := by
  show (match mo_best sh tm (mo_B sh tm tn w n).2.2.2.2 tn with | none => _ | some b => _) = _
  rw [h]
  exact if_pos h2
theorem mo_B_n {sh tm : Nat → Nat} {tn n b : Nat} {w : Nat × mo_S} (h : mo_best sh tm (mo_B sh tm tn w n).2.2.2.2 tn = some b) (h2 : (mo_B sh tm tn w n).1 < tm b) : mo_B sh tm tn w (n + 1) = ((mo_B sh tm tn w n).1, (mo_B sh tm tn w n).2.1, (mo_B sh tm tn w n).2.2.1, (mo_B sh tm tn w n).2.2.2.1, va_up (mo_B sh tm tn w n).2.2.2.2 b true) := by
  show (match mo_best sh tm (mo_B sh tm tn w n).2.2.2.2 tn with | none => _ | some b => _) = _
  rw [h]
  exact if_neg (by omega)
theorem mo_B_fix {sh tm : Nat → Nat} {tn n : Nat} {w : Nat × mo_S} (h : mo_best sh tm (mo_B sh tm tn w n).2.2.2.2 tn = none) : ∀ k, mo_B sh tm tn w (n + k) = mo_B sh tm tn w n
  | 0 => rfl
  | k + 1 => by
    have ih := mo_B_fix h k
    show mo_B sh tm tn w (n + k + 1) = _
    rw [mo_B_0 (by rw [ih]; exact h), ih]
theorem mo_B_24 {sh tm : Nat → Nat} {tn n : Nat} {w : Nat × mo_S} (h : mo_best sh tm (mo_B sh tm tn w n).2.2.2.2 tn = none) (hn : n ≤ 24) : mo_B sh tm tn w 24 = mo_B sh tm tn w n := by
  have h1 := mo_B_fix h (24 - n)
  rw [Nat.add_sub_cancel' hn] at h1
  exact h1
/-- how many of the first k are marked -/
def mo_cnt (l : Nat → Bool) : Nat → Nat
  | 0 => 0
  | k + 1 => mo_cnt l k + if l k = true then 1 else 0
theorem mo_cnt_le (l : Nat → Bool) : ∀ k, mo_cnt l k ≤ k
  | 0 => Nat.le_refl 0
  | k + 1 => by
    have := mo_cnt_le l k
    unfold mo_cnt
    split <;> omega
theorem mo_cnt_lt {l : Nat → Bool} {b : Nat} (h : l b = false) : ∀ k, b < k → mo_cnt l k < k
  | 0, hb => by omega
  | k + 1, hb => by
    unfold mo_cnt
    by_cases q : b = k
    · subst q
      have := mo_cnt_le l b
      rw [if_neg (by rw [h]; decide)]
      omega
    · have := mo_cnt_lt h k (by omega)
      split <;> omega
theorem mo_cnt_ge {l : Nat → Bool} {b : Nat} {x : Bool} : ∀ k, k ≤ b → mo_cnt (va_up l b x) k = mo_cnt l k
  | 0, _ => rfl
  | k + 1, hb => by
    unfold mo_cnt
    rw [mo_cnt_ge k (by omega), va_up_ne _ _ (by omega)]
theorem mo_cnt_up {l : Nat → Bool} {b : Nat} (h : l b = false) : ∀ k, b < k → mo_cnt (va_up l b true) k = mo_cnt l k + 1
  | 0, hb => by omega
  | k + 1, hb => by
    unfold mo_cnt
    by_cases q : b = k
    · subst q
      rw [mo_cnt_ge b (Nat.le_refl _), va_up_self, if_pos rfl, if_neg (by rw [h]; decide)]
    · rw [mo_cnt_up h k (by omega), va_up_ne _ _ (fun e => q e.symm)]
      omega
theorem mo_A_pn {wy : Nat → Nat} {w : mo_S} (h : w.2.1 = 0) : ∀ t, (mo_A wy w t).2.1 ≤ t
  | 0 => by show w.2.1 ≤ 0; omega
  | t + 1 => by
    have ih := mo_A_pn (wy := wy) h t
    by_cases q : wy t = 0
    · rw [mo_A_n q]; omega
    · rw [mo_A_y q]; show (mo_A wy w t).2.1 + 1 ≤ t + 1; omega
theorem mo_A_lk {wy : Nat → Nat} {w : mo_S} (h : ∀ j, j < 24 → w.2.2.2 j = false) : ∀ t j, t ≤ j → j < 24 → (mo_A wy w t).2.2.2 j = false
  | 0, j, _, hj => h j hj
  | t + 1, j, ht, hj => by
    have ih := mo_A_lk (wy := wy) h t j (by omega) hj
    by_cases q : wy t = 0
    · rw [mo_A_n q]; exact ih
    · rw [mo_A_y q]; show va_up (mo_A wy w t).2.2.2 t true j = false; rw [va_up_ne _ _ (by omega)]; exact ih
theorem mo_A_cnt {wy : Nat → Nat} {w : mo_S} (h0 : w.2.1 = 0) (h : ∀ j, j < 24 → w.2.2.2 j = false) : ∀ t, t ≤ 24 → (mo_A wy w t).2.1 ≤ mo_cnt (mo_A wy w t).2.2.2 24
  | 0, _ => by show w.2.1 ≤ _; omega
  | t + 1, ht => by
    have ih := mo_A_cnt (wy := wy) h0 h t (by omega)
    by_cases q : wy t = 0
    · rw [mo_A_n q]; exact ih
    · rw [mo_A_y q]
      show (mo_A wy w t).2.1 + 1 ≤ mo_cnt (va_up (mo_A wy w t).2.2.2 t true) 24
      rw [mo_cnt_up (mo_A_lk h t t (Nat.le_refl _) (by omega)) 24 (by omega)]
      omega
/-- what holds of the reference's selection behind n steps -/
def mo_okB (b0 : Nat) (w : Nat × mo_S) (n : Nat) : Prop := w.1 ≤ b0 ∧ w.2.2.1 ≤ mo_cnt w.2.2.2.2 24 ∧ n ≤ mo_cnt w.2.2.2.2 24
theorem mo_okB_s {sh tm : Nat → Nat} {tn n b b0 : Nat} {w : Nat × mo_S} (htn : tn ≤ 24) (h : mo_okB b0 (mo_B sh tm tn w n) n) (hb : mo_best sh tm (mo_B sh tm tn w n).2.2.2.2 tn = some b) : mo_okB b0 (mo_B sh tm tn w (n + 1)) (n + 1) := by
  obtain ⟨h1, h2, h3⟩ := h
  have hl := mo_best_lt hb
  have hc := mo_cnt_up hl.2.1 24 (by omega)
  by_cases q : tm b ≤ (mo_B sh tm tn w n).1
  · rw [mo_B_y hb q]
    exact ⟨Nat.le_trans (Nat.sub_le _ _) h1, by show _ + 1 ≤ mo_cnt (va_up _ b true) 24; rw [hc]; omega, by show _ ≤ mo_cnt (va_up _ b true) 24; rw [hc]; omega⟩
  · rw [mo_B_n hb (by omega)]
    exact ⟨h1, by show (mo_B sh tm tn w n).2.2.1 ≤ mo_cnt (va_up _ b true) 24; rw [hc]; omega, by show _ ≤ mo_cnt (va_up _ b true) 24; rw [hc]; omega⟩
