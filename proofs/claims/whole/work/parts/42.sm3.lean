theorem sm_best_at {wy sh tm rt rh ri : Nat → Nat} {rn tn n : Nat} {lk : Nat → Bool} (ht : ∀ t, 0 < tm t) (htn : tn ≤ 24) (hr : sm_rk wy sh tm rt rh ri rn tn) (hl : ∀ t, t < 24 → (lk t = true ↔ (t < tn ∧ wy t ≠ 0) ∨ ∃ j, j < n ∧ rt j = t)) (hn : n < rn) : mo_best sh tm lk tn = some (rt n) := by
  obtain ⟨h1, h2, h3⟩ := hr
  have hrt := h1 n hn
  have hu : lk (rt n) = false := by
    cases q : lk (rt n) with
    | false => rfl
    | true =>
      rcases (hl _ (by omega)).mp q with z | ⟨j, hj, z⟩
      · exact absurd hrt.2.1 z.2
      · exact absurd z (h3 j n hj hn).1
  have sp := sm_best_spec (sh := sh) (lk := lk) ht tn
  cases q : mo_best sh tm lk tn with
  | none =>
    rw [q] at sp
    rcases sp (rt n) hrt.1 with z | z
    · exact Bool.noConfusion (z.symm.trans hu)
    · have := hrt.2.2.1; omega
  | some b =>
    rw [q] at sp
    obtain ⟨s1, s2, s3, s4⟩ := sp
    have hwb : wy b = 0 := by
      rcases Nat.eq_zero_or_pos (wy b) with z | z
      · exact z
      · exact Bool.noConfusion (((hl b (by omega)).mpr (Or.inl ⟨s1, by omega⟩)).symm.trans s2)
    obtain ⟨j, hj, ej⟩ := h2 b s1 hwb (Nat.pos_of_ne_zero s3)
    have hjn : n ≤ j := by
      rcases Nat.lt_or_ge j n with z | z
      · exact Bool.noConfusion (((hl b (by omega)).mpr (Or.inr ⟨j, z, ej⟩)).symm.trans s2)
      · exact z
    rcases Nat.lt_or_ge n j with z | z
    · have a := h3 n j z hj
      rw [ej] at a
      have c := s4 (rt n) hrt.1 hu (Nat.ne_of_gt hrt.2.2.1)
      rcases Nat.lt_trichotomy (rt n) b with y | y | y
      · have := c.2 y; omega
      · exact absurd y a.1
      · have := a.2.2 y; omega
    · rw [show n = j by omega, ej]
theorem sm_best_end {wy sh tm rt rh ri : Nat → Nat} {rn tn : Nat} {lk : Nat → Bool} (htn : tn ≤ 24) (hr : sm_rk wy sh tm rt rh ri rn tn) (hl : ∀ t, t < 24 → (lk t = true ↔ (t < tn ∧ wy t ≠ 0) ∨ ∃ j, j < rn ∧ rt j = t)) : mo_best sh tm lk tn = none := by
  cases q : mo_best sh tm lk tn with
  | none => rfl
  | some b =>
    obtain ⟨s1, s2, s3⟩ := mo_best_lt q
    have hwb : wy b = 0 := by
      rcases Nat.eq_zero_or_pos (wy b) with z | z
      · exact z
      · exact Bool.noConfusion (((hl b (by omega)).mpr (Or.inl ⟨s1, by omega⟩)).symm.trans s2)
    obtain ⟨j, hj, ej⟩ := hr.2.1 b s1 hwb (Nat.pos_of_ne_zero s3)
    exact Bool.noConfusion (((hl b (by omega)).mpr (Or.inr ⟨j, hj, ej⟩)).symm.trans s2)
theorem sm_B {wy sh tm rt rh ri mb : Nat → Nat} {rn tn b sn : Nat} {A : mo_S} (ht : ∀ t, 0 < tm t) (htn : tn ≤ 24) (hr : sm_rk wy sh tm rt rh ri rn tn) (h1 : A.1 = mb) (h2 : A.2.1 = sn) (hl : ∀ t, t < 24 → (A.2.2.2 t = true ↔ t < tn ∧ wy t ≠ 0)) (hc : A.2.1 ≤ mo_cnt A.2.2.2 24) : ∀ n, n ≤ rn → (mo_B sh tm tn (b, A) n).1 = (px_tk rt ri b mb sn n).1 ∧ (mo_B sh tm tn (b, A) n).2.1 = (px_tk rt ri b mb sn n).2.1 ∧ (mo_B sh tm tn (b, A) n).2.2.1 = (px_tk rt ri b mb sn n).2.2 ∧ (∀ t, t < 24 → ((mo_B sh tm tn (b, A) n).2.2.2.2 t = true ↔ (t < tn ∧ wy t ≠ 0) ∨ ∃ j, j < n ∧ rt j = t)) ∧ mo_okB b (mo_B sh tm tn (b, A) n) n
  | 0, _ => ⟨rfl, h1, h2, fun t h => (hl t h).trans ⟨Or.inl, fun q => q.elim id (fun ⟨j, z, _⟩ => absurd z (by omega))⟩, Nat.le_refl _, hc, Nat.zero_le _⟩
  | n + 1, hn => by
    obtain ⟨i1, i2, i3, i4, i5⟩ := sm_B (b := b) ht htn hr h1 h2 hl hc n (by omega)
    have hb := sm_best_at ht htn hr i4 (show n < rn by omega)
    have hbl := mo_best_lt hb
    have hcl := mo_cnt_lt hbl.2.1 24 (by omega)
    have hri : ri n = tm (rt n) := (hr.1 n (by omega)).2.2.2.2
    have hpn : (px_tk rt ri b mb sn n).2.2 < 24 := by
      have := i5.2.1
      rw [← i3]
      omega
    have hlk : ∀ l : Nat → Bool, (∀ t, t < 24 → (l t = true ↔ (t < tn ∧ wy t ≠ 0) ∨ ∃ j, j < n ∧ rt j = t)) → ∀ t, t < 24 → (va_up l (rt n) true t = true ↔ (t < tn ∧ wy t ≠ 0) ∨ ∃ j, j < n + 1 ∧ rt j = t) := by
      intro l hl2 t h24
      by_cases z : t = rt n
      · subst z
        rw [va_up_self]
        exact ⟨fun _ => Or.inr ⟨n, by omega, rfl⟩, fun _ => rfl⟩
      · rw [va_up_ne _ _ z, hl2 t h24]
        constructor
        · rintro (y | ⟨j, hj, y⟩)
          · exact Or.inl y
          · exact Or.inr ⟨j, by omega, y⟩
        · rintro (y | ⟨j, hj, y⟩)
          · exact Or.inl y
          · rcases Nat.lt_or_ge j n with x | x
            · exact Or.inr ⟨j, x, y⟩
            · exact absurd (by rw [← y, show j = n by omega]) z
    refine ⟨?_, ?_, ?_, ?_, mo_okB_s htn i5 hb⟩
    all_goals by_cases q : tm (rt n) ≤ (mo_B sh tm tn (b, A) n).1
    · rw [mo_B_y hb q, px_tk_y (show ri n ≤ (px_tk rt ri b mb sn n).1 by rw [hri, ← i1]; exact q)]
      show _ - _ = _ - _
      rw [i1, hri]
    · rw [mo_B_n hb (by omega), px_tk_n (show (px_tk rt ri b mb sn n).1 < ri n by rw [hri, ← i1]; omega)]
      exact i1
    · rw [mo_B_y hb q, px_tk_y (show ri n ≤ (px_tk rt ri b mb sn n).1 by rw [hri, ← i1]; exact q)]
      show va_up _ _ _ = if (px_tk rt ri b mb sn n).2.2 < 24 then _ else _
      rw [if_pos hpn, i2, i3]
    · rw [mo_B_n hb (by omega), px_tk_n (show (px_tk rt ri b mb sn n).1 < ri n by rw [hri, ← i1]; omega)]
      exact i2
    · rw [mo_B_y hb q, px_tk_y (show ri n ≤ (px_tk rt ri b mb sn n).1 by rw [hri, ← i1]; exact q)]
      show _ + 1 = if (px_tk rt ri b mb sn n).2.2 < 24 then _ else _
      rw [if_pos hpn, i3]
    · rw [mo_B_n hb (by omega), px_tk_n (show (px_tk rt ri b mb sn n).1 < ri n by rw [hri, ← i1]; omega)]
      exact i3
    · rw [mo_B_y hb q]
      exact hlk _ i4
    · rw [mo_B_n hb (by omega)]
      exact hlk _ i4
theorem sm_run_congr {wy sh tm wy' sh' tm' : Nat → Nat} {w : px_S} : ∀ n, (∀ t, t < n → wy t = wy' t ∧ sh t = sh' t ∧ tm t = tm' t) → px_run wy sh tm w n = px_run wy' sh' tm' w n
  | 0, _ => rfl
  | n + 1, h => by
    show px_stp (wy n) (sh n) (tm n) n (px_run wy sh tm w n) = px_stp (wy' n) (sh' n) (tm' n) n (px_run wy' sh' tm' w n)
    rw [sm_run_congr n (fun t ht => h t (by omega)), (h n (by omega)).1, (h n (by omega)).2.1, (h n (by omega)).2.2]
theorem sm_A_congr {wy wy' : Nat → Nat} {w : mo_S} : ∀ n, (∀ t, t < n → wy t = wy' t) → mo_A wy w n = mo_A wy' w n
  | 0, _ => rfl
  | n + 1, h => by
    have ih := sm_A_congr (w := w) n (fun t ht => h t (by omega))
    by_cases q : wy n = 0
    · rw [mo_A_n q, mo_A_n (by rw [← h n (by omega)]; exact q), ih]
    · rw [mo_A_y q, mo_A_y (by rw [← h n (by omega)]; exact q), ih]
theorem sm_best_congr {sh tm sh' tm' : Nat → Nat} {lk : Nat → Bool} : ∀ n, (∀ t, t < n → sh t = sh' t ∧ tm t = tm' t) → mo_best sh tm lk n = mo_best sh' tm' lk n
  | 0, _ => rfl
  | n + 1, h => by
    have ih := sm_best_congr (lk := lk) n (fun t ht => h t (by omega))
    have hn := h n (by omega)
    by_cases h1 : lk n = true ∨ sh n = 0
    · have e1 : mo_best sh tm lk (n + 1) = mo_best sh tm lk n := if_pos h1
      have e2 : mo_best sh' tm' lk (n + 1) = mo_best sh' tm' lk n := if_pos (by rw [← hn.1]; exact h1)
      rw [e1, e2, ih]
    · have hl : lk n = false := by cases q : lk n; rfl; exact absurd (Or.inl q) h1
      have hs : sh n ≠ 0 := fun q => h1 (Or.inr q)
      have hs' : sh' n ≠ 0 := by rw [← hn.1]; exact hs
      cases q : mo_best sh tm lk n with
      | none => rw [mo_best_c hl hs q, mo_best_c hl hs' (by rw [← ih]; exact q)]
      | some b =>
        have hb := h b (by have := (mo_best_lt q).1; omega)
        have q' : mo_best sh' tm' lk n = some b := by rw [← ih]; exact q
        by_cases h3 : sh b * tm n < sh n * tm b
        · rw [mo_best_d hl hs q h3, mo_best_d hl hs' q' (by rw [← hb.1, ← hb.2, ← hn.1, ← hn.2]; exact h3)]
        · rw [mo_best_e hl hs q h3, mo_best_e hl hs' q' (by rw [← hb.1, ← hb.2, ← hn.1, ← hn.2]; exact h3)]
theorem sm_B_congr {sh tm sh' tm' : Nat → Nat} {tn : Nat} {w : Nat × mo_S} (h : ∀ t, t < tn → sh t = sh' t ∧ tm t = tm' t) : ∀ n, mo_B sh tm tn w n = mo_B sh' tm' tn w n
  | 0 => rfl
  | n + 1 => by
    have ih := sm_B_congr (w := w) h n
    cases q : mo_best sh tm (mo_B sh tm tn w n).2.2.2.2 tn with
    | none =>
      have q' : mo_best sh' tm' (mo_B sh' tm' tn w n).2.2.2.2 tn = none := by rw [← ih, ← sm_best_congr tn h]; exact q
      rw [mo_B_0 q, mo_B_0 q', ih]
    | some b =>
      have q' : mo_best sh' tm' (mo_B sh' tm' tn w n).2.2.2.2 tn = some b := by rw [← ih, ← sm_best_congr tn h]; exact q
      have hb := h b (mo_best_lt q).1
      by_cases z : tm b ≤ (mo_B sh tm tn w n).1
      · rw [mo_B_y q z, mo_B_y q' (by rw [← ih, ← hb.2]; exact z), ih, hb.2]
      · rw [mo_B_n q (by omega), mo_B_n q' (by rw [← ih, ← hb.2]; omega), ih]
/-- the two selections are one -/
theorem sm_sel {wy sh tm wy' sh' tm' mb rt rh ri : Nat → Nat} {ip lk : Nat → Bool} {tn b : Nat} (htn : tn ≤ 24) (h : ∀ t, t < tn → wy t = wy' t ∧ sh t = sh' t ∧ tm t = tm' t) (ht : ∀ t, t < tn → 0 < tm t) (hl : ∀ j, j < 24 → lk j = false) :
    (mo_B sh' tm' tn (b, mo_A wy' (mb, 0, ip, lk) tn) 24).2.1 = (px_tk (px_run wy sh tm (mb, 0, rt, rh, ri, 0) tn).2.2.1 (px_run wy sh tm (mb, 0, rt, rh, ri, 0) tn).2.2.2.2.1 b (px_run wy sh tm (mb, 0, rt, rh, ri, 0) tn).1 (px_run wy sh tm (mb, 0, rt, rh, ri, 0) tn).2.1 (px_run wy sh tm (mb, 0, rt, rh, ri, 0) tn).2.2.2.2.2).2.1
    ∧ (mo_B sh' tm' tn (b, mo_A wy' (mb, 0, ip, lk) tn) 24).2.2.1 = (px_tk (px_run wy sh tm (mb, 0, rt, rh, ri, 0) tn).2.2.1 (px_run wy sh tm (mb, 0, rt, rh, ri, 0) tn).2.2.2.2.1 b (px_run wy sh tm (mb, 0, rt, rh, ri, 0) tn).1 (px_run wy sh tm (mb, 0, rt, rh, ri, 0) tn).2.1 (px_run wy sh tm (mb, 0, rt, rh, ri, 0) tn).2.2.2.2.2).2.2 := by
  have hp : ∀ t, 0 < (fun t => if t < tn then tm t else 1) t := fun t => by
    show 0 < if t < tn then tm t else 1
    by_cases q : t < tn
    · rw [if_pos q]; exact ht t q
    · rw [if_neg q]; omega
  have c1 : px_run wy sh tm (mb, 0, rt, rh, ri, 0) tn = px_run wy sh (fun t => if t < tn then tm t else 1) (mb, 0, rt, rh, ri, 0) tn := sm_run_congr tn (fun t q => ⟨rfl, rfl, (if_pos q).symm⟩)
  have c2 : mo_A wy' (mb, 0, ip, lk) tn = mo_A wy (mb, 0, ip, lk) tn := sm_A_congr tn (fun t q => (h t q).1.symm)
  have c3 : ∀ w : Nat × mo_S, mo_B sh' tm' tn w 24 = mo_B sh (fun t => if t < tn then tm t else 1) tn w 24 := fun w => sm_B_congr (fun t q => ⟨(h t q).2.1.symm, by show tm' t = if t < tn then tm t else 1; rw [if_pos q]; exact (h t q).2.2.symm⟩) 24
  rw [c1, c2, c3]
  generalize hT : (fun t => if t < tn then tm t else 1) = tq at hp
  have hr : sm_rkw wy sh tq (px_run wy sh tq (mb, 0, rt, rh, ri, 0) tn) tn := sm_rk_run hp rfl tn
  have hA := sm_A (wy := wy) (sh := sh) (tm := tq) (mb := mb) (rt := rt) (rh := rh) (ri := ri) (ip := ip) (lk := lk) tn
  have hL := sm_A_lk (wy := wy) (mb := mb) (ip := ip) hl tn htn
  have hC := mo_A_cnt (wy := wy) (w := (mb, 0, ip, lk)) rfl hl tn htn
  generalize px_run wy sh tq (mb, 0, rt, rh, ri, 0) tn = w at hr hA
  generalize mo_A wy (mb, 0, ip, lk) tn = A9 at hA hL hC
  have hB := sm_B (b := b) hp htn hr hA.1 hA.2 hL hC w.2.2.2.2.2 (Nat.le_refl _)
  have hrn : w.2.2.2.2.2 ≤ 24 := Nat.le_trans hB.2.2.2.2.2.2 (mo_cnt_le _ _)
  have hend := sm_best_end htn hr hB.2.2.2.1
  rw [mo_B_24 hend hrn]
  exact ⟨hB.2.1, hB.2.2.1⟩
/-- who is picked -/
theorem sm_mem_0 (f : Nat → Nat) (x : Nat) : px_mem f 0 x = false := decide_eq_false (fun ⟨j, h, _⟩ => absurd h (by omega))
theorem sm_mem_s (f : Nat → Nat) (n t x : Nat) : px_mem (va_up f n t) (n + 1) x = (if x = t then true else px_mem f n x) := by
  by_cases q : x = t
  · rw [if_pos q]
    exact decide_eq_true ⟨n, by omega, by rw [va_up_self]; exact q.symm⟩
  · rw [if_neg q]
    unfold px_mem
    apply decide_eq_decide.mpr
    constructor
    · rintro ⟨j, hj, e⟩
      rcases Nat.lt_or_ge j n with z | z
      · exact ⟨j, z, by rw [va_up_ne _ _ (by omega)] at e; exact e⟩
      · rw [show j = n by omega, va_up_self] at e
        exact absurd e.symm q
    · rintro ⟨j, hj, e⟩
      exact ⟨j, by omega, by rw [va_up_ne _ _ (by omega)]; exact e⟩
def sm_ip (pk : Nat → Nat) (pn : Nat) (ip : Nat → Bool) : Prop := ∀ x, x < 24 → ip x = px_mem pk pn x
theorem sm_ip_s {pk : Nat → Nat} {pn t : Nat} {ip : Nat → Bool} (h : sm_ip pk pn ip) : sm_ip (va_up pk pn t) (pn + 1) (va_up ip t true) := fun x hx => by
  rw [sm_mem_s]
  by_cases q : x = t
  · rw [if_pos q, q, va_up_self]
  · rw [if_neg q, va_up_ne _ _ q]; exact h x hx
theorem sm_ip_A {wy : Nat → Nat} {w : mo_S} (h : sm_ip w.1 w.2.1 w.2.2.1) : ∀ n, sm_ip (mo_A wy w n).1 (mo_A wy w n).2.1 (mo_A wy w n).2.2.1
  | 0 => h
  | n + 1 => by
    have ih := sm_ip_A (wy := wy) h n
    by_cases q : wy n = 0
    · rw [mo_A_n q]; exact ih
    · rw [mo_A_y q]; exact sm_ip_s ih
theorem sm_ip_B {sh tm : Nat → Nat} {tn : Nat} {w : Nat × mo_S} (h : sm_ip w.2.1 w.2.2.1 w.2.2.2.1) : ∀ n, sm_ip (mo_B sh tm tn w n).2.1 (mo_B sh tm tn w n).2.2.1 (mo_B sh tm tn w n).2.2.2.1
  | 0 => h
  | n + 1 => by
    have ih := sm_ip_B (sh := sh) (tm := tm) (tn := tn) h n
    cases q : mo_best sh tm (mo_B sh tm tn w n).2.2.2.2 tn with
    | none => rw [mo_B_0 q]; exact ih
    | some b =>
      by_cases z : tm b ≤ (mo_B sh tm tn w n).1
      · rw [mo_B_y q z]; exact sm_ip_s ih
      · rw [mo_B_n q (by omega)]; exact ih
/-- every pick is a test -/
def sm_pk (tn : Nat) (pk : Nat → Nat) (pn : Nat) : Prop := ∀ j, j < pn → pk j < tn
theorem sm_pk_s {tn t pn : Nat} {pk : Nat → Nat} (h : sm_pk tn pk pn) (ht : t < tn) : sm_pk tn (va_up pk pn t) (pn + 1) := fun j hj => by
  by_cases q : j = pn
  · rw [q, va_up_self]; exact ht
  · rw [va_up_ne _ _ q]; exact h j (by omega)
theorem sm_pk_A {wy : Nat → Nat} {w : mo_S} {tn : Nat} (h : w.2.1 = 0) : ∀ n, n ≤ tn → sm_pk tn (mo_A wy w n).1 (mo_A wy w n).2.1
  | 0, _ => fun j hj => absurd hj (by show ¬ j < w.2.1; omega)
  | n + 1, hn => by
    have ih := sm_pk_A (wy := wy) (tn := tn) h n (by omega)
    by_cases q : wy n = 0
    · rw [mo_A_n q]; exact ih
    · rw [mo_A_y q]; exact sm_pk_s ih (by omega)
theorem sm_pk_B {sh tm : Nat → Nat} {tn : Nat} {w : Nat × mo_S} (h : sm_pk tn w.2.1 w.2.2.1) : ∀ n, sm_pk tn (mo_B sh tm tn w n).2.1 (mo_B sh tm tn w n).2.2.1
  | 0 => h
  | n + 1 => by
    have ih := sm_pk_B (sh := sh) (tm := tm) (tn := tn) h n
    cases q : mo_best sh tm (mo_B sh tm tn w n).2.2.2.2 tn with
    | none => rw [mo_B_0 q]; exact ih
    | some b =>
      by_cases z : tm b ≤ (mo_B sh tm tn w n).1
      · rw [mo_B_y q z]; exact sm_pk_s ih (mo_best_lt q).1
      · rw [mo_B_n q (by omega)]; exact ih
