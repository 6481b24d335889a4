/-! kx: rows over naturals and booleans; a reading form and a writing form of contract, and their calls -/
def kx_b (b : Bool) : Int32 := if b then 1 else 0
def kx_ni (f : Nat → Nat) : Nat → Int32 := fun j => nI (f j)
def kx_bi (f : Nat → Bool) : Nat → Int32 := fun j => kx_b (f j)
theorem kx_ni_up (f : Nat → Nat) (k x : Nat) : upd (kx_ni f) k (nI x) = kx_ni (va_up f k x) := by
  funext j; by_cases h : j = k <;> simp [upd, kx_ni, va_up, h]
theorem kx_bi_up (f : Nat → Bool) (k : Nat) (x : Bool) : upd (kx_bi f) k (kx_b x) = kx_bi (va_up f k x) := by
  funext j; by_cases h : j = k <;> simp [upd, kx_bi, va_up, h]
theorem kx_updL (f : Nat → Int64) (k : Nat) (x : Int64) : vp_updL f k x = va_up f k x := rfl
theorem kx_nar (x : Bool) : vp_nar .boolean (kx_b x) = kx_b x := by cases x <;> decide
theorem kx_nrw (x : Bool) : narrow .boolean (.int (kx_b x)) = .int (kx_b x) := by cases x <;> decide
theorem kx_b_eq0 {x : Bool} (h : kx_b x = 0) : x = false := by cases x; rfl; exact absurd h (by decide)
theorem kx_b_ne0 {x : Bool} (h : ¬ kx_b x = 0) : x = true := by cases x; exact absurd rfl h; rfl
/-! px: pure words that the contracts speak in -/
/-- x is the number of one of n things -/
def px_has (n : Nat) (x : Int32) : Bool := decide (¬ x < 0 ∧ x < nI n)
def px_ix (x : Int32) : Nat := x.toNatClampNeg
theorem px_has_neg {n : Nat} {x : Int32} (h : x < 0) : px_has n x = false := decide_eq_false (fun q => q.1 h)
theorem px_has_nI {n k : Nat} (hk : k < 2 ^ 31) (hn : n < 2 ^ 31) : px_has n (nI k) = decide (k < n) := by
  unfold px_has
  by_cases h : k < n
  · rw [decide_eq_true h]; exact decide_eq_true ⟨nI_pos hk, nI_lt h hn⟩
  · rw [decide_eq_false h]; exact decide_eq_false (fun q => h ((nI_ltI hk hn).mp q.2))
theorem px_has_t {n : Nat} {x : Int32} (hn : n < 2 ^ 31) (h : px_has n x = true) : ∃ k, k < n ∧ x = nI k := by
  have h1 := of_decide_eq_true h
  obtain ⟨k, hk, rfl⟩ := nI_of h1.1
  exact ⟨k, (nI_ltI hk hn).mp h1.2, rfl⟩
theorem px_ix_nI {k : Nat} (hk : k < 2 ^ 31) : px_ix (nI k) = k := nI_clamp hk
theorem px_up_self {α : Type} {f : Nat → α} {k : Nat} {x : α} (h : f k = x) : va_up f k x = f := by
  funext j; unfold va_up
  by_cases q : j = k
  · rw [if_pos q, q, h]
  · rw [if_neg q]
/-- the first i from f, the rest from g -/
def px_mix {α : Type} (f g : Nat → α) (i : Nat) : Nat → α := fun j => if j < i then f j else g j
theorem px_mix_0 {α : Type} (f g : Nat → α) : px_mix f g 0 = g := by funext j; simp [px_mix]
theorem px_mix_self {α : Type} (f g : Nat → α) (i : Nat) : px_mix f g i i = g i := by simp [px_mix]
theorem px_mix_up {α : Type} (f g : Nat → α) (i : Nat) : va_up (px_mix f g i) i (f i) = px_mix f g (i + 1) := by
  funext j; unfold va_up px_mix
  by_cases h : j = i
  · subst h; simp
  · by_cases h2 : j < i
    · rw [if_neg h, if_pos h2, if_pos (by omega)]
    · rw [if_neg h, if_neg h2, if_neg (by omega)]
theorem px_hand {α : Type} (x : α) (g : Nat → α) (i : Nat) : va_up (px_mix (fun _ => x) g i) i x = px_mix (fun _ => x) g (i + 1) := px_mix_up (fun _ => x) g i
theorem px_cpy {α : Type} (f g : Nat → α) (n : Nat) : va_cpy f g 0 0 n = px_mix f g n := by
  funext j; unfold va_cpy px_mix
  by_cases h : j < n
  · rw [if_pos ⟨Nat.zero_le _, by omega⟩, if_pos h]; congr 1; omega
  · rw [if_neg (fun q => h (by omega)), if_neg h]
/-- k is among the first n of f -/
def px_mem (f : Nat → Nat) (n k : Nat) : Bool := decide (∃ j, j < n ∧ f j = k)
/-- one more failure with each of the first i that t marks -/
def px_fail (f : Nat → Nat) (t : Nat → Bool) (i : Nat) : Nat → Nat := fun j => if j < i ∧ t j = true then f j + 1 else f j
theorem px_fail_0 (f : Nat → Nat) (t : Nat → Bool) : px_fail f t 0 = f := by funext j; simp [px_fail]
theorem px_fail_self (f : Nat → Nat) (t : Nat → Bool) (i : Nat) : px_fail f t i i = f i := by simp [px_fail]
theorem px_fail_t {f : Nat → Nat} {t : Nat → Bool} {i : Nat} (h : t i = true) : va_up (px_fail f t i) i (f i + 1) = px_fail f t (i + 1) := by
  funext j; unfold va_up px_fail
  by_cases hj : j = i
  · subst hj; simp [h]
  · by_cases h2 : j < i
    · have h3 : j < i + 1 := by omega
      simp [hj, h2, h3]
    · have h3 : ¬ j < i + 1 := by omega
      simp [hj, h2, h3]
theorem px_fail_f {f : Nat → Nat} {t : Nat → Bool} {i : Nat} (h : t i = false) : px_fail f t i = px_fail f t (i + 1) := by
  funext j; unfold px_fail
  by_cases hj : j = i
  · subst hj; simp [h]
  · by_cases h2 : j < i
    · have h3 : j < i + 1 := by omega
      simp [h2, h3]
    · have h3 : ¬ j < i + 1 := by omega
      simp [h2, h3]
/-- the sum of f over the marked ones of the first i -/
def px_sum (f : Nat → Nat) (t : Nat → Bool) : Nat → Nat
  | 0 => 0
  | i + 1 => px_sum f t i + if t i = true then f i else 0
theorem px_sum_t {f : Nat → Nat} {t : Nat → Bool} {i : Nat} (h : t i = true) : px_sum f t (i + 1) = px_sum f t i + f i := by simp [px_sum, h]
theorem px_sum_f {f : Nat → Nat} {t : Nat → Bool} {i : Nat} (h : t i = false) : px_sum f t (i + 1) = px_sum f t i := by simp [px_sum, h]
/-- the file k is as it was: its rest, and its functions up to i -/
def px_fn (kf fn : Nat → Int64) (fo : Nat → Nat) (kc k i : Nat) : Prop := ∀ j, j < i → fo j = k → j < kc ∧ kf j = fn j
def px_as (kr rs kf fn : Nat → Int64) (fo : Nat → Nat) (kc nc k : Nat) : Bool := decide (kr k = rs k) && decide (∀ j, j < nc → fo j = k → j < kc ∧ kf j = fn j)
theorem px_as_no1 {kr rs kf fn : Nat → Int64} {fo : Nat → Nat} {kc nc k : Nat} (h : kr k ≠ rs k) : px_as kr rs kf fn fo kc nc k = false := by simp [px_as, h]
theorem px_as_no2 {kr rs kf fn : Nat → Int64} {fo : Nat → Nat} {kc nc k j : Nat} (hj : j < nc) (hf : fo j = k) (h : ¬ (j < kc ∧ kf j = fn j)) : px_as kr rs kf fn fo kc nc k = false := by
  unfold px_as
  rw [Bool.and_eq_false_iff]
  exact Or.inr (decide_eq_false (fun q => h (q j hj hf)))
theorem px_as_yes {kr rs kf fn : Nat → Int64} {fo : Nat → Nat} {kc nc k : Nat} (h : kr k = rs k) (h2 : px_fn kf fn fo kc k nc) : px_as kr rs kf fn fo kc nc k = true := by
  unfold px_as
  rw [Bool.and_eq_true]
  exact ⟨decide_eq_true h, decide_eq_true h2⟩
theorem px_fn_0 {kf fn : Nat → Int64} {fo : Nat → Nat} {kc k : Nat} : px_fn kf fn fo kc k 0 := fun j h => by omega
theorem px_fn_s {kf fn : Nat → Int64} {fo : Nat → Nat} {kc k i : Nat} (h : px_fn kf fn fo kc k i) (h2 : fo i = k → i < kc ∧ kf i = fn i) : px_fn kf fn fo kc k (i + 1) := fun j hj hf => by
  rcases Nat.lt_or_ge j i with q | q
  · exact h j q hf
  · have : j = i := by omega
    subst this; exact h2 hf
/-- what a kept read is a reason for; 0 for none -/
def px_rr (md : Nat) (kr rs kf fn : Nat → Int64) (fo : Nat → Nat) (kc nc r : Nat) : Nat :=
  if r < 20 then (if px_as kr rs kf fn fo kc nc r = true then 0 else 4)
  else if md ≠ 1 then (if px_as kr rs kf fn fo kc nc (fo (r - 20)) = true then 0 else 4)
  else if kf (r - 20) ≠ fn (r - 20) then 5
  else if kr (fo (r - 20)) ≠ rs (fo (r - 20)) then 6 else 0
def px_bit (w : Int64) (r : Nat) : Bool := w.toBitVec.getLsbD r
/-- the least reason among the first i reads that b has; 0 for none -/
def px_fr (b : Nat → Bool) (g : Nat → Nat) : Nat → Nat
  | 0 => 0
  | i + 1 => if b i = true ∧ g i ≠ 0 ∧ (px_fr b g i = 0 ∨ g i < px_fr b g i) then g i else px_fr b g i
/-- how many of the first i reads that b has are no reason -/
def px_ch (b : Nat → Bool) (g : Nat → Nat) : Nat → Nat
  | 0 => 0
  | i + 1 => px_ch b g i + if b i = true ∧ g i = 0 then 1 else 0
/-- the place of a new one behind the first p: before those that it beats -/
def px_pos (g : Nat → Bool) : Nat → Nat
  | 0 => 0
  | p + 1 => if g p = true then px_pos g p else p + 1
theorem px_pos_le (g : Nat → Bool) : ∀ p, px_pos g p ≤ p
  | 0 => Nat.le_refl 0
  | p + 1 => by
    unfold px_pos
    by_cases h : g p = true
    · rw [if_pos h]; exact Nat.le_succ_of_le (px_pos_le g p)
    · rw [if_neg h]; exact Nat.le_refl _
/-- f with a gap at q: those behind it, up to n, moved by one -/
def px_shift {α : Type} (f : Nat → α) (q n : Nat) : Nat → α := fun j => if j ≤ q then f j else if j ≤ n then f (j - 1) else f j
def px_ins {α : Type} (f : Nat → α) (q n : Nat) (x : α) : Nat → α := fun j => if j < q then f j else if j = q then x else if j ≤ n then f (j - 1) else f j
theorem px_shift_n {α : Type} (f : Nat → α) (n : Nat) : px_shift f n n = f := by
  funext j; unfold px_shift
  by_cases h : j ≤ n
  · rw [if_pos h]
  · rw [if_neg h, if_neg h]
theorem px_shift_lo {α : Type} (f : Nat → α) {q n j : Nat} (h : j ≤ q) : px_shift f q n j = f j := by simp [px_shift, h]
theorem px_shift_s {α : Type} (f : Nat → α) {q n : Nat} (h : q + 1 ≤ n) : va_up (px_shift f (q + 1) n) (q + 1) (f q) = px_shift f q n := by
  funext j; unfold va_up px_shift
  by_cases h1 : j = q + 1
  · subst h1
    rw [if_pos rfl, if_neg (by omega), if_pos h]; rfl
  · by_cases h2 : j ≤ q
    · rw [if_neg h1, if_pos (by omega), if_pos h2]
    · rw [if_neg h1, if_neg (by omega), if_neg h2]
theorem px_shift_ins {α : Type} (f : Nat → α) (q n : Nat) (x : α) : va_up (px_shift f q n) q x = px_ins f q n x := by
  funext j; unfold va_up px_shift px_ins
  by_cases h1 : j = q
  · subst h1; simp
  · by_cases h2 : j < q
    · rw [if_neg h1, if_pos (by omega), if_pos h2]
    · rw [if_neg h1, if_neg (by omega), if_neg h2, if_neg h1]
theorem px_l {n : Nat} (h : n < 2 ^ 31) : (nI n).toInt64 = lN n := nI_l h
theorem px_gt {a b c d : Nat} (ha : a < 2 ^ 31) (hb : b < 2 ^ 31) (hc : c < 2 ^ 31) (hd : d < 2 ^ 31) : (nI a).toInt64 * (nI b).toInt64 < (nI c).toInt64 * (nI d).toInt64 ↔ a * b < c * d := by
  rw [nI_l ha, nI_l hb, nI_l hc, nI_l hd, lN_mul, lN_mul]
  have h1 : a * b < 2 ^ 63 := Nat.lt_of_le_of_lt (Nat.mul_le_mul (Nat.le_of_lt ha) (Nat.le_of_lt hb)) (by decide)
  have h2 : c * d < 2 ^ 63 := Nat.lt_of_le_of_lt (Nat.mul_le_mul (Nat.le_of_lt hc) (Nat.le_of_lt hd)) (by decide)
  exact pk_lLT h1 h2
theorem kx_inc (i n : Nat) (h : Int32.ofInt (n : Int) = nI n) : nI i + Int32.ofInt (n : Int) = nI (i + n) := by rw [h]; exact nI_add i n
theorem kx_dec (i : Nat) (h : 0 < i) : nI i + Int32.ofInt (-1) = nI (i - 1) := by
  obtain ⟨k, rfl⟩ : ∃ k, i = k + 1 := ⟨i - 1, by omega⟩
  exact pk_m1 k
theorem kx_fit (x : Bool) : fits .boolean (.int (kx_b x)) = true := by cases x <;> decide
def px_why (md : Nat) (hr : Bool) (sg ks : Int64) (x : Nat) : Nat := if md = 2 then 1 else if hr = false then 2 else if sg ≠ ks then 3 else x
theorem px_rr_lt {md : Nat} {kr rs kf fn : Nat → Int64} {fo : Nat → Nat} {kc nc r : Nat} : px_rr md kr rs kf fn fo kc nc r < 7 := by
  unfold px_rr
  repeat' split
  all_goals omega
theorem px_fr_lt {b : Nat → Bool} {g : Nat → Nat} (h : ∀ r, g r < 7) : ∀ i, px_fr b g i < 7
  | 0 => by unfold px_fr; omega
  | i + 1 => by
    unfold px_fr
    split
    · exact h i
    · exact px_fr_lt h i
theorem px_fr_z {b : Nat → Bool} {g : Nat → Nat} {i : Nat} (h : b i = false ∨ g i = 0) : px_fr b g (i + 1) = px_fr b g i := by
  conv => lhs; unfold px_fr
  rw [if_neg]
  intro q
  rcases h with h | h
  · exact absurd (q.1.symm.trans h) (by decide)
  · exact q.2.1 h
theorem px_fr_y {b : Nat → Bool} {g : Nat → Nat} {i : Nat} (h : b i = true) (h1 : g i ≠ 0) (h2 : px_fr b g i = 0 ∨ g i < px_fr b g i) : px_fr b g (i + 1) = g i := by
  conv => lhs; unfold px_fr
  rw [if_pos ⟨h, h1, h2⟩]
theorem px_fr_n {b : Nat → Bool} {g : Nat → Nat} {i : Nat} (h1 : px_fr b g i ≠ 0) (h2 : px_fr b g i ≤ g i) : px_fr b g (i + 1) = px_fr b g i := by
  conv => lhs; unfold px_fr
  rw [if_neg]
  intro q
  rcases q.2.2 with q | q
  · exact h1 q
  · omega
theorem px_ch_a {b : Nat → Bool} {g : Nat → Nat} {i : Nat} (h : b i = false) : px_ch b g (i + 1) = px_ch b g i := by simp [px_ch, h]
theorem px_ch_b {b : Nat → Bool} {g : Nat → Nat} {i : Nat} (h : g i ≠ 0) : px_ch b g (i + 1) = px_ch b g i := by simp [px_ch, h]
theorem px_ch_y {b : Nat → Bool} {g : Nat → Nat} {i : Nat} (h : b i = true) (h1 : g i = 0) : px_ch b g (i + 1) = px_ch b g i + 1 := by simp [px_ch, h, h1]
def px_one (r : Nat) : Int64 := (1 : Int64) <<< ((nI r).toInt64 &&& 63)
theorem kx_bool (b : Bool) : b = false ∨ b = true := by cases b <;> simp
theorem px_ge1 {x : Int32} (h : ¬ x < nI 1) : ∃ k, k < 2 ^ 31 ∧ 1 ≤ k ∧ x = nI k := by
  have h0 : ¬ x < 0 := fun q => h (Int32.lt_trans q (by decide))
  obtain ⟨k, hk, rfl⟩ := nI_of h0
  refine ⟨k, hk, ?_, rfl⟩
  rcases Nat.eq_zero_or_pos k with q | q
  · subst q; exact absurd (by decide) h
  · exact q
theorem px_lt1 {n : Nat} {x : Int32} (hn : n < 2 ^ 31) (h : x < nI 1) (h2 : px_has n x = true) : x = 0 := by
  obtain ⟨k, hk, rfl⟩ := px_has_t hn h2
  have : k < 1 := (nI_ltI (by omega) (by decide)).mp h
  have : k = 0 := by omega
  subst this; exact nI_0
/-- which read is told: a file's own, or a function's behind those of all files -/
def px_rd (fc nc : Nat) (fo : Nat → Nat) (p1 p2 : Int32) : Option Nat := if px_has fc p1 = true then (if p2 = -1 then some (px_ix p1) else if px_has nc p2 = true ∧ fo (px_ix p2) = px_ix p1 then some (20 + px_ix p2) else none) else none
theorem px_rd_a {fc nc : Nat} {fo : Nat → Nat} {p1 p2 : Int32} (h : px_has fc p1 = false) : px_rd fc nc fo p1 p2 = none := by unfold px_rd; rw [if_neg (by rw [h]; decide)]
theorem px_rd_b {fc nc : Nat} {fo : Nat → Nat} {p1 : Int32} (h : px_has fc p1 = true) : px_rd fc nc fo p1 (-1) = some (px_ix p1) := by unfold px_rd; rw [if_pos h, if_pos rfl]
theorem px_rd_c {fc nc : Nat} {fo : Nat → Nat} {p1 p2 : Int32} (h : px_has fc p1 = true) (h1 : ¬ p2 = -1) (h2 : ¬ (px_has nc p2 = true ∧ fo (px_ix p2) = px_ix p1)) : px_rd fc nc fo p1 p2 = none := by unfold px_rd; rw [if_pos h, if_neg h1, if_neg h2]
theorem px_rd_d {fc nc : Nat} {fo : Nat → Nat} {p1 p2 : Int32} (h : px_has fc p1 = true) (h1 : ¬ p2 = -1) (h2 : px_has nc p2 = true) (h3 : fo (px_ix p2) = px_ix p1) : px_rd fc nc fo p1 p2 = some (20 + px_ix p2) := by unfold px_rd; rw [if_pos h, if_neg h1, if_pos ⟨h2, h3⟩]
theorem kx_pred (n : Nat) : nI (n + 1) - nI 1 = nI n := nI_pred n
theorem px_has_no {n k : Nat} (hk : k < 2 ^ 31) (hn : n < 2 ^ 31) (h : n ≤ k) : px_has n (nI k) = false := by rw [px_has_nI hk hn]; exact decide_eq_false (by omega)
theorem px_has_yes {n k : Nat} (hk : k < 2 ^ 31) (hn : n < 2 ^ 31) (h : k < n) : px_has n (nI k) = true := by rw [px_has_nI hk hn]; exact decide_eq_true h
