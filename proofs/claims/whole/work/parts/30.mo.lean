/-! mo: pure words for the reference, and a row for stores of any int -/
section KI
variable {p : Program} {l : Launch} {e : Env} {R : Room} {s : State} {m : MethodId} {args : Array Value} {below : List Frame} {meth : Method} {c : Code} {H : Heap} {locs : List Loc} {cells slots : Nat} {Q : State → Prop}
variable {cc : ByteArray} {pc : Nat} {ls : Array Slot} {rest : List Value} {D : va_G} {cl : List vw_C} {A : Nat → Prop} {a : Nat} {tys : List (ClassId × FieldType)} {ws : va_W} {H0 : Heap}
theorem kx_iastI (hexec : p.tables.exec = Jvm.exec) (hb : c.code = cc) (hK : va_K D cl tys s) (hP : va_P D cl ws H) (hD : va_D A ws) (hS : va_S A H0 H locs) (q0 t0 : Nat) {cA : ClassId} {n : Nat} {f : Nat → Int32} (ha : ws[q0]? = some (a, .inl (cA, n, .inl f))) (ht : tys[t0]? = some (cA, .int)) {k : Nat} {x : Int32} (hk : k < n) (hn : n < 2 ^ 31) (hdg : decode cc pc = .ok (.iastore, 1)) (kk : ∀ (H1 : Heap) (locs1 : List Loc), va_P D cl (ws.set q0 (a, .inl (cA, n, .inl (va_up f k x)))) H1 → va_D A (ws.set q0 (a, .inl (cA, n, .inl (va_up f k x)))) → va_S A H0 H1 locs1 → W p l e R s m args below meth c H1 locs1 cells slots Q (F0 m (pc + 1) ls rest)) : W p l e R s m args below meth c H locs cells slots Q (F0 m pc ls (.int x :: .int (nI k) :: .ref a :: rest)) := by
  refine va_iast hexec hb hK hP hD hS q0 t0 ha ht (vp_in_nI hk hn) hdg (fun H1 locs1 h1 h2 h3 => ?_)
  rw [nI_clamp (Nat.lt_trans hk hn), show upd f k x = va_up f k x from rfl] at h1 h2
  exact kk H1 locs1 h1 h2 h3
end KI
theorem mo_cpy_0 {α : Type} (f g : Nat → α) (sp dp : Nat) : va_cpy f g sp dp 0 = g := by
  funext j; unfold va_cpy; rw [if_neg (by omega)]
theorem mo_cpy_s {α : Type} (f g : Nat → α) (sp dp i : Nat) : va_up (va_cpy f g sp dp i) (dp + i) (f (sp + i)) = va_cpy f g sp dp (i + 1) := by
  funext j; unfold va_up va_cpy
  by_cases h : j = dp + i
  · subst h
    rw [if_pos rfl, if_pos (by omega)]
    congr 1; omega
  · by_cases h2 : dp ≤ j ∧ j < dp + i
    · rw [if_neg h, if_pos h2, if_pos (by omega)]
    · rw [if_neg h, if_neg h2, if_neg (by omega)]
theorem mo_cpy_z {α : Type} (f g : Nat → α) (dp i : Nat) : va_up (va_cpy f g 0 dp i) (dp + i) (f i) = va_cpy f g 0 dp (i + 1) := by
  have h := mo_cpy_s f g 0 dp i
  rw [Nat.zero_add] at h
  exact h
/-- a told read is among the first n of test t -/
def mo_found (nf : Nat → Nat) (ng : Nat → Int32) (t n f : Nat) (g : Int32) : Bool := decide (∃ k, k < n ∧ nf (30 * t + k) = f ∧ ng (30 * t + k) = g)
/-- one more failure of test t with each of the first i files that w marks -/
def mo_fail (bo : Nat → Nat) (w : Nat → Bool) (t i : Nat) : Nat → Nat := fun j => if 20 * t ≤ j ∧ j < 20 * t + i ∧ w (j - 20 * t) = true then bo j + 1 else bo j
theorem mo_fail_0 (bo : Nat → Nat) (w : Nat → Bool) (t : Nat) : mo_fail bo w t 0 = bo := by funext j; unfold mo_fail; rw [if_neg (by omega)]
theorem mo_fail_self (bo : Nat → Nat) (w : Nat → Bool) (t i : Nat) : mo_fail bo w t i (20 * t + i) = bo (20 * t + i) := by unfold mo_fail; rw [if_neg (by omega)]
theorem mo_fail_t {bo : Nat → Nat} {w : Nat → Bool} {t i : Nat} (h : w i = true) : va_up (mo_fail bo w t i) (20 * t + i) (bo (20 * t + i) + 1) = mo_fail bo w t (i + 1) := by
  funext j; unfold va_up mo_fail
  by_cases hj : j = 20 * t + i
  · subst hj
    rw [if_pos rfl, if_pos ⟨by omega, by omega, by rw [Nat.add_sub_cancel_left]; exact h⟩]
  · rw [if_neg hj]
    by_cases h2 : 20 * t ≤ j ∧ j < 20 * t + i ∧ w (j - 20 * t) = true
    · rw [if_pos h2, if_pos ⟨h2.1, by omega, h2.2.2⟩]
    · rw [if_neg h2, if_neg (fun q => h2 ⟨q.1, by omega, q.2.2⟩)]
theorem mo_fail_f {bo : Nat → Nat} {w : Nat → Bool} {t i : Nat} (h : w i = false) : va_up (mo_fail bo w t i) (20 * t + i) (bo (20 * t + i) + 0) = mo_fail bo w t (i + 1) := by
  funext j; unfold va_up mo_fail
  by_cases hj : j = 20 * t + i
  · subst hj
    rw [if_pos rfl, if_neg (fun q => by have h8 := q.2.2; rw [Nat.add_sub_cancel_left, h] at h8; exact Bool.noConfusion h8)]
    rfl
  · rw [if_neg hj]
    by_cases h2 : 20 * t ≤ j ∧ j < 20 * t + i ∧ w (j - 20 * t) = true
    · rw [if_pos h2, if_pos ⟨h2.1, by omega, h2.2.2⟩]
    · rw [if_neg h2, if_neg (fun q => h2 ⟨q.1, by omega, q.2.2⟩)]
/-- a test's then-digests -/
def mo_tr (tr : Nat → Int64) (t : Nat) : Nat → Int64 := fun f => tr (20 * t + f)
def mo_tb (tb : Nat → Int64) (t : Nat) : Nat → Int64 := fun k => tb (40 * t + k)
def mo_as (tr tb rs fn : Nat → Int64) (fo tf : Nat → Nat) (nc t f : Nat) : Bool := px_as (mo_tr tr t) rs (mo_tb tb t) fn fo (tf t) nc f
/-- what the k-th kept read of test t is a reason for -/
def mo_ro (md : Nat → Nat) (og : Nat → Int32) (oq : Nat → Nat) (tr tb rs fn : Nat → Int64) (fo tf : Nat → Nat) (nc t k : Nat) : Nat :=
  if md t ≠ 1 ∨ og (30 * t + k) = -1 then (if mo_as tr tb rs fn fo tf nc t (oq (30 * t + k)) = true then 0 else 4)
  else if tb (40 * t + px_ix (og (30 * t + k))) ≠ fn (px_ix (og (30 * t + k))) then 5
  else if tr (20 * t + oq (30 * t + k)) ≠ rs (oq (30 * t + k)) then 6 else 0
theorem mo_ro_lt {md : Nat → Nat} {og : Nat → Int32} {oq : Nat → Nat} {tr tb rs fn : Nat → Int64} {fo tf : Nat → Nat} {nc t k : Nat} : mo_ro md og oq tr tb rs fn fo tf nc t k < 7 := by
  unfold mo_ro
  repeat' split
  all_goals omega
def mo_tt : Nat → Bool := fun _ => true
/-- the file f of the functions before i: all as then -/
theorem mo_as_s {tr tb rs fn : Nat → Int64} {fo tf : Nat → Nat} {t f i : Nat} {b : Bool} (hb : b = mo_as tr tb rs fn fo tf i t f) (h : fo i ≠ f) : b = mo_as tr tb rs fn fo tf (i + 1) t f := by
  rw [hb]
  unfold mo_as px_as
  congr 1
  apply decide_eq_decide.mpr
  constructor
  · intro q j hj hf
    rcases Nat.lt_or_ge j i with r | r
    · exact q j r hf
    · exact absurd (by rw [show j = i by omega] at hf; exact hf) h
  · intro q j hj hf
    exact q j (by omega) hf
theorem mo_as_f {tr tb rs fn : Nat → Int64} {fo tf : Nat → Nat} {t f i n : Nat} (h : mo_as tr tb rs fn fo tf i t f = false) (hn : i ≤ n) : mo_as tr tb rs fn fo tf n t f = false := by
  cases q : mo_as tr tb rs fn fo tf n t f with
  | false => rfl
  | true =>
    unfold mo_as px_as at q h
    rw [Bool.and_eq_true] at q
    have q2 := of_decide_eq_true q.2
    rw [q.1, Bool.true_and, decide_eq_true (fun j hj hf => q2 j (by omega) hf)] at h
    exact Bool.noConfusion h
theorem mo_as_n {tr tb rs fn : Nat → Int64} {fo tf : Nat → Nat} {t f i : Nat} (hf : fo i = f) (h : ¬ (i < tf t ∧ tb (40 * t + i) = fn i)) : mo_as tr tb rs fn fo tf (i + 1) t f = false := px_as_no2 (by omega) hf h
theorem mo_as_y {tr tb rs fn : Nat → Int64} {fo tf : Nat → Nat} {t f i : Nat} (hb : mo_as tr tb rs fn fo tf i t f = true) (h : i < tf t) (h2 : tb (40 * t + i) = fn i) : mo_as tr tb rs fn fo tf (i + 1) t f = true := by
  unfold mo_as px_as at hb
  rw [Bool.and_eq_true] at hb
  have h9 := of_decide_eq_true hb.2
  exact px_as_yes (of_decide_eq_true hb.1) (px_fn_s h9 (fun _ => ⟨h, h2⟩))
theorem mo_as_0 {tr tb rs fn : Nat → Int64} {fo tf : Nat → Nat} {t f : Nat} : decide (tr (20 * t + f) = rs f) = mo_as tr tb rs fn fo tf 0 t f := by
  by_cases q : tr (20 * t + f) = rs f
  · rw [decide_eq_true q]; exact (px_as_yes (kr := mo_tr tr t) q px_fn_0).symm
  · rw [decide_eq_false q]; exact (px_as_no1 (kr := mo_tr tr t) q).symm
/-- the best of the first n tests that aren't marked -/
def mo_best (sh tm : Nat → Nat) (lk : Nat → Bool) : Nat → Option Nat
  | 0 => none
  | t + 1 => if lk t = true ∨ sh t = 0 then mo_best sh tm lk t else match mo_best sh tm lk t with
    | none => some t
    | some b => if sh b * tm t < sh t * tm b then some t else some b
def mo_oi (o : Option Nat) : Int32 := match o with
  | none => -1
  | some b => nI b
theorem mo_best_a {sh tm : Nat → Nat} {lk : Nat → Bool} {t : Nat} (h : lk t = true) : mo_best sh tm lk (t + 1) = mo_best sh tm lk t := if_pos (Or.inl h)
theorem mo_best_b {sh tm : Nat → Nat} {lk : Nat → Bool} {t : Nat} (h : sh t = 0) : mo_best sh tm lk (t + 1) = mo_best sh tm lk t := if_pos (Or.inr h)
theorem mo_best_c {sh tm : Nat → Nat} {lk : Nat → Bool} {t : Nat} (h : lk t = false) (h1 : sh t ≠ 0) (h2 : mo_best sh tm lk t = none) : mo_best sh tm lk (t + 1) = some t := by
  have e : mo_best sh tm lk (t + 1) = _ := if_neg (fun q => q.elim (fun q => by rw [h] at q; exact Bool.noConfusion q) h1)
  rw [e, h2]
theorem mo_best_d {sh tm : Nat → Nat} {lk : Nat → Bool} {t b : Nat} (h : lk t = false) (h1 : sh t ≠ 0) (h2 : mo_best sh tm lk t = some b) (h3 : sh b * tm t < sh t * tm b) : mo_best sh tm lk (t + 1) = some t := by
  have e : mo_best sh tm lk (t + 1) = _ := if_neg (fun q => q.elim (fun q => by rw [h] at q; exact Bool.noConfusion q) h1)
  rw [e, h2]
  exact if_pos h3
theorem mo_best_e {sh tm : Nat → Nat} {lk : Nat → Bool} {t b : Nat} (h : lk t = false) (h1 : sh t ≠ 0) (h2 : mo_best sh tm lk t = some b) (h3 : ¬ sh b * tm t < sh t * tm b) : mo_best sh tm lk (t + 1) = some b := by
  have e : mo_best sh tm lk (t + 1) = _ := if_neg (fun q => q.elim (fun q => by rw [h] at q; exact Bool.noConfusion q) h1)
  rw [e, h2]
  exact if_neg h3
theorem mo_best_lt {sh tm : Nat → Nat} {lk : Nat → Bool} : ∀ {t b : Nat}, mo_best sh tm lk t = some b → b < t ∧ lk b = false ∧ sh b ≠ 0
  | 0, b, h => by cases h
  | t + 1, b, h => by
    by_cases h1 : lk t = true ∨ sh t = 0
    · have e : mo_best sh tm lk (t + 1) = _ := if_pos h1
      rw [e] at h
      have := mo_best_lt h
      exact ⟨by omega, this.2⟩
    · have hl : lk t = false := by cases q : lk t; rfl; exact absurd (Or.inl q) h1
      have hs : sh t ≠ 0 := fun q => h1 (Or.inr q)
      cases q : mo_best sh tm lk t with
      | none =>
        rw [mo_best_c hl hs q] at h
        cases h
        exact ⟨by omega, hl, hs⟩
      | some d =>
        by_cases h3 : sh d * tm t < sh t * tm d
        · rw [mo_best_d hl hs q h3] at h
          cases h
          exact ⟨by omega, hl, hs⟩
        · rw [mo_best_e hl hs q h3] at h
          cases h
          have := mo_best_lt q
          exact ⟨by omega, this.2⟩
theorem mo_oi_n {o : Option Nat} {n : Nat} (hn : n < 2 ^ 31) (ho : ∀ b, o = some b → b < n) (h : mo_oi o = -1) : o = none := by
  cases o with
  | none => rfl
  | some b =>
    have hb := ho b rfl
    have h1 : nI b = -1 := h
    exact absurd (nI_pos' (show b < 2 ^ 31 by omega)) (by rw [h1]; decide)
theorem mo_oi_s {o : Option Nat} (h : ¬ mo_oi o = -1) : ∃ b, o = some b := by
  cases o with
  | none => exact absurd rfl h
  | some b => exact ⟨b, rfl⟩
theorem mo_neg {x : Int32} (h : x < 0) : ¬ x = 0 ∧ ¬ x = nI 1 := by
  refine ⟨fun q => ?_, fun q => ?_⟩
  · rw [q] at h; exact absurd h (by decide)
  · rw [q] at h; exact absurd h (by decide)
theorem mo_big {w : Nat} (h : w < 2 ^ 31) (h1 : 1 < w) : ¬ nI w = 0 ∧ ¬ nI w = nI 1 := by
  refine ⟨fun q => ?_, fun q => ?_⟩
  · have := kx_n0 h q; omega
  · have := (nI_eq h (by decide)).mp q; omega
theorem mo_one : ¬ nI 1 = 0 := by decide
