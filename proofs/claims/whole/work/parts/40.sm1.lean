/-! sm: the class's words against the reference's -/
theorem sm_fr_spec (b : Nat → Bool) (g : Nat → Nat) : ∀ n, (px_fr b g n = 0 → ∀ i, i < n → b i = true → g i = 0) ∧ (px_fr b g n ≠ 0 → (∃ i, i < n ∧ b i = true ∧ g i = px_fr b g n) ∧ ∀ i, i < n → b i = true → g i ≠ 0 → px_fr b g n ≤ g i)
  | 0 => ⟨fun _ i h => absurd h (by omega), fun h => absurd rfl h⟩
  | n + 1 => by
    obtain ⟨h1, h2⟩ := sm_fr_spec b g n
    by_cases q : b n = true ∧ g n ≠ 0 ∧ (px_fr b g n = 0 ∨ g n < px_fr b g n)
    · rw [px_fr_y q.1 q.2.1 q.2.2]
      refine ⟨fun h => absurd h q.2.1, fun _ => ⟨⟨n, by omega, q.1, rfl⟩, fun i hi hb hg => ?_⟩⟩
      rcases Nat.lt_or_ge i n with r | r
      · rcases q.2.2 with z | z
        · exact absurd (h1 z i r hb) hg
        · exact Nat.le_trans (Nat.le_of_lt z) ((h2 (by omega)).2 i r hb hg)
      · rw [show i = n by omega]; exact Nat.le_refl _
    · have e : px_fr b g (n + 1) = px_fr b g n := if_neg q
      rw [e]
      refine ⟨fun h i hi hb => ?_, fun h => ⟨?_, fun i hi hb hg => ?_⟩⟩
      · rcases Nat.lt_or_ge i n with r | r
        · exact h1 h i r hb
        · have hin : i = n := by omega
          subst hin
          rcases Nat.eq_zero_or_pos (g i) with z | z
          · exact z
          · exact absurd ⟨hb, by omega, Or.inl h⟩ q
      · obtain ⟨⟨i, hi, hb, hg⟩, _⟩ := h2 h
        exact ⟨i, by omega, hb, hg⟩
      · rcases Nat.lt_or_ge i n with r | r
        · exact (h2 h).2 i r hb hg
        · have hin : i = n := by omega
          subst hin
          rcases Nat.lt_or_ge (g i) (px_fr b g i) with z | z
          · exact absurd ⟨hb, hg, Or.inr z⟩ q
          · exact z
theorem sm_fr_eq {b c : Nat → Bool} {g h : Nat → Nat} {n m : Nat} (h1 : ∀ i, i < n → b i = true → ∃ j, j < m ∧ c j = true ∧ h j = g i) (h2 : ∀ j, j < m → c j = true → ∃ i, i < n ∧ b i = true ∧ g i = h j) : px_fr b g n = px_fr c h m := by
  obtain ⟨a1, a2⟩ := sm_fr_spec b g n
  obtain ⟨b1, b2⟩ := sm_fr_spec c h m
  rcases Nat.eq_zero_or_pos (px_fr b g n) with v | v
  · rcases Nat.eq_zero_or_pos (px_fr c h m) with w | w
    · rw [v, w]
    · obtain ⟨⟨j, hj, hc, hh⟩, _⟩ := b2 (by omega)
      obtain ⟨i, hi, hb, hg⟩ := h2 j hj hc
      have := a1 v i hi hb
      omega
  · obtain ⟨⟨i, hi, hb, hg⟩, a3⟩ := a2 (by omega)
    obtain ⟨j, hj, hc, hh⟩ := h1 i hi hb
    rcases Nat.eq_zero_or_pos (px_fr c h m) with w | w
    · have := b1 w j hj hc
      omega
    · obtain ⟨⟨j2, hj2, hc2, hh2⟩, b3⟩ := b2 (by omega)
      obtain ⟨i2, hi2, hb2, hg2⟩ := h2 j2 hj2 hc2
      have p1 := b3 j hj hc (by omega)
      have p2 := a3 i2 hi2 hb2 (by omega)
      omega
theorem sm_ch_ge {b : Nat → Bool} {g : Nat → Nat} {x : Nat} {v : Bool} : ∀ m, m ≤ x → px_ch (va_up b x v) g m = px_ch b g m
  | 0, _ => rfl
  | m + 1, h => by
    unfold px_ch
    rw [sm_ch_ge m (by omega), va_up_ne _ _ (by omega)]
theorem sm_ch_up {b : Nat → Bool} {g : Nat → Nat} {x : Nat} (hb : b x = false) : ∀ m, x < m → px_ch (va_up b x true) g m = px_ch b g m + if g x = 0 then 1 else 0
  | 0, h => by omega
  | m + 1, h => by
    unfold px_ch
    by_cases q : x = m
    · subst q
      rw [sm_ch_ge x (Nat.le_refl _), va_up_self, if_neg (show ¬ (b x = true ∧ g x = 0) from fun z => Bool.noConfusion (z.1.symm.trans hb))]
      by_cases z : g x = 0
      · rw [if_pos ⟨rfl, z⟩, if_pos z]
      · rw [if_neg (fun y => z y.2), if_neg z]
    · rw [sm_ch_up hb m (by omega), va_up_ne _ _ (fun e => q e.symm)]
      omega
theorem sm_ch_congr {b c : Nat → Bool} {g : Nat → Nat} : ∀ m, (∀ i, i < m → b i = c i) → px_ch b g m = px_ch c g m
  | 0, _ => rfl
  | m + 1, h => by
    unfold px_ch
    rw [sm_ch_congr m (fun i hi => h i (by omega)), h m (by omega)]
theorem sm_ch_none {b : Nat → Bool} {g : Nat → Nat} : ∀ m, (∀ i, i < m → b i = false) → px_ch b g m = 0
  | 0, _ => rfl
  | m + 1, h => by
    unfold px_ch
    rw [sm_ch_none m (fun i hi => h i (by omega)), if_neg (fun z => Bool.noConfusion (z.1.symm.trans (h m (by omega))))]
theorem sm_ch_eq {key g h : Nat → Nat} : ∀ (n : Nat) (b : Nat → Bool), (∀ r, r < 60 → (b r = true ↔ ∃ k, k < n ∧ key k = r)) → (∀ k, k < n → key k < 60) → (∀ k l, k < n → l < n → key k = key l → k = l) → (∀ k, k < n → g (key k) = h k) → px_ch b g 60 = px_ch mo_tt h n
  | 0, b, hb, _, _, _ => by
    rw [sm_ch_none 60 (fun i hi => ?_)]
    · rfl
    · cases q : b i with
      | false => rfl
      | true => obtain ⟨k, hk, _⟩ := (hb i hi).mp q; omega
  | n + 1, b, hb, hk, hi, hg => by
    have kn := hk n (by omega)
    have ih := sm_ch_eq (key := key) (g := g) (h := h) n (va_up b (key n) false) (fun r hr => ?_) (fun k h9 => hk k (by omega)) (fun k l h8 h9 => hi k l (by omega) (by omega)) (fun k h9 => hg k (by omega))
    · have e1 : px_ch b g 60 = px_ch (va_up (va_up b (key n) false) (key n) true) g 60 := by
        apply sm_ch_congr
        intro i hi2
        by_cases q : i = key n
        · rw [q, va_up_self]; exact (hb _ kn).mpr ⟨n, by omega, rfl⟩
        · rw [va_up_ne _ _ q, va_up_ne _ _ q]
      rw [e1, sm_ch_up (va_up_self _ _ _) 60 kn, ih, hg n (by omega)]
      show _ = px_ch mo_tt h n + if mo_tt n = true ∧ h n = 0 then 1 else 0
      by_cases z : h n = 0
      · rw [if_pos z, if_pos ⟨rfl, z⟩]
      · rw [if_neg z, if_neg (fun y => z y.2)]
    · by_cases q : r = key n
      · subst q
        rw [va_up_self]
        constructor
        · intro z; exact Bool.noConfusion z
        · rintro ⟨k, h8, h9⟩
          have := hi k n (by omega) (by omega) h9
          omega
      · rw [va_up_ne _ _ q, hb r hr]
        constructor
        · rintro ⟨k, h8, h9⟩
          rcases Nat.lt_or_ge k n with z | z
          · exact ⟨k, z, h9⟩
          · exact absurd (by rw [← h9, show k = n by omega]) q
        · rintro ⟨k, h8, h9⟩
          exact ⟨k, by omega, h9⟩
theorem sm_sum_congr {f g : Nat → Nat} {t : Nat → Bool} : ∀ n, (∀ j, j < n → f j = g j) → px_sum f t n = px_sum g t n
  | 0, _ => rfl
  | n + 1, h => by
    unfold px_sum
    rw [sm_sum_congr n (fun j hj => h j (by omega)), h n (by omega)]
theorem sm_sum_ext {f : Nat → Nat} {t : Nat → Bool} {c : Nat} : ∀ k, (∀ j, c ≤ j → j < c + k → t j = false) → px_sum f t (c + k) = px_sum f t c
  | 0, _ => rfl
  | k + 1, h => by
    show px_sum f t (c + k + 1) = _
    rw [px_sum_f (h (c + k) (by omega) (by omega)), sm_sum_ext k (fun j h1 h2 => h j h1 (by omega))]
theorem sm_sum {f g : Nat → Nat} {t : Nat → Bool} {c : Nat} (hc : c ≤ 20) (h : ∀ j, j < 20 → f j = g j) (ht : ∀ j, c ≤ j → j < 20 → t j = false) : px_sum f t 20 = px_sum g t c := by
  have e := sm_sum_ext (f := g) (t := t) (c := c) (20 - c) (fun j h1 h2 => ht j h1 (by omega))
  rw [Nat.add_sub_cancel' hc] at e
  rw [← e]
  exact sm_sum_congr 20 h
theorem sm_sum_le {f : Nat → Nat} {t : Nat → Bool} {c : Nat} (h : ∀ j, f j ≤ c) : ∀ n, px_sum f t n ≤ n * c
  | 0 => by unfold px_sum; omega
  | n + 1 => by
    have ih := sm_sum_le (t := t) h n
    have hn := h n
    unfold px_sum
    rw [Nat.add_mul]
    split <;> omega
/-- a told read: a file, or one of its functions -/
def sm_key (f : Nat) (g : Int32) : Nat := if g = -1 then f else 20 + px_ix g
def sm_val (fo : Nat → Nat) (nc f : Nat) (g : Int32) : Prop := f < 20 ∧ (g = -1 ∨ ∃ j, j < nc ∧ g = nI j ∧ fo j = f)
theorem sm_nI_ne {j : Nat} (h : j < 2 ^ 31) : ¬ nI j = -1 := fun q => absurd (nI_pos' h) (by rw [q]; decide)
theorem sm_key_f (f : Nat) : sm_key f (-1) = f := if_pos rfl
theorem sm_key_g {f j : Nat} (h : j < 2 ^ 31) : sm_key f (nI j) = 20 + j := by unfold sm_key; rw [if_neg (sm_nI_ne h), px_ix_nI h]
theorem sm_key_lt {fo : Nat → Nat} {nc f : Nat} {g : Int32} (hn : nc ≤ 40) (h : sm_val fo nc f g) : sm_key f g < 60 := by
  rcases h.2 with q | ⟨j, hj, q, _⟩
  · rw [q, sm_key_f]; have := h.1; omega
  · rw [q, sm_key_g (by omega)]; omega
theorem sm_key_inj {fo : Nat → Nat} {nc f f' : Nat} {g g' : Int32} (hn : nc ≤ 40) (h : sm_val fo nc f g) (h' : sm_val fo nc f' g') (e : sm_key f g = sm_key f' g') : f = f' ∧ g = g' := by
  obtain ⟨a1, a2⟩ := h
  obtain ⟨b1, b2⟩ := h'
  rcases a2 with q | ⟨j, hj, q, hf⟩
  · rcases b2 with r | ⟨k, hk, r, hf'⟩
    · rw [q, r, sm_key_f, sm_key_f] at e
      exact ⟨e, q.trans r.symm⟩
    · rw [q, r, sm_key_f, sm_key_g (by omega)] at e
      omega
  · rcases b2 with r | ⟨k, hk, r, hf'⟩
    · rw [q, r, sm_key_f, sm_key_g (by omega)] at e
      omega
    · rw [q, r, sm_key_g (by omega), sm_key_g (by omega)] at e
      have : j = k := by omega
      subst this
      exact ⟨hf.symm.trans hf', q.trans r.symm⟩
/-- the mask w is the set of the n told reads -/
def sm_rd (fo : Nat → Nat) (nc n : Nat) (f : Nat → Nat) (g : Nat → Int32) (w : Int64) : Prop := n ≤ 30 ∧ bc_cnt w = n ∧ (∀ k, k < n → sm_val fo nc (f k) (g k)) ∧ (∀ r, r < 60 → (px_bit w r = true ↔ ∃ k, k < n ∧ sm_key (f k) (g k) = r)) ∧ (∀ k l, k < n → l < n → sm_key (f k) (g k) = sm_key (f l) (g l) → k = l)
theorem sm_rd_0 {fo : Nat → Nat} {nc : Nat} {f : Nat → Nat} {g : Nat → Int32} : sm_rd fo nc 0 f g 0 := by
  refine ⟨by omega, bc_cnt_0, fun k h => absurd h (by omega), fun r _ => ?_, fun k l h => absurd h (by omega)⟩
  rw [px_bit_0]
  exact ⟨fun h => Bool.noConfusion h, fun ⟨k, h, _⟩ => absurd h (by omega)⟩
theorem sm_rd_congr {fo : Nat → Nat} {nc n : Nat} {f f' : Nat → Nat} {g g' : Nat → Int32} {w : Int64} (h : sm_rd fo nc n f g w) (e : ∀ k, k < n → f' k = f k ∧ g' k = g k) : sm_rd fo nc n f' g' w := by
  obtain ⟨h1, h2, h3, h4, h5⟩ := h
  refine ⟨h1, h2, fun k hk => ?_, fun r hr => ?_, fun k l hk hl => ?_⟩
  · rw [(e k hk).1, (e k hk).2]; exact h3 k hk
  · rw [h4 r hr]
    constructor
    · rintro ⟨k, hk, q⟩
      exact ⟨k, hk, by rw [(e k hk).1, (e k hk).2]; exact q⟩
    · rintro ⟨k, hk, q⟩
      exact ⟨k, hk, by rw [(e k hk).1, (e k hk).2] at q; exact q⟩
  · rw [(e k hk).1, (e k hk).2, (e l hl).1, (e l hl).2]
    exact h5 k l hk hl
theorem sm_val_grow {fo fo' : Nat → Nat} {nc nc' f : Nat} {g : Int32} (h : sm_val fo nc f g) (hn : nc ≤ nc') (e : ∀ j, j < nc → fo' j = fo j) : sm_val fo' nc' f g := by
  refine ⟨h.1, h.2.imp id ?_⟩
  rintro ⟨j, hj, q, r⟩
  exact ⟨j, by omega, q, by rw [e j hj]; exact r⟩
theorem sm_rd_grow {fo fo' : Nat → Nat} {nc nc' n : Nat} {f : Nat → Nat} {g : Nat → Int32} {w : Int64} (h : sm_rd fo nc n f g w) (hn : nc ≤ nc') (e : ∀ j, j < nc → fo' j = fo j) : sm_rd fo' nc' n f g w := ⟨h.1, h.2.1, fun k hk => sm_val_grow (h.2.2.1 k hk) hn e, h.2.2.2.1, h.2.2.2.2⟩
theorem sm_found {fo : Nat → Nat} {nc n x : Nat} {f : Nat → Nat} {g : Nat → Int32} {w : Int64} {y : Int32} (hn : nc ≤ 40) (h : sm_rd fo nc n f g w) (hv : sm_val fo nc x y) : px_bit w (sm_key x y) = true ↔ ∃ k, k < n ∧ f k = x ∧ g k = y := by
  obtain ⟨h1, h2, h3, h4, h5⟩ := h
  rw [h4 _ (sm_key_lt hn hv)]
  constructor
  · rintro ⟨k, hk, q⟩
    have := sm_key_inj hn (h3 k hk) hv q
    exact ⟨k, hk, this.1, this.2⟩
  · rintro ⟨k, hk, q, r⟩
    exact ⟨k, hk, by rw [q, r]⟩
theorem sm_rd_add {fo : Nat → Nat} {nc n x : Nat} {f f' : Nat → Nat} {g g' : Nat → Int32} {w : Int64} {y : Int32} (hn : nc ≤ 40) (h : sm_rd fo nc n f g w) (hl : n < 30) (hv : sm_val fo nc x y) (hb : px_bit w (sm_key x y) = false) (e : ∀ k, k < n → f' k = f k ∧ g' k = g k) (ex : f' n = x) (ey : g' n = y) : sm_rd fo nc (n + 1) f' g' (w ||| px_one (sm_key x y)) := by
  have hk := sm_key_lt hn hv
  obtain ⟨h1, h2, h3, h4, h5⟩ := sm_rd_congr h e
  refine ⟨by omega, by rw [bc_cnt_s w _ (by omega) hb, h2], fun k q => ?_, fun r hr => ?_, fun k l q1 q2 q3 => ?_⟩
  · rcases Nat.lt_or_ge k n with z | z
    · exact h3 k z
    · rw [show k = n by omega, ex, ey]; exact hv
  · rw [px_bit_or (by omega) (by omega), Bool.or_eq_true, h4 r hr]
    constructor
    · rintro (⟨k, q, z⟩ | z)
      · exact ⟨k, by omega, z⟩
      · exact ⟨n, by omega, by rw [ex, ey]; exact of_decide_eq_true z⟩
    · rintro ⟨k, q, z⟩
      rcases Nat.lt_or_ge k n with p | p
      · exact Or.inl ⟨k, p, z⟩
      · rw [show k = n by omega, ex, ey] at z
        exact Or.inr (decide_eq_true z)
  · have hb2 : ∀ k, k < n → sm_key (f' k) (g' k) ≠ sm_key x y := fun k q z => by
      have := (h4 _ hk).mpr ⟨k, q, z⟩
      rw [hb] at this; exact Bool.noConfusion this
    rcases Nat.lt_or_ge k n with z | z
    · rcases Nat.lt_or_ge l n with p | p
      · exact h5 k l z p q3
      · rw [show l = n by omega, ex, ey] at q3
        exact absurd q3 (hb2 k z)
    · rcases Nat.lt_or_ge l n with p | p
      · rw [show k = n by omega, ex, ey] at q3
        exact absurd q3.symm (hb2 l p)
      · omega
theorem sm_px_rd {fc nc r : Nat} {fo : Nat → Nat} {p1 p2 : Int32} (hf : fc ≤ 20) (hn : nc ≤ 40) (h : px_rd fc nc fo p1 p2 = some r) : sm_val fo nc (px_ix p1) p2 ∧ r = sm_key (px_ix p1) p2 ∧ r < 60 := by
  unfold px_rd at h
  by_cases q : px_has fc p1 = true
  · rw [if_pos q] at h
    obtain ⟨k, hk, rfl⟩ := px_has_t (by omega) q
    have hix : px_ix (nI k) = k := px_ix_nI (by omega)
    rw [hix] at h ⊢
    by_cases z : p2 = -1
    · rw [if_pos z] at h
      cases h
      rw [z, sm_key_f]
      exact ⟨⟨by omega, Or.inl rfl⟩, rfl, by omega⟩
    · rw [if_neg z] at h
      by_cases y : px_has nc p2 = true ∧ fo (px_ix p2) = k
      · rw [if_pos y] at h
        obtain ⟨j, hj, rfl⟩ := px_has_t (by omega) y.1
        have hij : px_ix (nI j) = j := px_ix_nI (by omega)
        rw [hij] at h y
        cases h
        rw [sm_key_g (by omega)]
        exact ⟨⟨by omega, Or.inr ⟨j, hj, rfl, y.2⟩⟩, rfl, by omega⟩
      · rw [if_neg y] at h
        cases h
  · rw [if_neg q] at h
    cases h
theorem sm_as {kr rs kf fn tr tb : Nat → Int64} {fo tf : Nat → Nat} {kc nc t f : Nat} (hn : nc ≤ 40) (hf : f < 20) (h1 : ∀ j, j < 20 → tr (20 * t + j) = kr j) (h2 : ∀ j, j < 40 → tb (40 * t + j) = kf j) (h3 : tf t = kc) : mo_as tr tb rs fn fo tf nc t f = px_as kr rs kf fn fo kc nc f := by
  unfold mo_as px_as mo_tr mo_tb
  rw [h1 f hf, h3]
  congr 1
  apply decide_eq_decide.mpr
  constructor
  · intro q j hj hfo
    have := q j hj hfo
    rw [h2 j (by omega)] at this
    exact this
  · intro q j hj hfo
    rw [h2 j (by omega)]
    exact q j hj hfo
theorem sm_ro {md : Nat → Nat} {og : Nat → Int32} {oq : Nat → Nat} {kr rs kf fn tr tb : Nat → Int64} {fo tf : Nat → Nat} {kc nc t k m : Nat} (hn : nc ≤ 40) (h1 : ∀ j, j < 20 → tr (20 * t + j) = kr j) (h2 : ∀ j, j < 40 → tb (40 * t + j) = kf j) (h3 : tf t = kc) (h4 : md t = m) (hv : sm_val fo nc (oq (30 * t + k)) (og (30 * t + k))) : px_rr m kr rs kf fn fo kc nc (sm_key (oq (30 * t + k)) (og (30 * t + k))) = mo_ro md og oq tr tb rs fn fo tf nc t k := by
  have ha := sm_as (rs := rs) (fn := fn) (fo := fo) hn hv.1 h1 h2 h3
  unfold px_rr mo_ro
  rw [ha, h4, h1 _ hv.1]
  rcases hv.2 with q | ⟨j, hj, q, hf⟩
  · rw [q, sm_key_f, if_pos hv.1, if_pos (Or.inr rfl)]
  · rw [q, sm_key_g (by omega), if_neg (by omega), Nat.add_sub_cancel_left, hf, px_ix_nI (by omega), h2 j (by omega)]
    by_cases z : m ≠ 1
    · rw [if_pos z, if_pos (Or.inl z)]
    · rw [if_neg z, if_neg (show ¬ (m ≠ 1 ∨ nI j = -1) from fun y => y.elim z (sm_nI_ne (by omega)))]
