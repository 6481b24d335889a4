/-! sm4: what holds between class and reference, and that every call keeps it -/
def sm_row (fo : Nat → Nat) (fc nc cc t : Nat) (U : rx_T) (md : Nat → Nat) (tm : Nat → Nat) (nm : Nat → Nat) (nf : Nat → Nat) (om : Nat → Nat) (oq : Nat → Nat) (tf : Nat → Nat) (bo : Nat → Nat) (ng : Nat → Int32) (og : Nat → Int32) (sg : Nat → Int64) (os : Nat → Int64) (tr : Nat → Int64) (tb : Nat → Int64) (rn : Nat → Bool) : Prop :=
  (md t = U.1 ∧ tm t = U.2.1 ∧ sg t = U.2.2.1 ∧ rn t = U.2.2.2.2.1 ∧ os t = U.2.2.2.2.2.2.1 ∧ tf t = U.2.2.2.2.2.2.2.1 ∧ U.2.2.2.2.2.2.2.1 ≤ 40)
  ∧ (∀ f, f < 20 → tr (20 * t + f) = U.2.2.2.2.2.2.2.2.1 f) ∧ (∀ k, k < 40 → tb (40 * t + k) = U.2.2.2.2.2.2.2.2.2.1 k) ∧ (∀ f, f < 20 → bo (20 * t + f) = U.2.2.2.2.2.2.2.2.2.2 f)
  ∧ (∀ f, fc ≤ f → U.2.2.2.2.2.2.2.2.1 f = 0) ∧ (∀ k, nc ≤ k → U.2.2.2.2.2.2.2.2.2.1 k = 0) ∧ (∀ f, U.2.2.2.2.2.2.2.2.2.2 f ≤ cc)
  ∧ sm_rd fo nc (nm t) (fun k => nf (30 * t + k)) (fun k => ng (30 * t + k)) U.2.2.2.1 ∧ sm_rd fo nc (om t) (fun k => oq (30 * t + k)) (fun k => og (30 * t + k)) U.2.2.2.2.2.1
def sm_g (cc fc nc tn sn ct mn : Nat) (rs fn : Nat → Int64) (tc : Nat → Bool) (fo nf : Nat → Nat) : Prop := (fc ≤ 20 ∧ nc ≤ 40 ∧ tn ≤ 24 ∧ sn ≤ 24 ∧ mn ≤ 100 ∧ ct ≤ cc) ∧ (∀ j, fo j < 20) ∧ (∀ j, j < nc → fo j < fc) ∧ (∀ f, fc ≤ f → rs f = 0 ∧ tc f = false) ∧ (∀ k, nc ≤ k → fn k = 0) ∧ (∀ j, nf j < 20)
def sm_t (tn : Nat) (tq : Nat → Option Nat) (ra : Nat → rx_A) (u : Nat → rx_T) : Prop := (∀ j, j < tn → tq j = some (ra j).1) ∧ (∀ t, tn ≤ t → u t = rx_new 0 0) ∧ (∀ t, t < tn → (u t).1 ≤ 2 ∧ 0 < (u t).2.1 ∧ (u t).2.1 ≤ 1000)
def sm_I (cc : Nat) (fc : Nat) (nc : Nat) (tn : Nat) (sn : Nat) (ct : Nat) (mn : Nat) (rs : Nat → Int64) (fn : Nat → Int64) (tc : Nat → Bool) (fo : Nat → Nat) (tq : Nat → Option Nat) (ra : Nat → rx_A) (u : Nat → rx_T) (mb : Nat → Nat) (md : Nat → Nat) (tm : Nat → Nat) (nm : Nat → Nat) (nf : Nat → Nat) (om : Nat → Nat) (oq : Nat → Nat) (tf : Nat → Nat) (bo : Nat → Nat) (ng : Nat → Int32) (og : Nat → Int32) (sg : Nat → Int64) (os : Nat → Int64) (tr : Nat → Int64) (tb : Nat → Int64) (rn : Nat → Bool) (ip : Nat → Bool) : Prop := sm_g cc fc nc tn sn ct mn rs fn tc fo nf ∧ sm_t tn tq ra u ∧ (∀ t, t < 24 → sm_row fo fc nc cc t (u t) md tm nm nf om oq tf bo ng og sg os tr tb rn) ∧ sm_ip mb sn ip ∧ sm_pk tn mb sn
theorem sm_row_grow {fo fo' : Nat → Nat} {fc fc' nc nc' cc t : Nat} {W : rx_T} {md tm nm nf om oq tf bo : Nat → Nat} {ng og : Nat → Int32} {sg os tr tb : Nat → Int64} {rn : Nat → Bool} (h : sm_row fo fc nc cc t W md tm nm nf om oq tf bo ng og sg os tr tb rn) (hf : fc ≤ fc') (hn : nc ≤ nc') (e : ∀ j, j < nc → fo' j = fo j) : sm_row (fo') (fc') (nc') (cc + 1) t W md tm nm nf om oq tf bo ng og sg os tr tb rn := by
  obtain ⟨a, b, c, d, e1, e2, e3, e4, e5⟩ := h
  exact ⟨a, b, c, d, fun f q => e1 f (by omega), fun k q => e2 k (by omega), fun f => by have := e3 f; omega, sm_rd_grow e4 hn e, sm_rd_grow e5 hn e⟩
theorem sm_keep {cc fc nc tn sn ct mn : Nat} {rs fn sg os tr tb : Nat → Int64} {tc rn ip : Nat → Bool} {fo mb md tm nm nf om oq tf bo : Nat → Nat} {tq : Nat → Option Nat} {ra : Nat → rx_A} {u : Nat → rx_T} {ng og : Nat → Int32} (h : sm_I cc fc nc tn sn ct mn rs fn tc fo tq ra u mb md tm nm nf om oq tf bo ng og sg os tr tb rn ip) : sm_I (cc + 1) fc nc tn sn ct mn rs fn tc fo tq ra u mb md tm nm nf om oq tf bo ng og sg os tr tb rn ip := by
  obtain ⟨⟨⟨g1, g2, g3, g4, g5, g6⟩, g⟩, ht, hr, hi⟩ := h
  exact ⟨⟨⟨g1, g2, g3, g4, g5, by omega⟩, g⟩, ht, fun t q => sm_row_grow (hr t q) (Nat.le_refl _) (Nat.le_refl _) (fun _ _ => rfl), hi⟩
theorem sm_file {cc fc nc tn sn ct mn : Nat} {rs fn sg os tr tb : Nat → Int64} {tc rn ip : Nat → Bool} {fo mb md tm nm nf om oq tf bo : Nat → Nat} {tq : Nat → Option Nat} {ra : Nat → rx_A} {u : Nat → rx_T} {ng og : Nat → Int32} (h : sm_I cc fc nc tn sn ct mn rs fn tc fo tq ra u mb md tm nm nf om oq tf bo ng og sg os tr tb rn ip) (d0 : Int64) : sm_I (cc + 1) (if fc < 20 then fc + 1 else fc) nc tn sn ct mn (if fc < 20 then va_up rs fc d0 else rs) fn (if fc < 20 then va_up tc fc true else tc) fo tq ra u mb md tm nm nf om oq tf bo ng og sg os tr tb rn ip := by
  by_cases q : fc < 20
  · simp only [if_pos q]
    obtain ⟨⟨⟨g1, g2, g3, g4, g5, g6⟩, g7, g8, g9, g10⟩, ht, hr, hi⟩ := h
    refine ⟨⟨⟨by omega, g2, g3, g4, g5, by omega⟩, g7, fun j hj => by have := g8 j hj; omega, fun f hf => ?_, g10⟩, ht, fun t p => sm_row_grow (hr t p) (by omega) (Nat.le_refl _) (fun _ _ => rfl), hi⟩
    rw [va_up_ne _ _ (by omega), va_up_ne _ _ (by omega)]
    exact g9 f (by omega)
  · simp only [if_neg q]
    exact sm_keep h
theorem sm_function {cc fc nc tn sn ct mn : Nat} {rs fn sg os tr tb : Nat → Int64} {tc rn ip : Nat → Bool} {fo mb md tm nm nf om oq tf bo : Nat → Nat} {tq : Nat → Option Nat} {ra : Nat → rx_A} {u : Nat → rx_T} {ng og : Nat → Int32} (h : sm_I cc fc nc tn sn ct mn rs fn tc fo tq ra u mb md tm nm nf om oq tf bo ng og sg os tr tb rn ip) (p0 : Int32) (d0 : Int64) : sm_I (cc + 1) fc (if nc < 40 ∧ px_has fc p0 = true then nc + 1 else nc) tn sn ct mn rs (if nc < 40 ∧ px_has fc p0 = true then va_up fn nc d0 else fn) (if nc < 40 ∧ px_has fc p0 = true then va_up tc (px_ix p0) true else tc) (if nc < 40 ∧ px_has fc p0 = true then va_up fo nc (px_ix p0) else fo) tq ra u mb md tm nm nf om oq tf bo ng og sg os tr tb rn ip := by
  by_cases q : nc < 40 ∧ px_has fc p0 = true
  · simp only [if_pos q]
    obtain ⟨⟨⟨g1, g2, g3, g4, g5, g6⟩, g7, g8, g9, g10, g11⟩, ht, hr, hi⟩ := h
    obtain ⟨k0, hk0, rfl⟩ := px_has_t (by omega) q.2
    have hix : px_ix (nI k0) = k0 := px_ix_nI (by omega)
    rw [hix]
    refine ⟨⟨⟨g1, by omega, g3, g4, g5, by omega⟩, fun j => ?_, fun j hj => ?_, fun f hf => ?_, fun k hk => ?_, g11⟩, ht, fun t p => sm_row_grow (hr t p) (Nat.le_refl _) (by omega) (fun j hj => va_up_ne _ _ (by omega)), hi⟩
    · by_cases z : j = nc
      · rw [z, va_up_self]; omega
      · rw [va_up_ne _ _ z]; exact g7 j
    · by_cases z : j = nc
      · rw [z, va_up_self]; omega
      · rw [va_up_ne _ _ z]; exact g8 j (by omega)
    · rw [va_up_ne _ _ (by omega)]; exact g9 f hf
    · rw [va_up_ne _ _ (by omega)]; exact g10 k (by omega)
  · simp only [if_neg q]
    exact sm_keep h
theorem sm_change {cc fc nc tn sn ct mn : Nat} {rs fn sg os tr tb : Nat → Int64} {tc rn ip : Nat → Bool} {fo mb md tm nm nf om oq tf bo : Nat → Nat} {tq : Nat → Option Nat} {ra : Nat → rx_A} {u : Nat → rx_T} {ng og : Nat → Int32} (h : sm_I cc fc nc tn sn ct mn rs fn tc fo tq ra u mb md tm nm nf om oq tf bo ng og sg os tr tb rn ip) (p0 : Int32) (d0 : Int64) : sm_I (cc + 1) fc nc tn sn ct mn (if px_has fc p0 = true then va_up rs (px_ix p0) d0 else rs) fn (if px_has fc p0 = true ∧ rs (px_ix p0) ≠ d0 then va_up tc (px_ix p0) true else tc) fo tq ra u mb md tm nm nf om oq tf bo ng og sg os tr tb rn ip := by
  by_cases q : px_has fc p0 = true
  · obtain ⟨⟨⟨g1, g2, g3, g4, g5, g6⟩, g7, g8, g9, g10, g11⟩, ht, hr, hi⟩ := h
    obtain ⟨k0, hk0, rfl⟩ := px_has_t (by omega) q
    have hix : px_ix (nI k0) = k0 := px_ix_nI (by omega)
    simp only [if_pos q, hix]
    have hkk := hk0
    refine ⟨⟨⟨g1, g2, g3, g4, g5, by omega⟩, g7, g8, fun f hf => ?_, fun k hk => ?_, g11⟩, ht, fun t p => sm_row_grow (hr t p) (Nat.le_refl _) (Nat.le_refl _) (fun _ _ => rfl), hi⟩
    · refine ⟨?_, ?_⟩
      · rw [va_up_ne _ _ (by omega)]; exact (g9 f hf).1
      · split
        · rw [va_up_ne _ _ (by omega)]; exact (g9 f hf).2
        · exact (g9 f hf).2
    · exact g10 k hk
  · simp only [if_neg q, if_neg (show ¬ (px_has fc p0 = true ∧ rs (px_ix p0) ≠ d0) from fun z => q z.1)]
    exact sm_keep h
theorem sm_changeF {cc fc nc tn sn ct mn : Nat} {rs fn sg os tr tb : Nat → Int64} {tc rn ip : Nat → Bool} {fo mb md tm nm nf om oq tf bo : Nat → Nat} {tq : Nat → Option Nat} {ra : Nat → rx_A} {u : Nat → rx_T} {ng og : Nat → Int32} (h : sm_I cc fc nc tn sn ct mn rs fn tc fo tq ra u mb md tm nm nf om oq tf bo ng og sg os tr tb rn ip) (p0 : Int32) (d0 : Int64) : sm_I (cc + 1) fc nc tn sn ct mn rs (if px_has nc p0 = true then va_up fn (px_ix p0) d0 else fn) (if px_has nc p0 = true ∧ fn (px_ix p0) ≠ d0 then va_up tc (fo (px_ix p0)) true else tc) fo tq ra u mb md tm nm nf om oq tf bo ng og sg os tr tb rn ip := by
  by_cases q : px_has nc p0 = true
  · obtain ⟨⟨⟨g1, g2, g3, g4, g5, g6⟩, g7, g8, g9, g10, g11⟩, ht, hr, hi⟩ := h
    obtain ⟨k0, hk0, rfl⟩ := px_has_t (by omega) q
    have hix : px_ix (nI k0) = k0 := px_ix_nI (by omega)
    simp only [if_pos q, hix]
    have hkk := g8 k0 hk0
    refine ⟨⟨⟨g1, g2, g3, g4, g5, by omega⟩, g7, g8, fun f hf => ?_, fun k hk => ?_, g11⟩, ht, fun t p => sm_row_grow (hr t p) (Nat.le_refl _) (Nat.le_refl _) (fun _ _ => rfl), hi⟩
    · refine ⟨?_, ?_⟩
      · exact (g9 f hf).1
      · split
        · rw [va_up_ne _ _ (by omega)]; exact (g9 f hf).2
        · exact (g9 f hf).2
    · rw [va_up_ne _ _ (by omega)]; exact g10 k hk
  · simp only [if_neg q, if_neg (show ¬ (px_has nc p0 = true ∧ fn (px_ix p0) ≠ d0) from fun z => q z.1)]
    exact sm_keep h
theorem sm_test {cc fc nc tn sn ct mn : Nat} {rs fn sg os tr tb : Nat → Int64} {tc rn ip : Nat → Bool} {fo mb md tm nm nf om oq tf bo : Nat → Nat} {tq : Nat → Option Nat} {ra : Nat → rx_A} {u : Nat → rx_T} {ng og : Nat → Int32} (h : sm_I cc fc nc tn sn ct mn rs fn tc fo tq ra u mb md tm nm nf om oq tf bo ng og sg os tr tb rn ip) (p0 p1 : Int32) (z : rx_A) : sm_I (cc + 1) fc nc (if (tn < 24 ∧ px_has 3 p0 = true ∧ px_has 1001 p1 = true ∧ p1 ≠ 0) then tn + 1 else tn) sn ct mn rs fn tc fo (if (tn < 24 ∧ px_has 3 p0 = true ∧ px_has 1001 p1 = true ∧ p1 ≠ 0) then va_up tq tn (some z.1) else tq) (if (tn < 24 ∧ px_has 3 p0 = true ∧ px_has 1001 p1 = true ∧ p1 ≠ 0) then va_up ra tn z else ra) (if (tn < 24 ∧ px_has 3 p0 = true ∧ px_has 1001 p1 = true ∧ p1 ≠ 0) then va_up u tn (rx_new (px_ix p0) (px_ix p1)) else u) mb (if (tn < 24 ∧ px_has 3 p0 = true ∧ px_has 1001 p1 = true ∧ p1 ≠ 0) then va_up md tn (px_ix p0) else md) (if (tn < 24 ∧ px_has 3 p0 = true ∧ px_has 1001 p1 = true ∧ p1 ≠ 0) then va_up tm tn (px_ix p1) else tm) nm nf om oq tf bo ng og sg os tr tb rn ip := by
  by_cases q : (tn < 24 ∧ px_has 3 p0 = true ∧ px_has 1001 p1 = true ∧ p1 ≠ 0)
  · simp only [if_pos q]
    obtain ⟨⟨⟨g1, g2, g3, g4, g5, g6⟩, g⟩, ⟨t1, t2, t3⟩, hr, hi, hj⟩ := h
    obtain ⟨q1, q2, q3, q4⟩ := q
    obtain ⟨k0, hk0, rfl⟩ := px_has_t (by decide) q2
    obtain ⟨k1, hk1, rfl⟩ := px_has_t (by decide) q3
    have hix : px_ix (nI k0) = k0 := px_ix_nI (by omega)
    have hix1 : px_ix (nI k1) = k1 := px_ix_nI (by omega)
    have hk11 : 0 < k1 := Nat.pos_of_ne_zero (fun e => q4 (by rw [e]; exact nI_0))
    rw [hix, hix1]
    refine ⟨⟨⟨g1, g2, by omega, g4, g5, by omega⟩, g⟩, ⟨fun j hj => ?_, fun t ht => ?_, fun t ht => ?_⟩, fun t ht => ?_, hi, fun j hj2 => by have := hj j hj2; omega⟩
    · by_cases e : j = tn
      · rw [e, va_up_self, va_up_self]
      · rw [va_up_ne _ _ e, va_up_ne _ _ e]; exact t1 j (by omega)
    · rw [va_up_ne _ _ (by omega)]; exact t2 t (by omega)
    · by_cases e : t = tn
      · rw [e, va_up_self]; exact ⟨by show k0 ≤ 2; omega, by show 0 < k1; exact hk11, by show k1 ≤ 1000; omega⟩
      · rw [va_up_ne _ _ e]; exact t3 t (by omega)
    · have hrt := sm_row_grow (hr t ht) (Nat.le_refl _) (Nat.le_refl _) (fun _ _ => rfl)
      by_cases e : t = tn
      · subst e
        rw [t2 t (Nat.le_refl _)] at hrt
        obtain ⟨⟨_, _, r3⟩, r⟩ := hrt
        rw [va_up_self]
        exact ⟨⟨by rw [va_up_self]; rfl, by rw [va_up_self]; rfl, r3⟩, r⟩
      · obtain ⟨⟨r1, r2, r3⟩, r⟩ := hrt
        rw [va_up_ne _ _ e]
        exact ⟨⟨by rw [va_up_ne _ _ e]; exact r1, by rw [va_up_ne _ _ e]; exact r2, r3⟩, r⟩
  · simp only [if_neg q]
    exact sm_keep h
theorem sm_t_up {tn k : Nat} {tq : Nat → Option Nat} {ra : Nat → rx_A} {u : Nat → rx_T} {v : rx_T} (h : sm_t tn tq ra u) (hk : k < tn) (h1 : v.1 = (u k).1) (h2 : v.2.1 = (u k).2.1) : sm_t tn tq ra (va_up u k v) := by
  obtain ⟨t1, t2, t3⟩ := h
  refine ⟨t1, fun t ht => by rw [va_up_ne _ _ (by omega)]; exact t2 t ht, fun t ht => ?_⟩
  by_cases e : t = k
  · rw [e, va_up_self, h1, h2]; exact t3 k hk
  · rw [va_up_ne _ _ e]; exact t3 t ht
theorem sm_setting {cc fc nc tn sn ct mn : Nat} {rs fn sg os tr tb : Nat → Int64} {tc rn ip : Nat → Bool} {fo mb md tm nm nf om oq tf bo : Nat → Nat} {tq : Nat → Option Nat} {ra : Nat → rx_A} {u : Nat → rx_T} {ng og : Nat → Int32} (h : sm_I cc fc nc tn sn ct mn rs fn tc fo tq ra u mb md tm nm nf om oq tf bo ng og sg os tr tb rn ip) (p0 : Int32) (d0 : Int64) : sm_I (cc + 1) fc nc tn sn ct mn rs fn tc fo tq ra (if px_has tn p0 = true then va_up u (px_ix p0) (rx_sg (u (px_ix p0)) d0) else u) mb md tm nm nf om oq tf bo ng og (if px_has tn p0 = true then va_up sg (px_ix p0) d0 else sg) os tr tb rn ip := by
  by_cases q : px_has tn p0 = true
  · simp only [if_pos q]
    obtain ⟨⟨⟨g1, g2, g3, g4, g5, g6⟩, g⟩, ht, hr, hi⟩ := h
    obtain ⟨k0, hk0, rfl⟩ := px_has_t (by omega) q
    have hix : px_ix (nI k0) = k0 := px_ix_nI (by omega)
    rw [hix]
    refine ⟨⟨⟨g1, g2, g3, g4, g5, by omega⟩, g⟩, sm_t_up ht hk0 rfl rfl, fun t h24 => ?_, hi⟩
    have hrt := sm_row_grow (hr t h24) (Nat.le_refl _) (Nat.le_refl _) (fun _ _ => rfl)
    obtain ⟨⟨r1, r2, r3, r4⟩, r⟩ := hrt
    by_cases e : t = k0
    · subst e
      rw [va_up_self]
      exact ⟨⟨r1, r2, by rw [va_up_self]; rfl, r4⟩, r⟩
    · rw [va_up_ne _ _ e]
      exact ⟨⟨r1, r2, by rw [va_up_ne _ _ e]; exact r3, r4⟩, r⟩
  · simp only [if_neg q]
    exact sm_keep h
