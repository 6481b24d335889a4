theorem sm_rdS_same {v : rx_T} {r : Nat} (h : ¬ (px_bit v.2.2.2.1 r = false ∧ bc_cnt v.2.2.2.1 < 30)) : rx_rdS v r = v := by
  unfold rx_rdS
  rw [if_neg h]
theorem sm_reads {cc fc nc tn sn ct mn : Nat} {rs fn sg os tr tb : Nat → Int64} {tc rn ip : Nat → Bool} {fo mb md tm nm nf om oq tf bo : Nat → Nat} {tq : Nat → Option Nat} {ra : Nat → rx_A} {u : Nat → rx_T} {ng og : Nat → Int32} (h : sm_I cc fc nc tn sn ct mn rs fn tc fo tq ra u mb md tm nm nf om oq tf bo ng og sg os tr tb rn ip) (p0 p1 p2 : Int32) : (rx_rdA tn p0 u (px_rd fc nc fo p1 p2) = if px_has tn p0 = true ∧ (px_rd fc nc fo p1 p2).isSome = true then (if mo_found nf ng (px_ix p0) (nm (px_ix p0)) (px_ix p1) p2 = true then 0 else if nm (px_ix p0) = 30 then -1 else 1) else -1) ∧ sm_I (cc + 1) fc nc tn sn ct mn rs fn tc fo tq ra (rx_rdU tn p0 u (px_rd fc nc fo p1 p2)) mb md tm (if (px_has tn p0 = true ∧ (px_rd fc nc fo p1 p2).isSome = true ∧ mo_found nf ng (px_ix p0) (nm (px_ix p0)) (px_ix p1) p2 = false ∧ nm (px_ix p0) ≠ 30) then va_up nm (px_ix p0) (nm (px_ix p0) + 1) else nm) (if (px_has tn p0 = true ∧ (px_rd fc nc fo p1 p2).isSome = true ∧ mo_found nf ng (px_ix p0) (nm (px_ix p0)) (px_ix p1) p2 = false ∧ nm (px_ix p0) ≠ 30) then va_up nf (30 * px_ix p0 + nm (px_ix p0)) (px_ix p1) else nf) om oq tf bo (if (px_has tn p0 = true ∧ (px_rd fc nc fo p1 p2).isSome = true ∧ mo_found nf ng (px_ix p0) (nm (px_ix p0)) (px_ix p1) p2 = false ∧ nm (px_ix p0) ≠ 30) then va_up ng (30 * px_ix p0 + nm (px_ix p0)) p2 else ng) og sg os tr tb rn ip := by
  by_cases q : px_has tn p0 = true
  · cases hrd : px_rd fc nc fo p1 p2 with
    | none =>
      have n1 : ¬ (px_has tn p0 = true ∧ (none : Option Nat).isSome = true) := fun z => Bool.noConfusion z.2
      have n2 : ¬ (px_has tn p0 = true ∧ (none : Option Nat).isSome = true ∧ mo_found nf ng (px_ix p0) (nm (px_ix p0)) (px_ix p1) p2 = false ∧ nm (px_ix p0) ≠ 30) := fun z => Bool.noConfusion z.2.1
      simp only [if_neg n1, if_neg n2, rx_rdA, rx_rdU, if_pos q]
      exact ⟨trivial, sm_keep h⟩
    | some r =>
      have hk := h
      obtain ⟨⟨⟨g1, g2, g3, g4, g5, g6⟩, g7, g8, g9, g10, g11⟩, ht, hr, hi⟩ := h
      obtain ⟨hv, er, hlt⟩ := sm_px_rd g1 g2 hrd
      obtain ⟨k0, hk0, rfl⟩ := px_has_t (by omega) q
      have hix : px_ix (nI k0) = k0 := px_ix_nI (by omega)
      have hrow := hr k0 (by omega)
      have hR := hrow.2.2.2.2.2.2.2.1
      have hfd := sm_found g2 hR hv
      have n1 : px_has tn (nI k0) = true ∧ (some r : Option Nat).isSome = true := ⟨q, rfl⟩
      have hcnt : bc_cnt (u k0).2.2.2.1 = nm k0 := hR.2.1
      have hle : nm k0 ≤ 30 := hR.1
      simp only [if_pos n1, rx_rdA, rx_rdU, if_pos q, hix]
      rw [← er] at hfd
      cases hb : px_bit (u k0).2.2.2.1 r with
      | true =>
        have f1 : mo_found nf ng k0 (nm k0) (px_ix p1) p2 = true := decide_eq_true (hfd.mp hb)
        have n2 : ¬ (px_has tn (nI k0) = true ∧ (some r : Option Nat).isSome = true ∧ mo_found nf ng k0 (nm k0) (px_ix p1) p2 = false ∧ nm k0 ≠ 30) := fun z => Bool.noConfusion (z.2.2.1.symm.trans f1)
        have s1 : rx_rdS (u k0) r = u k0 := sm_rdS_same (fun z => Bool.noConfusion (z.1.symm.trans hb))
        simp only [if_pos f1, if_neg n2, s1, px_up_self (f := u) (k := k0) rfl]
        exact ⟨if_pos hb, sm_keep hk⟩
      | false =>
        have f1 : mo_found nf ng k0 (nm k0) (px_ix p1) p2 = false := decide_eq_false (fun z => Bool.noConfusion ((hfd.mpr z).symm.trans hb))
        by_cases h30 : nm k0 = 30
        · have n2 : ¬ (px_has tn (nI k0) = true ∧ (some r : Option Nat).isSome = true ∧ mo_found nf ng k0 (nm k0) (px_ix p1) p2 = false ∧ nm k0 ≠ 30) := fun z => z.2.2.2 h30
          have s1 : rx_rdS (u k0) r = u k0 := sm_rdS_same (fun z => absurd z.2 (by omega))
          simp only [if_neg n2, s1, px_up_self (f := u) (k := k0) rfl]
          refine ⟨?_, sm_keep hk⟩
          rw [if_neg (show ¬ (mo_found nf ng k0 (nm k0) (px_ix p1) p2 = true) by rw [f1]; decide), if_pos h30]
          unfold rx_rdV
          rw [if_neg (by rw [hb]; decide), if_neg (by omega)]
        · have n2 : px_has tn (nI k0) = true ∧ (some r : Option Nat).isSome = true ∧ mo_found nf ng k0 (nm k0) (px_ix p1) p2 = false ∧ nm k0 ≠ 30 := ⟨q, rfl, f1, h30⟩
          simp only [if_pos n2]
          refine ⟨?_, ⟨⟨g1, g2, g3, g4, g5, by omega⟩, g7, g8, g9, g10, fun j => ?_⟩, sm_t_up ht hk0 rfl rfl, fun t h24 => ?_, hi⟩
          · rw [if_neg (show ¬ (mo_found nf ng k0 (nm k0) (px_ix p1) p2 = true) by rw [f1]; decide), if_neg h30]
            unfold rx_rdV
            rw [if_neg (by rw [hb]; decide), if_pos (by omega)]
          · by_cases z : j = 30 * k0 + nm k0
            · rw [z, va_up_self]; exact hv.1
            · rw [va_up_ne _ _ z]; exact g11 j
          · have hrt := sm_row_grow (hr t h24) (Nat.le_refl _) (Nat.le_refl _) (fun _ _ => rfl)
            obtain ⟨a, b, c, d, e1, e2, e3, e4, e5⟩ := hrt
            by_cases e : t = k0
            · subst e
              rw [va_up_self]
              refine ⟨a, b, c, d, e1, e2, e3, ?_, e5⟩
              have hw : (rx_rdS (u t) r).2.2.2.1 = (u t).2.2.2.1 ||| px_one r := if_pos ⟨hb, by omega⟩
              rw [hw, va_up_self, er]
              exact sm_rd_add g2 e4 (by omega) hv (by rw [← er]; exact hb) (fun k hk => ⟨va_up_ne _ _ (by omega), va_up_ne _ _ (by omega)⟩) (va_up_self _ _ _) (va_up_self _ _ _)
            · rw [va_up_ne _ _ e]
              refine ⟨a, b, c, d, e1, e2, e3, ?_, e5⟩
              rw [va_up_ne _ _ e]
              exact sm_rd_congr e4 (fun k hk => ⟨va_up_ne _ _ (by have := e4.1; omega), va_up_ne _ _ (by have := e4.1; omega)⟩)
  · have n1 : ¬ (px_has tn p0 = true ∧ (px_rd fc nc fo p1 p2).isSome = true) := fun z => q z.1
    have n2 : ¬ (px_has tn p0 = true ∧ (px_rd fc nc fo p1 p2).isSome = true ∧ mo_found nf ng (px_ix p0) (nm (px_ix p0)) (px_ix p1) p2 = false ∧ nm (px_ix p0) ≠ 30) := fun z => q z.1
    simp only [if_neg n1, if_neg n2, rx_rdA, rx_rdU, if_neg q]
    exact ⟨trivial, sm_keep h⟩
theorem sm_mn {c : Prop} {mn : Nat} {d : Decidable c} (h : mn ≤ 100) : (@ite _ c d (if mn < 100 then mn + 1 else mn) mn) ≤ 100 := by
  split
  · split <;> omega
  · exact h
theorem sm_bad {cc fc nc tn sn ct mn : Nat} {rs fn sg os tr tb : Nat → Int64} {tc rn ip : Nat → Bool} {fo mb md tm nm nf om oq tf bo : Nat → Nat} {tq : Nat → Option Nat} {ra : Nat → rx_A} {u : Nat → rx_T} {ng og : Nat → Int32} (h : sm_I cc fc nc tn sn ct mn rs fn tc fo tq ra u mb md tm nm nf om oq tf bo ng og sg os tr tb rn ip) (p0 : Int32) (pb : Bool) : (px_has tn p0 = true ∧ pb = false ∧ 0 < ct ∧ ip (px_ix p0) = false) = (px_has tn p0 = true ∧ pb = false ∧ 0 < ct ∧ px_mem mb sn (px_ix p0) = false) := by
  apply propext
  constructor
  · rintro ⟨a, b, c, d⟩
    refine ⟨a, b, c, ?_⟩
    obtain ⟨⟨⟨g1, g2, g3, g⟩, _⟩, _, _, hi, _⟩ := h
    obtain ⟨k0, hk0, rfl⟩ := px_has_t (by omega) a
    rw [px_ix_nI (by omega)] at d ⊢
    rw [← hi k0 (by omega)]; exact d
  · rintro ⟨a, b, c, d⟩
    refine ⟨a, b, c, ?_⟩
    obtain ⟨⟨⟨g1, g2, g3, g⟩, _⟩, _, _, hi, _⟩ := h
    obtain ⟨k0, hk0, rfl⟩ := px_has_t (by omega) a
    rw [px_ix_nI (by omega)] at d ⊢
    rw [hi k0 (by omega)]; exact d
theorem sm_outcome {cc fc nc tn sn ct mn : Nat} {rs fn sg os tr tb : Nat → Int64} {tc rn ip : Nat → Bool} {fo mb md tm nm nf om oq tf bo : Nat → Nat} {tq : Nat → Option Nat} {ra : Nat → rx_A} {u : Nat → rx_T} {ng og : Nat → Int32} (h : sm_I cc fc nc tn sn ct mn rs fn tc fo tq ra u mb md tm nm nf om oq tf bo ng og sg os tr tb rn ip) (td : Nat → Bool) (p0 : Int32) (pb : Bool) : (if px_has tn p0 = true then nI (bc_cnt (u (px_ix p0)).2.2.2.1) else -1) = (if px_has tn p0 = true then nI (nm (px_ix p0)) else -1) ∧ sm_I (cc + 1) fc nc tn sn ct (if (px_has tn p0 = true ∧ pb = false ∧ 0 < ct ∧ px_mem mb sn (px_ix p0) = false) then (if mn < 100 then mn + 1 else mn) else mn) rs fn tc fo tq ra (if px_has tn p0 = true then va_up u (px_ix p0) (rx_out rs fn nc td (!pb && decide (0 < ct)) (u (px_ix p0))) else u) mb md tm (if px_has tn p0 = true then va_up nm (px_ix p0) 0 else nm) nf (if px_has tn p0 = true then va_up om (px_ix p0) (nm (px_ix p0)) else om) (if px_has tn p0 = true then va_cpy nf oq (30 * (px_ix p0)) (30 * (px_ix p0)) (nm (px_ix p0)) else oq) (if px_has tn p0 = true then va_up tf (px_ix p0) nc else tf) (if px_has tn p0 = true ∧ (!pb && decide (0 < ct)) = true then mo_fail bo td (px_ix p0) 20 else bo) ng (if px_has tn p0 = true then va_cpy ng og (30 * (px_ix p0)) (30 * (px_ix p0)) (nm (px_ix p0)) else og) sg (if px_has tn p0 = true then va_up os (px_ix p0) (sg (px_ix p0)) else os) (if px_has tn p0 = true then va_cpy rs tr 0 (20 * (px_ix p0)) fc else tr) (if px_has tn p0 = true then va_cpy fn tb 0 (40 * (px_ix p0)) nc else tb) (if px_has tn p0 = true then va_up rn (px_ix p0) true else rn) ip := by
  by_cases q : px_has tn p0 = true
  · simp only [if_pos q]
    obtain ⟨⟨⟨g1, g2, g3, g4, g5, g6⟩, g7, g8, g9, g10, g11⟩, ht, hr, hi⟩ := h
    obtain ⟨k0, hk0, rfl⟩ := px_has_t (by omega) q
    have hix : px_ix (nI k0) = k0 := px_ix_nI (by omega)
    simp only [hix]
    have hrow := hr k0 (by omega)
    have hR := hrow.2.2.2.2.2.2.2.1
    refine ⟨by rw [hR.2.1], ⟨⟨g1, g2, g3, g4, sm_mn g5, by omega⟩, g7, g8, g9, g10, g11⟩, sm_t_up ht hk0 rfl rfl, fun t h24 => ?_, hi⟩
    have hrt := sm_row_grow (hr t h24) (Nat.le_refl _) (Nat.le_refl _) (fun _ _ => rfl)
    obtain ⟨⟨a1, a2, a3, a4, a5, a6, a7⟩, b, c, d, e1, e2, e3, e4, e5⟩ := hrt
    by_cases e : t = k0
    · subst e
      rw [va_up_self]
      refine ⟨⟨a1, a2, a3, by rw [va_up_self]; rfl, by rw [va_up_self]; exact a3, by rw [va_up_self]; rfl, g2⟩, fun f hf => ?_, fun k hk => ?_, fun f hf => ?_, fun f hf => ?_, fun k hk => ?_, fun f => ?_, ?_, ?_⟩
      · show va_cpy rs tr 0 (20 * t) fc (20 * t + f) = px_mix rs (u t).2.2.2.2.2.2.2.2.1 20 f
        unfold px_mix
        rw [if_pos hf]
        by_cases z : f < fc
        · rw [pk_cpy_in (by omega) (by omega)]; congr 1; omega
        · rw [pk_cpy_out (by omega), b f hf, e1 f (by omega), (g9 f (by omega)).1]
      · show va_cpy fn tb 0 (40 * t) nc (40 * t + k) = px_mix fn (u t).2.2.2.2.2.2.2.2.2.1 40 k
        unfold px_mix
        rw [if_pos hk]
        by_cases z : k < nc
        · rw [pk_cpy_in (by omega) (by omega)]; congr 1; omega
        · rw [pk_cpy_out (by omega), c k hk, e2 k (by omega), g10 k (by omega)]
      · show (if px_has tn (nI t) = true ∧ (!pb && decide (0 < ct)) = true then mo_fail bo td t 20 else bo) (20 * t + f) = (if (!pb && decide (0 < ct)) = true then px_fail (u t).2.2.2.2.2.2.2.2.2.2 td 20 else (u t).2.2.2.2.2.2.2.2.2.2) f
        by_cases z : (!pb && decide (0 < ct)) = true
        · rw [if_pos ⟨q, z⟩, if_pos z]
          unfold mo_fail px_fail
          rw [d f hf, Nat.add_sub_cancel_left]
          by_cases y : td f = true
          · rw [if_pos ⟨by omega, by omega, y⟩, if_pos ⟨hf, y⟩]
          · rw [if_neg (fun x => y x.2.2), if_neg (fun x => y x.2)]
        · rw [if_neg (fun x => z x.2), if_neg z]; exact d f hf
      · show px_mix rs (u t).2.2.2.2.2.2.2.2.1 20 f = 0
        unfold px_mix
        split
        · exact (g9 f hf).1
        · exact e1 f hf
      · show px_mix fn (u t).2.2.2.2.2.2.2.2.2.1 40 k = 0
        unfold px_mix
        split
        · exact g10 k hk
        · exact e2 k hk
      · show (if (!pb && decide (0 < ct)) = true then px_fail (u t).2.2.2.2.2.2.2.2.2.2 td 20 else (u t).2.2.2.2.2.2.2.2.2.2) f ≤ cc + 1
        have e3' := hrow.2.2.2.2.2.2.1 f
        split
        · unfold px_fail
          split <;> omega
        · omega
      · rw [va_up_self]; exact sm_rd_0
      · show sm_rd fo nc (va_up om t (nm t) t) _ _ (u t).2.2.2.1
        rw [va_up_self]
        exact sm_rd_congr e4 (fun k hk => ⟨by rw [pk_cpy_in (by omega) (by omega)]; congr 1; omega, by rw [pk_cpy_in (by omega) (by omega)]; congr 1; omega⟩)
    · rw [va_up_ne _ _ e]
      have hn30 := hR.1
      have ho30 := e5.1
      refine ⟨⟨a1, a2, a3, by rw [va_up_ne _ _ e]; exact a4, by rw [va_up_ne _ _ e]; exact a5, by rw [va_up_ne _ _ e]; exact a6, a7⟩, fun f hf => ?_, fun k hk => ?_, fun f hf => ?_, e1, e2, e3, ?_, ?_⟩
      · rw [pk_cpy_out (by omega)]; exact b f hf
      · rw [pk_cpy_out (by omega)]; exact c k hk
      · rw [← d f hf]
        split
        · unfold mo_fail
          rw [if_neg (fun x => by omega)]
        · rfl
      · rw [va_up_ne _ _ e]; exact e4
      · rw [va_up_ne _ _ e]
        exact sm_rd_congr e5 (fun k hk => ⟨pk_cpy_out (by omega), pk_cpy_out (by omega)⟩)
  · have n2 : ¬ (px_has tn p0 = true ∧ pb = false ∧ 0 < ct ∧ px_mem mb sn (px_ix p0) = false) := fun z => q z.1
    have n3 : ¬ (px_has tn p0 = true ∧ (!pb && decide (0 < ct)) = true) := fun z => q z.1
    simp only [if_neg q, if_neg n2, if_neg n3]
    exact ⟨trivial, sm_keep h⟩
theorem sm_rr {cc fc nc tn sn ct mn : Nat} {rs fn sg os tr tb : Nat → Int64} {tc rn ip : Nat → Bool} {fo mb md tm nm nf om oq tf bo : Nat → Nat} {tq : Nat → Option Nat} {ra : Nat → rx_A} {u : Nat → rx_T} {ng og : Nat → Int32} (h : sm_I cc fc nc tn sn ct mn rs fn tc fo tq ra u mb md tm nm nf om oq tf bo ng og sg os tr tb rn ip) {t : Nat} (ht : t < tn) : (∀ k, k < om t → px_rr (u t).1 (u t).2.2.2.2.2.2.2.2.1 rs (u t).2.2.2.2.2.2.2.2.2.1 fn fo (u t).2.2.2.2.2.2.2.1 nc (sm_key (oq (30 * t + k)) (og (30 * t + k))) = mo_ro md og oq tr tb rs fn fo tf nc t k) ∧ sm_rd fo nc (om t) (fun k => oq (30 * t + k)) (fun k => og (30 * t + k)) (u t).2.2.2.2.2.1 := by
  obtain ⟨⟨⟨g1, g2, g3, g4, g5, g6⟩, g⟩, _, hr, _⟩ := h
  obtain ⟨⟨a1, a2, a3, a4, a5, a6, a7⟩, b, c, d, e1, e2, e3, e4, e5⟩ := hr t (by omega)
  exact ⟨fun k hk => sm_ro g2 b c a6 a1 (e5.2.2.1 k hk), e5⟩
theorem sm_why {cc fc nc tn sn ct mn : Nat} {rs fn sg os tr tb : Nat → Int64} {tc rn ip : Nat → Bool} {fo mb md tm nm nf om oq tf bo : Nat → Nat} {tq : Nat → Option Nat} {ra : Nat → rx_A} {u : Nat → rx_T} {ng og : Nat → Int32} (h : sm_I cc fc nc tn sn ct mn rs fn tc fo tq ra u mb md tm nm nf om oq tf bo ng og sg os tr tb rn ip) {t : Nat} (ht : t < tn) : rx_why rs fn fo nc (u t) = mo_why md rn sg os om og oq tr tb rs fn fo tf nc t := by
  obtain ⟨h1, h2⟩ := sm_rr h ht
  obtain ⟨⟨⟨g1, g2, g3, g4, g5, g6⟩, g⟩, _, hr, _⟩ := h
  obtain ⟨⟨a1, a2, a3, a4, a5, a6, a7⟩, _⟩ := hr t (by omega)
  unfold rx_why mo_why
  rw [a1, a3, a4, a5]
  congr 1
  refine sm_fr_eq (fun i hi hb => ?_) (fun j hj _ => ?_)
  · obtain ⟨k, hk, e⟩ := (h2.2.2.2.1 i hi).mp hb
    exact ⟨k, hk, rfl, by rw [← h1 k hk, e]⟩
  · have hlt := sm_key_lt g2 (h2.2.2.1 j hj)
    exact ⟨_, hlt, (h2.2.2.2.1 _ hlt).mpr ⟨j, hj, rfl⟩, h1 j hj⟩
theorem sm_ch {cc fc nc tn sn ct mn : Nat} {rs fn sg os tr tb : Nat → Int64} {tc rn ip : Nat → Bool} {fo mb md tm nm nf om oq tf bo : Nat → Nat} {tq : Nat → Option Nat} {ra : Nat → rx_A} {u : Nat → rx_T} {ng og : Nat → Int32} (h : sm_I cc fc nc tn sn ct mn rs fn tc fo tq ra u mb md tm nm nf om oq tf bo ng og sg os tr tb rn ip) {t : Nat} (ht : t < tn) : rx_ch rs fn fo nc (u t) = mo_ch md om og oq tr tb rs fn fo tf nc t ∧ bc_cnt (u t).2.2.2.2.2.1 = om t := by
  obtain ⟨h1, h2⟩ := sm_rr h ht
  have g2 := h.1.1.2.1
  refine ⟨?_, h2.2.1⟩
  exact sm_ch_eq (key := fun k => sm_key (oq (30 * t + k)) (og (30 * t + k))) (om t) _ h2.2.2.2.1 (fun k hk => sm_key_lt g2 (h2.2.2.1 k hk)) h2.2.2.2.2 h1
theorem sm_share {cc fc nc tn sn ct mn : Nat} {rs fn sg os tr tb : Nat → Int64} {tc rn ip : Nat → Bool} {fo mb md tm nm nf om oq tf bo : Nat → Nat} {tq : Nat → Option Nat} {ra : Nat → rx_A} {u : Nat → rx_T} {ng og : Nat → Int32} (h : sm_I cc fc nc tn sn ct mn rs fn tc fo tq ra u mb md tm nm nf om oq tf bo ng og sg os tr tb rn ip) {t : Nat} (ht : t < tn) : rx_sh tc (u t) = px_sum (fun f => bo (20 * t + f)) tc fc := by
  obtain ⟨⟨⟨g1, g2, g3, g4, g5, g6⟩, g7, g8, g9, g10⟩, _, hr, _⟩ := h
  obtain ⟨_, b, c, d, _⟩ := hr t (by omega)
  exact sm_sum g1 (fun j hj => (d j hj).symm) (fun j h1 _ => (g9 j h1).2)
theorem sm_shlt {cc fc nc tn sn ct mn : Nat} {rs fn sg os tr tb : Nat → Int64} {tc rn ip : Nat → Bool} {fo mb md tm nm nf om oq tf bo : Nat → Nat} {tq : Nat → Option Nat} {ra : Nat → rx_A} {u : Nat → rx_T} {ng og : Nat → Int32} (h : sm_I cc fc nc tn sn ct mn rs fn tc fo tq ra u mb md tm nm nf om oq tf bo ng og sg os tr tb rn ip) (hc : cc ≤ 4096) (t : Nat) (ht : t < tn) : rx_sh tc (u t) < 2 ^ 31 := by
  obtain ⟨⟨⟨g1, g2, g3, g4, g5, g6⟩, g⟩, _, hr, _⟩ := h
  obtain ⟨_, b, c, d, e1, e2, e3, _⟩ := hr t (by omega)
  have := sm_sum_le (t := tc) e3 20
  show px_sum _ tc 20 < _
  omega
theorem sm_select {cc fc nc tn sn ct mn : Nat} {rs fn sg os tr tb : Nat → Int64} {tc rn ip : Nat → Bool} {fo mb md tm nm nf om oq tf bo : Nat → Nat} {tq : Nat → Option Nat} {ra : Nat → rx_A} {u : Nat → rx_T} {ng og : Nat → Int32} {rt rh ri : Nat → Nat} {lk : Nat → Bool} (h : sm_I cc fc nc tn sn ct mn rs fn tc fo tq ra u mb md tm nm nf om oq tf bo ng og sg os tr tb rn ip) (b0 : Nat) : (mo_B (fun t => px_sum (fun f => bo (20 * t + f)) tc fc) tm tn (b0, mo_A (mo_why md rn sg os om og oq tr tb rs fn fo tf nc) (mb, 0, px_mix (fun _ => false) ip 24, px_mix (fun _ => false) lk 24) tn) 24).2.1 = (px_tk (px_run (fun j => rx_why rs fn fo nc (u j)) (fun j => rx_sh tc (u j)) (fun j => (u j).2.1) (mb, 0, rt, rh, ri, 0) tn).2.2.1 (px_run (fun j => rx_why rs fn fo nc (u j)) (fun j => rx_sh tc (u j)) (fun j => (u j).2.1) (mb, 0, rt, rh, ri, 0) tn).2.2.2.2.1 b0 (px_run (fun j => rx_why rs fn fo nc (u j)) (fun j => rx_sh tc (u j)) (fun j => (u j).2.1) (mb, 0, rt, rh, ri, 0) tn).1 (px_run (fun j => rx_why rs fn fo nc (u j)) (fun j => rx_sh tc (u j)) (fun j => (u j).2.1) (mb, 0, rt, rh, ri, 0) tn).2.1 (px_run (fun j => rx_why rs fn fo nc (u j)) (fun j => rx_sh tc (u j)) (fun j => (u j).2.1) (mb, 0, rt, rh, ri, 0) tn).2.2.2.2.2).2.1 ∧ (mo_B (fun t => px_sum (fun f => bo (20 * t + f)) tc fc) tm tn (b0, mo_A (mo_why md rn sg os om og oq tr tb rs fn fo tf nc) (mb, 0, px_mix (fun _ => false) ip 24, px_mix (fun _ => false) lk 24) tn) 24).2.2.1 = (px_tk (px_run (fun j => rx_why rs fn fo nc (u j)) (fun j => rx_sh tc (u j)) (fun j => (u j).2.1) (mb, 0, rt, rh, ri, 0) tn).2.2.1 (px_run (fun j => rx_why rs fn fo nc (u j)) (fun j => rx_sh tc (u j)) (fun j => (u j).2.1) (mb, 0, rt, rh, ri, 0) tn).2.2.2.2.1 b0 (px_run (fun j => rx_why rs fn fo nc (u j)) (fun j => rx_sh tc (u j)) (fun j => (u j).2.1) (mb, 0, rt, rh, ri, 0) tn).1 (px_run (fun j => rx_why rs fn fo nc (u j)) (fun j => rx_sh tc (u j)) (fun j => (u j).2.1) (mb, 0, rt, rh, ri, 0) tn).2.1 (px_run (fun j => rx_why rs fn fo nc (u j)) (fun j => rx_sh tc (u j)) (fun j => (u j).2.1) (mb, 0, rt, rh, ri, 0) tn).2.2.2.2.2).2.2 ∧ sm_I (cc + 1) fc nc tn ((px_tk (px_run (fun j => rx_why rs fn fo nc (u j)) (fun j => rx_sh tc (u j)) (fun j => (u j).2.1) (mb, 0, rt, rh, ri, 0) tn).2.2.1 (px_run (fun j => rx_why rs fn fo nc (u j)) (fun j => rx_sh tc (u j)) (fun j => (u j).2.1) (mb, 0, rt, rh, ri, 0) tn).2.2.2.2.1 b0 (px_run (fun j => rx_why rs fn fo nc (u j)) (fun j => rx_sh tc (u j)) (fun j => (u j).2.1) (mb, 0, rt, rh, ri, 0) tn).1 (px_run (fun j => rx_why rs fn fo nc (u j)) (fun j => rx_sh tc (u j)) (fun j => (u j).2.1) (mb, 0, rt, rh, ri, 0) tn).2.1 (px_run (fun j => rx_why rs fn fo nc (u j)) (fun j => rx_sh tc (u j)) (fun j => (u j).2.1) (mb, 0, rt, rh, ri, 0) tn).2.2.2.2.2).2.2) (ct + 1) mn rs fn (px_mix (fun _ => false) tc 20) fo tq ra u ((px_tk (px_run (fun j => rx_why rs fn fo nc (u j)) (fun j => rx_sh tc (u j)) (fun j => (u j).2.1) (mb, 0, rt, rh, ri, 0) tn).2.2.1 (px_run (fun j => rx_why rs fn fo nc (u j)) (fun j => rx_sh tc (u j)) (fun j => (u j).2.1) (mb, 0, rt, rh, ri, 0) tn).2.2.2.2.1 b0 (px_run (fun j => rx_why rs fn fo nc (u j)) (fun j => rx_sh tc (u j)) (fun j => (u j).2.1) (mb, 0, rt, rh, ri, 0) tn).1 (px_run (fun j => rx_why rs fn fo nc (u j)) (fun j => rx_sh tc (u j)) (fun j => (u j).2.1) (mb, 0, rt, rh, ri, 0) tn).2.1 (px_run (fun j => rx_why rs fn fo nc (u j)) (fun j => rx_sh tc (u j)) (fun j => (u j).2.1) (mb, 0, rt, rh, ri, 0) tn).2.2.2.2.2).2.1) md tm nm nf om oq tf bo ng og sg os tr tb rn ((mo_B (fun t => px_sum (fun f => bo (20 * t + f)) tc fc) tm tn (b0, mo_A (mo_why md rn sg os om og oq tr tb rs fn fo tf nc) (mb, 0, px_mix (fun _ => false) ip 24, px_mix (fun _ => false) lk 24) tn) 24).2.2.2.1) := by
  have hw : ∀ t, t < tn → rx_why rs fn fo nc (u t) = mo_why md rn sg os om og oq tr tb rs fn fo tf nc t ∧ rx_sh tc (u t) = px_sum (fun f => bo (20 * t + f)) tc fc ∧ (u t).2.1 = tm t := fun t ht => ⟨sm_why h ht, sm_share h ht, (h.2.2.1 t (by have := h.1.1.2.2.1; omega)).1.2.1.symm⟩
  obtain ⟨⟨⟨g1, g2, g3, g4, g5, g6⟩, g7, g8, g9, g10⟩, ht, hr, hi, hj⟩ := h
  have hs := sm_sel (wy := fun j => rx_why rs fn fo nc (u j)) (sh := fun j => rx_sh tc (u j)) (tm := fun j => (u j).2.1) (wy' := mo_why md rn sg os om og oq tr tb rs fn fo tf nc) (sh' := fun t => px_sum (fun f => bo (20 * t + f)) tc fc) (tm' := tm) (mb := mb) (rt := rt) (rh := rh) (ri := ri) (ip := px_mix (fun _ => false) ip 24) (lk := px_mix (fun _ => false) lk 24) (b := b0) g3 hw (fun t q => (ht.2.2 t q).2.1) (fun j q => if_pos q)
  refine ⟨hs.1, hs.2, ⟨⟨g1, g2, g3, ?_, g5, by omega⟩, g7, g8, fun f hf => ⟨(g9 f hf).1, ?_⟩, g10⟩, ht, fun t q => sm_row_grow (hr t q) (Nat.le_refl _) (Nat.le_refl _) (fun _ _ => rfl), ?_, ?_⟩
  · refine px_tk_sn ?_ _
    have e := (sm_A (wy := fun j => rx_why rs fn fo nc (u j)) (sh := fun j => rx_sh tc (u j)) (tm := fun j => (u j).2.1) (mb := mb) (rt := rt) (rh := rh) (ri := ri) (ip := ip) (lk := lk) tn).2
    rw [← e]
    exact Nat.le_trans (mo_A_pn (w := (mb, 0, ip, lk)) rfl tn) g3
  · unfold px_mix
    split
    · rfl
    · exact (g9 f hf).2
  · rw [← hs.1, ← hs.2]
    exact sm_ip_B (w := (b0, mo_A (mo_why md rn sg os om og oq tr tb rs fn fo tf nc) (mb, 0, px_mix (fun _ => false) ip 24, px_mix (fun _ => false) lk 24) tn)) (sm_ip_A (w := (mb, 0, px_mix (fun _ => false) ip 24, px_mix (fun _ => false) lk 24)) (fun x hx => by rw [sm_mem_0]; exact if_pos hx) tn) 24
  · rw [← hs.1, ← hs.2]
    exact sm_pk_B (w := (b0, mo_A (mo_why md rn sg os om og oq tr tb rs fn fo tf nc) (mb, 0, px_mix (fun _ => false) ip 24, px_mix (fun _ => false) lk 24) tn)) (sm_pk_A (w := (mb, 0, px_mix (fun _ => false) ip 24, px_mix (fun _ => false) lk 24)) rfl tn (Nat.le_refl _)) 24
theorem sm_start (tq : Nat → Option Nat) (ra : Nat → rx_A) (mb : Nat → Nat) : sm_I (0) (0) (0) (0) (0) (0) (0) (fun _ => 0) (fun _ => 0) (fun _ => false) (fun _ => 0) tq ra (fun _ => rx_new 0 0) mb (fun _ => 0) (fun _ => 0) (fun _ => 0) (fun _ => 0) (fun _ => 0) (fun _ => 0) (fun _ => 0) (fun _ => 0) (kx_ni (fun _ => 0)) (kx_ni (fun _ => 0)) (fun _ => 0) (fun _ => 0) (fun _ => 0) (fun _ => 0) (fun _ => false) (fun _ => false) := by
  have hz : ∀ f : Nat → Nat, ∀ g : Nat → Int32, sm_rd (fun _ => 0) 0 0 f g 0 := fun f g => sm_rd_0
  refine ⟨⟨⟨by omega, by omega, by omega, by omega, by omega, by omega⟩, fun _ => by show 0 < 20; omega, fun j hj => absurd hj (by omega), fun _ _ => ⟨rfl, rfl⟩, fun _ _ => rfl, fun _ => by show 0 < 20; omega⟩, ⟨fun j hj => absurd hj (by omega), fun _ _ => rfl, fun t ht => absurd ht (by omega)⟩, fun t _ => ⟨⟨rfl, rfl, rfl, rfl, rfl, rfl, by show 0 ≤ 40; omega⟩, fun _ _ => rfl, fun _ _ => rfl, fun _ _ => rfl, fun _ _ => rfl, fun _ _ => rfl, fun _ => Nat.le_refl _, hz _ _, hz _ _⟩, fun x _ => by rw [sm_mem_0], fun j hj => absurd hj (by omega)⟩
