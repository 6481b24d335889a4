theorem la_756 {p : Program} {l : Launch} {e : Env} {s : State} {m : MethodId} {below : List Frame} {meth : Method} {c : Code} {b L : Nat} {xs : Nat → Int32} {D : va_G} {i cc : Nat} (Cx : la_cx p s m c b L xs D) (kk : la_go p l e s m below meth c b D 18 (i + 4) cc) : la_go p l e s m below meth c b D 756 i cc := by
  obtain ⟨hx, hb, -⟩ := Cx
  intro t0 h0 a1 a2 a3 a4 ta s0 m1 m2 e0 r1 r2 r3 n0 t1 t2 w0 ma fc nc tn sn ct mn rk rs fn tc fo tq ra u mb td rt rh ri mt mc md tm nm nf om oq tf bo ng og sg os tr tb rn ip lk H locs ls hI hP hD hS hl
  refine lv_iinc (v := nI (i + 4)) (lv' := [(3, .int (nI (i + 4))), (2, .ref w0), (1, .ref t0), (0, .ref b)]) hx hb d_La_law_756 hl (k := 0) rfl (kx_inc i 4 (by decide)) (by decide) rfl (fun ls hl => ?_)
  refine lv_goto (tgt := 18) hx hb d_La_law_759 (by decide) ?_
  exact kk t0 h0 a1 a2 a3 a4 ta s0 m1 m2 e0 r1 r2 r3 n0 t1 t2 w0 ma fc nc tn sn ct mn rk rs fn tc fo tq ra u mb td rt rh ri mt mc md tm nm nf om oq tf bo ng og sg os tr tb rn ip lk H locs ls hI hP hD hS hl
/-- the law's loop, at its head -/
theorem la_loop {p : Program} {l : Launch} {e : Env} {s : State} {m : MethodId} {below : List Frame} {meth : Method} {c : Code} {b L : Nat} {xs : Nat → Int32} {D : va_G} (hL : L ≤ 2048) (Cx : la_cx p s m c b L xs D) (hr : meth.sig.returnType = ret) (hlocks : meth.locks = false) : ∀ (n i cc : Nat), i = 4 * cc → i ≤ L → L < i + 4 * n → la_go p l e s m below meth c b D 18 i cc := by
  intro n
  induction n with
  | zero => intro i cc h1 h2 h3; omega
  | succ n ih =>
    intro i cc hic hil hin
    have hcc : cc ≤ 512 := by omega
    have kn : i + 4 ≤ L → la_go p l e s m below meth c b D 756 i (cc + 1) := fun h => la_756 Cx (ih (i + 4) (cc + 1) (by omega) h (by omega))
    obtain ⟨hx, hb, hml, hown, hts, hX, hbl, hKK⟩ := id Cx
    have hbA : ¬ la_A s b := Nat.not_le.mpr hbl
    intro t0 h0 a1 a2 a3 a4 ta s0 m1 m2 e0 r1 r2 r3 n0 t1 t2 w0 ma fc nc tn sn ct mn rk rs fn tc fo tq ra u mb td rt rh ri mt mc md tm nm nf om oq tf bo ng og sg os tr tb rn ip lk H locs ls hI hP hD hS hl
    refine lv_iload_n hx hb d_La_law_18 rfl (lv_at hl 0 rfl) ?_
    refine lv_aload_n hx hb d_La_law_19 rfl (lv_at hl 3 rfl) ?_
    refine va_slen hx hb hX hbl hbA hS d_La_law_20 ?_
    refine lv_iconst (v := nI 4) hx hb d_La_law_21 (by decide) ?_
    refine lv_isub hx hb d_La_law_22 ?_
    refine lv_icmp_gt (tgt := 762) hx hb d_La_law_23 (by decide) (fun c1 => ?_) (fun c1 => ?_)
    · refine lv_iconst (v := 1) hx hb d_La_law_762 (by decide) ?_
      refine va_forget (fun q hq => hS.2.2 q hq) ?_
      refine W.widen (k := 600000) (n := 7302250) (by omega) (by omega) ?_
      exact lw_ret hx hb hr hlocks d_La_law_763
    · have hi4 : i + 4 ≤ L := by
        rcases Nat.lt_or_ge L (i + 4) with q | q
        · refine absurd ?_ c1
          show nI L - nI 4 < nI i
          rw [Int32.lt_iff_toInt_lt, pk_sub_toInt (by omega) (by omega), nI_toInt (by omega)]
          omega
        · exact q
      have kn := kn hi4
      refine lv_aload_n hx hb d_La_law_26 rfl (lv_at hl 3 rfl) ?_
      refine lv_iload_n hx hb d_La_law_27 rfl (lv_at hl 0 rfl) ?_
      refine la_sld hx hb hX hbl hbA hS (k := i) (by omega) hL d_La_law_28 ?_
      refine lv_bipush (v := nI 15) hx hb d_La_law_29 (by decide) ?_
      refine lv_iand hx hb d_La_law_31 ?_
      refine kx_topi (pk_and (xs i) (m := nI 15) 4 (by decide)) ?_
      have hlt : (xs i).toBitVec.toNat % 2 ^ 4 < 16 := Nat.mod_lt _ (by decide)
      generalize (xs i).toBitVec.toNat % 2 ^ 4 = k at hlt ⊢
      rcases (show k = 0 ∨ k = 1 ∨ k = 2 ∨ k = 3 ∨ k = 4 ∨ k = 5 ∨ k = 6 ∨ k = 7 ∨ k = 8 ∨ k = 9 ∨ k = 10 ∨ k = 11 ∨ k = 12 ∨ k = 13 ∨ k = 14 ∨ k = 15 by omega) with rfl | rfl | rfl | rfl | rfl | rfl | rfl | rfl | rfl | rfl | rfl | rfl | rfl | rfl | rfl | rfl
      · refine lv_tableIn (off := 80) (tgt := 112) hx hb d_La_law_32 (by decide) (by decide) (by decide) (by decide) ?_
        exact la_k0 hL Cx hi4 hcc kn t0 h0 a1 a2 a3 a4 ta s0 m1 m2 e0 r1 r2 r3 n0 t1 t2 w0 ma fc nc tn sn ct mn rk rs fn tc fo tq ra u mb td rt rh ri mt mc md tm nm nf om oq tf bo ng og sg os tr tb rn ip lk H locs ls hI hP hD hS hl
      · refine lv_tableIn (off := 133) (tgt := 165) hx hb d_La_law_32 (by decide) (by decide) (by decide) (by decide) ?_
        exact la_k1 hL Cx hi4 hcc kn t0 h0 a1 a2 a3 a4 ta s0 m1 m2 e0 r1 r2 r3 n0 t1 t2 w0 ma fc nc tn sn ct mn rk rs fn tc fo tq ra u mb td rt rh ri mt mc md tm nm nf om oq tf bo ng og sg os tr tb rn ip lk H locs ls hI hP hD hS hl
      · refine lv_tableIn (off := 196) (tgt := 228) hx hb d_La_law_32 (by decide) (by decide) (by decide) (by decide) ?_
        exact la_k2 hL Cx hi4 hcc kn t0 h0 a1 a2 a3 a4 ta s0 m1 m2 e0 r1 r2 r3 n0 t1 t2 w0 ma fc nc tn sn ct mn rk rs fn tc fo tq ra u mb td rt rh ri mt mc md tm nm nf om oq tf bo ng og sg os tr tb rn ip lk H locs ls hI hP hD hS hl
      · refine lv_tableIn (off := 259) (tgt := 291) hx hb d_La_law_32 (by decide) (by decide) (by decide) (by decide) ?_
        exact la_k3 hL Cx hi4 hcc kn t0 h0 a1 a2 a3 a4 ta s0 m1 m2 e0 r1 r2 r3 n0 t1 t2 w0 ma fc nc tn sn ct mn rk rs fn tc fo tq ra u mb td rt rh ri mt mc md tm nm nf om oq tf bo ng og sg os tr tb rn ip lk H locs ls hI hP hD hS hl
      · refine lv_tableIn (off := 322) (tgt := 354) hx hb d_La_law_32 (by decide) (by decide) (by decide) (by decide) ?_
        exact la_k4 hL Cx hi4 hcc kn t0 h0 a1 a2 a3 a4 ta s0 m1 m2 e0 r1 r2 r3 n0 t1 t2 w0 ma fc nc tn sn ct mn rk rs fn tc fo tq ra u mb td rt rh ri mt mc md tm nm nf om oq tf bo ng og sg os tr tb rn ip lk H locs ls hI hP hD hS hl
      · refine lv_tableIn (off := 355) (tgt := 387) hx hb d_La_law_32 (by decide) (by decide) (by decide) (by decide) ?_
        exact la_k5 hL Cx hi4 hcc kn t0 h0 a1 a2 a3 a4 ta s0 m1 m2 e0 r1 r2 r3 n0 t1 t2 w0 ma fc nc tn sn ct mn rk rs fn tc fo tq ra u mb td rt rh ri mt mc md tm nm nf om oq tf bo ng og sg os tr tb rn ip lk H locs ls hI hP hD hS hl
      · refine lv_tableIn (off := 418) (tgt := 450) hx hb d_La_law_32 (by decide) (by decide) (by decide) (by decide) ?_
        exact la_k6 hL Cx hi4 hcc kn t0 h0 a1 a2 a3 a4 ta s0 m1 m2 e0 r1 r2 r3 n0 t1 t2 w0 ma fc nc tn sn ct mn rk rs fn tc fo tq ra u mb td rt rh ri mt mc md tm nm nf om oq tf bo ng og sg os tr tb rn ip lk H locs ls hI hP hD hS hl
      · refine lv_tableIn (off := 461) (tgt := 493) hx hb d_La_law_32 (by decide) (by decide) (by decide) (by decide) ?_
        exact la_k7 hL Cx hi4 hcc kn t0 h0 a1 a2 a3 a4 ta s0 m1 m2 e0 r1 r2 r3 n0 t1 t2 w0 ma fc nc tn sn ct mn rk rs fn tc fo tq ra u mb td rt rh ri mt mc md tm nm nf om oq tf bo ng og sg os tr tb rn ip lk H locs ls hI hP hD hS hl
      · refine lv_tableIn (off := 510) (tgt := 542) hx hb d_La_law_32 (by decide) (by decide) (by decide) (by decide) ?_
        exact la_k8 hL Cx hi4 hcc kn t0 h0 a1 a2 a3 a4 ta s0 m1 m2 e0 r1 r2 r3 n0 t1 t2 w0 ma fc nc tn sn ct mn rk rs fn tc fo tq ra u mb td rt rh ri mt mc md tm nm nf om oq tf bo ng og sg os tr tb rn ip lk H locs ls hI hP hD hS hl
      · refine lv_tableIn (off := 533) (tgt := 565) hx hb d_La_law_32 (by decide) (by decide) (by decide) (by decide) ?_
        exact la_k9 hL Cx hi4 hcc kn t0 h0 a1 a2 a3 a4 ta s0 m1 m2 e0 r1 r2 r3 n0 t1 t2 w0 ma fc nc tn sn ct mn rk rs fn tc fo tq ra u mb td rt rh ri mt mc md tm nm nf om oq tf bo ng og sg os tr tb rn ip lk H locs ls hI hP hD hS hl
      · refine lv_tableIn (off := 556) (tgt := 588) hx hb d_La_law_32 (by decide) (by decide) (by decide) (by decide) ?_
        exact la_k10 hL Cx hi4 hcc kn t0 h0 a1 a2 a3 a4 ta s0 m1 m2 e0 r1 r2 r3 n0 t1 t2 w0 ma fc nc tn sn ct mn rk rs fn tc fo tq ra u mb td rt rh ri mt mc md tm nm nf om oq tf bo ng og sg os tr tb rn ip lk H locs ls hI hP hD hS hl
      · refine lv_tableIn (off := 579) (tgt := 611) hx hb d_La_law_32 (by decide) (by decide) (by decide) (by decide) ?_
        exact la_k11 hL Cx hi4 hcc kn t0 h0 a1 a2 a3 a4 ta s0 m1 m2 e0 r1 r2 r3 n0 t1 t2 w0 ma fc nc tn sn ct mn rk rs fn tc fo tq ra u mb td rt rh ri mt mc md tm nm nf om oq tf bo ng og sg os tr tb rn ip lk H locs ls hI hP hD hS hl
      · refine lv_tableIn (off := 612) (tgt := 644) hx hb d_La_law_32 (by decide) (by decide) (by decide) (by decide) ?_
        exact la_k12 hL Cx hi4 hcc kn t0 h0 a1 a2 a3 a4 ta s0 m1 m2 e0 r1 r2 r3 n0 t1 t2 w0 ma fc nc tn sn ct mn rk rs fn tc fo tq ra u mb td rt rh ri mt mc md tm nm nf om oq tf bo ng og sg os tr tb rn ip lk H locs ls hI hP hD hS hl
      · refine lv_tableIn (off := 635) (tgt := 667) hx hb d_La_law_32 (by decide) (by decide) (by decide) (by decide) ?_
        exact la_k13 hL Cx hi4 hcc kn t0 h0 a1 a2 a3 a4 ta s0 m1 m2 e0 r1 r2 r3 n0 t1 t2 w0 ma fc nc tn sn ct mn rk rs fn tc fo tq ra u mb td rt rh ri mt mc md tm nm nf om oq tf bo ng og sg os tr tb rn ip lk H locs ls hI hP hD hS hl
      · refine lv_tableIn (off := 668) (tgt := 700) hx hb d_La_law_32 (by decide) (by decide) (by decide) (by decide) ?_
        exact la_k14 hL Cx hi4 hcc kn t0 h0 a1 a2 a3 a4 ta s0 m1 m2 e0 r1 r2 r3 n0 t1 t2 w0 ma fc nc tn sn ct mn rk rs fn tc fo tq ra u mb td rt rh ri mt mc md tm nm nf om oq tf bo ng og sg os tr tb rn ip lk H locs ls hI hP hD hS hl
      · refine lv_tableIn (off := 691) (tgt := 723) hx hb d_La_law_32 (by decide) (by decide) (by decide) (by decide) ?_
        exact la_k15 hL Cx hi4 hcc kn t0 h0 a1 a2 a3 a4 ta s0 m1 m2 e0 r1 r2 r3 n0 t1 t2 w0 ma fc nc tn sn ct mn rk rs fn tc fo tq ra u mb td rt rh ri mt mc md tm nm nf om oq tf bo ng og sg os tr tb rn ip lk H locs ls hI hP hD hS hl
