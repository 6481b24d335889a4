def rm_Ra_init : Room := { frames := 1, cells := 3, slots := 72, locals := 20 }
set_option maxHeartbeats 4000000 in
set_option maxRecDepth 100000 in
/-- Ranking() -/
theorem c_Ra_init (l : Launch) (D : va_G) (h0 : Nat) (sz : Nat) : Met l yy_Ra_init ww_Ra_init rm_Ra_init (va_Pc [.ref h0] (kx_C (kx_K D) D vwCl [(h0, .inr (1, [.null, .null, .null, .int (nI 0)]))] sz)) (kx_Q (S := Nat × Nat × Nat) D vwCl (fun z => none) (fun _ => True) (fun z => [(h0, .inr (1, [.ref z.1, .ref z.2.1, .ref z.2.2, .int (nI 0)])), (z.1, .inl (D.1 100, 24, .inl (kx_ni (fun _ => 0)))), (z.2.1, .inl (D.1 100, 24, .inl (kx_ni (fun _ => 0)))), (z.2.2, .inl (D.1 100, 24, .inl (kx_ni (fun _ => 0))))]) (va_A [(h0, .inr (1, [.null, .null, .null, .int (nI 0)]))] sz)) 3 72 (va_A [(h0, .inr (1, [.null, .null, .null, .int (nI 0)]))] sz) := by
  refine kx_metW (by decide) rfl (Nat.le_of_ble_eq_true rfl) ?_
  intro p e s m args below meth c ls Q A hx hb hts hown hml hin hA hP hD hS hKK hl hQi hQz hQa hQv
  have hK := hKK.1
  replace hown : s.vm.findClass "TouchSelect$Ranking" = some m.cls := hown
  replace hl : lv_has ls 1 [(0, .ref h0)] := hl
  refine lv_aload_n hx hb d_Ra_init_0 rfl (lv_at hl 0 rfl) ?_
  refine W.objInit hx hb hown (hts _ (gw_in gw_66)) (hts _ (gw_in gw_16)) (hts _ (gw_in gw_17)) rfl (by rw [hml]; exact hl.1) rfl d_Ra_init_1 (Nat.le_of_ble_eq_true rfl) (Nat.le_of_ble_eq_true rfl) ?_
  refine W.eq (g2 := F0 m 4 ls []) rfl ?_
  refine lv_aload_n hx hb d_Ra_init_4 rfl (lv_at hl 0 rfl) ?_
  refine lv_bipush (v := (nI 24)) hx hb d_Ra_init_5 (by decide) ?_
  refine kx_newI hx hb (hts _ (gw_in gw_43)) hK hP hD hS hA 0 rfl (by decide) (Nat.le_of_ble_eq_true rfl) (Nat.le_of_ble_eq_true rfl) d_Ra_init_7 (fun q_7 H hP hD hS => ?_)
  replace hP : va_P D vwCl [(h0, .inr (1, [.null, .null, .null, .int (nI 0)])), (q_7, .inl (D.1 100, 24, .inl (kx_ni (fun _ => 0))))] H := hP
  replace hD : va_D A [(h0, .inr (1, [.null, .null, .null, .int (nI 0)])), (q_7, .inl (D.1 100, 24, .inl (kx_ni (fun _ => 0))))] := hD
  refine W.widen (k := 1) (n := 24) (Nat.le_refl _) (Nat.le_refl _) ?_
  refine va_putF (D := D) (ci := 1) (v := .ref q_7) (ty := (.array .int)) (C := "TouchSelect$Ranking") (T := tt_Ra) (N := 4) hx hb hts (in_Ra _) ty_Ra ty_Ra_ok nm_Ra hown hK hP hD hS 0 rfl rfl 0 (by decide) (hts _ (gw_in gw_67)) (fun _ h9 => h9) rfl hin rfl (by decide +kernel) rfl rfl (Nat.le_of_ble_eq_true rfl) d_Ra_init_9 (fun H locs hP hD hS => ?_)
  replace hP : va_P D vwCl [(h0, .inr (1, [.ref q_7, .null, .null, .int (nI 0)])), (q_7, .inl (D.1 100, 24, .inl (kx_ni (fun _ => 0))))] H := hP
  replace hD : va_D A [(h0, .inr (1, [.ref q_7, .null, .null, .int (nI 0)])), (q_7, .inl (D.1 100, 24, .inl (kx_ni (fun _ => 0))))] := hD
  refine lv_aload_n hx hb d_Ra_init_12 rfl (lv_at hl 0 rfl) ?_
  refine lv_bipush (v := (nI 24)) hx hb d_Ra_init_13 (by decide) ?_
  refine kx_newI hx hb (hts _ (gw_in gw_43)) hK hP hD hS hA 0 rfl (by decide) (Nat.le_of_ble_eq_true rfl) (Nat.le_of_ble_eq_true rfl) d_Ra_init_15 (fun q_15 H hP hD hS => ?_)
  replace hP : va_P D vwCl [(h0, .inr (1, [.ref q_7, .null, .null, .int (nI 0)])), (q_7, .inl (D.1 100, 24, .inl (kx_ni (fun _ => 0)))), (q_15, .inl (D.1 100, 24, .inl (kx_ni (fun _ => 0))))] H := hP
  replace hD : va_D A [(h0, .inr (1, [.ref q_7, .null, .null, .int (nI 0)])), (q_7, .inl (D.1 100, 24, .inl (kx_ni (fun _ => 0)))), (q_15, .inl (D.1 100, 24, .inl (kx_ni (fun _ => 0))))] := hD
  refine W.widen (k := 2) (n := 48) (Nat.le_refl _) (Nat.le_refl _) ?_
  refine va_putF (D := D) (ci := 1) (v := .ref q_15) (ty := (.array .int)) (C := "TouchSelect$Ranking") (T := tt_Ra) (N := 4) hx hb hts (in_Ra _) ty_Ra ty_Ra_ok nm_Ra hown hK hP hD hS 0 rfl rfl 1 (by decide) (hts _ (gw_in gw_69)) (fun _ h9 => h9) rfl hin rfl (by decide +kernel) rfl rfl (Nat.le_of_ble_eq_true rfl) d_Ra_init_17 (fun H locs hP hD hS => ?_)
  replace hP : va_P D vwCl [(h0, .inr (1, [.ref q_7, .ref q_15, .null, .int (nI 0)])), (q_7, .inl (D.1 100, 24, .inl (kx_ni (fun _ => 0)))), (q_15, .inl (D.1 100, 24, .inl (kx_ni (fun _ => 0))))] H := hP
  replace hD : va_D A [(h0, .inr (1, [.ref q_7, .ref q_15, .null, .int (nI 0)])), (q_7, .inl (D.1 100, 24, .inl (kx_ni (fun _ => 0)))), (q_15, .inl (D.1 100, 24, .inl (kx_ni (fun _ => 0))))] := hD
  refine lv_aload_n hx hb d_Ra_init_20 rfl (lv_at hl 0 rfl) ?_
  refine lv_bipush (v := (nI 24)) hx hb d_Ra_init_21 (by decide) ?_
  refine kx_newI hx hb (hts _ (gw_in gw_43)) hK hP hD hS hA 0 rfl (by decide) (Nat.le_of_ble_eq_true rfl) (Nat.le_of_ble_eq_true rfl) d_Ra_init_23 (fun q_23 H hP hD hS => ?_)
  replace hP : va_P D vwCl [(h0, .inr (1, [.ref q_7, .ref q_15, .null, .int (nI 0)])), (q_7, .inl (D.1 100, 24, .inl (kx_ni (fun _ => 0)))), (q_15, .inl (D.1 100, 24, .inl (kx_ni (fun _ => 0)))), (q_23, .inl (D.1 100, 24, .inl (kx_ni (fun _ => 0))))] H := hP
  replace hD : va_D A [(h0, .inr (1, [.ref q_7, .ref q_15, .null, .int (nI 0)])), (q_7, .inl (D.1 100, 24, .inl (kx_ni (fun _ => 0)))), (q_15, .inl (D.1 100, 24, .inl (kx_ni (fun _ => 0)))), (q_23, .inl (D.1 100, 24, .inl (kx_ni (fun _ => 0))))] := hD
  refine W.widen (k := 3) (n := 72) (Nat.le_refl _) (Nat.le_refl _) ?_
  refine va_putF (D := D) (ci := 1) (v := .ref q_23) (ty := (.array .int)) (C := "TouchSelect$Ranking") (T := tt_Ra) (N := 4) hx hb hts (in_Ra _) ty_Ra ty_Ra_ok nm_Ra hown hK hP hD hS 0 rfl rfl 2 (by decide) (hts _ (gw_in gw_70)) (fun _ h9 => h9) rfl hin rfl (by decide +kernel) rfl rfl (Nat.le_of_ble_eq_true rfl) d_Ra_init_25 (fun H locs hP hD hS => ?_)
  replace hP : va_P D vwCl [(h0, .inr (1, [.ref q_7, .ref q_15, .ref q_23, .int (nI 0)])), (q_7, .inl (D.1 100, 24, .inl (kx_ni (fun _ => 0)))), (q_15, .inl (D.1 100, 24, .inl (kx_ni (fun _ => 0)))), (q_23, .inl (D.1 100, 24, .inl (kx_ni (fun _ => 0))))] H := hP
  replace hD : va_D A [(h0, .inr (1, [.ref q_7, .ref q_15, .ref q_23, .int (nI 0)])), (q_7, .inl (D.1 100, 24, .inl (kx_ni (fun _ => 0)))), (q_15, .inl (D.1 100, 24, .inl (kx_ni (fun _ => 0)))), (q_23, .inl (D.1 100, 24, .inl (kx_ni (fun _ => 0))))] := hD
  refine lv_aload_n hx hb d_Ra_init_28 rfl (lv_at hl 0 rfl) ?_
  refine lv_iconst (v := (nI 0)) hx hb d_Ra_init_29 (by decide) ?_
  refine va_put (D := D) (ci := 1) (v := .int (nI 0)) (ty := .int) (C := "TouchSelect$Ranking") (T := tt_Ra) (N := 4) hx hb hts (in_Ra _) ty_Ra ty_Ra_ok nm_Ra hown hK hP hD hS 0 rfl rfl 3 (by decide) (hts _ (gw_in gw_72)) (fun _ h9 => h9) rfl (by decide +kernel) rfl rfl (Nat.le_of_ble_eq_true rfl) d_Ra_init_30 (fun H locs hP hD hS => ?_)
  replace hP : va_P D vwCl [(h0, .inr (1, [.ref q_7, .ref q_15, .ref q_23, .int (nI 0)])), (q_7, .inl (D.1 100, 24, .inl (kx_ni (fun _ => 0)))), (q_15, .inl (D.1 100, 24, .inl (kx_ni (fun _ => 0)))), (q_23, .inl (D.1 100, 24, .inl (kx_ni (fun _ => 0))))] H := hP
  replace hD : va_D A [(h0, .inr (1, [.ref q_7, .ref q_15, .ref q_23, .int (nI 0)])), (q_7, .inl (D.1 100, 24, .inl (kx_ni (fun _ => 0)))), (q_15, .inl (D.1 100, 24, .inl (kx_ni (fun _ => 0)))), (q_23, .inl (D.1 100, 24, .inl (kx_ni (fun _ => 0))))] := hD
  exact hQv (q_7, q_15, q_23) d_Ra_init_33 rfl (rfl) trivial (hP.sub [0, 1, 2, 3] rfl) (hD.sub [0, 1, 2, 3] (by decide) rfl) hS
def rm_Ra_isGreater : Room := { frames := 0, cells := 0, slots := 0, locals := 0 }
set_option maxHeartbeats 4000000 in
set_option maxRecDepth 100000 in
/-- isGreater(hs, tm, pl) -/
theorem c_Ra_isGreater (l : Launch) (D : va_G) (h0 : Nat) (r1 : Nat) (r2 : Nat) (r3 : Nat) (rh : Nat → Nat) (ri : Nat → Nat) (rn : Nat) (hs : Nat) (tm : Nat) (pl : Nat) (hpl : pl < 24) (hhs : hs < 2 ^ 31) (htm : tm < 2 ^ 31) (hrh : rh pl < 2 ^ 31) (hri : ri pl < 2 ^ 31) : Met l yy_Ra_isGreater ww_Ra_isGreater rm_Ra_isGreater (va_Pc [.ref h0, .int (nI hs), .int (nI tm), .int (nI pl)] (kx_B (kx_K D) D vwCl [(h0, .inr (1, [.ref r1, .ref r2, .ref r3, .int (nI rn)])), (r2, .inl (D.1 100, 24, .inl (kx_ni rh))), (r3, .inl (D.1 100, 24, .inl (kx_ni ri)))])) (kx_R (some (.int (kx_b (decide (rh pl * tm < hs * ri pl)))))) 0 0 (fun _ => False) := by
  refine kx_metR (by decide) rfl (Nat.le_of_ble_eq_true rfl) ?_
  intro p e s m args below meth c ls Q hx hb hts hown hml hP hKK hl hQi hQz hQa hQl hQv
  have hK := hKK.1
  replace hown : s.vm.findClass "TouchSelect$Ranking" = some m.cls := hown
  replace hl : lv_has ls 4 [(0, .ref h0), (1, .int (nI hs)), (2, .int (nI tm)), (3, .int (nI pl))] := hl
  refine lv_iload_n hx hb d_Ra_isGreater_0 rfl (lv_at hl 1 rfl) ?_
  refine lv_i2l (v := (nI hs).toInt64) hx hb d_Ra_isGreater_1 rfl ?_
  refine lv_aload_n hx hb d_Ra_isGreater_2 rfl (lv_at hl 0 rfl) ?_
  refine va_get (D := D) (ci := 1) (v := .ref r3) (C := "TouchSelect$Ranking") (T := tt_Ra) (N := 4) hx hb hts (in_Ra _) hown hK hP 0 rfl rfl 2 (by decide) (hts _ (gw_in gw_70)) (fun _ h9 => h9) rfl d_Ra_isGreater_3 ?_
  refine lv_iload_n hx hb d_Ra_isGreater_6 rfl (lv_at hl 3 rfl) ?_
  refine kx_iald hx hb hK hP 2 0 rfl rfl (k := pl) (by omega) (by omega) d_Ra_isGreater_7 ?_
  refine lv_i2l (v := (nI (ri pl)).toInt64) hx hb d_Ra_isGreater_8 rfl ?_
  refine lv_lmul hx hb d_Ra_isGreater_9 ?_
  refine lv_aload_n hx hb d_Ra_isGreater_10 rfl (lv_at hl 0 rfl) ?_
  refine va_get (D := D) (ci := 1) (v := .ref r2) (C := "TouchSelect$Ranking") (T := tt_Ra) (N := 4) hx hb hts (in_Ra _) hown hK hP 0 rfl rfl 1 (by decide) (hts _ (gw_in gw_69)) (fun _ h9 => h9) rfl d_Ra_isGreater_11 ?_
  refine lv_iload_n hx hb d_Ra_isGreater_14 rfl (lv_at hl 3 rfl) ?_
  refine kx_iald hx hb hK hP 1 0 rfl rfl (k := pl) (by omega) (by omega) d_Ra_isGreater_15 ?_
  refine lv_i2l (v := (nI (rh pl)).toInt64) hx hb d_Ra_isGreater_16 rfl ?_
  refine lv_iload_n hx hb d_Ra_isGreater_17 rfl (lv_at hl 2 rfl) ?_
  refine lv_i2l (v := (nI tm).toInt64) hx hb d_Ra_isGreater_18 rfl ?_
  refine lv_lmul hx hb d_Ra_isGreater_19 ?_
  refine W.lcmp hx hb d_Ra_isGreater_20 ?_
  refine kx_ifc_le (tgt := 28) hx hb d_Ra_isGreater_21 (by decide) (fun c_21 => ?_) (fun c_21 => ?_)
  ·
    refine lv_iconst (v := (nI 0)) hx hb d_Ra_isGreater_28 (by decide) ?_
    refine kx_topi (show nI 0 = kx_b false from by decide) ?_
    exact hQz d_Ra_isGreater_29 rfl (by rw [decide_eq_false (fun h9 => c_21 ((px_gt hrh htm hhs hri).mpr h9))])
  ·
    refine lv_iconst (v := (nI 1)) hx hb d_Ra_isGreater_24 (by decide) ?_
    refine lv_goto (tgt := 29) hx hb d_Ra_isGreater_25 (by decide) ?_
    refine kx_topi (show nI 1 = kx_b true from by decide) ?_
    exact hQz d_Ra_isGreater_29 rfl (by rw [decide_eq_true ((px_gt hrh htm hhs hri).mp c_21)])
def rm_Ra_insert : Room := { frames := 1, cells := 0, slots := 0, locals := 23 }
set_option maxHeartbeats 4000000 in
set_option maxRecDepth 100000 in
/-- insert(k0, hs, tm) -/
theorem c_Ra_insert (l : Launch) (D : va_G) (h0 : Nat) (r1 : Nat) (r2 : Nat) (r3 : Nat) (rt : Nat → Nat) (rh : Nat → Nat) (ri : Nat → Nat) (rn : Nat) (k0 : Nat) (hs : Nat) (tm : Nat) (sz : Nat) (hrn : rn < 24) (hhs : hs < 2 ^ 31) (htm : tm < 2 ^ 31) (hrh : ∀ j, j < rn → rh j < 2 ^ 31) (hri : ∀ j, j < rn → ri j < 2 ^ 31) : Met l yy_Ra_insert ww_Ra_insert rm_Ra_insert (va_Pc [.ref h0, .int (nI k0), .int (nI hs), .int (nI tm)] (kx_C (kx_K D) D vwCl [(h0, .inr (1, [.ref r1, .ref r2, .ref r3, .int (nI rn)])), (r1, .inl (D.1 100, 24, .inl (kx_ni rt))), (r2, .inl (D.1 100, 24, .inl (kx_ni rh))), (r3, .inl (D.1 100, 24, .inl (kx_ni ri)))] sz)) (kx_Q (S := Unit) D vwCl (fun _ => none) (fun _ => True) (fun _ => [(h0, .inr (1, [.ref r1, .ref r2, .ref r3, .int (nI (rn + 1))])), (r1, .inl (D.1 100, 24, .inl (kx_ni (px_ins rt (px_pos (fun j => decide (rh j * tm < hs * ri j)) rn) rn k0)))), (r2, .inl (D.1 100, 24, .inl (kx_ni (px_ins rh (px_pos (fun j => decide (rh j * tm < hs * ri j)) rn) rn hs)))), (r3, .inl (D.1 100, 24, .inl (kx_ni (px_ins ri (px_pos (fun j => decide (rh j * tm < hs * ri j)) rn) rn tm))))]) (va_A [(h0, .inr (1, [.ref r1, .ref r2, .ref r3, .int (nI rn)])), (r1, .inl (D.1 100, 24, .inl (kx_ni rt))), (r2, .inl (D.1 100, 24, .inl (kx_ni rh))), (r3, .inl (D.1 100, 24, .inl (kx_ni ri)))] sz)) 0 0 (va_A [(h0, .inr (1, [.ref r1, .ref r2, .ref r3, .int (nI rn)])), (r1, .inl (D.1 100, 24, .inl (kx_ni rt))), (r2, .inl (D.1 100, 24, .inl (kx_ni rh))), (r3, .inl (D.1 100, 24, .inl (kx_ni ri)))] sz) := by
  refine kx_metW (by decide) rfl (Nat.le_of_ble_eq_true rfl) ?_
  intro p e s m args below meth c ls Q A hx hb hts hown hml hin hA hP hD hS hKK hl hQi hQz hQa hQv
  have hK := hKK.1
  replace hown : s.vm.findClass "TouchSelect$Ranking" = some m.cls := hown
  replace hl : lv_has ls 5 [(0, .ref h0), (1, .int (nI k0)), (2, .int (nI hs)), (3, .int (nI tm))] := hl
  refine lv_aload_n hx hb d_Ra_insert_0 rfl (lv_at hl 0 rfl) ?_
  refine va_get (D := D) (ci := 1) (v := .int (nI rn)) (C := "TouchSelect$Ranking") (T := tt_Ra) (N := 4) hx hb hts (in_Ra _) hown hK hP 0 rfl rfl 3 (by decide) (hts _ (gw_in gw_72)) (fun _ h9 => h9) rfl d_Ra_insert_1 ?_
  refine lv_bipush (v := (nI 24)) hx hb d_Ra_insert_4 (by decide) ?_
  refine kx_icmp_lt (tgt := 10) hx hb d_Ra_insert_6 (by decide) (by omega) (by omega) (fun c_6 => ?_) (fun c_6 => ?_)
  ·
    refine lv_aload_n hx hb d_Ra_insert_10 rfl (lv_at hl 0 rfl) ?_
    refine va_get (D := D) (ci := 1) (v := .int (nI rn)) (C := "TouchSelect$Ranking") (T := tt_Ra) (N := 4) hx hb hts (in_Ra _) hown hK hP 0 rfl rfl 3 (by decide) (hts _ (gw_in gw_72)) (fun _ h9 => h9) rfl d_Ra_insert_11 ?_
    refine lv_istore (lv' := [(4, .int (nI rn)), (0, .ref h0), (1, .int (nI k0)), (2, .int (nI hs)), (3, .int (nI tm))]) hx hb d_Ra_insert_14 hl (by decide) rfl (fun ls hl => ?_)
    have L_16 : ∀ (nn : Nat) (q : Nat) (H : Heap) (locs : List Loc) (ls : Array Slot), q < nn → (q ≤ rn) → (px_pos (fun j => decide (rh j * tm < hs * ri j)) q = px_pos (fun j => decide (rh j * tm < hs * ri j)) rn) → va_P D vwCl [(h0, .inr (1, [.ref r1, .ref r2, .ref r3, .int (nI rn)])), (r1, .inl (D.1 100, 24, .inl (kx_ni (px_shift rt q rn)))), (r2, .inl (D.1 100, 24, .inl (kx_ni (px_shift rh q rn)))), (r3, .inl (D.1 100, 24, .inl (kx_ni (px_shift ri q rn))))] H → va_D A [(h0, .inr (1, [.ref r1, .ref r2, .ref r3, .int (nI rn)])), (r1, .inl (D.1 100, 24, .inl (kx_ni (px_shift rt q rn)))), (r2, .inl (D.1 100, 24, .inl (kx_ni (px_shift rh q rn)))), (r3, .inl (D.1 100, 24, .inl (kx_ni (px_shift ri q rn))))] → va_S A s.heap H locs → lv_has ls 5 [(4, .int (nI q)), (0, .ref h0), (1, .int (nI k0)), (2, .int (nI hs)), (3, .int (nI tm))] → W p l e rm_Ra_insert s m args below meth c H locs 0 0 Q (F0 m 16 ls []) := by
      intro nn
      induction nn with
      | zero => intros; omega
      | succ nn ih =>
        intro q H locs ls hmm hq hpq hP hD hS hl
        refine lv_iload hx hb d_Ra_insert_16 (lv_at hl 0 rfl) ?_
        refine kx_if_le (tgt := 88) hx hb d_Ra_insert_18 (by decide) (by omega) (fun c_18 => ?_) (fun c_18 => ?_)
        ·
          subst c_18
          have hpz : px_pos (fun j => decide (rh j * tm < hs * ri j)) rn = 0 := hpq.symm
          refine lv_aload_n hx hb d_Ra_insert_88 rfl (lv_at hl 1 rfl) ?_
          refine va_get (D := D) (ci := 1) (v := .ref r1) (C := "TouchSelect$Ranking") (T := tt_Ra) (N := 4) hx hb hts (in_Ra _) hown hK hP 0 rfl rfl 0 (by decide) (hts _ (gw_in gw_67)) (fun _ h9 => h9) rfl d_Ra_insert_89 ?_
          refine lv_iload hx hb d_Ra_insert_92 (lv_at hl 0 rfl) ?_
          refine lv_iload_n hx hb d_Ra_insert_94 rfl (lv_at hl 2 rfl) ?_
          refine kx_iast hx hb hK hP hD hS 1 0 rfl rfl (k := 0) (by omega) (by omega) d_Ra_insert_95 (fun H locs hP hD hS => ?_)
          replace hP : va_P D vwCl [(h0, .inr (1, [.ref r1, .ref r2, .ref r3, .int (nI rn)])), (r1, .inl (D.1 100, 24, .inl (kx_ni (va_up (px_shift rt 0 rn) 0 k0)))), (r2, .inl (D.1 100, 24, .inl (kx_ni (px_shift rh 0 rn)))), (r3, .inl (D.1 100, 24, .inl (kx_ni (px_shift ri 0 rn))))] H := hP
          replace hD : va_D A [(h0, .inr (1, [.ref r1, .ref r2, .ref r3, .int (nI rn)])), (r1, .inl (D.1 100, 24, .inl (kx_ni (va_up (px_shift rt 0 rn) 0 k0)))), (r2, .inl (D.1 100, 24, .inl (kx_ni (px_shift rh 0 rn)))), (r3, .inl (D.1 100, 24, .inl (kx_ni (px_shift ri 0 rn))))] := hD
          refine lv_aload_n hx hb d_Ra_insert_96 rfl (lv_at hl 1 rfl) ?_
          refine va_get (D := D) (ci := 1) (v := .ref r2) (C := "TouchSelect$Ranking") (T := tt_Ra) (N := 4) hx hb hts (in_Ra _) hown hK hP 0 rfl rfl 1 (by decide) (hts _ (gw_in gw_69)) (fun _ h9 => h9) rfl d_Ra_insert_97 ?_
          refine lv_iload hx hb d_Ra_insert_100 (lv_at hl 0 rfl) ?_
          refine lv_iload_n hx hb d_Ra_insert_102 rfl (lv_at hl 3 rfl) ?_
          refine kx_iast hx hb hK hP hD hS 2 0 rfl rfl (k := 0) (by omega) (by omega) d_Ra_insert_103 (fun H locs hP hD hS => ?_)
          replace hP : va_P D vwCl [(h0, .inr (1, [.ref r1, .ref r2, .ref r3, .int (nI rn)])), (r1, .inl (D.1 100, 24, .inl (kx_ni (va_up (px_shift rt 0 rn) 0 k0)))), (r2, .inl (D.1 100, 24, .inl (kx_ni (va_up (px_shift rh 0 rn) 0 hs)))), (r3, .inl (D.1 100, 24, .inl (kx_ni (px_shift ri 0 rn))))] H := hP
          replace hD : va_D A [(h0, .inr (1, [.ref r1, .ref r2, .ref r3, .int (nI rn)])), (r1, .inl (D.1 100, 24, .inl (kx_ni (va_up (px_shift rt 0 rn) 0 k0)))), (r2, .inl (D.1 100, 24, .inl (kx_ni (va_up (px_shift rh 0 rn) 0 hs)))), (r3, .inl (D.1 100, 24, .inl (kx_ni (px_shift ri 0 rn))))] := hD
          refine lv_aload_n hx hb d_Ra_insert_104 rfl (lv_at hl 1 rfl) ?_
          refine va_get (D := D) (ci := 1) (v := .ref r3) (C := "TouchSelect$Ranking") (T := tt_Ra) (N := 4) hx hb hts (in_Ra _) hown hK hP 0 rfl rfl 2 (by decide) (hts _ (gw_in gw_70)) (fun _ h9 => h9) rfl d_Ra_insert_105 ?_
          refine lv_iload hx hb d_Ra_insert_108 (lv_at hl 0 rfl) ?_
          refine lv_iload_n hx hb d_Ra_insert_110 rfl (lv_at hl 4 rfl) ?_
          refine kx_iast hx hb hK hP hD hS 3 0 rfl rfl (k := 0) (by omega) (by omega) d_Ra_insert_111 (fun H locs hP hD hS => ?_)
          replace hP : va_P D vwCl [(h0, .inr (1, [.ref r1, .ref r2, .ref r3, .int (nI rn)])), (r1, .inl (D.1 100, 24, .inl (kx_ni (va_up (px_shift rt 0 rn) 0 k0)))), (r2, .inl (D.1 100, 24, .inl (kx_ni (va_up (px_shift rh 0 rn) 0 hs)))), (r3, .inl (D.1 100, 24, .inl (kx_ni (va_up (px_shift ri 0 rn) 0 tm))))] H := hP
          replace hD : va_D A [(h0, .inr (1, [.ref r1, .ref r2, .ref r3, .int (nI rn)])), (r1, .inl (D.1 100, 24, .inl (kx_ni (va_up (px_shift rt 0 rn) 0 k0)))), (r2, .inl (D.1 100, 24, .inl (kx_ni (va_up (px_shift rh 0 rn) 0 hs)))), (r3, .inl (D.1 100, 24, .inl (kx_ni (va_up (px_shift ri 0 rn) 0 tm))))] := hD
          refine lv_aload_n hx hb d_Ra_insert_112 rfl (lv_at hl 1 rfl) ?_
          refine lv_dup hx hb d_Ra_insert_113 rfl ?_
          refine va_get (D := D) (ci := 1) (v := .int (nI rn)) (C := "TouchSelect$Ranking") (T := tt_Ra) (N := 4) hx hb hts (in_Ra _) hown hK hP 0 rfl rfl 3 (by decide) (hts _ (gw_in gw_72)) (fun _ h9 => h9) rfl d_Ra_insert_114 ?_
          refine lv_iconst (v := (nI 1)) hx hb d_Ra_insert_117 (by decide) ?_
          refine lv_iadd hx hb d_Ra_insert_118 ?_
          refine kx_topi (nI_add rn 1) ?_
          refine va_put (D := D) (ci := 1) (v := .int (nI (rn + 1))) (ty := .int) (C := "TouchSelect$Ranking") (T := tt_Ra) (N := 4) hx hb hts (in_Ra _) ty_Ra ty_Ra_ok nm_Ra hown hK hP hD hS 0 rfl rfl 3 (by decide) (hts _ (gw_in gw_72)) (fun _ h9 => h9) rfl (by decide +kernel) rfl rfl (Nat.le_of_ble_eq_true rfl) d_Ra_insert_119 (fun H locs hP hD hS => ?_)
          replace hP : va_P D vwCl [(h0, .inr (1, [.ref r1, .ref r2, .ref r3, .int (nI (rn + 1))])), (r1, .inl (D.1 100, 24, .inl (kx_ni (va_up (px_shift rt 0 rn) 0 k0)))), (r2, .inl (D.1 100, 24, .inl (kx_ni (va_up (px_shift rh 0 rn) 0 hs)))), (r3, .inl (D.1 100, 24, .inl (kx_ni (va_up (px_shift ri 0 rn) 0 tm))))] H := hP
          replace hD : va_D A [(h0, .inr (1, [.ref r1, .ref r2, .ref r3, .int (nI (rn + 1))])), (r1, .inl (D.1 100, 24, .inl (kx_ni (va_up (px_shift rt 0 rn) 0 k0)))), (r2, .inl (D.1 100, 24, .inl (kx_ni (va_up (px_shift rh 0 rn) 0 hs)))), (r3, .inl (D.1 100, 24, .inl (kx_ni (va_up (px_shift ri 0 rn) 0 tm))))] := hD
          exact hQv () d_Ra_insert_122 rfl (rfl) trivial (by rw [hpz]; simp only [← px_shift_ins]; exact hP.sub [0, 1, 2, 3] rfl) (by rw [hpz]; simp only [← px_shift_ins]; exact hD.sub [0, 1, 2, 3] (by decide) rfl) hS
        ·
          obtain ⟨q1, rfl⟩ : ∃ q1, q = q1 + 1 := ⟨q - 1, by omega⟩
          have e1 : px_shift rh (q1 + 1) rn q1 = rh q1 := px_shift_lo _ (by omega)
          have e2 : px_shift ri (q1 + 1) rn q1 = ri q1 := px_shift_lo _ (by omega)
          have e3 : px_shift rt (q1 + 1) rn q1 = rt q1 := px_shift_lo _ (by omega)
          have b1 := hrh q1 (by omega)
          have b2 := hri q1 (by omega)
          refine lv_aload_n hx hb d_Ra_insert_21 rfl (lv_at hl 1 rfl) ?_
          refine lv_iload_n hx hb d_Ra_insert_22 rfl (lv_at hl 3 rfl) ?_
          refine lv_iload_n hx hb d_Ra_insert_23 rfl (lv_at hl 4 rfl) ?_
          refine lv_iload hx hb d_Ra_insert_24 (lv_at hl 0 rfl) ?_
          refine lv_iconst (v := (nI 1)) hx hb d_Ra_insert_26 (by decide) ?_
          refine lv_isub hx hb d_Ra_insert_27 ?_
          refine kx_topi (kx_pred q1) ?_
          refine kx_callR (va_runV (As := [.int (nI hs), .int (nI tm), .int (nI q1)]) (rest := []) ⟨hx, hb, hml, hown, hts⟩ (c_Ra_isGreater l D h0 r1 r2 r3 (px_shift rh (q1 + 1) rn) (px_shift ri (q1 + 1) rn) rn hs tm q1 (by omega) hhs htm (by rw [e1]; exact b1) (by rw [e2]; exact b2)) (gw_V 3 hts gw_265 gw_266 gw_486 gw_4 gw_267 rfl rfl (by decide +kernel) ⟨Nat.le_of_ble_eq_true rfl, Nat.le_of_ble_eq_true rfl⟩) (kx_preV (kx_ok D) hKK hK (hP.sub (ws' := [(h0, .inr (1, [.ref r1, .ref r2, .ref r3, .int (nI rn)])), (r2, .inl (D.1 100, 24, .inl (kx_ni (px_shift rh (q1 + 1) rn)))), (r3, .inl (D.1 100, 24, .inl (kx_ni (px_shift ri (q1 + 1) rn))))]) [0, 2, 3] rfl) 1 0 rfl rfl) rfl rfl hl.1 rfl (lv_room (Nat.le_of_ble_eq_true rfl)) d_Ra_insert_28 ⟨Nat.le_of_ble_eq_true rfl, Nat.le_of_ble_eq_true rfl⟩) ?_
          refine W.eq (g2 := F0 m 31 ls [.int (kx_b (decide ((px_shift rh (q1 + 1) rn) q1 * tm < hs * (px_shift ri (q1 + 1) rn) q1)))]) rfl ?_
          refine kx_topi (show (kx_b (decide ((px_shift rh (q1 + 1) rn) q1 * tm < hs * (px_shift ri (q1 + 1) rn) q1))) = (kx_b (decide (rh q1 * tm < hs * ri q1))) from by rw [e1, e2]) ?_
          refine kx_ifb_eq (tgt := 88) hx hb d_Ra_insert_31 (by decide) (fun c_31 => ?_) (fun c_31 => ?_)
          ·
            have hpz : px_pos (fun j => decide (rh j * tm < hs * ri j)) rn = q1 + 1 := by rw [← hpq]; unfold px_pos; rw [if_neg (by rw [c_31]; decide)]
            refine lv_aload_n hx hb d_Ra_insert_88 rfl (lv_at hl 1 rfl) ?_
            refine va_get (D := D) (ci := 1) (v := .ref r1) (C := "TouchSelect$Ranking") (T := tt_Ra) (N := 4) hx hb hts (in_Ra _) hown hK hP 0 rfl rfl 0 (by decide) (hts _ (gw_in gw_67)) (fun _ h9 => h9) rfl d_Ra_insert_89 ?_
            refine lv_iload hx hb d_Ra_insert_92 (lv_at hl 0 rfl) ?_
            refine lv_iload_n hx hb d_Ra_insert_94 rfl (lv_at hl 2 rfl) ?_
            refine kx_iast hx hb hK hP hD hS 1 0 rfl rfl (k := (q1 + 1)) (by omega) (by omega) d_Ra_insert_95 (fun H locs hP hD hS => ?_)
            replace hP : va_P D vwCl [(h0, .inr (1, [.ref r1, .ref r2, .ref r3, .int (nI rn)])), (r1, .inl (D.1 100, 24, .inl (kx_ni (va_up (px_shift rt (q1 + 1) rn) (q1 + 1) k0)))), (r2, .inl (D.1 100, 24, .inl (kx_ni (px_shift rh (q1 + 1) rn)))), (r3, .inl (D.1 100, 24, .inl (kx_ni (px_shift ri (q1 + 1) rn))))] H := hP
            replace hD : va_D A [(h0, .inr (1, [.ref r1, .ref r2, .ref r3, .int (nI rn)])), (r1, .inl (D.1 100, 24, .inl (kx_ni (va_up (px_shift rt (q1 + 1) rn) (q1 + 1) k0)))), (r2, .inl (D.1 100, 24, .inl (kx_ni (px_shift rh (q1 + 1) rn)))), (r3, .inl (D.1 100, 24, .inl (kx_ni (px_shift ri (q1 + 1) rn))))] := hD
            refine lv_aload_n hx hb d_Ra_insert_96 rfl (lv_at hl 1 rfl) ?_
            refine va_get (D := D) (ci := 1) (v := .ref r2) (C := "TouchSelect$Ranking") (T := tt_Ra) (N := 4) hx hb hts (in_Ra _) hown hK hP 0 rfl rfl 1 (by decide) (hts _ (gw_in gw_69)) (fun _ h9 => h9) rfl d_Ra_insert_97 ?_
            refine lv_iload hx hb d_Ra_insert_100 (lv_at hl 0 rfl) ?_
            refine lv_iload_n hx hb d_Ra_insert_102 rfl (lv_at hl 3 rfl) ?_
            refine kx_iast hx hb hK hP hD hS 2 0 rfl rfl (k := (q1 + 1)) (by omega) (by omega) d_Ra_insert_103 (fun H locs hP hD hS => ?_)
            replace hP : va_P D vwCl [(h0, .inr (1, [.ref r1, .ref r2, .ref r3, .int (nI rn)])), (r1, .inl (D.1 100, 24, .inl (kx_ni (va_up (px_shift rt (q1 + 1) rn) (q1 + 1) k0)))), (r2, .inl (D.1 100, 24, .inl (kx_ni (va_up (px_shift rh (q1 + 1) rn) (q1 + 1) hs)))), (r3, .inl (D.1 100, 24, .inl (kx_ni (px_shift ri (q1 + 1) rn))))] H := hP
            replace hD : va_D A [(h0, .inr (1, [.ref r1, .ref r2, .ref r3, .int (nI rn)])), (r1, .inl (D.1 100, 24, .inl (kx_ni (va_up (px_shift rt (q1 + 1) rn) (q1 + 1) k0)))), (r2, .inl (D.1 100, 24, .inl (kx_ni (va_up (px_shift rh (q1 + 1) rn) (q1 + 1) hs)))), (r3, .inl (D.1 100, 24, .inl (kx_ni (px_shift ri (q1 + 1) rn))))] := hD
            refine lv_aload_n hx hb d_Ra_insert_104 rfl (lv_at hl 1 rfl) ?_
            refine va_get (D := D) (ci := 1) (v := .ref r3) (C := "TouchSelect$Ranking") (T := tt_Ra) (N := 4) hx hb hts (in_Ra _) hown hK hP 0 rfl rfl 2 (by decide) (hts _ (gw_in gw_70)) (fun _ h9 => h9) rfl d_Ra_insert_105 ?_
            refine lv_iload hx hb d_Ra_insert_108 (lv_at hl 0 rfl) ?_
            refine lv_iload_n hx hb d_Ra_insert_110 rfl (lv_at hl 4 rfl) ?_
            refine kx_iast hx hb hK hP hD hS 3 0 rfl rfl (k := (q1 + 1)) (by omega) (by omega) d_Ra_insert_111 (fun H locs hP hD hS => ?_)
            replace hP : va_P D vwCl [(h0, .inr (1, [.ref r1, .ref r2, .ref r3, .int (nI rn)])), (r1, .inl (D.1 100, 24, .inl (kx_ni (va_up (px_shift rt (q1 + 1) rn) (q1 + 1) k0)))), (r2, .inl (D.1 100, 24, .inl (kx_ni (va_up (px_shift rh (q1 + 1) rn) (q1 + 1) hs)))), (r3, .inl (D.1 100, 24, .inl (kx_ni (va_up (px_shift ri (q1 + 1) rn) (q1 + 1) tm))))] H := hP
            replace hD : va_D A [(h0, .inr (1, [.ref r1, .ref r2, .ref r3, .int (nI rn)])), (r1, .inl (D.1 100, 24, .inl (kx_ni (va_up (px_shift rt (q1 + 1) rn) (q1 + 1) k0)))), (r2, .inl (D.1 100, 24, .inl (kx_ni (va_up (px_shift rh (q1 + 1) rn) (q1 + 1) hs)))), (r3, .inl (D.1 100, 24, .inl (kx_ni (va_up (px_shift ri (q1 + 1) rn) (q1 + 1) tm))))] := hD
            refine lv_aload_n hx hb d_Ra_insert_112 rfl (lv_at hl 1 rfl) ?_
            refine lv_dup hx hb d_Ra_insert_113 rfl ?_
            refine va_get (D := D) (ci := 1) (v := .int (nI rn)) (C := "TouchSelect$Ranking") (T := tt_Ra) (N := 4) hx hb hts (in_Ra _) hown hK hP 0 rfl rfl 3 (by decide) (hts _ (gw_in gw_72)) (fun _ h9 => h9) rfl d_Ra_insert_114 ?_
            refine lv_iconst (v := (nI 1)) hx hb d_Ra_insert_117 (by decide) ?_
            refine lv_iadd hx hb d_Ra_insert_118 ?_
            refine kx_topi (nI_add rn 1) ?_
            refine va_put (D := D) (ci := 1) (v := .int (nI (rn + 1))) (ty := .int) (C := "TouchSelect$Ranking") (T := tt_Ra) (N := 4) hx hb hts (in_Ra _) ty_Ra ty_Ra_ok nm_Ra hown hK hP hD hS 0 rfl rfl 3 (by decide) (hts _ (gw_in gw_72)) (fun _ h9 => h9) rfl (by decide +kernel) rfl rfl (Nat.le_of_ble_eq_true rfl) d_Ra_insert_119 (fun H locs hP hD hS => ?_)
            replace hP : va_P D vwCl [(h0, .inr (1, [.ref r1, .ref r2, .ref r3, .int (nI (rn + 1))])), (r1, .inl (D.1 100, 24, .inl (kx_ni (va_up (px_shift rt (q1 + 1) rn) (q1 + 1) k0)))), (r2, .inl (D.1 100, 24, .inl (kx_ni (va_up (px_shift rh (q1 + 1) rn) (q1 + 1) hs)))), (r3, .inl (D.1 100, 24, .inl (kx_ni (va_up (px_shift ri (q1 + 1) rn) (q1 + 1) tm))))] H := hP
            replace hD : va_D A [(h0, .inr (1, [.ref r1, .ref r2, .ref r3, .int (nI (rn + 1))])), (r1, .inl (D.1 100, 24, .inl (kx_ni (va_up (px_shift rt (q1 + 1) rn) (q1 + 1) k0)))), (r2, .inl (D.1 100, 24, .inl (kx_ni (va_up (px_shift rh (q1 + 1) rn) (q1 + 1) hs)))), (r3, .inl (D.1 100, 24, .inl (kx_ni (va_up (px_shift ri (q1 + 1) rn) (q1 + 1) tm))))] := hD
            exact hQv () d_Ra_insert_122 rfl (rfl) trivial (by rw [hpz]; simp only [← px_shift_ins]; exact hP.sub [0, 1, 2, 3] rfl) (by rw [hpz]; simp only [← px_shift_ins]; exact hD.sub [0, 1, 2, 3] (by decide) rfl) hS
          ·
            have c_31t := c_31
            refine lv_aload_n hx hb d_Ra_insert_34 rfl (lv_at hl 1 rfl) ?_
            refine va_get (D := D) (ci := 1) (v := .ref r1) (C := "TouchSelect$Ranking") (T := tt_Ra) (N := 4) hx hb hts (in_Ra _) hown hK hP 0 rfl rfl 0 (by decide) (hts _ (gw_in gw_67)) (fun _ h9 => h9) rfl d_Ra_insert_35 ?_
            refine lv_iload hx hb d_Ra_insert_38 (lv_at hl 0 rfl) ?_
            refine lv_aload_n hx hb d_Ra_insert_40 rfl (lv_at hl 1 rfl) ?_
            refine va_get (D := D) (ci := 1) (v := .ref r1) (C := "TouchSelect$Ranking") (T := tt_Ra) (N := 4) hx hb hts (in_Ra _) hown hK hP 0 rfl rfl 0 (by decide) (hts _ (gw_in gw_67)) (fun _ h9 => h9) rfl d_Ra_insert_41 ?_
            refine lv_iload hx hb d_Ra_insert_44 (lv_at hl 0 rfl) ?_
            refine lv_iconst (v := (nI 1)) hx hb d_Ra_insert_46 (by decide) ?_
            refine lv_isub hx hb d_Ra_insert_47 ?_
            refine kx_topi (kx_pred q1) ?_
            refine kx_iald hx hb hK hP 1 0 rfl rfl (k := q1) (by omega) (by omega) d_Ra_insert_48 ?_
            refine kx_topi (show (nI ((px_shift rt (q1 + 1) rn) q1)) = (nI (rt q1)) from by rw [e3]) ?_
            refine kx_iast hx hb hK hP hD hS 1 0 rfl rfl (k := (q1 + 1)) (by omega) (by omega) d_Ra_insert_49 (fun H locs hP hD hS => ?_)
            replace hP : va_P D vwCl [(h0, .inr (1, [.ref r1, .ref r2, .ref r3, .int (nI rn)])), (r1, .inl (D.1 100, 24, .inl (kx_ni (va_up (px_shift rt (q1 + 1) rn) (q1 + 1) (rt q1))))), (r2, .inl (D.1 100, 24, .inl (kx_ni (px_shift rh (q1 + 1) rn)))), (r3, .inl (D.1 100, 24, .inl (kx_ni (px_shift ri (q1 + 1) rn))))] H := hP
            replace hD : va_D A [(h0, .inr (1, [.ref r1, .ref r2, .ref r3, .int (nI rn)])), (r1, .inl (D.1 100, 24, .inl (kx_ni (va_up (px_shift rt (q1 + 1) rn) (q1 + 1) (rt q1))))), (r2, .inl (D.1 100, 24, .inl (kx_ni (px_shift rh (q1 + 1) rn)))), (r3, .inl (D.1 100, 24, .inl (kx_ni (px_shift ri (q1 + 1) rn))))] := hD
            refine lv_aload_n hx hb d_Ra_insert_50 rfl (lv_at hl 1 rfl) ?_
            refine va_get (D := D) (ci := 1) (v := .ref r2) (C := "TouchSelect$Ranking") (T := tt_Ra) (N := 4) hx hb hts (in_Ra _) hown hK hP 0 rfl rfl 1 (by decide) (hts _ (gw_in gw_69)) (fun _ h9 => h9) rfl d_Ra_insert_51 ?_
            refine lv_iload hx hb d_Ra_insert_54 (lv_at hl 0 rfl) ?_
            refine lv_aload_n hx hb d_Ra_insert_56 rfl (lv_at hl 1 rfl) ?_
            refine va_get (D := D) (ci := 1) (v := .ref r2) (C := "TouchSelect$Ranking") (T := tt_Ra) (N := 4) hx hb hts (in_Ra _) hown hK hP 0 rfl rfl 1 (by decide) (hts _ (gw_in gw_69)) (fun _ h9 => h9) rfl d_Ra_insert_57 ?_
            refine lv_iload hx hb d_Ra_insert_60 (lv_at hl 0 rfl) ?_
            refine lv_iconst (v := (nI 1)) hx hb d_Ra_insert_62 (by decide) ?_
            refine lv_isub hx hb d_Ra_insert_63 ?_
            refine kx_topi (kx_pred q1) ?_
            refine kx_iald hx hb hK hP 2 0 rfl rfl (k := q1) (by omega) (by omega) d_Ra_insert_64 ?_
            refine kx_topi (show (nI ((px_shift rh (q1 + 1) rn) q1)) = (nI (rh q1)) from by rw [e1]) ?_
            refine kx_iast hx hb hK hP hD hS 2 0 rfl rfl (k := (q1 + 1)) (by omega) (by omega) d_Ra_insert_65 (fun H locs hP hD hS => ?_)
            replace hP : va_P D vwCl [(h0, .inr (1, [.ref r1, .ref r2, .ref r3, .int (nI rn)])), (r1, .inl (D.1 100, 24, .inl (kx_ni (va_up (px_shift rt (q1 + 1) rn) (q1 + 1) (rt q1))))), (r2, .inl (D.1 100, 24, .inl (kx_ni (va_up (px_shift rh (q1 + 1) rn) (q1 + 1) (rh q1))))), (r3, .inl (D.1 100, 24, .inl (kx_ni (px_shift ri (q1 + 1) rn))))] H := hP
            replace hD : va_D A [(h0, .inr (1, [.ref r1, .ref r2, .ref r3, .int (nI rn)])), (r1, .inl (D.1 100, 24, .inl (kx_ni (va_up (px_shift rt (q1 + 1) rn) (q1 + 1) (rt q1))))), (r2, .inl (D.1 100, 24, .inl (kx_ni (va_up (px_shift rh (q1 + 1) rn) (q1 + 1) (rh q1))))), (r3, .inl (D.1 100, 24, .inl (kx_ni (px_shift ri (q1 + 1) rn))))] := hD
            refine lv_aload_n hx hb d_Ra_insert_66 rfl (lv_at hl 1 rfl) ?_
            refine va_get (D := D) (ci := 1) (v := .ref r3) (C := "TouchSelect$Ranking") (T := tt_Ra) (N := 4) hx hb hts (in_Ra _) hown hK hP 0 rfl rfl 2 (by decide) (hts _ (gw_in gw_70)) (fun _ h9 => h9) rfl d_Ra_insert_67 ?_
            refine lv_iload hx hb d_Ra_insert_70 (lv_at hl 0 rfl) ?_
            refine lv_aload_n hx hb d_Ra_insert_72 rfl (lv_at hl 1 rfl) ?_
            refine va_get (D := D) (ci := 1) (v := .ref r3) (C := "TouchSelect$Ranking") (T := tt_Ra) (N := 4) hx hb hts (in_Ra _) hown hK hP 0 rfl rfl 2 (by decide) (hts _ (gw_in gw_70)) (fun _ h9 => h9) rfl d_Ra_insert_73 ?_
            refine lv_iload hx hb d_Ra_insert_76 (lv_at hl 0 rfl) ?_
            refine lv_iconst (v := (nI 1)) hx hb d_Ra_insert_78 (by decide) ?_
            refine lv_isub hx hb d_Ra_insert_79 ?_
            refine kx_topi (kx_pred q1) ?_
            refine kx_iald hx hb hK hP 3 0 rfl rfl (k := q1) (by omega) (by omega) d_Ra_insert_80 ?_
            refine kx_topi (show (nI ((px_shift ri (q1 + 1) rn) q1)) = (nI (ri q1)) from by rw [e2]) ?_
            refine kx_iast hx hb hK hP hD hS 3 0 rfl rfl (k := (q1 + 1)) (by omega) (by omega) d_Ra_insert_81 (fun H locs hP hD hS => ?_)
            replace hP : va_P D vwCl [(h0, .inr (1, [.ref r1, .ref r2, .ref r3, .int (nI rn)])), (r1, .inl (D.1 100, 24, .inl (kx_ni (va_up (px_shift rt (q1 + 1) rn) (q1 + 1) (rt q1))))), (r2, .inl (D.1 100, 24, .inl (kx_ni (va_up (px_shift rh (q1 + 1) rn) (q1 + 1) (rh q1))))), (r3, .inl (D.1 100, 24, .inl (kx_ni (va_up (px_shift ri (q1 + 1) rn) (q1 + 1) (ri q1)))))] H := hP
            replace hD : va_D A [(h0, .inr (1, [.ref r1, .ref r2, .ref r3, .int (nI rn)])), (r1, .inl (D.1 100, 24, .inl (kx_ni (va_up (px_shift rt (q1 + 1) rn) (q1 + 1) (rt q1))))), (r2, .inl (D.1 100, 24, .inl (kx_ni (va_up (px_shift rh (q1 + 1) rn) (q1 + 1) (rh q1))))), (r3, .inl (D.1 100, 24, .inl (kx_ni (va_up (px_shift ri (q1 + 1) rn) (q1 + 1) (ri q1)))))] := hD
            refine lv_iinc (v := (nI q1)) (lv' := [(4, .int (nI q1)), (0, .ref h0), (1, .int (nI k0)), (2, .int (nI hs)), (3, .int (nI tm))]) hx hb d_Ra_insert_82 hl (k := 0) rfl (pk_m1 q1) (by decide) rfl (fun ls hl => ?_)
            refine lv_goto (tgt := 16) hx hb d_Ra_insert_85 (by decide) ?_
            rw [px_shift_s _ (by omega), px_shift_s _ (by omega), px_shift_s _ (by omega)] at hP hD
            exact ih q1 H locs ls (by omega) (by omega) (by rw [← hpq]; conv => rhs; unfold px_pos; rw [if_pos c_31]) hP hD hS (lv_sub hl [0, 1, 2, 3, 4] rfl)
    exact L_16 (rn + 1) rn s.heap [] ls (by omega) (Nat.le_refl _) rfl (by simp only [px_shift_n]; exact hP) (by simp only [px_shift_n]; exact hD) hS (lv_sub hl [0, 1, 2, 3, 4] rfl)
  ·
    exact absurd hrn (by omega)
