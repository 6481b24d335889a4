def rm_So_hasFile : Room := { frames := 0, cells := 0, slots := 0, locals := 0 }
set_option maxHeartbeats 4000000 in
set_option maxRecDepth 100000 in
/-- hasFile(p0) -/
theorem c_So_hasFile (l : Launch) (D : va_G) (h0 : Nat) (a1 : Nat) (a2 : Nat) (a3 : Nat) (a4 : Nat) (fc : Nat) (nc : Nat) (p0 : Int32) (hn : fc < 2 ^ 31) : Met l yy_So_hasFile ww_So_hasFile rm_So_hasFile (va_Pc [.ref h0, .int p0] (kx_B (kx_K D) D vwCl [(h0, .inr (3, [.ref a1, .ref a2, .int (nI fc), .ref a3, .ref a4, .int (nI nc)]))])) (kx_R (some (.int (kx_b (px_has fc p0))))) 0 0 (fun _ => False) := by
  refine kx_metR (by decide) rfl (Nat.le_of_ble_eq_true rfl) ?_
  intro p e s m args below meth c ls Q hx hb hts hown hml hP hKK hl hQi hQz hQa hQl hQv
  have hK := hKK.1
  replace hown : s.vm.findClass "TouchSelect$Sources" = some m.cls := hown
  replace hl : lv_has ls 2 [(0, .ref h0), (1, .int p0)] := hl
  refine lv_iload_n hx hb d_So_hasFile_0 rfl (lv_at hl 1 rfl) ?_
  refine lv_if_lt (tgt := 16) hx hb d_So_hasFile_1 (by decide) (fun c_1 => ?_) (fun c_1 => ?_)
  ·
    refine lv_iconst (v := (nI 0)) hx hb d_So_hasFile_16 (by decide) ?_
    refine kx_topi (show nI 0 = kx_b false from by decide) ?_
    exact hQz d_So_hasFile_17 rfl (by rw [px_has_neg c_1])
  ·
    obtain ⟨k0, hk0, rfl⟩ := nI_of c_1
    refine lv_iload_n hx hb d_So_hasFile_4 rfl (lv_at hl 1 rfl) ?_
    refine lv_aload_n hx hb d_So_hasFile_5 rfl (lv_at hl 0 rfl) ?_
    refine va_get (D := D) (ci := 3) (v := .int (nI fc)) (C := "TouchSelect$Sources") (T := tt_So) (N := 6) hx hb hts (in_So _) hown hK hP 0 rfl rfl 2 (by decide) (hts _ (gw_in gw_27)) (fun _ h9 => h9) rfl d_So_hasFile_6 ?_
    refine kx_icmp_ge (tgt := 16) hx hb d_So_hasFile_9 (by decide) (by omega) (by omega) (fun c_9 => ?_) (fun c_9 => ?_)
    ·
      refine lv_iconst (v := (nI 0)) hx hb d_So_hasFile_16 (by decide) ?_
      refine kx_topi (show nI 0 = kx_b false from by decide) ?_
      exact hQz d_So_hasFile_17 rfl (by rw [px_has_nI hk0 hn, decide_eq_false (by omega)])
    ·
      refine lv_iconst (v := (nI 1)) hx hb d_So_hasFile_12 (by decide) ?_
      refine lv_goto (tgt := 17) hx hb d_So_hasFile_13 (by decide) ?_
      refine kx_topi (show nI 1 = kx_b true from by decide) ?_
      exact hQz d_So_hasFile_17 rfl (by rw [px_has_nI hk0 hn, decide_eq_true (by omega)])
def rm_So_hasFunction : Room := { frames := 0, cells := 0, slots := 0, locals := 0 }
set_option maxHeartbeats 4000000 in
set_option maxRecDepth 100000 in
/-- hasFunction(p0) -/
theorem c_So_hasFunction (l : Launch) (D : va_G) (h0 : Nat) (a1 : Nat) (a2 : Nat) (a3 : Nat) (a4 : Nat) (fc : Nat) (nc : Nat) (p0 : Int32) (hn : nc < 2 ^ 31) : Met l yy_So_hasFunction ww_So_hasFunction rm_So_hasFunction (va_Pc [.ref h0, .int p0] (kx_B (kx_K D) D vwCl [(h0, .inr (3, [.ref a1, .ref a2, .int (nI fc), .ref a3, .ref a4, .int (nI nc)]))])) (kx_R (some (.int (kx_b (px_has nc p0))))) 0 0 (fun _ => False) := by
  refine kx_metR (by decide) rfl (Nat.le_of_ble_eq_true rfl) ?_
  intro p e s m args below meth c ls Q hx hb hts hown hml hP hKK hl hQi hQz hQa hQl hQv
  have hK := hKK.1
  replace hown : s.vm.findClass "TouchSelect$Sources" = some m.cls := hown
  replace hl : lv_has ls 2 [(0, .ref h0), (1, .int p0)] := hl
  refine lv_iload_n hx hb d_So_hasFunction_0 rfl (lv_at hl 1 rfl) ?_
  refine lv_if_lt (tgt := 16) hx hb d_So_hasFunction_1 (by decide) (fun c_1 => ?_) (fun c_1 => ?_)
  ·
    refine lv_iconst (v := (nI 0)) hx hb d_So_hasFunction_16 (by decide) ?_
    refine kx_topi (show nI 0 = kx_b false from by decide) ?_
    exact hQz d_So_hasFunction_17 rfl (by rw [px_has_neg c_1])
  ·
    obtain ⟨k0, hk0, rfl⟩ := nI_of c_1
    refine lv_iload_n hx hb d_So_hasFunction_4 rfl (lv_at hl 1 rfl) ?_
    refine lv_aload_n hx hb d_So_hasFunction_5 rfl (lv_at hl 0 rfl) ?_
    refine va_get (D := D) (ci := 3) (v := .int (nI nc)) (C := "TouchSelect$Sources") (T := tt_So) (N := 6) hx hb hts (in_So _) hown hK hP 0 rfl rfl 5 (by decide) (hts _ (gw_in gw_33)) (fun _ h9 => h9) rfl d_So_hasFunction_6 ?_
    refine kx_icmp_ge (tgt := 16) hx hb d_So_hasFunction_9 (by decide) (by omega) (by omega) (fun c_9 => ?_) (fun c_9 => ?_)
    ·
      refine lv_iconst (v := (nI 0)) hx hb d_So_hasFunction_16 (by decide) ?_
      refine kx_topi (show nI 0 = kx_b false from by decide) ?_
      exact hQz d_So_hasFunction_17 rfl (by rw [px_has_nI hk0 hn, decide_eq_false (by omega)])
    ·
      refine lv_iconst (v := (nI 1)) hx hb d_So_hasFunction_12 (by decide) ?_
      refine lv_goto (tgt := 17) hx hb d_So_hasFunction_13 (by decide) ?_
      refine kx_topi (show nI 1 = kx_b true from by decide) ?_
      exact hQz d_So_hasFunction_17 rfl (by rw [px_has_nI hk0 hn, decide_eq_true (by omega)])
def rm_So_init : Room := { frames := 1, cells := 4, slots := 120, locals := 20 }
set_option maxHeartbeats 4000000 in
set_option maxRecDepth 100000 in
/-- Sources() -/
theorem c_So_init (l : Launch) (D : va_G) (h0 : Nat) (sz : Nat) : Met l yy_So_init ww_So_init rm_So_init (va_Pc [.ref h0] (kx_C (kx_K D) D vwCl [(h0, .inr (3, [.null, .null, .int (nI 0), .null, .null, .int (nI 0)]))] sz)) (kx_Q (S := Nat × Nat × Nat × Nat) D vwCl (fun z => none) (fun _ => True) (fun z => [(h0, .inr (3, [.ref z.1, .ref z.2.1, .int (nI 0), .ref z.2.2.1, .ref z.2.2.2, .int (nI 0)])), (z.1, .inl (D.1 102, 20, .inr (.inl (fun _ => 0)))), (z.2.1, .inl (D.1 101, 20, .inl (kx_bi (fun _ => false)))), (z.2.2.1, .inl (D.1 102, 40, .inr (.inl (fun _ => 0)))), (z.2.2.2, .inl (D.1 100, 40, .inl (kx_ni (fun _ => 0))))]) (va_A [(h0, .inr (3, [.null, .null, .int (nI 0), .null, .null, .int (nI 0)]))] sz)) 4 120 (va_A [(h0, .inr (3, [.null, .null, .int (nI 0), .null, .null, .int (nI 0)]))] sz) := by
  refine kx_metW (by decide) rfl (Nat.le_of_ble_eq_true rfl) ?_
  intro p e s m args below meth c ls Q A hx hb hts hown hml hin hA hP hD hS hKK hl hQi hQz hQa hQv
  have hK := hKK.1
  replace hown : s.vm.findClass "TouchSelect$Sources" = some m.cls := hown
  replace hl : lv_has ls 1 [(0, .ref h0)] := hl
  refine lv_aload_n hx hb d_So_init_0 rfl (lv_at hl 0 rfl) ?_
  refine W.objInit hx hb hown (hts _ (gw_in gw_22)) (hts _ (gw_in gw_16)) (hts _ (gw_in gw_17)) rfl (by rw [hml]; exact hl.1) rfl d_So_init_1 (Nat.le_of_ble_eq_true rfl) (Nat.le_of_ble_eq_true rfl) ?_
  refine W.eq (g2 := F0 m 4 ls []) rfl ?_
  refine lv_aload_n hx hb d_So_init_4 rfl (lv_at hl 0 rfl) ?_
  refine lv_bipush (v := (nI 20)) hx hb d_So_init_5 (by decide) ?_
  refine kx_newJ hx hb (hts _ (gw_in gw_41)) hK hP hD hS hA 2 rfl (by decide) (Nat.le_of_ble_eq_true rfl) (Nat.le_of_ble_eq_true rfl) d_So_init_7 (fun q_7 H hP hD hS => ?_)
  replace hP : va_P D vwCl [(h0, .inr (3, [.null, .null, .int (nI 0), .null, .null, .int (nI 0)])), (q_7, .inl (D.1 102, 20, .inr (.inl (fun _ => 0))))] H := hP
  replace hD : va_D A [(h0, .inr (3, [.null, .null, .int (nI 0), .null, .null, .int (nI 0)])), (q_7, .inl (D.1 102, 20, .inr (.inl (fun _ => 0))))] := hD
  refine W.widen (k := 1) (n := 20) (Nat.le_refl _) (Nat.le_refl _) ?_
  refine va_putF (D := D) (ci := 3) (v := .ref q_7) (ty := (.array .long)) (C := "TouchSelect$Sources") (T := tt_So) (N := 6) hx hb hts (in_So _) ty_So ty_So_ok nm_So hown hK hP hD hS 0 rfl rfl 0 (by decide) (hts _ (gw_in gw_23)) (fun _ h9 => h9) rfl hin rfl (by decide +kernel) rfl rfl (Nat.le_of_ble_eq_true rfl) d_So_init_9 (fun H locs hP hD hS => ?_)
  replace hP : va_P D vwCl [(h0, .inr (3, [.ref q_7, .null, .int (nI 0), .null, .null, .int (nI 0)])), (q_7, .inl (D.1 102, 20, .inr (.inl (fun _ => 0))))] H := hP
  replace hD : va_D A [(h0, .inr (3, [.ref q_7, .null, .int (nI 0), .null, .null, .int (nI 0)])), (q_7, .inl (D.1 102, 20, .inr (.inl (fun _ => 0))))] := hD
  refine lv_aload_n hx hb d_So_init_12 rfl (lv_at hl 0 rfl) ?_
  refine lv_bipush (v := (nI 20)) hx hb d_So_init_13 (by decide) ?_
  refine kx_newZ hx hb (hts _ (gw_in gw_42)) hK hP hD hS hA 1 rfl (by decide) (Nat.le_of_ble_eq_true rfl) (Nat.le_of_ble_eq_true rfl) d_So_init_15 (fun q_15 H hP hD hS => ?_)
  replace hP : va_P D vwCl [(h0, .inr (3, [.ref q_7, .null, .int (nI 0), .null, .null, .int (nI 0)])), (q_7, .inl (D.1 102, 20, .inr (.inl (fun _ => 0)))), (q_15, .inl (D.1 101, 20, .inl (kx_bi (fun _ => false))))] H := hP
  replace hD : va_D A [(h0, .inr (3, [.ref q_7, .null, .int (nI 0), .null, .null, .int (nI 0)])), (q_7, .inl (D.1 102, 20, .inr (.inl (fun _ => 0)))), (q_15, .inl (D.1 101, 20, .inl (kx_bi (fun _ => false))))] := hD
  refine W.widen (k := 2) (n := 40) (Nat.le_refl _) (Nat.le_refl _) ?_
  refine va_putF (D := D) (ci := 3) (v := .ref q_15) (ty := (.array .boolean)) (C := "TouchSelect$Sources") (T := tt_So) (N := 6) hx hb hts (in_So _) ty_So ty_So_ok nm_So hown hK hP hD hS 0 rfl rfl 1 (by decide) (hts _ (gw_in gw_25)) (fun _ h9 => h9) rfl hin rfl (by decide +kernel) rfl rfl (Nat.le_of_ble_eq_true rfl) d_So_init_17 (fun H locs hP hD hS => ?_)
  replace hP : va_P D vwCl [(h0, .inr (3, [.ref q_7, .ref q_15, .int (nI 0), .null, .null, .int (nI 0)])), (q_7, .inl (D.1 102, 20, .inr (.inl (fun _ => 0)))), (q_15, .inl (D.1 101, 20, .inl (kx_bi (fun _ => false))))] H := hP
  replace hD : va_D A [(h0, .inr (3, [.ref q_7, .ref q_15, .int (nI 0), .null, .null, .int (nI 0)])), (q_7, .inl (D.1 102, 20, .inr (.inl (fun _ => 0)))), (q_15, .inl (D.1 101, 20, .inl (kx_bi (fun _ => false))))] := hD
  refine lv_aload_n hx hb d_So_init_20 rfl (lv_at hl 0 rfl) ?_
  refine lv_iconst (v := (nI 0)) hx hb d_So_init_21 (by decide) ?_
  refine va_put (D := D) (ci := 3) (v := .int (nI 0)) (ty := .int) (C := "TouchSelect$Sources") (T := tt_So) (N := 6) hx hb hts (in_So _) ty_So ty_So_ok nm_So hown hK hP hD hS 0 rfl rfl 2 (by decide) (hts _ (gw_in gw_27)) (fun _ h9 => h9) rfl (by decide +kernel) rfl rfl (Nat.le_of_ble_eq_true rfl) d_So_init_22 (fun H locs hP hD hS => ?_)
  replace hP : va_P D vwCl [(h0, .inr (3, [.ref q_7, .ref q_15, .int (nI 0), .null, .null, .int (nI 0)])), (q_7, .inl (D.1 102, 20, .inr (.inl (fun _ => 0)))), (q_15, .inl (D.1 101, 20, .inl (kx_bi (fun _ => false))))] H := hP
  replace hD : va_D A [(h0, .inr (3, [.ref q_7, .ref q_15, .int (nI 0), .null, .null, .int (nI 0)])), (q_7, .inl (D.1 102, 20, .inr (.inl (fun _ => 0)))), (q_15, .inl (D.1 101, 20, .inl (kx_bi (fun _ => false))))] := hD
  refine lv_aload_n hx hb d_So_init_25 rfl (lv_at hl 0 rfl) ?_
  refine lv_bipush (v := (nI 40)) hx hb d_So_init_26 (by decide) ?_
  refine kx_newJ hx hb (hts _ (gw_in gw_41)) hK hP hD hS hA 2 rfl (by decide) (Nat.le_of_ble_eq_true rfl) (Nat.le_of_ble_eq_true rfl) d_So_init_28 (fun q_28 H hP hD hS => ?_)
  replace hP : va_P D vwCl [(h0, .inr (3, [.ref q_7, .ref q_15, .int (nI 0), .null, .null, .int (nI 0)])), (q_7, .inl (D.1 102, 20, .inr (.inl (fun _ => 0)))), (q_15, .inl (D.1 101, 20, .inl (kx_bi (fun _ => false)))), (q_28, .inl (D.1 102, 40, .inr (.inl (fun _ => 0))))] H := hP
  replace hD : va_D A [(h0, .inr (3, [.ref q_7, .ref q_15, .int (nI 0), .null, .null, .int (nI 0)])), (q_7, .inl (D.1 102, 20, .inr (.inl (fun _ => 0)))), (q_15, .inl (D.1 101, 20, .inl (kx_bi (fun _ => false)))), (q_28, .inl (D.1 102, 40, .inr (.inl (fun _ => 0))))] := hD
  refine W.widen (k := 3) (n := 80) (Nat.le_refl _) (Nat.le_refl _) ?_
  refine va_putF (D := D) (ci := 3) (v := .ref q_28) (ty := (.array .long)) (C := "TouchSelect$Sources") (T := tt_So) (N := 6) hx hb hts (in_So _) ty_So ty_So_ok nm_So hown hK hP hD hS 0 rfl rfl 3 (by decide) (hts _ (gw_in gw_28)) (fun _ h9 => h9) rfl hin rfl (by decide +kernel) rfl rfl (Nat.le_of_ble_eq_true rfl) d_So_init_30 (fun H locs hP hD hS => ?_)
  replace hP : va_P D vwCl [(h0, .inr (3, [.ref q_7, .ref q_15, .int (nI 0), .ref q_28, .null, .int (nI 0)])), (q_7, .inl (D.1 102, 20, .inr (.inl (fun _ => 0)))), (q_15, .inl (D.1 101, 20, .inl (kx_bi (fun _ => false)))), (q_28, .inl (D.1 102, 40, .inr (.inl (fun _ => 0))))] H := hP
  replace hD : va_D A [(h0, .inr (3, [.ref q_7, .ref q_15, .int (nI 0), .ref q_28, .null, .int (nI 0)])), (q_7, .inl (D.1 102, 20, .inr (.inl (fun _ => 0)))), (q_15, .inl (D.1 101, 20, .inl (kx_bi (fun _ => false)))), (q_28, .inl (D.1 102, 40, .inr (.inl (fun _ => 0))))] := hD
  refine lv_aload_n hx hb d_So_init_33 rfl (lv_at hl 0 rfl) ?_
  refine lv_bipush (v := (nI 40)) hx hb d_So_init_34 (by decide) ?_
  refine kx_newI hx hb (hts _ (gw_in gw_43)) hK hP hD hS hA 0 rfl (by decide) (Nat.le_of_ble_eq_true rfl) (Nat.le_of_ble_eq_true rfl) d_So_init_36 (fun q_36 H hP hD hS => ?_)
  replace hP : va_P D vwCl [(h0, .inr (3, [.ref q_7, .ref q_15, .int (nI 0), .ref q_28, .null, .int (nI 0)])), (q_7, .inl (D.1 102, 20, .inr (.inl (fun _ => 0)))), (q_15, .inl (D.1 101, 20, .inl (kx_bi (fun _ => false)))), (q_28, .inl (D.1 102, 40, .inr (.inl (fun _ => 0)))), (q_36, .inl (D.1 100, 40, .inl (kx_ni (fun _ => 0))))] H := hP
  replace hD : va_D A [(h0, .inr (3, [.ref q_7, .ref q_15, .int (nI 0), .ref q_28, .null, .int (nI 0)])), (q_7, .inl (D.1 102, 20, .inr (.inl (fun _ => 0)))), (q_15, .inl (D.1 101, 20, .inl (kx_bi (fun _ => false)))), (q_28, .inl (D.1 102, 40, .inr (.inl (fun _ => 0)))), (q_36, .inl (D.1 100, 40, .inl (kx_ni (fun _ => 0))))] := hD
  refine W.widen (k := 4) (n := 120) (Nat.le_refl _) (Nat.le_refl _) ?_
  refine va_putF (D := D) (ci := 3) (v := .ref q_36) (ty := (.array .int)) (C := "TouchSelect$Sources") (T := tt_So) (N := 6) hx hb hts (in_So _) ty_So ty_So_ok nm_So hown hK hP hD hS 0 rfl rfl 4 (by decide) (hts _ (gw_in gw_30)) (fun _ h9 => h9) rfl hin rfl (by decide +kernel) rfl rfl (Nat.le_of_ble_eq_true rfl) d_So_init_38 (fun H locs hP hD hS => ?_)
  replace hP : va_P D vwCl [(h0, .inr (3, [.ref q_7, .ref q_15, .int (nI 0), .ref q_28, .ref q_36, .int (nI 0)])), (q_7, .inl (D.1 102, 20, .inr (.inl (fun _ => 0)))), (q_15, .inl (D.1 101, 20, .inl (kx_bi (fun _ => false)))), (q_28, .inl (D.1 102, 40, .inr (.inl (fun _ => 0)))), (q_36, .inl (D.1 100, 40, .inl (kx_ni (fun _ => 0))))] H := hP
  replace hD : va_D A [(h0, .inr (3, [.ref q_7, .ref q_15, .int (nI 0), .ref q_28, .ref q_36, .int (nI 0)])), (q_7, .inl (D.1 102, 20, .inr (.inl (fun _ => 0)))), (q_15, .inl (D.1 101, 20, .inl (kx_bi (fun _ => false)))), (q_28, .inl (D.1 102, 40, .inr (.inl (fun _ => 0)))), (q_36, .inl (D.1 100, 40, .inl (kx_ni (fun _ => 0))))] := hD
  refine lv_aload_n hx hb d_So_init_41 rfl (lv_at hl 0 rfl) ?_
  refine lv_iconst (v := (nI 0)) hx hb d_So_init_42 (by decide) ?_
  refine va_put (D := D) (ci := 3) (v := .int (nI 0)) (ty := .int) (C := "TouchSelect$Sources") (T := tt_So) (N := 6) hx hb hts (in_So _) ty_So ty_So_ok nm_So hown hK hP hD hS 0 rfl rfl 5 (by decide) (hts _ (gw_in gw_33)) (fun _ h9 => h9) rfl (by decide +kernel) rfl rfl (Nat.le_of_ble_eq_true rfl) d_So_init_43 (fun H locs hP hD hS => ?_)
  replace hP : va_P D vwCl [(h0, .inr (3, [.ref q_7, .ref q_15, .int (nI 0), .ref q_28, .ref q_36, .int (nI 0)])), (q_7, .inl (D.1 102, 20, .inr (.inl (fun _ => 0)))), (q_15, .inl (D.1 101, 20, .inl (kx_bi (fun _ => false)))), (q_28, .inl (D.1 102, 40, .inr (.inl (fun _ => 0)))), (q_36, .inl (D.1 100, 40, .inl (kx_ni (fun _ => 0))))] H := hP
  replace hD : va_D A [(h0, .inr (3, [.ref q_7, .ref q_15, .int (nI 0), .ref q_28, .ref q_36, .int (nI 0)])), (q_7, .inl (D.1 102, 20, .inr (.inl (fun _ => 0)))), (q_15, .inl (D.1 101, 20, .inl (kx_bi (fun _ => false)))), (q_28, .inl (D.1 102, 40, .inr (.inl (fun _ => 0)))), (q_36, .inl (D.1 100, 40, .inl (kx_ni (fun _ => 0))))] := hD
  exact hQv (q_7, q_15, q_28, q_36) d_So_init_46 rfl (rfl) trivial (hP.sub [0, 1, 2, 3, 4] rfl) (hD.sub [0, 1, 2, 3, 4] (by decide) rfl) hS
def rm_So_addFile : Room := { frames := 0, cells := 0, slots := 0, locals := 0 }
set_option maxHeartbeats 4000000 in
set_option maxRecDepth 100000 in
/-- addFile(d0) -/
theorem c_So_addFile (l : Launch) (D : va_G) (h0 : Nat) (a1 : Nat) (a2 : Nat) (a3 : Nat) (a4 : Nat) (rs : Nat → Int64) (tc : Nat → Bool) (fc : Nat) (fn : Nat → Int64) (fo : Nat → Nat) (nc : Nat) (d0 : Int64) (sz : Nat) (hfc : fc ≤ 20) : Met l yy_So_addFile ww_So_addFile rm_So_addFile (va_Pc [.ref h0, .long d0] (kx_C (kx_K D) D vwCl [(h0, .inr (3, [.ref a1, .ref a2, .int (nI fc), .ref a3, .ref a4, .int (nI nc)])), (a1, .inl (D.1 102, 20, .inr (.inl rs))), (a2, .inl (D.1 101, 20, .inl (kx_bi tc))), (a3, .inl (D.1 102, 40, .inr (.inl fn))), (a4, .inl (D.1 100, 40, .inl (kx_ni fo)))] sz)) (kx_Q (S := Unit) D vwCl (fun _ => some (.int (if fc < 20 then nI fc else -1))) (fun _ => True) (fun _ => [(h0, .inr (3, [.ref a1, .ref a2, .int (nI (if fc < 20 then fc + 1 else fc)), .ref a3, .ref a4, .int (nI nc)])), (a1, .inl (D.1 102, 20, .inr (.inl (if fc < 20 then va_up rs fc d0 else rs)))), (a2, .inl (D.1 101, 20, .inl (kx_bi (if fc < 20 then va_up tc fc true else tc)))), (a3, .inl (D.1 102, 40, .inr (.inl fn))), (a4, .inl (D.1 100, 40, .inl (kx_ni fo)))]) (va_A [(h0, .inr (3, [.ref a1, .ref a2, .int (nI fc), .ref a3, .ref a4, .int (nI nc)])), (a1, .inl (D.1 102, 20, .inr (.inl rs))), (a2, .inl (D.1 101, 20, .inl (kx_bi tc))), (a3, .inl (D.1 102, 40, .inr (.inl fn))), (a4, .inl (D.1 100, 40, .inl (kx_ni fo)))] sz)) 0 0 (va_A [(h0, .inr (3, [.ref a1, .ref a2, .int (nI fc), .ref a3, .ref a4, .int (nI nc)])), (a1, .inl (D.1 102, 20, .inr (.inl rs))), (a2, .inl (D.1 101, 20, .inl (kx_bi tc))), (a3, .inl (D.1 102, 40, .inr (.inl fn))), (a4, .inl (D.1 100, 40, .inl (kx_ni fo)))] sz) := by
  refine kx_metW (by decide) rfl (Nat.le_of_ble_eq_true rfl) ?_
  intro p e s m args below meth c ls Q A hx hb hts hown hml hin hA hP hD hS hKK hl hQi hQz hQa hQv
  have hK := hKK.1
  replace hown : s.vm.findClass "TouchSelect$Sources" = some m.cls := hown
  replace hl : lv_has ls 3 [(0, .ref h0), (1, .long d0)] := hl
  refine lv_aload_n hx hb d_So_addFile_0 rfl (lv_at hl 0 rfl) ?_
  refine va_get (D := D) (ci := 3) (v := .int (nI fc)) (C := "TouchSelect$Sources") (T := tt_So) (N := 6) hx hb hts (in_So _) hown hK hP 0 rfl rfl 2 (by decide) (hts _ (gw_in gw_27)) (fun _ h9 => h9) rfl d_So_addFile_1 ?_
  refine lv_bipush (v := (nI 20)) hx hb d_So_addFile_4 (by decide) ?_
  refine kx_icmp_lt (tgt := 11) hx hb d_So_addFile_6 (by decide) (by omega) (by omega) (fun c_6 => ?_) (fun c_6 => ?_)
  ·
    refine lv_aload_n hx hb d_So_addFile_11 rfl (lv_at hl 0 rfl) ?_
    refine va_get (D := D) (ci := 3) (v := .ref a1) (C := "TouchSelect$Sources") (T := tt_So) (N := 6) hx hb hts (in_So _) hown hK hP 0 rfl rfl 0 (by decide) (hts _ (gw_in gw_23)) (fun _ h9 => h9) rfl d_So_addFile_12 ?_
    refine lv_aload_n hx hb d_So_addFile_15 rfl (lv_at hl 0 rfl) ?_
    refine va_get (D := D) (ci := 3) (v := .int (nI fc)) (C := "TouchSelect$Sources") (T := tt_So) (N := 6) hx hb hts (in_So _) hown hK hP 0 rfl rfl 2 (by decide) (hts _ (gw_in gw_27)) (fun _ h9 => h9) rfl d_So_addFile_16 ?_
    refine lv_lload_n hx hb d_So_addFile_19 rfl (lv_at hl 1 rfl) ?_
    refine kx_last hx hb hK hP hD hS 1 2 rfl rfl (k := fc) (by omega) (by omega) d_So_addFile_20 (fun H locs hP hD hS => ?_)
    replace hP : va_P D vwCl [(h0, .inr (3, [.ref a1, .ref a2, .int (nI fc), .ref a3, .ref a4, .int (nI nc)])), (a1, .inl (D.1 102, 20, .inr (.inl (va_up rs fc d0)))), (a2, .inl (D.1 101, 20, .inl (kx_bi tc))), (a3, .inl (D.1 102, 40, .inr (.inl fn))), (a4, .inl (D.1 100, 40, .inl (kx_ni fo)))] H := hP
    replace hD : va_D A [(h0, .inr (3, [.ref a1, .ref a2, .int (nI fc), .ref a3, .ref a4, .int (nI nc)])), (a1, .inl (D.1 102, 20, .inr (.inl (va_up rs fc d0)))), (a2, .inl (D.1 101, 20, .inl (kx_bi tc))), (a3, .inl (D.1 102, 40, .inr (.inl fn))), (a4, .inl (D.1 100, 40, .inl (kx_ni fo)))] := hD
    refine lv_aload_n hx hb d_So_addFile_21 rfl (lv_at hl 0 rfl) ?_
    refine va_get (D := D) (ci := 3) (v := .ref a2) (C := "TouchSelect$Sources") (T := tt_So) (N := 6) hx hb hts (in_So _) hown hK hP 0 rfl rfl 1 (by decide) (hts _ (gw_in gw_25)) (fun _ h9 => h9) rfl d_So_addFile_22 ?_
    refine lv_aload_n hx hb d_So_addFile_25 rfl (lv_at hl 0 rfl) ?_
    refine va_get (D := D) (ci := 3) (v := .int (nI fc)) (C := "TouchSelect$Sources") (T := tt_So) (N := 6) hx hb hts (in_So _) hown hK hP 0 rfl rfl 2 (by decide) (hts _ (gw_in gw_27)) (fun _ h9 => h9) rfl d_So_addFile_26 ?_
    refine lv_iconst (v := (nI 1)) hx hb d_So_addFile_29 (by decide) ?_
    refine kx_topi (show nI 1 = kx_b true from by decide) ?_
    refine kx_zast hx hb hK hP hD hS 2 1 rfl rfl (k := fc) (by omega) (by omega) d_So_addFile_30 (fun H locs hP hD hS => ?_)
    replace hP : va_P D vwCl [(h0, .inr (3, [.ref a1, .ref a2, .int (nI fc), .ref a3, .ref a4, .int (nI nc)])), (a1, .inl (D.1 102, 20, .inr (.inl (va_up rs fc d0)))), (a2, .inl (D.1 101, 20, .inl (kx_bi (va_up tc fc true)))), (a3, .inl (D.1 102, 40, .inr (.inl fn))), (a4, .inl (D.1 100, 40, .inl (kx_ni fo)))] H := hP
    replace hD : va_D A [(h0, .inr (3, [.ref a1, .ref a2, .int (nI fc), .ref a3, .ref a4, .int (nI nc)])), (a1, .inl (D.1 102, 20, .inr (.inl (va_up rs fc d0)))), (a2, .inl (D.1 101, 20, .inl (kx_bi (va_up tc fc true)))), (a3, .inl (D.1 102, 40, .inr (.inl fn))), (a4, .inl (D.1 100, 40, .inl (kx_ni fo)))] := hD
    refine lv_aload_n hx hb d_So_addFile_31 rfl (lv_at hl 0 rfl) ?_
    refine lv_dup hx hb d_So_addFile_32 rfl ?_
    refine va_get (D := D) (ci := 3) (v := .int (nI fc)) (C := "TouchSelect$Sources") (T := tt_So) (N := 6) hx hb hts (in_So _) hown hK hP 0 rfl rfl 2 (by decide) (hts _ (gw_in gw_27)) (fun _ h9 => h9) rfl d_So_addFile_33 ?_
    refine lv_iconst (v := (nI 1)) hx hb d_So_addFile_36 (by decide) ?_
    refine lv_iadd hx hb d_So_addFile_37 ?_
    refine kx_topi (nI_add fc 1) ?_
    refine va_put (D := D) (ci := 3) (v := .int (nI (fc + 1))) (ty := .int) (C := "TouchSelect$Sources") (T := tt_So) (N := 6) hx hb hts (in_So _) ty_So ty_So_ok nm_So hown hK hP hD hS 0 rfl rfl 2 (by decide) (hts _ (gw_in gw_27)) (fun _ h9 => h9) rfl (by decide +kernel) rfl rfl (Nat.le_of_ble_eq_true rfl) d_So_addFile_38 (fun H locs hP hD hS => ?_)
    replace hP : va_P D vwCl [(h0, .inr (3, [.ref a1, .ref a2, .int (nI (fc + 1)), .ref a3, .ref a4, .int (nI nc)])), (a1, .inl (D.1 102, 20, .inr (.inl (va_up rs fc d0)))), (a2, .inl (D.1 101, 20, .inl (kx_bi (va_up tc fc true)))), (a3, .inl (D.1 102, 40, .inr (.inl fn))), (a4, .inl (D.1 100, 40, .inl (kx_ni fo)))] H := hP
    replace hD : va_D A [(h0, .inr (3, [.ref a1, .ref a2, .int (nI (fc + 1)), .ref a3, .ref a4, .int (nI nc)])), (a1, .inl (D.1 102, 20, .inr (.inl (va_up rs fc d0)))), (a2, .inl (D.1 101, 20, .inl (kx_bi (va_up tc fc true)))), (a3, .inl (D.1 102, 40, .inr (.inl fn))), (a4, .inl (D.1 100, 40, .inl (kx_ni fo)))] := hD
    refine lv_aload_n hx hb d_So_addFile_41 rfl (lv_at hl 0 rfl) ?_
    refine va_get (D := D) (ci := 3) (v := .int (nI (fc + 1))) (C := "TouchSelect$Sources") (T := tt_So) (N := 6) hx hb hts (in_So _) hown hK hP 0 rfl rfl 2 (by decide) (hts _ (gw_in gw_27)) (fun _ h9 => h9) rfl d_So_addFile_42 ?_
    refine lv_iconst (v := (nI 1)) hx hb d_So_addFile_45 (by decide) ?_
    refine lv_isub hx hb d_So_addFile_46 ?_
    refine kx_topi (kx_pred fc) ?_
    exact hQi () d_So_addFile_47 rfl (by rw [if_pos c_6]) trivial (by simp only [if_pos c_6]; exact hP.sub [0, 1, 2, 3, 4] rfl) (by simp only [if_pos c_6]; exact hD.sub [0, 1, 2, 3, 4] (by decide) rfl) hS
  ·
    refine lv_iconst (v := (-1)) hx hb d_So_addFile_9 (by decide) ?_
    exact hQi () d_So_addFile_10 rfl (by rw [if_neg (show ¬ fc < 20 by omega)]) trivial (by simp only [if_neg (show ¬ fc < 20 by omega)]; exact hP.sub [0, 1, 2, 3, 4] rfl) (by simp only [if_neg (show ¬ fc < 20 by omega)]; exact hD.sub [0, 1, 2, 3, 4] (by decide) rfl) hS
def rm_So_addFunction : Room := { frames := 1, cells := 0, slots := 0, locals := 21 }
set_option maxHeartbeats 4000000 in
set_option maxRecDepth 100000 in
/-- addFunction(p0, d0) -/
theorem c_So_addFunction (l : Launch) (D : va_G) (h0 : Nat) (a1 : Nat) (a2 : Nat) (a3 : Nat) (a4 : Nat) (rs : Nat → Int64) (tc : Nat → Bool) (fc : Nat) (fn : Nat → Int64) (fo : Nat → Nat) (nc : Nat) (p0 : Int32) (d0 : Int64) (sz : Nat) (hfc : fc ≤ 20) (hnc : nc ≤ 40) : Met l yy_So_addFunction ww_So_addFunction rm_So_addFunction (va_Pc [.ref h0, .int p0, .long d0] (kx_C (kx_K D) D vwCl [(h0, .inr (3, [.ref a1, .ref a2, .int (nI fc), .ref a3, .ref a4, .int (nI nc)])), (a1, .inl (D.1 102, 20, .inr (.inl rs))), (a2, .inl (D.1 101, 20, .inl (kx_bi tc))), (a3, .inl (D.1 102, 40, .inr (.inl fn))), (a4, .inl (D.1 100, 40, .inl (kx_ni fo)))] sz)) (kx_Q (S := Unit) D vwCl (fun _ => some (.int (if nc < 40 ∧ px_has fc p0 = true then nI nc else -1))) (fun _ => True) (fun _ => [(h0, .inr (3, [.ref a1, .ref a2, .int (nI fc), .ref a3, .ref a4, .int (nI (if nc < 40 ∧ px_has fc p0 = true then nc + 1 else nc))])), (a1, .inl (D.1 102, 20, .inr (.inl rs))), (a2, .inl (D.1 101, 20, .inl (kx_bi (if nc < 40 ∧ px_has fc p0 = true then va_up tc (px_ix p0) true else tc)))), (a3, .inl (D.1 102, 40, .inr (.inl (if nc < 40 ∧ px_has fc p0 = true then va_up fn nc d0 else fn)))), (a4, .inl (D.1 100, 40, .inl (kx_ni (if nc < 40 ∧ px_has fc p0 = true then va_up fo nc (px_ix p0) else fo))))]) (va_A [(h0, .inr (3, [.ref a1, .ref a2, .int (nI fc), .ref a3, .ref a4, .int (nI nc)])), (a1, .inl (D.1 102, 20, .inr (.inl rs))), (a2, .inl (D.1 101, 20, .inl (kx_bi tc))), (a3, .inl (D.1 102, 40, .inr (.inl fn))), (a4, .inl (D.1 100, 40, .inl (kx_ni fo)))] sz)) 0 0 (va_A [(h0, .inr (3, [.ref a1, .ref a2, .int (nI fc), .ref a3, .ref a4, .int (nI nc)])), (a1, .inl (D.1 102, 20, .inr (.inl rs))), (a2, .inl (D.1 101, 20, .inl (kx_bi tc))), (a3, .inl (D.1 102, 40, .inr (.inl fn))), (a4, .inl (D.1 100, 40, .inl (kx_ni fo)))] sz) := by
  refine kx_metW (by decide) rfl (Nat.le_of_ble_eq_true rfl) ?_
  intro p e s m args below meth c ls Q A hx hb hts hown hml hin hA hP hD hS hKK hl hQi hQz hQa hQv
  have hK := hKK.1
  replace hown : s.vm.findClass "TouchSelect$Sources" = some m.cls := hown
  replace hl : lv_has ls 4 [(0, .ref h0), (1, .int p0), (2, .long d0)] := hl
  refine lv_aload_n hx hb d_So_addFunction_0 rfl (lv_at hl 0 rfl) ?_
  refine va_get (D := D) (ci := 3) (v := .int (nI nc)) (C := "TouchSelect$Sources") (T := tt_So) (N := 6) hx hb hts (in_So _) hown hK hP 0 rfl rfl 5 (by decide) (hts _ (gw_in gw_33)) (fun _ h9 => h9) rfl d_So_addFunction_1 ?_
  refine lv_bipush (v := (nI 40)) hx hb d_So_addFunction_4 (by decide) ?_
  refine kx_icmp_ge (tgt := 17) hx hb d_So_addFunction_6 (by decide) (by omega) (by omega) (fun c_6 => ?_) (fun c_6 => ?_)
  ·
    refine lv_iconst (v := (-1)) hx hb d_So_addFunction_17 (by decide) ?_
    exact hQi () d_So_addFunction_18 rfl (by rw [if_neg (show ¬ (nc < 40 ∧ px_has fc p0 = true) from fun h9 => absurd h9.1 (by omega))]) trivial (by simp only [if_neg (show ¬ (nc < 40 ∧ px_has fc p0 = true) from fun h9 => absurd h9.1 (by omega))]; exact hP.sub [0, 1, 2, 3, 4] rfl) (by simp only [if_neg (show ¬ (nc < 40 ∧ px_has fc p0 = true) from fun h9 => absurd h9.1 (by omega))]; exact hD.sub [0, 1, 2, 3, 4] (by decide) rfl) hS
  ·
    refine lv_aload_n hx hb d_So_addFunction_9 rfl (lv_at hl 0 rfl) ?_
    refine lv_iload_n hx hb d_So_addFunction_10 rfl (lv_at hl 1 rfl) ?_
    refine kx_callR (va_runV (As := [.int p0]) (rest := []) ⟨hx, hb, hml, hown, hts⟩ (c_So_hasFile l D h0 a1 a2 a3 a4 fc nc p0 (by omega)) (gw_V 1 hts gw_120 gw_121 gw_122 gw_2 gw_123 rfl rfl (by decide +kernel) ⟨Nat.le_of_ble_eq_true rfl, Nat.le_of_ble_eq_true rfl⟩) (kx_preV (kx_ok D) hKK hK (hP.sub (ws' := [(h0, .inr (3, [.ref a1, .ref a2, .int (nI fc), .ref a3, .ref a4, .int (nI nc)]))]) [0] rfl) 3 0 rfl rfl) rfl rfl hl.1 rfl (lv_room (Nat.le_of_ble_eq_true rfl)) d_So_addFunction_11 ⟨Nat.le_of_ble_eq_true rfl, Nat.le_of_ble_eq_true rfl⟩) ?_
    refine W.eq (g2 := F0 m 14 ls [.int (kx_b (px_has fc p0))]) rfl ?_
    refine kx_ifb_ne (tgt := 19) hx hb d_So_addFunction_14 (by decide) (fun c_14 => ?_) (fun c_14 => ?_)
    ·
      have hcf : nc < 40 ∧ px_has fc p0 = true := ⟨c_6, c_14⟩
      obtain ⟨k0, hk0, rfl⟩ := px_has_t (by omega) c_14
      have hix : px_ix (nI k0) = k0 := px_ix_nI (by omega)
      refine lv_aload_n hx hb d_So_addFunction_19 rfl (lv_at hl 0 rfl) ?_
      refine va_get (D := D) (ci := 3) (v := .ref a3) (C := "TouchSelect$Sources") (T := tt_So) (N := 6) hx hb hts (in_So _) hown hK hP 0 rfl rfl 3 (by decide) (hts _ (gw_in gw_28)) (fun _ h9 => h9) rfl d_So_addFunction_20 ?_
      refine lv_aload_n hx hb d_So_addFunction_23 rfl (lv_at hl 0 rfl) ?_
      refine va_get (D := D) (ci := 3) (v := .int (nI nc)) (C := "TouchSelect$Sources") (T := tt_So) (N := 6) hx hb hts (in_So _) hown hK hP 0 rfl rfl 5 (by decide) (hts _ (gw_in gw_33)) (fun _ h9 => h9) rfl d_So_addFunction_24 ?_
      refine lv_lload_n hx hb d_So_addFunction_27 rfl (lv_at hl 2 rfl) ?_
      refine kx_last hx hb hK hP hD hS 3 2 rfl rfl (k := nc) (by omega) (by omega) d_So_addFunction_28 (fun H locs hP hD hS => ?_)
      replace hP : va_P D vwCl [(h0, .inr (3, [.ref a1, .ref a2, .int (nI fc), .ref a3, .ref a4, .int (nI nc)])), (a1, .inl (D.1 102, 20, .inr (.inl rs))), (a2, .inl (D.1 101, 20, .inl (kx_bi tc))), (a3, .inl (D.1 102, 40, .inr (.inl (va_up fn nc d0)))), (a4, .inl (D.1 100, 40, .inl (kx_ni fo)))] H := hP
      replace hD : va_D A [(h0, .inr (3, [.ref a1, .ref a2, .int (nI fc), .ref a3, .ref a4, .int (nI nc)])), (a1, .inl (D.1 102, 20, .inr (.inl rs))), (a2, .inl (D.1 101, 20, .inl (kx_bi tc))), (a3, .inl (D.1 102, 40, .inr (.inl (va_up fn nc d0)))), (a4, .inl (D.1 100, 40, .inl (kx_ni fo)))] := hD
      refine lv_aload_n hx hb d_So_addFunction_29 rfl (lv_at hl 0 rfl) ?_
      refine va_get (D := D) (ci := 3) (v := .ref a4) (C := "TouchSelect$Sources") (T := tt_So) (N := 6) hx hb hts (in_So _) hown hK hP 0 rfl rfl 4 (by decide) (hts _ (gw_in gw_30)) (fun _ h9 => h9) rfl d_So_addFunction_30 ?_
      refine lv_aload_n hx hb d_So_addFunction_33 rfl (lv_at hl 0 rfl) ?_
      refine va_get (D := D) (ci := 3) (v := .int (nI nc)) (C := "TouchSelect$Sources") (T := tt_So) (N := 6) hx hb hts (in_So _) hown hK hP 0 rfl rfl 5 (by decide) (hts _ (gw_in gw_33)) (fun _ h9 => h9) rfl d_So_addFunction_34 ?_
      refine lv_iload_n hx hb d_So_addFunction_37 rfl (lv_at hl 1 rfl) ?_
      refine kx_iast hx hb hK hP hD hS 4 0 rfl rfl (k := nc) (by omega) (by omega) d_So_addFunction_38 (fun H locs hP hD hS => ?_)
      replace hP : va_P D vwCl [(h0, .inr (3, [.ref a1, .ref a2, .int (nI fc), .ref a3, .ref a4, .int (nI nc)])), (a1, .inl (D.1 102, 20, .inr (.inl rs))), (a2, .inl (D.1 101, 20, .inl (kx_bi tc))), (a3, .inl (D.1 102, 40, .inr (.inl (va_up fn nc d0)))), (a4, .inl (D.1 100, 40, .inl (kx_ni (va_up fo nc k0))))] H := hP
      replace hD : va_D A [(h0, .inr (3, [.ref a1, .ref a2, .int (nI fc), .ref a3, .ref a4, .int (nI nc)])), (a1, .inl (D.1 102, 20, .inr (.inl rs))), (a2, .inl (D.1 101, 20, .inl (kx_bi tc))), (a3, .inl (D.1 102, 40, .inr (.inl (va_up fn nc d0)))), (a4, .inl (D.1 100, 40, .inl (kx_ni (va_up fo nc k0))))] := hD
      refine lv_aload_n hx hb d_So_addFunction_39 rfl (lv_at hl 0 rfl) ?_
      refine va_get (D := D) (ci := 3) (v := .ref a2) (C := "TouchSelect$Sources") (T := tt_So) (N := 6) hx hb hts (in_So _) hown hK hP 0 rfl rfl 1 (by decide) (hts _ (gw_in gw_25)) (fun _ h9 => h9) rfl d_So_addFunction_40 ?_
      refine lv_iload_n hx hb d_So_addFunction_43 rfl (lv_at hl 1 rfl) ?_
      refine lv_iconst (v := (nI 1)) hx hb d_So_addFunction_44 (by decide) ?_
      refine kx_topi (show nI 1 = kx_b true from by decide) ?_
      refine kx_zast hx hb hK hP hD hS 2 1 rfl rfl (k := k0) (by omega) (by omega) d_So_addFunction_45 (fun H locs hP hD hS => ?_)
      replace hP : va_P D vwCl [(h0, .inr (3, [.ref a1, .ref a2, .int (nI fc), .ref a3, .ref a4, .int (nI nc)])), (a1, .inl (D.1 102, 20, .inr (.inl rs))), (a2, .inl (D.1 101, 20, .inl (kx_bi (va_up tc k0 true)))), (a3, .inl (D.1 102, 40, .inr (.inl (va_up fn nc d0)))), (a4, .inl (D.1 100, 40, .inl (kx_ni (va_up fo nc k0))))] H := hP
      replace hD : va_D A [(h0, .inr (3, [.ref a1, .ref a2, .int (nI fc), .ref a3, .ref a4, .int (nI nc)])), (a1, .inl (D.1 102, 20, .inr (.inl rs))), (a2, .inl (D.1 101, 20, .inl (kx_bi (va_up tc k0 true)))), (a3, .inl (D.1 102, 40, .inr (.inl (va_up fn nc d0)))), (a4, .inl (D.1 100, 40, .inl (kx_ni (va_up fo nc k0))))] := hD
      refine lv_aload_n hx hb d_So_addFunction_46 rfl (lv_at hl 0 rfl) ?_
      refine lv_dup hx hb d_So_addFunction_47 rfl ?_
      refine va_get (D := D) (ci := 3) (v := .int (nI nc)) (C := "TouchSelect$Sources") (T := tt_So) (N := 6) hx hb hts (in_So _) hown hK hP 0 rfl rfl 5 (by decide) (hts _ (gw_in gw_33)) (fun _ h9 => h9) rfl d_So_addFunction_48 ?_
      refine lv_iconst (v := (nI 1)) hx hb d_So_addFunction_51 (by decide) ?_
      refine lv_iadd hx hb d_So_addFunction_52 ?_
      refine kx_topi (nI_add nc 1) ?_
      refine va_put (D := D) (ci := 3) (v := .int (nI (nc + 1))) (ty := .int) (C := "TouchSelect$Sources") (T := tt_So) (N := 6) hx hb hts (in_So _) ty_So ty_So_ok nm_So hown hK hP hD hS 0 rfl rfl 5 (by decide) (hts _ (gw_in gw_33)) (fun _ h9 => h9) rfl (by decide +kernel) rfl rfl (Nat.le_of_ble_eq_true rfl) d_So_addFunction_53 (fun H locs hP hD hS => ?_)
      replace hP : va_P D vwCl [(h0, .inr (3, [.ref a1, .ref a2, .int (nI fc), .ref a3, .ref a4, .int (nI (nc + 1))])), (a1, .inl (D.1 102, 20, .inr (.inl rs))), (a2, .inl (D.1 101, 20, .inl (kx_bi (va_up tc k0 true)))), (a3, .inl (D.1 102, 40, .inr (.inl (va_up fn nc d0)))), (a4, .inl (D.1 100, 40, .inl (kx_ni (va_up fo nc k0))))] H := hP
      replace hD : va_D A [(h0, .inr (3, [.ref a1, .ref a2, .int (nI fc), .ref a3, .ref a4, .int (nI (nc + 1))])), (a1, .inl (D.1 102, 20, .inr (.inl rs))), (a2, .inl (D.1 101, 20, .inl (kx_bi (va_up tc k0 true)))), (a3, .inl (D.1 102, 40, .inr (.inl (va_up fn nc d0)))), (a4, .inl (D.1 100, 40, .inl (kx_ni (va_up fo nc k0))))] := hD
      refine lv_aload_n hx hb d_So_addFunction_56 rfl (lv_at hl 0 rfl) ?_
      refine va_get (D := D) (ci := 3) (v := .int (nI (nc + 1))) (C := "TouchSelect$Sources") (T := tt_So) (N := 6) hx hb hts (in_So _) hown hK hP 0 rfl rfl 5 (by decide) (hts _ (gw_in gw_33)) (fun _ h9 => h9) rfl d_So_addFunction_57 ?_
      refine lv_iconst (v := (nI 1)) hx hb d_So_addFunction_60 (by decide) ?_
      refine lv_isub hx hb d_So_addFunction_61 ?_
      refine kx_topi (kx_pred nc) ?_
      exact hQi () d_So_addFunction_62 rfl (by rw [if_pos hcf]) trivial (by simp only [if_pos hcf, hix]; exact hP.sub [0, 1, 2, 3, 4] rfl) (by simp only [if_pos hcf, hix]; exact hD.sub [0, 1, 2, 3, 4] (by decide) rfl) hS
    ·
      refine lv_iconst (v := (-1)) hx hb d_So_addFunction_17 (by decide) ?_
      exact hQi () d_So_addFunction_18 rfl (by rw [if_neg (show ¬ (nc < 40 ∧ px_has fc p0 = true) from fun h9 => absurd (h9.2.symm.trans c_14) (by decide))]) trivial (by simp only [if_neg (show ¬ (nc < 40 ∧ px_has fc p0 = true) from fun h9 => absurd (h9.2.symm.trans c_14) (by decide))]; exact hP.sub [0, 1, 2, 3, 4] rfl) (by simp only [if_neg (show ¬ (nc < 40 ∧ px_has fc p0 = true) from fun h9 => absurd (h9.2.symm.trans c_14) (by decide))]; exact hD.sub [0, 1, 2, 3, 4] (by decide) rfl) hS
def rm_So_putRest : Room := { frames := 1, cells := 0, slots := 0, locals := 21 }
set_option maxHeartbeats 4000000 in
set_option maxRecDepth 100000 in
/-- putRest(p0, d0) -/
theorem c_So_putRest (l : Launch) (D : va_G) (h0 : Nat) (a1 : Nat) (a2 : Nat) (a3 : Nat) (a4 : Nat) (rs : Nat → Int64) (tc : Nat → Bool) (fc : Nat) (fn : Nat → Int64) (fo : Nat → Nat) (nc : Nat) (p0 : Int32) (d0 : Int64) (sz : Nat) (hfc : fc ≤ 20) : Met l yy_So_putRest ww_So_putRest rm_So_putRest (va_Pc [.ref h0, .int p0, .long d0] (kx_C (kx_K D) D vwCl [(h0, .inr (3, [.ref a1, .ref a2, .int (nI fc), .ref a3, .ref a4, .int (nI nc)])), (a1, .inl (D.1 102, 20, .inr (.inl rs))), (a2, .inl (D.1 101, 20, .inl (kx_bi tc))), (a3, .inl (D.1 102, 40, .inr (.inl fn))), (a4, .inl (D.1 100, 40, .inl (kx_ni fo)))] sz)) (kx_Q (S := Unit) D vwCl (fun _ => some (.int (kx_b (px_has fc p0)))) (fun _ => True) (fun _ => [(h0, .inr (3, [.ref a1, .ref a2, .int (nI fc), .ref a3, .ref a4, .int (nI nc)])), (a1, .inl (D.1 102, 20, .inr (.inl (if px_has fc p0 = true then va_up rs (px_ix p0) d0 else rs)))), (a2, .inl (D.1 101, 20, .inl (kx_bi (if px_has fc p0 = true ∧ rs (px_ix p0) ≠ d0 then va_up tc (px_ix p0) true else tc)))), (a3, .inl (D.1 102, 40, .inr (.inl fn))), (a4, .inl (D.1 100, 40, .inl (kx_ni fo)))]) (va_A [(h0, .inr (3, [.ref a1, .ref a2, .int (nI fc), .ref a3, .ref a4, .int (nI nc)])), (a1, .inl (D.1 102, 20, .inr (.inl rs))), (a2, .inl (D.1 101, 20, .inl (kx_bi tc))), (a3, .inl (D.1 102, 40, .inr (.inl fn))), (a4, .inl (D.1 100, 40, .inl (kx_ni fo)))] sz)) 0 0 (va_A [(h0, .inr (3, [.ref a1, .ref a2, .int (nI fc), .ref a3, .ref a4, .int (nI nc)])), (a1, .inl (D.1 102, 20, .inr (.inl rs))), (a2, .inl (D.1 101, 20, .inl (kx_bi tc))), (a3, .inl (D.1 102, 40, .inr (.inl fn))), (a4, .inl (D.1 100, 40, .inl (kx_ni fo)))] sz) := by
  refine kx_metW (by decide) rfl (Nat.le_of_ble_eq_true rfl) ?_
  intro p e s m args below meth c ls Q A hx hb hts hown hml hin hA hP hD hS hKK hl hQi hQz hQa hQv
  have hK := hKK.1
  replace hown : s.vm.findClass "TouchSelect$Sources" = some m.cls := hown
  replace hl : lv_has ls 4 [(0, .ref h0), (1, .int p0), (2, .long d0)] := hl
  refine lv_aload_n hx hb d_So_putRest_0 rfl (lv_at hl 0 rfl) ?_
  refine lv_iload_n hx hb d_So_putRest_1 rfl (lv_at hl 1 rfl) ?_
  refine kx_callR (va_runV (As := [.int p0]) (rest := []) ⟨hx, hb, hml, hown, hts⟩ (c_So_hasFile l D h0 a1 a2 a3 a4 fc nc p0 (by omega)) (gw_V 1 hts gw_120 gw_121 gw_122 gw_2 gw_123 rfl rfl (by decide +kernel) ⟨Nat.le_of_ble_eq_true rfl, Nat.le_of_ble_eq_true rfl⟩) (kx_preV (kx_ok D) hKK hK (hP.sub (ws' := [(h0, .inr (3, [.ref a1, .ref a2, .int (nI fc), .ref a3, .ref a4, .int (nI nc)]))]) [0] rfl) 3 0 rfl rfl) rfl rfl hl.1 rfl (lv_room (Nat.le_of_ble_eq_true rfl)) d_So_putRest_2 ⟨Nat.le_of_ble_eq_true rfl, Nat.le_of_ble_eq_true rfl⟩) ?_
  refine W.eq (g2 := F0 m 5 ls [.int (kx_b (px_has fc p0))]) rfl ?_
  refine kx_ifb_ne (tgt := 10) hx hb d_So_putRest_5 (by decide) (fun c_5 => ?_) (fun c_5 => ?_)
  ·
    have hc5 := c_5
    obtain ⟨k0, hk0, rfl⟩ := px_has_t (by omega) c_5
    have hix : px_ix (nI k0) = k0 := px_ix_nI (by omega)
    refine lv_aload_n hx hb d_So_putRest_10 rfl (lv_at hl 0 rfl) ?_
    refine va_get (D := D) (ci := 3) (v := .ref a1) (C := "TouchSelect$Sources") (T := tt_So) (N := 6) hx hb hts (in_So _) hown hK hP 0 rfl rfl 0 (by decide) (hts _ (gw_in gw_23)) (fun _ h9 => h9) rfl d_So_putRest_11 ?_
    refine lv_iload_n hx hb d_So_putRest_14 rfl (lv_at hl 1 rfl) ?_
    refine kx_lald hx hb hK hP 1 2 rfl rfl (k := k0) (by omega) (by omega) d_So_putRest_15 ?_
    refine lv_lload_n hx hb d_So_putRest_16 rfl (lv_at hl 2 rfl) ?_
    refine W.lcmp hx hb d_So_putRest_17 ?_
    refine kx_ifc_eq (tgt := 35) hx hb d_So_putRest_18 (by decide) (fun c_18 => ?_) (fun c_18 => ?_)
    ·
      have hcf : ¬ (px_has fc (nI k0) = true ∧ rs k0 ≠ d0) := fun h9 => h9.2 c_18
      refine lv_iconst (v := (nI 1)) hx hb d_So_putRest_35 (by decide) ?_
      refine kx_topi (show nI 1 = kx_b true from by decide) ?_
      exact hQz () d_So_putRest_36 rfl (by rw [hc5]) trivial (by simp only [if_pos hc5, if_neg hcf, hix, px_up_self c_18]; exact hP.sub [0, 1, 2, 3, 4] rfl) (by simp only [if_pos hc5, if_neg hcf, hix, px_up_self c_18]; exact hD.sub [0, 1, 2, 3, 4] (by decide) rfl) hS
    ·
      have hcf : px_has fc (nI k0) = true ∧ rs k0 ≠ d0 := ⟨hc5, c_18⟩
      refine lv_aload_n hx hb d_So_putRest_21 rfl (lv_at hl 0 rfl) ?_
      refine va_get (D := D) (ci := 3) (v := .ref a1) (C := "TouchSelect$Sources") (T := tt_So) (N := 6) hx hb hts (in_So _) hown hK hP 0 rfl rfl 0 (by decide) (hts _ (gw_in gw_23)) (fun _ h9 => h9) rfl d_So_putRest_22 ?_
      refine lv_iload_n hx hb d_So_putRest_25 rfl (lv_at hl 1 rfl) ?_
      refine lv_lload_n hx hb d_So_putRest_26 rfl (lv_at hl 2 rfl) ?_
      refine kx_last hx hb hK hP hD hS 1 2 rfl rfl (k := k0) (by omega) (by omega) d_So_putRest_27 (fun H locs hP hD hS => ?_)
      replace hP : va_P D vwCl [(h0, .inr (3, [.ref a1, .ref a2, .int (nI fc), .ref a3, .ref a4, .int (nI nc)])), (a1, .inl (D.1 102, 20, .inr (.inl (va_up rs k0 d0)))), (a2, .inl (D.1 101, 20, .inl (kx_bi tc))), (a3, .inl (D.1 102, 40, .inr (.inl fn))), (a4, .inl (D.1 100, 40, .inl (kx_ni fo)))] H := hP
      replace hD : va_D A [(h0, .inr (3, [.ref a1, .ref a2, .int (nI fc), .ref a3, .ref a4, .int (nI nc)])), (a1, .inl (D.1 102, 20, .inr (.inl (va_up rs k0 d0)))), (a2, .inl (D.1 101, 20, .inl (kx_bi tc))), (a3, .inl (D.1 102, 40, .inr (.inl fn))), (a4, .inl (D.1 100, 40, .inl (kx_ni fo)))] := hD
      refine lv_aload_n hx hb d_So_putRest_28 rfl (lv_at hl 0 rfl) ?_
      refine va_get (D := D) (ci := 3) (v := .ref a2) (C := "TouchSelect$Sources") (T := tt_So) (N := 6) hx hb hts (in_So _) hown hK hP 0 rfl rfl 1 (by decide) (hts _ (gw_in gw_25)) (fun _ h9 => h9) rfl d_So_putRest_29 ?_
      refine lv_iload_n hx hb d_So_putRest_32 rfl (lv_at hl 1 rfl) ?_
      refine lv_iconst (v := (nI 1)) hx hb d_So_putRest_33 (by decide) ?_
      refine kx_topi (show nI 1 = kx_b true from by decide) ?_
      refine kx_zast hx hb hK hP hD hS 2 1 rfl rfl (k := k0) (by omega) (by omega) d_So_putRest_34 (fun H locs hP hD hS => ?_)
      replace hP : va_P D vwCl [(h0, .inr (3, [.ref a1, .ref a2, .int (nI fc), .ref a3, .ref a4, .int (nI nc)])), (a1, .inl (D.1 102, 20, .inr (.inl (va_up rs k0 d0)))), (a2, .inl (D.1 101, 20, .inl (kx_bi (va_up tc k0 true)))), (a3, .inl (D.1 102, 40, .inr (.inl fn))), (a4, .inl (D.1 100, 40, .inl (kx_ni fo)))] H := hP
      replace hD : va_D A [(h0, .inr (3, [.ref a1, .ref a2, .int (nI fc), .ref a3, .ref a4, .int (nI nc)])), (a1, .inl (D.1 102, 20, .inr (.inl (va_up rs k0 d0)))), (a2, .inl (D.1 101, 20, .inl (kx_bi (va_up tc k0 true)))), (a3, .inl (D.1 102, 40, .inr (.inl fn))), (a4, .inl (D.1 100, 40, .inl (kx_ni fo)))] := hD
      refine lv_iconst (v := (nI 1)) hx hb d_So_putRest_35 (by decide) ?_
      refine kx_topi (show nI 1 = kx_b true from by decide) ?_
      exact hQz () d_So_putRest_36 rfl (by rw [hc5]) trivial (by simp only [if_pos hc5, if_pos hcf, hix]; exact hP.sub [0, 1, 2, 3, 4] rfl) (by simp only [if_pos hc5, if_pos hcf, hix]; exact hD.sub [0, 1, 2, 3, 4] (by decide) rfl) hS
  ·
    refine lv_iconst (v := (nI 0)) hx hb d_So_putRest_8 (by decide) ?_
    refine kx_topi (show nI 0 = kx_b false from by decide) ?_
    exact hQz () d_So_putRest_9 rfl (by rw [c_5]) trivial (by simp only [if_neg (show ¬ (px_has fc p0 = true) by rw [c_5]; decide), if_neg (show ¬ (px_has fc p0 = true ∧ rs (px_ix p0) ≠ d0) from fun h9 => absurd (h9.1.symm.trans c_5) (by decide))]; exact hP.sub [0, 1, 2, 3, 4] rfl) (by simp only [if_neg (show ¬ (px_has fc p0 = true) by rw [c_5]; decide), if_neg (show ¬ (px_has fc p0 = true ∧ rs (px_ix p0) ≠ d0) from fun h9 => absurd (h9.1.symm.trans c_5) (by decide))]; exact hD.sub [0, 1, 2, 3, 4] (by decide) rfl) hS
def rm_So_putFunction : Room := { frames := 1, cells := 0, slots := 0, locals := 21 }
set_option maxHeartbeats 4000000 in
set_option maxRecDepth 100000 in
/-- putFunction(p0, d0) -/
theorem c_So_putFunction (l : Launch) (D : va_G) (h0 : Nat) (a1 : Nat) (a2 : Nat) (a3 : Nat) (a4 : Nat) (rs : Nat → Int64) (tc : Nat → Bool) (fc : Nat) (fn : Nat → Int64) (fo : Nat → Nat) (nc : Nat) (p0 : Int32) (d0 : Int64) (sz : Nat) (hnc : nc ≤ 40) (hfo : ∀ j, fo j < 20) : Met l yy_So_putFunction ww_So_putFunction rm_So_putFunction (va_Pc [.ref h0, .int p0, .long d0] (kx_C (kx_K D) D vwCl [(h0, .inr (3, [.ref a1, .ref a2, .int (nI fc), .ref a3, .ref a4, .int (nI nc)])), (a1, .inl (D.1 102, 20, .inr (.inl rs))), (a2, .inl (D.1 101, 20, .inl (kx_bi tc))), (a3, .inl (D.1 102, 40, .inr (.inl fn))), (a4, .inl (D.1 100, 40, .inl (kx_ni fo)))] sz)) (kx_Q (S := Unit) D vwCl (fun _ => some (.int (kx_b (px_has nc p0)))) (fun _ => True) (fun _ => [(h0, .inr (3, [.ref a1, .ref a2, .int (nI fc), .ref a3, .ref a4, .int (nI nc)])), (a1, .inl (D.1 102, 20, .inr (.inl rs))), (a2, .inl (D.1 101, 20, .inl (kx_bi (if px_has nc p0 = true ∧ fn (px_ix p0) ≠ d0 then va_up tc (fo (px_ix p0)) true else tc)))), (a3, .inl (D.1 102, 40, .inr (.inl (if px_has nc p0 = true then va_up fn (px_ix p0) d0 else fn)))), (a4, .inl (D.1 100, 40, .inl (kx_ni fo)))]) (va_A [(h0, .inr (3, [.ref a1, .ref a2, .int (nI fc), .ref a3, .ref a4, .int (nI nc)])), (a1, .inl (D.1 102, 20, .inr (.inl rs))), (a2, .inl (D.1 101, 20, .inl (kx_bi tc))), (a3, .inl (D.1 102, 40, .inr (.inl fn))), (a4, .inl (D.1 100, 40, .inl (kx_ni fo)))] sz)) 0 0 (va_A [(h0, .inr (3, [.ref a1, .ref a2, .int (nI fc), .ref a3, .ref a4, .int (nI nc)])), (a1, .inl (D.1 102, 20, .inr (.inl rs))), (a2, .inl (D.1 101, 20, .inl (kx_bi tc))), (a3, .inl (D.1 102, 40, .inr (.inl fn))), (a4, .inl (D.1 100, 40, .inl (kx_ni fo)))] sz) := by
  refine kx_metW (by decide) rfl (Nat.le_of_ble_eq_true rfl) ?_
  intro p e s m args below meth c ls Q A hx hb hts hown hml hin hA hP hD hS hKK hl hQi hQz hQa hQv
  have hK := hKK.1
  replace hown : s.vm.findClass "TouchSelect$Sources" = some m.cls := hown
  replace hl : lv_has ls 4 [(0, .ref h0), (1, .int p0), (2, .long d0)] := hl
  refine lv_aload_n hx hb d_So_putFunction_0 rfl (lv_at hl 0 rfl) ?_
  refine lv_iload_n hx hb d_So_putFunction_1 rfl (lv_at hl 1 rfl) ?_
  refine kx_callR (va_runV (As := [.int p0]) (rest := []) ⟨hx, hb, hml, hown, hts⟩ (c_So_hasFunction l D h0 a1 a2 a3 a4 fc nc p0 (by omega)) (gw_V 1 hts gw_140 gw_141 gw_142 gw_2 gw_143 rfl rfl (by decide +kernel) ⟨Nat.le_of_ble_eq_true rfl, Nat.le_of_ble_eq_true rfl⟩) (kx_preV (kx_ok D) hKK hK (hP.sub (ws' := [(h0, .inr (3, [.ref a1, .ref a2, .int (nI fc), .ref a3, .ref a4, .int (nI nc)]))]) [0] rfl) 3 0 rfl rfl) rfl rfl hl.1 rfl (lv_room (Nat.le_of_ble_eq_true rfl)) d_So_putFunction_2 ⟨Nat.le_of_ble_eq_true rfl, Nat.le_of_ble_eq_true rfl⟩) ?_
  refine W.eq (g2 := F0 m 5 ls [.int (kx_b (px_has nc p0))]) rfl ?_
  refine kx_ifb_ne (tgt := 10) hx hb d_So_putFunction_5 (by decide) (fun c_5 => ?_) (fun c_5 => ?_)
  ·
    have hc5 := c_5
    obtain ⟨k0, hk0, rfl⟩ := px_has_t (by omega) c_5
    have hix : px_ix (nI k0) = k0 := px_ix_nI (by omega)
    refine lv_aload_n hx hb d_So_putFunction_10 rfl (lv_at hl 0 rfl) ?_
    refine va_get (D := D) (ci := 3) (v := .ref a3) (C := "TouchSelect$Sources") (T := tt_So) (N := 6) hx hb hts (in_So _) hown hK hP 0 rfl rfl 3 (by decide) (hts _ (gw_in gw_28)) (fun _ h9 => h9) rfl d_So_putFunction_11 ?_
    refine lv_iload_n hx hb d_So_putFunction_14 rfl (lv_at hl 1 rfl) ?_
    refine kx_lald hx hb hK hP 3 2 rfl rfl (k := k0) (by omega) (by omega) d_So_putFunction_15 ?_
    refine lv_lload_n hx hb d_So_putFunction_16 rfl (lv_at hl 2 rfl) ?_
    refine W.lcmp hx hb d_So_putFunction_17 ?_
    refine kx_ifc_eq (tgt := 40) hx hb d_So_putFunction_18 (by decide) (fun c_18 => ?_) (fun c_18 => ?_)
    ·
      have hcf : ¬ (px_has nc (nI k0) = true ∧ fn k0 ≠ d0) := fun h9 => h9.2 c_18
      refine lv_iconst (v := (nI 1)) hx hb d_So_putFunction_40 (by decide) ?_
      refine kx_topi (show nI 1 = kx_b true from by decide) ?_
      exact hQz () d_So_putFunction_41 rfl (by rw [hc5]) trivial (by simp only [if_pos hc5, if_neg hcf, hix, px_up_self c_18]; exact hP.sub [0, 1, 2, 3, 4] rfl) (by simp only [if_pos hc5, if_neg hcf, hix, px_up_self c_18]; exact hD.sub [0, 1, 2, 3, 4] (by decide) rfl) hS
    ·
      have hcf : px_has nc (nI k0) = true ∧ fn k0 ≠ d0 := ⟨hc5, c_18⟩
      refine lv_aload_n hx hb d_So_putFunction_21 rfl (lv_at hl 0 rfl) ?_
      refine va_get (D := D) (ci := 3) (v := .ref a3) (C := "TouchSelect$Sources") (T := tt_So) (N := 6) hx hb hts (in_So _) hown hK hP 0 rfl rfl 3 (by decide) (hts _ (gw_in gw_28)) (fun _ h9 => h9) rfl d_So_putFunction_22 ?_
      refine lv_iload_n hx hb d_So_putFunction_25 rfl (lv_at hl 1 rfl) ?_
      refine lv_lload_n hx hb d_So_putFunction_26 rfl (lv_at hl 2 rfl) ?_
      refine kx_last hx hb hK hP hD hS 3 2 rfl rfl (k := k0) (by omega) (by omega) d_So_putFunction_27 (fun H locs hP hD hS => ?_)
      replace hP : va_P D vwCl [(h0, .inr (3, [.ref a1, .ref a2, .int (nI fc), .ref a3, .ref a4, .int (nI nc)])), (a1, .inl (D.1 102, 20, .inr (.inl rs))), (a2, .inl (D.1 101, 20, .inl (kx_bi tc))), (a3, .inl (D.1 102, 40, .inr (.inl (va_up fn k0 d0)))), (a4, .inl (D.1 100, 40, .inl (kx_ni fo)))] H := hP
      replace hD : va_D A [(h0, .inr (3, [.ref a1, .ref a2, .int (nI fc), .ref a3, .ref a4, .int (nI nc)])), (a1, .inl (D.1 102, 20, .inr (.inl rs))), (a2, .inl (D.1 101, 20, .inl (kx_bi tc))), (a3, .inl (D.1 102, 40, .inr (.inl (va_up fn k0 d0)))), (a4, .inl (D.1 100, 40, .inl (kx_ni fo)))] := hD
      refine lv_aload_n hx hb d_So_putFunction_28 rfl (lv_at hl 0 rfl) ?_
      refine va_get (D := D) (ci := 3) (v := .ref a2) (C := "TouchSelect$Sources") (T := tt_So) (N := 6) hx hb hts (in_So _) hown hK hP 0 rfl rfl 1 (by decide) (hts _ (gw_in gw_25)) (fun _ h9 => h9) rfl d_So_putFunction_29 ?_
      refine lv_aload_n hx hb d_So_putFunction_32 rfl (lv_at hl 0 rfl) ?_
      refine va_get (D := D) (ci := 3) (v := .ref a4) (C := "TouchSelect$Sources") (T := tt_So) (N := 6) hx hb hts (in_So _) hown hK hP 0 rfl rfl 4 (by decide) (hts _ (gw_in gw_30)) (fun _ h9 => h9) rfl d_So_putFunction_33 ?_
      refine lv_iload_n hx hb d_So_putFunction_36 rfl (lv_at hl 1 rfl) ?_
      refine kx_iald hx hb hK hP 4 0 rfl rfl (k := k0) (by omega) (by omega) d_So_putFunction_37 ?_
      refine lv_iconst (v := (nI 1)) hx hb d_So_putFunction_38 (by decide) ?_
      refine kx_topi (show nI 1 = kx_b true from by decide) ?_
      refine kx_zast hx hb hK hP hD hS 2 1 rfl rfl (k := (fo k0)) (hfo _) (by omega) d_So_putFunction_39 (fun H locs hP hD hS => ?_)
      replace hP : va_P D vwCl [(h0, .inr (3, [.ref a1, .ref a2, .int (nI fc), .ref a3, .ref a4, .int (nI nc)])), (a1, .inl (D.1 102, 20, .inr (.inl rs))), (a2, .inl (D.1 101, 20, .inl (kx_bi (va_up tc (fo k0) true)))), (a3, .inl (D.1 102, 40, .inr (.inl (va_up fn k0 d0)))), (a4, .inl (D.1 100, 40, .inl (kx_ni fo)))] H := hP
      replace hD : va_D A [(h0, .inr (3, [.ref a1, .ref a2, .int (nI fc), .ref a3, .ref a4, .int (nI nc)])), (a1, .inl (D.1 102, 20, .inr (.inl rs))), (a2, .inl (D.1 101, 20, .inl (kx_bi (va_up tc (fo k0) true)))), (a3, .inl (D.1 102, 40, .inr (.inl (va_up fn k0 d0)))), (a4, .inl (D.1 100, 40, .inl (kx_ni fo)))] := hD
      refine lv_iconst (v := (nI 1)) hx hb d_So_putFunction_40 (by decide) ?_
      refine kx_topi (show nI 1 = kx_b true from by decide) ?_
      exact hQz () d_So_putFunction_41 rfl (by rw [hc5]) trivial (by simp only [if_pos hc5, if_pos hcf, hix]; exact hP.sub [0, 1, 2, 3, 4] rfl) (by simp only [if_pos hc5, if_pos hcf, hix]; exact hD.sub [0, 1, 2, 3, 4] (by decide) rfl) hS
  ·
    refine lv_iconst (v := (nI 0)) hx hb d_So_putFunction_8 (by decide) ?_
    refine kx_topi (show nI 0 = kx_b false from by decide) ?_
    exact hQz () d_So_putFunction_9 rfl (by rw [c_5]) trivial (by simp only [if_neg (show ¬ (px_has nc p0 = true) by rw [c_5]; decide), if_neg (show ¬ (px_has nc p0 = true ∧ fn (px_ix p0) ≠ d0) from fun h9 => absurd (h9.1.symm.trans c_5) (by decide))]; exact hP.sub [0, 1, 2, 3, 4] rfl) (by simp only [if_neg (show ¬ (px_has nc p0 = true) by rw [c_5]; decide), if_neg (show ¬ (px_has nc p0 = true ∧ fn (px_ix p0) ≠ d0) from fun h9 => absurd (h9.1.symm.trans c_5) (by decide))]; exact hD.sub [0, 1, 2, 3, 4] (by decide) rfl) hS
def rm_So_handOver : Room := { frames := 0, cells := 0, slots := 0, locals := 0 }
set_option maxHeartbeats 4000000 in
set_option maxRecDepth 100000 in
/-- handOverTouched(to) -/
theorem c_So_handOver (l : Launch) (D : va_G) (h0 : Nat) (a1 : Nat) (a2 : Nat) (a3 : Nat) (a4 : Nat) (fc : Nat) (nc : Nat) (tc : Nat → Bool) (b1 : Nat) (td : Nat → Bool) (sz : Nat) : Met l yy_So_handOverTouched ww_So_handOverTouched rm_So_handOver (va_Pc [.ref h0, .ref b1] (kx_C (kx_K D) D vwCl [(h0, .inr (3, [.ref a1, .ref a2, .int (nI fc), .ref a3, .ref a4, .int (nI nc)])), (a2, .inl (D.1 101, 20, .inl (kx_bi tc))), (b1, .inl (D.1 101, 20, .inl (kx_bi td)))] sz)) (kx_Q (S := Unit) D vwCl (fun _ => none) (fun _ => True) (fun _ => [(h0, .inr (3, [.ref a1, .ref a2, .int (nI fc), .ref a3, .ref a4, .int (nI nc)])), (a2, .inl (D.1 101, 20, .inl (kx_bi (px_mix (fun _ => false) tc 20)))), (b1, .inl (D.1 101, 20, .inl (kx_bi (px_mix tc td 20))))]) (va_A [(h0, .inr (3, [.ref a1, .ref a2, .int (nI fc), .ref a3, .ref a4, .int (nI nc)])), (a2, .inl (D.1 101, 20, .inl (kx_bi tc))), (b1, .inl (D.1 101, 20, .inl (kx_bi td)))] sz)) 0 0 (va_A [(h0, .inr (3, [.ref a1, .ref a2, .int (nI fc), .ref a3, .ref a4, .int (nI nc)])), (a2, .inl (D.1 101, 20, .inl (kx_bi tc))), (b1, .inl (D.1 101, 20, .inl (kx_bi td)))] sz) := by
  refine kx_metW (by decide) rfl (Nat.le_of_ble_eq_true rfl) ?_
  intro p e s m args below meth c ls Q A hx hb hts hown hml hin hA hP hD hS hKK hl hQi hQz hQa hQv
  have hK := hKK.1
  replace hown : s.vm.findClass "TouchSelect$Sources" = some m.cls := hown
  replace hl : lv_has ls 3 [(0, .ref h0), (1, .ref b1)] := hl
  refine lv_iconst (v := (nI 0)) hx hb d_So_handOverTouched_0 (by decide) ?_
  refine lv_istore_n (lv' := [(2, .int (nI 0)), (0, .ref h0), (1, .ref b1)]) hx hb d_So_handOverTouched_1 rfl hl (by decide) rfl (fun ls hl => ?_)
  have L_2 : ∀ (nn : Nat) (i : Nat) (H : Heap) (locs : List Loc) (ls : Array Slot), 20 - i < nn → (i ≤ 20) → va_P D vwCl [(h0, .inr (3, [.ref a1, .ref a2, .int (nI fc), .ref a3, .ref a4, .int (nI nc)])), (a2, .inl (D.1 101, 20, .inl (kx_bi (px_mix (fun _ => false) tc i)))), (b1, .inl (D.1 101, 20, .inl (kx_bi (px_mix tc td i))))] H → va_D A [(h0, .inr (3, [.ref a1, .ref a2, .int (nI fc), .ref a3, .ref a4, .int (nI nc)])), (a2, .inl (D.1 101, 20, .inl (kx_bi (px_mix (fun _ => false) tc i)))), (b1, .inl (D.1 101, 20, .inl (kx_bi (px_mix tc td i))))] → va_S A s.heap H locs → lv_has ls 3 [(2, .int (nI i)), (0, .ref h0), (1, .ref b1)] → W p l e rm_So_handOver s m args below meth c H locs 0 0 Q (F0 m 2 ls []) := by
    intro nn
    induction nn with
    | zero => intros; omega
    | succ nn ih =>
      intro i H locs ls hmm hi hP hD hS hl
      refine lv_iload_n hx hb d_So_handOverTouched_2 rfl (lv_at hl 0 rfl) ?_
      refine lv_bipush (v := (nI 20)) hx hb d_So_handOverTouched_3 (by decide) ?_
      refine kx_icmp_ge (tgt := 30) hx hb d_So_handOverTouched_5 (by decide) (by omega) (by omega) (fun c_5 => ?_) (fun c_5 => ?_)
      ·
        obtain rfl : i = 20 := by omega
        exact hQv () d_So_handOverTouched_30 rfl (rfl) trivial (hP.sub [0, 1, 2] rfl) (hD.sub [0, 1, 2] (by decide) rfl) hS
      ·
        refine lv_aload_n hx hb d_So_handOverTouched_8 rfl (lv_at hl 2 rfl) ?_
        refine lv_iload_n hx hb d_So_handOverTouched_9 rfl (lv_at hl 0 rfl) ?_
        refine lv_aload_n hx hb d_So_handOverTouched_10 rfl (lv_at hl 1 rfl) ?_
        refine va_get (D := D) (ci := 3) (v := .ref a2) (C := "TouchSelect$Sources") (T := tt_So) (N := 6) hx hb hts (in_So _) hown hK hP 0 rfl rfl 1 (by decide) (hts _ (gw_in gw_25)) (fun _ h9 => h9) rfl d_So_handOverTouched_11 ?_
        refine lv_iload_n hx hb d_So_handOverTouched_14 rfl (lv_at hl 0 rfl) ?_
        refine kx_zald hx hb hK hP 1 1 rfl rfl (k := i) (by omega) (by omega) d_So_handOverTouched_15 ?_
        refine kx_topi (show (kx_b ((px_mix (fun _ => false) tc i) i)) = (kx_b (tc i)) from by rw [px_mix_self]) ?_
        refine kx_zast hx hb hK hP hD hS 2 1 rfl rfl (k := i) (by omega) (by omega) d_So_handOverTouched_16 (fun H locs hP hD hS => ?_)
        replace hP : va_P D vwCl [(h0, .inr (3, [.ref a1, .ref a2, .int (nI fc), .ref a3, .ref a4, .int (nI nc)])), (a2, .inl (D.1 101, 20, .inl (kx_bi (px_mix (fun _ => false) tc i)))), (b1, .inl (D.1 101, 20, .inl (kx_bi (va_up (px_mix tc td i) i (tc i)))))] H := hP
        replace hD : va_D A [(h0, .inr (3, [.ref a1, .ref a2, .int (nI fc), .ref a3, .ref a4, .int (nI nc)])), (a2, .inl (D.1 101, 20, .inl (kx_bi (px_mix (fun _ => false) tc i)))), (b1, .inl (D.1 101, 20, .inl (kx_bi (va_up (px_mix tc td i) i (tc i)))))] := hD
        refine lv_aload_n hx hb d_So_handOverTouched_17 rfl (lv_at hl 1 rfl) ?_
        refine va_get (D := D) (ci := 3) (v := .ref a2) (C := "TouchSelect$Sources") (T := tt_So) (N := 6) hx hb hts (in_So _) hown hK hP 0 rfl rfl 1 (by decide) (hts _ (gw_in gw_25)) (fun _ h9 => h9) rfl d_So_handOverTouched_18 ?_
        refine lv_iload_n hx hb d_So_handOverTouched_21 rfl (lv_at hl 0 rfl) ?_
        refine lv_iconst (v := (nI 0)) hx hb d_So_handOverTouched_22 (by decide) ?_
        refine kx_topi (show nI 0 = kx_b false from by decide) ?_
        refine kx_zast hx hb hK hP hD hS 1 1 rfl rfl (k := i) (by omega) (by omega) d_So_handOverTouched_23 (fun H locs hP hD hS => ?_)
        replace hP : va_P D vwCl [(h0, .inr (3, [.ref a1, .ref a2, .int (nI fc), .ref a3, .ref a4, .int (nI nc)])), (a2, .inl (D.1 101, 20, .inl (kx_bi (va_up (px_mix (fun _ => false) tc i) i false)))), (b1, .inl (D.1 101, 20, .inl (kx_bi (va_up (px_mix tc td i) i (tc i)))))] H := hP
        replace hD : va_D A [(h0, .inr (3, [.ref a1, .ref a2, .int (nI fc), .ref a3, .ref a4, .int (nI nc)])), (a2, .inl (D.1 101, 20, .inl (kx_bi (va_up (px_mix (fun _ => false) tc i) i false)))), (b1, .inl (D.1 101, 20, .inl (kx_bi (va_up (px_mix tc td i) i (tc i)))))] := hD
        refine lv_iinc (v := (nI (i + 1))) (lv' := [(2, .int (nI (i + 1))), (0, .ref h0), (1, .ref b1)]) hx hb d_So_handOverTouched_24 hl (k := 0) rfl (kx_inc i 1 (by decide)) (by decide) rfl (fun ls hl => ?_)
        refine lv_goto (tgt := 2) hx hb d_So_handOverTouched_27 (by decide) ?_
        rw [px_hand false tc i, px_mix_up tc td i] at hP hD
        exact ih (i + 1) H locs ls (by omega) (by omega) hP hD hS (lv_sub hl [0, 1, 2] rfl)
  exact L_2 (20 - 0 + 1) 0 s.heap [] ls (by omega) (by omega) (by simp only [px_mix_0]; exact hP) (by simp only [px_mix_0]; exact hD) hS (lv_sub hl [0, 1, 2] rfl)
