def rm_Tr_init : Room := { frames := 1, cells := 3, slots := 80, locals := 20 }
set_option maxHeartbeats 4000000 in
set_option maxRecDepth 100000 in
/-- TestRow(md, tm) -/
theorem c_Tr_init (l : Launch) (D : va_G) (g0 : Nat) (md : Nat) (tm : Nat) (sz : Nat) : Met l yy_Tr_init ww_Tr_init rm_Tr_init (va_Pc [.ref g0, .int (nI md), .int (nI tm)] (kx_C (kx_K D) D vwCl [(g0, .inr (4, [.int (nI 0), .int (nI 0), .long 0, .long 0, .int (kx_b false), .long 0, .long 0, .null, .null, .int (nI 0), .null]))] sz)) (kx_Q (S := Nat × Nat × Nat) D vwCl (fun z => none) (fun _ => True) (fun z => [(g0, .inr (4, [.int (nI md), .int (nI tm), .long 0, .long 0, .int (kx_b false), .long 0, .long 0, .ref z.1, .ref z.2.1, .int (nI 0), .ref z.2.2])), (z.1, .inl (D.1 102, 20, .inr (.inl (fun _ => 0)))), (z.2.1, .inl (D.1 102, 40, .inr (.inl (fun _ => 0)))), (z.2.2, .inl (D.1 100, 20, .inl (kx_ni (fun _ => 0))))]) (va_A [(g0, .inr (4, [.int (nI 0), .int (nI 0), .long 0, .long 0, .int (kx_b false), .long 0, .long 0, .null, .null, .int (nI 0), .null]))] sz)) 3 80 (va_A [(g0, .inr (4, [.int (nI 0), .int (nI 0), .long 0, .long 0, .int (kx_b false), .long 0, .long 0, .null, .null, .int (nI 0), .null]))] sz) := by
  refine kx_metW (by decide) rfl (Nat.le_of_ble_eq_true rfl) ?_
  intro p e s m args below meth c ls Q A hx hb hts hown hml hin hA hP hD hS hKK hl hQi hQz hQa hQv
  have hK := hKK.1
  replace hown : s.vm.findClass "TouchSelect$TestRow" = some m.cls := hown
  replace hl : lv_has ls 3 [(0, .ref g0), (1, .int (nI md)), (2, .int (nI tm))] := hl
  refine lv_aload_n hx hb d_Tr_init_0 rfl (lv_at hl 0 rfl) ?_
  refine W.objInit hx hb hown (hts _ (gw_in gw_152)) (hts _ (gw_in gw_16)) (hts _ (gw_in gw_17)) rfl (by rw [hml]; exact hl.1) rfl d_Tr_init_1 (Nat.le_of_ble_eq_true rfl) (Nat.le_of_ble_eq_true rfl) ?_
  refine W.eq (g2 := F0 m 4 ls []) rfl ?_
  refine lv_aload_n hx hb d_Tr_init_4 rfl (lv_at hl 0 rfl) ?_
  refine lv_lconst (v := 0) hx hb d_Tr_init_5 (by decide) ?_
  refine va_put (D := D) (ci := 4) (v := .long 0) (ty := .long) (C := "TouchSelect$TestRow") (T := tt_Tr) (N := 11) hx hb hts (in_Tr _) ty_Tr ty_Tr_ok nm_Tr hown hK hP hD hS 0 rfl rfl 2 (by decide) (hts _ (gw_in gw_156)) (fun _ h9 => h9) rfl (by decide +kernel) rfl rfl (Nat.le_of_ble_eq_true rfl) d_Tr_init_6 (fun H locs hP hD hS => ?_)
  replace hP : va_P D vwCl [(g0, .inr (4, [.int (nI 0), .int (nI 0), .long 0, .long 0, .int (kx_b false), .long 0, .long 0, .null, .null, .int (nI 0), .null]))] H := hP
  replace hD : va_D A [(g0, .inr (4, [.int (nI 0), .int (nI 0), .long 0, .long 0, .int (kx_b false), .long 0, .long 0, .null, .null, .int (nI 0), .null]))] := hD
  refine lv_aload_n hx hb d_Tr_init_9 rfl (lv_at hl 0 rfl) ?_
  refine lv_lconst (v := 0) hx hb d_Tr_init_10 (by decide) ?_
  refine va_put (D := D) (ci := 4) (v := .long 0) (ty := .long) (C := "TouchSelect$TestRow") (T := tt_Tr) (N := 11) hx hb hts (in_Tr _) ty_Tr ty_Tr_ok nm_Tr hown hK hP hD hS 0 rfl rfl 3 (by decide) (hts _ (gw_in gw_158)) (fun _ h9 => h9) rfl (by decide +kernel) rfl rfl (Nat.le_of_ble_eq_true rfl) d_Tr_init_11 (fun H locs hP hD hS => ?_)
  replace hP : va_P D vwCl [(g0, .inr (4, [.int (nI 0), .int (nI 0), .long 0, .long 0, .int (kx_b false), .long 0, .long 0, .null, .null, .int (nI 0), .null]))] H := hP
  replace hD : va_D A [(g0, .inr (4, [.int (nI 0), .int (nI 0), .long 0, .long 0, .int (kx_b false), .long 0, .long 0, .null, .null, .int (nI 0), .null]))] := hD
  refine lv_aload_n hx hb d_Tr_init_14 rfl (lv_at hl 0 rfl) ?_
  refine lv_iconst (v := (nI 0)) hx hb d_Tr_init_15 (by decide) ?_
  refine kx_topi (show nI 0 = kx_b false from by decide) ?_
  refine va_put (D := D) (ci := 4) (v := .int (kx_b false)) (ty := .boolean) (C := "TouchSelect$TestRow") (T := tt_Tr) (N := 11) hx hb hts (in_Tr _) ty_Tr ty_Tr_ok nm_Tr hown hK hP hD hS 0 rfl rfl 4 (by decide) (hts _ (gw_in gw_159)) (fun _ h9 => h9) rfl (by decide +kernel) (kx_nrw _) (kx_fit _) (Nat.le_of_ble_eq_true rfl) d_Tr_init_16 (fun H locs hP hD hS => ?_)
  replace hP : va_P D vwCl [(g0, .inr (4, [.int (nI 0), .int (nI 0), .long 0, .long 0, .int (kx_b false), .long 0, .long 0, .null, .null, .int (nI 0), .null]))] H := hP
  replace hD : va_D A [(g0, .inr (4, [.int (nI 0), .int (nI 0), .long 0, .long 0, .int (kx_b false), .long 0, .long 0, .null, .null, .int (nI 0), .null]))] := hD
  refine lv_aload_n hx hb d_Tr_init_19 rfl (lv_at hl 0 rfl) ?_
  refine lv_lconst (v := 0) hx hb d_Tr_init_20 (by decide) ?_
  refine va_put (D := D) (ci := 4) (v := .long 0) (ty := .long) (C := "TouchSelect$TestRow") (T := tt_Tr) (N := 11) hx hb hts (in_Tr _) ty_Tr ty_Tr_ok nm_Tr hown hK hP hD hS 0 rfl rfl 5 (by decide) (hts _ (gw_in gw_160)) (fun _ h9 => h9) rfl (by decide +kernel) rfl rfl (Nat.le_of_ble_eq_true rfl) d_Tr_init_21 (fun H locs hP hD hS => ?_)
  replace hP : va_P D vwCl [(g0, .inr (4, [.int (nI 0), .int (nI 0), .long 0, .long 0, .int (kx_b false), .long 0, .long 0, .null, .null, .int (nI 0), .null]))] H := hP
  replace hD : va_D A [(g0, .inr (4, [.int (nI 0), .int (nI 0), .long 0, .long 0, .int (kx_b false), .long 0, .long 0, .null, .null, .int (nI 0), .null]))] := hD
  refine lv_aload_n hx hb d_Tr_init_24 rfl (lv_at hl 0 rfl) ?_
  refine lv_lconst (v := 0) hx hb d_Tr_init_25 (by decide) ?_
  refine va_put (D := D) (ci := 4) (v := .long 0) (ty := .long) (C := "TouchSelect$TestRow") (T := tt_Tr) (N := 11) hx hb hts (in_Tr _) ty_Tr ty_Tr_ok nm_Tr hown hK hP hD hS 0 rfl rfl 6 (by decide) (hts _ (gw_in gw_162)) (fun _ h9 => h9) rfl (by decide +kernel) rfl rfl (Nat.le_of_ble_eq_true rfl) d_Tr_init_26 (fun H locs hP hD hS => ?_)
  replace hP : va_P D vwCl [(g0, .inr (4, [.int (nI 0), .int (nI 0), .long 0, .long 0, .int (kx_b false), .long 0, .long 0, .null, .null, .int (nI 0), .null]))] H := hP
  replace hD : va_D A [(g0, .inr (4, [.int (nI 0), .int (nI 0), .long 0, .long 0, .int (kx_b false), .long 0, .long 0, .null, .null, .int (nI 0), .null]))] := hD
  refine lv_aload_n hx hb d_Tr_init_29 rfl (lv_at hl 0 rfl) ?_
  refine lv_bipush (v := (nI 20)) hx hb d_Tr_init_30 (by decide) ?_
  refine kx_newJ hx hb (hts _ (gw_in gw_41)) hK hP hD hS hA 2 rfl (by decide) (Nat.le_of_ble_eq_true rfl) (Nat.le_of_ble_eq_true rfl) d_Tr_init_32 (fun q_32 H hP hD hS => ?_)
  replace hP : va_P D vwCl [(g0, .inr (4, [.int (nI 0), .int (nI 0), .long 0, .long 0, .int (kx_b false), .long 0, .long 0, .null, .null, .int (nI 0), .null])), (q_32, .inl (D.1 102, 20, .inr (.inl (fun _ => 0))))] H := hP
  replace hD : va_D A [(g0, .inr (4, [.int (nI 0), .int (nI 0), .long 0, .long 0, .int (kx_b false), .long 0, .long 0, .null, .null, .int (nI 0), .null])), (q_32, .inl (D.1 102, 20, .inr (.inl (fun _ => 0))))] := hD
  refine W.widen (k := 1) (n := 20) (Nat.le_refl _) (Nat.le_refl _) ?_
  refine va_putF (D := D) (ci := 4) (v := .ref q_32) (ty := (.array .long)) (C := "TouchSelect$TestRow") (T := tt_Tr) (N := 11) hx hb hts (in_Tr _) ty_Tr ty_Tr_ok nm_Tr hown hK hP hD hS 0 rfl rfl 7 (by decide) (hts _ (gw_in gw_163)) (fun _ h9 => h9) rfl hin rfl (by decide +kernel) rfl rfl (Nat.le_of_ble_eq_true rfl) d_Tr_init_34 (fun H locs hP hD hS => ?_)
  replace hP : va_P D vwCl [(g0, .inr (4, [.int (nI 0), .int (nI 0), .long 0, .long 0, .int (kx_b false), .long 0, .long 0, .ref q_32, .null, .int (nI 0), .null])), (q_32, .inl (D.1 102, 20, .inr (.inl (fun _ => 0))))] H := hP
  replace hD : va_D A [(g0, .inr (4, [.int (nI 0), .int (nI 0), .long 0, .long 0, .int (kx_b false), .long 0, .long 0, .ref q_32, .null, .int (nI 0), .null])), (q_32, .inl (D.1 102, 20, .inr (.inl (fun _ => 0))))] := hD
  refine lv_aload_n hx hb d_Tr_init_37 rfl (lv_at hl 0 rfl) ?_
  refine lv_bipush (v := (nI 40)) hx hb d_Tr_init_38 (by decide) ?_
  refine kx_newJ hx hb (hts _ (gw_in gw_41)) hK hP hD hS hA 2 rfl (by decide) (Nat.le_of_ble_eq_true rfl) (Nat.le_of_ble_eq_true rfl) d_Tr_init_40 (fun q_40 H hP hD hS => ?_)
  replace hP : va_P D vwCl [(g0, .inr (4, [.int (nI 0), .int (nI 0), .long 0, .long 0, .int (kx_b false), .long 0, .long 0, .ref q_32, .null, .int (nI 0), .null])), (q_32, .inl (D.1 102, 20, .inr (.inl (fun _ => 0)))), (q_40, .inl (D.1 102, 40, .inr (.inl (fun _ => 0))))] H := hP
  replace hD : va_D A [(g0, .inr (4, [.int (nI 0), .int (nI 0), .long 0, .long 0, .int (kx_b false), .long 0, .long 0, .ref q_32, .null, .int (nI 0), .null])), (q_32, .inl (D.1 102, 20, .inr (.inl (fun _ => 0)))), (q_40, .inl (D.1 102, 40, .inr (.inl (fun _ => 0))))] := hD
  refine W.widen (k := 2) (n := 60) (Nat.le_refl _) (Nat.le_refl _) ?_
  refine va_putF (D := D) (ci := 4) (v := .ref q_40) (ty := (.array .long)) (C := "TouchSelect$TestRow") (T := tt_Tr) (N := 11) hx hb hts (in_Tr _) ty_Tr ty_Tr_ok nm_Tr hown hK hP hD hS 0 rfl rfl 8 (by decide) (hts _ (gw_in gw_164)) (fun _ h9 => h9) rfl hin rfl (by decide +kernel) rfl rfl (Nat.le_of_ble_eq_true rfl) d_Tr_init_42 (fun H locs hP hD hS => ?_)
  replace hP : va_P D vwCl [(g0, .inr (4, [.int (nI 0), .int (nI 0), .long 0, .long 0, .int (kx_b false), .long 0, .long 0, .ref q_32, .ref q_40, .int (nI 0), .null])), (q_32, .inl (D.1 102, 20, .inr (.inl (fun _ => 0)))), (q_40, .inl (D.1 102, 40, .inr (.inl (fun _ => 0))))] H := hP
  replace hD : va_D A [(g0, .inr (4, [.int (nI 0), .int (nI 0), .long 0, .long 0, .int (kx_b false), .long 0, .long 0, .ref q_32, .ref q_40, .int (nI 0), .null])), (q_32, .inl (D.1 102, 20, .inr (.inl (fun _ => 0)))), (q_40, .inl (D.1 102, 40, .inr (.inl (fun _ => 0))))] := hD
  refine lv_aload_n hx hb d_Tr_init_45 rfl (lv_at hl 0 rfl) ?_
  refine lv_iconst (v := (nI 0)) hx hb d_Tr_init_46 (by decide) ?_
  refine va_put (D := D) (ci := 4) (v := .int (nI 0)) (ty := .int) (C := "TouchSelect$TestRow") (T := tt_Tr) (N := 11) hx hb hts (in_Tr _) ty_Tr ty_Tr_ok nm_Tr hown hK hP hD hS 0 rfl rfl 9 (by decide) (hts _ (gw_in gw_165)) (fun _ h9 => h9) rfl (by decide +kernel) rfl rfl (Nat.le_of_ble_eq_true rfl) d_Tr_init_47 (fun H locs hP hD hS => ?_)
  replace hP : va_P D vwCl [(g0, .inr (4, [.int (nI 0), .int (nI 0), .long 0, .long 0, .int (kx_b false), .long 0, .long 0, .ref q_32, .ref q_40, .int (nI 0), .null])), (q_32, .inl (D.1 102, 20, .inr (.inl (fun _ => 0)))), (q_40, .inl (D.1 102, 40, .inr (.inl (fun _ => 0))))] H := hP
  replace hD : va_D A [(g0, .inr (4, [.int (nI 0), .int (nI 0), .long 0, .long 0, .int (kx_b false), .long 0, .long 0, .ref q_32, .ref q_40, .int (nI 0), .null])), (q_32, .inl (D.1 102, 20, .inr (.inl (fun _ => 0)))), (q_40, .inl (D.1 102, 40, .inr (.inl (fun _ => 0))))] := hD
  refine lv_aload_n hx hb d_Tr_init_50 rfl (lv_at hl 0 rfl) ?_
  refine lv_bipush (v := (nI 20)) hx hb d_Tr_init_51 (by decide) ?_
  refine kx_newI hx hb (hts _ (gw_in gw_43)) hK hP hD hS hA 0 rfl (by decide) (Nat.le_of_ble_eq_true rfl) (Nat.le_of_ble_eq_true rfl) d_Tr_init_53 (fun q_53 H hP hD hS => ?_)
  replace hP : va_P D vwCl [(g0, .inr (4, [.int (nI 0), .int (nI 0), .long 0, .long 0, .int (kx_b false), .long 0, .long 0, .ref q_32, .ref q_40, .int (nI 0), .null])), (q_32, .inl (D.1 102, 20, .inr (.inl (fun _ => 0)))), (q_40, .inl (D.1 102, 40, .inr (.inl (fun _ => 0)))), (q_53, .inl (D.1 100, 20, .inl (kx_ni (fun _ => 0))))] H := hP
  replace hD : va_D A [(g0, .inr (4, [.int (nI 0), .int (nI 0), .long 0, .long 0, .int (kx_b false), .long 0, .long 0, .ref q_32, .ref q_40, .int (nI 0), .null])), (q_32, .inl (D.1 102, 20, .inr (.inl (fun _ => 0)))), (q_40, .inl (D.1 102, 40, .inr (.inl (fun _ => 0)))), (q_53, .inl (D.1 100, 20, .inl (kx_ni (fun _ => 0))))] := hD
  refine W.widen (k := 3) (n := 80) (Nat.le_refl _) (Nat.le_refl _) ?_
  refine va_putF (D := D) (ci := 4) (v := .ref q_53) (ty := (.array .int)) (C := "TouchSelect$TestRow") (T := tt_Tr) (N := 11) hx hb hts (in_Tr _) ty_Tr ty_Tr_ok nm_Tr hown hK hP hD hS 0 rfl rfl 10 (by decide) (hts _ (gw_in gw_166)) (fun _ h9 => h9) rfl hin rfl (by decide +kernel) rfl rfl (Nat.le_of_ble_eq_true rfl) d_Tr_init_55 (fun H locs hP hD hS => ?_)
  replace hP : va_P D vwCl [(g0, .inr (4, [.int (nI 0), .int (nI 0), .long 0, .long 0, .int (kx_b false), .long 0, .long 0, .ref q_32, .ref q_40, .int (nI 0), .ref q_53])), (q_32, .inl (D.1 102, 20, .inr (.inl (fun _ => 0)))), (q_40, .inl (D.1 102, 40, .inr (.inl (fun _ => 0)))), (q_53, .inl (D.1 100, 20, .inl (kx_ni (fun _ => 0))))] H := hP
  replace hD : va_D A [(g0, .inr (4, [.int (nI 0), .int (nI 0), .long 0, .long 0, .int (kx_b false), .long 0, .long 0, .ref q_32, .ref q_40, .int (nI 0), .ref q_53])), (q_32, .inl (D.1 102, 20, .inr (.inl (fun _ => 0)))), (q_40, .inl (D.1 102, 40, .inr (.inl (fun _ => 0)))), (q_53, .inl (D.1 100, 20, .inl (kx_ni (fun _ => 0))))] := hD
  refine lv_aload_n hx hb d_Tr_init_58 rfl (lv_at hl 0 rfl) ?_
  refine lv_iload_n hx hb d_Tr_init_59 rfl (lv_at hl 1 rfl) ?_
  refine va_putF (D := D) (ci := 4) (v := .int (nI md)) (ty := .int) (C := "TouchSelect$TestRow") (T := tt_Tr) (N := 11) hx hb hts (in_Tr _) ty_Tr ty_Tr_ok nm_Tr hown hK hP hD hS 0 rfl rfl 0 (by decide) (hts _ (gw_in gw_153)) (fun _ h9 => h9) rfl hin rfl (by decide +kernel) rfl rfl (Nat.le_of_ble_eq_true rfl) d_Tr_init_60 (fun H locs hP hD hS => ?_)
  replace hP : va_P D vwCl [(g0, .inr (4, [.int (nI md), .int (nI 0), .long 0, .long 0, .int (kx_b false), .long 0, .long 0, .ref q_32, .ref q_40, .int (nI 0), .ref q_53])), (q_32, .inl (D.1 102, 20, .inr (.inl (fun _ => 0)))), (q_40, .inl (D.1 102, 40, .inr (.inl (fun _ => 0)))), (q_53, .inl (D.1 100, 20, .inl (kx_ni (fun _ => 0))))] H := hP
  replace hD : va_D A [(g0, .inr (4, [.int (nI md), .int (nI 0), .long 0, .long 0, .int (kx_b false), .long 0, .long 0, .ref q_32, .ref q_40, .int (nI 0), .ref q_53])), (q_32, .inl (D.1 102, 20, .inr (.inl (fun _ => 0)))), (q_40, .inl (D.1 102, 40, .inr (.inl (fun _ => 0)))), (q_53, .inl (D.1 100, 20, .inl (kx_ni (fun _ => 0))))] := hD
  refine lv_aload_n hx hb d_Tr_init_63 rfl (lv_at hl 0 rfl) ?_
  refine lv_iload_n hx hb d_Tr_init_64 rfl (lv_at hl 2 rfl) ?_
  refine va_putF (D := D) (ci := 4) (v := .int (nI tm)) (ty := .int) (C := "TouchSelect$TestRow") (T := tt_Tr) (N := 11) hx hb hts (in_Tr _) ty_Tr ty_Tr_ok nm_Tr hown hK hP hD hS 0 rfl rfl 1 (by decide) (hts _ (gw_in gw_154)) (fun _ h9 => h9) rfl hin rfl (by decide +kernel) rfl rfl (Nat.le_of_ble_eq_true rfl) d_Tr_init_65 (fun H locs hP hD hS => ?_)
  replace hP : va_P D vwCl [(g0, .inr (4, [.int (nI md), .int (nI tm), .long 0, .long 0, .int (kx_b false), .long 0, .long 0, .ref q_32, .ref q_40, .int (nI 0), .ref q_53])), (q_32, .inl (D.1 102, 20, .inr (.inl (fun _ => 0)))), (q_40, .inl (D.1 102, 40, .inr (.inl (fun _ => 0)))), (q_53, .inl (D.1 100, 20, .inl (kx_ni (fun _ => 0))))] H := hP
  replace hD : va_D A [(g0, .inr (4, [.int (nI md), .int (nI tm), .long 0, .long 0, .int (kx_b false), .long 0, .long 0, .ref q_32, .ref q_40, .int (nI 0), .ref q_53])), (q_32, .inl (D.1 102, 20, .inr (.inl (fun _ => 0)))), (q_40, .inl (D.1 102, 40, .inr (.inl (fun _ => 0)))), (q_53, .inl (D.1 100, 20, .inl (kx_ni (fun _ => 0))))] := hD
  exact hQv (q_32, q_40, q_53) d_Tr_init_68 rfl (rfl) trivial (hP.sub [0, 1, 2, 3] rfl) (hD.sub [0, 1, 2, 3] (by decide) rfl) hS
def rm_Tr_addRead : Room := { frames := 1, cells := 0, slots := 0, locals := 21 }
set_option maxHeartbeats 4000000 in
set_option maxRecDepth 100000 in
/-- addRead(r0) -/
theorem c_Tr_addRead (l : Launch) (D : va_G) (g0 : Nat) (k1 : Nat) (k2 : Nat) (k3 : Nat) (md : Nat) (tm : Nat) (sg : Int64) (rn : Int64) (hr : Bool) (kr : Int64) (ks : Int64) (kc : Nat) (r0 : Nat) (sz : Nat) (hr0 : r0 < 60) : Met l yy_Tr_addRead ww_Tr_addRead rm_Tr_addRead (va_Pc [.ref g0, .int (nI r0)] (kx_C (kx_K D) D vwCl [(g0, .inr (4, [.int (nI md), .int (nI tm), .long sg, .long rn, .int (kx_b hr), .long kr, .long ks, .ref k1, .ref k2, .int (nI kc), .ref k3]))] sz)) (kx_Q (S := Unit) D vwCl (fun _ => some (.int (if px_bit rn r0 = true then 0 else if bc_cnt rn < 30 then 1 else -1))) (fun _ => True) (fun _ => [(g0, .inr (4, [.int (nI md), .int (nI tm), .long sg, .long (if px_bit rn r0 = false ∧ bc_cnt rn < 30 then rn ||| px_one r0 else rn), .int (kx_b hr), .long kr, .long ks, .ref k1, .ref k2, .int (nI kc), .ref k3]))]) (va_A [(g0, .inr (4, [.int (nI md), .int (nI tm), .long sg, .long rn, .int (kx_b hr), .long kr, .long ks, .ref k1, .ref k2, .int (nI kc), .ref k3]))] sz)) 0 0 (va_A [(g0, .inr (4, [.int (nI md), .int (nI tm), .long sg, .long rn, .int (kx_b hr), .long kr, .long ks, .ref k1, .ref k2, .int (nI kc), .ref k3]))] sz) := by
  refine kx_metW (by decide) rfl (Nat.le_of_ble_eq_true rfl) ?_
  intro p e s m args below meth c ls Q A hx hb hts hown hml hin hA hP hD hS hKK hl hQi hQz hQa hQv
  have hK := hKK.1
  replace hown : s.vm.findClass "TouchSelect$TestRow" = some m.cls := hown
  replace hl : lv_has ls 4 [(0, .ref g0), (1, .int (nI r0))] := hl
  have hcb := bc_cnt_le rn
  refine lv_lconst (v := 1) hx hb d_Tr_addRead_0 (by decide) ?_
  refine lv_iload_n hx hb d_Tr_addRead_1 rfl (lv_at hl 1 rfl) ?_
  refine lv_lshl (v := (1 : Int64) <<< ((nI r0).toInt64 &&& 63)) hx hb d_Tr_addRead_2 rfl ?_
  refine kx_topl (show (1 : Int64) <<< ((nI r0).toInt64 &&& 63) = px_one r0 from rfl) ?_
  refine lv_lstore_n (lv' := [(2, .long (px_one r0)), (0, .ref g0), (1, .int (nI r0))]) hx hb d_Tr_addRead_3 rfl hl (by decide) rfl (fun ls hl => ?_)
  refine lv_aload_n hx hb d_Tr_addRead_4 rfl (lv_at hl 1 rfl) ?_
  refine va_get (D := D) (ci := 4) (v := .long rn) (C := "TouchSelect$TestRow") (T := tt_Tr) (N := 11) hx hb hts (in_Tr _) hown hK hP 0 rfl rfl 3 (by decide) (hts _ (gw_in gw_158)) (fun _ h9 => h9) rfl d_Tr_addRead_5 ?_
  refine lv_lload_n hx hb d_Tr_addRead_8 rfl (lv_at hl 0 rfl) ?_
  refine lv_land hx hb d_Tr_addRead_9 ?_
  refine lv_lconst (v := 0) hx hb d_Tr_addRead_10 (by decide) ?_
  refine W.lcmp hx hb d_Tr_addRead_11 ?_
  refine kx_ifc_eq (tgt := 17) hx hb d_Tr_addRead_12 (by decide) (fun c_12 => ?_) (fun c_12 => ?_)
  ·
    have hbt : px_bit rn r0 = false := px_bit_z (by omega) c_12
    refine lv_aload_n hx hb d_Tr_addRead_17 rfl (lv_at hl 1 rfl) ?_
    refine va_get (D := D) (ci := 4) (v := .long rn) (C := "TouchSelect$TestRow") (T := tt_Tr) (N := 11) hx hb hts (in_Tr _) hown hK hP 0 rfl rfl 3 (by decide) (hts _ (gw_in gw_158)) (fun _ h9 => h9) rfl d_Tr_addRead_18 ?_
    refine kx_callR (va_runS (As := [.long rn]) (rest := []) ⟨hx, hb, hml, hown, hts⟩ (c_Lo_bitCount l D rn) (gw_S 1 hts gw_195 gw_196 gw_8 gw_197 rfl rfl (by decide +kernel) ⟨Nat.le_of_ble_eq_true rfl, Nat.le_of_ble_eq_true rfl⟩) (kx_preS (wc := []) (kx_ok D) hKK (fun k q h => by simp at h)) rfl rfl hl.1 rfl (lv_room (Nat.le_of_ble_eq_true rfl)) d_Tr_addRead_21 ⟨Nat.le_of_ble_eq_true rfl, Nat.le_of_ble_eq_true rfl⟩) ?_
    refine W.eq (g2 := F0 m 24 ls [.int (nI (bc_cnt rn))]) rfl ?_
    refine lv_bipush (v := (nI 30)) hx hb d_Tr_addRead_24 (by decide) ?_
    refine kx_icmp_lt (tgt := 31) hx hb d_Tr_addRead_26 (by decide) (by omega) (by omega) (fun c_26 => ?_) (fun c_26 => ?_)
    ·
      refine lv_aload_n hx hb d_Tr_addRead_31 rfl (lv_at hl 1 rfl) ?_
      refine lv_dup hx hb d_Tr_addRead_32 rfl ?_
      refine va_get (D := D) (ci := 4) (v := .long rn) (C := "TouchSelect$TestRow") (T := tt_Tr) (N := 11) hx hb hts (in_Tr _) hown hK hP 0 rfl rfl 3 (by decide) (hts _ (gw_in gw_158)) (fun _ h9 => h9) rfl d_Tr_addRead_33 ?_
      refine lv_lload_n hx hb d_Tr_addRead_36 rfl (lv_at hl 0 rfl) ?_
      refine lv_lor hx hb d_Tr_addRead_37 ?_
      refine va_put (D := D) (ci := 4) (v := .long (rn ||| (px_one r0))) (ty := .long) (C := "TouchSelect$TestRow") (T := tt_Tr) (N := 11) hx hb hts (in_Tr _) ty_Tr ty_Tr_ok nm_Tr hown hK hP hD hS 0 rfl rfl 3 (by decide) (hts _ (gw_in gw_158)) (fun _ h9 => h9) rfl (by decide +kernel) rfl rfl (Nat.le_of_ble_eq_true rfl) d_Tr_addRead_38 (fun H locs hP hD hS => ?_)
      replace hP : va_P D vwCl [(g0, .inr (4, [.int (nI md), .int (nI tm), .long sg, .long (rn ||| (px_one r0)), .int (kx_b hr), .long kr, .long ks, .ref k1, .ref k2, .int (nI kc), .ref k3]))] H := hP
      replace hD : va_D A [(g0, .inr (4, [.int (nI md), .int (nI tm), .long sg, .long (rn ||| (px_one r0)), .int (kx_b hr), .long kr, .long ks, .ref k1, .ref k2, .int (nI kc), .ref k3]))] := hD
      refine lv_iconst (v := (nI 1)) hx hb d_Tr_addRead_41 (by decide) ?_
      exact hQi () d_Tr_addRead_42 rfl (by rw [if_neg (show ¬ (px_bit rn r0 = true) by rw [hbt]; decide), if_pos c_26] <;> rfl) trivial (by simp only [if_pos (show px_bit rn r0 = false ∧ bc_cnt rn < 30 from ⟨hbt, c_26⟩)]; exact hP.sub [0] rfl) (by simp only [if_pos (show px_bit rn r0 = false ∧ bc_cnt rn < 30 from ⟨hbt, c_26⟩)]; exact hD.sub [0] (by decide) rfl) hS
    ·
      refine lv_iconst (v := (-1)) hx hb d_Tr_addRead_29 (by decide) ?_
      exact hQi () d_Tr_addRead_30 rfl (by rw [if_neg (show ¬ (px_bit rn r0 = true) by rw [hbt]; decide), if_neg (show ¬ bc_cnt rn < 30 by omega)] <;> rfl) trivial (by simp only [if_neg (show ¬ (px_bit rn r0 = false ∧ bc_cnt rn < 30) from fun h9 => absurd h9.2 (by omega))]; exact hP.sub [0] rfl) (by simp only [if_neg (show ¬ (px_bit rn r0 = false ∧ bc_cnt rn < 30) from fun h9 => absurd h9.2 (by omega))]; exact hD.sub [0] (by decide) rfl) hS
  ·
    have hbt : px_bit rn r0 = true := px_bit_n (by omega) c_12
    refine lv_iconst (v := (nI 0)) hx hb d_Tr_addRead_15 (by decide) ?_
    exact hQi () d_Tr_addRead_16 rfl (by rw [if_pos hbt] <;> rfl) trivial (by simp only [if_neg (show ¬ (px_bit rn r0 = false ∧ bc_cnt rn < 30) from fun h9 => absurd (h9.1.symm.trans hbt) (by decide))]; exact hP.sub [0] rfl) (by simp only [if_neg (show ¬ (px_bit rn r0 = false ∧ bc_cnt rn < 30) from fun h9 => absurd (h9.1.symm.trans hbt) (by decide))]; exact hD.sub [0] (by decide) rfl) hS
def rm_Tr_keep : Room := { frames := 1, cells := 0, slots := 0, locals := 40 }
set_option maxHeartbeats 4000000 in
set_option maxRecDepth 100000 in
/-- keep(now) -/
theorem c_Tr_keep (l : Launch) (D : va_G) (g0 : Nat) (k1 : Nat) (k2 : Nat) (k3 : Nat) (md : Nat) (tm : Nat) (sg : Int64) (rn : Int64) (hr : Bool) (kr : Int64) (ks : Int64) (kc : Nat) (kre : Nat → Int64) (kfn : Nat → Int64) (h0 : Nat) (a1 : Nat) (a2 : Nat) (a3 : Nat) (a4 : Nat) (fc : Nat) (nc : Nat) (rs : Nat → Int64) (fn : Nat → Int64) (sz : Nat) : Met l yy_Tr_keep ww_Tr_keep rm_Tr_keep (va_Pc [.ref g0, .ref h0] (kx_C (kx_K D) D vwCl [(g0, .inr (4, [.int (nI md), .int (nI tm), .long sg, .long rn, .int (kx_b hr), .long kr, .long ks, .ref k1, .ref k2, .int (nI kc), .ref k3])), (k1, .inl (D.1 102, 20, .inr (.inl kre))), (k2, .inl (D.1 102, 40, .inr (.inl kfn))), (h0, .inr (3, [.ref a1, .ref a2, .int (nI fc), .ref a3, .ref a4, .int (nI nc)])), (a1, .inl (D.1 102, 20, .inr (.inl rs))), (a3, .inl (D.1 102, 40, .inr (.inl fn)))] sz)) (kx_Q (S := Unit) D vwCl (fun _ => some (.int (nI (bc_cnt rn)))) (fun _ => True) (fun _ => [(g0, .inr (4, [.int (nI md), .int (nI tm), .long sg, .long 0, .int (kx_b true), .long rn, .long sg, .ref k1, .ref k2, .int (nI nc), .ref k3])), (k1, .inl (D.1 102, 20, .inr (.inl (px_mix rs kre 20)))), (k2, .inl (D.1 102, 40, .inr (.inl (px_mix fn kfn 40)))), (h0, .inr (3, [.ref a1, .ref a2, .int (nI fc), .ref a3, .ref a4, .int (nI nc)])), (a1, .inl (D.1 102, 20, .inr (.inl rs))), (a3, .inl (D.1 102, 40, .inr (.inl fn)))]) (va_A [(g0, .inr (4, [.int (nI md), .int (nI tm), .long sg, .long rn, .int (kx_b hr), .long kr, .long ks, .ref k1, .ref k2, .int (nI kc), .ref k3])), (k1, .inl (D.1 102, 20, .inr (.inl kre))), (k2, .inl (D.1 102, 40, .inr (.inl kfn))), (h0, .inr (3, [.ref a1, .ref a2, .int (nI fc), .ref a3, .ref a4, .int (nI nc)])), (a1, .inl (D.1 102, 20, .inr (.inl rs))), (a3, .inl (D.1 102, 40, .inr (.inl fn)))] sz)) 0 0 (va_A [(g0, .inr (4, [.int (nI md), .int (nI tm), .long sg, .long rn, .int (kx_b hr), .long kr, .long ks, .ref k1, .ref k2, .int (nI kc), .ref k3])), (k1, .inl (D.1 102, 20, .inr (.inl kre))), (k2, .inl (D.1 102, 40, .inr (.inl kfn))), (h0, .inr (3, [.ref a1, .ref a2, .int (nI fc), .ref a3, .ref a4, .int (nI nc)])), (a1, .inl (D.1 102, 20, .inr (.inl rs))), (a3, .inl (D.1 102, 40, .inr (.inl fn)))] sz) := by
  refine kx_metW (by decide) rfl (Nat.le_of_ble_eq_true rfl) ?_
  intro p e s m args below meth c ls Q A hx hb hts hown hml hin hA hP hD hS hKK hl hQi hQz hQa hQv
  have hK := hKK.1
  replace hown : s.vm.findClass "TouchSelect$TestRow" = some m.cls := hown
  replace hl : lv_has ls 2 [(0, .ref g0), (1, .ref h0)] := hl
  refine lv_aload_n hx hb d_Tr_keep_0 rfl (lv_at hl 1 rfl) ?_
  refine va_get (D := D) (ci := 3) (v := .ref a1) (C := "TouchSelect$Sources") (T := tt_So) (N := 6) hx hb hts (in_So _) hown hK hP 3 rfl rfl 0 (by decide) (hts _ (gw_in gw_24)) (fun _ h9 => h9) rfl d_Tr_keep_1 ?_
  refine lv_iconst (v := (nI 0)) hx hb d_Tr_keep_4 (by decide) ?_
  refine lv_aload_n hx hb d_Tr_keep_5 rfl (lv_at hl 0 rfl) ?_
  refine va_get (D := D) (ci := 4) (v := .ref k1) (C := "TouchSelect$TestRow") (T := tt_Tr) (N := 11) hx hb hts (in_Tr _) hown hK hP 0 rfl rfl 7 (by decide) (hts _ (gw_in gw_163)) (fun _ h9 => h9) rfl d_Tr_keep_6 ?_
  refine lv_iconst (v := (nI 0)) hx hb d_Tr_keep_9 (by decide) ?_
  refine lv_bipush (v := (nI 20)) hx hb d_Tr_keep_10 (by decide) ?_
  refine kx_copyl hx hb (hml.trans hl.1.symm) hown (hts _ (gw_in gw_222)) (hts _ (gw_in gw_224)) (hts _ (gw_in gw_223)) (hts _ (gw_in gw_9)) hK hP hD hS 4 1 2 rfl rfl rfl (n := 20) (Nat.le_of_ble_eq_true rfl) (Nat.le_of_ble_eq_true rfl) (Nat.le_of_ble_eq_true rfl) (Nat.le_of_ble_eq_true rfl) (Nat.le_of_ble_eq_true rfl) d_Tr_keep_12 (fun H locs hP hD hS => ?_)
  replace hP : va_P D vwCl [(g0, .inr (4, [.int (nI md), .int (nI tm), .long sg, .long rn, .int (kx_b hr), .long kr, .long ks, .ref k1, .ref k2, .int (nI kc), .ref k3])), (k1, .inl (D.1 102, 20, .inr (.inl (px_mix rs kre 20)))), (k2, .inl (D.1 102, 40, .inr (.inl kfn))), (h0, .inr (3, [.ref a1, .ref a2, .int (nI fc), .ref a3, .ref a4, .int (nI nc)])), (a1, .inl (D.1 102, 20, .inr (.inl rs))), (a3, .inl (D.1 102, 40, .inr (.inl fn)))] H := hP
  replace hD : va_D A [(g0, .inr (4, [.int (nI md), .int (nI tm), .long sg, .long rn, .int (kx_b hr), .long kr, .long ks, .ref k1, .ref k2, .int (nI kc), .ref k3])), (k1, .inl (D.1 102, 20, .inr (.inl (px_mix rs kre 20)))), (k2, .inl (D.1 102, 40, .inr (.inl kfn))), (h0, .inr (3, [.ref a1, .ref a2, .int (nI fc), .ref a3, .ref a4, .int (nI nc)])), (a1, .inl (D.1 102, 20, .inr (.inl rs))), (a3, .inl (D.1 102, 40, .inr (.inl fn)))] := hD
  refine lv_aload_n hx hb d_Tr_keep_15 rfl (lv_at hl 1 rfl) ?_
  refine va_get (D := D) (ci := 3) (v := .ref a3) (C := "TouchSelect$Sources") (T := tt_So) (N := 6) hx hb hts (in_So _) hown hK hP 3 rfl rfl 3 (by decide) (hts _ (gw_in gw_29)) (fun _ h9 => h9) rfl d_Tr_keep_16 ?_
  refine lv_iconst (v := (nI 0)) hx hb d_Tr_keep_19 (by decide) ?_
  refine lv_aload_n hx hb d_Tr_keep_20 rfl (lv_at hl 0 rfl) ?_
  refine va_get (D := D) (ci := 4) (v := .ref k2) (C := "TouchSelect$TestRow") (T := tt_Tr) (N := 11) hx hb hts (in_Tr _) hown hK hP 0 rfl rfl 8 (by decide) (hts _ (gw_in gw_164)) (fun _ h9 => h9) rfl d_Tr_keep_21 ?_
  refine lv_iconst (v := (nI 0)) hx hb d_Tr_keep_24 (by decide) ?_
  refine lv_bipush (v := (nI 40)) hx hb d_Tr_keep_25 (by decide) ?_
  refine kx_copyl hx hb (hml.trans hl.1.symm) hown (hts _ (gw_in gw_222)) (hts _ (gw_in gw_224)) (hts _ (gw_in gw_223)) (hts _ (gw_in gw_9)) hK hP hD hS 5 2 2 rfl rfl rfl (n := 40) (Nat.le_of_ble_eq_true rfl) (Nat.le_of_ble_eq_true rfl) (Nat.le_of_ble_eq_true rfl) (Nat.le_of_ble_eq_true rfl) (Nat.le_of_ble_eq_true rfl) d_Tr_keep_27 (fun H locs hP hD hS => ?_)
  replace hP : va_P D vwCl [(g0, .inr (4, [.int (nI md), .int (nI tm), .long sg, .long rn, .int (kx_b hr), .long kr, .long ks, .ref k1, .ref k2, .int (nI kc), .ref k3])), (k1, .inl (D.1 102, 20, .inr (.inl (px_mix rs kre 20)))), (k2, .inl (D.1 102, 40, .inr (.inl (px_mix fn kfn 40)))), (h0, .inr (3, [.ref a1, .ref a2, .int (nI fc), .ref a3, .ref a4, .int (nI nc)])), (a1, .inl (D.1 102, 20, .inr (.inl rs))), (a3, .inl (D.1 102, 40, .inr (.inl fn)))] H := hP
  replace hD : va_D A [(g0, .inr (4, [.int (nI md), .int (nI tm), .long sg, .long rn, .int (kx_b hr), .long kr, .long ks, .ref k1, .ref k2, .int (nI kc), .ref k3])), (k1, .inl (D.1 102, 20, .inr (.inl (px_mix rs kre 20)))), (k2, .inl (D.1 102, 40, .inr (.inl (px_mix fn kfn 40)))), (h0, .inr (3, [.ref a1, .ref a2, .int (nI fc), .ref a3, .ref a4, .int (nI nc)])), (a1, .inl (D.1 102, 20, .inr (.inl rs))), (a3, .inl (D.1 102, 40, .inr (.inl fn)))] := hD
  refine lv_aload_n hx hb d_Tr_keep_30 rfl (lv_at hl 0 rfl) ?_
  refine lv_aload_n hx hb d_Tr_keep_31 rfl (lv_at hl 1 rfl) ?_
  refine va_get (D := D) (ci := 3) (v := .int (nI nc)) (C := "TouchSelect$Sources") (T := tt_So) (N := 6) hx hb hts (in_So _) hown hK hP 3 rfl rfl 5 (by decide) (hts _ (gw_in gw_34)) (fun _ h9 => h9) rfl d_Tr_keep_32 ?_
  refine va_put (D := D) (ci := 4) (v := .int (nI nc)) (ty := .int) (C := "TouchSelect$TestRow") (T := tt_Tr) (N := 11) hx hb hts (in_Tr _) ty_Tr ty_Tr_ok nm_Tr hown hK hP hD hS 0 rfl rfl 9 (by decide) (hts _ (gw_in gw_165)) (fun _ h9 => h9) rfl (by decide +kernel) rfl rfl (Nat.le_of_ble_eq_true rfl) d_Tr_keep_35 (fun H locs hP hD hS => ?_)
  replace hP : va_P D vwCl [(g0, .inr (4, [.int (nI md), .int (nI tm), .long sg, .long rn, .int (kx_b hr), .long kr, .long ks, .ref k1, .ref k2, .int (nI nc), .ref k3])), (k1, .inl (D.1 102, 20, .inr (.inl (px_mix rs kre 20)))), (k2, .inl (D.1 102, 40, .inr (.inl (px_mix fn kfn 40)))), (h0, .inr (3, [.ref a1, .ref a2, .int (nI fc), .ref a3, .ref a4, .int (nI nc)])), (a1, .inl (D.1 102, 20, .inr (.inl rs))), (a3, .inl (D.1 102, 40, .inr (.inl fn)))] H := hP
  replace hD : va_D A [(g0, .inr (4, [.int (nI md), .int (nI tm), .long sg, .long rn, .int (kx_b hr), .long kr, .long ks, .ref k1, .ref k2, .int (nI nc), .ref k3])), (k1, .inl (D.1 102, 20, .inr (.inl (px_mix rs kre 20)))), (k2, .inl (D.1 102, 40, .inr (.inl (px_mix fn kfn 40)))), (h0, .inr (3, [.ref a1, .ref a2, .int (nI fc), .ref a3, .ref a4, .int (nI nc)])), (a1, .inl (D.1 102, 20, .inr (.inl rs))), (a3, .inl (D.1 102, 40, .inr (.inl fn)))] := hD
  refine lv_aload_n hx hb d_Tr_keep_38 rfl (lv_at hl 0 rfl) ?_
  refine lv_aload_n hx hb d_Tr_keep_39 rfl (lv_at hl 0 rfl) ?_
  refine va_get (D := D) (ci := 4) (v := .long sg) (C := "TouchSelect$TestRow") (T := tt_Tr) (N := 11) hx hb hts (in_Tr _) hown hK hP 0 rfl rfl 2 (by decide) (hts _ (gw_in gw_156)) (fun _ h9 => h9) rfl d_Tr_keep_40 ?_
  refine va_put (D := D) (ci := 4) (v := .long sg) (ty := .long) (C := "TouchSelect$TestRow") (T := tt_Tr) (N := 11) hx hb hts (in_Tr _) ty_Tr ty_Tr_ok nm_Tr hown hK hP hD hS 0 rfl rfl 6 (by decide) (hts _ (gw_in gw_162)) (fun _ h9 => h9) rfl (by decide +kernel) rfl rfl (Nat.le_of_ble_eq_true rfl) d_Tr_keep_43 (fun H locs hP hD hS => ?_)
  replace hP : va_P D vwCl [(g0, .inr (4, [.int (nI md), .int (nI tm), .long sg, .long rn, .int (kx_b hr), .long kr, .long sg, .ref k1, .ref k2, .int (nI nc), .ref k3])), (k1, .inl (D.1 102, 20, .inr (.inl (px_mix rs kre 20)))), (k2, .inl (D.1 102, 40, .inr (.inl (px_mix fn kfn 40)))), (h0, .inr (3, [.ref a1, .ref a2, .int (nI fc), .ref a3, .ref a4, .int (nI nc)])), (a1, .inl (D.1 102, 20, .inr (.inl rs))), (a3, .inl (D.1 102, 40, .inr (.inl fn)))] H := hP
  replace hD : va_D A [(g0, .inr (4, [.int (nI md), .int (nI tm), .long sg, .long rn, .int (kx_b hr), .long kr, .long sg, .ref k1, .ref k2, .int (nI nc), .ref k3])), (k1, .inl (D.1 102, 20, .inr (.inl (px_mix rs kre 20)))), (k2, .inl (D.1 102, 40, .inr (.inl (px_mix fn kfn 40)))), (h0, .inr (3, [.ref a1, .ref a2, .int (nI fc), .ref a3, .ref a4, .int (nI nc)])), (a1, .inl (D.1 102, 20, .inr (.inl rs))), (a3, .inl (D.1 102, 40, .inr (.inl fn)))] := hD
  refine lv_aload_n hx hb d_Tr_keep_46 rfl (lv_at hl 0 rfl) ?_
  refine lv_aload_n hx hb d_Tr_keep_47 rfl (lv_at hl 0 rfl) ?_
  refine va_get (D := D) (ci := 4) (v := .long rn) (C := "TouchSelect$TestRow") (T := tt_Tr) (N := 11) hx hb hts (in_Tr _) hown hK hP 0 rfl rfl 3 (by decide) (hts _ (gw_in gw_158)) (fun _ h9 => h9) rfl d_Tr_keep_48 ?_
  refine va_put (D := D) (ci := 4) (v := .long rn) (ty := .long) (C := "TouchSelect$TestRow") (T := tt_Tr) (N := 11) hx hb hts (in_Tr _) ty_Tr ty_Tr_ok nm_Tr hown hK hP hD hS 0 rfl rfl 5 (by decide) (hts _ (gw_in gw_160)) (fun _ h9 => h9) rfl (by decide +kernel) rfl rfl (Nat.le_of_ble_eq_true rfl) d_Tr_keep_51 (fun H locs hP hD hS => ?_)
  replace hP : va_P D vwCl [(g0, .inr (4, [.int (nI md), .int (nI tm), .long sg, .long rn, .int (kx_b hr), .long rn, .long sg, .ref k1, .ref k2, .int (nI nc), .ref k3])), (k1, .inl (D.1 102, 20, .inr (.inl (px_mix rs kre 20)))), (k2, .inl (D.1 102, 40, .inr (.inl (px_mix fn kfn 40)))), (h0, .inr (3, [.ref a1, .ref a2, .int (nI fc), .ref a3, .ref a4, .int (nI nc)])), (a1, .inl (D.1 102, 20, .inr (.inl rs))), (a3, .inl (D.1 102, 40, .inr (.inl fn)))] H := hP
  replace hD : va_D A [(g0, .inr (4, [.int (nI md), .int (nI tm), .long sg, .long rn, .int (kx_b hr), .long rn, .long sg, .ref k1, .ref k2, .int (nI nc), .ref k3])), (k1, .inl (D.1 102, 20, .inr (.inl (px_mix rs kre 20)))), (k2, .inl (D.1 102, 40, .inr (.inl (px_mix fn kfn 40)))), (h0, .inr (3, [.ref a1, .ref a2, .int (nI fc), .ref a3, .ref a4, .int (nI nc)])), (a1, .inl (D.1 102, 20, .inr (.inl rs))), (a3, .inl (D.1 102, 40, .inr (.inl fn)))] := hD
  refine lv_aload_n hx hb d_Tr_keep_54 rfl (lv_at hl 0 rfl) ?_
  refine lv_lconst (v := 0) hx hb d_Tr_keep_55 (by decide) ?_
  refine va_put (D := D) (ci := 4) (v := .long 0) (ty := .long) (C := "TouchSelect$TestRow") (T := tt_Tr) (N := 11) hx hb hts (in_Tr _) ty_Tr ty_Tr_ok nm_Tr hown hK hP hD hS 0 rfl rfl 3 (by decide) (hts _ (gw_in gw_158)) (fun _ h9 => h9) rfl (by decide +kernel) rfl rfl (Nat.le_of_ble_eq_true rfl) d_Tr_keep_56 (fun H locs hP hD hS => ?_)
  replace hP : va_P D vwCl [(g0, .inr (4, [.int (nI md), .int (nI tm), .long sg, .long 0, .int (kx_b hr), .long rn, .long sg, .ref k1, .ref k2, .int (nI nc), .ref k3])), (k1, .inl (D.1 102, 20, .inr (.inl (px_mix rs kre 20)))), (k2, .inl (D.1 102, 40, .inr (.inl (px_mix fn kfn 40)))), (h0, .inr (3, [.ref a1, .ref a2, .int (nI fc), .ref a3, .ref a4, .int (nI nc)])), (a1, .inl (D.1 102, 20, .inr (.inl rs))), (a3, .inl (D.1 102, 40, .inr (.inl fn)))] H := hP
  replace hD : va_D A [(g0, .inr (4, [.int (nI md), .int (nI tm), .long sg, .long 0, .int (kx_b hr), .long rn, .long sg, .ref k1, .ref k2, .int (nI nc), .ref k3])), (k1, .inl (D.1 102, 20, .inr (.inl (px_mix rs kre 20)))), (k2, .inl (D.1 102, 40, .inr (.inl (px_mix fn kfn 40)))), (h0, .inr (3, [.ref a1, .ref a2, .int (nI fc), .ref a3, .ref a4, .int (nI nc)])), (a1, .inl (D.1 102, 20, .inr (.inl rs))), (a3, .inl (D.1 102, 40, .inr (.inl fn)))] := hD
  refine lv_aload_n hx hb d_Tr_keep_59 rfl (lv_at hl 0 rfl) ?_
  refine lv_iconst (v := (nI 1)) hx hb d_Tr_keep_60 (by decide) ?_
  refine kx_topi (show nI 1 = kx_b true from by decide) ?_
  refine va_put (D := D) (ci := 4) (v := .int (kx_b true)) (ty := .boolean) (C := "TouchSelect$TestRow") (T := tt_Tr) (N := 11) hx hb hts (in_Tr _) ty_Tr ty_Tr_ok nm_Tr hown hK hP hD hS 0 rfl rfl 4 (by decide) (hts _ (gw_in gw_159)) (fun _ h9 => h9) rfl (by decide +kernel) (kx_nrw _) (kx_fit _) (Nat.le_of_ble_eq_true rfl) d_Tr_keep_61 (fun H locs hP hD hS => ?_)
  replace hP : va_P D vwCl [(g0, .inr (4, [.int (nI md), .int (nI tm), .long sg, .long 0, .int (kx_b true), .long rn, .long sg, .ref k1, .ref k2, .int (nI nc), .ref k3])), (k1, .inl (D.1 102, 20, .inr (.inl (px_mix rs kre 20)))), (k2, .inl (D.1 102, 40, .inr (.inl (px_mix fn kfn 40)))), (h0, .inr (3, [.ref a1, .ref a2, .int (nI fc), .ref a3, .ref a4, .int (nI nc)])), (a1, .inl (D.1 102, 20, .inr (.inl rs))), (a3, .inl (D.1 102, 40, .inr (.inl fn)))] H := hP
  replace hD : va_D A [(g0, .inr (4, [.int (nI md), .int (nI tm), .long sg, .long 0, .int (kx_b true), .long rn, .long sg, .ref k1, .ref k2, .int (nI nc), .ref k3])), (k1, .inl (D.1 102, 20, .inr (.inl (px_mix rs kre 20)))), (k2, .inl (D.1 102, 40, .inr (.inl (px_mix fn kfn 40)))), (h0, .inr (3, [.ref a1, .ref a2, .int (nI fc), .ref a3, .ref a4, .int (nI nc)])), (a1, .inl (D.1 102, 20, .inr (.inl rs))), (a3, .inl (D.1 102, 40, .inr (.inl fn)))] := hD
  refine lv_aload_n hx hb d_Tr_keep_64 rfl (lv_at hl 0 rfl) ?_
  refine va_get (D := D) (ci := 4) (v := .long rn) (C := "TouchSelect$TestRow") (T := tt_Tr) (N := 11) hx hb hts (in_Tr _) hown hK hP 0 rfl rfl 5 (by decide) (hts _ (gw_in gw_160)) (fun _ h9 => h9) rfl d_Tr_keep_65 ?_
  refine kx_callR (va_runS (As := [.long rn]) (rest := []) ⟨hx, hb, hml, hown, hts⟩ (c_Lo_bitCount l D rn) (gw_S 1 hts gw_195 gw_196 gw_8 gw_197 rfl rfl (by decide +kernel) ⟨Nat.le_of_ble_eq_true rfl, Nat.le_of_ble_eq_true rfl⟩) (kx_preS (wc := []) (kx_ok D) hKK (fun k q h => by simp at h)) rfl rfl hl.1 rfl (lv_room (Nat.le_of_ble_eq_true rfl)) d_Tr_keep_68 ⟨Nat.le_of_ble_eq_true rfl, Nat.le_of_ble_eq_true rfl⟩) ?_
  refine W.eq (g2 := F0 m 71 ls [.int (nI (bc_cnt rn))]) rfl ?_
  exact hQi () d_Tr_keep_71 rfl (rfl) trivial (hP.sub [0, 1, 2, 3, 4, 5] rfl) (hD.sub [0, 1, 2, 3, 4, 5] (by decide) rfl) hS
def rm_Tr_failWith : Room := { frames := 0, cells := 0, slots := 0, locals := 0 }
set_option maxHeartbeats 4000000 in
set_option maxRecDepth 100000 in
/-- failWith(td) -/
theorem c_Tr_failWith (l : Launch) (D : va_G) (g0 : Nat) (k1 : Nat) (k2 : Nat) (k3 : Nat) (md : Nat) (tm : Nat) (sg : Int64) (rn : Int64) (hr : Bool) (kr : Int64) (ks : Int64) (kc : Nat) (fl : Nat → Nat) (b1 : Nat) (td : Nat → Bool) (sz : Nat) : Met l yy_Tr_failWith ww_Tr_failWith rm_Tr_failWith (va_Pc [.ref g0, .ref b1] (kx_C (kx_K D) D vwCl [(g0, .inr (4, [.int (nI md), .int (nI tm), .long sg, .long rn, .int (kx_b hr), .long kr, .long ks, .ref k1, .ref k2, .int (nI kc), .ref k3])), (k3, .inl (D.1 100, 20, .inl (kx_ni fl))), (b1, .inl (D.1 101, 20, .inl (kx_bi td)))] sz)) (kx_Q (S := Unit) D vwCl (fun _ => none) (fun _ => True) (fun _ => [(g0, .inr (4, [.int (nI md), .int (nI tm), .long sg, .long rn, .int (kx_b hr), .long kr, .long ks, .ref k1, .ref k2, .int (nI kc), .ref k3])), (k3, .inl (D.1 100, 20, .inl (kx_ni (px_fail fl td 20)))), (b1, .inl (D.1 101, 20, .inl (kx_bi td)))]) (va_A [(g0, .inr (4, [.int (nI md), .int (nI tm), .long sg, .long rn, .int (kx_b hr), .long kr, .long ks, .ref k1, .ref k2, .int (nI kc), .ref k3])), (k3, .inl (D.1 100, 20, .inl (kx_ni fl))), (b1, .inl (D.1 101, 20, .inl (kx_bi td)))] sz)) 0 0 (va_A [(g0, .inr (4, [.int (nI md), .int (nI tm), .long sg, .long rn, .int (kx_b hr), .long kr, .long ks, .ref k1, .ref k2, .int (nI kc), .ref k3])), (k3, .inl (D.1 100, 20, .inl (kx_ni fl))), (b1, .inl (D.1 101, 20, .inl (kx_bi td)))] sz) := by
  refine kx_metW (by decide) rfl (Nat.le_of_ble_eq_true rfl) ?_
  intro p e s m args below meth c ls Q A hx hb hts hown hml hin hA hP hD hS hKK hl hQi hQz hQa hQv
  have hK := hKK.1
  replace hown : s.vm.findClass "TouchSelect$TestRow" = some m.cls := hown
  replace hl : lv_has ls 3 [(0, .ref g0), (1, .ref b1)] := hl
  refine lv_iconst (v := (nI 0)) hx hb d_Tr_failWith_0 (by decide) ?_
  refine lv_istore_n (lv' := [(2, .int (nI 0)), (0, .ref g0), (1, .ref b1)]) hx hb d_Tr_failWith_1 rfl hl (by decide) rfl (fun ls hl => ?_)
  have L_2 : ∀ (nn : Nat) (i : Nat) (H : Heap) (locs : List Loc) (ls : Array Slot), 20 - i < nn → (i ≤ 20) → va_P D vwCl [(g0, .inr (4, [.int (nI md), .int (nI tm), .long sg, .long rn, .int (kx_b hr), .long kr, .long ks, .ref k1, .ref k2, .int (nI kc), .ref k3])), (k3, .inl (D.1 100, 20, .inl (kx_ni (px_fail fl td i)))), (b1, .inl (D.1 101, 20, .inl (kx_bi td)))] H → va_D A [(g0, .inr (4, [.int (nI md), .int (nI tm), .long sg, .long rn, .int (kx_b hr), .long kr, .long ks, .ref k1, .ref k2, .int (nI kc), .ref k3])), (k3, .inl (D.1 100, 20, .inl (kx_ni (px_fail fl td i)))), (b1, .inl (D.1 101, 20, .inl (kx_bi td)))] → va_S A s.heap H locs → lv_has ls 3 [(2, .int (nI i)), (0, .ref g0), (1, .ref b1)] → W p l e rm_Tr_failWith s m args below meth c H locs 0 0 Q (F0 m 2 ls []) := by
    intro nn
    induction nn with
    | zero => intros; omega
    | succ nn ih =>
      intro i H locs ls hmm hi hP hD hS hl
      refine lv_iload_n hx hb d_Tr_failWith_2 rfl (lv_at hl 0 rfl) ?_
      refine lv_bipush (v := (nI 20)) hx hb d_Tr_failWith_3 (by decide) ?_
      refine kx_icmp_ge (tgt := 30) hx hb d_Tr_failWith_5 (by decide) (by omega) (by omega) (fun c_5 => ?_) (fun c_5 => ?_)
      ·
        obtain rfl : i = 20 := by omega
        exact hQv () d_Tr_failWith_30 rfl (rfl) trivial (hP.sub [0, 1, 2] rfl) (hD.sub [0, 1, 2] (by decide) rfl) hS
      ·
        refine lv_aload_n hx hb d_Tr_failWith_8 rfl (lv_at hl 2 rfl) ?_
        refine lv_iload_n hx hb d_Tr_failWith_9 rfl (lv_at hl 0 rfl) ?_
        refine kx_zald hx hb hK hP 2 1 rfl rfl (k := i) (by omega) (by omega) d_Tr_failWith_10 ?_
        refine kx_ifb_eq (tgt := 24) hx hb d_Tr_failWith_11 (by decide) (fun c_11 => ?_) (fun c_11 => ?_)
        ·
          refine lv_iinc (v := (nI (i + 1))) (lv' := [(2, .int (nI (i + 1))), (0, .ref g0), (1, .ref b1)]) hx hb d_Tr_failWith_24 hl (k := 0) rfl (kx_inc i 1 (by decide)) (by decide) rfl (fun ls hl => ?_)
          refine lv_goto (tgt := 2) hx hb d_Tr_failWith_27 (by decide) ?_
          rw [px_fail_f c_11] at hP hD
          exact ih (i + 1) H locs ls (by omega) (by omega) hP hD hS (lv_sub hl [0, 1, 2] rfl)
        ·
          refine lv_aload_n hx hb d_Tr_failWith_14 rfl (lv_at hl 1 rfl) ?_
          refine va_get (D := D) (ci := 4) (v := .ref k3) (C := "TouchSelect$TestRow") (T := tt_Tr) (N := 11) hx hb hts (in_Tr _) hown hK hP 0 rfl rfl 10 (by decide) (hts _ (gw_in gw_166)) (fun _ h9 => h9) rfl d_Tr_failWith_15 ?_
          refine lv_iload_n hx hb d_Tr_failWith_18 rfl (lv_at hl 0 rfl) ?_
          refine lv_dup2_11 hx hb d_Tr_failWith_19 rfl rfl ?_
          refine kx_iald hx hb hK hP 1 0 rfl rfl (k := i) (by omega) (by omega) d_Tr_failWith_20 ?_
          refine kx_topi (show (nI ((px_fail fl td i) i)) = (nI (fl i)) from by rw [px_fail_self]) ?_
          refine lv_iconst (v := (nI 1)) hx hb d_Tr_failWith_21 (by decide) ?_
          refine lv_iadd hx hb d_Tr_failWith_22 ?_
          refine kx_topi (nI_add (fl i) 1) ?_
          refine kx_iast hx hb hK hP hD hS 1 0 rfl rfl (k := i) (by omega) (by omega) d_Tr_failWith_23 (fun H locs hP hD hS => ?_)
          replace hP : va_P D vwCl [(g0, .inr (4, [.int (nI md), .int (nI tm), .long sg, .long rn, .int (kx_b hr), .long kr, .long ks, .ref k1, .ref k2, .int (nI kc), .ref k3])), (k3, .inl (D.1 100, 20, .inl (kx_ni (va_up (px_fail fl td i) i ((fl i) + 1))))), (b1, .inl (D.1 101, 20, .inl (kx_bi td)))] H := hP
          replace hD : va_D A [(g0, .inr (4, [.int (nI md), .int (nI tm), .long sg, .long rn, .int (kx_b hr), .long kr, .long ks, .ref k1, .ref k2, .int (nI kc), .ref k3])), (k3, .inl (D.1 100, 20, .inl (kx_ni (va_up (px_fail fl td i) i ((fl i) + 1))))), (b1, .inl (D.1 101, 20, .inl (kx_bi td)))] := hD
          refine lv_iinc (v := (nI (i + 1))) (lv' := [(2, .int (nI (i + 1))), (0, .ref g0), (1, .ref b1)]) hx hb d_Tr_failWith_24 hl (k := 0) rfl (kx_inc i 1 (by decide)) (by decide) rfl (fun ls hl => ?_)
          refine lv_goto (tgt := 2) hx hb d_Tr_failWith_27 (by decide) ?_
          rw [px_fail_t c_11] at hP hD
          exact ih (i + 1) H locs ls (by omega) (by omega) hP hD hS (lv_sub hl [0, 1, 2] rfl)
  exact L_2 (20 - 0 + 1) 0 s.heap [] ls (by omega) (by omega) (by simp only [px_fail_0]; exact hP) (by simp only [px_fail_0]; exact hD) hS (lv_sub hl [0, 1, 2] rfl)
def rm_Tr_sumFailures : Room := { frames := 0, cells := 0, slots := 0, locals := 0 }
set_option maxHeartbeats 4000000 in
set_option maxRecDepth 100000 in
/-- sumFailures(td) -/
theorem c_Tr_sumFailures (l : Launch) (D : va_G) (g0 : Nat) (k1 : Nat) (k2 : Nat) (k3 : Nat) (md : Nat) (tm : Nat) (sg : Int64) (rn : Int64) (hr : Bool) (kr : Int64) (ks : Int64) (kc : Nat) (fl : Nat → Nat) (b1 : Nat) (td : Nat → Bool) : Met l yy_Tr_sumFailures ww_Tr_sumFailures rm_Tr_sumFailures (va_Pc [.ref g0, .ref b1] (kx_B (kx_K D) D vwCl [(g0, .inr (4, [.int (nI md), .int (nI tm), .long sg, .long rn, .int (kx_b hr), .long kr, .long ks, .ref k1, .ref k2, .int (nI kc), .ref k3])), (k3, .inl (D.1 100, 20, .inl (kx_ni fl))), (b1, .inl (D.1 101, 20, .inl (kx_bi td)))])) (kx_R (some (.int (nI (px_sum fl td 20))))) 0 0 (fun _ => False) := by
  refine kx_metR (by decide) rfl (Nat.le_of_ble_eq_true rfl) ?_
  intro p e s m args below meth c ls Q hx hb hts hown hml hP hKK hl hQi hQz hQa hQl hQv
  have hK := hKK.1
  replace hown : s.vm.findClass "TouchSelect$TestRow" = some m.cls := hown
  replace hl : lv_has ls 4 [(0, .ref g0), (1, .ref b1)] := hl
  refine lv_iconst (v := (nI 0)) hx hb d_Tr_sumFailures_0 (by decide) ?_
  refine lv_istore_n (lv' := [(2, .int (nI 0)), (0, .ref g0), (1, .ref b1)]) hx hb d_Tr_sumFailures_1 rfl hl (by decide) rfl (fun ls hl => ?_)
  refine lv_iconst (v := (nI 0)) hx hb d_Tr_sumFailures_2 (by decide) ?_
  refine lv_istore_n (lv' := [(3, .int (nI 0)), (2, .int (nI 0)), (0, .ref g0), (1, .ref b1)]) hx hb d_Tr_sumFailures_3 rfl hl (by decide) rfl (fun ls hl => ?_)
  have L_4 : ∀ (nn : Nat) (i : Nat) (ls : Array Slot), 20 - i < nn → (i ≤ 20) → lv_has ls 4 [(3, .int (nI i)), (2, .int (nI (px_sum fl td i))), (0, .ref g0), (1, .ref b1)] → W p l e rm_Tr_sumFailures s m args below meth c s.heap [] 0 0 Q (F0 m 4 ls []) := by
    intro nn
    induction nn with
    | zero => intros; omega
    | succ nn ih =>
      intro i ls hmm hi hl
      refine lv_iload_n hx hb d_Tr_sumFailures_4 rfl (lv_at hl 0 rfl) ?_
      refine lv_bipush (v := (nI 20)) hx hb d_Tr_sumFailures_5 (by decide) ?_
      refine kx_icmp_ge (tgt := 31) hx hb d_Tr_sumFailures_7 (by decide) (by omega) (by omega) (fun c_7 => ?_) (fun c_7 => ?_)
      ·
        obtain rfl : i = 20 := by omega
        refine lv_iload_n hx hb d_Tr_sumFailures_31 rfl (lv_at hl 1 rfl) ?_
        exact hQi d_Tr_sumFailures_32 rfl (rfl)
      ·
        refine lv_aload_n hx hb d_Tr_sumFailures_10 rfl (lv_at hl 3 rfl) ?_
        refine lv_iload_n hx hb d_Tr_sumFailures_11 rfl (lv_at hl 0 rfl) ?_
        refine kx_zald hx hb hK hP 2 1 rfl rfl (k := i) (by omega) (by omega) d_Tr_sumFailures_12 ?_
        refine kx_ifb_eq (tgt := 25) hx hb d_Tr_sumFailures_13 (by decide) (fun c_13 => ?_) (fun c_13 => ?_)
        ·
          refine lv_iinc (v := (nI (i + 1))) (lv' := [(3, .int (nI (i + 1))), (2, .int (nI (px_sum fl td i))), (0, .ref g0), (1, .ref b1)]) hx hb d_Tr_sumFailures_25 hl (k := 0) rfl (kx_inc i 1 (by decide)) (by decide) rfl (fun ls hl => ?_)
          refine lv_goto (tgt := 4) hx hb d_Tr_sumFailures_28 (by decide) ?_
          rw [← px_sum_f c_13] at hl
          exact ih (i + 1) ls (by omega) (by omega) (lv_sub hl [0, 1, 2, 3] rfl)
        ·
          refine lv_iload_n hx hb d_Tr_sumFailures_16 rfl (lv_at hl 1 rfl) ?_
          refine lv_aload_n hx hb d_Tr_sumFailures_17 rfl (lv_at hl 2 rfl) ?_
          refine va_get (D := D) (ci := 4) (v := .ref k3) (C := "TouchSelect$TestRow") (T := tt_Tr) (N := 11) hx hb hts (in_Tr _) hown hK hP 0 rfl rfl 10 (by decide) (hts _ (gw_in gw_166)) (fun _ h9 => h9) rfl d_Tr_sumFailures_18 ?_
          refine lv_iload_n hx hb d_Tr_sumFailures_21 rfl (lv_at hl 0 rfl) ?_
          refine kx_iald hx hb hK hP 1 0 rfl rfl (k := i) (by omega) (by omega) d_Tr_sumFailures_22 ?_
          refine lv_iadd hx hb d_Tr_sumFailures_23 ?_
          refine kx_topi (nI_add (px_sum fl td i) (fl i)) ?_
          refine lv_istore_n (lv' := [(2, .int (nI ((px_sum fl td i) + (fl i)))), (3, .int (nI i)), (0, .ref g0), (1, .ref b1)]) hx hb d_Tr_sumFailures_24 rfl hl (by decide) rfl (fun ls hl => ?_)
          refine lv_iinc (v := (nI (i + 1))) (lv' := [(3, .int (nI (i + 1))), (2, .int (nI ((px_sum fl td i) + (fl i)))), (0, .ref g0), (1, .ref b1)]) hx hb d_Tr_sumFailures_25 hl (k := 1) rfl (kx_inc i 1 (by decide)) (by decide) rfl (fun ls hl => ?_)
          refine lv_goto (tgt := 4) hx hb d_Tr_sumFailures_28 (by decide) ?_
          rw [← px_sum_t c_13] at hl
          exact ih (i + 1) ls (by omega) (by omega) (lv_sub hl [0, 1, 2, 3] rfl)
  exact L_4 (20 - 0 + 1) 0 ls (by omega) (by omega) (lv_sub hl [0, 1, 2, 3] rfl)
def rm_Tr_hasKept : Room := { frames := 0, cells := 0, slots := 0, locals := 0 }
set_option maxHeartbeats 4000000 in
set_option maxRecDepth 100000 in
/-- hasKept(r0) -/
theorem c_Tr_hasKept (l : Launch) (D : va_G) (g0 : Nat) (k1 : Nat) (k2 : Nat) (k3 : Nat) (md : Nat) (tm : Nat) (sg : Int64) (rn : Int64) (hr : Bool) (kr : Int64) (ks : Int64) (kc : Nat) (r0 : Nat) (hr0 : r0 < 64) : Met l yy_Tr_hasKept ww_Tr_hasKept rm_Tr_hasKept (va_Pc [.ref g0, .int (nI r0)] (kx_B (kx_K D) D vwCl [(g0, .inr (4, [.int (nI md), .int (nI tm), .long sg, .long rn, .int (kx_b hr), .long kr, .long ks, .ref k1, .ref k2, .int (nI kc), .ref k3]))])) (kx_R (some (.int (kx_b (px_bit kr r0))))) 0 0 (fun _ => False) := by
  refine kx_metR (by decide) rfl (Nat.le_of_ble_eq_true rfl) ?_
  intro p e s m args below meth c ls Q hx hb hts hown hml hP hKK hl hQi hQz hQa hQl hQv
  have hK := hKK.1
  replace hown : s.vm.findClass "TouchSelect$TestRow" = some m.cls := hown
  replace hl : lv_has ls 2 [(0, .ref g0), (1, .int (nI r0))] := hl
  refine lv_aload_n hx hb d_Tr_hasKept_0 rfl (lv_at hl 0 rfl) ?_
  refine va_get (D := D) (ci := 4) (v := .long kr) (C := "TouchSelect$TestRow") (T := tt_Tr) (N := 11) hx hb hts (in_Tr _) hown hK hP 0 rfl rfl 5 (by decide) (hts _ (gw_in gw_160)) (fun _ h9 => h9) rfl d_Tr_hasKept_1 ?_
  refine lv_iload_n hx hb d_Tr_hasKept_4 rfl (lv_at hl 1 rfl) ?_
  refine lv_lushr (v := (kr.toUInt64 >>> ((nI r0).toInt64.toUInt64 &&& Int64.toUInt64 63)).toInt64) hx hb d_Tr_hasKept_5 rfl ?_
  refine lv_lconst (v := 1) hx hb d_Tr_hasKept_6 (by decide) ?_
  refine lv_land hx hb d_Tr_hasKept_7 ?_
  refine lv_lconst (v := 0) hx hb d_Tr_hasKept_8 (by decide) ?_
  refine W.lcmp hx hb d_Tr_hasKept_9 ?_
  refine kx_ifc_eq (tgt := 17) hx hb d_Tr_hasKept_10 (by decide) (fun c_10 => ?_) (fun c_10 => ?_)
  ·
    refine lv_iconst (v := (nI 0)) hx hb d_Tr_hasKept_17 (by decide) ?_
    refine kx_topi (show nI 0 = kx_b false from by decide) ?_
    exact hQz d_Tr_hasKept_18 rfl (by rw [px_shr_z hr0 c_10])
  ·
    refine lv_iconst (v := (nI 1)) hx hb d_Tr_hasKept_13 (by decide) ?_
    refine lv_goto (tgt := 18) hx hb d_Tr_hasKept_14 (by decide) ?_
    refine kx_topi (show nI 1 = kx_b true from by decide) ?_
    exact hQz d_Tr_hasKept_18 rfl (by rw [px_shr_n hr0 c_10])
def rm_Tr_isAsItWas : Room := { frames := 0, cells := 0, slots := 0, locals := 0 }
set_option maxHeartbeats 4000000 in
set_option maxRecDepth 100000 in
/-- isAsItWas(f0, now) -/
theorem c_Tr_isAsItWas (l : Launch) (D : va_G) (g0 : Nat) (k1 : Nat) (k2 : Nat) (k3 : Nat) (md : Nat) (tm : Nat) (sg : Int64) (rn : Int64) (hr : Bool) (kr : Int64) (ks : Int64) (kc : Nat) (kre : Nat → Int64) (kfn : Nat → Int64) (h0 : Nat) (a1 : Nat) (a2 : Nat) (a3 : Nat) (a4 : Nat) (fc : Nat) (nc : Nat) (rs : Nat → Int64) (fn : Nat → Int64) (fo : Nat → Nat) (f0 : Nat) (hnc : nc ≤ 40) (hkc : kc ≤ 40) (hfo : ∀ j, fo j < 20) (hf0 : f0 < 20) : Met l yy_Tr_isAsItWas ww_Tr_isAsItWas rm_Tr_isAsItWas (va_Pc [.ref g0, .int (nI f0), .ref h0] (kx_B (kx_K D) D vwCl [(g0, .inr (4, [.int (nI md), .int (nI tm), .long sg, .long rn, .int (kx_b hr), .long kr, .long ks, .ref k1, .ref k2, .int (nI kc), .ref k3])), (k1, .inl (D.1 102, 20, .inr (.inl kre))), (k2, .inl (D.1 102, 40, .inr (.inl kfn))), (h0, .inr (3, [.ref a1, .ref a2, .int (nI fc), .ref a3, .ref a4, .int (nI nc)])), (a1, .inl (D.1 102, 20, .inr (.inl rs))), (a3, .inl (D.1 102, 40, .inr (.inl fn))), (a4, .inl (D.1 100, 40, .inl (kx_ni fo)))])) (kx_R (some (.int (kx_b (px_as kre rs kfn fn fo kc nc f0))))) 0 0 (fun _ => False) := by
  refine kx_metR (by decide) rfl (Nat.le_of_ble_eq_true rfl) ?_
  intro p e s m args below meth c ls Q hx hb hts hown hml hP hKK hl hQi hQz hQa hQl hQv
  have hK := hKK.1
  replace hown : s.vm.findClass "TouchSelect$TestRow" = some m.cls := hown
  replace hl : lv_has ls 5 [(0, .ref g0), (1, .int (nI f0)), (2, .ref h0)] := hl
  refine lv_aload_n hx hb d_Tr_isAsItWas_0 rfl (lv_at hl 0 rfl) ?_
  refine va_get (D := D) (ci := 4) (v := .ref k1) (C := "TouchSelect$TestRow") (T := tt_Tr) (N := 11) hx hb hts (in_Tr _) hown hK hP 0 rfl rfl 7 (by decide) (hts _ (gw_in gw_163)) (fun _ h9 => h9) rfl d_Tr_isAsItWas_1 ?_
  refine lv_iload_n hx hb d_Tr_isAsItWas_4 rfl (lv_at hl 1 rfl) ?_
  refine kx_lald hx hb hK hP 1 2 rfl rfl (k := f0) (by omega) (by omega) d_Tr_isAsItWas_5 ?_
  refine lv_aload_n hx hb d_Tr_isAsItWas_6 rfl (lv_at hl 2 rfl) ?_
  refine va_get (D := D) (ci := 3) (v := .ref a1) (C := "TouchSelect$Sources") (T := tt_So) (N := 6) hx hb hts (in_So _) hown hK hP 3 rfl rfl 0 (by decide) (hts _ (gw_in gw_24)) (fun _ h9 => h9) rfl d_Tr_isAsItWas_7 ?_
  refine lv_iload_n hx hb d_Tr_isAsItWas_10 rfl (lv_at hl 1 rfl) ?_
  refine kx_lald hx hb hK hP 4 2 rfl rfl (k := f0) (by omega) (by omega) d_Tr_isAsItWas_11 ?_
  refine W.lcmp hx hb d_Tr_isAsItWas_12 ?_
  refine kx_ifc_eq (tgt := 18) hx hb d_Tr_isAsItWas_13 (by decide) (fun c_13 => ?_) (fun c_13 => ?_)
  ·
    refine lv_iconst (v := (nI 0)) hx hb d_Tr_isAsItWas_18 (by decide) ?_
    refine lv_istore_n (lv' := [(3, .int (nI 0)), (0, .ref g0), (1, .int (nI f0)), (2, .ref h0)]) hx hb d_Tr_isAsItWas_19 rfl hl (by decide) rfl (fun ls hl => ?_)
    have L_20 : ∀ (nn : Nat) (i : Nat) (ls : Array Slot), nc - i < nn → (i ≤ nc) → (px_fn kfn fn fo kc f0 i) → lv_has ls 5 [(3, .int (nI i)), (0, .ref g0), (1, .int (nI f0)), (2, .ref h0)] → W p l e rm_Tr_isAsItWas s m args below meth c s.heap [] 0 0 Q (F0 m 20 ls []) := by
      intro nn
      induction nn with
      | zero => intros; omega
      | succ nn ih =>
        intro i ls hmm hi hpf hl
        refine lv_iload_n hx hb d_Tr_isAsItWas_20 rfl (lv_at hl 0 rfl) ?_
        refine lv_aload_n hx hb d_Tr_isAsItWas_21 rfl (lv_at hl 3 rfl) ?_
        refine va_get (D := D) (ci := 3) (v := .int (nI nc)) (C := "TouchSelect$Sources") (T := tt_So) (N := 6) hx hb hts (in_So _) hown hK hP 3 rfl rfl 5 (by decide) (hts _ (gw_in gw_34)) (fun _ h9 => h9) rfl d_Tr_isAsItWas_22 ?_
        refine kx_icmp_ge (tgt := 82) hx hb d_Tr_isAsItWas_25 (by decide) (by omega) (by omega) (fun c_25 => ?_) (fun c_25 => ?_)
        ·
          refine lv_iconst (v := (nI 1)) hx hb d_Tr_isAsItWas_82 (by decide) ?_
          refine kx_topi (show nI 1 = kx_b true from by decide) ?_
          exact hQz d_Tr_isAsItWas_83 rfl (by rw [px_as_yes c_13 (by rw [show nc = i by omega]; exact hpf)])
        ·
          refine lv_iload_n hx hb d_Tr_isAsItWas_28 rfl (lv_at hl 0 rfl) ?_
          refine lv_aload_n hx hb d_Tr_isAsItWas_29 rfl (lv_at hl 1 rfl) ?_
          refine va_get (D := D) (ci := 4) (v := .int (nI kc)) (C := "TouchSelect$TestRow") (T := tt_Tr) (N := 11) hx hb hts (in_Tr _) hown hK hP 0 rfl rfl 9 (by decide) (hts _ (gw_in gw_165)) (fun _ h9 => h9) rfl d_Tr_isAsItWas_30 ?_
          refine kx_icmp_ge (tgt := 56) hx hb d_Tr_isAsItWas_33 (by decide) (by omega) (by omega) (fun c_33 => ?_) (fun c_33 => ?_)
          ·
            refine lv_iconst (v := (nI 0)) hx hb d_Tr_isAsItWas_56 (by decide) ?_
            refine lv_istore (lv' := [(4, .int (nI 0)), (3, .int (nI i)), (0, .ref g0), (1, .int (nI f0)), (2, .ref h0)]) hx hb d_Tr_isAsItWas_57 hl (by decide) rfl (fun ls hl => ?_)
            refine lv_aload_n hx hb d_Tr_isAsItWas_59 rfl (lv_at hl 4 rfl) ?_
            refine va_get (D := D) (ci := 3) (v := .ref a4) (C := "TouchSelect$Sources") (T := tt_So) (N := 6) hx hb hts (in_So _) hown hK hP 3 rfl rfl 4 (by decide) (hts _ (gw_in gw_32)) (fun _ h9 => h9) rfl d_Tr_isAsItWas_60 ?_
            refine lv_iload_n hx hb d_Tr_isAsItWas_63 rfl (lv_at hl 1 rfl) ?_
            refine kx_iald hx hb hK hP 6 0 rfl rfl (k := i) (by omega) (by omega) d_Tr_isAsItWas_64 ?_
            refine lv_iload_n hx hb d_Tr_isAsItWas_65 rfl (lv_at hl 3 rfl) ?_
            have hfi := hfo i
            refine kx_icmp_ne (tgt := 76) hx hb d_Tr_isAsItWas_66 (by decide) (by omega) (by omega) (fun c_66 => ?_) (fun c_66 => ?_)
            ·
              refine lv_iinc (v := (nI (i + 1))) (lv' := [(3, .int (nI (i + 1))), (4, .int (nI 0)), (0, .ref g0), (1, .int (nI f0)), (2, .ref h0)]) hx hb d_Tr_isAsItWas_76 hl (k := 1) rfl (kx_inc i 1 (by decide)) (by decide) rfl (fun ls hl => ?_)
              refine lv_goto (tgt := 20) hx hb d_Tr_isAsItWas_79 (by decide) ?_
              exact ih (i + 1) ls (by omega) (by omega) (px_fn_s hpf (fun h9 => absurd h9 c_66)) (lv_sub hl [0, 2, 3, 4] rfl)
            ·
              refine lv_iload hx hb d_Tr_isAsItWas_69 (lv_at hl 0 rfl) ?_
              refine kx_if_ne (tgt := 76) hx hb d_Tr_isAsItWas_71 (by decide) (by omega) (fun c_71 => ?_) (fun c_71 => ?_)
              ·
                exact absurd rfl c_71
              ·
                refine lv_iconst (v := (nI 0)) hx hb d_Tr_isAsItWas_74 (by decide) ?_
                refine kx_topi (show nI 0 = kx_b false from by decide) ?_
                exact hQz d_Tr_isAsItWas_75 rfl (by rw [px_as_no2 (j := i) (by omega) c_66 (fun h9 => absurd h9.1 (by omega))])
          ·
            refine lv_aload_n hx hb d_Tr_isAsItWas_36 rfl (lv_at hl 1 rfl) ?_
            refine va_get (D := D) (ci := 4) (v := .ref k2) (C := "TouchSelect$TestRow") (T := tt_Tr) (N := 11) hx hb hts (in_Tr _) hown hK hP 0 rfl rfl 8 (by decide) (hts _ (gw_in gw_164)) (fun _ h9 => h9) rfl d_Tr_isAsItWas_37 ?_
            refine lv_iload_n hx hb d_Tr_isAsItWas_40 rfl (lv_at hl 0 rfl) ?_
            refine kx_lald hx hb hK hP 2 2 rfl rfl (k := i) (by omega) (by omega) d_Tr_isAsItWas_41 ?_
            refine lv_aload_n hx hb d_Tr_isAsItWas_42 rfl (lv_at hl 3 rfl) ?_
            refine va_get (D := D) (ci := 3) (v := .ref a3) (C := "TouchSelect$Sources") (T := tt_So) (N := 6) hx hb hts (in_So _) hown hK hP 3 rfl rfl 3 (by decide) (hts _ (gw_in gw_29)) (fun _ h9 => h9) rfl d_Tr_isAsItWas_43 ?_
            refine lv_iload_n hx hb d_Tr_isAsItWas_46 rfl (lv_at hl 0 rfl) ?_
            refine kx_lald hx hb hK hP 5 2 rfl rfl (k := i) (by omega) (by omega) d_Tr_isAsItWas_47 ?_
            refine W.lcmp hx hb d_Tr_isAsItWas_48 ?_
            refine kx_ifc_ne (tgt := 56) hx hb d_Tr_isAsItWas_49 (by decide) (fun c_49 => ?_) (fun c_49 => ?_)
            ·
              refine lv_iconst (v := (nI 0)) hx hb d_Tr_isAsItWas_56 (by decide) ?_
              refine lv_istore (lv' := [(4, .int (nI 0)), (3, .int (nI i)), (0, .ref g0), (1, .int (nI f0)), (2, .ref h0)]) hx hb d_Tr_isAsItWas_57 hl (by decide) rfl (fun ls hl => ?_)
              refine lv_aload_n hx hb d_Tr_isAsItWas_59 rfl (lv_at hl 4 rfl) ?_
              refine va_get (D := D) (ci := 3) (v := .ref a4) (C := "TouchSelect$Sources") (T := tt_So) (N := 6) hx hb hts (in_So _) hown hK hP 3 rfl rfl 4 (by decide) (hts _ (gw_in gw_32)) (fun _ h9 => h9) rfl d_Tr_isAsItWas_60 ?_
              refine lv_iload_n hx hb d_Tr_isAsItWas_63 rfl (lv_at hl 1 rfl) ?_
              refine kx_iald hx hb hK hP 6 0 rfl rfl (k := i) (by omega) (by omega) d_Tr_isAsItWas_64 ?_
              refine lv_iload_n hx hb d_Tr_isAsItWas_65 rfl (lv_at hl 3 rfl) ?_
              have hfi := hfo i
              refine kx_icmp_ne (tgt := 76) hx hb d_Tr_isAsItWas_66 (by decide) (by omega) (by omega) (fun c_66 => ?_) (fun c_66 => ?_)
              ·
                refine lv_iinc (v := (nI (i + 1))) (lv' := [(3, .int (nI (i + 1))), (4, .int (nI 0)), (0, .ref g0), (1, .int (nI f0)), (2, .ref h0)]) hx hb d_Tr_isAsItWas_76 hl (k := 1) rfl (kx_inc i 1 (by decide)) (by decide) rfl (fun ls hl => ?_)
                refine lv_goto (tgt := 20) hx hb d_Tr_isAsItWas_79 (by decide) ?_
                exact ih (i + 1) ls (by omega) (by omega) (px_fn_s hpf (fun h9 => absurd h9 c_66)) (lv_sub hl [0, 2, 3, 4] rfl)
              ·
                refine lv_iload hx hb d_Tr_isAsItWas_69 (lv_at hl 0 rfl) ?_
                refine kx_if_ne (tgt := 76) hx hb d_Tr_isAsItWas_71 (by decide) (by omega) (fun c_71 => ?_) (fun c_71 => ?_)
                ·
                  exact absurd rfl c_71
                ·
                  refine lv_iconst (v := (nI 0)) hx hb d_Tr_isAsItWas_74 (by decide) ?_
                  refine kx_topi (show nI 0 = kx_b false from by decide) ?_
                  exact hQz d_Tr_isAsItWas_75 rfl (by rw [px_as_no2 (j := i) (by omega) c_66 (fun h9 => c_49 h9.2)])
            ·
              refine lv_iconst (v := (nI 1)) hx hb d_Tr_isAsItWas_52 (by decide) ?_
              refine lv_goto (tgt := 57) hx hb d_Tr_isAsItWas_53 (by decide) ?_
              refine lv_istore (lv' := [(4, .int (nI 1)), (3, .int (nI i)), (0, .ref g0), (1, .int (nI f0)), (2, .ref h0)]) hx hb d_Tr_isAsItWas_57 hl (by decide) rfl (fun ls hl => ?_)
              refine lv_aload_n hx hb d_Tr_isAsItWas_59 rfl (lv_at hl 4 rfl) ?_
              refine va_get (D := D) (ci := 3) (v := .ref a4) (C := "TouchSelect$Sources") (T := tt_So) (N := 6) hx hb hts (in_So _) hown hK hP 3 rfl rfl 4 (by decide) (hts _ (gw_in gw_32)) (fun _ h9 => h9) rfl d_Tr_isAsItWas_60 ?_
              refine lv_iload_n hx hb d_Tr_isAsItWas_63 rfl (lv_at hl 1 rfl) ?_
              refine kx_iald hx hb hK hP 6 0 rfl rfl (k := i) (by omega) (by omega) d_Tr_isAsItWas_64 ?_
              refine lv_iload_n hx hb d_Tr_isAsItWas_65 rfl (lv_at hl 3 rfl) ?_
              have hfi := hfo i
              refine kx_icmp_ne (tgt := 76) hx hb d_Tr_isAsItWas_66 (by decide) (by omega) (by omega) (fun c_66 => ?_) (fun c_66 => ?_)
              ·
                refine lv_iinc (v := (nI (i + 1))) (lv' := [(3, .int (nI (i + 1))), (4, .int (nI 1)), (0, .ref g0), (1, .int (nI f0)), (2, .ref h0)]) hx hb d_Tr_isAsItWas_76 hl (k := 1) rfl (kx_inc i 1 (by decide)) (by decide) rfl (fun ls hl => ?_)
                refine lv_goto (tgt := 20) hx hb d_Tr_isAsItWas_79 (by decide) ?_
                exact ih (i + 1) ls (by omega) (by omega) (px_fn_s hpf (fun h9 => absurd h9 c_66)) (lv_sub hl [0, 2, 3, 4] rfl)
              ·
                refine lv_iload hx hb d_Tr_isAsItWas_69 (lv_at hl 0 rfl) ?_
                refine kx_if_ne (tgt := 76) hx hb d_Tr_isAsItWas_71 (by decide) (by omega) (fun c_71 => ?_) (fun c_71 => ?_)
                ·
                  refine lv_iinc (v := (nI (i + 1))) (lv' := [(3, .int (nI (i + 1))), (4, .int (nI 1)), (0, .ref g0), (1, .int (nI f0)), (2, .ref h0)]) hx hb d_Tr_isAsItWas_76 hl (k := 1) rfl (kx_inc i 1 (by decide)) (by decide) rfl (fun ls hl => ?_)
                  refine lv_goto (tgt := 20) hx hb d_Tr_isAsItWas_79 (by decide) ?_
                  exact ih (i + 1) ls (by omega) (by omega) (px_fn_s hpf (fun _ => ⟨by omega, c_49⟩)) (lv_sub hl [0, 2, 3, 4] rfl)
                ·
                  exact absurd c_71 (by decide)
    exact L_20 (nc - 0 + 1) 0 ls (by omega) (by omega) px_fn_0 (lv_sub hl [0, 1, 2, 3] rfl)
  ·
    refine lv_iconst (v := (nI 0)) hx hb d_Tr_isAsItWas_16 (by decide) ?_
    refine kx_topi (show nI 0 = kx_b false from by decide) ?_
    exact hQz d_Tr_isAsItWas_17 rfl (by rw [px_as_no1 c_13])
def rm_Tr_reasonOfRead : Room := { frames := 1, cells := 0, slots := 0, locals := 24 }
set_option maxHeartbeats 4000000 in
set_option maxRecDepth 100000 in
/-- reasonOfRead(r0, now) -/
theorem c_Tr_reasonOfRead (l : Launch) (D : va_G) (g0 : Nat) (k1 : Nat) (k2 : Nat) (k3 : Nat) (md : Nat) (tm : Nat) (sg : Int64) (rn : Int64) (hr : Bool) (kr : Int64) (ks : Int64) (kc : Nat) (kre : Nat → Int64) (kfn : Nat → Int64) (h0 : Nat) (a1 : Nat) (a2 : Nat) (a3 : Nat) (a4 : Nat) (fc : Nat) (nc : Nat) (rs : Nat → Int64) (fn : Nat → Int64) (fo : Nat → Nat) (r0 : Nat) (hnc : nc ≤ 40) (hkc : kc ≤ 40) (hfo : ∀ j, fo j < 20) (hmd : md < 2 ^ 31) (hr0 : r0 < 60) : Met l yy_Tr_reasonOfRead ww_Tr_reasonOfRead rm_Tr_reasonOfRead (va_Pc [.ref g0, .int (nI r0), .ref h0] (kx_B (kx_K D) D vwCl [(g0, .inr (4, [.int (nI md), .int (nI tm), .long sg, .long rn, .int (kx_b hr), .long kr, .long ks, .ref k1, .ref k2, .int (nI kc), .ref k3])), (k1, .inl (D.1 102, 20, .inr (.inl kre))), (k2, .inl (D.1 102, 40, .inr (.inl kfn))), (h0, .inr (3, [.ref a1, .ref a2, .int (nI fc), .ref a3, .ref a4, .int (nI nc)])), (a1, .inl (D.1 102, 20, .inr (.inl rs))), (a3, .inl (D.1 102, 40, .inr (.inl fn))), (a4, .inl (D.1 100, 40, .inl (kx_ni fo)))])) (kx_R (some (.int (nI (px_rr md kre rs kfn fn fo kc nc r0))))) 0 0 (fun _ => False) := by
  refine kx_metR (by decide) rfl (Nat.le_of_ble_eq_true rfl) ?_
  intro p e s m args below meth c ls Q hx hb hts hown hml hP hKK hl hQi hQz hQa hQl hQv
  have hK := hKK.1
  replace hown : s.vm.findClass "TouchSelect$TestRow" = some m.cls := hown
  replace hl : lv_has ls 5 [(0, .ref g0), (1, .int (nI r0)), (2, .ref h0)] := hl
  refine lv_iload_n hx hb d_Tr_reasonOfRead_0 rfl (lv_at hl 1 rfl) ?_
  refine lv_bipush (v := (nI 20)) hx hb d_Tr_reasonOfRead_1 (by decide) ?_
  refine kx_icmp_ge (tgt := 21) hx hb d_Tr_reasonOfRead_3 (by decide) (by omega) (by omega) (fun c_3 => ?_) (fun c_3 => ?_)
  ·
    refine lv_iload_n hx hb d_Tr_reasonOfRead_21 rfl (lv_at hl 1 rfl) ?_
    refine lv_bipush (v := (nI 20)) hx hb d_Tr_reasonOfRead_22 (by decide) ?_
    refine lv_isub hx hb d_Tr_reasonOfRead_24 ?_
    refine kx_topi (pk_sub (a := r0) (b := 20) (by omega)) ?_
    refine lv_istore_n (lv' := [(3, .int (nI (r0 - 20))), (0, .ref g0), (1, .int (nI r0)), (2, .ref h0)]) hx hb d_Tr_reasonOfRead_25 rfl hl (by decide) rfl (fun ls hl => ?_)
    refine lv_aload_n hx hb d_Tr_reasonOfRead_26 rfl (lv_at hl 3 rfl) ?_
    refine va_get (D := D) (ci := 3) (v := .ref a4) (C := "TouchSelect$Sources") (T := tt_So) (N := 6) hx hb hts (in_So _) hown hK hP 3 rfl rfl 4 (by decide) (hts _ (gw_in gw_32)) (fun _ h9 => h9) rfl d_Tr_reasonOfRead_27 ?_
    refine lv_iload_n hx hb d_Tr_reasonOfRead_30 rfl (lv_at hl 0 rfl) ?_
    refine kx_iald hx hb hK hP 6 0 rfl rfl (k := (r0 - 20)) (by omega) (by omega) d_Tr_reasonOfRead_31 ?_
    refine lv_istore (lv' := [(4, .int (nI (fo (r0 - 20)))), (3, .int (nI (r0 - 20))), (0, .ref g0), (1, .int (nI r0)), (2, .ref h0)]) hx hb d_Tr_reasonOfRead_32 hl (by decide) rfl (fun ls hl => ?_)
    refine lv_aload_n hx hb d_Tr_reasonOfRead_34 rfl (lv_at hl 2 rfl) ?_
    refine va_get (D := D) (ci := 4) (v := .int (nI md)) (C := "TouchSelect$TestRow") (T := tt_Tr) (N := 11) hx hb hts (in_Tr _) hown hK hP 0 rfl rfl 0 (by decide) (hts _ (gw_in gw_153)) (fun _ h9 => h9) rfl d_Tr_reasonOfRead_35 ?_
    refine lv_iconst (v := (nI 1)) hx hb d_Tr_reasonOfRead_38 (by decide) ?_
    refine kx_icmp_eq (tgt := 58) hx hb d_Tr_reasonOfRead_39 (by decide) (by omega) (by omega) (fun c_39 => ?_) (fun c_39 => ?_)
    ·
      refine lv_aload_n hx hb d_Tr_reasonOfRead_58 rfl (lv_at hl 2 rfl) ?_
      refine va_get (D := D) (ci := 4) (v := .ref k2) (C := "TouchSelect$TestRow") (T := tt_Tr) (N := 11) hx hb hts (in_Tr _) hown hK hP 0 rfl rfl 8 (by decide) (hts _ (gw_in gw_164)) (fun _ h9 => h9) rfl d_Tr_reasonOfRead_59 ?_
      refine lv_iload_n hx hb d_Tr_reasonOfRead_62 rfl (lv_at hl 1 rfl) ?_
      refine kx_lald hx hb hK hP 2 2 rfl rfl (k := (r0 - 20)) (by omega) (by omega) d_Tr_reasonOfRead_63 ?_
      refine lv_aload_n hx hb d_Tr_reasonOfRead_64 rfl (lv_at hl 4 rfl) ?_
      refine va_get (D := D) (ci := 3) (v := .ref a3) (C := "TouchSelect$Sources") (T := tt_So) (N := 6) hx hb hts (in_So _) hown hK hP 3 rfl rfl 3 (by decide) (hts _ (gw_in gw_29)) (fun _ h9 => h9) rfl d_Tr_reasonOfRead_65 ?_
      refine lv_iload_n hx hb d_Tr_reasonOfRead_68 rfl (lv_at hl 1 rfl) ?_
      refine kx_lald hx hb hK hP 5 2 rfl rfl (k := (r0 - 20)) (by omega) (by omega) d_Tr_reasonOfRead_69 ?_
      refine W.lcmp hx hb d_Tr_reasonOfRead_70 ?_
      refine kx_ifc_eq (tgt := 76) hx hb d_Tr_reasonOfRead_71 (by decide) (fun c_71 => ?_) (fun c_71 => ?_)
      ·
        refine lv_aload_n hx hb d_Tr_reasonOfRead_76 rfl (lv_at hl 2 rfl) ?_
        refine va_get (D := D) (ci := 4) (v := .ref k1) (C := "TouchSelect$TestRow") (T := tt_Tr) (N := 11) hx hb hts (in_Tr _) hown hK hP 0 rfl rfl 7 (by decide) (hts _ (gw_in gw_163)) (fun _ h9 => h9) rfl d_Tr_reasonOfRead_77 ?_
        refine lv_iload hx hb d_Tr_reasonOfRead_80 (lv_at hl 0 rfl) ?_
        refine kx_lald hx hb hK hP 1 2 rfl rfl (k := (fo (r0 - 20))) (hfo _) (by omega) d_Tr_reasonOfRead_82 ?_
        refine lv_aload_n hx hb d_Tr_reasonOfRead_83 rfl (lv_at hl 4 rfl) ?_
        refine va_get (D := D) (ci := 3) (v := .ref a1) (C := "TouchSelect$Sources") (T := tt_So) (N := 6) hx hb hts (in_So _) hown hK hP 3 rfl rfl 0 (by decide) (hts _ (gw_in gw_24)) (fun _ h9 => h9) rfl d_Tr_reasonOfRead_84 ?_
        refine lv_iload hx hb d_Tr_reasonOfRead_87 (lv_at hl 0 rfl) ?_
        refine kx_lald hx hb hK hP 4 2 rfl rfl (k := (fo (r0 - 20))) (hfo _) (by omega) d_Tr_reasonOfRead_89 ?_
        refine W.lcmp hx hb d_Tr_reasonOfRead_90 ?_
        refine kx_ifc_eq (tgt := 99) hx hb d_Tr_reasonOfRead_91 (by decide) (fun c_91 => ?_) (fun c_91 => ?_)
        ·
          refine lv_iconst (v := (nI 0)) hx hb d_Tr_reasonOfRead_99 (by decide) ?_
          exact hQi d_Tr_reasonOfRead_100 rfl (by unfold px_rr; rw [if_neg (show ¬ r0 < 20 by omega), if_neg (show ¬ (md ≠ 1) from fun h9 => h9 c_39), if_neg (show ¬ (kfn (r0 - 20) ≠ fn (r0 - 20)) from fun h9 => h9 c_71), if_neg (show ¬ (kre (fo (r0 - 20)) ≠ rs (fo (r0 - 20))) from fun h9 => h9 c_91)])
        ·
          refine lv_bipush (v := (nI 6)) hx hb d_Tr_reasonOfRead_94 (by decide) ?_
          refine lv_goto (tgt := 100) hx hb d_Tr_reasonOfRead_96 (by decide) ?_
          exact hQi d_Tr_reasonOfRead_100 rfl (by unfold px_rr; rw [if_neg (show ¬ r0 < 20 by omega), if_neg (show ¬ (md ≠ 1) from fun h9 => h9 c_39), if_neg (show ¬ (kfn (r0 - 20) ≠ fn (r0 - 20)) from fun h9 => h9 c_71), if_pos c_91])
      ·
        refine lv_iconst (v := (nI 5)) hx hb d_Tr_reasonOfRead_74 (by decide) ?_
        exact hQi d_Tr_reasonOfRead_75 rfl (by unfold px_rr; rw [if_neg (show ¬ r0 < 20 by omega), if_neg (show ¬ (md ≠ 1) from fun h9 => h9 c_39), if_pos c_71])
    ·
      refine lv_aload_n hx hb d_Tr_reasonOfRead_42 rfl (lv_at hl 2 rfl) ?_
      refine lv_iload hx hb d_Tr_reasonOfRead_43 (lv_at hl 0 rfl) ?_
      refine lv_aload_n hx hb d_Tr_reasonOfRead_45 rfl (lv_at hl 4 rfl) ?_
      refine kx_callR (va_runV (As := [.int (nI (fo (r0 - 20))), .ref h0]) (rest := []) ⟨hx, hb, hml, hown, hts⟩ (c_Tr_isAsItWas l D g0 k1 k2 k3 md tm sg rn hr kr ks kc kre kfn h0 a1 a2 a3 a4 fc nc rs fn fo (fo (r0 - 20)) (by omega) (by omega) hfo (hfo _)) (gw_V 2 hts gw_250 gw_251 gw_485 gw_7 gw_252 rfl rfl (by decide +kernel) ⟨Nat.le_of_ble_eq_true rfl, Nat.le_of_ble_eq_true rfl⟩) (kx_preV (kx_ok D) hKK hK (hP.sub (ws' := [(g0, .inr (4, [.int (nI md), .int (nI tm), .long sg, .long rn, .int (kx_b hr), .long kr, .long ks, .ref k1, .ref k2, .int (nI kc), .ref k3])), (k1, .inl (D.1 102, 20, .inr (.inl kre))), (k2, .inl (D.1 102, 40, .inr (.inl kfn))), (h0, .inr (3, [.ref a1, .ref a2, .int (nI fc), .ref a3, .ref a4, .int (nI nc)])), (a1, .inl (D.1 102, 20, .inr (.inl rs))), (a3, .inl (D.1 102, 40, .inr (.inl fn))), (a4, .inl (D.1 100, 40, .inl (kx_ni fo)))]) [0, 1, 2, 3, 4, 5, 6] rfl) 4 0 rfl rfl) rfl rfl hl.1 rfl (lv_room (Nat.le_of_ble_eq_true rfl)) d_Tr_reasonOfRead_46 ⟨Nat.le_of_ble_eq_true rfl, Nat.le_of_ble_eq_true rfl⟩) ?_
      refine W.eq (g2 := F0 m 49 ls [.int (kx_b (px_as kre rs kfn fn fo kc nc (fo (r0 - 20))))]) rfl ?_
      refine kx_ifb_eq (tgt := 56) hx hb d_Tr_reasonOfRead_49 (by decide) (fun c_49 => ?_) (fun c_49 => ?_)
      ·
        refine lv_iconst (v := (nI 4)) hx hb d_Tr_reasonOfRead_56 (by decide) ?_
        exact hQi d_Tr_reasonOfRead_57 rfl (by unfold px_rr; rw [if_neg (show ¬ r0 < 20 by omega), if_pos c_39, if_neg (show ¬ (px_as kre rs kfn fn fo kc nc (fo (r0 - 20)) = true) by rw [c_49]; decide)])
      ·
        refine lv_iconst (v := (nI 0)) hx hb d_Tr_reasonOfRead_52 (by decide) ?_
        refine lv_goto (tgt := 57) hx hb d_Tr_reasonOfRead_53 (by decide) ?_
        exact hQi d_Tr_reasonOfRead_57 rfl (by unfold px_rr; rw [if_neg (show ¬ r0 < 20 by omega), if_pos c_39, if_pos c_49])
  ·
    refine lv_aload_n hx hb d_Tr_reasonOfRead_6 rfl (lv_at hl 0 rfl) ?_
    refine lv_iload_n hx hb d_Tr_reasonOfRead_7 rfl (lv_at hl 1 rfl) ?_
    refine lv_aload_n hx hb d_Tr_reasonOfRead_8 rfl (lv_at hl 2 rfl) ?_
    refine kx_callR (va_runV (As := [.int (nI r0), .ref h0]) (rest := []) ⟨hx, hb, hml, hown, hts⟩ (c_Tr_isAsItWas l D g0 k1 k2 k3 md tm sg rn hr kr ks kc kre kfn h0 a1 a2 a3 a4 fc nc rs fn fo r0 (by omega) (by omega) hfo (by omega)) (gw_V 2 hts gw_250 gw_251 gw_485 gw_7 gw_252 rfl rfl (by decide +kernel) ⟨Nat.le_of_ble_eq_true rfl, Nat.le_of_ble_eq_true rfl⟩) (kx_preV (kx_ok D) hKK hK (hP.sub (ws' := [(g0, .inr (4, [.int (nI md), .int (nI tm), .long sg, .long rn, .int (kx_b hr), .long kr, .long ks, .ref k1, .ref k2, .int (nI kc), .ref k3])), (k1, .inl (D.1 102, 20, .inr (.inl kre))), (k2, .inl (D.1 102, 40, .inr (.inl kfn))), (h0, .inr (3, [.ref a1, .ref a2, .int (nI fc), .ref a3, .ref a4, .int (nI nc)])), (a1, .inl (D.1 102, 20, .inr (.inl rs))), (a3, .inl (D.1 102, 40, .inr (.inl fn))), (a4, .inl (D.1 100, 40, .inl (kx_ni fo)))]) [0, 1, 2, 3, 4, 5, 6] rfl) 4 0 rfl rfl) rfl rfl hl.1 rfl (lv_room (Nat.le_of_ble_eq_true rfl)) d_Tr_reasonOfRead_9 ⟨Nat.le_of_ble_eq_true rfl, Nat.le_of_ble_eq_true rfl⟩) ?_
    refine W.eq (g2 := F0 m 12 ls [.int (kx_b (px_as kre rs kfn fn fo kc nc r0))]) rfl ?_
    refine kx_ifb_eq (tgt := 19) hx hb d_Tr_reasonOfRead_12 (by decide) (fun c_12 => ?_) (fun c_12 => ?_)
    ·
      refine lv_iconst (v := (nI 4)) hx hb d_Tr_reasonOfRead_19 (by decide) ?_
      exact hQi d_Tr_reasonOfRead_20 rfl (by unfold px_rr; rw [if_pos c_3, if_neg (show ¬ (px_as kre rs kfn fn fo kc nc r0 = true) by rw [c_12]; decide)])
    ·
      refine lv_iconst (v := (nI 0)) hx hb d_Tr_reasonOfRead_15 (by decide) ?_
      refine lv_goto (tgt := 20) hx hb d_Tr_reasonOfRead_16 (by decide) ?_
      exact hQi d_Tr_reasonOfRead_20 rfl (by unfold px_rr; rw [if_pos c_3, if_pos c_12])
def rm_Tr_firstReason : Room := { frames := 2, cells := 0, slots := 0, locals := 48 }
set_option maxHeartbeats 4000000 in
set_option maxRecDepth 100000 in
/-- firstReasonOfReads(now) -/
theorem c_Tr_firstReason (l : Launch) (D : va_G) (g0 : Nat) (k1 : Nat) (k2 : Nat) (k3 : Nat) (md : Nat) (tm : Nat) (sg : Int64) (rn : Int64) (hr : Bool) (kr : Int64) (ks : Int64) (kc : Nat) (kre : Nat → Int64) (kfn : Nat → Int64) (h0 : Nat) (a1 : Nat) (a2 : Nat) (a3 : Nat) (a4 : Nat) (fc : Nat) (nc : Nat) (rs : Nat → Int64) (fn : Nat → Int64) (fo : Nat → Nat) (hnc : nc ≤ 40) (hkc : kc ≤ 40) (hfo : ∀ j, fo j < 20) (hmd : md < 2 ^ 31) : Met l yy_Tr_firstReasonOfReads ww_Tr_firstReasonOfReads rm_Tr_firstReason (va_Pc [.ref g0, .ref h0] (kx_B (kx_K D) D vwCl [(g0, .inr (4, [.int (nI md), .int (nI tm), .long sg, .long rn, .int (kx_b hr), .long kr, .long ks, .ref k1, .ref k2, .int (nI kc), .ref k3])), (k1, .inl (D.1 102, 20, .inr (.inl kre))), (k2, .inl (D.1 102, 40, .inr (.inl kfn))), (h0, .inr (3, [.ref a1, .ref a2, .int (nI fc), .ref a3, .ref a4, .int (nI nc)])), (a1, .inl (D.1 102, 20, .inr (.inl rs))), (a3, .inl (D.1 102, 40, .inr (.inl fn))), (a4, .inl (D.1 100, 40, .inl (kx_ni fo)))])) (kx_R (some (.int (nI (px_fr (px_bit kr) (px_rr md kre rs kfn fn fo kc nc) 60))))) 0 0 (fun _ => False) := by
  refine kx_metR (by decide) rfl (Nat.le_of_ble_eq_true rfl) ?_
  intro p e s m args below meth c ls Q hx hb hts hown hml hP hKK hl hQi hQz hQa hQl hQv
  have hK := hKK.1
  replace hown : s.vm.findClass "TouchSelect$TestRow" = some m.cls := hown
  replace hl : lv_has ls 5 [(0, .ref g0), (1, .ref h0)] := hl
  refine lv_iconst (v := (nI 0)) hx hb d_Tr_firstReasonOfReads_0 (by decide) ?_
  refine lv_istore_n (lv' := [(2, .int (nI 0)), (0, .ref g0), (1, .ref h0)]) hx hb d_Tr_firstReasonOfReads_1 rfl hl (by decide) rfl (fun ls hl => ?_)
  refine lv_iconst (v := (nI 0)) hx hb d_Tr_firstReasonOfReads_2 (by decide) ?_
  refine lv_istore_n (lv' := [(3, .int (nI 0)), (2, .int (nI 0)), (0, .ref g0), (1, .ref h0)]) hx hb d_Tr_firstReasonOfReads_3 rfl hl (by decide) rfl (fun ls hl => ?_)
  have L_4 : ∀ (nn : Nat) (i : Nat) (ls : Array Slot), 60 - i < nn → (i ≤ 60) → lv_has ls 5 [(3, .int (nI i)), (2, .int (nI (px_fr (px_bit kr) (px_rr md kre rs kfn fn fo kc nc) i))), (0, .ref g0), (1, .ref h0)] → W p l e rm_Tr_firstReason s m args below meth c s.heap [] 0 0 Q (F0 m 4 ls []) := by
    intro nn
    induction nn with
    | zero => intros; omega
    | succ nn ih =>
      intro i ls hmm hi hl
      refine lv_iload_n hx hb d_Tr_firstReasonOfReads_4 rfl (lv_at hl 0 rfl) ?_
      refine lv_bipush (v := (nI 60)) hx hb d_Tr_firstReasonOfReads_5 (by decide) ?_
      refine kx_icmp_ge (tgt := 54) hx hb d_Tr_firstReasonOfReads_7 (by decide) (by omega) (by omega) (fun c_7 => ?_) (fun c_7 => ?_)
      ·
        obtain rfl : i = 60 := by omega
        refine lv_iload_n hx hb d_Tr_firstReasonOfReads_54 rfl (lv_at hl 1 rfl) ?_
        exact hQi d_Tr_firstReasonOfReads_55 rfl (rfl)
      ·
        have hb1 : px_rr md kre rs kfn fn fo kc nc i < 7 := px_rr_lt
        have hb2 : px_fr (px_bit kr) (px_rr md kre rs kfn fn fo kc nc) i < 7 := px_fr_lt (fun r => px_rr_lt) i
        refine lv_aload_n hx hb d_Tr_firstReasonOfReads_10 rfl (lv_at hl 2 rfl) ?_
        refine lv_iload_n hx hb d_Tr_firstReasonOfReads_11 rfl (lv_at hl 0 rfl) ?_
        refine kx_callR (va_runV (As := [.int (nI i)]) (rest := []) ⟨hx, hb, hml, hown, hts⟩ (c_Tr_hasKept l D g0 k1 k2 k3 md tm sg rn hr kr ks kc i (by omega)) (gw_V 1 hts gw_244 gw_245 gw_483 gw_7 gw_246 rfl rfl (by decide +kernel) ⟨Nat.le_of_ble_eq_true rfl, Nat.le_of_ble_eq_true rfl⟩) (kx_preV (kx_ok D) hKK hK (hP.sub (ws' := [(g0, .inr (4, [.int (nI md), .int (nI tm), .long sg, .long rn, .int (kx_b hr), .long kr, .long ks, .ref k1, .ref k2, .int (nI kc), .ref k3]))]) [0] rfl) 4 0 rfl rfl) rfl rfl hl.1 rfl (lv_room (Nat.le_of_ble_eq_true rfl)) d_Tr_firstReasonOfReads_12 ⟨Nat.le_of_ble_eq_true rfl, Nat.le_of_ble_eq_true rfl⟩) ?_
        refine W.eq (g2 := F0 m 15 ls [.int (kx_b (px_bit kr i))]) rfl ?_
        refine kx_ifb_eq (tgt := 27) hx hb d_Tr_firstReasonOfReads_15 (by decide) (fun c_15 => ?_) (fun c_15 => ?_)
        ·
          refine lv_iconst (v := (nI 0)) hx hb d_Tr_firstReasonOfReads_27 (by decide) ?_
          refine lv_istore (lv' := [(4, .int (nI 0)), (3, .int (nI i)), (2, .int (nI (px_fr (px_bit kr) (px_rr md kre rs kfn fn fo kc nc) i))), (0, .ref g0), (1, .ref h0)]) hx hb d_Tr_firstReasonOfReads_28 hl (by decide) rfl (fun ls hl => ?_)
          refine lv_iload hx hb d_Tr_firstReasonOfReads_30 (lv_at hl 0 rfl) ?_
          refine kx_if_eq (tgt := 48) hx hb d_Tr_firstReasonOfReads_32 (by decide) (by omega) (fun c_32 => ?_) (fun c_32 => ?_)
          ·
            refine lv_iinc (v := (nI (i + 1))) (lv' := [(3, .int (nI (i + 1))), (4, .int (nI 0)), (2, .int (nI (px_fr (px_bit kr) (px_rr md kre rs kfn fn fo kc nc) i))), (0, .ref g0), (1, .ref h0)]) hx hb d_Tr_firstReasonOfReads_48 hl (k := 1) rfl (kx_inc i 1 (by decide)) (by decide) rfl (fun ls hl => ?_)
            refine lv_goto (tgt := 4) hx hb d_Tr_firstReasonOfReads_51 (by decide) ?_
            rw [← px_fr_z (Or.inl c_15)] at hl
            exact ih (i + 1) ls (by omega) (by omega) (lv_sub hl [0, 2, 3, 4] rfl)
          ·
            exact absurd rfl c_32
        ·
          refine lv_aload_n hx hb d_Tr_firstReasonOfReads_18 rfl (lv_at hl 2 rfl) ?_
          refine lv_iload_n hx hb d_Tr_firstReasonOfReads_19 rfl (lv_at hl 0 rfl) ?_
          refine lv_aload_n hx hb d_Tr_firstReasonOfReads_20 rfl (lv_at hl 3 rfl) ?_
          refine kx_callR (va_runV (As := [.int (nI i), .ref h0]) (rest := []) ⟨hx, hb, hml, hown, hts⟩ (c_Tr_reasonOfRead l D g0 k1 k2 k3 md tm sg rn hr kr ks kc kre kfn h0 a1 a2 a3 a4 fc nc rs fn fo i (by omega) (by omega) hfo hmd (by omega)) (gw_V 2 hts gw_247 gw_248 gw_484 gw_7 gw_249 rfl rfl (by decide +kernel) ⟨Nat.le_of_ble_eq_true rfl, Nat.le_of_ble_eq_true rfl⟩) (kx_preV (kx_ok D) hKK hK (hP.sub (ws' := [(g0, .inr (4, [.int (nI md), .int (nI tm), .long sg, .long rn, .int (kx_b hr), .long kr, .long ks, .ref k1, .ref k2, .int (nI kc), .ref k3])), (k1, .inl (D.1 102, 20, .inr (.inl kre))), (k2, .inl (D.1 102, 40, .inr (.inl kfn))), (h0, .inr (3, [.ref a1, .ref a2, .int (nI fc), .ref a3, .ref a4, .int (nI nc)])), (a1, .inl (D.1 102, 20, .inr (.inl rs))), (a3, .inl (D.1 102, 40, .inr (.inl fn))), (a4, .inl (D.1 100, 40, .inl (kx_ni fo)))]) [0, 1, 2, 3, 4, 5, 6] rfl) 4 0 rfl rfl) rfl rfl hl.1 rfl (lv_room (Nat.le_of_ble_eq_true rfl)) d_Tr_firstReasonOfReads_21 ⟨Nat.le_of_ble_eq_true rfl, Nat.le_of_ble_eq_true rfl⟩) ?_
          refine W.eq (g2 := F0 m 24 ls [.int (nI (px_rr md kre rs kfn fn fo kc nc i))]) rfl ?_
          refine lv_goto (tgt := 28) hx hb d_Tr_firstReasonOfReads_24 (by decide) ?_
          refine lv_istore (lv' := [(4, .int (nI (px_rr md kre rs kfn fn fo kc nc i))), (3, .int (nI i)), (2, .int (nI (px_fr (px_bit kr) (px_rr md kre rs kfn fn fo kc nc) i))), (0, .ref g0), (1, .ref h0)]) hx hb d_Tr_firstReasonOfReads_28 hl (by decide) rfl (fun ls hl => ?_)
          refine lv_iload hx hb d_Tr_firstReasonOfReads_30 (lv_at hl 0 rfl) ?_
          refine kx_if_eq (tgt := 48) hx hb d_Tr_firstReasonOfReads_32 (by decide) (by omega) (fun c_32 => ?_) (fun c_32 => ?_)
          ·
            refine lv_iinc (v := (nI (i + 1))) (lv' := [(3, .int (nI (i + 1))), (4, .int (nI (px_rr md kre rs kfn fn fo kc nc i))), (2, .int (nI (px_fr (px_bit kr) (px_rr md kre rs kfn fn fo kc nc) i))), (0, .ref g0), (1, .ref h0)]) hx hb d_Tr_firstReasonOfReads_48 hl (k := 1) rfl (kx_inc i 1 (by decide)) (by decide) rfl (fun ls hl => ?_)
            refine lv_goto (tgt := 4) hx hb d_Tr_firstReasonOfReads_51 (by decide) ?_
            rw [← px_fr_z (Or.inr c_32)] at hl
            exact ih (i + 1) ls (by omega) (by omega) (lv_sub hl [0, 2, 3, 4] rfl)
          ·
            refine lv_iload_n hx hb d_Tr_firstReasonOfReads_35 rfl (lv_at hl 2 rfl) ?_
            refine kx_if_eq (tgt := 45) hx hb d_Tr_firstReasonOfReads_36 (by decide) (by omega) (fun c_36 => ?_) (fun c_36 => ?_)
            ·
              refine lv_iload hx hb d_Tr_firstReasonOfReads_45 (lv_at hl 0 rfl) ?_
              refine lv_istore_n (lv' := [(2, .int (nI (px_rr md kre rs kfn fn fo kc nc i))), (4, .int (nI (px_rr md kre rs kfn fn fo kc nc i))), (3, .int (nI i)), (0, .ref g0), (1, .ref h0)]) hx hb d_Tr_firstReasonOfReads_47 rfl hl (by decide) rfl (fun ls hl => ?_)
              refine lv_iinc (v := (nI (i + 1))) (lv' := [(3, .int (nI (i + 1))), (2, .int (nI (px_rr md kre rs kfn fn fo kc nc i))), (4, .int (nI (px_rr md kre rs kfn fn fo kc nc i))), (0, .ref g0), (1, .ref h0)]) hx hb d_Tr_firstReasonOfReads_48 hl (k := 2) rfl (kx_inc i 1 (by decide)) (by decide) rfl (fun ls hl => ?_)
              refine lv_goto (tgt := 4) hx hb d_Tr_firstReasonOfReads_51 (by decide) ?_
              rw [← px_fr_y c_15 c_32 (Or.inl c_36)] at hl
              exact ih (i + 1) ls (by omega) (by omega) (lv_sub hl [0, 1, 3, 4] rfl)
            ·
              refine lv_iload hx hb d_Tr_firstReasonOfReads_39 (lv_at hl 0 rfl) ?_
              refine lv_iload_n hx hb d_Tr_firstReasonOfReads_41 rfl (lv_at hl 2 rfl) ?_
              refine kx_icmp_ge (tgt := 48) hx hb d_Tr_firstReasonOfReads_42 (by decide) (by omega) (by omega) (fun c_42 => ?_) (fun c_42 => ?_)
              ·
                refine lv_iinc (v := (nI (i + 1))) (lv' := [(3, .int (nI (i + 1))), (4, .int (nI (px_rr md kre rs kfn fn fo kc nc i))), (2, .int (nI (px_fr (px_bit kr) (px_rr md kre rs kfn fn fo kc nc) i))), (0, .ref g0), (1, .ref h0)]) hx hb d_Tr_firstReasonOfReads_48 hl (k := 1) rfl (kx_inc i 1 (by decide)) (by decide) rfl (fun ls hl => ?_)
                refine lv_goto (tgt := 4) hx hb d_Tr_firstReasonOfReads_51 (by decide) ?_
                rw [← px_fr_n c_36 c_42] at hl
                exact ih (i + 1) ls (by omega) (by omega) (lv_sub hl [0, 2, 3, 4] rfl)
              ·
                refine lv_iload hx hb d_Tr_firstReasonOfReads_45 (lv_at hl 0 rfl) ?_
                refine lv_istore_n (lv' := [(2, .int (nI (px_rr md kre rs kfn fn fo kc nc i))), (4, .int (nI (px_rr md kre rs kfn fn fo kc nc i))), (3, .int (nI i)), (0, .ref g0), (1, .ref h0)]) hx hb d_Tr_firstReasonOfReads_47 rfl hl (by decide) rfl (fun ls hl => ?_)
                refine lv_iinc (v := (nI (i + 1))) (lv' := [(3, .int (nI (i + 1))), (2, .int (nI (px_rr md kre rs kfn fn fo kc nc i))), (4, .int (nI (px_rr md kre rs kfn fn fo kc nc i))), (0, .ref g0), (1, .ref h0)]) hx hb d_Tr_firstReasonOfReads_48 hl (k := 2) rfl (kx_inc i 1 (by decide)) (by decide) rfl (fun ls hl => ?_)
                refine lv_goto (tgt := 4) hx hb d_Tr_firstReasonOfReads_51 (by decide) ?_
                rw [← px_fr_y c_15 c_32 (Or.inr c_42)] at hl
                exact ih (i + 1) ls (by omega) (by omega) (lv_sub hl [0, 1, 3, 4] rfl)
  exact L_4 (60 - 0 + 1) 0 ls (by omega) (by omega) (lv_sub hl [0, 1, 2, 3] rfl)
def rm_Tr_countHarmless : Room := { frames := 2, cells := 0, slots := 0, locals := 48 }
set_option maxHeartbeats 4000000 in
set_option maxRecDepth 100000 in
/-- countHarmless(now) -/
theorem c_Tr_countHarmless (l : Launch) (D : va_G) (g0 : Nat) (k1 : Nat) (k2 : Nat) (k3 : Nat) (md : Nat) (tm : Nat) (sg : Int64) (rn : Int64) (hr : Bool) (kr : Int64) (ks : Int64) (kc : Nat) (kre : Nat → Int64) (kfn : Nat → Int64) (h0 : Nat) (a1 : Nat) (a2 : Nat) (a3 : Nat) (a4 : Nat) (fc : Nat) (nc : Nat) (rs : Nat → Int64) (fn : Nat → Int64) (fo : Nat → Nat) (hnc : nc ≤ 40) (hkc : kc ≤ 40) (hfo : ∀ j, fo j < 20) (hmd : md < 2 ^ 31) : Met l yy_Tr_countHarmless ww_Tr_countHarmless rm_Tr_countHarmless (va_Pc [.ref g0, .ref h0] (kx_B (kx_K D) D vwCl [(g0, .inr (4, [.int (nI md), .int (nI tm), .long sg, .long rn, .int (kx_b hr), .long kr, .long ks, .ref k1, .ref k2, .int (nI kc), .ref k3])), (k1, .inl (D.1 102, 20, .inr (.inl kre))), (k2, .inl (D.1 102, 40, .inr (.inl kfn))), (h0, .inr (3, [.ref a1, .ref a2, .int (nI fc), .ref a3, .ref a4, .int (nI nc)])), (a1, .inl (D.1 102, 20, .inr (.inl rs))), (a3, .inl (D.1 102, 40, .inr (.inl fn))), (a4, .inl (D.1 100, 40, .inl (kx_ni fo)))])) (kx_R (some (.int (nI (px_ch (px_bit kr) (px_rr md kre rs kfn fn fo kc nc) 60))))) 0 0 (fun _ => False) := by
  refine kx_metR (by decide) rfl (Nat.le_of_ble_eq_true rfl) ?_
  intro p e s m args below meth c ls Q hx hb hts hown hml hP hKK hl hQi hQz hQa hQl hQv
  have hK := hKK.1
  replace hown : s.vm.findClass "TouchSelect$TestRow" = some m.cls := hown
  replace hl : lv_has ls 4 [(0, .ref g0), (1, .ref h0)] := hl
  refine lv_iconst (v := (nI 0)) hx hb d_Tr_countHarmless_0 (by decide) ?_
  refine lv_istore_n (lv' := [(2, .int (nI 0)), (0, .ref g0), (1, .ref h0)]) hx hb d_Tr_countHarmless_1 rfl hl (by decide) rfl (fun ls hl => ?_)
  refine lv_iconst (v := (nI 0)) hx hb d_Tr_countHarmless_2 (by decide) ?_
  refine lv_istore_n (lv' := [(3, .int (nI 0)), (2, .int (nI 0)), (0, .ref g0), (1, .ref h0)]) hx hb d_Tr_countHarmless_3 rfl hl (by decide) rfl (fun ls hl => ?_)
  have L_4 : ∀ (nn : Nat) (i : Nat) (ls : Array Slot), 60 - i < nn → (i ≤ 60) → lv_has ls 4 [(3, .int (nI i)), (2, .int (nI (px_ch (px_bit kr) (px_rr md kre rs kfn fn fo kc nc) i))), (0, .ref g0), (1, .ref h0)] → W p l e rm_Tr_countHarmless s m args below meth c s.heap [] 0 0 Q (F0 m 4 ls []) := by
    intro nn
    induction nn with
    | zero => intros; omega
    | succ nn ih =>
      intro i ls hmm hi hl
      refine lv_iload_n hx hb d_Tr_countHarmless_4 rfl (lv_at hl 0 rfl) ?_
      refine lv_bipush (v := (nI 60)) hx hb d_Tr_countHarmless_5 (by decide) ?_
      refine kx_icmp_ge (tgt := 36) hx hb d_Tr_countHarmless_7 (by decide) (by omega) (by omega) (fun c_7 => ?_) (fun c_7 => ?_)
      ·
        obtain rfl : i = 60 := by omega
        refine lv_iload_n hx hb d_Tr_countHarmless_36 rfl (lv_at hl 1 rfl) ?_
        exact hQi d_Tr_countHarmless_37 rfl (rfl)
      ·
        have hb1 : px_rr md kre rs kfn fn fo kc nc i < 7 := px_rr_lt
        refine lv_aload_n hx hb d_Tr_countHarmless_10 rfl (lv_at hl 2 rfl) ?_
        refine lv_iload_n hx hb d_Tr_countHarmless_11 rfl (lv_at hl 0 rfl) ?_
        refine kx_callR (va_runV (As := [.int (nI i)]) (rest := []) ⟨hx, hb, hml, hown, hts⟩ (c_Tr_hasKept l D g0 k1 k2 k3 md tm sg rn hr kr ks kc i (by omega)) (gw_V 1 hts gw_244 gw_245 gw_483 gw_7 gw_246 rfl rfl (by decide +kernel) ⟨Nat.le_of_ble_eq_true rfl, Nat.le_of_ble_eq_true rfl⟩) (kx_preV (kx_ok D) hKK hK (hP.sub (ws' := [(g0, .inr (4, [.int (nI md), .int (nI tm), .long sg, .long rn, .int (kx_b hr), .long kr, .long ks, .ref k1, .ref k2, .int (nI kc), .ref k3]))]) [0] rfl) 4 0 rfl rfl) rfl rfl hl.1 rfl (lv_room (Nat.le_of_ble_eq_true rfl)) d_Tr_countHarmless_12 ⟨Nat.le_of_ble_eq_true rfl, Nat.le_of_ble_eq_true rfl⟩) ?_
        refine W.eq (g2 := F0 m 15 ls [.int (kx_b (px_bit kr i))]) rfl ?_
        refine kx_ifb_eq (tgt := 30) hx hb d_Tr_countHarmless_15 (by decide) (fun c_15 => ?_) (fun c_15 => ?_)
        ·
          refine lv_iinc (v := (nI (i + 1))) (lv' := [(3, .int (nI (i + 1))), (2, .int (nI (px_ch (px_bit kr) (px_rr md kre rs kfn fn fo kc nc) i))), (0, .ref g0), (1, .ref h0)]) hx hb d_Tr_countHarmless_30 hl (k := 0) rfl (kx_inc i 1 (by decide)) (by decide) rfl (fun ls hl => ?_)
          refine lv_goto (tgt := 4) hx hb d_Tr_countHarmless_33 (by decide) ?_
          rw [← px_ch_a c_15] at hl
          exact ih (i + 1) ls (by omega) (by omega) (lv_sub hl [0, 1, 2, 3] rfl)
        ·
          refine lv_aload_n hx hb d_Tr_countHarmless_18 rfl (lv_at hl 2 rfl) ?_
          refine lv_iload_n hx hb d_Tr_countHarmless_19 rfl (lv_at hl 0 rfl) ?_
          refine lv_aload_n hx hb d_Tr_countHarmless_20 rfl (lv_at hl 3 rfl) ?_
          refine kx_callR (va_runV (As := [.int (nI i), .ref h0]) (rest := []) ⟨hx, hb, hml, hown, hts⟩ (c_Tr_reasonOfRead l D g0 k1 k2 k3 md tm sg rn hr kr ks kc kre kfn h0 a1 a2 a3 a4 fc nc rs fn fo i (by omega) (by omega) hfo hmd (by omega)) (gw_V 2 hts gw_247 gw_248 gw_484 gw_7 gw_249 rfl rfl (by decide +kernel) ⟨Nat.le_of_ble_eq_true rfl, Nat.le_of_ble_eq_true rfl⟩) (kx_preV (kx_ok D) hKK hK (hP.sub (ws' := [(g0, .inr (4, [.int (nI md), .int (nI tm), .long sg, .long rn, .int (kx_b hr), .long kr, .long ks, .ref k1, .ref k2, .int (nI kc), .ref k3])), (k1, .inl (D.1 102, 20, .inr (.inl kre))), (k2, .inl (D.1 102, 40, .inr (.inl kfn))), (h0, .inr (3, [.ref a1, .ref a2, .int (nI fc), .ref a3, .ref a4, .int (nI nc)])), (a1, .inl (D.1 102, 20, .inr (.inl rs))), (a3, .inl (D.1 102, 40, .inr (.inl fn))), (a4, .inl (D.1 100, 40, .inl (kx_ni fo)))]) [0, 1, 2, 3, 4, 5, 6] rfl) 4 0 rfl rfl) rfl rfl hl.1 rfl (lv_room (Nat.le_of_ble_eq_true rfl)) d_Tr_countHarmless_21 ⟨Nat.le_of_ble_eq_true rfl, Nat.le_of_ble_eq_true rfl⟩) ?_
          refine W.eq (g2 := F0 m 24 ls [.int (nI (px_rr md kre rs kfn fn fo kc nc i))]) rfl ?_
          refine kx_if_ne (tgt := 30) hx hb d_Tr_countHarmless_24 (by decide) (by omega) (fun c_24 => ?_) (fun c_24 => ?_)
          ·
            refine lv_iinc (v := (nI (i + 1))) (lv' := [(3, .int (nI (i + 1))), (2, .int (nI (px_ch (px_bit kr) (px_rr md kre rs kfn fn fo kc nc) i))), (0, .ref g0), (1, .ref h0)]) hx hb d_Tr_countHarmless_30 hl (k := 0) rfl (kx_inc i 1 (by decide)) (by decide) rfl (fun ls hl => ?_)
            refine lv_goto (tgt := 4) hx hb d_Tr_countHarmless_33 (by decide) ?_
            rw [← px_ch_b c_24] at hl
            exact ih (i + 1) ls (by omega) (by omega) (lv_sub hl [0, 1, 2, 3] rfl)
          ·
            refine lv_iinc (v := (nI ((px_ch (px_bit kr) (px_rr md kre rs kfn fn fo kc nc) i) + 1))) (lv' := [(2, .int (nI ((px_ch (px_bit kr) (px_rr md kre rs kfn fn fo kc nc) i) + 1))), (3, .int (nI i)), (0, .ref g0), (1, .ref h0)]) hx hb d_Tr_countHarmless_27 hl (k := 1) rfl (kx_inc (px_ch (px_bit kr) (px_rr md kre rs kfn fn fo kc nc) i) 1 (by decide)) (by decide) rfl (fun ls hl => ?_)
            refine lv_iinc (v := (nI (i + 1))) (lv' := [(3, .int (nI (i + 1))), (2, .int (nI ((px_ch (px_bit kr) (px_rr md kre rs kfn fn fo kc nc) i) + 1))), (0, .ref g0), (1, .ref h0)]) hx hb d_Tr_countHarmless_30 hl (k := 1) rfl (kx_inc i 1 (by decide)) (by decide) rfl (fun ls hl => ?_)
            refine lv_goto (tgt := 4) hx hb d_Tr_countHarmless_33 (by decide) ?_
            rw [← px_ch_y c_15 c_24] at hl
            exact ih (i + 1) ls (by omega) (by omega) (lv_sub hl [0, 1, 2, 3] rfl)
  exact L_4 (60 - 0 + 1) 0 ls (by omega) (by omega) (lv_sub hl [0, 1, 2, 3] rfl)
def rm_Tr_reasonNow : Room := { frames := 3, cells := 0, slots := 0, locals := 72 }
set_option maxHeartbeats 4000000 in
set_option maxRecDepth 100000 in
/-- reasonNow(now) -/
theorem c_Tr_reasonNow (l : Launch) (D : va_G) (g0 : Nat) (k1 : Nat) (k2 : Nat) (k3 : Nat) (md : Nat) (tm : Nat) (sg : Int64) (rn : Int64) (hr : Bool) (kr : Int64) (ks : Int64) (kc : Nat) (kre : Nat → Int64) (kfn : Nat → Int64) (h0 : Nat) (a1 : Nat) (a2 : Nat) (a3 : Nat) (a4 : Nat) (fc : Nat) (nc : Nat) (rs : Nat → Int64) (fn : Nat → Int64) (fo : Nat → Nat) (hnc : nc ≤ 40) (hkc : kc ≤ 40) (hfo : ∀ j, fo j < 20) (hmd : md < 2 ^ 31) : Met l yy_Tr_reasonNow ww_Tr_reasonNow rm_Tr_reasonNow (va_Pc [.ref g0, .ref h0] (kx_B (kx_K D) D vwCl [(g0, .inr (4, [.int (nI md), .int (nI tm), .long sg, .long rn, .int (kx_b hr), .long kr, .long ks, .ref k1, .ref k2, .int (nI kc), .ref k3])), (k1, .inl (D.1 102, 20, .inr (.inl kre))), (k2, .inl (D.1 102, 40, .inr (.inl kfn))), (h0, .inr (3, [.ref a1, .ref a2, .int (nI fc), .ref a3, .ref a4, .int (nI nc)])), (a1, .inl (D.1 102, 20, .inr (.inl rs))), (a3, .inl (D.1 102, 40, .inr (.inl fn))), (a4, .inl (D.1 100, 40, .inl (kx_ni fo)))])) (kx_R (some (.int (nI (px_why md hr sg ks (px_fr (px_bit kr) (px_rr md kre rs kfn fn fo kc nc) 60)))))) 0 0 (fun _ => False) := by
  refine kx_metR (by decide) rfl (Nat.le_of_ble_eq_true rfl) ?_
  intro p e s m args below meth c ls Q hx hb hts hown hml hP hKK hl hQi hQz hQa hQl hQv
  have hK := hKK.1
  replace hown : s.vm.findClass "TouchSelect$TestRow" = some m.cls := hown
  replace hl : lv_has ls 2 [(0, .ref g0), (1, .ref h0)] := hl
  refine lv_aload_n hx hb d_Tr_reasonNow_0 rfl (lv_at hl 0 rfl) ?_
  refine va_get (D := D) (ci := 4) (v := .int (nI md)) (C := "TouchSelect$TestRow") (T := tt_Tr) (N := 11) hx hb hts (in_Tr _) hown hK hP 0 rfl rfl 0 (by decide) (hts _ (gw_in gw_153)) (fun _ h9 => h9) rfl d_Tr_reasonNow_1 ?_
  refine lv_iconst (v := (nI 2)) hx hb d_Tr_reasonNow_4 (by decide) ?_
  refine kx_icmp_ne (tgt := 10) hx hb d_Tr_reasonNow_5 (by decide) (by omega) (by omega) (fun c_5 => ?_) (fun c_5 => ?_)
  ·
    refine lv_aload_n hx hb d_Tr_reasonNow_10 rfl (lv_at hl 0 rfl) ?_
    refine va_get (D := D) (ci := 4) (v := .int (kx_b hr)) (C := "TouchSelect$TestRow") (T := tt_Tr) (N := 11) hx hb hts (in_Tr _) hown hK hP 0 rfl rfl 4 (by decide) (hts _ (gw_in gw_159)) (fun _ h9 => h9) rfl d_Tr_reasonNow_11 ?_
    refine kx_ifb_ne (tgt := 19) hx hb d_Tr_reasonNow_14 (by decide) (fun c_14 => ?_) (fun c_14 => ?_)
    ·
      refine lv_aload_n hx hb d_Tr_reasonNow_19 rfl (lv_at hl 0 rfl) ?_
      refine va_get (D := D) (ci := 4) (v := .long sg) (C := "TouchSelect$TestRow") (T := tt_Tr) (N := 11) hx hb hts (in_Tr _) hown hK hP 0 rfl rfl 2 (by decide) (hts _ (gw_in gw_156)) (fun _ h9 => h9) rfl d_Tr_reasonNow_20 ?_
      refine lv_aload_n hx hb d_Tr_reasonNow_23 rfl (lv_at hl 0 rfl) ?_
      refine va_get (D := D) (ci := 4) (v := .long ks) (C := "TouchSelect$TestRow") (T := tt_Tr) (N := 11) hx hb hts (in_Tr _) hown hK hP 0 rfl rfl 6 (by decide) (hts _ (gw_in gw_162)) (fun _ h9 => h9) rfl d_Tr_reasonNow_24 ?_
      refine W.lcmp hx hb d_Tr_reasonNow_27 ?_
      refine kx_ifc_eq (tgt := 35) hx hb d_Tr_reasonNow_28 (by decide) (fun c_28 => ?_) (fun c_28 => ?_)
      ·
        refine lv_aload_n hx hb d_Tr_reasonNow_35 rfl (lv_at hl 0 rfl) ?_
        refine lv_aload_n hx hb d_Tr_reasonNow_36 rfl (lv_at hl 1 rfl) ?_
        refine kx_callR (va_runV (As := [.ref h0]) (rest := []) ⟨hx, hb, hml, hown, hts⟩ (c_Tr_firstReason l D g0 k1 k2 k3 md tm sg rn hr kr ks kc kre kfn h0 a1 a2 a3 a4 fc nc rs fn fo (by omega) (by omega) hfo hmd) (gw_V 1 hts gw_241 gw_242 gw_482 gw_7 gw_243 rfl rfl (by decide +kernel) ⟨Nat.le_of_ble_eq_true rfl, Nat.le_of_ble_eq_true rfl⟩) (kx_preV (kx_ok D) hKK hK (hP.sub (ws' := [(g0, .inr (4, [.int (nI md), .int (nI tm), .long sg, .long rn, .int (kx_b hr), .long kr, .long ks, .ref k1, .ref k2, .int (nI kc), .ref k3])), (k1, .inl (D.1 102, 20, .inr (.inl kre))), (k2, .inl (D.1 102, 40, .inr (.inl kfn))), (h0, .inr (3, [.ref a1, .ref a2, .int (nI fc), .ref a3, .ref a4, .int (nI nc)])), (a1, .inl (D.1 102, 20, .inr (.inl rs))), (a3, .inl (D.1 102, 40, .inr (.inl fn))), (a4, .inl (D.1 100, 40, .inl (kx_ni fo)))]) [0, 1, 2, 3, 4, 5, 6] rfl) 4 0 rfl rfl) rfl rfl hl.1 rfl (lv_room (Nat.le_of_ble_eq_true rfl)) d_Tr_reasonNow_37 ⟨Nat.le_of_ble_eq_true rfl, Nat.le_of_ble_eq_true rfl⟩) ?_
        refine W.eq (g2 := F0 m 40 ls [.int (nI (px_fr (px_bit kr) (px_rr md kre rs kfn fn fo kc nc) 60))]) rfl ?_
        exact hQi d_Tr_reasonNow_40 rfl (by unfold px_why; rw [if_neg c_5, if_neg (show ¬ (hr = false) by rw [c_14]; decide), if_neg (show ¬ (sg ≠ ks) from fun h9 => h9 c_28)])
      ·
        refine lv_iconst (v := (nI 3)) hx hb d_Tr_reasonNow_31 (by decide) ?_
        refine lv_goto (tgt := 40) hx hb d_Tr_reasonNow_32 (by decide) ?_
        exact hQi d_Tr_reasonNow_40 rfl (by unfold px_why; rw [if_neg c_5, if_neg (show ¬ (hr = false) by rw [c_14]; decide), if_pos c_28])
    ·
      refine lv_iconst (v := (nI 2)) hx hb d_Tr_reasonNow_17 (by decide) ?_
      exact hQi d_Tr_reasonNow_18 rfl (by unfold px_why; rw [if_neg c_5, if_pos c_14])
  ·
    refine lv_iconst (v := (nI 1)) hx hb d_Tr_reasonNow_8 (by decide) ?_
    exact hQi d_Tr_reasonNow_9 rfl (by unfold px_why; rw [if_pos c_5])
