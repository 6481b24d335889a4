def rm_Mo_isFile : Room := { frames := 0, cells := 0, slots := 0, locals := 0 }
set_option maxHeartbeats 4000000 in
set_option maxRecDepth 100000 in
/-- isFile(p0) -/
theorem c_Mo_isFile (l : Launch) (D : va_G) (w0 : Nat) (ma : Nat → Nat) (fc : Nat) (nc : Nat) (tn : Nat) (ct : Nat) (pn : Nat) (ln : Nat) (p0 : Int32) (hn : fc < 2 ^ 31) : Met l yy_Mo_isFile ww_Mo_isFile rm_Mo_isFile (va_Pc [.ref w0, .int p0] (kx_B (kx_K D) D vwCl [(w0, .inr (6, [.int (nI 0), .int (nI fc), .int (nI nc), .ref (ma 3), .ref (ma 4), .ref (ma 5), .ref (ma 6), .int (nI tn), .ref (ma 8), .ref (ma 9), .ref (ma 10), .ref (ma 11), .ref (ma 12), .ref (ma 13), .ref (ma 14), .ref (ma 15), .ref (ma 16), .ref (ma 17), .ref (ma 18), .ref (ma 19), .ref (ma 20), .ref (ma 21), .ref (ma 22), .int (nI ct), .int (nI pn), .ref (ma 25), .ref (ma 26), .ref (ma 27), .int (nI ln), .ref (ma 29), .ref (ma 30), .ref (ma 31)]))])) (kx_R (some (.int (kx_b (px_has fc p0))))) 0 0 (fun _ => False) := by
  refine kx_metR (by decide) rfl (Nat.le_of_ble_eq_true rfl) ?_
  intro p e s m args below meth c ls Q hx hb hts hown hml hP hKK hl hQi hQz hQa hQl hQv
  have hK := hKK.1
  replace hown : s.vm.findClass "TouchSelectModel" = some m.cls := hown
  replace hl : lv_has ls 2 [(0, .ref w0), (1, .int p0)] := hl
  refine lv_iload_n hx hb d_Mo_isFile_0 rfl (lv_at hl 1 rfl) ?_
  refine lv_if_lt (tgt := 16) hx hb d_Mo_isFile_1 (by decide) (fun c_1 => ?_) (fun c_1 => ?_)
  ·
    refine lv_iconst (v := (nI 0)) hx hb d_Mo_isFile_16 (by decide) ?_
    refine kx_topi (show nI 0 = kx_b false from by decide) ?_
    exact hQz d_Mo_isFile_17 rfl (by rw [px_has_neg c_1])
  ·
    obtain ⟨k0, hk0, rfl⟩ := nI_of c_1
    refine lv_iload_n hx hb d_Mo_isFile_4 rfl (lv_at hl 1 rfl) ?_
    refine lv_aload_n hx hb d_Mo_isFile_5 rfl (lv_at hl 0 rfl) ?_
    refine va_get (D := D) (ci := 6) (v := .int (nI fc)) (C := "TouchSelectModel") (T := tt_Mo) (N := 32) hx hb hts (in_Mo _) hown hK hP 0 rfl rfl 1 (by decide) (hts _ (gw_in gw_315)) (fun _ h9 => h9) rfl d_Mo_isFile_6 ?_
    refine kx_icmp_ge (tgt := 16) hx hb d_Mo_isFile_9 (by decide) (by omega) (by omega) (fun c_9 => ?_) (fun c_9 => ?_)
    ·
      refine lv_iconst (v := (nI 0)) hx hb d_Mo_isFile_16 (by decide) ?_
      refine kx_topi (show nI 0 = kx_b false from by decide) ?_
      exact hQz d_Mo_isFile_17 rfl (by rw [px_has_no hk0 hn c_9])
    ·
      refine lv_iconst (v := (nI 1)) hx hb d_Mo_isFile_12 (by decide) ?_
      refine lv_goto (tgt := 17) hx hb d_Mo_isFile_13 (by decide) ?_
      refine kx_topi (show nI 1 = kx_b true from by decide) ?_
      exact hQz d_Mo_isFile_17 rfl (by rw [px_has_yes hk0 hn c_9])
def rm_Mo_isFunction : Room := { frames := 0, cells := 0, slots := 0, locals := 0 }
set_option maxHeartbeats 4000000 in
set_option maxRecDepth 100000 in
/-- isFunction(p0) -/
theorem c_Mo_isFunction (l : Launch) (D : va_G) (w0 : Nat) (ma : Nat → Nat) (fc : Nat) (nc : Nat) (tn : Nat) (ct : Nat) (pn : Nat) (ln : Nat) (p0 : Int32) (hn : nc < 2 ^ 31) : Met l yy_Mo_isFunction ww_Mo_isFunction rm_Mo_isFunction (va_Pc [.ref w0, .int p0] (kx_B (kx_K D) D vwCl [(w0, .inr (6, [.int (nI 0), .int (nI fc), .int (nI nc), .ref (ma 3), .ref (ma 4), .ref (ma 5), .ref (ma 6), .int (nI tn), .ref (ma 8), .ref (ma 9), .ref (ma 10), .ref (ma 11), .ref (ma 12), .ref (ma 13), .ref (ma 14), .ref (ma 15), .ref (ma 16), .ref (ma 17), .ref (ma 18), .ref (ma 19), .ref (ma 20), .ref (ma 21), .ref (ma 22), .int (nI ct), .int (nI pn), .ref (ma 25), .ref (ma 26), .ref (ma 27), .int (nI ln), .ref (ma 29), .ref (ma 30), .ref (ma 31)]))])) (kx_R (some (.int (kx_b (px_has nc p0))))) 0 0 (fun _ => False) := by
  refine kx_metR (by decide) rfl (Nat.le_of_ble_eq_true rfl) ?_
  intro p e s m args below meth c ls Q hx hb hts hown hml hP hKK hl hQi hQz hQa hQl hQv
  have hK := hKK.1
  replace hown : s.vm.findClass "TouchSelectModel" = some m.cls := hown
  replace hl : lv_has ls 2 [(0, .ref w0), (1, .int p0)] := hl
  refine lv_iload_n hx hb d_Mo_isFunction_0 rfl (lv_at hl 1 rfl) ?_
  refine lv_if_lt (tgt := 16) hx hb d_Mo_isFunction_1 (by decide) (fun c_1 => ?_) (fun c_1 => ?_)
  ·
    refine lv_iconst (v := (nI 0)) hx hb d_Mo_isFunction_16 (by decide) ?_
    refine kx_topi (show nI 0 = kx_b false from by decide) ?_
    exact hQz d_Mo_isFunction_17 rfl (by rw [px_has_neg c_1])
  ·
    obtain ⟨k0, hk0, rfl⟩ := nI_of c_1
    refine lv_iload_n hx hb d_Mo_isFunction_4 rfl (lv_at hl 1 rfl) ?_
    refine lv_aload_n hx hb d_Mo_isFunction_5 rfl (lv_at hl 0 rfl) ?_
    refine va_get (D := D) (ci := 6) (v := .int (nI nc)) (C := "TouchSelectModel") (T := tt_Mo) (N := 32) hx hb hts (in_Mo _) hown hK hP 0 rfl rfl 2 (by decide) (hts _ (gw_in gw_316)) (fun _ h9 => h9) rfl d_Mo_isFunction_6 ?_
    refine kx_icmp_ge (tgt := 16) hx hb d_Mo_isFunction_9 (by decide) (by omega) (by omega) (fun c_9 => ?_) (fun c_9 => ?_)
    ·
      refine lv_iconst (v := (nI 0)) hx hb d_Mo_isFunction_16 (by decide) ?_
      refine kx_topi (show nI 0 = kx_b false from by decide) ?_
      exact hQz d_Mo_isFunction_17 rfl (by rw [px_has_no hk0 hn c_9])
    ·
      refine lv_iconst (v := (nI 1)) hx hb d_Mo_isFunction_12 (by decide) ?_
      refine lv_goto (tgt := 17) hx hb d_Mo_isFunction_13 (by decide) ?_
      refine kx_topi (show nI 1 = kx_b true from by decide) ?_
      exact hQz d_Mo_isFunction_17 rfl (by rw [px_has_yes hk0 hn c_9])
def rm_Mo_isTest : Room := { frames := 0, cells := 0, slots := 0, locals := 0 }
set_option maxHeartbeats 4000000 in
set_option maxRecDepth 100000 in
/-- isTest(p0) -/
theorem c_Mo_isTest (l : Launch) (D : va_G) (w0 : Nat) (ma : Nat → Nat) (fc : Nat) (nc : Nat) (tn : Nat) (ct : Nat) (pn : Nat) (ln : Nat) (p0 : Int32) (hn : tn < 2 ^ 31) : Met l yy_Mo_isTest ww_Mo_isTest rm_Mo_isTest (va_Pc [.ref w0, .int p0] (kx_B (kx_K D) D vwCl [(w0, .inr (6, [.int (nI 0), .int (nI fc), .int (nI nc), .ref (ma 3), .ref (ma 4), .ref (ma 5), .ref (ma 6), .int (nI tn), .ref (ma 8), .ref (ma 9), .ref (ma 10), .ref (ma 11), .ref (ma 12), .ref (ma 13), .ref (ma 14), .ref (ma 15), .ref (ma 16), .ref (ma 17), .ref (ma 18), .ref (ma 19), .ref (ma 20), .ref (ma 21), .ref (ma 22), .int (nI ct), .int (nI pn), .ref (ma 25), .ref (ma 26), .ref (ma 27), .int (nI ln), .ref (ma 29), .ref (ma 30), .ref (ma 31)]))])) (kx_R (some (.int (kx_b (px_has tn p0))))) 0 0 (fun _ => False) := by
  refine kx_metR (by decide) rfl (Nat.le_of_ble_eq_true rfl) ?_
  intro p e s m args below meth c ls Q hx hb hts hown hml hP hKK hl hQi hQz hQa hQl hQv
  have hK := hKK.1
  replace hown : s.vm.findClass "TouchSelectModel" = some m.cls := hown
  replace hl : lv_has ls 2 [(0, .ref w0), (1, .int p0)] := hl
  refine lv_iload_n hx hb d_Mo_isTest_0 rfl (lv_at hl 1 rfl) ?_
  refine lv_if_lt (tgt := 16) hx hb d_Mo_isTest_1 (by decide) (fun c_1 => ?_) (fun c_1 => ?_)
  ·
    refine lv_iconst (v := (nI 0)) hx hb d_Mo_isTest_16 (by decide) ?_
    refine kx_topi (show nI 0 = kx_b false from by decide) ?_
    exact hQz d_Mo_isTest_17 rfl (by rw [px_has_neg c_1])
  ·
    obtain ⟨k0, hk0, rfl⟩ := nI_of c_1
    refine lv_iload_n hx hb d_Mo_isTest_4 rfl (lv_at hl 1 rfl) ?_
    refine lv_aload_n hx hb d_Mo_isTest_5 rfl (lv_at hl 0 rfl) ?_
    refine va_get (D := D) (ci := 6) (v := .int (nI tn)) (C := "TouchSelectModel") (T := tt_Mo) (N := 32) hx hb hts (in_Mo _) hown hK hP 0 rfl rfl 7 (by decide) (hts _ (gw_in gw_321)) (fun _ h9 => h9) rfl d_Mo_isTest_6 ?_
    refine kx_icmp_ge (tgt := 16) hx hb d_Mo_isTest_9 (by decide) (by omega) (by omega) (fun c_9 => ?_) (fun c_9 => ?_)
    ·
      refine lv_iconst (v := (nI 0)) hx hb d_Mo_isTest_16 (by decide) ?_
      refine kx_topi (show nI 0 = kx_b false from by decide) ?_
      exact hQz d_Mo_isTest_17 rfl (by rw [px_has_no hk0 hn c_9])
    ·
      refine lv_iconst (v := (nI 1)) hx hb d_Mo_isTest_12 (by decide) ?_
      refine lv_goto (tgt := 17) hx hb d_Mo_isTest_13 (by decide) ?_
      refine kx_topi (show nI 1 = kx_b true from by decide) ?_
      exact hQz d_Mo_isTest_17 rfl (by rw [px_has_yes hk0 hn c_9])
def rm_Mo_file : Room := { frames := 0, cells := 0, slots := 0, locals := 0 }
set_option maxHeartbeats 4000000 in
set_option maxRecDepth 100000 in
/-- file(d0) -/
theorem c_Mo_file (l : Launch) (D : va_G) (w0 : Nat) (ma : Nat → Nat) (fc : Nat) (nc : Nat) (tn : Nat) (ct : Nat) (pn : Nat) (ln : Nat) (rs : Nat → Int64) (tc : Nat → Bool) (d0 : Int64) (sz : Nat) (hfc : fc ≤ 20) : Met l yy_Mo_file ww_Mo_file rm_Mo_file (va_Pc [.ref w0, .long d0] (kx_C (kx_K D) D vwCl [(w0, .inr (6, [.int (nI 0), .int (nI fc), .int (nI nc), .ref (ma 3), .ref (ma 4), .ref (ma 5), .ref (ma 6), .int (nI tn), .ref (ma 8), .ref (ma 9), .ref (ma 10), .ref (ma 11), .ref (ma 12), .ref (ma 13), .ref (ma 14), .ref (ma 15), .ref (ma 16), .ref (ma 17), .ref (ma 18), .ref (ma 19), .ref (ma 20), .ref (ma 21), .ref (ma 22), .int (nI ct), .int (nI pn), .ref (ma 25), .ref (ma 26), .ref (ma 27), .int (nI ln), .ref (ma 29), .ref (ma 30), .ref (ma 31)])), ((ma 3), .inl (D.1 102, 20, .inr (.inl rs))), ((ma 6), .inl (D.1 101, 20, .inl (kx_bi tc)))] sz)) (kx_Q (S := Unit) D vwCl (fun _ => some (.int (if fc < 20 then nI fc else -1))) (fun _ => True) (fun _ => [(w0, .inr (6, [.int (nI 0), .int (nI (if fc < 20 then fc + 1 else fc)), .int (nI nc), .ref (ma 3), .ref (ma 4), .ref (ma 5), .ref (ma 6), .int (nI tn), .ref (ma 8), .ref (ma 9), .ref (ma 10), .ref (ma 11), .ref (ma 12), .ref (ma 13), .ref (ma 14), .ref (ma 15), .ref (ma 16), .ref (ma 17), .ref (ma 18), .ref (ma 19), .ref (ma 20), .ref (ma 21), .ref (ma 22), .int (nI ct), .int (nI pn), .ref (ma 25), .ref (ma 26), .ref (ma 27), .int (nI ln), .ref (ma 29), .ref (ma 30), .ref (ma 31)])), ((ma 3), .inl (D.1 102, 20, .inr (.inl (if fc < 20 then va_up rs fc d0 else rs)))), ((ma 6), .inl (D.1 101, 20, .inl (kx_bi (if fc < 20 then va_up tc fc true else tc))))]) (va_A [(w0, .inr (6, [.int (nI 0), .int (nI fc), .int (nI nc), .ref (ma 3), .ref (ma 4), .ref (ma 5), .ref (ma 6), .int (nI tn), .ref (ma 8), .ref (ma 9), .ref (ma 10), .ref (ma 11), .ref (ma 12), .ref (ma 13), .ref (ma 14), .ref (ma 15), .ref (ma 16), .ref (ma 17), .ref (ma 18), .ref (ma 19), .ref (ma 20), .ref (ma 21), .ref (ma 22), .int (nI ct), .int (nI pn), .ref (ma 25), .ref (ma 26), .ref (ma 27), .int (nI ln), .ref (ma 29), .ref (ma 30), .ref (ma 31)])), ((ma 3), .inl (D.1 102, 20, .inr (.inl rs))), ((ma 6), .inl (D.1 101, 20, .inl (kx_bi tc)))] sz)) 0 0 (va_A [(w0, .inr (6, [.int (nI 0), .int (nI fc), .int (nI nc), .ref (ma 3), .ref (ma 4), .ref (ma 5), .ref (ma 6), .int (nI tn), .ref (ma 8), .ref (ma 9), .ref (ma 10), .ref (ma 11), .ref (ma 12), .ref (ma 13), .ref (ma 14), .ref (ma 15), .ref (ma 16), .ref (ma 17), .ref (ma 18), .ref (ma 19), .ref (ma 20), .ref (ma 21), .ref (ma 22), .int (nI ct), .int (nI pn), .ref (ma 25), .ref (ma 26), .ref (ma 27), .int (nI ln), .ref (ma 29), .ref (ma 30), .ref (ma 31)])), ((ma 3), .inl (D.1 102, 20, .inr (.inl rs))), ((ma 6), .inl (D.1 101, 20, .inl (kx_bi tc)))] sz) := by
  refine kx_metW (by decide) rfl (Nat.le_of_ble_eq_true rfl) ?_
  intro p e s m args below meth c ls Q A hx hb hts hown hml hin hA hP hD hS hKK hl hQi hQz hQa hQv
  have hK := hKK.1
  replace hown : s.vm.findClass "TouchSelectModel" = some m.cls := hown
  replace hl : lv_has ls 3 [(0, .ref w0), (1, .long d0)] := hl
  refine lv_aload_n hx hb d_Mo_file_0 rfl (lv_at hl 0 rfl) ?_
  refine lv_iconst (v := (nI 0)) hx hb d_Mo_file_1 (by decide) ?_
  refine va_put (D := D) (ci := 6) (v := .int (nI 0)) (ty := .int) (C := "TouchSelectModel") (T := tt_Mo) (N := 32) hx hb hts (in_Mo _) ty_Mo ty_Mo_ok nm_Mo hown hK hP hD hS 0 rfl rfl 0 (by decide) (hts _ (gw_in gw_314)) (fun _ h9 => h9) rfl (by decide +kernel) rfl rfl (Nat.le_of_ble_eq_true rfl) d_Mo_file_2 (fun H locs hP hD hS => ?_)
  replace hP : va_P D vwCl [(w0, .inr (6, [.int (nI 0), .int (nI fc), .int (nI nc), .ref (ma 3), .ref (ma 4), .ref (ma 5), .ref (ma 6), .int (nI tn), .ref (ma 8), .ref (ma 9), .ref (ma 10), .ref (ma 11), .ref (ma 12), .ref (ma 13), .ref (ma 14), .ref (ma 15), .ref (ma 16), .ref (ma 17), .ref (ma 18), .ref (ma 19), .ref (ma 20), .ref (ma 21), .ref (ma 22), .int (nI ct), .int (nI pn), .ref (ma 25), .ref (ma 26), .ref (ma 27), .int (nI ln), .ref (ma 29), .ref (ma 30), .ref (ma 31)])), ((ma 3), .inl (D.1 102, 20, .inr (.inl rs))), ((ma 6), .inl (D.1 101, 20, .inl (kx_bi tc)))] H := hP
  replace hD : va_D A [(w0, .inr (6, [.int (nI 0), .int (nI fc), .int (nI nc), .ref (ma 3), .ref (ma 4), .ref (ma 5), .ref (ma 6), .int (nI tn), .ref (ma 8), .ref (ma 9), .ref (ma 10), .ref (ma 11), .ref (ma 12), .ref (ma 13), .ref (ma 14), .ref (ma 15), .ref (ma 16), .ref (ma 17), .ref (ma 18), .ref (ma 19), .ref (ma 20), .ref (ma 21), .ref (ma 22), .int (nI ct), .int (nI pn), .ref (ma 25), .ref (ma 26), .ref (ma 27), .int (nI ln), .ref (ma 29), .ref (ma 30), .ref (ma 31)])), ((ma 3), .inl (D.1 102, 20, .inr (.inl rs))), ((ma 6), .inl (D.1 101, 20, .inl (kx_bi tc)))] := hD
  refine lv_aload_n hx hb d_Mo_file_5 rfl (lv_at hl 0 rfl) ?_
  refine va_get (D := D) (ci := 6) (v := .int (nI fc)) (C := "TouchSelectModel") (T := tt_Mo) (N := 32) hx hb hts (in_Mo _) hown hK hP 0 rfl rfl 1 (by decide) (hts _ (gw_in gw_315)) (fun _ h9 => h9) rfl d_Mo_file_6 ?_
  refine lv_bipush (v := (nI 20)) hx hb d_Mo_file_9 (by decide) ?_
  refine kx_icmp_ne (tgt := 16) hx hb d_Mo_file_11 (by decide) (by omega) (by omega) (fun c_11 => ?_) (fun c_11 => ?_)
  ·
    have hlt : fc < 20 := by omega
    refine lv_aload_n hx hb d_Mo_file_16 rfl (lv_at hl 0 rfl) ?_
    refine va_get (D := D) (ci := 6) (v := .ref (ma 3)) (C := "TouchSelectModel") (T := tt_Mo) (N := 32) hx hb hts (in_Mo _) hown hK hP 0 rfl rfl 3 (by decide) (hts _ (gw_in gw_317)) (fun _ h9 => h9) rfl d_Mo_file_17 ?_
    refine lv_aload_n hx hb d_Mo_file_20 rfl (lv_at hl 0 rfl) ?_
    refine va_get (D := D) (ci := 6) (v := .int (nI fc)) (C := "TouchSelectModel") (T := tt_Mo) (N := 32) hx hb hts (in_Mo _) hown hK hP 0 rfl rfl 1 (by decide) (hts _ (gw_in gw_315)) (fun _ h9 => h9) rfl d_Mo_file_21 ?_
    refine lv_lload_n hx hb d_Mo_file_24 rfl (lv_at hl 1 rfl) ?_
    refine kx_last hx hb hK hP hD hS 1 2 rfl rfl (k := fc) (by omega) (by omega) d_Mo_file_25 (fun H locs hP hD hS => ?_)
    replace hP : va_P D vwCl [(w0, .inr (6, [.int (nI 0), .int (nI fc), .int (nI nc), .ref (ma 3), .ref (ma 4), .ref (ma 5), .ref (ma 6), .int (nI tn), .ref (ma 8), .ref (ma 9), .ref (ma 10), .ref (ma 11), .ref (ma 12), .ref (ma 13), .ref (ma 14), .ref (ma 15), .ref (ma 16), .ref (ma 17), .ref (ma 18), .ref (ma 19), .ref (ma 20), .ref (ma 21), .ref (ma 22), .int (nI ct), .int (nI pn), .ref (ma 25), .ref (ma 26), .ref (ma 27), .int (nI ln), .ref (ma 29), .ref (ma 30), .ref (ma 31)])), ((ma 3), .inl (D.1 102, 20, .inr (.inl (va_up rs fc d0)))), ((ma 6), .inl (D.1 101, 20, .inl (kx_bi tc)))] H := hP
    replace hD : va_D A [(w0, .inr (6, [.int (nI 0), .int (nI fc), .int (nI nc), .ref (ma 3), .ref (ma 4), .ref (ma 5), .ref (ma 6), .int (nI tn), .ref (ma 8), .ref (ma 9), .ref (ma 10), .ref (ma 11), .ref (ma 12), .ref (ma 13), .ref (ma 14), .ref (ma 15), .ref (ma 16), .ref (ma 17), .ref (ma 18), .ref (ma 19), .ref (ma 20), .ref (ma 21), .ref (ma 22), .int (nI ct), .int (nI pn), .ref (ma 25), .ref (ma 26), .ref (ma 27), .int (nI ln), .ref (ma 29), .ref (ma 30), .ref (ma 31)])), ((ma 3), .inl (D.1 102, 20, .inr (.inl (va_up rs fc d0)))), ((ma 6), .inl (D.1 101, 20, .inl (kx_bi tc)))] := hD
    refine lv_aload_n hx hb d_Mo_file_26 rfl (lv_at hl 0 rfl) ?_
    refine va_get (D := D) (ci := 6) (v := .ref (ma 6)) (C := "TouchSelectModel") (T := tt_Mo) (N := 32) hx hb hts (in_Mo _) hown hK hP 0 rfl rfl 6 (by decide) (hts _ (gw_in gw_320)) (fun _ h9 => h9) rfl d_Mo_file_27 ?_
    refine lv_aload_n hx hb d_Mo_file_30 rfl (lv_at hl 0 rfl) ?_
    refine va_get (D := D) (ci := 6) (v := .int (nI fc)) (C := "TouchSelectModel") (T := tt_Mo) (N := 32) hx hb hts (in_Mo _) hown hK hP 0 rfl rfl 1 (by decide) (hts _ (gw_in gw_315)) (fun _ h9 => h9) rfl d_Mo_file_31 ?_
    refine lv_iconst (v := (nI 1)) hx hb d_Mo_file_34 (by decide) ?_
    refine kx_topi (show nI 1 = kx_b true from by decide) ?_
    refine kx_zast hx hb hK hP hD hS 2 1 rfl rfl (k := fc) (by omega) (by omega) d_Mo_file_35 (fun H locs hP hD hS => ?_)
    replace hP : va_P D vwCl [(w0, .inr (6, [.int (nI 0), .int (nI fc), .int (nI nc), .ref (ma 3), .ref (ma 4), .ref (ma 5), .ref (ma 6), .int (nI tn), .ref (ma 8), .ref (ma 9), .ref (ma 10), .ref (ma 11), .ref (ma 12), .ref (ma 13), .ref (ma 14), .ref (ma 15), .ref (ma 16), .ref (ma 17), .ref (ma 18), .ref (ma 19), .ref (ma 20), .ref (ma 21), .ref (ma 22), .int (nI ct), .int (nI pn), .ref (ma 25), .ref (ma 26), .ref (ma 27), .int (nI ln), .ref (ma 29), .ref (ma 30), .ref (ma 31)])), ((ma 3), .inl (D.1 102, 20, .inr (.inl (va_up rs fc d0)))), ((ma 6), .inl (D.1 101, 20, .inl (kx_bi (va_up tc fc true))))] H := hP
    replace hD : va_D A [(w0, .inr (6, [.int (nI 0), .int (nI fc), .int (nI nc), .ref (ma 3), .ref (ma 4), .ref (ma 5), .ref (ma 6), .int (nI tn), .ref (ma 8), .ref (ma 9), .ref (ma 10), .ref (ma 11), .ref (ma 12), .ref (ma 13), .ref (ma 14), .ref (ma 15), .ref (ma 16), .ref (ma 17), .ref (ma 18), .ref (ma 19), .ref (ma 20), .ref (ma 21), .ref (ma 22), .int (nI ct), .int (nI pn), .ref (ma 25), .ref (ma 26), .ref (ma 27), .int (nI ln), .ref (ma 29), .ref (ma 30), .ref (ma 31)])), ((ma 3), .inl (D.1 102, 20, .inr (.inl (va_up rs fc d0)))), ((ma 6), .inl (D.1 101, 20, .inl (kx_bi (va_up tc fc true))))] := hD
    refine lv_aload_n hx hb d_Mo_file_36 rfl (lv_at hl 0 rfl) ?_
    refine lv_dup hx hb d_Mo_file_37 rfl ?_
    refine va_get (D := D) (ci := 6) (v := .int (nI fc)) (C := "TouchSelectModel") (T := tt_Mo) (N := 32) hx hb hts (in_Mo _) hown hK hP 0 rfl rfl 1 (by decide) (hts _ (gw_in gw_315)) (fun _ h9 => h9) rfl d_Mo_file_38 ?_
    refine lv_iconst (v := (nI 1)) hx hb d_Mo_file_41 (by decide) ?_
    refine lv_iadd hx hb d_Mo_file_42 ?_
    refine kx_topi (nI_add fc 1) ?_
    refine va_put (D := D) (ci := 6) (v := .int (nI (fc + 1))) (ty := .int) (C := "TouchSelectModel") (T := tt_Mo) (N := 32) hx hb hts (in_Mo _) ty_Mo ty_Mo_ok nm_Mo hown hK hP hD hS 0 rfl rfl 1 (by decide) (hts _ (gw_in gw_315)) (fun _ h9 => h9) rfl (by decide +kernel) rfl rfl (Nat.le_of_ble_eq_true rfl) d_Mo_file_43 (fun H locs hP hD hS => ?_)
    replace hP : va_P D vwCl [(w0, .inr (6, [.int (nI 0), .int (nI (fc + 1)), .int (nI nc), .ref (ma 3), .ref (ma 4), .ref (ma 5), .ref (ma 6), .int (nI tn), .ref (ma 8), .ref (ma 9), .ref (ma 10), .ref (ma 11), .ref (ma 12), .ref (ma 13), .ref (ma 14), .ref (ma 15), .ref (ma 16), .ref (ma 17), .ref (ma 18), .ref (ma 19), .ref (ma 20), .ref (ma 21), .ref (ma 22), .int (nI ct), .int (nI pn), .ref (ma 25), .ref (ma 26), .ref (ma 27), .int (nI ln), .ref (ma 29), .ref (ma 30), .ref (ma 31)])), ((ma 3), .inl (D.1 102, 20, .inr (.inl (va_up rs fc d0)))), ((ma 6), .inl (D.1 101, 20, .inl (kx_bi (va_up tc fc true))))] H := hP
    replace hD : va_D A [(w0, .inr (6, [.int (nI 0), .int (nI (fc + 1)), .int (nI nc), .ref (ma 3), .ref (ma 4), .ref (ma 5), .ref (ma 6), .int (nI tn), .ref (ma 8), .ref (ma 9), .ref (ma 10), .ref (ma 11), .ref (ma 12), .ref (ma 13), .ref (ma 14), .ref (ma 15), .ref (ma 16), .ref (ma 17), .ref (ma 18), .ref (ma 19), .ref (ma 20), .ref (ma 21), .ref (ma 22), .int (nI ct), .int (nI pn), .ref (ma 25), .ref (ma 26), .ref (ma 27), .int (nI ln), .ref (ma 29), .ref (ma 30), .ref (ma 31)])), ((ma 3), .inl (D.1 102, 20, .inr (.inl (va_up rs fc d0)))), ((ma 6), .inl (D.1 101, 20, .inl (kx_bi (va_up tc fc true))))] := hD
    refine lv_aload_n hx hb d_Mo_file_46 rfl (lv_at hl 0 rfl) ?_
    refine va_get (D := D) (ci := 6) (v := .int (nI (fc + 1))) (C := "TouchSelectModel") (T := tt_Mo) (N := 32) hx hb hts (in_Mo _) hown hK hP 0 rfl rfl 1 (by decide) (hts _ (gw_in gw_315)) (fun _ h9 => h9) rfl d_Mo_file_47 ?_
    refine lv_iconst (v := (nI 1)) hx hb d_Mo_file_50 (by decide) ?_
    refine lv_isub hx hb d_Mo_file_51 ?_
    refine kx_topi (kx_pred fc) ?_
    exact hQi () d_Mo_file_52 rfl (by rw [if_pos hlt]) trivial (by simp only [if_pos hlt]; exact hP.sub [0, 1, 2] rfl) (by simp only [if_pos hlt]; exact hD.sub [0, 1, 2] (by decide) rfl) hS
  ·
    refine lv_iconst (v := (-1)) hx hb d_Mo_file_14 (by decide) ?_
    exact hQi () d_Mo_file_15 rfl (by rw [if_neg (show ¬ fc < 20 by omega)]) trivial (by simp only [if_neg (show ¬ fc < 20 by omega)]; exact hP.sub [0, 1, 2] rfl) (by simp only [if_neg (show ¬ fc < 20 by omega)]; exact hD.sub [0, 1, 2] (by decide) rfl) hS
def rm_Mo_function : Room := { frames := 1, cells := 0, slots := 0, locals := 21 }
set_option maxHeartbeats 4000000 in
set_option maxRecDepth 100000 in
/-- function(p0, d0) -/
theorem c_Mo_function (l : Launch) (D : va_G) (w0 : Nat) (ma : Nat → Nat) (fc : Nat) (nc : Nat) (tn : Nat) (ct : Nat) (pn : Nat) (ln : Nat) (fo : Nat → Nat) (fn : Nat → Int64) (tc : Nat → Bool) (p0 : Int32) (d0 : Int64) (sz : Nat) (hfc : fc ≤ 20) (hnc : nc ≤ 40) : Met l yy_Mo_function ww_Mo_function rm_Mo_function (va_Pc [.ref w0, .int p0, .long d0] (kx_C (kx_K D) D vwCl [(w0, .inr (6, [.int (nI 0), .int (nI fc), .int (nI nc), .ref (ma 3), .ref (ma 4), .ref (ma 5), .ref (ma 6), .int (nI tn), .ref (ma 8), .ref (ma 9), .ref (ma 10), .ref (ma 11), .ref (ma 12), .ref (ma 13), .ref (ma 14), .ref (ma 15), .ref (ma 16), .ref (ma 17), .ref (ma 18), .ref (ma 19), .ref (ma 20), .ref (ma 21), .ref (ma 22), .int (nI ct), .int (nI pn), .ref (ma 25), .ref (ma 26), .ref (ma 27), .int (nI ln), .ref (ma 29), .ref (ma 30), .ref (ma 31)])), ((ma 4), .inl (D.1 100, 40, .inl (kx_ni fo))), ((ma 5), .inl (D.1 102, 40, .inr (.inl fn))), ((ma 6), .inl (D.1 101, 20, .inl (kx_bi tc)))] sz)) (kx_Q (S := Unit) D vwCl (fun _ => some (.int (if nc < 40 ∧ px_has fc p0 = true then nI nc else -1))) (fun _ => True) (fun _ => [(w0, .inr (6, [.int (nI 0), .int (nI fc), .int (nI (if nc < 40 ∧ px_has fc p0 = true then nc + 1 else nc)), .ref (ma 3), .ref (ma 4), .ref (ma 5), .ref (ma 6), .int (nI tn), .ref (ma 8), .ref (ma 9), .ref (ma 10), .ref (ma 11), .ref (ma 12), .ref (ma 13), .ref (ma 14), .ref (ma 15), .ref (ma 16), .ref (ma 17), .ref (ma 18), .ref (ma 19), .ref (ma 20), .ref (ma 21), .ref (ma 22), .int (nI ct), .int (nI pn), .ref (ma 25), .ref (ma 26), .ref (ma 27), .int (nI ln), .ref (ma 29), .ref (ma 30), .ref (ma 31)])), ((ma 4), .inl (D.1 100, 40, .inl (kx_ni (if nc < 40 ∧ px_has fc p0 = true then va_up fo nc (px_ix p0) else fo)))), ((ma 5), .inl (D.1 102, 40, .inr (.inl (if nc < 40 ∧ px_has fc p0 = true then va_up fn nc d0 else fn)))), ((ma 6), .inl (D.1 101, 20, .inl (kx_bi (if nc < 40 ∧ px_has fc p0 = true then va_up tc (px_ix p0) true else tc))))]) (va_A [(w0, .inr (6, [.int (nI 0), .int (nI fc), .int (nI nc), .ref (ma 3), .ref (ma 4), .ref (ma 5), .ref (ma 6), .int (nI tn), .ref (ma 8), .ref (ma 9), .ref (ma 10), .ref (ma 11), .ref (ma 12), .ref (ma 13), .ref (ma 14), .ref (ma 15), .ref (ma 16), .ref (ma 17), .ref (ma 18), .ref (ma 19), .ref (ma 20), .ref (ma 21), .ref (ma 22), .int (nI ct), .int (nI pn), .ref (ma 25), .ref (ma 26), .ref (ma 27), .int (nI ln), .ref (ma 29), .ref (ma 30), .ref (ma 31)])), ((ma 4), .inl (D.1 100, 40, .inl (kx_ni fo))), ((ma 5), .inl (D.1 102, 40, .inr (.inl fn))), ((ma 6), .inl (D.1 101, 20, .inl (kx_bi tc)))] sz)) 0 0 (va_A [(w0, .inr (6, [.int (nI 0), .int (nI fc), .int (nI nc), .ref (ma 3), .ref (ma 4), .ref (ma 5), .ref (ma 6), .int (nI tn), .ref (ma 8), .ref (ma 9), .ref (ma 10), .ref (ma 11), .ref (ma 12), .ref (ma 13), .ref (ma 14), .ref (ma 15), .ref (ma 16), .ref (ma 17), .ref (ma 18), .ref (ma 19), .ref (ma 20), .ref (ma 21), .ref (ma 22), .int (nI ct), .int (nI pn), .ref (ma 25), .ref (ma 26), .ref (ma 27), .int (nI ln), .ref (ma 29), .ref (ma 30), .ref (ma 31)])), ((ma 4), .inl (D.1 100, 40, .inl (kx_ni fo))), ((ma 5), .inl (D.1 102, 40, .inr (.inl fn))), ((ma 6), .inl (D.1 101, 20, .inl (kx_bi tc)))] sz) := by
  refine kx_metW (by decide) rfl (Nat.le_of_ble_eq_true rfl) ?_
  intro p e s m args below meth c ls Q A hx hb hts hown hml hin hA hP hD hS hKK hl hQi hQz hQa hQv
  have hK := hKK.1
  replace hown : s.vm.findClass "TouchSelectModel" = some m.cls := hown
  replace hl : lv_has ls 4 [(0, .ref w0), (1, .int p0), (2, .long d0)] := hl
  refine lv_aload_n hx hb d_Mo_function_0 rfl (lv_at hl 0 rfl) ?_
  refine lv_iconst (v := (nI 0)) hx hb d_Mo_function_1 (by decide) ?_
  refine va_put (D := D) (ci := 6) (v := .int (nI 0)) (ty := .int) (C := "TouchSelectModel") (T := tt_Mo) (N := 32) hx hb hts (in_Mo _) ty_Mo ty_Mo_ok nm_Mo hown hK hP hD hS 0 rfl rfl 0 (by decide) (hts _ (gw_in gw_314)) (fun _ h9 => h9) rfl (by decide +kernel) rfl rfl (Nat.le_of_ble_eq_true rfl) d_Mo_function_2 (fun H locs hP hD hS => ?_)
  replace hP : va_P D vwCl [(w0, .inr (6, [.int (nI 0), .int (nI fc), .int (nI nc), .ref (ma 3), .ref (ma 4), .ref (ma 5), .ref (ma 6), .int (nI tn), .ref (ma 8), .ref (ma 9), .ref (ma 10), .ref (ma 11), .ref (ma 12), .ref (ma 13), .ref (ma 14), .ref (ma 15), .ref (ma 16), .ref (ma 17), .ref (ma 18), .ref (ma 19), .ref (ma 20), .ref (ma 21), .ref (ma 22), .int (nI ct), .int (nI pn), .ref (ma 25), .ref (ma 26), .ref (ma 27), .int (nI ln), .ref (ma 29), .ref (ma 30), .ref (ma 31)])), ((ma 4), .inl (D.1 100, 40, .inl (kx_ni fo))), ((ma 5), .inl (D.1 102, 40, .inr (.inl fn))), ((ma 6), .inl (D.1 101, 20, .inl (kx_bi tc)))] H := hP
  replace hD : va_D A [(w0, .inr (6, [.int (nI 0), .int (nI fc), .int (nI nc), .ref (ma 3), .ref (ma 4), .ref (ma 5), .ref (ma 6), .int (nI tn), .ref (ma 8), .ref (ma 9), .ref (ma 10), .ref (ma 11), .ref (ma 12), .ref (ma 13), .ref (ma 14), .ref (ma 15), .ref (ma 16), .ref (ma 17), .ref (ma 18), .ref (ma 19), .ref (ma 20), .ref (ma 21), .ref (ma 22), .int (nI ct), .int (nI pn), .ref (ma 25), .ref (ma 26), .ref (ma 27), .int (nI ln), .ref (ma 29), .ref (ma 30), .ref (ma 31)])), ((ma 4), .inl (D.1 100, 40, .inl (kx_ni fo))), ((ma 5), .inl (D.1 102, 40, .inr (.inl fn))), ((ma 6), .inl (D.1 101, 20, .inl (kx_bi tc)))] := hD
  refine lv_aload_n hx hb d_Mo_function_5 rfl (lv_at hl 0 rfl) ?_
  refine va_get (D := D) (ci := 6) (v := .int (nI nc)) (C := "TouchSelectModel") (T := tt_Mo) (N := 32) hx hb hts (in_Mo _) hown hK hP 0 rfl rfl 2 (by decide) (hts _ (gw_in gw_316)) (fun _ h9 => h9) rfl d_Mo_function_6 ?_
  refine lv_bipush (v := (nI 40)) hx hb d_Mo_function_9 (by decide) ?_
  refine kx_icmp_eq (tgt := 22) hx hb d_Mo_function_11 (by decide) (by omega) (by omega) (fun c_11 => ?_) (fun c_11 => ?_)
  ·
    refine lv_iconst (v := (-1)) hx hb d_Mo_function_22 (by decide) ?_
    exact hQi () d_Mo_function_23 rfl (by rw [if_neg (show ¬ (nc < 40 ∧ px_has fc p0 = true) from fun h9 => absurd h9.1 (by omega))]) trivial (by simp only [if_neg (show ¬ (nc < 40 ∧ px_has fc p0 = true) from fun h9 => absurd h9.1 (by omega))]; exact hP.sub [0, 1, 2, 3] rfl) (by simp only [if_neg (show ¬ (nc < 40 ∧ px_has fc p0 = true) from fun h9 => absurd h9.1 (by omega))]; exact hD.sub [0, 1, 2, 3] (by decide) rfl) hS
  ·
    refine lv_aload_n hx hb d_Mo_function_14 rfl (lv_at hl 0 rfl) ?_
    refine lv_iload_n hx hb d_Mo_function_15 rfl (lv_at hl 1 rfl) ?_
    refine kx_callR (va_runV (As := [.int p0]) (rest := []) ⟨hx, hb, hml, hown, hts⟩ (c_Mo_isFile l D w0 ma fc nc tn ct pn ln p0 (by omega)) (gw_V 1 hts gw_386 gw_387 gw_488 gw_6 gw_388 rfl rfl (by decide +kernel) ⟨Nat.le_of_ble_eq_true rfl, Nat.le_of_ble_eq_true rfl⟩) (kx_preV (kx_ok D) hKK hK (hP.sub (ws' := [(w0, .inr (6, [.int (nI 0), .int (nI fc), .int (nI nc), .ref (ma 3), .ref (ma 4), .ref (ma 5), .ref (ma 6), .int (nI tn), .ref (ma 8), .ref (ma 9), .ref (ma 10), .ref (ma 11), .ref (ma 12), .ref (ma 13), .ref (ma 14), .ref (ma 15), .ref (ma 16), .ref (ma 17), .ref (ma 18), .ref (ma 19), .ref (ma 20), .ref (ma 21), .ref (ma 22), .int (nI ct), .int (nI pn), .ref (ma 25), .ref (ma 26), .ref (ma 27), .int (nI ln), .ref (ma 29), .ref (ma 30), .ref (ma 31)]))]) [0] rfl) 6 0 rfl rfl) rfl rfl hl.1 rfl (lv_room (Nat.le_of_ble_eq_true rfl)) d_Mo_function_16 ⟨Nat.le_of_ble_eq_true rfl, Nat.le_of_ble_eq_true rfl⟩) ?_
    refine W.eq (g2 := F0 m 19 ls [.int (kx_b (px_has fc p0))]) rfl ?_
    refine kx_ifb_ne (tgt := 24) hx hb d_Mo_function_19 (by decide) (fun c_19 => ?_) (fun c_19 => ?_)
    ·
      have hcf : nc < 40 ∧ px_has fc p0 = true := ⟨by omega, c_19⟩
      have hck0 := c_19
      obtain ⟨k0, hk0, rfl⟩ := px_has_t (by omega) c_19
      have hixk0 : px_ix (nI k0) = k0 := px_ix_nI (by omega)
      refine lv_aload_n hx hb d_Mo_function_24 rfl (lv_at hl 0 rfl) ?_
      refine va_get (D := D) (ci := 6) (v := .ref (ma 4)) (C := "TouchSelectModel") (T := tt_Mo) (N := 32) hx hb hts (in_Mo _) hown hK hP 0 rfl rfl 4 (by decide) (hts _ (gw_in gw_318)) (fun _ h9 => h9) rfl d_Mo_function_25 ?_
      refine lv_aload_n hx hb d_Mo_function_28 rfl (lv_at hl 0 rfl) ?_
      refine va_get (D := D) (ci := 6) (v := .int (nI nc)) (C := "TouchSelectModel") (T := tt_Mo) (N := 32) hx hb hts (in_Mo _) hown hK hP 0 rfl rfl 2 (by decide) (hts _ (gw_in gw_316)) (fun _ h9 => h9) rfl d_Mo_function_29 ?_
      refine lv_iload_n hx hb d_Mo_function_32 rfl (lv_at hl 1 rfl) ?_
      refine kx_iast hx hb hK hP hD hS 1 0 rfl rfl (k := nc) (by omega) (by omega) d_Mo_function_33 (fun H locs hP hD hS => ?_)
      replace hP : va_P D vwCl [(w0, .inr (6, [.int (nI 0), .int (nI fc), .int (nI nc), .ref (ma 3), .ref (ma 4), .ref (ma 5), .ref (ma 6), .int (nI tn), .ref (ma 8), .ref (ma 9), .ref (ma 10), .ref (ma 11), .ref (ma 12), .ref (ma 13), .ref (ma 14), .ref (ma 15), .ref (ma 16), .ref (ma 17), .ref (ma 18), .ref (ma 19), .ref (ma 20), .ref (ma 21), .ref (ma 22), .int (nI ct), .int (nI pn), .ref (ma 25), .ref (ma 26), .ref (ma 27), .int (nI ln), .ref (ma 29), .ref (ma 30), .ref (ma 31)])), ((ma 4), .inl (D.1 100, 40, .inl (kx_ni (va_up fo nc k0)))), ((ma 5), .inl (D.1 102, 40, .inr (.inl fn))), ((ma 6), .inl (D.1 101, 20, .inl (kx_bi tc)))] H := hP
      replace hD : va_D A [(w0, .inr (6, [.int (nI 0), .int (nI fc), .int (nI nc), .ref (ma 3), .ref (ma 4), .ref (ma 5), .ref (ma 6), .int (nI tn), .ref (ma 8), .ref (ma 9), .ref (ma 10), .ref (ma 11), .ref (ma 12), .ref (ma 13), .ref (ma 14), .ref (ma 15), .ref (ma 16), .ref (ma 17), .ref (ma 18), .ref (ma 19), .ref (ma 20), .ref (ma 21), .ref (ma 22), .int (nI ct), .int (nI pn), .ref (ma 25), .ref (ma 26), .ref (ma 27), .int (nI ln), .ref (ma 29), .ref (ma 30), .ref (ma 31)])), ((ma 4), .inl (D.1 100, 40, .inl (kx_ni (va_up fo nc k0)))), ((ma 5), .inl (D.1 102, 40, .inr (.inl fn))), ((ma 6), .inl (D.1 101, 20, .inl (kx_bi tc)))] := hD
      refine lv_aload_n hx hb d_Mo_function_34 rfl (lv_at hl 0 rfl) ?_
      refine va_get (D := D) (ci := 6) (v := .ref (ma 5)) (C := "TouchSelectModel") (T := tt_Mo) (N := 32) hx hb hts (in_Mo _) hown hK hP 0 rfl rfl 5 (by decide) (hts _ (gw_in gw_319)) (fun _ h9 => h9) rfl d_Mo_function_35 ?_
      refine lv_aload_n hx hb d_Mo_function_38 rfl (lv_at hl 0 rfl) ?_
      refine va_get (D := D) (ci := 6) (v := .int (nI nc)) (C := "TouchSelectModel") (T := tt_Mo) (N := 32) hx hb hts (in_Mo _) hown hK hP 0 rfl rfl 2 (by decide) (hts _ (gw_in gw_316)) (fun _ h9 => h9) rfl d_Mo_function_39 ?_
      refine lv_lload_n hx hb d_Mo_function_42 rfl (lv_at hl 2 rfl) ?_
      refine kx_last hx hb hK hP hD hS 2 2 rfl rfl (k := nc) (by omega) (by omega) d_Mo_function_43 (fun H locs hP hD hS => ?_)
      replace hP : va_P D vwCl [(w0, .inr (6, [.int (nI 0), .int (nI fc), .int (nI nc), .ref (ma 3), .ref (ma 4), .ref (ma 5), .ref (ma 6), .int (nI tn), .ref (ma 8), .ref (ma 9), .ref (ma 10), .ref (ma 11), .ref (ma 12), .ref (ma 13), .ref (ma 14), .ref (ma 15), .ref (ma 16), .ref (ma 17), .ref (ma 18), .ref (ma 19), .ref (ma 20), .ref (ma 21), .ref (ma 22), .int (nI ct), .int (nI pn), .ref (ma 25), .ref (ma 26), .ref (ma 27), .int (nI ln), .ref (ma 29), .ref (ma 30), .ref (ma 31)])), ((ma 4), .inl (D.1 100, 40, .inl (kx_ni (va_up fo nc k0)))), ((ma 5), .inl (D.1 102, 40, .inr (.inl (va_up fn nc d0)))), ((ma 6), .inl (D.1 101, 20, .inl (kx_bi tc)))] H := hP
      replace hD : va_D A [(w0, .inr (6, [.int (nI 0), .int (nI fc), .int (nI nc), .ref (ma 3), .ref (ma 4), .ref (ma 5), .ref (ma 6), .int (nI tn), .ref (ma 8), .ref (ma 9), .ref (ma 10), .ref (ma 11), .ref (ma 12), .ref (ma 13), .ref (ma 14), .ref (ma 15), .ref (ma 16), .ref (ma 17), .ref (ma 18), .ref (ma 19), .ref (ma 20), .ref (ma 21), .ref (ma 22), .int (nI ct), .int (nI pn), .ref (ma 25), .ref (ma 26), .ref (ma 27), .int (nI ln), .ref (ma 29), .ref (ma 30), .ref (ma 31)])), ((ma 4), .inl (D.1 100, 40, .inl (kx_ni (va_up fo nc k0)))), ((ma 5), .inl (D.1 102, 40, .inr (.inl (va_up fn nc d0)))), ((ma 6), .inl (D.1 101, 20, .inl (kx_bi tc)))] := hD
      refine lv_aload_n hx hb d_Mo_function_44 rfl (lv_at hl 0 rfl) ?_
      refine va_get (D := D) (ci := 6) (v := .ref (ma 6)) (C := "TouchSelectModel") (T := tt_Mo) (N := 32) hx hb hts (in_Mo _) hown hK hP 0 rfl rfl 6 (by decide) (hts _ (gw_in gw_320)) (fun _ h9 => h9) rfl d_Mo_function_45 ?_
      refine lv_iload_n hx hb d_Mo_function_48 rfl (lv_at hl 1 rfl) ?_
      refine lv_iconst (v := (nI 1)) hx hb d_Mo_function_49 (by decide) ?_
      refine kx_topi (show nI 1 = kx_b true from by decide) ?_
      refine kx_zast hx hb hK hP hD hS 3 1 rfl rfl (k := k0) (by omega) (by omega) d_Mo_function_50 (fun H locs hP hD hS => ?_)
      replace hP : va_P D vwCl [(w0, .inr (6, [.int (nI 0), .int (nI fc), .int (nI nc), .ref (ma 3), .ref (ma 4), .ref (ma 5), .ref (ma 6), .int (nI tn), .ref (ma 8), .ref (ma 9), .ref (ma 10), .ref (ma 11), .ref (ma 12), .ref (ma 13), .ref (ma 14), .ref (ma 15), .ref (ma 16), .ref (ma 17), .ref (ma 18), .ref (ma 19), .ref (ma 20), .ref (ma 21), .ref (ma 22), .int (nI ct), .int (nI pn), .ref (ma 25), .ref (ma 26), .ref (ma 27), .int (nI ln), .ref (ma 29), .ref (ma 30), .ref (ma 31)])), ((ma 4), .inl (D.1 100, 40, .inl (kx_ni (va_up fo nc k0)))), ((ma 5), .inl (D.1 102, 40, .inr (.inl (va_up fn nc d0)))), ((ma 6), .inl (D.1 101, 20, .inl (kx_bi (va_up tc k0 true))))] H := hP
      replace hD : va_D A [(w0, .inr (6, [.int (nI 0), .int (nI fc), .int (nI nc), .ref (ma 3), .ref (ma 4), .ref (ma 5), .ref (ma 6), .int (nI tn), .ref (ma 8), .ref (ma 9), .ref (ma 10), .ref (ma 11), .ref (ma 12), .ref (ma 13), .ref (ma 14), .ref (ma 15), .ref (ma 16), .ref (ma 17), .ref (ma 18), .ref (ma 19), .ref (ma 20), .ref (ma 21), .ref (ma 22), .int (nI ct), .int (nI pn), .ref (ma 25), .ref (ma 26), .ref (ma 27), .int (nI ln), .ref (ma 29), .ref (ma 30), .ref (ma 31)])), ((ma 4), .inl (D.1 100, 40, .inl (kx_ni (va_up fo nc k0)))), ((ma 5), .inl (D.1 102, 40, .inr (.inl (va_up fn nc d0)))), ((ma 6), .inl (D.1 101, 20, .inl (kx_bi (va_up tc k0 true))))] := hD
      refine lv_aload_n hx hb d_Mo_function_51 rfl (lv_at hl 0 rfl) ?_
      refine lv_dup hx hb d_Mo_function_52 rfl ?_
      refine va_get (D := D) (ci := 6) (v := .int (nI nc)) (C := "TouchSelectModel") (T := tt_Mo) (N := 32) hx hb hts (in_Mo _) hown hK hP 0 rfl rfl 2 (by decide) (hts _ (gw_in gw_316)) (fun _ h9 => h9) rfl d_Mo_function_53 ?_
      refine lv_iconst (v := (nI 1)) hx hb d_Mo_function_56 (by decide) ?_
      refine lv_iadd hx hb d_Mo_function_57 ?_
      refine kx_topi (nI_add nc 1) ?_
      refine va_put (D := D) (ci := 6) (v := .int (nI (nc + 1))) (ty := .int) (C := "TouchSelectModel") (T := tt_Mo) (N := 32) hx hb hts (in_Mo _) ty_Mo ty_Mo_ok nm_Mo hown hK hP hD hS 0 rfl rfl 2 (by decide) (hts _ (gw_in gw_316)) (fun _ h9 => h9) rfl (by decide +kernel) rfl rfl (Nat.le_of_ble_eq_true rfl) d_Mo_function_58 (fun H locs hP hD hS => ?_)
      replace hP : va_P D vwCl [(w0, .inr (6, [.int (nI 0), .int (nI fc), .int (nI (nc + 1)), .ref (ma 3), .ref (ma 4), .ref (ma 5), .ref (ma 6), .int (nI tn), .ref (ma 8), .ref (ma 9), .ref (ma 10), .ref (ma 11), .ref (ma 12), .ref (ma 13), .ref (ma 14), .ref (ma 15), .ref (ma 16), .ref (ma 17), .ref (ma 18), .ref (ma 19), .ref (ma 20), .ref (ma 21), .ref (ma 22), .int (nI ct), .int (nI pn), .ref (ma 25), .ref (ma 26), .ref (ma 27), .int (nI ln), .ref (ma 29), .ref (ma 30), .ref (ma 31)])), ((ma 4), .inl (D.1 100, 40, .inl (kx_ni (va_up fo nc k0)))), ((ma 5), .inl (D.1 102, 40, .inr (.inl (va_up fn nc d0)))), ((ma 6), .inl (D.1 101, 20, .inl (kx_bi (va_up tc k0 true))))] H := hP
      replace hD : va_D A [(w0, .inr (6, [.int (nI 0), .int (nI fc), .int (nI (nc + 1)), .ref (ma 3), .ref (ma 4), .ref (ma 5), .ref (ma 6), .int (nI tn), .ref (ma 8), .ref (ma 9), .ref (ma 10), .ref (ma 11), .ref (ma 12), .ref (ma 13), .ref (ma 14), .ref (ma 15), .ref (ma 16), .ref (ma 17), .ref (ma 18), .ref (ma 19), .ref (ma 20), .ref (ma 21), .ref (ma 22), .int (nI ct), .int (nI pn), .ref (ma 25), .ref (ma 26), .ref (ma 27), .int (nI ln), .ref (ma 29), .ref (ma 30), .ref (ma 31)])), ((ma 4), .inl (D.1 100, 40, .inl (kx_ni (va_up fo nc k0)))), ((ma 5), .inl (D.1 102, 40, .inr (.inl (va_up fn nc d0)))), ((ma 6), .inl (D.1 101, 20, .inl (kx_bi (va_up tc k0 true))))] := hD
      refine lv_aload_n hx hb d_Mo_function_61 rfl (lv_at hl 0 rfl) ?_
      refine va_get (D := D) (ci := 6) (v := .int (nI (nc + 1))) (C := "TouchSelectModel") (T := tt_Mo) (N := 32) hx hb hts (in_Mo _) hown hK hP 0 rfl rfl 2 (by decide) (hts _ (gw_in gw_316)) (fun _ h9 => h9) rfl d_Mo_function_62 ?_
      refine lv_iconst (v := (nI 1)) hx hb d_Mo_function_65 (by decide) ?_
      refine lv_isub hx hb d_Mo_function_66 ?_
      refine kx_topi (kx_pred nc) ?_
      exact hQi () d_Mo_function_67 rfl (by rw [if_pos hcf]) trivial (by simp only [if_pos hcf, hixk0]; exact hP.sub [0, 1, 2, 3] rfl) (by simp only [if_pos hcf, hixk0]; exact hD.sub [0, 1, 2, 3] (by decide) rfl) hS
    ·
      refine lv_iconst (v := (-1)) hx hb d_Mo_function_22 (by decide) ?_
      exact hQi () d_Mo_function_23 rfl (by rw [if_neg (show ¬ (nc < 40 ∧ px_has fc p0 = true) from fun h9 => absurd (h9.2.symm.trans c_19) (by decide))]) trivial (by simp only [if_neg (show ¬ (nc < 40 ∧ px_has fc p0 = true) from fun h9 => absurd (h9.2.symm.trans c_19) (by decide))]; exact hP.sub [0, 1, 2, 3] rfl) (by simp only [if_neg (show ¬ (nc < 40 ∧ px_has fc p0 = true) from fun h9 => absurd (h9.2.symm.trans c_19) (by decide))]; exact hD.sub [0, 1, 2, 3] (by decide) rfl) hS
def rm_Mo_change : Room := { frames := 1, cells := 0, slots := 0, locals := 21 }
set_option maxHeartbeats 4000000 in
set_option maxRecDepth 100000 in
/-- change(p0, d0) -/
theorem c_Mo_change (l : Launch) (D : va_G) (w0 : Nat) (ma : Nat → Nat) (fc : Nat) (nc : Nat) (tn : Nat) (ct : Nat) (pn : Nat) (ln : Nat) (rs : Nat → Int64) (tc : Nat → Bool) (p0 : Int32) (d0 : Int64) (sz : Nat) (hfc : fc ≤ 20) : Met l yy_Mo_change ww_Mo_change rm_Mo_change (va_Pc [.ref w0, .int p0, .long d0] (kx_C (kx_K D) D vwCl [(w0, .inr (6, [.int (nI 0), .int (nI fc), .int (nI nc), .ref (ma 3), .ref (ma 4), .ref (ma 5), .ref (ma 6), .int (nI tn), .ref (ma 8), .ref (ma 9), .ref (ma 10), .ref (ma 11), .ref (ma 12), .ref (ma 13), .ref (ma 14), .ref (ma 15), .ref (ma 16), .ref (ma 17), .ref (ma 18), .ref (ma 19), .ref (ma 20), .ref (ma 21), .ref (ma 22), .int (nI ct), .int (nI pn), .ref (ma 25), .ref (ma 26), .ref (ma 27), .int (nI ln), .ref (ma 29), .ref (ma 30), .ref (ma 31)])), ((ma 3), .inl (D.1 102, 20, .inr (.inl rs))), ((ma 6), .inl (D.1 101, 20, .inl (kx_bi tc)))] sz)) (kx_Q (S := Unit) D vwCl (fun _ => some (.int (kx_b (px_has fc p0)))) (fun _ => True) (fun _ => [(w0, .inr (6, [.int (nI 0), .int (nI fc), .int (nI nc), .ref (ma 3), .ref (ma 4), .ref (ma 5), .ref (ma 6), .int (nI tn), .ref (ma 8), .ref (ma 9), .ref (ma 10), .ref (ma 11), .ref (ma 12), .ref (ma 13), .ref (ma 14), .ref (ma 15), .ref (ma 16), .ref (ma 17), .ref (ma 18), .ref (ma 19), .ref (ma 20), .ref (ma 21), .ref (ma 22), .int (nI ct), .int (nI pn), .ref (ma 25), .ref (ma 26), .ref (ma 27), .int (nI ln), .ref (ma 29), .ref (ma 30), .ref (ma 31)])), ((ma 3), .inl (D.1 102, 20, .inr (.inl (if px_has fc p0 = true then va_up rs (px_ix p0) d0 else rs)))), ((ma 6), .inl (D.1 101, 20, .inl (kx_bi (if px_has fc p0 = true ∧ rs (px_ix p0) ≠ d0 then va_up tc (px_ix p0) true else tc))))]) (va_A [(w0, .inr (6, [.int (nI 0), .int (nI fc), .int (nI nc), .ref (ma 3), .ref (ma 4), .ref (ma 5), .ref (ma 6), .int (nI tn), .ref (ma 8), .ref (ma 9), .ref (ma 10), .ref (ma 11), .ref (ma 12), .ref (ma 13), .ref (ma 14), .ref (ma 15), .ref (ma 16), .ref (ma 17), .ref (ma 18), .ref (ma 19), .ref (ma 20), .ref (ma 21), .ref (ma 22), .int (nI ct), .int (nI pn), .ref (ma 25), .ref (ma 26), .ref (ma 27), .int (nI ln), .ref (ma 29), .ref (ma 30), .ref (ma 31)])), ((ma 3), .inl (D.1 102, 20, .inr (.inl rs))), ((ma 6), .inl (D.1 101, 20, .inl (kx_bi tc)))] sz)) 0 0 (va_A [(w0, .inr (6, [.int (nI 0), .int (nI fc), .int (nI nc), .ref (ma 3), .ref (ma 4), .ref (ma 5), .ref (ma 6), .int (nI tn), .ref (ma 8), .ref (ma 9), .ref (ma 10), .ref (ma 11), .ref (ma 12), .ref (ma 13), .ref (ma 14), .ref (ma 15), .ref (ma 16), .ref (ma 17), .ref (ma 18), .ref (ma 19), .ref (ma 20), .ref (ma 21), .ref (ma 22), .int (nI ct), .int (nI pn), .ref (ma 25), .ref (ma 26), .ref (ma 27), .int (nI ln), .ref (ma 29), .ref (ma 30), .ref (ma 31)])), ((ma 3), .inl (D.1 102, 20, .inr (.inl rs))), ((ma 6), .inl (D.1 101, 20, .inl (kx_bi tc)))] sz) := by
  refine kx_metW (by decide) rfl (Nat.le_of_ble_eq_true rfl) ?_
  intro p e s m args below meth c ls Q A hx hb hts hown hml hin hA hP hD hS hKK hl hQi hQz hQa hQv
  have hK := hKK.1
  replace hown : s.vm.findClass "TouchSelectModel" = some m.cls := hown
  replace hl : lv_has ls 4 [(0, .ref w0), (1, .int p0), (2, .long d0)] := hl
  refine lv_aload_n hx hb d_Mo_change_0 rfl (lv_at hl 0 rfl) ?_
  refine lv_iconst (v := (nI 0)) hx hb d_Mo_change_1 (by decide) ?_
  refine va_put (D := D) (ci := 6) (v := .int (nI 0)) (ty := .int) (C := "TouchSelectModel") (T := tt_Mo) (N := 32) hx hb hts (in_Mo _) ty_Mo ty_Mo_ok nm_Mo hown hK hP hD hS 0 rfl rfl 0 (by decide) (hts _ (gw_in gw_314)) (fun _ h9 => h9) rfl (by decide +kernel) rfl rfl (Nat.le_of_ble_eq_true rfl) d_Mo_change_2 (fun H locs hP hD hS => ?_)
  replace hP : va_P D vwCl [(w0, .inr (6, [.int (nI 0), .int (nI fc), .int (nI nc), .ref (ma 3), .ref (ma 4), .ref (ma 5), .ref (ma 6), .int (nI tn), .ref (ma 8), .ref (ma 9), .ref (ma 10), .ref (ma 11), .ref (ma 12), .ref (ma 13), .ref (ma 14), .ref (ma 15), .ref (ma 16), .ref (ma 17), .ref (ma 18), .ref (ma 19), .ref (ma 20), .ref (ma 21), .ref (ma 22), .int (nI ct), .int (nI pn), .ref (ma 25), .ref (ma 26), .ref (ma 27), .int (nI ln), .ref (ma 29), .ref (ma 30), .ref (ma 31)])), ((ma 3), .inl (D.1 102, 20, .inr (.inl rs))), ((ma 6), .inl (D.1 101, 20, .inl (kx_bi tc)))] H := hP
  replace hD : va_D A [(w0, .inr (6, [.int (nI 0), .int (nI fc), .int (nI nc), .ref (ma 3), .ref (ma 4), .ref (ma 5), .ref (ma 6), .int (nI tn), .ref (ma 8), .ref (ma 9), .ref (ma 10), .ref (ma 11), .ref (ma 12), .ref (ma 13), .ref (ma 14), .ref (ma 15), .ref (ma 16), .ref (ma 17), .ref (ma 18), .ref (ma 19), .ref (ma 20), .ref (ma 21), .ref (ma 22), .int (nI ct), .int (nI pn), .ref (ma 25), .ref (ma 26), .ref (ma 27), .int (nI ln), .ref (ma 29), .ref (ma 30), .ref (ma 31)])), ((ma 3), .inl (D.1 102, 20, .inr (.inl rs))), ((ma 6), .inl (D.1 101, 20, .inl (kx_bi tc)))] := hD
  refine lv_aload_n hx hb d_Mo_change_5 rfl (lv_at hl 0 rfl) ?_
  refine lv_iload_n hx hb d_Mo_change_6 rfl (lv_at hl 1 rfl) ?_
  refine kx_callR (va_runV (As := [.int p0]) (rest := []) ⟨hx, hb, hml, hown, hts⟩ (c_Mo_isFile l D w0 ma fc nc tn ct pn ln p0 (by omega)) (gw_V 1 hts gw_386 gw_387 gw_488 gw_6 gw_388 rfl rfl (by decide +kernel) ⟨Nat.le_of_ble_eq_true rfl, Nat.le_of_ble_eq_true rfl⟩) (kx_preV (kx_ok D) hKK hK (hP.sub (ws' := [(w0, .inr (6, [.int (nI 0), .int (nI fc), .int (nI nc), .ref (ma 3), .ref (ma 4), .ref (ma 5), .ref (ma 6), .int (nI tn), .ref (ma 8), .ref (ma 9), .ref (ma 10), .ref (ma 11), .ref (ma 12), .ref (ma 13), .ref (ma 14), .ref (ma 15), .ref (ma 16), .ref (ma 17), .ref (ma 18), .ref (ma 19), .ref (ma 20), .ref (ma 21), .ref (ma 22), .int (nI ct), .int (nI pn), .ref (ma 25), .ref (ma 26), .ref (ma 27), .int (nI ln), .ref (ma 29), .ref (ma 30), .ref (ma 31)]))]) [0] rfl) 6 0 rfl rfl) rfl rfl hl.1 rfl (lv_room (Nat.le_of_ble_eq_true rfl)) d_Mo_change_7 ⟨Nat.le_of_ble_eq_true rfl, Nat.le_of_ble_eq_true rfl⟩) ?_
  refine W.eq (g2 := F0 m 10 ls [.int (kx_b (px_has fc p0))]) rfl ?_
  refine kx_ifb_ne (tgt := 15) hx hb d_Mo_change_10 (by decide) (fun c_10 => ?_) (fun c_10 => ?_)
  ·
    have hck0 := c_10
    obtain ⟨k0, hk0, rfl⟩ := px_has_t (by omega) c_10
    have hixk0 : px_ix (nI k0) = k0 := px_ix_nI (by omega)
    refine lv_aload_n hx hb d_Mo_change_15 rfl (lv_at hl 0 rfl) ?_
    refine va_get (D := D) (ci := 6) (v := .ref (ma 3)) (C := "TouchSelectModel") (T := tt_Mo) (N := 32) hx hb hts (in_Mo _) hown hK hP 0 rfl rfl 3 (by decide) (hts _ (gw_in gw_317)) (fun _ h9 => h9) rfl d_Mo_change_16 ?_
    refine lv_iload_n hx hb d_Mo_change_19 rfl (lv_at hl 1 rfl) ?_
    refine kx_lald hx hb hK hP 1 2 rfl rfl (k := k0) (by omega) (by omega) d_Mo_change_20 ?_
    refine lv_lload_n hx hb d_Mo_change_21 rfl (lv_at hl 2 rfl) ?_
    refine W.lcmp hx hb d_Mo_change_22 ?_
    refine kx_ifc_eq (tgt := 33) hx hb d_Mo_change_23 (by decide) (fun c_23 => ?_) (fun c_23 => ?_)
    ·
      have hcf : ¬ (px_has fc (nI k0) = true ∧ rs k0 ≠ d0) := fun h9 => h9.2 c_23
      refine lv_aload_n hx hb d_Mo_change_33 rfl (lv_at hl 0 rfl) ?_
      refine va_get (D := D) (ci := 6) (v := .ref (ma 3)) (C := "TouchSelectModel") (T := tt_Mo) (N := 32) hx hb hts (in_Mo _) hown hK hP 0 rfl rfl 3 (by decide) (hts _ (gw_in gw_317)) (fun _ h9 => h9) rfl d_Mo_change_34 ?_
      refine lv_iload_n hx hb d_Mo_change_37 rfl (lv_at hl 1 rfl) ?_
      refine lv_lload_n hx hb d_Mo_change_38 rfl (lv_at hl 2 rfl) ?_
      refine kx_last hx hb hK hP hD hS 1 2 rfl rfl (k := k0) (by omega) (by omega) d_Mo_change_39 (fun H locs hP hD hS => ?_)
      replace hP : va_P D vwCl [(w0, .inr (6, [.int (nI 0), .int (nI fc), .int (nI nc), .ref (ma 3), .ref (ma 4), .ref (ma 5), .ref (ma 6), .int (nI tn), .ref (ma 8), .ref (ma 9), .ref (ma 10), .ref (ma 11), .ref (ma 12), .ref (ma 13), .ref (ma 14), .ref (ma 15), .ref (ma 16), .ref (ma 17), .ref (ma 18), .ref (ma 19), .ref (ma 20), .ref (ma 21), .ref (ma 22), .int (nI ct), .int (nI pn), .ref (ma 25), .ref (ma 26), .ref (ma 27), .int (nI ln), .ref (ma 29), .ref (ma 30), .ref (ma 31)])), ((ma 3), .inl (D.1 102, 20, .inr (.inl (va_up rs k0 d0)))), ((ma 6), .inl (D.1 101, 20, .inl (kx_bi tc)))] H := hP
      replace hD : va_D A [(w0, .inr (6, [.int (nI 0), .int (nI fc), .int (nI nc), .ref (ma 3), .ref (ma 4), .ref (ma 5), .ref (ma 6), .int (nI tn), .ref (ma 8), .ref (ma 9), .ref (ma 10), .ref (ma 11), .ref (ma 12), .ref (ma 13), .ref (ma 14), .ref (ma 15), .ref (ma 16), .ref (ma 17), .ref (ma 18), .ref (ma 19), .ref (ma 20), .ref (ma 21), .ref (ma 22), .int (nI ct), .int (nI pn), .ref (ma 25), .ref (ma 26), .ref (ma 27), .int (nI ln), .ref (ma 29), .ref (ma 30), .ref (ma 31)])), ((ma 3), .inl (D.1 102, 20, .inr (.inl (va_up rs k0 d0)))), ((ma 6), .inl (D.1 101, 20, .inl (kx_bi tc)))] := hD
      refine lv_iconst (v := (nI 1)) hx hb d_Mo_change_40 (by decide) ?_
      refine kx_topi (show nI 1 = kx_b true from by decide) ?_
      exact hQz () d_Mo_change_41 rfl (by rw [hck0]) trivial (by simp only [hixk0, if_pos hck0, if_neg hcf]; exact hP.sub [0, 1, 2] rfl) (by simp only [hixk0, if_pos hck0, if_neg hcf]; exact hD.sub [0, 1, 2] (by decide) rfl) hS
    ·
      have hcf : px_has fc (nI k0) = true ∧ rs k0 ≠ d0 := ⟨hck0, c_23⟩
      refine lv_aload_n hx hb d_Mo_change_26 rfl (lv_at hl 0 rfl) ?_
      refine va_get (D := D) (ci := 6) (v := .ref (ma 6)) (C := "TouchSelectModel") (T := tt_Mo) (N := 32) hx hb hts (in_Mo _) hown hK hP 0 rfl rfl 6 (by decide) (hts _ (gw_in gw_320)) (fun _ h9 => h9) rfl d_Mo_change_27 ?_
      refine lv_iload_n hx hb d_Mo_change_30 rfl (lv_at hl 1 rfl) ?_
      refine lv_iconst (v := (nI 1)) hx hb d_Mo_change_31 (by decide) ?_
      refine kx_topi (show nI 1 = kx_b true from by decide) ?_
      refine kx_zast hx hb hK hP hD hS 2 1 rfl rfl (k := k0) (by omega) (by omega) d_Mo_change_32 (fun H locs hP hD hS => ?_)
      replace hP : va_P D vwCl [(w0, .inr (6, [.int (nI 0), .int (nI fc), .int (nI nc), .ref (ma 3), .ref (ma 4), .ref (ma 5), .ref (ma 6), .int (nI tn), .ref (ma 8), .ref (ma 9), .ref (ma 10), .ref (ma 11), .ref (ma 12), .ref (ma 13), .ref (ma 14), .ref (ma 15), .ref (ma 16), .ref (ma 17), .ref (ma 18), .ref (ma 19), .ref (ma 20), .ref (ma 21), .ref (ma 22), .int (nI ct), .int (nI pn), .ref (ma 25), .ref (ma 26), .ref (ma 27), .int (nI ln), .ref (ma 29), .ref (ma 30), .ref (ma 31)])), ((ma 3), .inl (D.1 102, 20, .inr (.inl rs))), ((ma 6), .inl (D.1 101, 20, .inl (kx_bi (va_up tc k0 true))))] H := hP
      replace hD : va_D A [(w0, .inr (6, [.int (nI 0), .int (nI fc), .int (nI nc), .ref (ma 3), .ref (ma 4), .ref (ma 5), .ref (ma 6), .int (nI tn), .ref (ma 8), .ref (ma 9), .ref (ma 10), .ref (ma 11), .ref (ma 12), .ref (ma 13), .ref (ma 14), .ref (ma 15), .ref (ma 16), .ref (ma 17), .ref (ma 18), .ref (ma 19), .ref (ma 20), .ref (ma 21), .ref (ma 22), .int (nI ct), .int (nI pn), .ref (ma 25), .ref (ma 26), .ref (ma 27), .int (nI ln), .ref (ma 29), .ref (ma 30), .ref (ma 31)])), ((ma 3), .inl (D.1 102, 20, .inr (.inl rs))), ((ma 6), .inl (D.1 101, 20, .inl (kx_bi (va_up tc k0 true))))] := hD
      refine lv_aload_n hx hb d_Mo_change_33 rfl (lv_at hl 0 rfl) ?_
      refine va_get (D := D) (ci := 6) (v := .ref (ma 3)) (C := "TouchSelectModel") (T := tt_Mo) (N := 32) hx hb hts (in_Mo _) hown hK hP 0 rfl rfl 3 (by decide) (hts _ (gw_in gw_317)) (fun _ h9 => h9) rfl d_Mo_change_34 ?_
      refine lv_iload_n hx hb d_Mo_change_37 rfl (lv_at hl 1 rfl) ?_
      refine lv_lload_n hx hb d_Mo_change_38 rfl (lv_at hl 2 rfl) ?_
      refine kx_last hx hb hK hP hD hS 1 2 rfl rfl (k := k0) (by omega) (by omega) d_Mo_change_39 (fun H locs hP hD hS => ?_)
      replace hP : va_P D vwCl [(w0, .inr (6, [.int (nI 0), .int (nI fc), .int (nI nc), .ref (ma 3), .ref (ma 4), .ref (ma 5), .ref (ma 6), .int (nI tn), .ref (ma 8), .ref (ma 9), .ref (ma 10), .ref (ma 11), .ref (ma 12), .ref (ma 13), .ref (ma 14), .ref (ma 15), .ref (ma 16), .ref (ma 17), .ref (ma 18), .ref (ma 19), .ref (ma 20), .ref (ma 21), .ref (ma 22), .int (nI ct), .int (nI pn), .ref (ma 25), .ref (ma 26), .ref (ma 27), .int (nI ln), .ref (ma 29), .ref (ma 30), .ref (ma 31)])), ((ma 3), .inl (D.1 102, 20, .inr (.inl (va_up rs k0 d0)))), ((ma 6), .inl (D.1 101, 20, .inl (kx_bi (va_up tc k0 true))))] H := hP
      replace hD : va_D A [(w0, .inr (6, [.int (nI 0), .int (nI fc), .int (nI nc), .ref (ma 3), .ref (ma 4), .ref (ma 5), .ref (ma 6), .int (nI tn), .ref (ma 8), .ref (ma 9), .ref (ma 10), .ref (ma 11), .ref (ma 12), .ref (ma 13), .ref (ma 14), .ref (ma 15), .ref (ma 16), .ref (ma 17), .ref (ma 18), .ref (ma 19), .ref (ma 20), .ref (ma 21), .ref (ma 22), .int (nI ct), .int (nI pn), .ref (ma 25), .ref (ma 26), .ref (ma 27), .int (nI ln), .ref (ma 29), .ref (ma 30), .ref (ma 31)])), ((ma 3), .inl (D.1 102, 20, .inr (.inl (va_up rs k0 d0)))), ((ma 6), .inl (D.1 101, 20, .inl (kx_bi (va_up tc k0 true))))] := hD
      refine lv_iconst (v := (nI 1)) hx hb d_Mo_change_40 (by decide) ?_
      refine kx_topi (show nI 1 = kx_b true from by decide) ?_
      exact hQz () d_Mo_change_41 rfl (by rw [hck0]) trivial (by simp only [hixk0, if_pos hck0, if_pos hcf]; exact hP.sub [0, 1, 2] rfl) (by simp only [hixk0, if_pos hck0, if_pos hcf]; exact hD.sub [0, 1, 2] (by decide) rfl) hS
  ·
    refine lv_iconst (v := (nI 0)) hx hb d_Mo_change_13 (by decide) ?_
    refine kx_topi (show nI 0 = kx_b false from by decide) ?_
    exact hQz () d_Mo_change_14 rfl (by rw [c_10]) trivial (by simp only [if_neg (show ¬ (px_has fc p0 = true) by rw [c_10]; decide), if_neg (show ¬ (px_has fc p0 = true ∧ rs (px_ix p0) ≠ d0) from fun h9 => absurd (h9.1.symm.trans c_10) (by decide))]; exact hP.sub [0, 1, 2] rfl) (by simp only [if_neg (show ¬ (px_has fc p0 = true) by rw [c_10]; decide), if_neg (show ¬ (px_has fc p0 = true ∧ rs (px_ix p0) ≠ d0) from fun h9 => absurd (h9.1.symm.trans c_10) (by decide))]; exact hD.sub [0, 1, 2] (by decide) rfl) hS
def rm_Mo_changeFunction : Room := { frames := 1, cells := 0, slots := 0, locals := 21 }
set_option maxHeartbeats 4000000 in
set_option maxRecDepth 100000 in
/-- changeFunction(p0, d0) -/
theorem c_Mo_changeFunction (l : Launch) (D : va_G) (w0 : Nat) (ma : Nat → Nat) (fc : Nat) (nc : Nat) (tn : Nat) (ct : Nat) (pn : Nat) (ln : Nat) (fn : Nat → Int64) (tc : Nat → Bool) (fo : Nat → Nat) (p0 : Int32) (d0 : Int64) (sz : Nat) (hnc : nc ≤ 40) (hfo : ∀ j, fo j < 20) : Met l yy_Mo_changeFunction ww_Mo_changeFunction rm_Mo_changeFunction (va_Pc [.ref w0, .int p0, .long d0] (kx_C (kx_K D) D vwCl [(w0, .inr (6, [.int (nI 0), .int (nI fc), .int (nI nc), .ref (ma 3), .ref (ma 4), .ref (ma 5), .ref (ma 6), .int (nI tn), .ref (ma 8), .ref (ma 9), .ref (ma 10), .ref (ma 11), .ref (ma 12), .ref (ma 13), .ref (ma 14), .ref (ma 15), .ref (ma 16), .ref (ma 17), .ref (ma 18), .ref (ma 19), .ref (ma 20), .ref (ma 21), .ref (ma 22), .int (nI ct), .int (nI pn), .ref (ma 25), .ref (ma 26), .ref (ma 27), .int (nI ln), .ref (ma 29), .ref (ma 30), .ref (ma 31)])), ((ma 5), .inl (D.1 102, 40, .inr (.inl fn))), ((ma 6), .inl (D.1 101, 20, .inl (kx_bi tc))), ((ma 4), .inl (D.1 100, 40, .inl (kx_ni fo)))] sz)) (kx_Q (S := Unit) D vwCl (fun _ => some (.int (kx_b (px_has nc p0)))) (fun _ => True) (fun _ => [(w0, .inr (6, [.int (nI 0), .int (nI fc), .int (nI nc), .ref (ma 3), .ref (ma 4), .ref (ma 5), .ref (ma 6), .int (nI tn), .ref (ma 8), .ref (ma 9), .ref (ma 10), .ref (ma 11), .ref (ma 12), .ref (ma 13), .ref (ma 14), .ref (ma 15), .ref (ma 16), .ref (ma 17), .ref (ma 18), .ref (ma 19), .ref (ma 20), .ref (ma 21), .ref (ma 22), .int (nI ct), .int (nI pn), .ref (ma 25), .ref (ma 26), .ref (ma 27), .int (nI ln), .ref (ma 29), .ref (ma 30), .ref (ma 31)])), ((ma 5), .inl (D.1 102, 40, .inr (.inl (if px_has nc p0 = true then va_up fn (px_ix p0) d0 else fn)))), ((ma 6), .inl (D.1 101, 20, .inl (kx_bi (if px_has nc p0 = true ∧ fn (px_ix p0) ≠ d0 then va_up tc (fo (px_ix p0)) true else tc)))), ((ma 4), .inl (D.1 100, 40, .inl (kx_ni fo)))]) (va_A [(w0, .inr (6, [.int (nI 0), .int (nI fc), .int (nI nc), .ref (ma 3), .ref (ma 4), .ref (ma 5), .ref (ma 6), .int (nI tn), .ref (ma 8), .ref (ma 9), .ref (ma 10), .ref (ma 11), .ref (ma 12), .ref (ma 13), .ref (ma 14), .ref (ma 15), .ref (ma 16), .ref (ma 17), .ref (ma 18), .ref (ma 19), .ref (ma 20), .ref (ma 21), .ref (ma 22), .int (nI ct), .int (nI pn), .ref (ma 25), .ref (ma 26), .ref (ma 27), .int (nI ln), .ref (ma 29), .ref (ma 30), .ref (ma 31)])), ((ma 5), .inl (D.1 102, 40, .inr (.inl fn))), ((ma 6), .inl (D.1 101, 20, .inl (kx_bi tc))), ((ma 4), .inl (D.1 100, 40, .inl (kx_ni fo)))] sz)) 0 0 (va_A [(w0, .inr (6, [.int (nI 0), .int (nI fc), .int (nI nc), .ref (ma 3), .ref (ma 4), .ref (ma 5), .ref (ma 6), .int (nI tn), .ref (ma 8), .ref (ma 9), .ref (ma 10), .ref (ma 11), .ref (ma 12), .ref (ma 13), .ref (ma 14), .ref (ma 15), .ref (ma 16), .ref (ma 17), .ref (ma 18), .ref (ma 19), .ref (ma 20), .ref (ma 21), .ref (ma 22), .int (nI ct), .int (nI pn), .ref (ma 25), .ref (ma 26), .ref (ma 27), .int (nI ln), .ref (ma 29), .ref (ma 30), .ref (ma 31)])), ((ma 5), .inl (D.1 102, 40, .inr (.inl fn))), ((ma 6), .inl (D.1 101, 20, .inl (kx_bi tc))), ((ma 4), .inl (D.1 100, 40, .inl (kx_ni fo)))] sz) := by
  refine kx_metW (by decide) rfl (Nat.le_of_ble_eq_true rfl) ?_
  intro p e s m args below meth c ls Q A hx hb hts hown hml hin hA hP hD hS hKK hl hQi hQz hQa hQv
  have hK := hKK.1
  replace hown : s.vm.findClass "TouchSelectModel" = some m.cls := hown
  replace hl : lv_has ls 4 [(0, .ref w0), (1, .int p0), (2, .long d0)] := hl
  refine lv_aload_n hx hb d_Mo_changeFunction_0 rfl (lv_at hl 0 rfl) ?_
  refine lv_iconst (v := (nI 0)) hx hb d_Mo_changeFunction_1 (by decide) ?_
  refine va_put (D := D) (ci := 6) (v := .int (nI 0)) (ty := .int) (C := "TouchSelectModel") (T := tt_Mo) (N := 32) hx hb hts (in_Mo _) ty_Mo ty_Mo_ok nm_Mo hown hK hP hD hS 0 rfl rfl 0 (by decide) (hts _ (gw_in gw_314)) (fun _ h9 => h9) rfl (by decide +kernel) rfl rfl (Nat.le_of_ble_eq_true rfl) d_Mo_changeFunction_2 (fun H locs hP hD hS => ?_)
  replace hP : va_P D vwCl [(w0, .inr (6, [.int (nI 0), .int (nI fc), .int (nI nc), .ref (ma 3), .ref (ma 4), .ref (ma 5), .ref (ma 6), .int (nI tn), .ref (ma 8), .ref (ma 9), .ref (ma 10), .ref (ma 11), .ref (ma 12), .ref (ma 13), .ref (ma 14), .ref (ma 15), .ref (ma 16), .ref (ma 17), .ref (ma 18), .ref (ma 19), .ref (ma 20), .ref (ma 21), .ref (ma 22), .int (nI ct), .int (nI pn), .ref (ma 25), .ref (ma 26), .ref (ma 27), .int (nI ln), .ref (ma 29), .ref (ma 30), .ref (ma 31)])), ((ma 5), .inl (D.1 102, 40, .inr (.inl fn))), ((ma 6), .inl (D.1 101, 20, .inl (kx_bi tc))), ((ma 4), .inl (D.1 100, 40, .inl (kx_ni fo)))] H := hP
  replace hD : va_D A [(w0, .inr (6, [.int (nI 0), .int (nI fc), .int (nI nc), .ref (ma 3), .ref (ma 4), .ref (ma 5), .ref (ma 6), .int (nI tn), .ref (ma 8), .ref (ma 9), .ref (ma 10), .ref (ma 11), .ref (ma 12), .ref (ma 13), .ref (ma 14), .ref (ma 15), .ref (ma 16), .ref (ma 17), .ref (ma 18), .ref (ma 19), .ref (ma 20), .ref (ma 21), .ref (ma 22), .int (nI ct), .int (nI pn), .ref (ma 25), .ref (ma 26), .ref (ma 27), .int (nI ln), .ref (ma 29), .ref (ma 30), .ref (ma 31)])), ((ma 5), .inl (D.1 102, 40, .inr (.inl fn))), ((ma 6), .inl (D.1 101, 20, .inl (kx_bi tc))), ((ma 4), .inl (D.1 100, 40, .inl (kx_ni fo)))] := hD
  refine lv_aload_n hx hb d_Mo_changeFunction_5 rfl (lv_at hl 0 rfl) ?_
  refine lv_iload_n hx hb d_Mo_changeFunction_6 rfl (lv_at hl 1 rfl) ?_
  refine kx_callR (va_runV (As := [.int p0]) (rest := []) ⟨hx, hb, hml, hown, hts⟩ (c_Mo_isFunction l D w0 ma fc nc tn ct pn ln p0 (by omega)) (gw_V 1 hts gw_397 gw_398 gw_489 gw_6 gw_399 rfl rfl (by decide +kernel) ⟨Nat.le_of_ble_eq_true rfl, Nat.le_of_ble_eq_true rfl⟩) (kx_preV (kx_ok D) hKK hK (hP.sub (ws' := [(w0, .inr (6, [.int (nI 0), .int (nI fc), .int (nI nc), .ref (ma 3), .ref (ma 4), .ref (ma 5), .ref (ma 6), .int (nI tn), .ref (ma 8), .ref (ma 9), .ref (ma 10), .ref (ma 11), .ref (ma 12), .ref (ma 13), .ref (ma 14), .ref (ma 15), .ref (ma 16), .ref (ma 17), .ref (ma 18), .ref (ma 19), .ref (ma 20), .ref (ma 21), .ref (ma 22), .int (nI ct), .int (nI pn), .ref (ma 25), .ref (ma 26), .ref (ma 27), .int (nI ln), .ref (ma 29), .ref (ma 30), .ref (ma 31)]))]) [0] rfl) 6 0 rfl rfl) rfl rfl hl.1 rfl (lv_room (Nat.le_of_ble_eq_true rfl)) d_Mo_changeFunction_7 ⟨Nat.le_of_ble_eq_true rfl, Nat.le_of_ble_eq_true rfl⟩) ?_
  refine W.eq (g2 := F0 m 10 ls [.int (kx_b (px_has nc p0))]) rfl ?_
  refine kx_ifb_ne (tgt := 15) hx hb d_Mo_changeFunction_10 (by decide) (fun c_10 => ?_) (fun c_10 => ?_)
  ·
    have hck0 := c_10
    obtain ⟨k0, hk0, rfl⟩ := px_has_t (by omega) c_10
    have hixk0 : px_ix (nI k0) = k0 := px_ix_nI (by omega)
    refine lv_aload_n hx hb d_Mo_changeFunction_15 rfl (lv_at hl 0 rfl) ?_
    refine va_get (D := D) (ci := 6) (v := .ref (ma 5)) (C := "TouchSelectModel") (T := tt_Mo) (N := 32) hx hb hts (in_Mo _) hown hK hP 0 rfl rfl 5 (by decide) (hts _ (gw_in gw_319)) (fun _ h9 => h9) rfl d_Mo_changeFunction_16 ?_
    refine lv_iload_n hx hb d_Mo_changeFunction_19 rfl (lv_at hl 1 rfl) ?_
    refine kx_lald hx hb hK hP 1 2 rfl rfl (k := k0) (by omega) (by omega) d_Mo_changeFunction_20 ?_
    refine lv_lload_n hx hb d_Mo_changeFunction_21 rfl (lv_at hl 2 rfl) ?_
    refine W.lcmp hx hb d_Mo_changeFunction_22 ?_
    refine kx_ifc_eq (tgt := 38) hx hb d_Mo_changeFunction_23 (by decide) (fun c_23 => ?_) (fun c_23 => ?_)
    ·
      have hcf : ¬ (px_has nc (nI k0) = true ∧ fn k0 ≠ d0) := fun h9 => h9.2 c_23
      refine lv_aload_n hx hb d_Mo_changeFunction_38 rfl (lv_at hl 0 rfl) ?_
      refine va_get (D := D) (ci := 6) (v := .ref (ma 5)) (C := "TouchSelectModel") (T := tt_Mo) (N := 32) hx hb hts (in_Mo _) hown hK hP 0 rfl rfl 5 (by decide) (hts _ (gw_in gw_319)) (fun _ h9 => h9) rfl d_Mo_changeFunction_39 ?_
      refine lv_iload_n hx hb d_Mo_changeFunction_42 rfl (lv_at hl 1 rfl) ?_
      refine lv_lload_n hx hb d_Mo_changeFunction_43 rfl (lv_at hl 2 rfl) ?_
      refine kx_last hx hb hK hP hD hS 1 2 rfl rfl (k := k0) (by omega) (by omega) d_Mo_changeFunction_44 (fun H locs hP hD hS => ?_)
      replace hP : va_P D vwCl [(w0, .inr (6, [.int (nI 0), .int (nI fc), .int (nI nc), .ref (ma 3), .ref (ma 4), .ref (ma 5), .ref (ma 6), .int (nI tn), .ref (ma 8), .ref (ma 9), .ref (ma 10), .ref (ma 11), .ref (ma 12), .ref (ma 13), .ref (ma 14), .ref (ma 15), .ref (ma 16), .ref (ma 17), .ref (ma 18), .ref (ma 19), .ref (ma 20), .ref (ma 21), .ref (ma 22), .int (nI ct), .int (nI pn), .ref (ma 25), .ref (ma 26), .ref (ma 27), .int (nI ln), .ref (ma 29), .ref (ma 30), .ref (ma 31)])), ((ma 5), .inl (D.1 102, 40, .inr (.inl (va_up fn k0 d0)))), ((ma 6), .inl (D.1 101, 20, .inl (kx_bi tc))), ((ma 4), .inl (D.1 100, 40, .inl (kx_ni fo)))] H := hP
      replace hD : va_D A [(w0, .inr (6, [.int (nI 0), .int (nI fc), .int (nI nc), .ref (ma 3), .ref (ma 4), .ref (ma 5), .ref (ma 6), .int (nI tn), .ref (ma 8), .ref (ma 9), .ref (ma 10), .ref (ma 11), .ref (ma 12), .ref (ma 13), .ref (ma 14), .ref (ma 15), .ref (ma 16), .ref (ma 17), .ref (ma 18), .ref (ma 19), .ref (ma 20), .ref (ma 21), .ref (ma 22), .int (nI ct), .int (nI pn), .ref (ma 25), .ref (ma 26), .ref (ma 27), .int (nI ln), .ref (ma 29), .ref (ma 30), .ref (ma 31)])), ((ma 5), .inl (D.1 102, 40, .inr (.inl (va_up fn k0 d0)))), ((ma 6), .inl (D.1 101, 20, .inl (kx_bi tc))), ((ma 4), .inl (D.1 100, 40, .inl (kx_ni fo)))] := hD
      refine lv_iconst (v := (nI 1)) hx hb d_Mo_changeFunction_45 (by decide) ?_
      refine kx_topi (show nI 1 = kx_b true from by decide) ?_
      exact hQz () d_Mo_changeFunction_46 rfl (by rw [hck0]) trivial (by simp only [hixk0, if_pos hck0, if_neg hcf]; exact hP.sub [0, 1, 2, 3] rfl) (by simp only [hixk0, if_pos hck0, if_neg hcf]; exact hD.sub [0, 1, 2, 3] (by decide) rfl) hS
    ·
      have hcf : px_has nc (nI k0) = true ∧ fn k0 ≠ d0 := ⟨hck0, c_23⟩
      refine lv_aload_n hx hb d_Mo_changeFunction_26 rfl (lv_at hl 0 rfl) ?_
      refine va_get (D := D) (ci := 6) (v := .ref (ma 6)) (C := "TouchSelectModel") (T := tt_Mo) (N := 32) hx hb hts (in_Mo _) hown hK hP 0 rfl rfl 6 (by decide) (hts _ (gw_in gw_320)) (fun _ h9 => h9) rfl d_Mo_changeFunction_27 ?_
      refine lv_aload_n hx hb d_Mo_changeFunction_30 rfl (lv_at hl 0 rfl) ?_
      refine va_get (D := D) (ci := 6) (v := .ref (ma 4)) (C := "TouchSelectModel") (T := tt_Mo) (N := 32) hx hb hts (in_Mo _) hown hK hP 0 rfl rfl 4 (by decide) (hts _ (gw_in gw_318)) (fun _ h9 => h9) rfl d_Mo_changeFunction_31 ?_
      refine lv_iload_n hx hb d_Mo_changeFunction_34 rfl (lv_at hl 1 rfl) ?_
      refine kx_iald hx hb hK hP 3 0 rfl rfl (k := k0) (by omega) (by omega) d_Mo_changeFunction_35 ?_
      refine lv_iconst (v := (nI 1)) hx hb d_Mo_changeFunction_36 (by decide) ?_
      refine kx_topi (show nI 1 = kx_b true from by decide) ?_
      refine kx_zast hx hb hK hP hD hS 2 1 rfl rfl (k := (fo k0)) (hfo _) (by omega) d_Mo_changeFunction_37 (fun H locs hP hD hS => ?_)
      replace hP : va_P D vwCl [(w0, .inr (6, [.int (nI 0), .int (nI fc), .int (nI nc), .ref (ma 3), .ref (ma 4), .ref (ma 5), .ref (ma 6), .int (nI tn), .ref (ma 8), .ref (ma 9), .ref (ma 10), .ref (ma 11), .ref (ma 12), .ref (ma 13), .ref (ma 14), .ref (ma 15), .ref (ma 16), .ref (ma 17), .ref (ma 18), .ref (ma 19), .ref (ma 20), .ref (ma 21), .ref (ma 22), .int (nI ct), .int (nI pn), .ref (ma 25), .ref (ma 26), .ref (ma 27), .int (nI ln), .ref (ma 29), .ref (ma 30), .ref (ma 31)])), ((ma 5), .inl (D.1 102, 40, .inr (.inl fn))), ((ma 6), .inl (D.1 101, 20, .inl (kx_bi (va_up tc (fo k0) true)))), ((ma 4), .inl (D.1 100, 40, .inl (kx_ni fo)))] H := hP
      replace hD : va_D A [(w0, .inr (6, [.int (nI 0), .int (nI fc), .int (nI nc), .ref (ma 3), .ref (ma 4), .ref (ma 5), .ref (ma 6), .int (nI tn), .ref (ma 8), .ref (ma 9), .ref (ma 10), .ref (ma 11), .ref (ma 12), .ref (ma 13), .ref (ma 14), .ref (ma 15), .ref (ma 16), .ref (ma 17), .ref (ma 18), .ref (ma 19), .ref (ma 20), .ref (ma 21), .ref (ma 22), .int (nI ct), .int (nI pn), .ref (ma 25), .ref (ma 26), .ref (ma 27), .int (nI ln), .ref (ma 29), .ref (ma 30), .ref (ma 31)])), ((ma 5), .inl (D.1 102, 40, .inr (.inl fn))), ((ma 6), .inl (D.1 101, 20, .inl (kx_bi (va_up tc (fo k0) true)))), ((ma 4), .inl (D.1 100, 40, .inl (kx_ni fo)))] := hD
      refine lv_aload_n hx hb d_Mo_changeFunction_38 rfl (lv_at hl 0 rfl) ?_
      refine va_get (D := D) (ci := 6) (v := .ref (ma 5)) (C := "TouchSelectModel") (T := tt_Mo) (N := 32) hx hb hts (in_Mo _) hown hK hP 0 rfl rfl 5 (by decide) (hts _ (gw_in gw_319)) (fun _ h9 => h9) rfl d_Mo_changeFunction_39 ?_
      refine lv_iload_n hx hb d_Mo_changeFunction_42 rfl (lv_at hl 1 rfl) ?_
      refine lv_lload_n hx hb d_Mo_changeFunction_43 rfl (lv_at hl 2 rfl) ?_
      refine kx_last hx hb hK hP hD hS 1 2 rfl rfl (k := k0) (by omega) (by omega) d_Mo_changeFunction_44 (fun H locs hP hD hS => ?_)
      replace hP : va_P D vwCl [(w0, .inr (6, [.int (nI 0), .int (nI fc), .int (nI nc), .ref (ma 3), .ref (ma 4), .ref (ma 5), .ref (ma 6), .int (nI tn), .ref (ma 8), .ref (ma 9), .ref (ma 10), .ref (ma 11), .ref (ma 12), .ref (ma 13), .ref (ma 14), .ref (ma 15), .ref (ma 16), .ref (ma 17), .ref (ma 18), .ref (ma 19), .ref (ma 20), .ref (ma 21), .ref (ma 22), .int (nI ct), .int (nI pn), .ref (ma 25), .ref (ma 26), .ref (ma 27), .int (nI ln), .ref (ma 29), .ref (ma 30), .ref (ma 31)])), ((ma 5), .inl (D.1 102, 40, .inr (.inl (va_up fn k0 d0)))), ((ma 6), .inl (D.1 101, 20, .inl (kx_bi (va_up tc (fo k0) true)))), ((ma 4), .inl (D.1 100, 40, .inl (kx_ni fo)))] H := hP
      replace hD : va_D A [(w0, .inr (6, [.int (nI 0), .int (nI fc), .int (nI nc), .ref (ma 3), .ref (ma 4), .ref (ma 5), .ref (ma 6), .int (nI tn), .ref (ma 8), .ref (ma 9), .ref (ma 10), .ref (ma 11), .ref (ma 12), .ref (ma 13), .ref (ma 14), .ref (ma 15), .ref (ma 16), .ref (ma 17), .ref (ma 18), .ref (ma 19), .ref (ma 20), .ref (ma 21), .ref (ma 22), .int (nI ct), .int (nI pn), .ref (ma 25), .ref (ma 26), .ref (ma 27), .int (nI ln), .ref (ma 29), .ref (ma 30), .ref (ma 31)])), ((ma 5), .inl (D.1 102, 40, .inr (.inl (va_up fn k0 d0)))), ((ma 6), .inl (D.1 101, 20, .inl (kx_bi (va_up tc (fo k0) true)))), ((ma 4), .inl (D.1 100, 40, .inl (kx_ni fo)))] := hD
      refine lv_iconst (v := (nI 1)) hx hb d_Mo_changeFunction_45 (by decide) ?_
      refine kx_topi (show nI 1 = kx_b true from by decide) ?_
      exact hQz () d_Mo_changeFunction_46 rfl (by rw [hck0]) trivial (by simp only [hixk0, if_pos hck0, if_pos hcf]; exact hP.sub [0, 1, 2, 3] rfl) (by simp only [hixk0, if_pos hck0, if_pos hcf]; exact hD.sub [0, 1, 2, 3] (by decide) rfl) hS
  ·
    refine lv_iconst (v := (nI 0)) hx hb d_Mo_changeFunction_13 (by decide) ?_
    refine kx_topi (show nI 0 = kx_b false from by decide) ?_
    exact hQz () d_Mo_changeFunction_14 rfl (by rw [c_10]) trivial (by simp only [if_neg (show ¬ (px_has nc p0 = true) by rw [c_10]; decide), if_neg (show ¬ (px_has nc p0 = true ∧ fn (px_ix p0) ≠ d0) from fun h9 => absurd (h9.1.symm.trans c_10) (by decide))]; exact hP.sub [0, 1, 2, 3] rfl) (by simp only [if_neg (show ¬ (px_has nc p0 = true) by rw [c_10]; decide), if_neg (show ¬ (px_has nc p0 = true ∧ fn (px_ix p0) ≠ d0) from fun h9 => absurd (h9.1.symm.trans c_10) (by decide))]; exact hD.sub [0, 1, 2, 3] (by decide) rfl) hS
def rm_Mo_test : Room := { frames := 0, cells := 0, slots := 0, locals := 0 }
set_option maxHeartbeats 4000000 in
set_option maxRecDepth 100000 in
/-- test(p0, p1) -/
theorem c_Mo_test (l : Launch) (D : va_G) (w0 : Nat) (ma : Nat → Nat) (fc : Nat) (nc : Nat) (tn : Nat) (ct : Nat) (pn : Nat) (ln : Nat) (md : Nat → Nat) (tm : Nat → Nat) (p0 : Int32) (p1 : Int32) (sz : Nat) (htn : tn ≤ 24) : Met l yy_Mo_test ww_Mo_test rm_Mo_test (va_Pc [.ref w0, .int p0, .int p1] (kx_C (kx_K D) D vwCl [(w0, .inr (6, [.int (nI 0), .int (nI fc), .int (nI nc), .ref (ma 3), .ref (ma 4), .ref (ma 5), .ref (ma 6), .int (nI tn), .ref (ma 8), .ref (ma 9), .ref (ma 10), .ref (ma 11), .ref (ma 12), .ref (ma 13), .ref (ma 14), .ref (ma 15), .ref (ma 16), .ref (ma 17), .ref (ma 18), .ref (ma 19), .ref (ma 20), .ref (ma 21), .ref (ma 22), .int (nI ct), .int (nI pn), .ref (ma 25), .ref (ma 26), .ref (ma 27), .int (nI ln), .ref (ma 29), .ref (ma 30), .ref (ma 31)])), ((ma 8), .inl (D.1 100, 24, .inl (kx_ni md))), ((ma 9), .inl (D.1 100, 24, .inl (kx_ni tm)))] sz)) (kx_Q (S := Unit) D vwCl (fun _ => some (.int (if (tn < 24 ∧ px_has 3 p0 = true ∧ px_has 1001 p1 = true ∧ p1 ≠ 0) then nI tn else -1))) (fun _ => True) (fun _ => [(w0, .inr (6, [.int (nI 0), .int (nI fc), .int (nI nc), .ref (ma 3), .ref (ma 4), .ref (ma 5), .ref (ma 6), .int (nI (if (tn < 24 ∧ px_has 3 p0 = true ∧ px_has 1001 p1 = true ∧ p1 ≠ 0) then tn + 1 else tn)), .ref (ma 8), .ref (ma 9), .ref (ma 10), .ref (ma 11), .ref (ma 12), .ref (ma 13), .ref (ma 14), .ref (ma 15), .ref (ma 16), .ref (ma 17), .ref (ma 18), .ref (ma 19), .ref (ma 20), .ref (ma 21), .ref (ma 22), .int (nI ct), .int (nI pn), .ref (ma 25), .ref (ma 26), .ref (ma 27), .int (nI ln), .ref (ma 29), .ref (ma 30), .ref (ma 31)])), ((ma 8), .inl (D.1 100, 24, .inl (kx_ni (if (tn < 24 ∧ px_has 3 p0 = true ∧ px_has 1001 p1 = true ∧ p1 ≠ 0) then va_up md tn (px_ix p0) else md)))), ((ma 9), .inl (D.1 100, 24, .inl (kx_ni (if (tn < 24 ∧ px_has 3 p0 = true ∧ px_has 1001 p1 = true ∧ p1 ≠ 0) then va_up tm tn (px_ix p1) else tm))))]) (va_A [(w0, .inr (6, [.int (nI 0), .int (nI fc), .int (nI nc), .ref (ma 3), .ref (ma 4), .ref (ma 5), .ref (ma 6), .int (nI tn), .ref (ma 8), .ref (ma 9), .ref (ma 10), .ref (ma 11), .ref (ma 12), .ref (ma 13), .ref (ma 14), .ref (ma 15), .ref (ma 16), .ref (ma 17), .ref (ma 18), .ref (ma 19), .ref (ma 20), .ref (ma 21), .ref (ma 22), .int (nI ct), .int (nI pn), .ref (ma 25), .ref (ma 26), .ref (ma 27), .int (nI ln), .ref (ma 29), .ref (ma 30), .ref (ma 31)])), ((ma 8), .inl (D.1 100, 24, .inl (kx_ni md))), ((ma 9), .inl (D.1 100, 24, .inl (kx_ni tm)))] sz)) 0 0 (va_A [(w0, .inr (6, [.int (nI 0), .int (nI fc), .int (nI nc), .ref (ma 3), .ref (ma 4), .ref (ma 5), .ref (ma 6), .int (nI tn), .ref (ma 8), .ref (ma 9), .ref (ma 10), .ref (ma 11), .ref (ma 12), .ref (ma 13), .ref (ma 14), .ref (ma 15), .ref (ma 16), .ref (ma 17), .ref (ma 18), .ref (ma 19), .ref (ma 20), .ref (ma 21), .ref (ma 22), .int (nI ct), .int (nI pn), .ref (ma 25), .ref (ma 26), .ref (ma 27), .int (nI ln), .ref (ma 29), .ref (ma 30), .ref (ma 31)])), ((ma 8), .inl (D.1 100, 24, .inl (kx_ni md))), ((ma 9), .inl (D.1 100, 24, .inl (kx_ni tm)))] sz) := by
  refine kx_metW (by decide) rfl (Nat.le_of_ble_eq_true rfl) ?_
  intro p e s m args below meth c ls Q A hx hb hts hown hml hin hA hP hD hS hKK hl hQi hQz hQa hQv
  have hK := hKK.1
  replace hown : s.vm.findClass "TouchSelectModel" = some m.cls := hown
  replace hl : lv_has ls 4 [(0, .ref w0), (1, .int p0), (2, .int p1)] := hl
  refine lv_aload_n hx hb d_Mo_test_0 rfl (lv_at hl 0 rfl) ?_
  refine lv_iconst (v := (nI 0)) hx hb d_Mo_test_1 (by decide) ?_
  refine va_put (D := D) (ci := 6) (v := .int (nI 0)) (ty := .int) (C := "TouchSelectModel") (T := tt_Mo) (N := 32) hx hb hts (in_Mo _) ty_Mo ty_Mo_ok nm_Mo hown hK hP hD hS 0 rfl rfl 0 (by decide) (hts _ (gw_in gw_314)) (fun _ h9 => h9) rfl (by decide +kernel) rfl rfl (Nat.le_of_ble_eq_true rfl) d_Mo_test_2 (fun H locs hP hD hS => ?_)
  replace hP : va_P D vwCl [(w0, .inr (6, [.int (nI 0), .int (nI fc), .int (nI nc), .ref (ma 3), .ref (ma 4), .ref (ma 5), .ref (ma 6), .int (nI tn), .ref (ma 8), .ref (ma 9), .ref (ma 10), .ref (ma 11), .ref (ma 12), .ref (ma 13), .ref (ma 14), .ref (ma 15), .ref (ma 16), .ref (ma 17), .ref (ma 18), .ref (ma 19), .ref (ma 20), .ref (ma 21), .ref (ma 22), .int (nI ct), .int (nI pn), .ref (ma 25), .ref (ma 26), .ref (ma 27), .int (nI ln), .ref (ma 29), .ref (ma 30), .ref (ma 31)])), ((ma 8), .inl (D.1 100, 24, .inl (kx_ni md))), ((ma 9), .inl (D.1 100, 24, .inl (kx_ni tm)))] H := hP
  replace hD : va_D A [(w0, .inr (6, [.int (nI 0), .int (nI fc), .int (nI nc), .ref (ma 3), .ref (ma 4), .ref (ma 5), .ref (ma 6), .int (nI tn), .ref (ma 8), .ref (ma 9), .ref (ma 10), .ref (ma 11), .ref (ma 12), .ref (ma 13), .ref (ma 14), .ref (ma 15), .ref (ma 16), .ref (ma 17), .ref (ma 18), .ref (ma 19), .ref (ma 20), .ref (ma 21), .ref (ma 22), .int (nI ct), .int (nI pn), .ref (ma 25), .ref (ma 26), .ref (ma 27), .int (nI ln), .ref (ma 29), .ref (ma 30), .ref (ma 31)])), ((ma 8), .inl (D.1 100, 24, .inl (kx_ni md))), ((ma 9), .inl (D.1 100, 24, .inl (kx_ni tm)))] := hD
  refine lv_iload_n hx hb d_Mo_test_5 rfl (lv_at hl 1 rfl) ?_
  refine lv_if_lt (tgt := 30) hx hb d_Mo_test_6 (by decide) (fun c_6 => ?_) (fun c_6 => ?_)
  ·
    refine lv_iconst (v := (nI 0)) hx hb d_Mo_test_30 (by decide) ?_
    refine lv_istore_n (lv' := [(3, .int (nI 0)), (0, .ref w0), (1, .int p0), (2, .int p1)]) hx hb d_Mo_test_31 rfl hl (by decide) rfl (fun ls hl => ?_)
    refine lv_iload_n hx hb d_Mo_test_32 rfl (lv_at hl 0 rfl) ?_
    refine kx_if_eq (tgt := 45) hx hb d_Mo_test_33 (by decide) (by omega) (fun c_33 => ?_) (fun c_33 => ?_)
    ·
      refine lv_iconst (v := (-1)) hx hb d_Mo_test_45 (by decide) ?_
      exact hQi () d_Mo_test_46 rfl (by rw [if_neg (show ¬ (tn < 24 ∧ px_has 3 p0 = true ∧ px_has 1001 p1 = true ∧ p1 ≠ 0) from fun h9 => Bool.noConfusion (h9.2.1.symm.trans (px_has_neg c_6)))]) trivial (by simp only [if_neg (show ¬ (tn < 24 ∧ px_has 3 p0 = true ∧ px_has 1001 p1 = true ∧ p1 ≠ 0) from fun h9 => Bool.noConfusion (h9.2.1.symm.trans (px_has_neg c_6)))]; exact hP.sub [0, 1, 2] rfl) (by simp only [if_neg (show ¬ (tn < 24 ∧ px_has 3 p0 = true ∧ px_has 1001 p1 = true ∧ p1 ≠ 0) from fun h9 => Bool.noConfusion (h9.2.1.symm.trans (px_has_neg c_6)))]; exact hD.sub [0, 1, 2] (by decide) rfl) hS
    ·
      exact absurd rfl c_33
  ·
    obtain ⟨k0, hk0, rfl⟩ := nI_of c_6
    have hix : px_ix (nI k0) = k0 := px_ix_nI hk0
    refine lv_iload_n hx hb d_Mo_test_9 rfl (lv_at hl 1 rfl) ?_
    refine lv_iconst (v := (nI 3)) hx hb d_Mo_test_10 (by decide) ?_
    refine kx_icmp_ge (tgt := 30) hx hb d_Mo_test_11 (by decide) (by omega) (by omega) (fun c_11 => ?_) (fun c_11 => ?_)
    ·
      refine lv_iconst (v := (nI 0)) hx hb d_Mo_test_30 (by decide) ?_
      refine lv_istore_n (lv' := [(3, .int (nI 0)), (0, .ref w0), (1, .int (nI k0)), (2, .int p1)]) hx hb d_Mo_test_31 rfl hl (by decide) rfl (fun ls hl => ?_)
      refine lv_iload_n hx hb d_Mo_test_32 rfl (lv_at hl 0 rfl) ?_
      refine kx_if_eq (tgt := 45) hx hb d_Mo_test_33 (by decide) (by omega) (fun c_33 => ?_) (fun c_33 => ?_)
      ·
        refine lv_iconst (v := (-1)) hx hb d_Mo_test_45 (by decide) ?_
        exact hQi () d_Mo_test_46 rfl (by rw [if_neg (show ¬ (tn < 24 ∧ px_has 3 (nI k0) = true ∧ px_has 1001 p1 = true ∧ p1 ≠ 0) from fun h9 => Bool.noConfusion (h9.2.1.symm.trans (px_has_no hk0 (by decide) c_11)))]) trivial (by simp only [if_neg (show ¬ (tn < 24 ∧ px_has 3 (nI k0) = true ∧ px_has 1001 p1 = true ∧ p1 ≠ 0) from fun h9 => Bool.noConfusion (h9.2.1.symm.trans (px_has_no hk0 (by decide) c_11)))]; exact hP.sub [0, 1, 2] rfl) (by simp only [if_neg (show ¬ (tn < 24 ∧ px_has 3 (nI k0) = true ∧ px_has 1001 p1 = true ∧ p1 ≠ 0) from fun h9 => Bool.noConfusion (h9.2.1.symm.trans (px_has_no hk0 (by decide) c_11)))]; exact hD.sub [0, 1, 2] (by decide) rfl) hS
      ·
        exact absurd rfl c_33
    ·
      refine lv_iload_n hx hb d_Mo_test_14 rfl (lv_at hl 2 rfl) ?_
      refine lv_iconst (v := (nI 1)) hx hb d_Mo_test_15 (by decide) ?_
      refine lv_icmp_lt (tgt := 30) hx hb d_Mo_test_16 (by decide) (fun c_16 => ?_) (fun c_16 => ?_)
      ·
        refine lv_iconst (v := (nI 0)) hx hb d_Mo_test_30 (by decide) ?_
        refine lv_istore_n (lv' := [(3, .int (nI 0)), (0, .ref w0), (1, .int (nI k0)), (2, .int p1)]) hx hb d_Mo_test_31 rfl hl (by decide) rfl (fun ls hl => ?_)
        refine lv_iload_n hx hb d_Mo_test_32 rfl (lv_at hl 0 rfl) ?_
        refine kx_if_eq (tgt := 45) hx hb d_Mo_test_33 (by decide) (by omega) (fun c_33 => ?_) (fun c_33 => ?_)
        ·
          refine lv_iconst (v := (-1)) hx hb d_Mo_test_45 (by decide) ?_
          exact hQi () d_Mo_test_46 rfl (by rw [if_neg (show ¬ (tn < 24 ∧ px_has 3 (nI k0) = true ∧ px_has 1001 p1 = true ∧ p1 ≠ 0) from fun h9 => h9.2.2.2 (px_lt1 (by decide) c_16 h9.2.2.1))]) trivial (by simp only [if_neg (show ¬ (tn < 24 ∧ px_has 3 (nI k0) = true ∧ px_has 1001 p1 = true ∧ p1 ≠ 0) from fun h9 => h9.2.2.2 (px_lt1 (by decide) c_16 h9.2.2.1))]; exact hP.sub [0, 1, 2] rfl) (by simp only [if_neg (show ¬ (tn < 24 ∧ px_has 3 (nI k0) = true ∧ px_has 1001 p1 = true ∧ p1 ≠ 0) from fun h9 => h9.2.2.2 (px_lt1 (by decide) c_16 h9.2.2.1))]; exact hD.sub [0, 1, 2] (by decide) rfl) hS
        ·
          exact absurd rfl c_33
      ·
        obtain ⟨k1, hk1, hk11, rfl⟩ := px_ge1 c_16
        have hix1 : px_ix (nI k1) = k1 := px_ix_nI hk1
        refine lv_iload_n hx hb d_Mo_test_19 rfl (lv_at hl 2 rfl) ?_
        refine lv_sipush (v := (nI 1000)) hx hb d_Mo_test_20 (by decide) ?_
        refine kx_icmp_gt (tgt := 30) hx hb d_Mo_test_23 (by decide) (by omega) (by omega) (fun c_23 => ?_) (fun c_23 => ?_)
        ·
          refine lv_iconst (v := (nI 0)) hx hb d_Mo_test_30 (by decide) ?_
          refine lv_istore_n (lv' := [(3, .int (nI 0)), (0, .ref w0), (1, .int (nI k0)), (2, .int (nI k1))]) hx hb d_Mo_test_31 rfl hl (by decide) rfl (fun ls hl => ?_)
          refine lv_iload_n hx hb d_Mo_test_32 rfl (lv_at hl 0 rfl) ?_
          refine kx_if_eq (tgt := 45) hx hb d_Mo_test_33 (by decide) (by omega) (fun c_33 => ?_) (fun c_33 => ?_)
          ·
            refine lv_iconst (v := (-1)) hx hb d_Mo_test_45 (by decide) ?_
            exact hQi () d_Mo_test_46 rfl (by rw [if_neg (show ¬ (tn < 24 ∧ px_has 3 (nI k0) = true ∧ px_has 1001 (nI k1) = true ∧ (nI k1) ≠ 0) from fun h9 => Bool.noConfusion (h9.2.2.1.symm.trans (px_has_no hk1 (by decide) (by omega))))]) trivial (by simp only [if_neg (show ¬ (tn < 24 ∧ px_has 3 (nI k0) = true ∧ px_has 1001 (nI k1) = true ∧ (nI k1) ≠ 0) from fun h9 => Bool.noConfusion (h9.2.2.1.symm.trans (px_has_no hk1 (by decide) (by omega))))]; exact hP.sub [0, 1, 2] rfl) (by simp only [if_neg (show ¬ (tn < 24 ∧ px_has 3 (nI k0) = true ∧ px_has 1001 (nI k1) = true ∧ (nI k1) ≠ 0) from fun h9 => Bool.noConfusion (h9.2.2.1.symm.trans (px_has_no hk1 (by decide) (by omega))))]; exact hD.sub [0, 1, 2] (by decide) rfl) hS
          ·
            exact absurd rfl c_33
        ·
          refine lv_iconst (v := (nI 1)) hx hb d_Mo_test_26 (by decide) ?_
          refine lv_goto (tgt := 31) hx hb d_Mo_test_27 (by decide) ?_
          refine lv_istore_n (lv' := [(3, .int (nI 1)), (0, .ref w0), (1, .int (nI k0)), (2, .int (nI k1))]) hx hb d_Mo_test_31 rfl hl (by decide) rfl (fun ls hl => ?_)
          refine lv_iload_n hx hb d_Mo_test_32 rfl (lv_at hl 0 rfl) ?_
          refine kx_if_eq (tgt := 45) hx hb d_Mo_test_33 (by decide) (by omega) (fun c_33 => ?_) (fun c_33 => ?_)
          ·
            exact absurd c_33 (by decide)
          ·
            refine lv_aload_n hx hb d_Mo_test_36 rfl (lv_at hl 1 rfl) ?_
            refine va_get (D := D) (ci := 6) (v := .int (nI tn)) (C := "TouchSelectModel") (T := tt_Mo) (N := 32) hx hb hts (in_Mo _) hown hK hP 0 rfl rfl 7 (by decide) (hts _ (gw_in gw_321)) (fun _ h9 => h9) rfl d_Mo_test_37 ?_
            refine lv_bipush (v := (nI 24)) hx hb d_Mo_test_40 (by decide) ?_
            refine kx_icmp_ne (tgt := 47) hx hb d_Mo_test_42 (by decide) (by omega) (by omega) (fun c_42 => ?_) (fun c_42 => ?_)
            ·
              have htok : (tn < 24 ∧ px_has 3 (nI k0) = true ∧ px_has 1001 (nI k1) = true ∧ (nI k1) ≠ 0) := ⟨by omega, px_has_yes hk0 (by decide) (by omega), px_has_yes hk1 (by decide) (by omega), fun h9 => absurd (kx_n0 hk1 h9) (by omega)⟩
              refine lv_aload_n hx hb d_Mo_test_47 rfl (lv_at hl 1 rfl) ?_
              refine va_get (D := D) (ci := 6) (v := .ref (ma 8)) (C := "TouchSelectModel") (T := tt_Mo) (N := 32) hx hb hts (in_Mo _) hown hK hP 0 rfl rfl 8 (by decide) (hts _ (gw_in gw_322)) (fun _ h9 => h9) rfl d_Mo_test_48 ?_
              refine lv_aload_n hx hb d_Mo_test_51 rfl (lv_at hl 1 rfl) ?_
              refine va_get (D := D) (ci := 6) (v := .int (nI tn)) (C := "TouchSelectModel") (T := tt_Mo) (N := 32) hx hb hts (in_Mo _) hown hK hP 0 rfl rfl 7 (by decide) (hts _ (gw_in gw_321)) (fun _ h9 => h9) rfl d_Mo_test_52 ?_
              refine lv_iload_n hx hb d_Mo_test_55 rfl (lv_at hl 2 rfl) ?_
              refine kx_iast hx hb hK hP hD hS 1 0 rfl rfl (k := tn) (by omega) (by omega) d_Mo_test_56 (fun H locs hP hD hS => ?_)
              replace hP : va_P D vwCl [(w0, .inr (6, [.int (nI 0), .int (nI fc), .int (nI nc), .ref (ma 3), .ref (ma 4), .ref (ma 5), .ref (ma 6), .int (nI tn), .ref (ma 8), .ref (ma 9), .ref (ma 10), .ref (ma 11), .ref (ma 12), .ref (ma 13), .ref (ma 14), .ref (ma 15), .ref (ma 16), .ref (ma 17), .ref (ma 18), .ref (ma 19), .ref (ma 20), .ref (ma 21), .ref (ma 22), .int (nI ct), .int (nI pn), .ref (ma 25), .ref (ma 26), .ref (ma 27), .int (nI ln), .ref (ma 29), .ref (ma 30), .ref (ma 31)])), ((ma 8), .inl (D.1 100, 24, .inl (kx_ni (va_up md tn k0)))), ((ma 9), .inl (D.1 100, 24, .inl (kx_ni tm)))] H := hP
              replace hD : va_D A [(w0, .inr (6, [.int (nI 0), .int (nI fc), .int (nI nc), .ref (ma 3), .ref (ma 4), .ref (ma 5), .ref (ma 6), .int (nI tn), .ref (ma 8), .ref (ma 9), .ref (ma 10), .ref (ma 11), .ref (ma 12), .ref (ma 13), .ref (ma 14), .ref (ma 15), .ref (ma 16), .ref (ma 17), .ref (ma 18), .ref (ma 19), .ref (ma 20), .ref (ma 21), .ref (ma 22), .int (nI ct), .int (nI pn), .ref (ma 25), .ref (ma 26), .ref (ma 27), .int (nI ln), .ref (ma 29), .ref (ma 30), .ref (ma 31)])), ((ma 8), .inl (D.1 100, 24, .inl (kx_ni (va_up md tn k0)))), ((ma 9), .inl (D.1 100, 24, .inl (kx_ni tm)))] := hD
              refine lv_aload_n hx hb d_Mo_test_57 rfl (lv_at hl 1 rfl) ?_
              refine va_get (D := D) (ci := 6) (v := .ref (ma 9)) (C := "TouchSelectModel") (T := tt_Mo) (N := 32) hx hb hts (in_Mo _) hown hK hP 0 rfl rfl 9 (by decide) (hts _ (gw_in gw_323)) (fun _ h9 => h9) rfl d_Mo_test_58 ?_
              refine lv_aload_n hx hb d_Mo_test_61 rfl (lv_at hl 1 rfl) ?_
              refine va_get (D := D) (ci := 6) (v := .int (nI tn)) (C := "TouchSelectModel") (T := tt_Mo) (N := 32) hx hb hts (in_Mo _) hown hK hP 0 rfl rfl 7 (by decide) (hts _ (gw_in gw_321)) (fun _ h9 => h9) rfl d_Mo_test_62 ?_
              refine lv_iload_n hx hb d_Mo_test_65 rfl (lv_at hl 3 rfl) ?_
              refine kx_iast hx hb hK hP hD hS 2 0 rfl rfl (k := tn) (by omega) (by omega) d_Mo_test_66 (fun H locs hP hD hS => ?_)
              replace hP : va_P D vwCl [(w0, .inr (6, [.int (nI 0), .int (nI fc), .int (nI nc), .ref (ma 3), .ref (ma 4), .ref (ma 5), .ref (ma 6), .int (nI tn), .ref (ma 8), .ref (ma 9), .ref (ma 10), .ref (ma 11), .ref (ma 12), .ref (ma 13), .ref (ma 14), .ref (ma 15), .ref (ma 16), .ref (ma 17), .ref (ma 18), .ref (ma 19), .ref (ma 20), .ref (ma 21), .ref (ma 22), .int (nI ct), .int (nI pn), .ref (ma 25), .ref (ma 26), .ref (ma 27), .int (nI ln), .ref (ma 29), .ref (ma 30), .ref (ma 31)])), ((ma 8), .inl (D.1 100, 24, .inl (kx_ni (va_up md tn k0)))), ((ma 9), .inl (D.1 100, 24, .inl (kx_ni (va_up tm tn k1))))] H := hP
              replace hD : va_D A [(w0, .inr (6, [.int (nI 0), .int (nI fc), .int (nI nc), .ref (ma 3), .ref (ma 4), .ref (ma 5), .ref (ma 6), .int (nI tn), .ref (ma 8), .ref (ma 9), .ref (ma 10), .ref (ma 11), .ref (ma 12), .ref (ma 13), .ref (ma 14), .ref (ma 15), .ref (ma 16), .ref (ma 17), .ref (ma 18), .ref (ma 19), .ref (ma 20), .ref (ma 21), .ref (ma 22), .int (nI ct), .int (nI pn), .ref (ma 25), .ref (ma 26), .ref (ma 27), .int (nI ln), .ref (ma 29), .ref (ma 30), .ref (ma 31)])), ((ma 8), .inl (D.1 100, 24, .inl (kx_ni (va_up md tn k0)))), ((ma 9), .inl (D.1 100, 24, .inl (kx_ni (va_up tm tn k1))))] := hD
              refine lv_aload_n hx hb d_Mo_test_67 rfl (lv_at hl 1 rfl) ?_
              refine lv_dup hx hb d_Mo_test_68 rfl ?_
              refine va_get (D := D) (ci := 6) (v := .int (nI tn)) (C := "TouchSelectModel") (T := tt_Mo) (N := 32) hx hb hts (in_Mo _) hown hK hP 0 rfl rfl 7 (by decide) (hts _ (gw_in gw_321)) (fun _ h9 => h9) rfl d_Mo_test_69 ?_
              refine lv_iconst (v := (nI 1)) hx hb d_Mo_test_72 (by decide) ?_
              refine lv_iadd hx hb d_Mo_test_73 ?_
              refine kx_topi (nI_add tn 1) ?_
              refine va_put (D := D) (ci := 6) (v := .int (nI (tn + 1))) (ty := .int) (C := "TouchSelectModel") (T := tt_Mo) (N := 32) hx hb hts (in_Mo _) ty_Mo ty_Mo_ok nm_Mo hown hK hP hD hS 0 rfl rfl 7 (by decide) (hts _ (gw_in gw_321)) (fun _ h9 => h9) rfl (by decide +kernel) rfl rfl (Nat.le_of_ble_eq_true rfl) d_Mo_test_74 (fun H locs hP hD hS => ?_)
              replace hP : va_P D vwCl [(w0, .inr (6, [.int (nI 0), .int (nI fc), .int (nI nc), .ref (ma 3), .ref (ma 4), .ref (ma 5), .ref (ma 6), .int (nI (tn + 1)), .ref (ma 8), .ref (ma 9), .ref (ma 10), .ref (ma 11), .ref (ma 12), .ref (ma 13), .ref (ma 14), .ref (ma 15), .ref (ma 16), .ref (ma 17), .ref (ma 18), .ref (ma 19), .ref (ma 20), .ref (ma 21), .ref (ma 22), .int (nI ct), .int (nI pn), .ref (ma 25), .ref (ma 26), .ref (ma 27), .int (nI ln), .ref (ma 29), .ref (ma 30), .ref (ma 31)])), ((ma 8), .inl (D.1 100, 24, .inl (kx_ni (va_up md tn k0)))), ((ma 9), .inl (D.1 100, 24, .inl (kx_ni (va_up tm tn k1))))] H := hP
              replace hD : va_D A [(w0, .inr (6, [.int (nI 0), .int (nI fc), .int (nI nc), .ref (ma 3), .ref (ma 4), .ref (ma 5), .ref (ma 6), .int (nI (tn + 1)), .ref (ma 8), .ref (ma 9), .ref (ma 10), .ref (ma 11), .ref (ma 12), .ref (ma 13), .ref (ma 14), .ref (ma 15), .ref (ma 16), .ref (ma 17), .ref (ma 18), .ref (ma 19), .ref (ma 20), .ref (ma 21), .ref (ma 22), .int (nI ct), .int (nI pn), .ref (ma 25), .ref (ma 26), .ref (ma 27), .int (nI ln), .ref (ma 29), .ref (ma 30), .ref (ma 31)])), ((ma 8), .inl (D.1 100, 24, .inl (kx_ni (va_up md tn k0)))), ((ma 9), .inl (D.1 100, 24, .inl (kx_ni (va_up tm tn k1))))] := hD
              refine lv_aload_n hx hb d_Mo_test_77 rfl (lv_at hl 1 rfl) ?_
              refine va_get (D := D) (ci := 6) (v := .int (nI (tn + 1))) (C := "TouchSelectModel") (T := tt_Mo) (N := 32) hx hb hts (in_Mo _) hown hK hP 0 rfl rfl 7 (by decide) (hts _ (gw_in gw_321)) (fun _ h9 => h9) rfl d_Mo_test_78 ?_
              refine lv_iconst (v := (nI 1)) hx hb d_Mo_test_81 (by decide) ?_
              refine lv_isub hx hb d_Mo_test_82 ?_
              refine kx_topi (kx_pred tn) ?_
              exact hQi () d_Mo_test_83 rfl (by rw [if_pos htok]) trivial (by simp only [hix, hix1, if_pos htok]; exact hP.sub [0, 1, 2] rfl) (by simp only [hix, hix1, if_pos htok]; exact hD.sub [0, 1, 2] (by decide) rfl) hS
            ·
              refine lv_iconst (v := (-1)) hx hb d_Mo_test_45 (by decide) ?_
              exact hQi () d_Mo_test_46 rfl (by rw [if_neg (show ¬ (tn < 24 ∧ px_has 3 (nI k0) = true ∧ px_has 1001 (nI k1) = true ∧ (nI k1) ≠ 0) from fun h9 => absurd h9.1 (by omega))]) trivial (by simp only [if_neg (show ¬ (tn < 24 ∧ px_has 3 (nI k0) = true ∧ px_has 1001 (nI k1) = true ∧ (nI k1) ≠ 0) from fun h9 => absurd h9.1 (by omega))]; exact hP.sub [0, 1, 2] rfl) (by simp only [if_neg (show ¬ (tn < 24 ∧ px_has 3 (nI k0) = true ∧ px_has 1001 (nI k1) = true ∧ (nI k1) ≠ 0) from fun h9 => absurd h9.1 (by omega))]; exact hD.sub [0, 1, 2] (by decide) rfl) hS
def rm_Mo_setting : Room := { frames := 1, cells := 0, slots := 0, locals := 21 }
set_option maxHeartbeats 4000000 in
set_option maxRecDepth 100000 in
/-- setting(p0, d0) -/
theorem c_Mo_setting (l : Launch) (D : va_G) (w0 : Nat) (ma : Nat → Nat) (fc : Nat) (nc : Nat) (tn : Nat) (ct : Nat) (pn : Nat) (ln : Nat) (sg : Nat → Int64) (p0 : Int32) (d0 : Int64) (sz : Nat) (htn : tn ≤ 24) : Met l yy_Mo_setting ww_Mo_setting rm_Mo_setting (va_Pc [.ref w0, .int p0, .long d0] (kx_C (kx_K D) D vwCl [(w0, .inr (6, [.int (nI 0), .int (nI fc), .int (nI nc), .ref (ma 3), .ref (ma 4), .ref (ma 5), .ref (ma 6), .int (nI tn), .ref (ma 8), .ref (ma 9), .ref (ma 10), .ref (ma 11), .ref (ma 12), .ref (ma 13), .ref (ma 14), .ref (ma 15), .ref (ma 16), .ref (ma 17), .ref (ma 18), .ref (ma 19), .ref (ma 20), .ref (ma 21), .ref (ma 22), .int (nI ct), .int (nI pn), .ref (ma 25), .ref (ma 26), .ref (ma 27), .int (nI ln), .ref (ma 29), .ref (ma 30), .ref (ma 31)])), ((ma 10), .inl (D.1 102, 24, .inr (.inl sg)))] sz)) (kx_Q (S := Unit) D vwCl (fun _ => some (.int (kx_b (px_has tn p0)))) (fun _ => True) (fun _ => [(w0, .inr (6, [.int (nI 0), .int (nI fc), .int (nI nc), .ref (ma 3), .ref (ma 4), .ref (ma 5), .ref (ma 6), .int (nI tn), .ref (ma 8), .ref (ma 9), .ref (ma 10), .ref (ma 11), .ref (ma 12), .ref (ma 13), .ref (ma 14), .ref (ma 15), .ref (ma 16), .ref (ma 17), .ref (ma 18), .ref (ma 19), .ref (ma 20), .ref (ma 21), .ref (ma 22), .int (nI ct), .int (nI pn), .ref (ma 25), .ref (ma 26), .ref (ma 27), .int (nI ln), .ref (ma 29), .ref (ma 30), .ref (ma 31)])), ((ma 10), .inl (D.1 102, 24, .inr (.inl (if px_has tn p0 = true then va_up sg (px_ix p0) d0 else sg))))]) (va_A [(w0, .inr (6, [.int (nI 0), .int (nI fc), .int (nI nc), .ref (ma 3), .ref (ma 4), .ref (ma 5), .ref (ma 6), .int (nI tn), .ref (ma 8), .ref (ma 9), .ref (ma 10), .ref (ma 11), .ref (ma 12), .ref (ma 13), .ref (ma 14), .ref (ma 15), .ref (ma 16), .ref (ma 17), .ref (ma 18), .ref (ma 19), .ref (ma 20), .ref (ma 21), .ref (ma 22), .int (nI ct), .int (nI pn), .ref (ma 25), .ref (ma 26), .ref (ma 27), .int (nI ln), .ref (ma 29), .ref (ma 30), .ref (ma 31)])), ((ma 10), .inl (D.1 102, 24, .inr (.inl sg)))] sz)) 0 0 (va_A [(w0, .inr (6, [.int (nI 0), .int (nI fc), .int (nI nc), .ref (ma 3), .ref (ma 4), .ref (ma 5), .ref (ma 6), .int (nI tn), .ref (ma 8), .ref (ma 9), .ref (ma 10), .ref (ma 11), .ref (ma 12), .ref (ma 13), .ref (ma 14), .ref (ma 15), .ref (ma 16), .ref (ma 17), .ref (ma 18), .ref (ma 19), .ref (ma 20), .ref (ma 21), .ref (ma 22), .int (nI ct), .int (nI pn), .ref (ma 25), .ref (ma 26), .ref (ma 27), .int (nI ln), .ref (ma 29), .ref (ma 30), .ref (ma 31)])), ((ma 10), .inl (D.1 102, 24, .inr (.inl sg)))] sz) := by
  refine kx_metW (by decide) rfl (Nat.le_of_ble_eq_true rfl) ?_
  intro p e s m args below meth c ls Q A hx hb hts hown hml hin hA hP hD hS hKK hl hQi hQz hQa hQv
  have hK := hKK.1
  replace hown : s.vm.findClass "TouchSelectModel" = some m.cls := hown
  replace hl : lv_has ls 4 [(0, .ref w0), (1, .int p0), (2, .long d0)] := hl
  refine lv_aload_n hx hb d_Mo_setting_0 rfl (lv_at hl 0 rfl) ?_
  refine lv_iconst (v := (nI 0)) hx hb d_Mo_setting_1 (by decide) ?_
  refine va_put (D := D) (ci := 6) (v := .int (nI 0)) (ty := .int) (C := "TouchSelectModel") (T := tt_Mo) (N := 32) hx hb hts (in_Mo _) ty_Mo ty_Mo_ok nm_Mo hown hK hP hD hS 0 rfl rfl 0 (by decide) (hts _ (gw_in gw_314)) (fun _ h9 => h9) rfl (by decide +kernel) rfl rfl (Nat.le_of_ble_eq_true rfl) d_Mo_setting_2 (fun H locs hP hD hS => ?_)
  replace hP : va_P D vwCl [(w0, .inr (6, [.int (nI 0), .int (nI fc), .int (nI nc), .ref (ma 3), .ref (ma 4), .ref (ma 5), .ref (ma 6), .int (nI tn), .ref (ma 8), .ref (ma 9), .ref (ma 10), .ref (ma 11), .ref (ma 12), .ref (ma 13), .ref (ma 14), .ref (ma 15), .ref (ma 16), .ref (ma 17), .ref (ma 18), .ref (ma 19), .ref (ma 20), .ref (ma 21), .ref (ma 22), .int (nI ct), .int (nI pn), .ref (ma 25), .ref (ma 26), .ref (ma 27), .int (nI ln), .ref (ma 29), .ref (ma 30), .ref (ma 31)])), ((ma 10), .inl (D.1 102, 24, .inr (.inl sg)))] H := hP
  replace hD : va_D A [(w0, .inr (6, [.int (nI 0), .int (nI fc), .int (nI nc), .ref (ma 3), .ref (ma 4), .ref (ma 5), .ref (ma 6), .int (nI tn), .ref (ma 8), .ref (ma 9), .ref (ma 10), .ref (ma 11), .ref (ma 12), .ref (ma 13), .ref (ma 14), .ref (ma 15), .ref (ma 16), .ref (ma 17), .ref (ma 18), .ref (ma 19), .ref (ma 20), .ref (ma 21), .ref (ma 22), .int (nI ct), .int (nI pn), .ref (ma 25), .ref (ma 26), .ref (ma 27), .int (nI ln), .ref (ma 29), .ref (ma 30), .ref (ma 31)])), ((ma 10), .inl (D.1 102, 24, .inr (.inl sg)))] := hD
  refine lv_aload_n hx hb d_Mo_setting_5 rfl (lv_at hl 0 rfl) ?_
  refine lv_iload_n hx hb d_Mo_setting_6 rfl (lv_at hl 1 rfl) ?_
  refine kx_callR (va_runV (As := [.int p0]) (rest := []) ⟨hx, hb, hml, hown, hts⟩ (c_Mo_isTest l D w0 ma fc nc tn ct pn ln p0 (by omega)) (gw_V 1 hts gw_408 gw_409 gw_490 gw_6 gw_410 rfl rfl (by decide +kernel) ⟨Nat.le_of_ble_eq_true rfl, Nat.le_of_ble_eq_true rfl⟩) (kx_preV (kx_ok D) hKK hK (hP.sub (ws' := [(w0, .inr (6, [.int (nI 0), .int (nI fc), .int (nI nc), .ref (ma 3), .ref (ma 4), .ref (ma 5), .ref (ma 6), .int (nI tn), .ref (ma 8), .ref (ma 9), .ref (ma 10), .ref (ma 11), .ref (ma 12), .ref (ma 13), .ref (ma 14), .ref (ma 15), .ref (ma 16), .ref (ma 17), .ref (ma 18), .ref (ma 19), .ref (ma 20), .ref (ma 21), .ref (ma 22), .int (nI ct), .int (nI pn), .ref (ma 25), .ref (ma 26), .ref (ma 27), .int (nI ln), .ref (ma 29), .ref (ma 30), .ref (ma 31)]))]) [0] rfl) 6 0 rfl rfl) rfl rfl hl.1 rfl (lv_room (Nat.le_of_ble_eq_true rfl)) d_Mo_setting_7 ⟨Nat.le_of_ble_eq_true rfl, Nat.le_of_ble_eq_true rfl⟩) ?_
  refine W.eq (g2 := F0 m 10 ls [.int (kx_b (px_has tn p0))]) rfl ?_
  refine kx_ifb_ne (tgt := 15) hx hb d_Mo_setting_10 (by decide) (fun c_10 => ?_) (fun c_10 => ?_)
  ·
    have hck0 := c_10
    obtain ⟨k0, hk0, rfl⟩ := px_has_t (by omega) c_10
    have hixk0 : px_ix (nI k0) = k0 := px_ix_nI (by omega)
    refine lv_aload_n hx hb d_Mo_setting_15 rfl (lv_at hl 0 rfl) ?_
    refine va_get (D := D) (ci := 6) (v := .ref (ma 10)) (C := "TouchSelectModel") (T := tt_Mo) (N := 32) hx hb hts (in_Mo _) hown hK hP 0 rfl rfl 10 (by decide) (hts _ (gw_in gw_324)) (fun _ h9 => h9) rfl d_Mo_setting_16 ?_
    refine lv_iload_n hx hb d_Mo_setting_19 rfl (lv_at hl 1 rfl) ?_
    refine lv_lload_n hx hb d_Mo_setting_20 rfl (lv_at hl 2 rfl) ?_
    refine kx_last hx hb hK hP hD hS 1 2 rfl rfl (k := k0) (by omega) (by omega) d_Mo_setting_21 (fun H locs hP hD hS => ?_)
    replace hP : va_P D vwCl [(w0, .inr (6, [.int (nI 0), .int (nI fc), .int (nI nc), .ref (ma 3), .ref (ma 4), .ref (ma 5), .ref (ma 6), .int (nI tn), .ref (ma 8), .ref (ma 9), .ref (ma 10), .ref (ma 11), .ref (ma 12), .ref (ma 13), .ref (ma 14), .ref (ma 15), .ref (ma 16), .ref (ma 17), .ref (ma 18), .ref (ma 19), .ref (ma 20), .ref (ma 21), .ref (ma 22), .int (nI ct), .int (nI pn), .ref (ma 25), .ref (ma 26), .ref (ma 27), .int (nI ln), .ref (ma 29), .ref (ma 30), .ref (ma 31)])), ((ma 10), .inl (D.1 102, 24, .inr (.inl (va_up sg k0 d0))))] H := hP
    replace hD : va_D A [(w0, .inr (6, [.int (nI 0), .int (nI fc), .int (nI nc), .ref (ma 3), .ref (ma 4), .ref (ma 5), .ref (ma 6), .int (nI tn), .ref (ma 8), .ref (ma 9), .ref (ma 10), .ref (ma 11), .ref (ma 12), .ref (ma 13), .ref (ma 14), .ref (ma 15), .ref (ma 16), .ref (ma 17), .ref (ma 18), .ref (ma 19), .ref (ma 20), .ref (ma 21), .ref (ma 22), .int (nI ct), .int (nI pn), .ref (ma 25), .ref (ma 26), .ref (ma 27), .int (nI ln), .ref (ma 29), .ref (ma 30), .ref (ma 31)])), ((ma 10), .inl (D.1 102, 24, .inr (.inl (va_up sg k0 d0))))] := hD
    refine lv_iconst (v := (nI 1)) hx hb d_Mo_setting_22 (by decide) ?_
    refine kx_topi (show nI 1 = kx_b true from by decide) ?_
    exact hQz () d_Mo_setting_23 rfl (by rw [hck0]) trivial (by simp only [hixk0, if_pos hck0]; exact hP.sub [0, 1] rfl) (by simp only [hixk0, if_pos hck0]; exact hD.sub [0, 1] (by decide) rfl) hS
  ·
    refine lv_iconst (v := (nI 0)) hx hb d_Mo_setting_13 (by decide) ?_
    refine kx_topi (show nI 0 = kx_b false from by decide) ?_
    exact hQz () d_Mo_setting_14 rfl (by rw [c_10]) trivial (by simp only [if_neg (show ¬ (px_has tn p0 = true) by rw [c_10]; decide)]; exact hP.sub [0, 1] rfl) (by simp only [if_neg (show ¬ (px_has tn p0 = true) by rw [c_10]; decide)]; exact hD.sub [0, 1] (by decide) rfl) hS
def rm_Mo_reads : Room := { frames := 1, cells := 0, slots := 0, locals := 21 }
set_option maxHeartbeats 4000000 in
set_option maxRecDepth 100000 in
/-- reads(p0, p1, p2) -/
theorem c_Mo_reads (l : Launch) (D : va_G) (w0 : Nat) (ma : Nat → Nat) (fc : Nat) (nc : Nat) (tn : Nat) (ct : Nat) (pn : Nat) (ln : Nat) (fo : Nat → Nat) (nm : Nat → Nat) (nf : Nat → Nat) (ng : Nat → Int32) (p0 : Int32) (p1 : Int32) (p2 : Int32) (sz : Nat) (htn : tn ≤ 24) (hfc : fc ≤ 20) (hnc : nc ≤ 40) (hfo : ∀ j, fo j < 20) (hnm : ∀ t, t < tn → nm t ≤ 30) (hnf : ∀ j, nf j < 2 ^ 31) : Met l yy_Mo_reads ww_Mo_reads rm_Mo_reads (va_Pc [.ref w0, .int p0, .int p1, .int p2] (kx_C (kx_K D) D vwCl [(w0, .inr (6, [.int (nI 0), .int (nI fc), .int (nI nc), .ref (ma 3), .ref (ma 4), .ref (ma 5), .ref (ma 6), .int (nI tn), .ref (ma 8), .ref (ma 9), .ref (ma 10), .ref (ma 11), .ref (ma 12), .ref (ma 13), .ref (ma 14), .ref (ma 15), .ref (ma 16), .ref (ma 17), .ref (ma 18), .ref (ma 19), .ref (ma 20), .ref (ma 21), .ref (ma 22), .int (nI ct), .int (nI pn), .ref (ma 25), .ref (ma 26), .ref (ma 27), .int (nI ln), .ref (ma 29), .ref (ma 30), .ref (ma 31)])), ((ma 4), .inl (D.1 100, 40, .inl (kx_ni fo))), ((ma 11), .inl (D.1 100, 24, .inl (kx_ni nm))), ((ma 12), .inl (D.1 100, 720, .inl (kx_ni nf))), ((ma 13), .inl (D.1 100, 720, .inl ng))] sz)) (kx_Q (S := Unit) D vwCl (fun _ => some (.int (if px_has tn p0 = true ∧ (px_rd fc nc fo p1 p2).isSome = true then (if mo_found nf ng (px_ix p0) (nm (px_ix p0)) (px_ix p1) p2 = true then 0 else if nm (px_ix p0) = 30 then -1 else 1) else -1))) (fun _ => True) (fun _ => [(w0, .inr (6, [.int (nI 0), .int (nI fc), .int (nI nc), .ref (ma 3), .ref (ma 4), .ref (ma 5), .ref (ma 6), .int (nI tn), .ref (ma 8), .ref (ma 9), .ref (ma 10), .ref (ma 11), .ref (ma 12), .ref (ma 13), .ref (ma 14), .ref (ma 15), .ref (ma 16), .ref (ma 17), .ref (ma 18), .ref (ma 19), .ref (ma 20), .ref (ma 21), .ref (ma 22), .int (nI ct), .int (nI pn), .ref (ma 25), .ref (ma 26), .ref (ma 27), .int (nI ln), .ref (ma 29), .ref (ma 30), .ref (ma 31)])), ((ma 4), .inl (D.1 100, 40, .inl (kx_ni fo))), ((ma 11), .inl (D.1 100, 24, .inl (kx_ni (if (px_has tn p0 = true ∧ (px_rd fc nc fo p1 p2).isSome = true ∧ mo_found nf ng (px_ix p0) (nm (px_ix p0)) (px_ix p1) p2 = false ∧ nm (px_ix p0) ≠ 30) then va_up nm (px_ix p0) (nm (px_ix p0) + 1) else nm)))), ((ma 12), .inl (D.1 100, 720, .inl (kx_ni (if (px_has tn p0 = true ∧ (px_rd fc nc fo p1 p2).isSome = true ∧ mo_found nf ng (px_ix p0) (nm (px_ix p0)) (px_ix p1) p2 = false ∧ nm (px_ix p0) ≠ 30) then va_up nf (30 * px_ix p0 + nm (px_ix p0)) (px_ix p1) else nf)))), ((ma 13), .inl (D.1 100, 720, .inl (if (px_has tn p0 = true ∧ (px_rd fc nc fo p1 p2).isSome = true ∧ mo_found nf ng (px_ix p0) (nm (px_ix p0)) (px_ix p1) p2 = false ∧ nm (px_ix p0) ≠ 30) then va_up ng (30 * px_ix p0 + nm (px_ix p0)) p2 else ng)))]) (va_A [(w0, .inr (6, [.int (nI 0), .int (nI fc), .int (nI nc), .ref (ma 3), .ref (ma 4), .ref (ma 5), .ref (ma 6), .int (nI tn), .ref (ma 8), .ref (ma 9), .ref (ma 10), .ref (ma 11), .ref (ma 12), .ref (ma 13), .ref (ma 14), .ref (ma 15), .ref (ma 16), .ref (ma 17), .ref (ma 18), .ref (ma 19), .ref (ma 20), .ref (ma 21), .ref (ma 22), .int (nI ct), .int (nI pn), .ref (ma 25), .ref (ma 26), .ref (ma 27), .int (nI ln), .ref (ma 29), .ref (ma 30), .ref (ma 31)])), ((ma 4), .inl (D.1 100, 40, .inl (kx_ni fo))), ((ma 11), .inl (D.1 100, 24, .inl (kx_ni nm))), ((ma 12), .inl (D.1 100, 720, .inl (kx_ni nf))), ((ma 13), .inl (D.1 100, 720, .inl ng))] sz)) 0 0 (va_A [(w0, .inr (6, [.int (nI 0), .int (nI fc), .int (nI nc), .ref (ma 3), .ref (ma 4), .ref (ma 5), .ref (ma 6), .int (nI tn), .ref (ma 8), .ref (ma 9), .ref (ma 10), .ref (ma 11), .ref (ma 12), .ref (ma 13), .ref (ma 14), .ref (ma 15), .ref (ma 16), .ref (ma 17), .ref (ma 18), .ref (ma 19), .ref (ma 20), .ref (ma 21), .ref (ma 22), .int (nI ct), .int (nI pn), .ref (ma 25), .ref (ma 26), .ref (ma 27), .int (nI ln), .ref (ma 29), .ref (ma 30), .ref (ma 31)])), ((ma 4), .inl (D.1 100, 40, .inl (kx_ni fo))), ((ma 11), .inl (D.1 100, 24, .inl (kx_ni nm))), ((ma 12), .inl (D.1 100, 720, .inl (kx_ni nf))), ((ma 13), .inl (D.1 100, 720, .inl ng))] sz) := by
  refine kx_metW (by decide) rfl (Nat.le_of_ble_eq_true rfl) ?_
  intro p e s m args below meth c ls Q A hx hb hts hown hml hin hA hP hD hS hKK hl hQi hQz hQa hQv
  have hK := hKK.1
  replace hown : s.vm.findClass "TouchSelectModel" = some m.cls := hown
  replace hl : lv_has ls 6 [(0, .ref w0), (1, .int p0), (2, .int p1), (3, .int p2)] := hl
  refine lv_aload_n hx hb d_Mo_reads_0 rfl (lv_at hl 0 rfl) ?_
  refine lv_iconst (v := (nI 0)) hx hb d_Mo_reads_1 (by decide) ?_
  refine va_put (D := D) (ci := 6) (v := .int (nI 0)) (ty := .int) (C := "TouchSelectModel") (T := tt_Mo) (N := 32) hx hb hts (in_Mo _) ty_Mo ty_Mo_ok nm_Mo hown hK hP hD hS 0 rfl rfl 0 (by decide) (hts _ (gw_in gw_314)) (fun _ h9 => h9) rfl (by decide +kernel) rfl rfl (Nat.le_of_ble_eq_true rfl) d_Mo_reads_2 (fun H locs hP hD hS => ?_)
  replace hP : va_P D vwCl [(w0, .inr (6, [.int (nI 0), .int (nI fc), .int (nI nc), .ref (ma 3), .ref (ma 4), .ref (ma 5), .ref (ma 6), .int (nI tn), .ref (ma 8), .ref (ma 9), .ref (ma 10), .ref (ma 11), .ref (ma 12), .ref (ma 13), .ref (ma 14), .ref (ma 15), .ref (ma 16), .ref (ma 17), .ref (ma 18), .ref (ma 19), .ref (ma 20), .ref (ma 21), .ref (ma 22), .int (nI ct), .int (nI pn), .ref (ma 25), .ref (ma 26), .ref (ma 27), .int (nI ln), .ref (ma 29), .ref (ma 30), .ref (ma 31)])), ((ma 4), .inl (D.1 100, 40, .inl (kx_ni fo))), ((ma 11), .inl (D.1 100, 24, .inl (kx_ni nm))), ((ma 12), .inl (D.1 100, 720, .inl (kx_ni nf))), ((ma 13), .inl (D.1 100, 720, .inl ng))] H := hP
  replace hD : va_D A [(w0, .inr (6, [.int (nI 0), .int (nI fc), .int (nI nc), .ref (ma 3), .ref (ma 4), .ref (ma 5), .ref (ma 6), .int (nI tn), .ref (ma 8), .ref (ma 9), .ref (ma 10), .ref (ma 11), .ref (ma 12), .ref (ma 13), .ref (ma 14), .ref (ma 15), .ref (ma 16), .ref (ma 17), .ref (ma 18), .ref (ma 19), .ref (ma 20), .ref (ma 21), .ref (ma 22), .int (nI ct), .int (nI pn), .ref (ma 25), .ref (ma 26), .ref (ma 27), .int (nI ln), .ref (ma 29), .ref (ma 30), .ref (ma 31)])), ((ma 4), .inl (D.1 100, 40, .inl (kx_ni fo))), ((ma 11), .inl (D.1 100, 24, .inl (kx_ni nm))), ((ma 12), .inl (D.1 100, 720, .inl (kx_ni nf))), ((ma 13), .inl (D.1 100, 720, .inl ng))] := hD
  refine lv_aload_n hx hb d_Mo_reads_5 rfl (lv_at hl 0 rfl) ?_
  refine lv_iload_n hx hb d_Mo_reads_6 rfl (lv_at hl 1 rfl) ?_
  refine kx_callR (va_runV (As := [.int p0]) (rest := []) ⟨hx, hb, hml, hown, hts⟩ (c_Mo_isTest l D w0 ma fc nc tn ct pn ln p0 (by omega)) (gw_V 1 hts gw_408 gw_409 gw_490 gw_6 gw_410 rfl rfl (by decide +kernel) ⟨Nat.le_of_ble_eq_true rfl, Nat.le_of_ble_eq_true rfl⟩) (kx_preV (kx_ok D) hKK hK (hP.sub (ws' := [(w0, .inr (6, [.int (nI 0), .int (nI fc), .int (nI nc), .ref (ma 3), .ref (ma 4), .ref (ma 5), .ref (ma 6), .int (nI tn), .ref (ma 8), .ref (ma 9), .ref (ma 10), .ref (ma 11), .ref (ma 12), .ref (ma 13), .ref (ma 14), .ref (ma 15), .ref (ma 16), .ref (ma 17), .ref (ma 18), .ref (ma 19), .ref (ma 20), .ref (ma 21), .ref (ma 22), .int (nI ct), .int (nI pn), .ref (ma 25), .ref (ma 26), .ref (ma 27), .int (nI ln), .ref (ma 29), .ref (ma 30), .ref (ma 31)]))]) [0] rfl) 6 0 rfl rfl) rfl rfl hl.1 rfl (lv_room (Nat.le_of_ble_eq_true rfl)) d_Mo_reads_7 ⟨Nat.le_of_ble_eq_true rfl, Nat.le_of_ble_eq_true rfl⟩) ?_
  refine W.eq (g2 := F0 m 10 ls [.int (kx_b (px_has tn p0))]) rfl ?_
  refine kx_ifb_eq (tgt := 21) hx hb d_Mo_reads_10 (by decide) (fun c_10 => ?_) (fun c_10 => ?_)
  ·
    refine lv_iconst (v := (-1)) hx hb d_Mo_reads_21 (by decide) ?_
    exact hQi () d_Mo_reads_22 rfl (by simp only [if_neg (show ¬ (px_has tn p0 = true ∧ (px_rd fc nc fo p1 p2).isSome = true) from fun h9 => Bool.noConfusion (h9.1.symm.trans c_10)), if_neg (show ¬ (px_has tn p0 = true ∧ (px_rd fc nc fo p1 p2).isSome = true ∧ mo_found nf ng (px_ix p0) (nm (px_ix p0)) (px_ix p1) p2 = false ∧ nm (px_ix p0) ≠ 30) from fun h9 => (show ¬ (px_has tn p0 = true ∧ (px_rd fc nc fo p1 p2).isSome = true) from fun h9 => Bool.noConfusion (h9.1.symm.trans c_10)) ⟨h9.1, h9.2.1⟩)]) trivial (by simp only [if_neg (show ¬ (px_has tn p0 = true ∧ (px_rd fc nc fo p1 p2).isSome = true) from fun h9 => Bool.noConfusion (h9.1.symm.trans c_10)), if_neg (show ¬ (px_has tn p0 = true ∧ (px_rd fc nc fo p1 p2).isSome = true ∧ mo_found nf ng (px_ix p0) (nm (px_ix p0)) (px_ix p1) p2 = false ∧ nm (px_ix p0) ≠ 30) from fun h9 => (show ¬ (px_has tn p0 = true ∧ (px_rd fc nc fo p1 p2).isSome = true) from fun h9 => Bool.noConfusion (h9.1.symm.trans c_10)) ⟨h9.1, h9.2.1⟩)]; exact hP.sub [0, 1, 2, 3, 4] rfl) (by simp only [if_neg (show ¬ (px_has tn p0 = true ∧ (px_rd fc nc fo p1 p2).isSome = true) from fun h9 => Bool.noConfusion (h9.1.symm.trans c_10)), if_neg (show ¬ (px_has tn p0 = true ∧ (px_rd fc nc fo p1 p2).isSome = true ∧ mo_found nf ng (px_ix p0) (nm (px_ix p0)) (px_ix p1) p2 = false ∧ nm (px_ix p0) ≠ 30) from fun h9 => (show ¬ (px_has tn p0 = true ∧ (px_rd fc nc fo p1 p2).isSome = true) from fun h9 => Bool.noConfusion (h9.1.symm.trans c_10)) ⟨h9.1, h9.2.1⟩)]; exact hD.sub [0, 1, 2, 3, 4] (by decide) rfl) hS
  ·
    have hck0 := c_10
    obtain ⟨k0, hk0, rfl⟩ := px_has_t (by omega) c_10
    have hixk0 : px_ix (nI k0) = k0 := px_ix_nI (by omega)
    refine lv_aload_n hx hb d_Mo_reads_13 rfl (lv_at hl 0 rfl) ?_
    refine lv_iload_n hx hb d_Mo_reads_14 rfl (lv_at hl 2 rfl) ?_
    refine kx_callR (va_runV (As := [.int p1]) (rest := []) ⟨hx, hb, hml, hown, hts⟩ (c_Mo_isFile l D w0 ma fc nc tn ct pn ln p1 (by omega)) (gw_V 1 hts gw_386 gw_387 gw_488 gw_6 gw_388 rfl rfl (by decide +kernel) ⟨Nat.le_of_ble_eq_true rfl, Nat.le_of_ble_eq_true rfl⟩) (kx_preV (kx_ok D) hKK hK (hP.sub (ws' := [(w0, .inr (6, [.int (nI 0), .int (nI fc), .int (nI nc), .ref (ma 3), .ref (ma 4), .ref (ma 5), .ref (ma 6), .int (nI tn), .ref (ma 8), .ref (ma 9), .ref (ma 10), .ref (ma 11), .ref (ma 12), .ref (ma 13), .ref (ma 14), .ref (ma 15), .ref (ma 16), .ref (ma 17), .ref (ma 18), .ref (ma 19), .ref (ma 20), .ref (ma 21), .ref (ma 22), .int (nI ct), .int (nI pn), .ref (ma 25), .ref (ma 26), .ref (ma 27), .int (nI ln), .ref (ma 29), .ref (ma 30), .ref (ma 31)]))]) [0] rfl) 6 0 rfl rfl) rfl rfl hl.1 rfl (lv_room (Nat.le_of_ble_eq_true rfl)) d_Mo_reads_15 ⟨Nat.le_of_ble_eq_true rfl, Nat.le_of_ble_eq_true rfl⟩) ?_
    refine W.eq (g2 := F0 m 18 ls [.int (kx_b (px_has fc p1))]) rfl ?_
    refine kx_ifb_ne (tgt := 23) hx hb d_Mo_reads_18 (by decide) (fun c_18 => ?_) (fun c_18 => ?_)
    ·
      have hck1 := c_18
      obtain ⟨k1, hk1, rfl⟩ := px_has_t (by omega) c_18
      have hixk1 : px_ix (nI k1) = k1 := px_ix_nI (by omega)
      refine lv_iload_n hx hb d_Mo_reads_23 rfl (lv_at hl 3 rfl) ?_
      refine lv_iconst (v := (-1)) hx hb d_Mo_reads_24 (by decide) ?_
      refine lv_icmp_eq (tgt := 48) hx hb d_Mo_reads_25 (by decide) (fun c_25 => ?_) (fun c_25 => ?_)
      ·
        subst c_25
        have hrd : px_rd fc nc fo (nI k1) (-1) = some k1 := by rw [px_rd_b hck1, hixk1]
        have hpos : px_has tn (nI k0) = true ∧ (px_rd fc nc fo (nI k1) (-1)).isSome = true := ⟨hck0, by rw [hrd]; rfl⟩
        have hn30 := hnm k0 hk0
        refine lv_bipush (v := (nI 30)) hx hb d_Mo_reads_48 (by decide) ?_
        refine lv_iload_n hx hb d_Mo_reads_50 rfl (lv_at hl 1 rfl) ?_
        refine lv_imul hx hb d_Mo_reads_51 ?_
        refine kx_topi (pk_mul 30 k0) ?_
        refine lv_istore (lv' := [(4, .int (nI (30 * k0))), (0, .ref w0), (1, .int (nI k0)), (2, .int (nI k1)), (3, .int (-1))]) hx hb d_Mo_reads_52 hl (by decide) rfl (fun ls hl => ?_)
        refine lv_iconst (v := (nI 0)) hx hb d_Mo_reads_54 (by decide) ?_
        refine lv_istore (lv' := [(5, .int (nI 0)), (4, .int (nI (30 * k0))), (0, .ref w0), (1, .int (nI k0)), (2, .int (nI k1)), (3, .int (-1))]) hx hb d_Mo_reads_55 hl (by decide) rfl (fun ls hl => ?_)
        have L_57 : ∀ (nn : Nat) (i : Nat) (ls : Array Slot), nm k0 - i < nn → (i ≤ nm k0) → (∀ k, k < i → ¬ (nf (30 * k0 + k) = k1 ∧ ng (30 * k0 + k) = (-1))) → lv_has ls 6 [(5, .int (nI i)), (4, .int (nI (30 * k0))), (0, .ref w0), (1, .int (nI k0)), (2, .int (nI k1)), (3, .int (-1))] → W p l e rm_Mo_reads s m args below meth c H locs 0 0 Q (F0 m 57 ls []) := by
          intro nn
          induction nn with
          | zero => intros; omega
          | succ nn ih =>
            intro i ls hmm hi hno hl
            refine lv_iload hx hb d_Mo_reads_57 (lv_at hl 0 rfl) ?_
            refine lv_aload_n hx hb d_Mo_reads_59 rfl (lv_at hl 2 rfl) ?_
            refine va_get (D := D) (ci := 6) (v := .ref (ma 11)) (C := "TouchSelectModel") (T := tt_Mo) (N := 32) hx hb hts (in_Mo _) hown hK hP 0 rfl rfl 11 (by decide) (hts _ (gw_in gw_325)) (fun _ h9 => h9) rfl d_Mo_reads_60 ?_
            refine lv_iload_n hx hb d_Mo_reads_63 rfl (lv_at hl 3 rfl) ?_
            refine kx_iald hx hb hK hP 2 0 rfl rfl (k := k0) (by omega) (by omega) d_Mo_reads_64 ?_
            refine kx_icmp_ge (tgt := 104) hx hb d_Mo_reads_65 (by decide) (by omega) (by omega) (fun c_65 => ?_) (fun c_65 => ?_)
            ·
              have hnf : ¬ (mo_found nf ng k0 (nm k0) k1 (-1) = true) := fun h9 => by obtain ⟨k, h8, h7, h6⟩ := of_decide_eq_true h9; exact hno k (by omega) ⟨h7, h6⟩
              refine lv_aload_n hx hb d_Mo_reads_104 rfl (lv_at hl 2 rfl) ?_
              refine va_get (D := D) (ci := 6) (v := .ref (ma 11)) (C := "TouchSelectModel") (T := tt_Mo) (N := 32) hx hb hts (in_Mo _) hown hK hP 0 rfl rfl 11 (by decide) (hts _ (gw_in gw_325)) (fun _ h9 => h9) rfl d_Mo_reads_105 ?_
              refine lv_iload_n hx hb d_Mo_reads_108 rfl (lv_at hl 3 rfl) ?_
              refine kx_iald hx hb hK hP 2 0 rfl rfl (k := k0) (by omega) (by omega) d_Mo_reads_109 ?_
              refine lv_bipush (v := (nI 30)) hx hb d_Mo_reads_110 (by decide) ?_
              refine kx_icmp_ne (tgt := 117) hx hb d_Mo_reads_112 (by decide) (by omega) (by omega) (fun c_112 => ?_) (fun c_112 => ?_)
              ·
                have hco : (px_has tn (nI k0) = true ∧ (px_rd fc nc fo (nI k1) (-1)).isSome = true ∧ mo_found nf ng k0 (nm k0) k1 (-1) = false ∧ nm k0 ≠ 30) := ⟨hck0, hpos.2, by cases h9 : mo_found nf ng k0 (nm k0) k1 (-1); rfl; exact absurd h9 hnf, c_112⟩
                refine lv_aload_n hx hb d_Mo_reads_117 rfl (lv_at hl 2 rfl) ?_
                refine va_get (D := D) (ci := 6) (v := .ref (ma 12)) (C := "TouchSelectModel") (T := tt_Mo) (N := 32) hx hb hts (in_Mo _) hown hK hP 0 rfl rfl 12 (by decide) (hts _ (gw_in gw_326)) (fun _ h9 => h9) rfl d_Mo_reads_118 ?_
                refine lv_iload hx hb d_Mo_reads_121 (lv_at hl 1 rfl) ?_
                refine lv_aload_n hx hb d_Mo_reads_123 rfl (lv_at hl 2 rfl) ?_
                refine va_get (D := D) (ci := 6) (v := .ref (ma 11)) (C := "TouchSelectModel") (T := tt_Mo) (N := 32) hx hb hts (in_Mo _) hown hK hP 0 rfl rfl 11 (by decide) (hts _ (gw_in gw_325)) (fun _ h9 => h9) rfl d_Mo_reads_124 ?_
                refine lv_iload_n hx hb d_Mo_reads_127 rfl (lv_at hl 3 rfl) ?_
                refine kx_iald hx hb hK hP 2 0 rfl rfl (k := k0) (by omega) (by omega) d_Mo_reads_128 ?_
                refine lv_iadd hx hb d_Mo_reads_129 ?_
                refine kx_topi (nI_add (30 * k0) (nm k0)) ?_
                refine lv_iload_n hx hb d_Mo_reads_130 rfl (lv_at hl 4 rfl) ?_
                refine kx_iast hx hb hK hP hD hS 3 0 rfl rfl (k := ((30 * k0) + (nm k0))) (by omega) (by omega) d_Mo_reads_131 (fun H locs hP hD hS => ?_)
                replace hP : va_P D vwCl [(w0, .inr (6, [.int (nI 0), .int (nI fc), .int (nI nc), .ref (ma 3), .ref (ma 4), .ref (ma 5), .ref (ma 6), .int (nI tn), .ref (ma 8), .ref (ma 9), .ref (ma 10), .ref (ma 11), .ref (ma 12), .ref (ma 13), .ref (ma 14), .ref (ma 15), .ref (ma 16), .ref (ma 17), .ref (ma 18), .ref (ma 19), .ref (ma 20), .ref (ma 21), .ref (ma 22), .int (nI ct), .int (nI pn), .ref (ma 25), .ref (ma 26), .ref (ma 27), .int (nI ln), .ref (ma 29), .ref (ma 30), .ref (ma 31)])), ((ma 4), .inl (D.1 100, 40, .inl (kx_ni fo))), ((ma 11), .inl (D.1 100, 24, .inl (kx_ni nm))), ((ma 12), .inl (D.1 100, 720, .inl (kx_ni (va_up nf ((30 * k0) + (nm k0)) k1)))), ((ma 13), .inl (D.1 100, 720, .inl ng))] H := hP
                replace hD : va_D A [(w0, .inr (6, [.int (nI 0), .int (nI fc), .int (nI nc), .ref (ma 3), .ref (ma 4), .ref (ma 5), .ref (ma 6), .int (nI tn), .ref (ma 8), .ref (ma 9), .ref (ma 10), .ref (ma 11), .ref (ma 12), .ref (ma 13), .ref (ma 14), .ref (ma 15), .ref (ma 16), .ref (ma 17), .ref (ma 18), .ref (ma 19), .ref (ma 20), .ref (ma 21), .ref (ma 22), .int (nI ct), .int (nI pn), .ref (ma 25), .ref (ma 26), .ref (ma 27), .int (nI ln), .ref (ma 29), .ref (ma 30), .ref (ma 31)])), ((ma 4), .inl (D.1 100, 40, .inl (kx_ni fo))), ((ma 11), .inl (D.1 100, 24, .inl (kx_ni nm))), ((ma 12), .inl (D.1 100, 720, .inl (kx_ni (va_up nf ((30 * k0) + (nm k0)) k1)))), ((ma 13), .inl (D.1 100, 720, .inl ng))] := hD
                refine lv_aload_n hx hb d_Mo_reads_132 rfl (lv_at hl 2 rfl) ?_
                refine va_get (D := D) (ci := 6) (v := .ref (ma 13)) (C := "TouchSelectModel") (T := tt_Mo) (N := 32) hx hb hts (in_Mo _) hown hK hP 0 rfl rfl 13 (by decide) (hts _ (gw_in gw_327)) (fun _ h9 => h9) rfl d_Mo_reads_133 ?_
                refine lv_iload hx hb d_Mo_reads_136 (lv_at hl 1 rfl) ?_
                refine lv_aload_n hx hb d_Mo_reads_138 rfl (lv_at hl 2 rfl) ?_
                refine va_get (D := D) (ci := 6) (v := .ref (ma 11)) (C := "TouchSelectModel") (T := tt_Mo) (N := 32) hx hb hts (in_Mo _) hown hK hP 0 rfl rfl 11 (by decide) (hts _ (gw_in gw_325)) (fun _ h9 => h9) rfl d_Mo_reads_139 ?_
                refine lv_iload_n hx hb d_Mo_reads_142 rfl (lv_at hl 3 rfl) ?_
                refine kx_iald hx hb hK hP 2 0 rfl rfl (k := k0) (by omega) (by omega) d_Mo_reads_143 ?_
                refine lv_iadd hx hb d_Mo_reads_144 ?_
                refine kx_topi (nI_add (30 * k0) (nm k0)) ?_
                refine lv_iload_n hx hb d_Mo_reads_145 rfl (lv_at hl 5 rfl) ?_
                refine kx_iastI hx hb hK hP hD hS 4 0 rfl rfl (k := ((30 * k0) + (nm k0))) (by omega) (by omega) d_Mo_reads_146 (fun H locs hP hD hS => ?_)
                replace hP : va_P D vwCl [(w0, .inr (6, [.int (nI 0), .int (nI fc), .int (nI nc), .ref (ma 3), .ref (ma 4), .ref (ma 5), .ref (ma 6), .int (nI tn), .ref (ma 8), .ref (ma 9), .ref (ma 10), .ref (ma 11), .ref (ma 12), .ref (ma 13), .ref (ma 14), .ref (ma 15), .ref (ma 16), .ref (ma 17), .ref (ma 18), .ref (ma 19), .ref (ma 20), .ref (ma 21), .ref (ma 22), .int (nI ct), .int (nI pn), .ref (ma 25), .ref (ma 26), .ref (ma 27), .int (nI ln), .ref (ma 29), .ref (ma 30), .ref (ma 31)])), ((ma 4), .inl (D.1 100, 40, .inl (kx_ni fo))), ((ma 11), .inl (D.1 100, 24, .inl (kx_ni nm))), ((ma 12), .inl (D.1 100, 720, .inl (kx_ni (va_up nf ((30 * k0) + (nm k0)) k1)))), ((ma 13), .inl (D.1 100, 720, .inl (va_up ng ((30 * k0) + (nm k0)) (-1))))] H := hP
                replace hD : va_D A [(w0, .inr (6, [.int (nI 0), .int (nI fc), .int (nI nc), .ref (ma 3), .ref (ma 4), .ref (ma 5), .ref (ma 6), .int (nI tn), .ref (ma 8), .ref (ma 9), .ref (ma 10), .ref (ma 11), .ref (ma 12), .ref (ma 13), .ref (ma 14), .ref (ma 15), .ref (ma 16), .ref (ma 17), .ref (ma 18), .ref (ma 19), .ref (ma 20), .ref (ma 21), .ref (ma 22), .int (nI ct), .int (nI pn), .ref (ma 25), .ref (ma 26), .ref (ma 27), .int (nI ln), .ref (ma 29), .ref (ma 30), .ref (ma 31)])), ((ma 4), .inl (D.1 100, 40, .inl (kx_ni fo))), ((ma 11), .inl (D.1 100, 24, .inl (kx_ni nm))), ((ma 12), .inl (D.1 100, 720, .inl (kx_ni (va_up nf ((30 * k0) + (nm k0)) k1)))), ((ma 13), .inl (D.1 100, 720, .inl (va_up ng ((30 * k0) + (nm k0)) (-1))))] := hD
                refine lv_aload_n hx hb d_Mo_reads_147 rfl (lv_at hl 2 rfl) ?_
                refine va_get (D := D) (ci := 6) (v := .ref (ma 11)) (C := "TouchSelectModel") (T := tt_Mo) (N := 32) hx hb hts (in_Mo _) hown hK hP 0 rfl rfl 11 (by decide) (hts _ (gw_in gw_325)) (fun _ h9 => h9) rfl d_Mo_reads_148 ?_
                refine lv_iload_n hx hb d_Mo_reads_151 rfl (lv_at hl 3 rfl) ?_
                refine lv_dup2_11 hx hb d_Mo_reads_152 rfl rfl ?_
                refine kx_iald hx hb hK hP 2 0 rfl rfl (k := k0) (by omega) (by omega) d_Mo_reads_153 ?_
                refine lv_iconst (v := (nI 1)) hx hb d_Mo_reads_154 (by decide) ?_
                refine lv_iadd hx hb d_Mo_reads_155 ?_
                refine kx_topi (nI_add (nm k0) 1) ?_
                refine kx_iast hx hb hK hP hD hS 2 0 rfl rfl (k := k0) (by omega) (by omega) d_Mo_reads_156 (fun H locs hP hD hS => ?_)
                replace hP : va_P D vwCl [(w0, .inr (6, [.int (nI 0), .int (nI fc), .int (nI nc), .ref (ma 3), .ref (ma 4), .ref (ma 5), .ref (ma 6), .int (nI tn), .ref (ma 8), .ref (ma 9), .ref (ma 10), .ref (ma 11), .ref (ma 12), .ref (ma 13), .ref (ma 14), .ref (ma 15), .ref (ma 16), .ref (ma 17), .ref (ma 18), .ref (ma 19), .ref (ma 20), .ref (ma 21), .ref (ma 22), .int (nI ct), .int (nI pn), .ref (ma 25), .ref (ma 26), .ref (ma 27), .int (nI ln), .ref (ma 29), .ref (ma 30), .ref (ma 31)])), ((ma 4), .inl (D.1 100, 40, .inl (kx_ni fo))), ((ma 11), .inl (D.1 100, 24, .inl (kx_ni (va_up nm k0 ((nm k0) + 1))))), ((ma 12), .inl (D.1 100, 720, .inl (kx_ni (va_up nf ((30 * k0) + (nm k0)) k1)))), ((ma 13), .inl (D.1 100, 720, .inl (va_up ng ((30 * k0) + (nm k0)) (-1))))] H := hP
                replace hD : va_D A [(w0, .inr (6, [.int (nI 0), .int (nI fc), .int (nI nc), .ref (ma 3), .ref (ma 4), .ref (ma 5), .ref (ma 6), .int (nI tn), .ref (ma 8), .ref (ma 9), .ref (ma 10), .ref (ma 11), .ref (ma 12), .ref (ma 13), .ref (ma 14), .ref (ma 15), .ref (ma 16), .ref (ma 17), .ref (ma 18), .ref (ma 19), .ref (ma 20), .ref (ma 21), .ref (ma 22), .int (nI ct), .int (nI pn), .ref (ma 25), .ref (ma 26), .ref (ma 27), .int (nI ln), .ref (ma 29), .ref (ma 30), .ref (ma 31)])), ((ma 4), .inl (D.1 100, 40, .inl (kx_ni fo))), ((ma 11), .inl (D.1 100, 24, .inl (kx_ni (va_up nm k0 ((nm k0) + 1))))), ((ma 12), .inl (D.1 100, 720, .inl (kx_ni (va_up nf ((30 * k0) + (nm k0)) k1)))), ((ma 13), .inl (D.1 100, 720, .inl (va_up ng ((30 * k0) + (nm k0)) (-1))))] := hD
                refine lv_iconst (v := (nI 1)) hx hb d_Mo_reads_157 (by decide) ?_
                exact hQi () d_Mo_reads_158 rfl (by simp only [hixk0, hixk1, if_pos hpos, if_neg hnf, if_neg c_112, if_pos hco]; rfl) trivial (by simp only [hixk0, hixk1, if_pos hpos, if_neg hnf, if_neg c_112, if_pos hco]; exact hP.sub [0, 1, 2, 3, 4] rfl) (by simp only [hixk0, hixk1, if_pos hpos, if_neg hnf, if_neg c_112, if_pos hco]; exact hD.sub [0, 1, 2, 3, 4] (by decide) rfl) hS
              ·
                refine lv_iconst (v := (-1)) hx hb d_Mo_reads_115 (by decide) ?_
                exact hQi () d_Mo_reads_116 rfl (by simp only [hixk0, hixk1, if_pos hpos, if_neg hnf, if_pos c_112, if_neg (show ¬ (px_has tn (nI k0) = true ∧ (px_rd fc nc fo (nI k1) (-1)).isSome = true ∧ mo_found nf ng k0 (nm k0) k1 (-1) = false ∧ nm k0 ≠ 30) from fun h9 => h9.2.2.2 c_112)]) trivial (by simp only [hixk0, hixk1, if_pos hpos, if_neg hnf, if_pos c_112, if_neg (show ¬ (px_has tn (nI k0) = true ∧ (px_rd fc nc fo (nI k1) (-1)).isSome = true ∧ mo_found nf ng k0 (nm k0) k1 (-1) = false ∧ nm k0 ≠ 30) from fun h9 => h9.2.2.2 c_112)]; exact hP.sub [0, 1, 2, 3, 4] rfl) (by simp only [hixk0, hixk1, if_pos hpos, if_neg hnf, if_pos c_112, if_neg (show ¬ (px_has tn (nI k0) = true ∧ (px_rd fc nc fo (nI k1) (-1)).isSome = true ∧ mo_found nf ng k0 (nm k0) k1 (-1) = false ∧ nm k0 ≠ 30) from fun h9 => h9.2.2.2 c_112)]; exact hD.sub [0, 1, 2, 3, 4] (by decide) rfl) hS
            ·
              refine lv_aload_n hx hb d_Mo_reads_68 rfl (lv_at hl 2 rfl) ?_
              refine va_get (D := D) (ci := 6) (v := .ref (ma 12)) (C := "TouchSelectModel") (T := tt_Mo) (N := 32) hx hb hts (in_Mo _) hown hK hP 0 rfl rfl 12 (by decide) (hts _ (gw_in gw_326)) (fun _ h9 => h9) rfl d_Mo_reads_69 ?_
              refine lv_iload hx hb d_Mo_reads_72 (lv_at hl 1 rfl) ?_
              refine lv_iload hx hb d_Mo_reads_74 (lv_at hl 0 rfl) ?_
              refine lv_iadd hx hb d_Mo_reads_76 ?_
              refine kx_topi (nI_add (30 * k0) i) ?_
              refine kx_iald hx hb hK hP 3 0 rfl rfl (k := ((30 * k0) + i)) (by omega) (by omega) d_Mo_reads_77 ?_
              refine lv_iload_n hx hb d_Mo_reads_78 rfl (lv_at hl 4 rfl) ?_
              have hnfi := hnf (30 * k0 + i)
              refine kx_icmp_ne (tgt := 98) hx hb d_Mo_reads_79 (by decide) (by omega) (by omega) (fun c_79 => ?_) (fun c_79 => ?_)
              ·
                refine lv_iinc (v := (nI (i + 1))) (lv' := [(5, .int (nI (i + 1))), (4, .int (nI (30 * k0))), (0, .ref w0), (1, .int (nI k0)), (2, .int (nI k1)), (3, .int (-1))]) hx hb d_Mo_reads_98 hl (k := 0) rfl (kx_inc i 1 (by decide)) (by decide) rfl (fun ls hl => ?_)
                refine lv_goto (tgt := 57) hx hb d_Mo_reads_101 (by decide) ?_
                exact ih (i + 1) ls (by omega) (by omega) (fun k h9 => by rcases Nat.lt_or_ge k i with q9 | q9; exact hno k q9; rw [show k = i by omega]; exact (fun h7 => c_79 h7.1)) (lv_sub hl [0, 1, 2, 3, 4, 5] rfl)
              ·
                refine lv_aload_n hx hb d_Mo_reads_82 rfl (lv_at hl 2 rfl) ?_
                refine va_get (D := D) (ci := 6) (v := .ref (ma 13)) (C := "TouchSelectModel") (T := tt_Mo) (N := 32) hx hb hts (in_Mo _) hown hK hP 0 rfl rfl 13 (by decide) (hts _ (gw_in gw_327)) (fun _ h9 => h9) rfl d_Mo_reads_83 ?_
                refine lv_iload hx hb d_Mo_reads_86 (lv_at hl 1 rfl) ?_
                refine lv_iload hx hb d_Mo_reads_88 (lv_at hl 0 rfl) ?_
                refine lv_iadd hx hb d_Mo_reads_90 ?_
                refine kx_topi (nI_add (30 * k0) i) ?_
                refine kx_ialdI hx hb hK hP 4 0 rfl rfl (k := ((30 * k0) + i)) (by omega) (by omega) d_Mo_reads_91 ?_
                refine lv_iload_n hx hb d_Mo_reads_92 rfl (lv_at hl 5 rfl) ?_
                refine lv_icmp_ne (tgt := 98) hx hb d_Mo_reads_93 (by decide) (fun c_93 => ?_) (fun c_93 => ?_)
                ·
                  refine lv_iinc (v := (nI (i + 1))) (lv' := [(5, .int (nI (i + 1))), (4, .int (nI (30 * k0))), (0, .ref w0), (1, .int (nI k0)), (2, .int (nI k1)), (3, .int (-1))]) hx hb d_Mo_reads_98 hl (k := 0) rfl (kx_inc i 1 (by decide)) (by decide) rfl (fun ls hl => ?_)
                  refine lv_goto (tgt := 57) hx hb d_Mo_reads_101 (by decide) ?_
                  exact ih (i + 1) ls (by omega) (by omega) (fun k h9 => by rcases Nat.lt_or_ge k i with q9 | q9; exact hno k q9; rw [show k = i by omega]; exact (fun h7 => c_93 h7.2)) (lv_sub hl [0, 1, 2, 3, 4, 5] rfl)
                ·
                  have hfd : mo_found nf ng k0 (nm k0) k1 (-1) = true := decide_eq_true ⟨i, by omega, c_79, c_93⟩
                  refine lv_iconst (v := (nI 0)) hx hb d_Mo_reads_96 (by decide) ?_
                  exact hQi () d_Mo_reads_97 rfl (by simp only [hixk0, hixk1, if_pos hpos, if_pos hfd, if_neg (show ¬ (px_has tn (nI k0) = true ∧ (px_rd fc nc fo (nI k1) (-1)).isSome = true ∧ mo_found nf ng k0 (nm k0) k1 (-1) = false ∧ nm k0 ≠ 30) from fun h9 => Bool.noConfusion (h9.2.2.1.symm.trans hfd))]; rfl) trivial (by simp only [hixk0, hixk1, if_pos hpos, if_pos hfd, if_neg (show ¬ (px_has tn (nI k0) = true ∧ (px_rd fc nc fo (nI k1) (-1)).isSome = true ∧ mo_found nf ng k0 (nm k0) k1 (-1) = false ∧ nm k0 ≠ 30) from fun h9 => Bool.noConfusion (h9.2.2.1.symm.trans hfd))]; exact hP.sub [0, 1, 2, 3, 4] rfl) (by simp only [hixk0, hixk1, if_pos hpos, if_pos hfd, if_neg (show ¬ (px_has tn (nI k0) = true ∧ (px_rd fc nc fo (nI k1) (-1)).isSome = true ∧ mo_found nf ng k0 (nm k0) k1 (-1) = false ∧ nm k0 ≠ 30) from fun h9 => Bool.noConfusion (h9.2.2.1.symm.trans hfd))]; exact hD.sub [0, 1, 2, 3, 4] (by decide) rfl) hS
        exact L_57 (nm k0 - 0 + 1) 0 ls (by omega) (by omega) (fun k h9 => absurd h9 (by omega)) (lv_sub hl [0, 1, 2, 3, 4, 5] rfl)
      ·
        refine lv_aload_n hx hb d_Mo_reads_28 rfl (lv_at hl 0 rfl) ?_
        refine lv_iload_n hx hb d_Mo_reads_29 rfl (lv_at hl 3 rfl) ?_
        refine kx_callR (va_runV (As := [.int p2]) (rest := []) ⟨hx, hb, hml, hown, hts⟩ (c_Mo_isFunction l D w0 ma fc nc tn ct pn ln p2 (by omega)) (gw_V 1 hts gw_397 gw_398 gw_489 gw_6 gw_399 rfl rfl (by decide +kernel) ⟨Nat.le_of_ble_eq_true rfl, Nat.le_of_ble_eq_true rfl⟩) (kx_preV (kx_ok D) hKK hK (hP.sub (ws' := [(w0, .inr (6, [.int (nI 0), .int (nI fc), .int (nI nc), .ref (ma 3), .ref (ma 4), .ref (ma 5), .ref (ma 6), .int (nI tn), .ref (ma 8), .ref (ma 9), .ref (ma 10), .ref (ma 11), .ref (ma 12), .ref (ma 13), .ref (ma 14), .ref (ma 15), .ref (ma 16), .ref (ma 17), .ref (ma 18), .ref (ma 19), .ref (ma 20), .ref (ma 21), .ref (ma 22), .int (nI ct), .int (nI pn), .ref (ma 25), .ref (ma 26), .ref (ma 27), .int (nI ln), .ref (ma 29), .ref (ma 30), .ref (ma 31)]))]) [0] rfl) 6 0 rfl rfl) rfl rfl hl.1 rfl (lv_room (Nat.le_of_ble_eq_true rfl)) d_Mo_reads_30 ⟨Nat.le_of_ble_eq_true rfl, Nat.le_of_ble_eq_true rfl⟩) ?_
        refine W.eq (g2 := F0 m 33 ls [.int (kx_b (px_has nc p2))]) rfl ?_
        refine kx_ifb_eq (tgt := 46) hx hb d_Mo_reads_33 (by decide) (fun c_33 => ?_) (fun c_33 => ?_)
        ·
          refine lv_iconst (v := (-1)) hx hb d_Mo_reads_46 (by decide) ?_
          exact hQi () d_Mo_reads_47 rfl (by simp only [hixk0, hixk1, if_neg (show ¬ (px_has tn (nI k0) = true ∧ (px_rd fc nc fo (nI k1) p2).isSome = true) from fun h9 => by have h8 := h9.2; rw [px_rd_c hck1 c_25 (fun h7 => absurd (h7.1.symm.trans c_33) (by decide))] at h8; exact Bool.noConfusion h8), if_neg (show ¬ (px_has tn (nI k0) = true ∧ (px_rd fc nc fo (nI k1) p2).isSome = true ∧ mo_found nf ng k0 (nm k0) k1 p2 = false ∧ nm k0 ≠ 30) from fun h9 => (show ¬ (px_has tn (nI k0) = true ∧ (px_rd fc nc fo (nI k1) p2).isSome = true) from fun h9 => by have h8 := h9.2; rw [px_rd_c hck1 c_25 (fun h7 => absurd (h7.1.symm.trans c_33) (by decide))] at h8; exact Bool.noConfusion h8) ⟨h9.1, h9.2.1⟩)]) trivial (by simp only [hixk0, hixk1, if_neg (show ¬ (px_has tn (nI k0) = true ∧ (px_rd fc nc fo (nI k1) p2).isSome = true) from fun h9 => by have h8 := h9.2; rw [px_rd_c hck1 c_25 (fun h7 => absurd (h7.1.symm.trans c_33) (by decide))] at h8; exact Bool.noConfusion h8), if_neg (show ¬ (px_has tn (nI k0) = true ∧ (px_rd fc nc fo (nI k1) p2).isSome = true ∧ mo_found nf ng k0 (nm k0) k1 p2 = false ∧ nm k0 ≠ 30) from fun h9 => (show ¬ (px_has tn (nI k0) = true ∧ (px_rd fc nc fo (nI k1) p2).isSome = true) from fun h9 => by have h8 := h9.2; rw [px_rd_c hck1 c_25 (fun h7 => absurd (h7.1.symm.trans c_33) (by decide))] at h8; exact Bool.noConfusion h8) ⟨h9.1, h9.2.1⟩)]; exact hP.sub [0, 1, 2, 3, 4] rfl) (by simp only [hixk0, hixk1, if_neg (show ¬ (px_has tn (nI k0) = true ∧ (px_rd fc nc fo (nI k1) p2).isSome = true) from fun h9 => by have h8 := h9.2; rw [px_rd_c hck1 c_25 (fun h7 => absurd (h7.1.symm.trans c_33) (by decide))] at h8; exact Bool.noConfusion h8), if_neg (show ¬ (px_has tn (nI k0) = true ∧ (px_rd fc nc fo (nI k1) p2).isSome = true ∧ mo_found nf ng k0 (nm k0) k1 p2 = false ∧ nm k0 ≠ 30) from fun h9 => (show ¬ (px_has tn (nI k0) = true ∧ (px_rd fc nc fo (nI k1) p2).isSome = true) from fun h9 => by have h8 := h9.2; rw [px_rd_c hck1 c_25 (fun h7 => absurd (h7.1.symm.trans c_33) (by decide))] at h8; exact Bool.noConfusion h8) ⟨h9.1, h9.2.1⟩)]; exact hD.sub [0, 1, 2, 3, 4] (by decide) rfl) hS
        ·
          have hck2 := c_33
          obtain ⟨k2, hk2, rfl⟩ := px_has_t (by omega) c_33
          have hixk2 : px_ix (nI k2) = k2 := px_ix_nI (by omega)
          refine lv_aload_n hx hb d_Mo_reads_36 rfl (lv_at hl 0 rfl) ?_
          refine va_get (D := D) (ci := 6) (v := .ref (ma 4)) (C := "TouchSelectModel") (T := tt_Mo) (N := 32) hx hb hts (in_Mo _) hown hK hP 0 rfl rfl 4 (by decide) (hts _ (gw_in gw_318)) (fun _ h9 => h9) rfl d_Mo_reads_37 ?_
          refine lv_iload_n hx hb d_Mo_reads_40 rfl (lv_at hl 3 rfl) ?_
          refine kx_iald hx hb hK hP 1 0 rfl rfl (k := k2) (by omega) (by omega) d_Mo_reads_41 ?_
          refine lv_iload_n hx hb d_Mo_reads_42 rfl (lv_at hl 2 rfl) ?_
          have hfo2 := hfo k2
          refine kx_icmp_eq (tgt := 48) hx hb d_Mo_reads_43 (by decide) (by omega) (by omega) (fun c_43 => ?_) (fun c_43 => ?_)
          ·
            have hrd : px_rd fc nc fo (nI k1) (nI k2) = some (20 + k2) := by rw [px_rd_d hck1 c_25 hck2 (by rw [hixk2, hixk1]; exact c_43), hixk2]
            have hpos : px_has tn (nI k0) = true ∧ (px_rd fc nc fo (nI k1) (nI k2)).isSome = true := ⟨hck0, by rw [hrd]; rfl⟩
            have hn30 := hnm k0 hk0
            refine lv_bipush (v := (nI 30)) hx hb d_Mo_reads_48 (by decide) ?_
            refine lv_iload_n hx hb d_Mo_reads_50 rfl (lv_at hl 1 rfl) ?_
            refine lv_imul hx hb d_Mo_reads_51 ?_
            refine kx_topi (pk_mul 30 k0) ?_
            refine lv_istore (lv' := [(4, .int (nI (30 * k0))), (0, .ref w0), (1, .int (nI k0)), (2, .int (nI k1)), (3, .int (nI k2))]) hx hb d_Mo_reads_52 hl (by decide) rfl (fun ls hl => ?_)
            refine lv_iconst (v := (nI 0)) hx hb d_Mo_reads_54 (by decide) ?_
            refine lv_istore (lv' := [(5, .int (nI 0)), (4, .int (nI (30 * k0))), (0, .ref w0), (1, .int (nI k0)), (2, .int (nI k1)), (3, .int (nI k2))]) hx hb d_Mo_reads_55 hl (by decide) rfl (fun ls hl => ?_)
            have L_57 : ∀ (nn : Nat) (i : Nat) (ls : Array Slot), nm k0 - i < nn → (i ≤ nm k0) → (∀ k, k < i → ¬ (nf (30 * k0 + k) = k1 ∧ ng (30 * k0 + k) = (nI k2))) → lv_has ls 6 [(5, .int (nI i)), (4, .int (nI (30 * k0))), (0, .ref w0), (1, .int (nI k0)), (2, .int (nI k1)), (3, .int (nI k2))] → W p l e rm_Mo_reads s m args below meth c H locs 0 0 Q (F0 m 57 ls []) := by
              intro nn
              induction nn with
              | zero => intros; omega
              | succ nn ih =>
                intro i ls hmm hi hno hl
                refine lv_iload hx hb d_Mo_reads_57 (lv_at hl 0 rfl) ?_
                refine lv_aload_n hx hb d_Mo_reads_59 rfl (lv_at hl 2 rfl) ?_
                refine va_get (D := D) (ci := 6) (v := .ref (ma 11)) (C := "TouchSelectModel") (T := tt_Mo) (N := 32) hx hb hts (in_Mo _) hown hK hP 0 rfl rfl 11 (by decide) (hts _ (gw_in gw_325)) (fun _ h9 => h9) rfl d_Mo_reads_60 ?_
                refine lv_iload_n hx hb d_Mo_reads_63 rfl (lv_at hl 3 rfl) ?_
                refine kx_iald hx hb hK hP 2 0 rfl rfl (k := k0) (by omega) (by omega) d_Mo_reads_64 ?_
                refine kx_icmp_ge (tgt := 104) hx hb d_Mo_reads_65 (by decide) (by omega) (by omega) (fun c_65 => ?_) (fun c_65 => ?_)
                ·
                  have hnf : ¬ (mo_found nf ng k0 (nm k0) k1 (nI k2) = true) := fun h9 => by obtain ⟨k, h8, h7, h6⟩ := of_decide_eq_true h9; exact hno k (by omega) ⟨h7, h6⟩
                  refine lv_aload_n hx hb d_Mo_reads_104 rfl (lv_at hl 2 rfl) ?_
                  refine va_get (D := D) (ci := 6) (v := .ref (ma 11)) (C := "TouchSelectModel") (T := tt_Mo) (N := 32) hx hb hts (in_Mo _) hown hK hP 0 rfl rfl 11 (by decide) (hts _ (gw_in gw_325)) (fun _ h9 => h9) rfl d_Mo_reads_105 ?_
                  refine lv_iload_n hx hb d_Mo_reads_108 rfl (lv_at hl 3 rfl) ?_
                  refine kx_iald hx hb hK hP 2 0 rfl rfl (k := k0) (by omega) (by omega) d_Mo_reads_109 ?_
                  refine lv_bipush (v := (nI 30)) hx hb d_Mo_reads_110 (by decide) ?_
                  refine kx_icmp_ne (tgt := 117) hx hb d_Mo_reads_112 (by decide) (by omega) (by omega) (fun c_112 => ?_) (fun c_112 => ?_)
                  ·
                    have hco : (px_has tn (nI k0) = true ∧ (px_rd fc nc fo (nI k1) (nI k2)).isSome = true ∧ mo_found nf ng k0 (nm k0) k1 (nI k2) = false ∧ nm k0 ≠ 30) := ⟨hck0, hpos.2, by cases h9 : mo_found nf ng k0 (nm k0) k1 (nI k2); rfl; exact absurd h9 hnf, c_112⟩
                    refine lv_aload_n hx hb d_Mo_reads_117 rfl (lv_at hl 2 rfl) ?_
                    refine va_get (D := D) (ci := 6) (v := .ref (ma 12)) (C := "TouchSelectModel") (T := tt_Mo) (N := 32) hx hb hts (in_Mo _) hown hK hP 0 rfl rfl 12 (by decide) (hts _ (gw_in gw_326)) (fun _ h9 => h9) rfl d_Mo_reads_118 ?_
                    refine lv_iload hx hb d_Mo_reads_121 (lv_at hl 1 rfl) ?_
                    refine lv_aload_n hx hb d_Mo_reads_123 rfl (lv_at hl 2 rfl) ?_
                    refine va_get (D := D) (ci := 6) (v := .ref (ma 11)) (C := "TouchSelectModel") (T := tt_Mo) (N := 32) hx hb hts (in_Mo _) hown hK hP 0 rfl rfl 11 (by decide) (hts _ (gw_in gw_325)) (fun _ h9 => h9) rfl d_Mo_reads_124 ?_
                    refine lv_iload_n hx hb d_Mo_reads_127 rfl (lv_at hl 3 rfl) ?_
                    refine kx_iald hx hb hK hP 2 0 rfl rfl (k := k0) (by omega) (by omega) d_Mo_reads_128 ?_
                    refine lv_iadd hx hb d_Mo_reads_129 ?_
                    refine kx_topi (nI_add (30 * k0) (nm k0)) ?_
                    refine lv_iload_n hx hb d_Mo_reads_130 rfl (lv_at hl 4 rfl) ?_
                    refine kx_iast hx hb hK hP hD hS 3 0 rfl rfl (k := ((30 * k0) + (nm k0))) (by omega) (by omega) d_Mo_reads_131 (fun H locs hP hD hS => ?_)
                    replace hP : va_P D vwCl [(w0, .inr (6, [.int (nI 0), .int (nI fc), .int (nI nc), .ref (ma 3), .ref (ma 4), .ref (ma 5), .ref (ma 6), .int (nI tn), .ref (ma 8), .ref (ma 9), .ref (ma 10), .ref (ma 11), .ref (ma 12), .ref (ma 13), .ref (ma 14), .ref (ma 15), .ref (ma 16), .ref (ma 17), .ref (ma 18), .ref (ma 19), .ref (ma 20), .ref (ma 21), .ref (ma 22), .int (nI ct), .int (nI pn), .ref (ma 25), .ref (ma 26), .ref (ma 27), .int (nI ln), .ref (ma 29), .ref (ma 30), .ref (ma 31)])), ((ma 4), .inl (D.1 100, 40, .inl (kx_ni fo))), ((ma 11), .inl (D.1 100, 24, .inl (kx_ni nm))), ((ma 12), .inl (D.1 100, 720, .inl (kx_ni (va_up nf ((30 * k0) + (nm k0)) k1)))), ((ma 13), .inl (D.1 100, 720, .inl ng))] H := hP
                    replace hD : va_D A [(w0, .inr (6, [.int (nI 0), .int (nI fc), .int (nI nc), .ref (ma 3), .ref (ma 4), .ref (ma 5), .ref (ma 6), .int (nI tn), .ref (ma 8), .ref (ma 9), .ref (ma 10), .ref (ma 11), .ref (ma 12), .ref (ma 13), .ref (ma 14), .ref (ma 15), .ref (ma 16), .ref (ma 17), .ref (ma 18), .ref (ma 19), .ref (ma 20), .ref (ma 21), .ref (ma 22), .int (nI ct), .int (nI pn), .ref (ma 25), .ref (ma 26), .ref (ma 27), .int (nI ln), .ref (ma 29), .ref (ma 30), .ref (ma 31)])), ((ma 4), .inl (D.1 100, 40, .inl (kx_ni fo))), ((ma 11), .inl (D.1 100, 24, .inl (kx_ni nm))), ((ma 12), .inl (D.1 100, 720, .inl (kx_ni (va_up nf ((30 * k0) + (nm k0)) k1)))), ((ma 13), .inl (D.1 100, 720, .inl ng))] := hD
                    refine lv_aload_n hx hb d_Mo_reads_132 rfl (lv_at hl 2 rfl) ?_
                    refine va_get (D := D) (ci := 6) (v := .ref (ma 13)) (C := "TouchSelectModel") (T := tt_Mo) (N := 32) hx hb hts (in_Mo _) hown hK hP 0 rfl rfl 13 (by decide) (hts _ (gw_in gw_327)) (fun _ h9 => h9) rfl d_Mo_reads_133 ?_
                    refine lv_iload hx hb d_Mo_reads_136 (lv_at hl 1 rfl) ?_
                    refine lv_aload_n hx hb d_Mo_reads_138 rfl (lv_at hl 2 rfl) ?_
                    refine va_get (D := D) (ci := 6) (v := .ref (ma 11)) (C := "TouchSelectModel") (T := tt_Mo) (N := 32) hx hb hts (in_Mo _) hown hK hP 0 rfl rfl 11 (by decide) (hts _ (gw_in gw_325)) (fun _ h9 => h9) rfl d_Mo_reads_139 ?_
                    refine lv_iload_n hx hb d_Mo_reads_142 rfl (lv_at hl 3 rfl) ?_
                    refine kx_iald hx hb hK hP 2 0 rfl rfl (k := k0) (by omega) (by omega) d_Mo_reads_143 ?_
                    refine lv_iadd hx hb d_Mo_reads_144 ?_
                    refine kx_topi (nI_add (30 * k0) (nm k0)) ?_
                    refine lv_iload_n hx hb d_Mo_reads_145 rfl (lv_at hl 5 rfl) ?_
                    refine kx_iastI hx hb hK hP hD hS 4 0 rfl rfl (k := ((30 * k0) + (nm k0))) (by omega) (by omega) d_Mo_reads_146 (fun H locs hP hD hS => ?_)
                    replace hP : va_P D vwCl [(w0, .inr (6, [.int (nI 0), .int (nI fc), .int (nI nc), .ref (ma 3), .ref (ma 4), .ref (ma 5), .ref (ma 6), .int (nI tn), .ref (ma 8), .ref (ma 9), .ref (ma 10), .ref (ma 11), .ref (ma 12), .ref (ma 13), .ref (ma 14), .ref (ma 15), .ref (ma 16), .ref (ma 17), .ref (ma 18), .ref (ma 19), .ref (ma 20), .ref (ma 21), .ref (ma 22), .int (nI ct), .int (nI pn), .ref (ma 25), .ref (ma 26), .ref (ma 27), .int (nI ln), .ref (ma 29), .ref (ma 30), .ref (ma 31)])), ((ma 4), .inl (D.1 100, 40, .inl (kx_ni fo))), ((ma 11), .inl (D.1 100, 24, .inl (kx_ni nm))), ((ma 12), .inl (D.1 100, 720, .inl (kx_ni (va_up nf ((30 * k0) + (nm k0)) k1)))), ((ma 13), .inl (D.1 100, 720, .inl (va_up ng ((30 * k0) + (nm k0)) (nI k2))))] H := hP
                    replace hD : va_D A [(w0, .inr (6, [.int (nI 0), .int (nI fc), .int (nI nc), .ref (ma 3), .ref (ma 4), .ref (ma 5), .ref (ma 6), .int (nI tn), .ref (ma 8), .ref (ma 9), .ref (ma 10), .ref (ma 11), .ref (ma 12), .ref (ma 13), .ref (ma 14), .ref (ma 15), .ref (ma 16), .ref (ma 17), .ref (ma 18), .ref (ma 19), .ref (ma 20), .ref (ma 21), .ref (ma 22), .int (nI ct), .int (nI pn), .ref (ma 25), .ref (ma 26), .ref (ma 27), .int (nI ln), .ref (ma 29), .ref (ma 30), .ref (ma 31)])), ((ma 4), .inl (D.1 100, 40, .inl (kx_ni fo))), ((ma 11), .inl (D.1 100, 24, .inl (kx_ni nm))), ((ma 12), .inl (D.1 100, 720, .inl (kx_ni (va_up nf ((30 * k0) + (nm k0)) k1)))), ((ma 13), .inl (D.1 100, 720, .inl (va_up ng ((30 * k0) + (nm k0)) (nI k2))))] := hD
                    refine lv_aload_n hx hb d_Mo_reads_147 rfl (lv_at hl 2 rfl) ?_
                    refine va_get (D := D) (ci := 6) (v := .ref (ma 11)) (C := "TouchSelectModel") (T := tt_Mo) (N := 32) hx hb hts (in_Mo _) hown hK hP 0 rfl rfl 11 (by decide) (hts _ (gw_in gw_325)) (fun _ h9 => h9) rfl d_Mo_reads_148 ?_
                    refine lv_iload_n hx hb d_Mo_reads_151 rfl (lv_at hl 3 rfl) ?_
                    refine lv_dup2_11 hx hb d_Mo_reads_152 rfl rfl ?_
                    refine kx_iald hx hb hK hP 2 0 rfl rfl (k := k0) (by omega) (by omega) d_Mo_reads_153 ?_
                    refine lv_iconst (v := (nI 1)) hx hb d_Mo_reads_154 (by decide) ?_
                    refine lv_iadd hx hb d_Mo_reads_155 ?_
                    refine kx_topi (nI_add (nm k0) 1) ?_
                    refine kx_iast hx hb hK hP hD hS 2 0 rfl rfl (k := k0) (by omega) (by omega) d_Mo_reads_156 (fun H locs hP hD hS => ?_)
                    replace hP : va_P D vwCl [(w0, .inr (6, [.int (nI 0), .int (nI fc), .int (nI nc), .ref (ma 3), .ref (ma 4), .ref (ma 5), .ref (ma 6), .int (nI tn), .ref (ma 8), .ref (ma 9), .ref (ma 10), .ref (ma 11), .ref (ma 12), .ref (ma 13), .ref (ma 14), .ref (ma 15), .ref (ma 16), .ref (ma 17), .ref (ma 18), .ref (ma 19), .ref (ma 20), .ref (ma 21), .ref (ma 22), .int (nI ct), .int (nI pn), .ref (ma 25), .ref (ma 26), .ref (ma 27), .int (nI ln), .ref (ma 29), .ref (ma 30), .ref (ma 31)])), ((ma 4), .inl (D.1 100, 40, .inl (kx_ni fo))), ((ma 11), .inl (D.1 100, 24, .inl (kx_ni (va_up nm k0 ((nm k0) + 1))))), ((ma 12), .inl (D.1 100, 720, .inl (kx_ni (va_up nf ((30 * k0) + (nm k0)) k1)))), ((ma 13), .inl (D.1 100, 720, .inl (va_up ng ((30 * k0) + (nm k0)) (nI k2))))] H := hP
                    replace hD : va_D A [(w0, .inr (6, [.int (nI 0), .int (nI fc), .int (nI nc), .ref (ma 3), .ref (ma 4), .ref (ma 5), .ref (ma 6), .int (nI tn), .ref (ma 8), .ref (ma 9), .ref (ma 10), .ref (ma 11), .ref (ma 12), .ref (ma 13), .ref (ma 14), .ref (ma 15), .ref (ma 16), .ref (ma 17), .ref (ma 18), .ref (ma 19), .ref (ma 20), .ref (ma 21), .ref (ma 22), .int (nI ct), .int (nI pn), .ref (ma 25), .ref (ma 26), .ref (ma 27), .int (nI ln), .ref (ma 29), .ref (ma 30), .ref (ma 31)])), ((ma 4), .inl (D.1 100, 40, .inl (kx_ni fo))), ((ma 11), .inl (D.1 100, 24, .inl (kx_ni (va_up nm k0 ((nm k0) + 1))))), ((ma 12), .inl (D.1 100, 720, .inl (kx_ni (va_up nf ((30 * k0) + (nm k0)) k1)))), ((ma 13), .inl (D.1 100, 720, .inl (va_up ng ((30 * k0) + (nm k0)) (nI k2))))] := hD
                    refine lv_iconst (v := (nI 1)) hx hb d_Mo_reads_157 (by decide) ?_
                    exact hQi () d_Mo_reads_158 rfl (by simp only [hixk0, hixk1, if_pos hpos, if_neg hnf, if_neg c_112, if_pos hco]; rfl) trivial (by simp only [hixk0, hixk1, if_pos hpos, if_neg hnf, if_neg c_112, if_pos hco]; exact hP.sub [0, 1, 2, 3, 4] rfl) (by simp only [hixk0, hixk1, if_pos hpos, if_neg hnf, if_neg c_112, if_pos hco]; exact hD.sub [0, 1, 2, 3, 4] (by decide) rfl) hS
                  ·
                    refine lv_iconst (v := (-1)) hx hb d_Mo_reads_115 (by decide) ?_
                    exact hQi () d_Mo_reads_116 rfl (by simp only [hixk0, hixk1, if_pos hpos, if_neg hnf, if_pos c_112, if_neg (show ¬ (px_has tn (nI k0) = true ∧ (px_rd fc nc fo (nI k1) (nI k2)).isSome = true ∧ mo_found nf ng k0 (nm k0) k1 (nI k2) = false ∧ nm k0 ≠ 30) from fun h9 => h9.2.2.2 c_112)]) trivial (by simp only [hixk0, hixk1, if_pos hpos, if_neg hnf, if_pos c_112, if_neg (show ¬ (px_has tn (nI k0) = true ∧ (px_rd fc nc fo (nI k1) (nI k2)).isSome = true ∧ mo_found nf ng k0 (nm k0) k1 (nI k2) = false ∧ nm k0 ≠ 30) from fun h9 => h9.2.2.2 c_112)]; exact hP.sub [0, 1, 2, 3, 4] rfl) (by simp only [hixk0, hixk1, if_pos hpos, if_neg hnf, if_pos c_112, if_neg (show ¬ (px_has tn (nI k0) = true ∧ (px_rd fc nc fo (nI k1) (nI k2)).isSome = true ∧ mo_found nf ng k0 (nm k0) k1 (nI k2) = false ∧ nm k0 ≠ 30) from fun h9 => h9.2.2.2 c_112)]; exact hD.sub [0, 1, 2, 3, 4] (by decide) rfl) hS
                ·
                  refine lv_aload_n hx hb d_Mo_reads_68 rfl (lv_at hl 2 rfl) ?_
                  refine va_get (D := D) (ci := 6) (v := .ref (ma 12)) (C := "TouchSelectModel") (T := tt_Mo) (N := 32) hx hb hts (in_Mo _) hown hK hP 0 rfl rfl 12 (by decide) (hts _ (gw_in gw_326)) (fun _ h9 => h9) rfl d_Mo_reads_69 ?_
                  refine lv_iload hx hb d_Mo_reads_72 (lv_at hl 1 rfl) ?_
                  refine lv_iload hx hb d_Mo_reads_74 (lv_at hl 0 rfl) ?_
                  refine lv_iadd hx hb d_Mo_reads_76 ?_
                  refine kx_topi (nI_add (30 * k0) i) ?_
                  refine kx_iald hx hb hK hP 3 0 rfl rfl (k := ((30 * k0) + i)) (by omega) (by omega) d_Mo_reads_77 ?_
                  refine lv_iload_n hx hb d_Mo_reads_78 rfl (lv_at hl 4 rfl) ?_
                  have hnfi := hnf (30 * k0 + i)
                  refine kx_icmp_ne (tgt := 98) hx hb d_Mo_reads_79 (by decide) (by omega) (by omega) (fun c_79 => ?_) (fun c_79 => ?_)
                  ·
                    refine lv_iinc (v := (nI (i + 1))) (lv' := [(5, .int (nI (i + 1))), (4, .int (nI (30 * k0))), (0, .ref w0), (1, .int (nI k0)), (2, .int (nI k1)), (3, .int (nI k2))]) hx hb d_Mo_reads_98 hl (k := 0) rfl (kx_inc i 1 (by decide)) (by decide) rfl (fun ls hl => ?_)
                    refine lv_goto (tgt := 57) hx hb d_Mo_reads_101 (by decide) ?_
                    exact ih (i + 1) ls (by omega) (by omega) (fun k h9 => by rcases Nat.lt_or_ge k i with q9 | q9; exact hno k q9; rw [show k = i by omega]; exact (fun h7 => c_79 h7.1)) (lv_sub hl [0, 1, 2, 3, 4, 5] rfl)
                  ·
                    refine lv_aload_n hx hb d_Mo_reads_82 rfl (lv_at hl 2 rfl) ?_
                    refine va_get (D := D) (ci := 6) (v := .ref (ma 13)) (C := "TouchSelectModel") (T := tt_Mo) (N := 32) hx hb hts (in_Mo _) hown hK hP 0 rfl rfl 13 (by decide) (hts _ (gw_in gw_327)) (fun _ h9 => h9) rfl d_Mo_reads_83 ?_
                    refine lv_iload hx hb d_Mo_reads_86 (lv_at hl 1 rfl) ?_
                    refine lv_iload hx hb d_Mo_reads_88 (lv_at hl 0 rfl) ?_
                    refine lv_iadd hx hb d_Mo_reads_90 ?_
                    refine kx_topi (nI_add (30 * k0) i) ?_
                    refine kx_ialdI hx hb hK hP 4 0 rfl rfl (k := ((30 * k0) + i)) (by omega) (by omega) d_Mo_reads_91 ?_
                    refine lv_iload_n hx hb d_Mo_reads_92 rfl (lv_at hl 5 rfl) ?_
                    refine lv_icmp_ne (tgt := 98) hx hb d_Mo_reads_93 (by decide) (fun c_93 => ?_) (fun c_93 => ?_)
                    ·
                      refine lv_iinc (v := (nI (i + 1))) (lv' := [(5, .int (nI (i + 1))), (4, .int (nI (30 * k0))), (0, .ref w0), (1, .int (nI k0)), (2, .int (nI k1)), (3, .int (nI k2))]) hx hb d_Mo_reads_98 hl (k := 0) rfl (kx_inc i 1 (by decide)) (by decide) rfl (fun ls hl => ?_)
                      refine lv_goto (tgt := 57) hx hb d_Mo_reads_101 (by decide) ?_
                      exact ih (i + 1) ls (by omega) (by omega) (fun k h9 => by rcases Nat.lt_or_ge k i with q9 | q9; exact hno k q9; rw [show k = i by omega]; exact (fun h7 => c_93 h7.2)) (lv_sub hl [0, 1, 2, 3, 4, 5] rfl)
                    ·
                      have hfd : mo_found nf ng k0 (nm k0) k1 (nI k2) = true := decide_eq_true ⟨i, by omega, c_79, c_93⟩
                      refine lv_iconst (v := (nI 0)) hx hb d_Mo_reads_96 (by decide) ?_
                      exact hQi () d_Mo_reads_97 rfl (by simp only [hixk0, hixk1, if_pos hpos, if_pos hfd, if_neg (show ¬ (px_has tn (nI k0) = true ∧ (px_rd fc nc fo (nI k1) (nI k2)).isSome = true ∧ mo_found nf ng k0 (nm k0) k1 (nI k2) = false ∧ nm k0 ≠ 30) from fun h9 => Bool.noConfusion (h9.2.2.1.symm.trans hfd))]; rfl) trivial (by simp only [hixk0, hixk1, if_pos hpos, if_pos hfd, if_neg (show ¬ (px_has tn (nI k0) = true ∧ (px_rd fc nc fo (nI k1) (nI k2)).isSome = true ∧ mo_found nf ng k0 (nm k0) k1 (nI k2) = false ∧ nm k0 ≠ 30) from fun h9 => Bool.noConfusion (h9.2.2.1.symm.trans hfd))]; exact hP.sub [0, 1, 2, 3, 4] rfl) (by simp only [hixk0, hixk1, if_pos hpos, if_pos hfd, if_neg (show ¬ (px_has tn (nI k0) = true ∧ (px_rd fc nc fo (nI k1) (nI k2)).isSome = true ∧ mo_found nf ng k0 (nm k0) k1 (nI k2) = false ∧ nm k0 ≠ 30) from fun h9 => Bool.noConfusion (h9.2.2.1.symm.trans hfd))]; exact hD.sub [0, 1, 2, 3, 4] (by decide) rfl) hS
            exact L_57 (nm k0 - 0 + 1) 0 ls (by omega) (by omega) (fun k h9 => absurd h9 (by omega)) (lv_sub hl [0, 1, 2, 3, 4, 5] rfl)
          ·
            refine lv_iconst (v := (-1)) hx hb d_Mo_reads_46 (by decide) ?_
            exact hQi () d_Mo_reads_47 rfl (by simp only [hixk0, hixk1, if_neg (show ¬ (px_has tn (nI k0) = true ∧ (px_rd fc nc fo (nI k1) (nI k2)).isSome = true) from fun h9 => by have h8 := h9.2; rw [px_rd_c hck1 c_25 (fun h7 => c_43 (by have h6 := h7.2; rw [hixk2, hixk1] at h6; exact h6))] at h8; exact Bool.noConfusion h8), if_neg (show ¬ (px_has tn (nI k0) = true ∧ (px_rd fc nc fo (nI k1) (nI k2)).isSome = true ∧ mo_found nf ng k0 (nm k0) k1 (nI k2) = false ∧ nm k0 ≠ 30) from fun h9 => (show ¬ (px_has tn (nI k0) = true ∧ (px_rd fc nc fo (nI k1) (nI k2)).isSome = true) from fun h9 => by have h8 := h9.2; rw [px_rd_c hck1 c_25 (fun h7 => c_43 (by have h6 := h7.2; rw [hixk2, hixk1] at h6; exact h6))] at h8; exact Bool.noConfusion h8) ⟨h9.1, h9.2.1⟩)]) trivial (by simp only [hixk0, hixk1, if_neg (show ¬ (px_has tn (nI k0) = true ∧ (px_rd fc nc fo (nI k1) (nI k2)).isSome = true) from fun h9 => by have h8 := h9.2; rw [px_rd_c hck1 c_25 (fun h7 => c_43 (by have h6 := h7.2; rw [hixk2, hixk1] at h6; exact h6))] at h8; exact Bool.noConfusion h8), if_neg (show ¬ (px_has tn (nI k0) = true ∧ (px_rd fc nc fo (nI k1) (nI k2)).isSome = true ∧ mo_found nf ng k0 (nm k0) k1 (nI k2) = false ∧ nm k0 ≠ 30) from fun h9 => (show ¬ (px_has tn (nI k0) = true ∧ (px_rd fc nc fo (nI k1) (nI k2)).isSome = true) from fun h9 => by have h8 := h9.2; rw [px_rd_c hck1 c_25 (fun h7 => c_43 (by have h6 := h7.2; rw [hixk2, hixk1] at h6; exact h6))] at h8; exact Bool.noConfusion h8) ⟨h9.1, h9.2.1⟩)]; exact hP.sub [0, 1, 2, 3, 4] rfl) (by simp only [hixk0, hixk1, if_neg (show ¬ (px_has tn (nI k0) = true ∧ (px_rd fc nc fo (nI k1) (nI k2)).isSome = true) from fun h9 => by have h8 := h9.2; rw [px_rd_c hck1 c_25 (fun h7 => c_43 (by have h6 := h7.2; rw [hixk2, hixk1] at h6; exact h6))] at h8; exact Bool.noConfusion h8), if_neg (show ¬ (px_has tn (nI k0) = true ∧ (px_rd fc nc fo (nI k1) (nI k2)).isSome = true ∧ mo_found nf ng k0 (nm k0) k1 (nI k2) = false ∧ nm k0 ≠ 30) from fun h9 => (show ¬ (px_has tn (nI k0) = true ∧ (px_rd fc nc fo (nI k1) (nI k2)).isSome = true) from fun h9 => by have h8 := h9.2; rw [px_rd_c hck1 c_25 (fun h7 => c_43 (by have h6 := h7.2; rw [hixk2, hixk1] at h6; exact h6))] at h8; exact Bool.noConfusion h8) ⟨h9.1, h9.2.1⟩)]; exact hD.sub [0, 1, 2, 3, 4] (by decide) rfl) hS
    ·
      refine lv_iconst (v := (-1)) hx hb d_Mo_reads_21 (by decide) ?_
      exact hQi () d_Mo_reads_22 rfl (by simp only [hixk0, if_neg (show ¬ (px_has tn (nI k0) = true ∧ (px_rd fc nc fo p1 p2).isSome = true) from fun h9 => by have h8 := h9.2; rw [px_rd_a c_18] at h8; exact Bool.noConfusion h8), if_neg (show ¬ (px_has tn (nI k0) = true ∧ (px_rd fc nc fo p1 p2).isSome = true ∧ mo_found nf ng k0 (nm k0) (px_ix p1) p2 = false ∧ nm k0 ≠ 30) from fun h9 => (show ¬ (px_has tn (nI k0) = true ∧ (px_rd fc nc fo p1 p2).isSome = true) from fun h9 => by have h8 := h9.2; rw [px_rd_a c_18] at h8; exact Bool.noConfusion h8) ⟨h9.1, h9.2.1⟩)]) trivial (by simp only [hixk0, if_neg (show ¬ (px_has tn (nI k0) = true ∧ (px_rd fc nc fo p1 p2).isSome = true) from fun h9 => by have h8 := h9.2; rw [px_rd_a c_18] at h8; exact Bool.noConfusion h8), if_neg (show ¬ (px_has tn (nI k0) = true ∧ (px_rd fc nc fo p1 p2).isSome = true ∧ mo_found nf ng k0 (nm k0) (px_ix p1) p2 = false ∧ nm k0 ≠ 30) from fun h9 => (show ¬ (px_has tn (nI k0) = true ∧ (px_rd fc nc fo p1 p2).isSome = true) from fun h9 => by have h8 := h9.2; rw [px_rd_a c_18] at h8; exact Bool.noConfusion h8) ⟨h9.1, h9.2.1⟩)]; exact hP.sub [0, 1, 2, 3, 4] rfl) (by simp only [hixk0, if_neg (show ¬ (px_has tn (nI k0) = true ∧ (px_rd fc nc fo p1 p2).isSome = true) from fun h9 => by have h8 := h9.2; rw [px_rd_a c_18] at h8; exact Bool.noConfusion h8), if_neg (show ¬ (px_has tn (nI k0) = true ∧ (px_rd fc nc fo p1 p2).isSome = true ∧ mo_found nf ng k0 (nm k0) (px_ix p1) p2 = false ∧ nm k0 ≠ 30) from fun h9 => (show ¬ (px_has tn (nI k0) = true ∧ (px_rd fc nc fo p1 p2).isSome = true) from fun h9 => by have h8 := h9.2; rw [px_rd_a c_18] at h8; exact Bool.noConfusion h8) ⟨h9.1, h9.2.1⟩)]; exact hD.sub [0, 1, 2, 3, 4] (by decide) rfl) hS
