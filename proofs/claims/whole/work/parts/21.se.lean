def rm_Se_init : Room := { frames := 1, cells := 2, slots := 44, locals := 20 }
set_option maxHeartbeats 4000000 in
set_option maxRecDepth 100000 in
/-- Selection() -/
theorem c_Se_init (l : Launch) (D : va_G) (h0 : Nat) (sz : Nat) : Met l yy_Se_init ww_Se_init rm_Se_init (va_Pc [.ref h0] (kx_C (kx_K D) D vwCl [(h0, .inr (2, [.null, .int (nI 0), .int (nI 0), .null]))] sz)) (kx_Q (S := Nat × Nat) D vwCl (fun z => none) (fun _ => True) (fun z => [(h0, .inr (2, [.ref z.1, .int (nI 0), .int (nI 0), .ref z.2])), (z.1, .inl (D.1 100, 24, .inl (kx_ni (fun _ => 0)))), (z.2, .inl (D.1 101, 20, .inl (kx_bi (fun _ => false))))]) (va_A [(h0, .inr (2, [.null, .int (nI 0), .int (nI 0), .null]))] sz)) 2 44 (va_A [(h0, .inr (2, [.null, .int (nI 0), .int (nI 0), .null]))] sz) := by
  refine kx_metW (by decide) rfl (Nat.le_of_ble_eq_true rfl) ?_
  intro p e s m args below meth c ls Q A hx hb hts hown hml hin hA hP hD hS hKK hl hQi hQz hQa hQv
  have hK := hKK.1
  replace hown : s.vm.findClass "TouchSelect$Selection" = some m.cls := hown
  replace hl : lv_has ls 1 [(0, .ref h0)] := hl
  refine lv_aload_n hx hb d_Se_init_0 rfl (lv_at hl 0 rfl) ?_
  refine W.objInit hx hb hown (hts _ (gw_in gw_49)) (hts _ (gw_in gw_16)) (hts _ (gw_in gw_17)) rfl (by rw [hml]; exact hl.1) rfl d_Se_init_1 (Nat.le_of_ble_eq_true rfl) (Nat.le_of_ble_eq_true rfl) ?_
  refine W.eq (g2 := F0 m 4 ls []) rfl ?_
  refine lv_aload_n hx hb d_Se_init_4 rfl (lv_at hl 0 rfl) ?_
  refine lv_bipush (v := (nI 24)) hx hb d_Se_init_5 (by decide) ?_
  refine kx_newI hx hb (hts _ (gw_in gw_43)) hK hP hD hS hA 0 rfl (by decide) (Nat.le_of_ble_eq_true rfl) (Nat.le_of_ble_eq_true rfl) d_Se_init_7 (fun q_7 H hP hD hS => ?_)
  replace hP : va_P D vwCl [(h0, .inr (2, [.null, .int (nI 0), .int (nI 0), .null])), (q_7, .inl (D.1 100, 24, .inl (kx_ni (fun _ => 0))))] H := hP
  replace hD : va_D A [(h0, .inr (2, [.null, .int (nI 0), .int (nI 0), .null])), (q_7, .inl (D.1 100, 24, .inl (kx_ni (fun _ => 0))))] := hD
  refine W.widen (k := 1) (n := 24) (Nat.le_refl _) (Nat.le_refl _) ?_
  refine va_putF (D := D) (ci := 2) (v := .ref q_7) (ty := (.array .int)) (C := "TouchSelect$Selection") (T := tt_Se) (N := 4) hx hb hts (in_Se _) ty_Se ty_Se_ok nm_Se hown hK hP hD hS 0 rfl rfl 0 (by decide) (hts _ (gw_in gw_50)) (fun _ h9 => h9) rfl hin rfl (by decide +kernel) rfl rfl (Nat.le_of_ble_eq_true rfl) d_Se_init_9 (fun H locs hP hD hS => ?_)
  replace hP : va_P D vwCl [(h0, .inr (2, [.ref q_7, .int (nI 0), .int (nI 0), .null])), (q_7, .inl (D.1 100, 24, .inl (kx_ni (fun _ => 0))))] H := hP
  replace hD : va_D A [(h0, .inr (2, [.ref q_7, .int (nI 0), .int (nI 0), .null])), (q_7, .inl (D.1 100, 24, .inl (kx_ni (fun _ => 0))))] := hD
  refine lv_aload_n hx hb d_Se_init_12 rfl (lv_at hl 0 rfl) ?_
  refine lv_iconst (v := (nI 0)) hx hb d_Se_init_13 (by decide) ?_
  refine va_put (D := D) (ci := 2) (v := .int (nI 0)) (ty := .int) (C := "TouchSelect$Selection") (T := tt_Se) (N := 4) hx hb hts (in_Se _) ty_Se ty_Se_ok nm_Se hown hK hP hD hS 0 rfl rfl 1 (by decide) (hts _ (gw_in gw_52)) (fun _ h9 => h9) rfl (by decide +kernel) rfl rfl (Nat.le_of_ble_eq_true rfl) d_Se_init_14 (fun H locs hP hD hS => ?_)
  replace hP : va_P D vwCl [(h0, .inr (2, [.ref q_7, .int (nI 0), .int (nI 0), .null])), (q_7, .inl (D.1 100, 24, .inl (kx_ni (fun _ => 0))))] H := hP
  replace hD : va_D A [(h0, .inr (2, [.ref q_7, .int (nI 0), .int (nI 0), .null])), (q_7, .inl (D.1 100, 24, .inl (kx_ni (fun _ => 0))))] := hD
  refine lv_aload_n hx hb d_Se_init_17 rfl (lv_at hl 0 rfl) ?_
  refine lv_iconst (v := (nI 0)) hx hb d_Se_init_18 (by decide) ?_
  refine va_put (D := D) (ci := 2) (v := .int (nI 0)) (ty := .int) (C := "TouchSelect$Selection") (T := tt_Se) (N := 4) hx hb hts (in_Se _) ty_Se ty_Se_ok nm_Se hown hK hP hD hS 0 rfl rfl 2 (by decide) (hts _ (gw_in gw_54)) (fun _ h9 => h9) rfl (by decide +kernel) rfl rfl (Nat.le_of_ble_eq_true rfl) d_Se_init_19 (fun H locs hP hD hS => ?_)
  replace hP : va_P D vwCl [(h0, .inr (2, [.ref q_7, .int (nI 0), .int (nI 0), .null])), (q_7, .inl (D.1 100, 24, .inl (kx_ni (fun _ => 0))))] H := hP
  replace hD : va_D A [(h0, .inr (2, [.ref q_7, .int (nI 0), .int (nI 0), .null])), (q_7, .inl (D.1 100, 24, .inl (kx_ni (fun _ => 0))))] := hD
  refine lv_aload_n hx hb d_Se_init_22 rfl (lv_at hl 0 rfl) ?_
  refine lv_bipush (v := (nI 20)) hx hb d_Se_init_23 (by decide) ?_
  refine kx_newZ hx hb (hts _ (gw_in gw_42)) hK hP hD hS hA 1 rfl (by decide) (Nat.le_of_ble_eq_true rfl) (Nat.le_of_ble_eq_true rfl) d_Se_init_25 (fun q_25 H hP hD hS => ?_)
  replace hP : va_P D vwCl [(h0, .inr (2, [.ref q_7, .int (nI 0), .int (nI 0), .null])), (q_7, .inl (D.1 100, 24, .inl (kx_ni (fun _ => 0)))), (q_25, .inl (D.1 101, 20, .inl (kx_bi (fun _ => false))))] H := hP
  replace hD : va_D A [(h0, .inr (2, [.ref q_7, .int (nI 0), .int (nI 0), .null])), (q_7, .inl (D.1 100, 24, .inl (kx_ni (fun _ => 0)))), (q_25, .inl (D.1 101, 20, .inl (kx_bi (fun _ => false))))] := hD
  refine W.widen (k := 2) (n := 44) (Nat.le_refl _) (Nat.le_refl _) ?_
  refine va_putF (D := D) (ci := 2) (v := .ref q_25) (ty := (.array .boolean)) (C := "TouchSelect$Selection") (T := tt_Se) (N := 4) hx hb hts (in_Se _) ty_Se ty_Se_ok nm_Se hown hK hP hD hS 0 rfl rfl 3 (by decide) (hts _ (gw_in gw_56)) (fun _ h9 => h9) rfl hin rfl (by decide +kernel) rfl rfl (Nat.le_of_ble_eq_true rfl) d_Se_init_27 (fun H locs hP hD hS => ?_)
  replace hP : va_P D vwCl [(h0, .inr (2, [.ref q_7, .int (nI 0), .int (nI 0), .ref q_25])), (q_7, .inl (D.1 100, 24, .inl (kx_ni (fun _ => 0)))), (q_25, .inl (D.1 101, 20, .inl (kx_bi (fun _ => false))))] H := hP
  replace hD : va_D A [(h0, .inr (2, [.ref q_7, .int (nI 0), .int (nI 0), .ref q_25])), (q_7, .inl (D.1 100, 24, .inl (kx_ni (fun _ => 0)))), (q_25, .inl (D.1 101, 20, .inl (kx_bi (fun _ => false))))] := hD
  exact hQv (q_7, q_25) d_Se_init_30 rfl (rfl) trivial (hP.sub [0, 1, 2] rfl) (hD.sub [0, 1, 2] (by decide) rfl) hS
def rm_Se_startNext : Room := { frames := 0, cells := 0, slots := 0, locals := 0 }
set_option maxHeartbeats 4000000 in
set_option maxRecDepth 100000 in
/-- startNext() -/
theorem c_Se_startNext (l : Launch) (D : va_G) (h0 : Nat) (m1 : Nat) (m2 : Nat) (sn : Nat) (ct : Nat) (sz : Nat) : Met l yy_Se_startNext ww_Se_startNext rm_Se_startNext (va_Pc [.ref h0] (kx_C (kx_K D) D vwCl [(h0, .inr (2, [.ref m1, .int (nI sn), .int (nI ct), .ref m2]))] sz)) (kx_Q (S := Unit) D vwCl (fun _ => none) (fun _ => True) (fun _ => [(h0, .inr (2, [.ref m1, .int (nI 0), .int (nI (ct + 1)), .ref m2]))]) (va_A [(h0, .inr (2, [.ref m1, .int (nI sn), .int (nI ct), .ref m2]))] sz)) 0 0 (va_A [(h0, .inr (2, [.ref m1, .int (nI sn), .int (nI ct), .ref m2]))] sz) := by
  refine kx_metW (by decide) rfl (Nat.le_of_ble_eq_true rfl) ?_
  intro p e s m args below meth c ls Q A hx hb hts hown hml hin hA hP hD hS hKK hl hQi hQz hQa hQv
  have hK := hKK.1
  replace hown : s.vm.findClass "TouchSelect$Selection" = some m.cls := hown
  replace hl : lv_has ls 1 [(0, .ref h0)] := hl
  refine lv_aload_n hx hb d_Se_startNext_0 rfl (lv_at hl 0 rfl) ?_
  refine lv_iconst (v := (nI 0)) hx hb d_Se_startNext_1 (by decide) ?_
  refine va_put (D := D) (ci := 2) (v := .int (nI 0)) (ty := .int) (C := "TouchSelect$Selection") (T := tt_Se) (N := 4) hx hb hts (in_Se _) ty_Se ty_Se_ok nm_Se hown hK hP hD hS 0 rfl rfl 1 (by decide) (hts _ (gw_in gw_52)) (fun _ h9 => h9) rfl (by decide +kernel) rfl rfl (Nat.le_of_ble_eq_true rfl) d_Se_startNext_2 (fun H locs hP hD hS => ?_)
  replace hP : va_P D vwCl [(h0, .inr (2, [.ref m1, .int (nI 0), .int (nI ct), .ref m2]))] H := hP
  replace hD : va_D A [(h0, .inr (2, [.ref m1, .int (nI 0), .int (nI ct), .ref m2]))] := hD
  refine lv_aload_n hx hb d_Se_startNext_5 rfl (lv_at hl 0 rfl) ?_
  refine lv_dup hx hb d_Se_startNext_6 rfl ?_
  refine va_get (D := D) (ci := 2) (v := .int (nI ct)) (C := "TouchSelect$Selection") (T := tt_Se) (N := 4) hx hb hts (in_Se _) hown hK hP 0 rfl rfl 2 (by decide) (hts _ (gw_in gw_54)) (fun _ h9 => h9) rfl d_Se_startNext_7 ?_
  refine lv_iconst (v := (nI 1)) hx hb d_Se_startNext_10 (by decide) ?_
  refine lv_iadd hx hb d_Se_startNext_11 ?_
  refine kx_topi (nI_add ct 1) ?_
  refine va_put (D := D) (ci := 2) (v := .int (nI (ct + 1))) (ty := .int) (C := "TouchSelect$Selection") (T := tt_Se) (N := 4) hx hb hts (in_Se _) ty_Se ty_Se_ok nm_Se hown hK hP hD hS 0 rfl rfl 2 (by decide) (hts _ (gw_in gw_54)) (fun _ h9 => h9) rfl (by decide +kernel) rfl rfl (Nat.le_of_ble_eq_true rfl) d_Se_startNext_12 (fun H locs hP hD hS => ?_)
  replace hP : va_P D vwCl [(h0, .inr (2, [.ref m1, .int (nI 0), .int (nI (ct + 1)), .ref m2]))] H := hP
  replace hD : va_D A [(h0, .inr (2, [.ref m1, .int (nI 0), .int (nI (ct + 1)), .ref m2]))] := hD
  exact hQv () d_Se_startNext_15 rfl (rfl) trivial (hP.sub [0] rfl) (hD.sub [0] (by decide) rfl) hS
def rm_Se_add : Room := { frames := 0, cells := 0, slots := 0, locals := 0 }
set_option maxHeartbeats 4000000 in
set_option maxRecDepth 100000 in
/-- add(k0) -/
theorem c_Se_add (l : Launch) (D : va_G) (h0 : Nat) (m1 : Nat) (m2 : Nat) (sn : Nat) (ct : Nat) (mb : Nat → Nat) (k0 : Nat) (sz : Nat) (hsn : sn ≤ 24) : Met l yy_Se_add ww_Se_add rm_Se_add (va_Pc [.ref h0, .int (nI k0)] (kx_C (kx_K D) D vwCl [(h0, .inr (2, [.ref m1, .int (nI sn), .int (nI ct), .ref m2])), (m1, .inl (D.1 100, 24, .inl (kx_ni mb)))] sz)) (kx_Q (S := Unit) D vwCl (fun _ => none) (fun _ => True) (fun _ => [(h0, .inr (2, [.ref m1, .int (nI (if sn < 24 then sn + 1 else sn)), .int (nI ct), .ref m2])), (m1, .inl (D.1 100, 24, .inl (kx_ni (if sn < 24 then va_up mb sn k0 else mb))))]) (va_A [(h0, .inr (2, [.ref m1, .int (nI sn), .int (nI ct), .ref m2])), (m1, .inl (D.1 100, 24, .inl (kx_ni mb)))] sz)) 0 0 (va_A [(h0, .inr (2, [.ref m1, .int (nI sn), .int (nI ct), .ref m2])), (m1, .inl (D.1 100, 24, .inl (kx_ni mb)))] sz) := by
  refine kx_metW (by decide) rfl (Nat.le_of_ble_eq_true rfl) ?_
  intro p e s m args below meth c ls Q A hx hb hts hown hml hin hA hP hD hS hKK hl hQi hQz hQa hQv
  have hK := hKK.1
  replace hown : s.vm.findClass "TouchSelect$Selection" = some m.cls := hown
  replace hl : lv_has ls 2 [(0, .ref h0), (1, .int (nI k0))] := hl
  refine lv_aload_n hx hb d_Se_add_0 rfl (lv_at hl 0 rfl) ?_
  refine va_get (D := D) (ci := 2) (v := .int (nI sn)) (C := "TouchSelect$Selection") (T := tt_Se) (N := 4) hx hb hts (in_Se _) hown hK hP 0 rfl rfl 1 (by decide) (hts _ (gw_in gw_52)) (fun _ h9 => h9) rfl d_Se_add_1 ?_
  refine lv_bipush (v := (nI 24)) hx hb d_Se_add_4 (by decide) ?_
  refine kx_icmp_ge (tgt := 29) hx hb d_Se_add_6 (by decide) (by omega) (by omega) (fun c_6 => ?_) (fun c_6 => ?_)
  ·
    exact hQv () d_Se_add_29 rfl (rfl) trivial (by simp only [if_neg (show ¬ sn < 24 by omega)]; exact hP.sub [0, 1] rfl) (by simp only [if_neg (show ¬ sn < 24 by omega)]; exact hD.sub [0, 1] (by decide) rfl) hS
  ·
    refine lv_aload_n hx hb d_Se_add_9 rfl (lv_at hl 0 rfl) ?_
    refine va_get (D := D) (ci := 2) (v := .ref m1) (C := "TouchSelect$Selection") (T := tt_Se) (N := 4) hx hb hts (in_Se _) hown hK hP 0 rfl rfl 0 (by decide) (hts _ (gw_in gw_50)) (fun _ h9 => h9) rfl d_Se_add_10 ?_
    refine lv_aload_n hx hb d_Se_add_13 rfl (lv_at hl 0 rfl) ?_
    refine va_get (D := D) (ci := 2) (v := .int (nI sn)) (C := "TouchSelect$Selection") (T := tt_Se) (N := 4) hx hb hts (in_Se _) hown hK hP 0 rfl rfl 1 (by decide) (hts _ (gw_in gw_52)) (fun _ h9 => h9) rfl d_Se_add_14 ?_
    refine lv_iload_n hx hb d_Se_add_17 rfl (lv_at hl 1 rfl) ?_
    refine kx_iast hx hb hK hP hD hS 1 0 rfl rfl (k := sn) (by omega) (by omega) d_Se_add_18 (fun H locs hP hD hS => ?_)
    replace hP : va_P D vwCl [(h0, .inr (2, [.ref m1, .int (nI sn), .int (nI ct), .ref m2])), (m1, .inl (D.1 100, 24, .inl (kx_ni (va_up mb sn k0))))] H := hP
    replace hD : va_D A [(h0, .inr (2, [.ref m1, .int (nI sn), .int (nI ct), .ref m2])), (m1, .inl (D.1 100, 24, .inl (kx_ni (va_up mb sn k0))))] := hD
    refine lv_aload_n hx hb d_Se_add_19 rfl (lv_at hl 0 rfl) ?_
    refine lv_dup hx hb d_Se_add_20 rfl ?_
    refine va_get (D := D) (ci := 2) (v := .int (nI sn)) (C := "TouchSelect$Selection") (T := tt_Se) (N := 4) hx hb hts (in_Se _) hown hK hP 0 rfl rfl 1 (by decide) (hts _ (gw_in gw_52)) (fun _ h9 => h9) rfl d_Se_add_21 ?_
    refine lv_iconst (v := (nI 1)) hx hb d_Se_add_24 (by decide) ?_
    refine lv_iadd hx hb d_Se_add_25 ?_
    refine kx_topi (nI_add sn 1) ?_
    refine va_put (D := D) (ci := 2) (v := .int (nI (sn + 1))) (ty := .int) (C := "TouchSelect$Selection") (T := tt_Se) (N := 4) hx hb hts (in_Se _) ty_Se ty_Se_ok nm_Se hown hK hP hD hS 0 rfl rfl 1 (by decide) (hts _ (gw_in gw_52)) (fun _ h9 => h9) rfl (by decide +kernel) rfl rfl (Nat.le_of_ble_eq_true rfl) d_Se_add_26 (fun H locs hP hD hS => ?_)
    replace hP : va_P D vwCl [(h0, .inr (2, [.ref m1, .int (nI (sn + 1)), .int (nI ct), .ref m2])), (m1, .inl (D.1 100, 24, .inl (kx_ni (va_up mb sn k0))))] H := hP
    replace hD : va_D A [(h0, .inr (2, [.ref m1, .int (nI (sn + 1)), .int (nI ct), .ref m2])), (m1, .inl (D.1 100, 24, .inl (kx_ni (va_up mb sn k0))))] := hD
    exact hQv () d_Se_add_29 rfl (rfl) trivial (by simp only [if_pos c_6]; exact hP.sub [0, 1] rfl) (by simp only [if_pos c_6]; exact hD.sub [0, 1] (by decide) rfl) hS
def rm_Se_holds : Room := { frames := 0, cells := 0, slots := 0, locals := 0 }
set_option maxHeartbeats 4000000 in
set_option maxRecDepth 100000 in
/-- holds(k0) -/
theorem c_Se_holds (l : Launch) (D : va_G) (h0 : Nat) (m1 : Nat) (m2 : Nat) (sn : Nat) (ct : Nat) (mb : Nat → Nat) (k0 : Nat) (hsn : sn ≤ 24) (hk0 : k0 < 2 ^ 31) (hmb : ∀ j, j < sn → mb j < 2 ^ 31) : Met l yy_Se_holds ww_Se_holds rm_Se_holds (va_Pc [.ref h0, .int (nI k0)] (kx_B (kx_K D) D vwCl [(h0, .inr (2, [.ref m1, .int (nI sn), .int (nI ct), .ref m2])), (m1, .inl (D.1 100, 24, .inl (kx_ni mb)))])) (kx_R (some (.int (kx_b (px_mem mb sn k0))))) 0 0 (fun _ => False) := by
  refine kx_metR (by decide) rfl (Nat.le_of_ble_eq_true rfl) ?_
  intro p e s m args below meth c ls Q hx hb hts hown hml hP hKK hl hQi hQz hQa hQl hQv
  have hK := hKK.1
  replace hown : s.vm.findClass "TouchSelect$Selection" = some m.cls := hown
  replace hl : lv_has ls 3 [(0, .ref h0), (1, .int (nI k0))] := hl
  refine lv_iconst (v := (nI 0)) hx hb d_Se_holds_0 (by decide) ?_
  refine lv_istore_n (lv' := [(2, .int (nI 0)), (0, .ref h0), (1, .int (nI k0))]) hx hb d_Se_holds_1 rfl hl (by decide) rfl (fun ls hl => ?_)
  have L_2 : ∀ (nn : Nat) (i : Nat) (ls : Array Slot), sn - i < nn → (i ≤ sn) → (∀ j, j < i → mb j ≠ k0) → lv_has ls 3 [(2, .int (nI i)), (0, .ref h0), (1, .int (nI k0))] → W p l e rm_Se_holds s m args below meth c s.heap [] 0 0 Q (F0 m 2 ls []) := by
    intro nn
    induction nn with
    | zero => intros; omega
    | succ nn ih =>
      intro i ls hmm hi hno hl
      refine lv_iload_n hx hb d_Se_holds_2 rfl (lv_at hl 0 rfl) ?_
      refine lv_aload_n hx hb d_Se_holds_3 rfl (lv_at hl 1 rfl) ?_
      refine va_get (D := D) (ci := 2) (v := .int (nI sn)) (C := "TouchSelect$Selection") (T := tt_Se) (N := 4) hx hb hts (in_Se _) hown hK hP 0 rfl rfl 1 (by decide) (hts _ (gw_in gw_52)) (fun _ h9 => h9) rfl d_Se_holds_4 ?_
      refine kx_icmp_ge (tgt := 28) hx hb d_Se_holds_7 (by decide) (by omega) (by omega) (fun c_7 => ?_) (fun c_7 => ?_)
      ·
        refine lv_iconst (v := (nI 0)) hx hb d_Se_holds_28 (by decide) ?_
        refine kx_topi (show nI 0 = kx_b false from by decide) ?_
        exact hQz d_Se_holds_29 rfl (by rw [show px_mem mb sn k0 = false from decide_eq_false (fun ⟨j, h8, h9⟩ => hno j (by omega) h9)])
      ·
        refine lv_aload_n hx hb d_Se_holds_10 rfl (lv_at hl 1 rfl) ?_
        refine va_get (D := D) (ci := 2) (v := .ref m1) (C := "TouchSelect$Selection") (T := tt_Se) (N := 4) hx hb hts (in_Se _) hown hK hP 0 rfl rfl 0 (by decide) (hts _ (gw_in gw_50)) (fun _ h9 => h9) rfl d_Se_holds_11 ?_
        refine lv_iload_n hx hb d_Se_holds_14 rfl (lv_at hl 0 rfl) ?_
        refine kx_iald hx hb hK hP 1 0 rfl rfl (k := i) (by omega) (by omega) d_Se_holds_15 ?_
        refine lv_iload_n hx hb d_Se_holds_16 rfl (lv_at hl 2 rfl) ?_
        have hbi := hmb i (by omega)
        refine kx_icmp_ne (tgt := 22) hx hb d_Se_holds_17 (by decide) (by omega) (by omega) (fun c_17 => ?_) (fun c_17 => ?_)
        ·
          refine lv_iinc (v := (nI (i + 1))) (lv' := [(2, .int (nI (i + 1))), (0, .ref h0), (1, .int (nI k0))]) hx hb d_Se_holds_22 hl (k := 0) rfl (kx_inc i 1 (by decide)) (by decide) rfl (fun ls hl => ?_)
          refine lv_goto (tgt := 2) hx hb d_Se_holds_25 (by decide) ?_
          exact ih (i + 1) ls (by omega) (by omega) (fun j h9 => by rcases Nat.lt_or_ge j i with q9 | q9; exact hno j q9; rw [show j = i by omega]; exact c_17) (lv_sub hl [0, 1, 2] rfl)
        ·
          refine lv_iconst (v := (nI 1)) hx hb d_Se_holds_20 (by decide) ?_
          refine kx_topi (show nI 1 = kx_b true from by decide) ?_
          exact hQz d_Se_holds_21 rfl (by rw [show px_mem mb sn k0 = true from decide_eq_true ⟨i, by omega, c_17⟩])
  exact L_2 (sn - 0 + 1) 0 ls (by omega) (by omega) (fun j h9 => absurd h9 (by omega)) (lv_sub hl [0, 1, 2] rfl)
def rm_Mi_init : Room := { frames := 1, cells := 2, slots := 200, locals := 20 }
set_option maxHeartbeats 4000000 in
set_option maxRecDepth 100000 in
/-- MissedRows() -/
theorem c_Mi_init (l : Launch) (D : va_G) (h0 : Nat) (sz : Nat) : Met l yy_Mi_init ww_Mi_init rm_Mi_init (va_Pc [.ref h0] (kx_C (kx_K D) D vwCl [(h0, .inr (0, [.null, .null, .int (nI 0)]))] sz)) (kx_Q (S := Nat × Nat) D vwCl (fun z => none) (fun _ => True) (fun z => [(h0, .inr (0, [.ref z.1, .ref z.2, .int (nI 0)])), (z.1, .inl (D.1 100, 100, .inl (kx_ni (fun _ => 0)))), (z.2, .inl (D.1 100, 100, .inl (kx_ni (fun _ => 0))))]) (va_A [(h0, .inr (0, [.null, .null, .int (nI 0)]))] sz)) 2 200 (va_A [(h0, .inr (0, [.null, .null, .int (nI 0)]))] sz) := by
  refine kx_metW (by decide) rfl (Nat.le_of_ble_eq_true rfl) ?_
  intro p e s m args below meth c ls Q A hx hb hts hown hml hin hA hP hD hS hKK hl hQi hQz hQa hQv
  have hK := hKK.1
  replace hown : s.vm.findClass "TouchSelect$MissedRows" = some m.cls := hown
  replace hl : lv_has ls 1 [(0, .ref h0)] := hl
  refine lv_aload_n hx hb d_Mi_init_0 rfl (lv_at hl 0 rfl) ?_
  refine W.objInit hx hb hown (hts _ (gw_in gw_82)) (hts _ (gw_in gw_16)) (hts _ (gw_in gw_17)) rfl (by rw [hml]; exact hl.1) rfl d_Mi_init_1 (Nat.le_of_ble_eq_true rfl) (Nat.le_of_ble_eq_true rfl) ?_
  refine W.eq (g2 := F0 m 4 ls []) rfl ?_
  refine lv_aload_n hx hb d_Mi_init_4 rfl (lv_at hl 0 rfl) ?_
  refine lv_bipush (v := (nI 100)) hx hb d_Mi_init_5 (by decide) ?_
  refine kx_newI hx hb (hts _ (gw_in gw_43)) hK hP hD hS hA 0 rfl (by decide) (Nat.le_of_ble_eq_true rfl) (Nat.le_of_ble_eq_true rfl) d_Mi_init_7 (fun q_7 H hP hD hS => ?_)
  replace hP : va_P D vwCl [(h0, .inr (0, [.null, .null, .int (nI 0)])), (q_7, .inl (D.1 100, 100, .inl (kx_ni (fun _ => 0))))] H := hP
  replace hD : va_D A [(h0, .inr (0, [.null, .null, .int (nI 0)])), (q_7, .inl (D.1 100, 100, .inl (kx_ni (fun _ => 0))))] := hD
  refine W.widen (k := 1) (n := 100) (Nat.le_refl _) (Nat.le_refl _) ?_
  refine va_putF (D := D) (ci := 0) (v := .ref q_7) (ty := (.array .int)) (C := "TouchSelect$MissedRows") (T := tt_Mi) (N := 3) hx hb hts (in_Mi _) ty_Mi ty_Mi_ok nm_Mi hown hK hP hD hS 0 rfl rfl 0 (by decide) (hts _ (gw_in gw_83)) (fun _ h9 => h9) rfl hin rfl (by decide +kernel) rfl rfl (Nat.le_of_ble_eq_true rfl) d_Mi_init_9 (fun H locs hP hD hS => ?_)
  replace hP : va_P D vwCl [(h0, .inr (0, [.ref q_7, .null, .int (nI 0)])), (q_7, .inl (D.1 100, 100, .inl (kx_ni (fun _ => 0))))] H := hP
  replace hD : va_D A [(h0, .inr (0, [.ref q_7, .null, .int (nI 0)])), (q_7, .inl (D.1 100, 100, .inl (kx_ni (fun _ => 0))))] := hD
  refine lv_aload_n hx hb d_Mi_init_12 rfl (lv_at hl 0 rfl) ?_
  refine lv_bipush (v := (nI 100)) hx hb d_Mi_init_13 (by decide) ?_
  refine kx_newI hx hb (hts _ (gw_in gw_43)) hK hP hD hS hA 0 rfl (by decide) (Nat.le_of_ble_eq_true rfl) (Nat.le_of_ble_eq_true rfl) d_Mi_init_15 (fun q_15 H hP hD hS => ?_)
  replace hP : va_P D vwCl [(h0, .inr (0, [.ref q_7, .null, .int (nI 0)])), (q_7, .inl (D.1 100, 100, .inl (kx_ni (fun _ => 0)))), (q_15, .inl (D.1 100, 100, .inl (kx_ni (fun _ => 0))))] H := hP
  replace hD : va_D A [(h0, .inr (0, [.ref q_7, .null, .int (nI 0)])), (q_7, .inl (D.1 100, 100, .inl (kx_ni (fun _ => 0)))), (q_15, .inl (D.1 100, 100, .inl (kx_ni (fun _ => 0))))] := hD
  refine W.widen (k := 2) (n := 200) (Nat.le_refl _) (Nat.le_refl _) ?_
  refine va_putF (D := D) (ci := 0) (v := .ref q_15) (ty := (.array .int)) (C := "TouchSelect$MissedRows") (T := tt_Mi) (N := 3) hx hb hts (in_Mi _) ty_Mi ty_Mi_ok nm_Mi hown hK hP hD hS 0 rfl rfl 1 (by decide) (hts _ (gw_in gw_85)) (fun _ h9 => h9) rfl hin rfl (by decide +kernel) rfl rfl (Nat.le_of_ble_eq_true rfl) d_Mi_init_17 (fun H locs hP hD hS => ?_)
  replace hP : va_P D vwCl [(h0, .inr (0, [.ref q_7, .ref q_15, .int (nI 0)])), (q_7, .inl (D.1 100, 100, .inl (kx_ni (fun _ => 0)))), (q_15, .inl (D.1 100, 100, .inl (kx_ni (fun _ => 0))))] H := hP
  replace hD : va_D A [(h0, .inr (0, [.ref q_7, .ref q_15, .int (nI 0)])), (q_7, .inl (D.1 100, 100, .inl (kx_ni (fun _ => 0)))), (q_15, .inl (D.1 100, 100, .inl (kx_ni (fun _ => 0))))] := hD
  refine lv_aload_n hx hb d_Mi_init_20 rfl (lv_at hl 0 rfl) ?_
  refine lv_iconst (v := (nI 0)) hx hb d_Mi_init_21 (by decide) ?_
  refine va_put (D := D) (ci := 0) (v := .int (nI 0)) (ty := .int) (C := "TouchSelect$MissedRows") (T := tt_Mi) (N := 3) hx hb hts (in_Mi _) ty_Mi ty_Mi_ok nm_Mi hown hK hP hD hS 0 rfl rfl 2 (by decide) (hts _ (gw_in gw_87)) (fun _ h9 => h9) rfl (by decide +kernel) rfl rfl (Nat.le_of_ble_eq_true rfl) d_Mi_init_22 (fun H locs hP hD hS => ?_)
  replace hP : va_P D vwCl [(h0, .inr (0, [.ref q_7, .ref q_15, .int (nI 0)])), (q_7, .inl (D.1 100, 100, .inl (kx_ni (fun _ => 0)))), (q_15, .inl (D.1 100, 100, .inl (kx_ni (fun _ => 0))))] H := hP
  replace hD : va_D A [(h0, .inr (0, [.ref q_7, .ref q_15, .int (nI 0)])), (q_7, .inl (D.1 100, 100, .inl (kx_ni (fun _ => 0)))), (q_15, .inl (D.1 100, 100, .inl (kx_ni (fun _ => 0))))] := hD
  exact hQv (q_7, q_15) d_Mi_init_25 rfl (rfl) trivial (hP.sub [0, 1, 2] rfl) (hD.sub [0, 1, 2] (by decide) rfl) hS
def rm_Mi_add : Room := { frames := 0, cells := 0, slots := 0, locals := 0 }
set_option maxHeartbeats 4000000 in
set_option maxRecDepth 100000 in
/-- add(k0, ct) -/
theorem c_Mi_add (l : Launch) (D : va_G) (h0 : Nat) (t1 : Nat) (t2 : Nat) (mt : Nat → Nat) (mc : Nat → Nat) (mn : Nat) (k0 : Nat) (ct : Nat) (sz : Nat) (hmn : mn ≤ 100) : Met l yy_Mi_add ww_Mi_add rm_Mi_add (va_Pc [.ref h0, .int (nI k0), .int (nI ct)] (kx_C (kx_K D) D vwCl [(h0, .inr (0, [.ref t1, .ref t2, .int (nI mn)])), (t1, .inl (D.1 100, 100, .inl (kx_ni mt))), (t2, .inl (D.1 100, 100, .inl (kx_ni mc)))] sz)) (kx_Q (S := Unit) D vwCl (fun _ => none) (fun _ => True) (fun _ => [(h0, .inr (0, [.ref t1, .ref t2, .int (nI (if mn < 100 then mn + 1 else mn))])), (t1, .inl (D.1 100, 100, .inl (kx_ni (if mn < 100 then va_up mt mn k0 else mt)))), (t2, .inl (D.1 100, 100, .inl (kx_ni (if mn < 100 then va_up mc mn ct else mc))))]) (va_A [(h0, .inr (0, [.ref t1, .ref t2, .int (nI mn)])), (t1, .inl (D.1 100, 100, .inl (kx_ni mt))), (t2, .inl (D.1 100, 100, .inl (kx_ni mc)))] sz)) 0 0 (va_A [(h0, .inr (0, [.ref t1, .ref t2, .int (nI mn)])), (t1, .inl (D.1 100, 100, .inl (kx_ni mt))), (t2, .inl (D.1 100, 100, .inl (kx_ni mc)))] sz) := by
  refine kx_metW (by decide) rfl (Nat.le_of_ble_eq_true rfl) ?_
  intro p e s m args below meth c ls Q A hx hb hts hown hml hin hA hP hD hS hKK hl hQi hQz hQa hQv
  have hK := hKK.1
  replace hown : s.vm.findClass "TouchSelect$MissedRows" = some m.cls := hown
  replace hl : lv_has ls 3 [(0, .ref h0), (1, .int (nI k0)), (2, .int (nI ct))] := hl
  refine lv_aload_n hx hb d_Mi_add_0 rfl (lv_at hl 0 rfl) ?_
  refine va_get (D := D) (ci := 0) (v := .int (nI mn)) (C := "TouchSelect$MissedRows") (T := tt_Mi) (N := 3) hx hb hts (in_Mi _) hown hK hP 0 rfl rfl 2 (by decide) (hts _ (gw_in gw_87)) (fun _ h9 => h9) rfl d_Mi_add_1 ?_
  refine lv_bipush (v := (nI 100)) hx hb d_Mi_add_4 (by decide) ?_
  refine kx_icmp_ge (tgt := 39) hx hb d_Mi_add_6 (by decide) (by omega) (by omega) (fun c_6 => ?_) (fun c_6 => ?_)
  ·
    exact hQv () d_Mi_add_39 rfl (rfl) trivial (by simp only [if_neg (show ¬ mn < 100 by omega)]; exact hP.sub [0, 1, 2] rfl) (by simp only [if_neg (show ¬ mn < 100 by omega)]; exact hD.sub [0, 1, 2] (by decide) rfl) hS
  ·
    refine lv_aload_n hx hb d_Mi_add_9 rfl (lv_at hl 0 rfl) ?_
    refine va_get (D := D) (ci := 0) (v := .ref t1) (C := "TouchSelect$MissedRows") (T := tt_Mi) (N := 3) hx hb hts (in_Mi _) hown hK hP 0 rfl rfl 0 (by decide) (hts _ (gw_in gw_83)) (fun _ h9 => h9) rfl d_Mi_add_10 ?_
    refine lv_aload_n hx hb d_Mi_add_13 rfl (lv_at hl 0 rfl) ?_
    refine va_get (D := D) (ci := 0) (v := .int (nI mn)) (C := "TouchSelect$MissedRows") (T := tt_Mi) (N := 3) hx hb hts (in_Mi _) hown hK hP 0 rfl rfl 2 (by decide) (hts _ (gw_in gw_87)) (fun _ h9 => h9) rfl d_Mi_add_14 ?_
    refine lv_iload_n hx hb d_Mi_add_17 rfl (lv_at hl 1 rfl) ?_
    refine kx_iast hx hb hK hP hD hS 1 0 rfl rfl (k := mn) (by omega) (by omega) d_Mi_add_18 (fun H locs hP hD hS => ?_)
    replace hP : va_P D vwCl [(h0, .inr (0, [.ref t1, .ref t2, .int (nI mn)])), (t1, .inl (D.1 100, 100, .inl (kx_ni (va_up mt mn k0)))), (t2, .inl (D.1 100, 100, .inl (kx_ni mc)))] H := hP
    replace hD : va_D A [(h0, .inr (0, [.ref t1, .ref t2, .int (nI mn)])), (t1, .inl (D.1 100, 100, .inl (kx_ni (va_up mt mn k0)))), (t2, .inl (D.1 100, 100, .inl (kx_ni mc)))] := hD
    refine lv_aload_n hx hb d_Mi_add_19 rfl (lv_at hl 0 rfl) ?_
    refine va_get (D := D) (ci := 0) (v := .ref t2) (C := "TouchSelect$MissedRows") (T := tt_Mi) (N := 3) hx hb hts (in_Mi _) hown hK hP 0 rfl rfl 1 (by decide) (hts _ (gw_in gw_85)) (fun _ h9 => h9) rfl d_Mi_add_20 ?_
    refine lv_aload_n hx hb d_Mi_add_23 rfl (lv_at hl 0 rfl) ?_
    refine va_get (D := D) (ci := 0) (v := .int (nI mn)) (C := "TouchSelect$MissedRows") (T := tt_Mi) (N := 3) hx hb hts (in_Mi _) hown hK hP 0 rfl rfl 2 (by decide) (hts _ (gw_in gw_87)) (fun _ h9 => h9) rfl d_Mi_add_24 ?_
    refine lv_iload_n hx hb d_Mi_add_27 rfl (lv_at hl 2 rfl) ?_
    refine kx_iast hx hb hK hP hD hS 2 0 rfl rfl (k := mn) (by omega) (by omega) d_Mi_add_28 (fun H locs hP hD hS => ?_)
    replace hP : va_P D vwCl [(h0, .inr (0, [.ref t1, .ref t2, .int (nI mn)])), (t1, .inl (D.1 100, 100, .inl (kx_ni (va_up mt mn k0)))), (t2, .inl (D.1 100, 100, .inl (kx_ni (va_up mc mn ct))))] H := hP
    replace hD : va_D A [(h0, .inr (0, [.ref t1, .ref t2, .int (nI mn)])), (t1, .inl (D.1 100, 100, .inl (kx_ni (va_up mt mn k0)))), (t2, .inl (D.1 100, 100, .inl (kx_ni (va_up mc mn ct))))] := hD
    refine lv_aload_n hx hb d_Mi_add_29 rfl (lv_at hl 0 rfl) ?_
    refine lv_dup hx hb d_Mi_add_30 rfl ?_
    refine va_get (D := D) (ci := 0) (v := .int (nI mn)) (C := "TouchSelect$MissedRows") (T := tt_Mi) (N := 3) hx hb hts (in_Mi _) hown hK hP 0 rfl rfl 2 (by decide) (hts _ (gw_in gw_87)) (fun _ h9 => h9) rfl d_Mi_add_31 ?_
    refine lv_iconst (v := (nI 1)) hx hb d_Mi_add_34 (by decide) ?_
    refine lv_iadd hx hb d_Mi_add_35 ?_
    refine kx_topi (nI_add mn 1) ?_
    refine va_put (D := D) (ci := 0) (v := .int (nI (mn + 1))) (ty := .int) (C := "TouchSelect$MissedRows") (T := tt_Mi) (N := 3) hx hb hts (in_Mi _) ty_Mi ty_Mi_ok nm_Mi hown hK hP hD hS 0 rfl rfl 2 (by decide) (hts _ (gw_in gw_87)) (fun _ h9 => h9) rfl (by decide +kernel) rfl rfl (Nat.le_of_ble_eq_true rfl) d_Mi_add_36 (fun H locs hP hD hS => ?_)
    replace hP : va_P D vwCl [(h0, .inr (0, [.ref t1, .ref t2, .int (nI (mn + 1))])), (t1, .inl (D.1 100, 100, .inl (kx_ni (va_up mt mn k0)))), (t2, .inl (D.1 100, 100, .inl (kx_ni (va_up mc mn ct))))] H := hP
    replace hD : va_D A [(h0, .inr (0, [.ref t1, .ref t2, .int (nI (mn + 1))])), (t1, .inl (D.1 100, 100, .inl (kx_ni (va_up mt mn k0)))), (t2, .inl (D.1 100, 100, .inl (kx_ni (va_up mc mn ct))))] := hD
    exact hQv () d_Mi_add_39 rfl (rfl) trivial (by simp only [if_pos c_6]; exact hP.sub [0, 1, 2] rfl) (by simp only [if_pos c_6]; exact hD.sub [0, 1, 2] (by decide) rfl) hS
