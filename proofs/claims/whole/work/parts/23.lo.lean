def rm_Lo_bitCount : Room := { frames := 0, cells := 0, slots := 0, locals := 0 }
set_option maxHeartbeats 4000000 in
set_option maxRecDepth 100000 in
/-- bitCount(a0) -/
theorem c_Lo_bitCount (l : Launch) (D : va_G) (a0 : Int64) : Met l yy_Lo_bitCount ww_Lo_bitCount rm_Lo_bitCount (va_Pc [.long a0] (kx_B (kx_K D) D vwCl [])) (kx_R (some (.int (nI (bc_cnt a0))))) 0 0 (fun _ => False) := by
  refine kx_metR (by decide) rfl (Nat.le_of_ble_eq_true rfl) ?_
  intro p e s m args below meth c ls Q hx hb hts hown hml hP hKK hl hQi hQz hQa hQl hQv
  have hK := hKK.1
  replace hown : s.vm.findClass "java/lang/Long" = some m.cls := hown
  replace hl : lv_has ls 2 [(0, .long a0)] := hl
  obtain ⟨n0, hn0, rfl⟩ := wb_of a0
  have hb1 : bc_x1 n0 < 2 ^ 64 := Nat.lt_of_le_of_lt (bc_b1 n0) hn0
  have hb2 : bc_x2 (bc_x1 n0) < 2 ^ 64 := Nat.lt_of_le_of_lt (bc_b2 _) (by decide)
  have hb2s : (bc_x2 (bc_x1 n0)) + (bc_x2 (bc_x1 n0)) / 2 ^ 4 < 2 ^ 64 := bc_b2s _
  have hb3 : bc_x3 (bc_x2 (bc_x1 n0)) < 2 ^ 64 := Nat.lt_of_le_of_lt (bc_b3 _) (by decide)
  have hb4 : bc_x4 (bc_x3 (bc_x2 (bc_x1 n0))) < 2 ^ 64 := bc_b4 _
  have hb5 : bc_x5 (bc_x4 (bc_x3 (bc_x2 (bc_x1 n0)))) < 2 ^ 64 := bc_b5 _
  refine lv_lload_n hx hb d_Lo_bitCount_0 rfl (lv_at hl 0 rfl) ?_
  refine lv_lload_n hx hb d_Lo_bitCount_1 rfl (lv_at hl 0 rfl) ?_
  refine lv_iconst (v := (nI 1)) hx hb d_Lo_bitCount_2 (by decide) ?_
  refine lv_lushr (v := ((lN n0).toUInt64 >>> ((nI 1).toInt64.toUInt64 &&& Int64.toUInt64 63)).toInt64) hx hb d_Lo_bitCount_3 rfl ?_
  refine kx_topl (show ((lN n0).toUInt64 >>> ((nI 1).toInt64.toUInt64 &&& Int64.toUInt64 63)).toInt64 = lN (n0 / 2 ^ 1) from wb_shr hn0 (by decide)) ?_
  refine lv_ldc2 (v := 6148914691236517205) hx hb hown (hts _ (gw_in gw_198)) d_Lo_bitCount_4 ?_
  refine kx_topl (show 6148914691236517205 = lN 6148914691236517205 from rfl) ?_
  refine lv_land hx hb d_Lo_bitCount_7 ?_
  refine kx_topl (show (lN (n0 / 2 ^ 1)) &&& (lN 6148914691236517205) = lN ((n0 / 2 ^ 1) &&& 6148914691236517205) from wb_and (by omega) (by decide)) ?_
  refine lv_lsub hx hb d_Lo_bitCount_8 ?_
  refine kx_topl (show (lN n0) - (lN ((n0 / 2 ^ 1) &&& 6148914691236517205)) = lN (bc_x1 n0) from (lN_sub (a := n0) (b := n0 / 2 ^ 1 &&& 6148914691236517205) (Nat.le_trans Nat.and_le_left (Nat.div_le_self _ _))).trans rfl) ?_
  refine lv_lstore_n (lv' := [(0, .long (lN (bc_x1 n0)))]) hx hb d_Lo_bitCount_9 rfl hl (by decide) rfl (fun ls hl => ?_)
  refine lv_lload_n hx hb d_Lo_bitCount_10 rfl (lv_at hl 0 rfl) ?_
  refine lv_ldc2 (v := 3689348814741910323) hx hb hown (hts _ (gw_in gw_199)) d_Lo_bitCount_11 ?_
  refine kx_topl (show 3689348814741910323 = lN 3689348814741910323 from rfl) ?_
  refine lv_land hx hb d_Lo_bitCount_14 ?_
  refine kx_topl (show (lN (bc_x1 n0)) &&& (lN 3689348814741910323) = lN ((bc_x1 n0) &&& 3689348814741910323) from wb_and (by exact hb1) (by decide)) ?_
  refine lv_lload_n hx hb d_Lo_bitCount_15 rfl (lv_at hl 0 rfl) ?_
  refine lv_iconst (v := (nI 2)) hx hb d_Lo_bitCount_16 (by decide) ?_
  refine lv_lushr (v := ((lN (bc_x1 n0)).toUInt64 >>> ((nI 2).toInt64.toUInt64 &&& Int64.toUInt64 63)).toInt64) hx hb d_Lo_bitCount_17 rfl ?_
  refine kx_topl (show ((lN (bc_x1 n0)).toUInt64 >>> ((nI 2).toInt64.toUInt64 &&& Int64.toUInt64 63)).toInt64 = lN ((bc_x1 n0) / 2 ^ 2) from wb_shr hb1 (by decide)) ?_
  refine lv_ldc2 (v := 3689348814741910323) hx hb hown (hts _ (gw_in gw_199)) d_Lo_bitCount_18 ?_
  refine kx_topl (show 3689348814741910323 = lN 3689348814741910323 from rfl) ?_
  refine lv_land hx hb d_Lo_bitCount_21 ?_
  refine kx_topl (show (lN ((bc_x1 n0) / 2 ^ 2)) &&& (lN 3689348814741910323) = lN (((bc_x1 n0) / 2 ^ 2) &&& 3689348814741910323) from wb_and (by exact Nat.lt_of_le_of_lt (Nat.div_le_self _ _) hb1) (by decide)) ?_
  refine lv_ladd hx hb d_Lo_bitCount_22 ?_
  refine kx_topl (show (lN ((bc_x1 n0) &&& 3689348814741910323)) + (lN (((bc_x1 n0) / 2 ^ 2) &&& 3689348814741910323)) = lN (bc_x2 (bc_x1 n0)) from (lN_add ((bc_x1 n0) &&& 3689348814741910323) (((bc_x1 n0) / 2 ^ 2) &&& 3689348814741910323)).trans rfl) ?_
  refine lv_lstore_n (lv' := [(0, .long (lN (bc_x2 (bc_x1 n0))))]) hx hb d_Lo_bitCount_23 rfl hl (by decide) rfl (fun ls hl => ?_)
  refine lv_lload_n hx hb d_Lo_bitCount_24 rfl (lv_at hl 0 rfl) ?_
  refine lv_lload_n hx hb d_Lo_bitCount_25 rfl (lv_at hl 0 rfl) ?_
  refine lv_iconst (v := (nI 4)) hx hb d_Lo_bitCount_26 (by decide) ?_
  refine lv_lushr (v := ((lN (bc_x2 (bc_x1 n0))).toUInt64 >>> ((nI 4).toInt64.toUInt64 &&& Int64.toUInt64 63)).toInt64) hx hb d_Lo_bitCount_27 rfl ?_
  refine kx_topl (show ((lN (bc_x2 (bc_x1 n0))).toUInt64 >>> ((nI 4).toInt64.toUInt64 &&& Int64.toUInt64 63)).toInt64 = lN ((bc_x2 (bc_x1 n0)) / 2 ^ 4) from wb_shr hb2 (by decide)) ?_
  refine lv_ladd hx hb d_Lo_bitCount_28 ?_
  refine kx_topl (show (lN (bc_x2 (bc_x1 n0))) + (lN ((bc_x2 (bc_x1 n0)) / 2 ^ 4)) = lN ((bc_x2 (bc_x1 n0)) + (bc_x2 (bc_x1 n0)) / 2 ^ 4) from (lN_add (bc_x2 (bc_x1 n0)) ((bc_x2 (bc_x1 n0)) / 2 ^ 4)).trans rfl) ?_
  refine lv_ldc2 (v := 1085102592571150095) hx hb hown (hts _ (gw_in gw_200)) d_Lo_bitCount_29 ?_
  refine kx_topl (show 1085102592571150095 = lN 1085102592571150095 from rfl) ?_
  refine lv_land hx hb d_Lo_bitCount_32 ?_
  refine kx_topl (show (lN ((bc_x2 (bc_x1 n0)) + (bc_x2 (bc_x1 n0)) / 2 ^ 4)) &&& (lN 1085102592571150095) = lN (bc_x3 (bc_x2 (bc_x1 n0))) from (wb_and hb2s (by decide)).trans rfl) ?_
  refine lv_lstore_n (lv' := [(0, .long (lN (bc_x3 (bc_x2 (bc_x1 n0)))))]) hx hb d_Lo_bitCount_33 rfl hl (by decide) rfl (fun ls hl => ?_)
  refine lv_lload_n hx hb d_Lo_bitCount_34 rfl (lv_at hl 0 rfl) ?_
  refine lv_lload_n hx hb d_Lo_bitCount_35 rfl (lv_at hl 0 rfl) ?_
  refine lv_bipush (v := (nI 8)) hx hb d_Lo_bitCount_36 (by decide) ?_
  refine lv_lushr (v := ((lN (bc_x3 (bc_x2 (bc_x1 n0)))).toUInt64 >>> ((nI 8).toInt64.toUInt64 &&& Int64.toUInt64 63)).toInt64) hx hb d_Lo_bitCount_38 rfl ?_
  refine kx_topl (show ((lN (bc_x3 (bc_x2 (bc_x1 n0)))).toUInt64 >>> ((nI 8).toInt64.toUInt64 &&& Int64.toUInt64 63)).toInt64 = lN ((bc_x3 (bc_x2 (bc_x1 n0))) / 2 ^ 8) from wb_shr hb3 (by decide)) ?_
  refine lv_ladd hx hb d_Lo_bitCount_39 ?_
  refine kx_topl (show (lN (bc_x3 (bc_x2 (bc_x1 n0)))) + (lN ((bc_x3 (bc_x2 (bc_x1 n0))) / 2 ^ 8)) = lN (bc_x4 (bc_x3 (bc_x2 (bc_x1 n0)))) from (lN_add (bc_x3 (bc_x2 (bc_x1 n0))) ((bc_x3 (bc_x2 (bc_x1 n0))) / 2 ^ 8)).trans rfl) ?_
  refine lv_lstore_n (lv' := [(0, .long (lN (bc_x4 (bc_x3 (bc_x2 (bc_x1 n0))))))]) hx hb d_Lo_bitCount_40 rfl hl (by decide) rfl (fun ls hl => ?_)
  refine lv_lload_n hx hb d_Lo_bitCount_41 rfl (lv_at hl 0 rfl) ?_
  refine lv_lload_n hx hb d_Lo_bitCount_42 rfl (lv_at hl 0 rfl) ?_
  refine lv_bipush (v := (nI 16)) hx hb d_Lo_bitCount_43 (by decide) ?_
  refine lv_lushr (v := ((lN (bc_x4 (bc_x3 (bc_x2 (bc_x1 n0))))).toUInt64 >>> ((nI 16).toInt64.toUInt64 &&& Int64.toUInt64 63)).toInt64) hx hb d_Lo_bitCount_45 rfl ?_
  refine kx_topl (show ((lN (bc_x4 (bc_x3 (bc_x2 (bc_x1 n0))))).toUInt64 >>> ((nI 16).toInt64.toUInt64 &&& Int64.toUInt64 63)).toInt64 = lN ((bc_x4 (bc_x3 (bc_x2 (bc_x1 n0)))) / 2 ^ 16) from wb_shr hb4 (by decide)) ?_
  refine lv_ladd hx hb d_Lo_bitCount_46 ?_
  refine kx_topl (show (lN (bc_x4 (bc_x3 (bc_x2 (bc_x1 n0))))) + (lN ((bc_x4 (bc_x3 (bc_x2 (bc_x1 n0)))) / 2 ^ 16)) = lN (bc_x5 (bc_x4 (bc_x3 (bc_x2 (bc_x1 n0))))) from (lN_add (bc_x4 (bc_x3 (bc_x2 (bc_x1 n0)))) ((bc_x4 (bc_x3 (bc_x2 (bc_x1 n0)))) / 2 ^ 16)).trans rfl) ?_
  refine lv_lstore_n (lv' := [(0, .long (lN (bc_x5 (bc_x4 (bc_x3 (bc_x2 (bc_x1 n0)))))))]) hx hb d_Lo_bitCount_47 rfl hl (by decide) rfl (fun ls hl => ?_)
  refine lv_lload_n hx hb d_Lo_bitCount_48 rfl (lv_at hl 0 rfl) ?_
  refine lv_lload_n hx hb d_Lo_bitCount_49 rfl (lv_at hl 0 rfl) ?_
  refine lv_bipush (v := (nI 32)) hx hb d_Lo_bitCount_50 (by decide) ?_
  refine lv_lushr (v := ((lN (bc_x5 (bc_x4 (bc_x3 (bc_x2 (bc_x1 n0)))))).toUInt64 >>> ((nI 32).toInt64.toUInt64 &&& Int64.toUInt64 63)).toInt64) hx hb d_Lo_bitCount_52 rfl ?_
  refine kx_topl (show ((lN (bc_x5 (bc_x4 (bc_x3 (bc_x2 (bc_x1 n0)))))).toUInt64 >>> ((nI 32).toInt64.toUInt64 &&& Int64.toUInt64 63)).toInt64 = lN ((bc_x5 (bc_x4 (bc_x3 (bc_x2 (bc_x1 n0))))) / 2 ^ 32) from wb_shr hb5 (by decide)) ?_
  refine lv_ladd hx hb d_Lo_bitCount_53 ?_
  refine kx_topl (show (lN (bc_x5 (bc_x4 (bc_x3 (bc_x2 (bc_x1 n0)))))) + (lN ((bc_x5 (bc_x4 (bc_x3 (bc_x2 (bc_x1 n0))))) / 2 ^ 32)) = lN (bc_x6 (bc_x5 (bc_x4 (bc_x3 (bc_x2 (bc_x1 n0)))))) from (lN_add (bc_x5 (bc_x4 (bc_x3 (bc_x2 (bc_x1 n0))))) ((bc_x5 (bc_x4 (bc_x3 (bc_x2 (bc_x1 n0))))) / 2 ^ 32)).trans rfl) ?_
  refine lv_lstore_n (lv' := [(0, .long (lN (bc_x6 (bc_x5 (bc_x4 (bc_x3 (bc_x2 (bc_x1 n0))))))))]) hx hb d_Lo_bitCount_54 rfl hl (by decide) rfl (fun ls hl => ?_)
  refine lv_lload_n hx hb d_Lo_bitCount_55 rfl (lv_at hl 0 rfl) ?_
  refine lv_l2i (v := (lN (bc_x6 (bc_x5 (bc_x4 (bc_x3 (bc_x2 (bc_x1 n0))))))).toInt32) hx hb d_Lo_bitCount_56 rfl ?_
  refine kx_topi (show ((lN (bc_x6 (bc_x5 (bc_x4 (bc_x3 (bc_x2 (bc_x1 n0))))))).toInt32) = (nI (bc_x6 (bc_x5 (bc_x4 (bc_x3 (bc_x2 (bc_x1 n0))))))) from lN_i _) ?_
  refine lv_bipush (v := (nI 127)) hx hb d_Lo_bitCount_57 (by decide) ?_
  refine lv_iand hx hb d_Lo_bitCount_59 ?_
  refine kx_topi (show ((nI (bc_x6 (bc_x5 (bc_x4 (bc_x3 (bc_x2 (bc_x1 n0))))))) &&& (nI 127)) = (nI ((bc_x6 (bc_x5 (bc_x4 (bc_x3 (bc_x2 (bc_x1 n0)))))) % 128)) from bc_and127 _) ?_
  exact hQi d_Lo_bitCount_60 rfl (by rw [bc_val n0 hn0]; unfold bc_cnt; rw [wb_tn hn0])
