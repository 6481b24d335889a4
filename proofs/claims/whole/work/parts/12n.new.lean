section KN
variable {p : Program} {l : Launch} {e : Env} {R : Room} {s : State} {m : MethodId} {args : Array Value} {below : List Frame} {meth : Method} {c : Code} {H : Heap} {locs : List Loc} {cells slots : Nat} {Q : State → Prop}
variable {cc : ByteArray} {pc : Nat} {ls : Array Slot} {rest : List Value} {D : va_G} {cl : List vw_C} {A : Nat → Prop} {a : Nat} {tys : List (ClassId × FieldType)} {ws : va_W} {H0 : Heap}
theorem kx_RA {U : State} {cA cB : ClassId} {ty : FieldType} (h1 : va_RA U cA ty) (h2 : va_RA U cB ty) : cA = cB := by
  cases ty with
  | object C =>
    obtain ⟨_, _, _, _, _, e1⟩ := h1
    obtain ⟨_, _, _, _, _, e2⟩ := h2
    exact Option.some.inj (e1.symm.trans e2)
  | _ => exact Option.some.inj (Eq.trans (Eq.symm h1) h2)
theorem kx_newI_z (cA : ClassId) (n : Nat) : vp_cell cA (n, .inl (kx_ni (fun _ => 0))) = arrV cA n (fun _ => defaultValue .int) := by
  rw [vp_cell_i]
  congr 1
theorem kx_newI (hexec : p.tables.exec = Jvm.exec) (hb : c.code = cc) (harr : (Cond.arrayClass .int).before args s = true) (hK : va_K D cl tys s) (hP : va_P D cl ws H) (hD : va_D A ws) (hS : va_S A H0 H locs) (hA : ∀ q, H0.size ≤ q → A q) (t0 : Nat) {cA : ClassId} (ht : tys[t0]? = some (cA, .int)) {n : Nat} (hn : n < 2 ^ 20) (hcells : cells + 1 ≤ R.cells) (hslots : slots + n ≤ R.slots) (hdg : decode cc pc = .ok (.newarray .int, 2)) (kk : ∀ (q : Nat) (H1 : Heap), va_P D cl (ws ++ [(q, .inl (cA, n, .inl (kx_ni (fun _ => 0))))]) H1 → va_D A (ws ++ [(q, .inl (cA, n, .inl (kx_ni (fun _ => 0))))]) → va_S A H0 H1 locs → W p l e R s m args below meth c H1 locs (cells + 1) (slots + n) Q (F0 m (pc + 2) ls (.ref q :: rest))) : W p l e R s m args below meth c H locs cells slots Q (F0 m pc ls (.int (nI n) :: rest)) := by
  have h31 : n < 2 ^ 31 := by omega
  have hby : n * componentBytes .int ≤ 536870912 := by rw [show componentBytes .int = 4 from rfl]; omega
  have hpo := nI_pos h31
  have hcl := nI_clamp h31
  refine va_newa (ty := .int) (a0 := (n, .inl (kx_ni (fun _ => 0)))) hexec hb (atype := .int) harr rfl hK hP hD hS hA (fun cA => kx_newI_z cA n) hpo hcl hby hcells hslots hdg (fun q cA1 H1 hK1 h1 h2 h3 => ?_)
  have e3 : cA1 = cA := kx_RA (hK1.2 tys.length (cA1, .int) (by rw [List.getElem?_append_right (Nat.le_refl _), Nat.sub_self]; rfl)).2 (hK.2 t0 _ ht).2
  subst e3
  exact kk q H1 h1 h2 h3
theorem kx_newZ_z (cA : ClassId) (n : Nat) : vp_cell cA (n, .inl (kx_bi (fun _ => false))) = arrV cA n (fun _ => defaultValue .boolean) := by
  rw [vp_cell_i]
  congr 1
theorem kx_newZ (hexec : p.tables.exec = Jvm.exec) (hb : c.code = cc) (harr : (Cond.arrayClass .boolean).before args s = true) (hK : va_K D cl tys s) (hP : va_P D cl ws H) (hD : va_D A ws) (hS : va_S A H0 H locs) (hA : ∀ q, H0.size ≤ q → A q) (t0 : Nat) {cA : ClassId} (ht : tys[t0]? = some (cA, .boolean)) {n : Nat} (hn : n < 2 ^ 20) (hcells : cells + 1 ≤ R.cells) (hslots : slots + n ≤ R.slots) (hdg : decode cc pc = .ok (.newarray .boolean, 2)) (kk : ∀ (q : Nat) (H1 : Heap), va_P D cl (ws ++ [(q, .inl (cA, n, .inl (kx_bi (fun _ => false))))]) H1 → va_D A (ws ++ [(q, .inl (cA, n, .inl (kx_bi (fun _ => false))))]) → va_S A H0 H1 locs → W p l e R s m args below meth c H1 locs (cells + 1) (slots + n) Q (F0 m (pc + 2) ls (.ref q :: rest))) : W p l e R s m args below meth c H locs cells slots Q (F0 m pc ls (.int (nI n) :: rest)) := by
  have h31 : n < 2 ^ 31 := by omega
  have hby : n * componentBytes .boolean ≤ 536870912 := by rw [show componentBytes .boolean = 1 from rfl]; omega
  have hpo := nI_pos h31
  have hcl := nI_clamp h31
  refine va_newa (ty := .boolean) (a0 := (n, .inl (kx_bi (fun _ => false)))) hexec hb (atype := .boolean) harr rfl hK hP hD hS hA (fun cA => kx_newZ_z cA n) hpo hcl hby hcells hslots hdg (fun q cA1 H1 hK1 h1 h2 h3 => ?_)
  have e3 : cA1 = cA := kx_RA (hK1.2 tys.length (cA1, .boolean) (by rw [List.getElem?_append_right (Nat.le_refl _), Nat.sub_self]; rfl)).2 (hK.2 t0 _ ht).2
  subst e3
  exact kk q H1 h1 h2 h3
theorem kx_newJ_z (cA : ClassId) (n : Nat) : vp_cell cA (n, .inr (.inl (fun _ => 0))) = arrV cA n (fun _ => defaultValue .long) := by
  rw [vp_cell_l]
  congr 1
theorem kx_newJ (hexec : p.tables.exec = Jvm.exec) (hb : c.code = cc) (harr : (Cond.arrayClass .long).before args s = true) (hK : va_K D cl tys s) (hP : va_P D cl ws H) (hD : va_D A ws) (hS : va_S A H0 H locs) (hA : ∀ q, H0.size ≤ q → A q) (t0 : Nat) {cA : ClassId} (ht : tys[t0]? = some (cA, .long)) {n : Nat} (hn : n < 2 ^ 20) (hcells : cells + 1 ≤ R.cells) (hslots : slots + n ≤ R.slots) (hdg : decode cc pc = .ok (.newarray .long, 2)) (kk : ∀ (q : Nat) (H1 : Heap), va_P D cl (ws ++ [(q, .inl (cA, n, .inr (.inl (fun _ => 0))))]) H1 → va_D A (ws ++ [(q, .inl (cA, n, .inr (.inl (fun _ => 0))))]) → va_S A H0 H1 locs → W p l e R s m args below meth c H1 locs (cells + 1) (slots + n) Q (F0 m (pc + 2) ls (.ref q :: rest))) : W p l e R s m args below meth c H locs cells slots Q (F0 m pc ls (.int (nI n) :: rest)) := by
  have h31 : n < 2 ^ 31 := by omega
  have hby : n * componentBytes .long ≤ 536870912 := by rw [show componentBytes .long = 8 from rfl]; omega
  have hpo := nI_pos h31
  have hcl := nI_clamp h31
  refine va_newa (ty := .long) (a0 := (n, .inr (.inl (fun _ => 0)))) hexec hb (atype := .long) harr rfl hK hP hD hS hA (fun cA => kx_newJ_z cA n) hpo hcl hby hcells hslots hdg (fun q cA1 H1 hK1 h1 h2 h3 => ?_)
  have e3 : cA1 = cA := kx_RA (hK1.2 tys.length (cA1, .long) (by rw [List.getElem?_append_right (Nat.le_refl _), Nat.sub_self]; rfl)).2 (hK.2 t0 _ ht).2
  subst e3
  exact kk q H1 h1 h2 h3
end KN
