section KP
variable {p : Program} {l : Launch} {e : Env} {R : Room} {s : State} {m : MethodId} {args : Array Value} {below : List Frame} {meth : Method} {c : Code} {H : Heap} {locs : List Loc} {cells slots : Nat} {Q : State → Prop}
variable {pc : Nat} {ls : Array Slot} {rest : List Value} {D : va_G} {cl : List vw_C} {A : Nat → Prop} {H0 : Heap}
/-- a call whose callee has the rows too -/
theorem kx_callP {S : Type} {st0 : List Value} {av : Array Value} {v : S → Option Value} {post : S → Prop} {rx pl1 : S → va_W} {mc ms : Nat} {X cx wr pl : va_W} (hr : va_Run p l e R s m args below meth c H locs cells slots mc ms (F0 m pc ls st0) rest (kx_Q D cl v post (fun z => rx z ++ pl1 z) (va_A (cx ++ pl) H.size) av) (va_A (cx ++ pl) H.size))
    (hP : va_P D cl (X ++ pl) H) (hD : va_D A (X ++ pl)) (hS : va_S A H0 H locs) (hA : ∀ q, H0.size ≤ q → A q) (isC isR : List Nat) (hC : isC.map (fun i => X[i]?) = cx.map some) (hR : isR.map (fun i => X[i]?) = wr.map some) (hn : va_nd isR = true) (hdis : ∀ i ∈ isR, i ∉ isC)
    (kk : ∀ (z : S) (H1 : Heap) (locs1 : List Loc), post z → va_P D cl ((wr ++ rx z) ++ pl1 z) H1 → va_D A ((wr ++ rx z) ++ pl1 z) → va_S A H0 H1 locs1 → W p l e R s m args below meth c H1 locs1 (cells + mc) (slots + ms) Q (F0 m (pc + 3) ls ((v z).toList ++ rest))) : W p l e R s m args below meth c H locs cells slots Q (F0 m pc ls st0) := by
  intro T hT X0
  obtain ⟨v9, st₀, t, T', L, h0, X', hL, e1, e2, ⟨⟨z, hv, hp, hP1, hD1⟩, hz, hk⟩, st⟩ := hr T hT X0
  cases hv
  rw [h0] at hz hk
  rw [← e1] at hz hk hP1
  have hF : ∀ q, va_A (cx ++ pl) H.size q → A q := va_freeP hD hS hA isC hC
  obtain ⟨hP2, hD2⟩ := va_joinP hP hD isC isR hC hR hn hdis hk hF hP1 hD1
  obtain ⟨t2, a1, b1⟩ := kk z T'.heap (locs ++ L) hp hP2 hD2 ⟨Nat.le_trans hS.1 hz, fun q h1 h2 => (hk q (Nat.lt_of_lt_of_le h1 hS.1) (fun q9 => h2 (hF q q9))).trans (hS.2.1 q h1 h2), fun q hq => (List.mem_append.mp hq).elim (fun h => hS.2.2 q h) (fun h => hF _ (hL q h))⟩ T' rfl X'
  exact ⟨t2, st t2 a1, b1⟩
end KP
