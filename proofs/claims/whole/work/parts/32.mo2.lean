def mo_why (md : Nat → Nat) (rn : Nat → Bool) (sg os : Nat → Int64) (om : Nat → Nat) (og : Nat → Int32) (oq : Nat → Nat) (tr tb rs fn : Nat → Int64) (fo tf : Nat → Nat) (nc t : Nat) : Nat := px_why (md t) (rn t) (sg t) (os t) (px_fr mo_tt (mo_ro md og oq tr tb rs fn fo tf nc t) (om t))
def mo_ch (md om : Nat → Nat) (og : Nat → Int32) (oq : Nat → Nat) (tr tb rs fn : Nat → Int64) (fo tf : Nat → Nat) (nc t : Nat) : Nat := px_ch mo_tt (mo_ro md og oq tr tb rs fn fo tf nc t) (om t)
theorem mo_kfin {w n x : Nat} (h : w ≤ 1) : some (Value.int (nI (if w = 0 then n else x))) = some (Value.int (if nI w = 0 then nI n else if nI w = nI 1 then nI x else -1)) := by
  rcases (show w = 0 ∨ w = 1 by omega) with q | q
  · subst q; rfl
  · subst q; rfl
