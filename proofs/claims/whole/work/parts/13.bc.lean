/-! bc: the number of bits of a long, as the library's own method computes it -/
/-- fields of width w, the lowest first -/
def bc_fd (w : Nat) : Nat → (Nat → Nat) → Nat
  | 0, _ => 0
  | k + 1, f => f 0 + 2 ^ w * bc_fd w k (fun j => f (j + 1))
theorem bc_fd_congr (w : Nat) : ∀ (k : Nat) (f g : Nat → Nat), (∀ j, j < k → f j = g j) → bc_fd w k f = bc_fd w k g
  | 0, _, _, _ => rfl
  | k + 1, f, g, h => by
    unfold bc_fd
    rw [h 0 (by omega), bc_fd_congr w k _ _ (fun j hj => h (j + 1) (by omega))]
theorem bc_fd_add (w : Nat) : ∀ (k : Nat) (f g : Nat → Nat), bc_fd w k f + bc_fd w k g = bc_fd w k (fun j => f j + g j)
  | 0, _, _ => rfl
  | k + 1, f, g => by
    have h := bc_fd_add w k (fun j => f (j + 1)) (fun j => g (j + 1))
    show f 0 + 2 ^ w * bc_fd w k (fun j => f (j + 1)) + (g 0 + 2 ^ w * bc_fd w k (fun j => g (j + 1))) = (f 0 + g 0) + 2 ^ w * bc_fd w k (fun j => f (j + 1) + g (j + 1))
    rw [← h, Nat.mul_add]
    omega
theorem bc_fd_lt (w : Nat) : ∀ (k : Nat) (f : Nat → Nat), (∀ j, j < k → f j < 2 ^ w) → bc_fd w k f < 2 ^ (w * k)
  | 0, _, _ => by unfold bc_fd; exact Nat.two_pow_pos _
  | k + 1, f, h => by
    have h1 := bc_fd_lt w k (fun j => f (j + 1)) (fun j hj => h (j + 1) (by omega))
    have h0 := h 0 (by omega)
    unfold bc_fd
    have h2 : 2 ^ (w * (k + 1)) = 2 ^ w * 2 ^ (w * k) := by rw [← Nat.pow_add]; congr 1; rw [Nat.mul_add]; omega
    rw [h2]
    have h3 : 2 ^ w * (bc_fd w k (fun j => f (j + 1)) + 1) ≤ 2 ^ w * 2 ^ (w * k) := Nat.mul_le_mul_left _ h1
    rw [Nat.mul_add] at h3
    omega
/-- one field down -/
theorem bc_fd_shr (w k : Nat) (f : Nat → Nat) (h : f 0 < 2 ^ w) : bc_fd w (k + 1) f / 2 ^ w = bc_fd w k (fun j => f (j + 1)) := by
  show (f 0 + 2 ^ w * bc_fd w k (fun j => f (j + 1))) / 2 ^ w = _
  rw [Nat.add_mul_div_left _ _ (Nat.two_pow_pos w), Nat.div_eq_of_lt h, Nat.zero_add]
theorem bc_fd_lo (w k : Nat) (f : Nat → Nat) (h : f 0 < 2 ^ w) : bc_fd w (k + 1) f % 2 ^ w = f 0 := by
  unfold bc_fd
  rw [Nat.add_mul_mod_self_left, Nat.mod_eq_of_lt h]
theorem bc_fd_mul (w c : Nat) : ∀ (k : Nat) (f : Nat → Nat), c * bc_fd w k f = bc_fd w k (fun j => c * f j)
  | 0, _ => rfl
  | k + 1, f => by
    have h := bc_fd_mul w c k (fun j => f (j + 1))
    unfold bc_fd
    rw [← h, Nat.mul_add, Nat.mul_left_comm]
theorem bc_fd_last (w : Nat) : ∀ (k : Nat) (f : Nat → Nat), f k = 0 → bc_fd w (k + 1) f = bc_fd w k f
  | 0, f, h => by unfold bc_fd; simp [bc_fd, h]
  | k + 1, f, h => by
    have h1 := bc_fd_last w k (fun j => f (j + 1)) h
    show f 0 + 2 ^ w * bc_fd w (k + 1) (fun j => f (j + 1)) = f 0 + 2 ^ w * bc_fd w k (fun j => f (j + 1))
    rw [h1]
/-- one field down, the count of fields kept -/
theorem bc_fd_dn (w k : Nat) (f : Nat → Nat) (h : f 0 < 2 ^ w) (hz : f (k + 1) = 0) : bc_fd w (k + 1) f / 2 ^ w = bc_fd w (k + 1) (fun j => f (j + 1)) := by
  rw [bc_fd_shr w k f h]
  exact (bc_fd_last w k (fun j => f (j + 1)) hz).symm
theorem bc_fd_dns (w k : Nat) : ∀ (i : Nat) (f : Nat → Nat), (∀ j, f j < 2 ^ w) → (∀ j, k + 1 ≤ j → f j = 0) → bc_fd w (k + 1) f / 2 ^ (w * i) = bc_fd w (k + 1) (fun j => f (j + i))
  | 0, f, _, _ => by simp
  | i + 1, f, h, hz => by
    have e : 2 ^ (w * (i + 1)) = 2 ^ (w * i) * 2 ^ w := by rw [← Nat.pow_add]; congr 1
    rw [e, ← Nat.div_div_eq_div_mul, bc_fd_dns w k i f h hz, bc_fd_dn w k (fun j => f (j + i)) (h _) (hz _ (by omega))]
    apply bc_fd_congr
    intro j _
    congr 1
    omega
/-- pairs of fields -/
theorem bc_fd_pair (w : Nat) : ∀ (k : Nat) (f : Nat → Nat), bc_fd w (2 * k) f = bc_fd (2 * w) k (fun j => f (2 * j)) + 2 ^ w * bc_fd (2 * w) k (fun j => f (2 * j + 1))
  | 0, _ => rfl
  | k + 1, f => by
    have h := bc_fd_pair w k (fun j => f (j + 2))
    have e : 2 * (k + 1) = 2 * k + 1 + 1 := by omega
    rw [e]
    have hw : (2 : Nat) ^ (2 * w) = 2 ^ w * 2 ^ w := by rw [← Nat.pow_add]; congr 1; omega
    have u1 : bc_fd w (2 * k + 1 + 1) f = f 0 + 2 ^ w * (f 1 + 2 ^ w * bc_fd w (2 * k) (fun j => f (j + 2))) := rfl
    have u2 : bc_fd (2 * w) (k + 1) (fun j => f (2 * j)) = f 0 + 2 ^ (2 * w) * bc_fd (2 * w) k (fun j => f (2 * j + 2)) := by
      show f (2 * 0) + 2 ^ (2 * w) * bc_fd (2 * w) k (fun j => f (2 * (j + 1))) = _
      rfl
    have u3 : bc_fd (2 * w) (k + 1) (fun j => f (2 * j + 1)) = f 1 + 2 ^ (2 * w) * bc_fd (2 * w) k (fun j => f (2 * j + 2 + 1)) := by
      show f (2 * 0 + 1) + 2 ^ (2 * w) * bc_fd (2 * w) k (fun j => f (2 * (j + 1) + 1)) = _
      rfl
    rw [u1, u2, u3, h, hw]
    generalize bc_fd (2 * w) k (fun j => f (2 * j + 2)) = a
    have e3 : (fun j => f (2 * j + 2 + 1)) = (fun j => f (2 * j + 1 + 2)) := by funext j; congr 1
    rw [e3]
    generalize bc_fd (2 * w) k (fun j => f (2 * j + 1 + 2)) = b
    simp only [Nat.mul_add, Nat.mul_assoc]
    omega
/-- the mask of every second field of width w -/
def bc_mk (w k : Nat) : Nat := bc_fd (2 * w) k (fun _ => 2 ^ w - 1)
theorem bc_and_split (v a b x y : Nat) (ha : a < 2 ^ v) (hx : x < 2 ^ v) : (a + 2 ^ v * b) &&& (x + 2 ^ v * y) = (a &&& x) + 2 ^ v * (b &&& y) := by
  apply Nat.eq_of_testBit_eq
  intro i
  have hax : a &&& x < 2 ^ v := Nat.lt_of_le_of_lt Nat.and_le_left ha
  rw [Nat.testBit_and, Nat.add_comm a, Nat.add_comm x, Nat.add_comm (a &&& x), Nat.testBit_two_pow_mul_add _ ha, Nat.testBit_two_pow_mul_add _ hx, Nat.testBit_two_pow_mul_add _ hax]
  split <;> simp [Nat.testBit_and]
theorem bc_and_lo (w c : Nat) (hc : c < 2 ^ (2 * w)) : c &&& (2 ^ w - 1) = c % 2 ^ w := Nat.and_two_pow_sub_one_eq_mod c w
theorem bc_mask (w : Nat) (hw : 0 < w) : ∀ (k : Nat) (c : Nat → Nat), (∀ j, j < k → c j < 2 ^ (2 * w)) → bc_fd (2 * w) k c &&& bc_mk w k = bc_fd (2 * w) k (fun j => c j % 2 ^ w)
  | 0, _, _ => by simp [bc_fd]
  | k + 1, c, h => by
    have ih := bc_mask w hw k (fun j => c (j + 1)) (fun j hj => h (j + 1) (by omega))
    have hm : (2 : Nat) ^ w - 1 < 2 ^ (2 * w) := Nat.lt_of_lt_of_le (Nat.sub_lt (Nat.two_pow_pos w) (by decide)) (Nat.pow_le_pow_right (by decide) (by omega))
    show (c 0 + 2 ^ (2 * w) * bc_fd (2 * w) k (fun j => c (j + 1))) &&& (2 ^ w - 1 + 2 ^ (2 * w) * bc_mk w k) = _
    rw [bc_and_split (2 * w) _ _ _ _ (h 0 (by omega)) hm, ih, bc_and_lo w _ (h 0 (by omega))]
    rfl
/-- one step: pairs of fields of width w are added -/
theorem bc_even (w : Nat) (hw : 0 < w) (k : Nat) (f : Nat → Nat) (h : ∀ j, j < 2 * k → f j < 2 ^ w) : bc_fd w (2 * k) f &&& bc_mk w k = bc_fd (2 * w) k (fun j => f (2 * j)) := by
  have hp : (2 : Nat) ^ (2 * w) = 2 ^ w * 2 ^ w := by rw [← Nat.pow_add]; congr 1; omega
  have e : bc_fd w (2 * k) f = bc_fd (2 * w) k (fun j => f (2 * j) + 2 ^ w * f (2 * j + 1)) := by
    rw [bc_fd_pair, bc_fd_mul, bc_fd_add]
  rw [e, bc_mask w hw k _ (fun j hj => ?_)]
  · apply bc_fd_congr
    intro j hj
    rw [Nat.add_mul_mod_self_left, Nat.mod_eq_of_lt (h _ (by omega))]
  · have h1 := h (2 * j) (by omega)
    have h2 := h (2 * j + 1) (by omega)
    rw [hp]
    have h3 : 2 ^ w * (f (2 * j + 1) + 1) ≤ 2 ^ w * 2 ^ w := Nat.mul_le_mul_left _ h2
    rw [Nat.mul_add] at h3
    omega
theorem bc_odd (w : Nat) (hw : 0 < w) (k : Nat) (f : Nat → Nat) (h : ∀ j, f j < 2 ^ w) (hz : ∀ j, 2 * k + 2 ≤ j → f j = 0) : (bc_fd w (2 * (k + 1)) f / 2 ^ w) &&& bc_mk w (k + 1) = bc_fd (2 * w) (k + 1) (fun j => f (2 * j + 1)) := by
  have e : bc_fd w (2 * (k + 1)) f / 2 ^ w = bc_fd w (2 * (k + 1)) (fun j => f (j + 1)) := bc_fd_dn w (2 * k + 1) f (h 0) (hz _ (by omega))
  rw [e]
  exact bc_even w hw (k + 1) (fun j => f (j + 1)) (fun j _ => h _)
/-- the bits of n -/
def bc_bt (n : Nat) (j : Nat) : Nat := n / 2 ^ j % 2
theorem bc_bits : ∀ (k n : Nat), bc_fd 1 k (bc_bt n) = n % 2 ^ k
  | 0, n => by simp [bc_fd, Nat.mod_one]
  | k + 1, n => by
    have h := bc_bits k (n / 2)
    have e : (fun j => bc_bt n (j + 1)) = bc_bt (n / 2) := by
      funext j
      unfold bc_bt
      rw [Nat.pow_succ, Nat.mul_comm, ← Nat.div_div_eq_div_mul]
    show bc_bt n 0 + 2 ^ 1 * bc_fd 1 k (fun j => bc_bt n (j + 1)) = _
    have e2 : n % 2 ^ (k + 1) = n % 2 + 2 * (n / 2 % 2 ^ k) := by rw [Nat.pow_succ, Nat.mul_comm (2 ^ k) 2, Nat.mod_mul]
    rw [e, h, e2]
    unfold bc_bt
    simp
/-- the sum of the first k -/
def bc_s (f : Nat → Nat) : Nat → Nat
  | 0 => 0
  | k + 1 => bc_s f k + f k
/-- what the library's method computes, over naturals -/
def bc_x1 (n : Nat) : Nat := n - (n / 2 &&& 6148914691236517205)
def bc_x2 (x : Nat) : Nat := (x &&& 3689348814741910323) + (x / 4 &&& 3689348814741910323)
def bc_x3 (x : Nat) : Nat := (x + x / 16) &&& 1085102592571150095
def bc_x4 (x : Nat) : Nat := x + x / 256
def bc_x5 (x : Nat) : Nat := x + x / 65536
def bc_x6 (x : Nat) : Nat := x + x / 4294967296
theorem bc_m1 : bc_mk 1 32 = 6148914691236517205 := by decide +kernel
theorem bc_m2 : bc_mk 2 16 = 3689348814741910323 := by decide +kernel
theorem bc_m4 : bc_mk 4 8 = 1085102592571150095 := by decide +kernel
def bc_g1 (f : Nat → Nat) (j : Nat) : Nat := f (2 * j) + f (2 * j + 1)
theorem bc_step1 (f : Nat → Nat) (h : ∀ j, f j < 2) (hz : ∀ j, 64 ≤ j → f j = 0) : bc_x1 (bc_fd 1 64 f) = bc_fd 2 32 (bc_g1 f) := by
  have h1 := bc_odd 1 (by decide) 31 f (fun j => h j) (fun j hj => hz j (by omega))
  have h2 := bc_fd_pair 1 32 f
  have h3 := bc_fd_add 2 32 (fun j => f (2 * j)) (fun j => f (2 * j + 1))
  unfold bc_x1
  have e1 : bc_fd 1 64 f / 2 &&& 6148914691236517205 = bc_fd 2 32 (fun j => f (2 * j + 1)) := by rw [← bc_m1]; exact h1
  have e2 : bc_fd 1 64 f = bc_fd 2 32 (fun j => f (2 * j)) + 2 * bc_fd 2 32 (fun j => f (2 * j + 1)) := h2
  have e3 : bc_fd 2 32 (bc_g1 f) = bc_fd 2 32 (fun j => f (2 * j)) + bc_fd 2 32 (fun j => f (2 * j + 1)) := h3.symm
  rw [e1, e3]
  omega
theorem bc_step2 (f : Nat → Nat) (h : ∀ j, f j < 4) (hz : ∀ j, 32 ≤ j → f j = 0) : bc_x2 (bc_fd 2 32 f) = bc_fd 4 16 (bc_g1 f) := by
  have h1 := bc_odd 2 (by decide) 15 f (fun j => h j) (fun j hj => hz j (by omega))
  have h2 := bc_even 2 (by decide) 16 f (fun j _ => h j)
  have h3 := bc_fd_add 4 16 (fun j => f (2 * j)) (fun j => f (2 * j + 1))
  unfold bc_x2
  have e1 : bc_fd 2 32 f / 4 &&& 3689348814741910323 = bc_fd 4 16 (fun j => f (2 * j + 1)) := by rw [← bc_m2]; exact h1
  have e2 : bc_fd 2 32 f &&& 3689348814741910323 = bc_fd 4 16 (fun j => f (2 * j)) := by rw [← bc_m2]; exact h2
  rw [e1, e2, h3]
  rfl
theorem bc_step3 (f : Nat → Nat) (h : ∀ j, f j ≤ 4) (hz : ∀ j, 16 ≤ j → f j = 0) : bc_x3 (bc_fd 4 16 f) = bc_fd 8 8 (bc_g1 f) := by
  have h0 := bc_fd_dns 4 15 1 f (fun j => Nat.lt_of_le_of_lt (h j) (by decide)) (fun j hj => hz j (by omega))
  have h3 := bc_fd_add 4 16 f (fun j => f (j + 1))
  have h2 := bc_even 4 (by decide) 8 (fun j => f j + f (j + 1)) (fun j _ => by have := h j; have := h (j + 1); show _ < 16; omega)
  unfold bc_x3
  have e1 : bc_fd 4 16 f / 16 = bc_fd 4 16 (fun j => f (j + 1)) := h0
  rw [e1, h3, ← bc_m4]
  exact h2
def bc_g4 (f : Nat → Nat) (i j : Nat) : Nat := f j + f (j + i)
theorem bc_step4 (i : Nat) (f : Nat → Nat) (h : ∀ j, f j < 256) (hz : ∀ j, 8 ≤ j → f j = 0) : bc_fd 8 8 f + bc_fd 8 8 f / 2 ^ (8 * i) = bc_fd 8 8 (bc_g4 f i) := by
  rw [bc_fd_dns 8 7 i f (fun j => h j) (fun j hj => hz j (by omega)), bc_fd_add]
  rfl
theorem bc_all (f : Nat → Nat) (h : ∀ j, f j < 2) (hz : ∀ j, 64 ≤ j → f j = 0) : bc_x6 (bc_x5 (bc_x4 (bc_x3 (bc_x2 (bc_x1 (bc_fd 1 64 f)))))) % 128 = bc_s f 64 := by
  have z1 : ∀ (g : Nat → Nat) (k : Nat), (∀ j, 2 * k ≤ j → g j = 0) → ∀ j, k ≤ j → bc_g1 g j = 0 := fun g k hg j hj => by
    unfold bc_g1; rw [hg _ (by omega), hg _ (by omega)]
  have b1 : ∀ (g : Nat → Nat) (c : Nat), (∀ j, g j ≤ c) → ∀ j, bc_g1 g j ≤ 2 * c := fun g c hg j => by
    unfold bc_g1; have := hg (2 * j); have := hg (2 * j + 1); omega
  have h1 : ∀ j, f j ≤ 1 := fun j => by have := h j; omega
  rw [bc_step1 f h hz]
  have zz1 := z1 f 32 hz
  have bb1 := b1 f 1 h1
  rw [bc_step2 (bc_g1 f) (fun j => by have := bb1 j; omega) zz1]
  have zz2 := z1 (bc_g1 f) 16 zz1
  have bb2 := b1 (bc_g1 f) 2 bb1
  rw [bc_step3 (bc_g1 (bc_g1 f)) bb2 zz2]
  have zz3 := z1 (bc_g1 (bc_g1 f)) 8 zz2
  have bb3 := b1 (bc_g1 (bc_g1 f)) 4 bb2
  generalize hg : bc_g1 (bc_g1 (bc_g1 f)) = g at zz3 bb3
  have z4 : ∀ (g : Nat → Nat) (i : Nat), (∀ j, 8 ≤ j → g j = 0) → ∀ j, 8 ≤ j → bc_g4 g i j = 0 := fun g i hg j hj => by
    unfold bc_g4; rw [hg _ hj, hg _ (by omega)]
  have b4 : ∀ (g : Nat → Nat) (c i : Nat), (∀ j, g j ≤ c) → ∀ j, bc_g4 g i j ≤ 2 * c := fun g c i hg j => by
    unfold bc_g4; have := hg j; have := hg (j + i); omega
  have s4 : bc_x4 (bc_fd 8 8 g) = bc_fd 8 8 (bc_g4 g 1) := bc_step4 1 g (fun j => by have := bb3 j; omega) zz3
  have zz4 := z4 g 1 zz3
  have bb4 := b4 g 8 1 bb3
  have s5 : bc_x5 (bc_fd 8 8 (bc_g4 g 1)) = bc_fd 8 8 (bc_g4 (bc_g4 g 1) 2) := bc_step4 2 _ (fun j => by have := bb4 j; omega) zz4
  have zz5 := z4 _ 2 zz4
  have bb5 := b4 _ 16 2 bb4
  have s6 : bc_x6 (bc_fd 8 8 (bc_g4 (bc_g4 g 1) 2)) = bc_fd 8 8 (bc_g4 (bc_g4 (bc_g4 g 1) 2) 4) := bc_step4 4 _ (fun j => by have := bb5 j; omega) zz5
  have bb6 := b4 _ 32 4 bb5
  rw [s4, s5, s6]
  have e6 : bc_fd 8 8 (bc_g4 (bc_g4 (bc_g4 g 1) 2) 4) % 128 = bc_g4 (bc_g4 (bc_g4 g 1) 2) 4 0 := by
    have h0 := bb6 0
    have q := bc_fd_lo 8 7 (bc_g4 (bc_g4 (bc_g4 g 1) 2) 4) (by show _ < 256; omega)
    have q2 : bc_fd 8 8 (bc_g4 (bc_g4 (bc_g4 g 1) 2) 4) % 256 = bc_g4 (bc_g4 (bc_g4 g 1) 2) 4 0 := q
    omega
  rw [e6, ← hg]
  simp only [bc_g4, bc_g1, bc_s, Nat.reduceMul, Nat.reduceAdd]
  omega
/-- how many bits of a are set -/
def bc_cnt (a : Int64) : Nat := bc_s (fun j => bc_bt a.toBitVec.toNat j) 64
theorem bc_val (n : Nat) (hn : n < 2 ^ 64) : bc_x6 (bc_x5 (bc_x4 (bc_x3 (bc_x2 (bc_x1 n))))) % 128 = bc_s (bc_bt n) 64 := by
  have e : bc_fd 1 64 (bc_bt n) = n := by rw [bc_bits]; exact Nat.mod_eq_of_lt hn
  have h := bc_all (bc_bt n) (fun j => Nat.mod_lt _ (by decide)) (fun j hj => by
    unfold bc_bt
    rw [Nat.div_eq_of_lt (Nat.lt_of_lt_of_le hn (Nat.pow_le_pow_right (by decide) hj))])
  rw [e] at h
  exact h
theorem bc_s_le (f : Nat → Nat) (h : ∀ j, f j ≤ 1) : ∀ k, bc_s f k ≤ k
  | 0 => Nat.le_refl 0
  | k + 1 => by have := bc_s_le f h k; have := h k; unfold bc_s; omega
theorem bc_cnt_le (a : Int64) : bc_cnt a ≤ 64 := bc_s_le _ (fun j => by unfold bc_bt; omega) 64
theorem bc_bt_bit (a : Int64) (j : Nat) : bc_bt a.toBitVec.toNat j = if px_bit a j = true then 1 else 0 := by
  unfold bc_bt px_bit
  rw [BitVec.getLsbD, Nat.testBit_eq_decide_div_mod_eq]
  have := Nat.mod_lt (a.toBitVec.toNat / 2 ^ j) (show 0 < 2 by decide)
  by_cases h : a.toBitVec.toNat / 2 ^ j % 2 = 1
  · simp [h]
  · simp [h]; omega
theorem bc_cnt_0 : bc_cnt 0 = 0 := by decide +kernel
theorem px_one_tp : ∀ r, r < 64 → (px_one r).toBitVec = BitVec.twoPow 64 r := by decide +kernel
theorem px_bit_or {a : Int64} {r j : Nat} (hr : r < 64) (hj : j < 64) : px_bit (a ||| px_one r) j = (px_bit a j || decide (r = j)) := by
  unfold px_bit
  rw [Int64.toBitVec_or, BitVec.getLsbD_or, px_one_tp r hr, BitVec.getLsbD_twoPow]
  simp [hj, hr]
theorem px_bit_0 (j : Nat) : px_bit 0 j = false := by unfold px_bit; simp
theorem px_bit_z {a : Int64} {r : Nat} (hr : r < 64) (h : a &&& px_one r = 0) : px_bit a r = false := by
  have h1 := congrArg (fun x => (Int64.toBitVec x).getLsbD r) h
  simp only [Int64.toBitVec_and, BitVec.getLsbD_and, px_one_tp r hr, BitVec.getLsbD_twoPow] at h1
  simpa [px_bit, hr] using h1
theorem px_bit_n {a : Int64} {r : Nat} (hr : r < 64) (h : a &&& px_one r ≠ 0) : px_bit a r = true := by
  cases hb : px_bit a r with
  | true => rfl
  | false =>
    exfalso
    apply h
    apply Int64.toBitVec_inj.mp
    apply BitVec.eq_of_getLsbD_eq
    intro i hi
    rw [Int64.toBitVec_and, BitVec.getLsbD_and, px_one_tp r hr, BitVec.getLsbD_twoPow]
    by_cases q : r = i
    · subst q; unfold px_bit at hb; simp [hb]
    · simp [q]
theorem bc_cnt_s (a : Int64) (r : Nat) (hr : r < 64) (h : px_bit a r = false) : bc_cnt (a ||| px_one r) = bc_cnt a + 1 := by
  have key : ∀ k, k ≤ 64 → bc_s (fun j => bc_bt (a ||| px_one r).toBitVec.toNat j) k = bc_s (fun j => bc_bt a.toBitVec.toNat j) k + if r < k then 1 else 0 := by
    intro k
    induction k with
    | zero => intro _; simp [bc_s]
    | succ k ih =>
      intro hk
      have ih := ih (by omega)
      have e1 := bc_bt_bit (a ||| px_one r) k
      have e2 := bc_bt_bit a k
      rw [px_bit_or hr (by omega)] at e1
      show bc_s _ k + bc_bt _ k = bc_s _ k + bc_bt _ k + _
      rw [ih, e1, e2]
      by_cases q : r = k
      · subst q
        simp [h]
      · by_cases q2 : r < k
        · have q3 : r < k + 1 := by omega
          simp [q, q2, q3]; omega
        · have q3 : ¬ r < k + 1 := by omega
          simp [q, q2, q3]
  have := key 64 (Nat.le_refl _)
  rw [if_pos hr] at this
  exact this
theorem px_sc : ∀ r, r < 64 → ((nI r).toInt64.toUInt64 &&& Int64.toUInt64 63).toNat = r := by decide +kernel
theorem px_shr {a : Int64} {r : Nat} (hr : r < 64) : (((a.toUInt64 >>> ((nI r).toInt64.toUInt64 &&& Int64.toUInt64 63)).toInt64 &&& 1) = 0) ↔ px_bit a r = false := ts_bit hr (px_sc r hr)
theorem px_shr_z {a : Int64} {r : Nat} (hr : r < 64) (h : ((a.toUInt64 >>> ((nI r).toInt64.toUInt64 &&& Int64.toUInt64 63)).toInt64 &&& 1) = 0) : px_bit a r = false := (px_shr hr).mp h
theorem px_shr_n {a : Int64} {r : Nat} (hr : r < 64) (h : ((a.toUInt64 >>> ((nI r).toInt64.toUInt64 &&& Int64.toUInt64 63)).toInt64 &&& 1) ≠ 0) : px_bit a r = true := by
  cases hb : px_bit a r with
  | true => rfl
  | false => exact absurd ((px_shr hr).mpr hb) h
theorem bc_b1 (n : Nat) : bc_x1 n ≤ n := Nat.sub_le _ _
theorem bc_b2 (x : Nat) : bc_x2 x ≤ 7378697629483820646 := by
  unfold bc_x2
  have h1 : x &&& 3689348814741910323 ≤ 3689348814741910323 := Nat.and_le_right
  have h2 : x / 4 &&& 3689348814741910323 ≤ 3689348814741910323 := Nat.and_le_right
  omega
theorem bc_b2s (x : Nat) : bc_x2 x + bc_x2 x / 2 ^ 4 < 2 ^ 64 := by
  have h := bc_b2 x
  omega
theorem bc_b3 (x : Nat) : bc_x3 x ≤ 1085102592571150095 := Nat.and_le_right
theorem bc_b4 (x : Nat) : bc_x4 (bc_x3 x) < 2 ^ 64 := by
  have h := bc_b3 x
  unfold bc_x4
  omega
theorem bc_b5 (x : Nat) : bc_x5 (bc_x4 (bc_x3 x)) < 2 ^ 64 := by
  have h := bc_b3 x
  unfold bc_x5 bc_x4
  omega
theorem bc_and127 (x : Nat) : nI x &&& nI 127 = nI (x % 128) := by
  rw [pk_and (nI x) (m := nI 127) 7 (by decide)]
  congr 1
  have e : (nI x).toBitVec.toNat = x % 2 ^ 32 := by
    unfold nI
    simp [Int32.toBitVec_ofNat']
  rw [e]
  exact Nat.mod_mod_of_dvd x (by decide)
