def f_X11_draw (seedNow : Int64) (p1 : Int32) : Int32 × Int64 :=
  (((((((((1103515245 : Int64) * seedNow) + (12345 : Int64)) &&& (2147483647 : Int64)) / (65536 : Int64)) - (((((1103515245 : Int64) * seedNow) + (12345 : Int64)) &&& (2147483647 : Int64)) / (65536 : Int64)) / ((p1).toInt64) * ((p1).toInt64))).toInt32), ((((1103515245 : Int64) * seedNow) + (12345 : Int64)) &&& (2147483647 : Int64)))
theorem f_X11_draw_s {seedNow : Int64} {p1 : Int32} : f_X11_draw seedNow p1 =
  ((((((((((1103515245 : Int64) * seedNow) + (12345 : Int64)) &&& (2147483647 : Int64)) / (65536 : Int64)) - (((((1103515245 : Int64) * seedNow) + (12345 : Int64)) &&& (2147483647 : Int64)) / (65536 : Int64)) / ((p1).toInt64) * ((p1).toInt64))).toInt32), ((((1103515245 : Int64) * seedNow) + (12345 : Int64)) &&& (2147483647 : Int64)))) := rfl
def f_X11_ofSet_L4 : Nat → Int32 → Int32 → Int32 → Int32 → Int32
  | 0, _, _, _, _ => 0
  | n + 1, x0, x1, x2, x3 =>
    if (f_X11_isIn x0 x2) = 0 then
      if (f_X11_isIn x0 x2) = 0 then
        f_X11_ofSet_L4 n x0 x1 (x2 + (1 : Int32)) (x3 - (0 : Int32))
      else
        f_X11_ofSet_L4 n x0 x1 (x2 + (1 : Int32)) (x3 - (1 : Int32))
    else
      if x3 ≤ 0 then
        x2
      else
        if (f_X11_isIn x0 x2) = 0 then
          f_X11_ofSet_L4 n x0 x1 (x2 + (1 : Int32)) (x3 - (0 : Int32))
        else
          f_X11_ofSet_L4 n x0 x1 (x2 + (1 : Int32)) (x3 - (1 : Int32))
theorem f_X11_ofSet_L4_s {n : Nat} {x0 : Int32} {x1 : Int32} {x2 : Int32} {x3 : Int32} : f_X11_ofSet_L4 (n + 1) x0 x1 x2 x3 =
    (if (f_X11_isIn x0 x2) = 0 then
      if (f_X11_isIn x0 x2) = 0 then
        f_X11_ofSet_L4 n x0 x1 (x2 + (1 : Int32)) (x3 - (0 : Int32))
      else
        f_X11_ofSet_L4 n x0 x1 (x2 + (1 : Int32)) (x3 - (1 : Int32))
    else
      if x3 ≤ 0 then
        x2
      else
        if (f_X11_isIn x0 x2) = 0 then
          f_X11_ofSet_L4 n x0 x1 (x2 + (1 : Int32)) (x3 - (0 : Int32))
        else
          f_X11_ofSet_L4 n x0 x1 (x2 + (1 : Int32)) (x3 - (1 : Int32))) := rfl
def f_X11_ofSet (p1 : Int32) (p2 : Int32) : Int32 :=
  f_X11_ofSet_L4 9 p1 p2 (0 : Int32) p2
theorem f_X11_ofSet_s {p1 : Int32} {p2 : Int32} : f_X11_ofSet p1 p2 =
  (f_X11_ofSet_L4 9 p1 p2 (0 : Int32) p2) := rfl
def f_X11_play_L15 : Nat → Int32 → Int32 → Int32 → Int64 → (Nat → Int32) → (Nat → Int32) → Int32 → Int32 → Int32 → Int32 → Int32 × Int32 × Int64
  | 0, _, _, gameCuts, seedNow, _, _, _, _, _, _ => (0, gameCuts, seedNow)
  | n + 1, branches, stand, gameCuts, seedNow, kindOf, onOf, x1, x2, x3, x4 =>
    if x4 = 0 then
      (((1 : Int32) - x3), gameCuts, seedNow)
    else
      ((fun (z_1 : Int32 × Int64) =>
      f_X11_play_L15 n branches stand (gameCuts + (1 : Int32)) z_1.2 kindOf onOf x1 (f_X11_leaves branches onOf (f_X11_ofSet x4 z_1.1) x2) ((1 : Int32) - x3) (f_X11_mayCuts branches kindOf onOf ((1 : Int32) - x3) (f_X11_leaves branches onOf (f_X11_ofSet x4 z_1.1) x2))) (f_X11_draw seedNow (f_X11_size x4)))
theorem f_X11_play_L15_s {n : Nat} {branches : Int32} {stand : Int32} {gameCuts : Int32} {seedNow : Int64} {kindOf : Nat → Int32} {onOf : Nat → Int32} {x1 : Int32} {x2 : Int32} {x3 : Int32} {x4 : Int32} : f_X11_play_L15 (n + 1) branches stand gameCuts seedNow kindOf onOf x1 x2 x3 x4 =
    (if x4 = 0 then
      (((1 : Int32) - x3), gameCuts, seedNow)
    else
      ((fun (z_1 : Int32 × Int64) =>
      f_X11_play_L15 n branches stand (gameCuts + (1 : Int32)) z_1.2 kindOf onOf x1 (f_X11_leaves branches onOf (f_X11_ofSet x4 z_1.1) x2) ((1 : Int32) - x3) (f_X11_mayCuts branches kindOf onOf ((1 : Int32) - x3) (f_X11_leaves branches onOf (f_X11_ofSet x4 z_1.1) x2))) (f_X11_draw seedNow (f_X11_size x4)))) := rfl
def f_X11_play (branches : Int32) (stand : Int32) (gameCuts : Int32) (seedNow : Int64) (kindOf : Nat → Int32) (onOf : Nat → Int32) (p1 : Int32) : Int32 × Int32 × Int64 :=
  f_X11_play_L15 9 branches stand gameCuts seedNow kindOf onOf p1 stand p1 (f_X11_mayCuts branches kindOf onOf p1 stand)
theorem f_X11_play_s {branches : Int32} {stand : Int32} {gameCuts : Int32} {seedNow : Int64} {kindOf : Nat → Int32} {onOf : Nat → Int32} {p1 : Int32} : f_X11_play branches stand gameCuts seedNow kindOf onOf p1 =
  (f_X11_play_L15 9 branches stand gameCuts seedNow kindOf onOf p1 stand p1 (f_X11_mayCuts branches kindOf onOf p1 stand)) := rfl
def f_X11_gamesNow_L17 : Nat → Int32 → Int32 → Int32 → Int64 → (Nat → Int32) → (Nat → Int32) → Int32 → Int32 → Int32 → Int32 → Int32 → Int32 × Int32 × Int64
  | 0, _, _, gameCuts, seedNow, _, _, _, _, _, _, _ => (0, gameCuts, seedNow)
  | n + 1, branches, stand, gameCuts, seedNow, kindOf, onOf, x1, x2, x3, x4, x5 =>
    if x1 ≤ x5 then
      if x3 = 0 then
        (x4, gameCuts, seedNow)
      else
        if x3 = (1 : Int32) then
          (gameCuts, gameCuts, seedNow)
        else
          (((seedNow).toInt32), gameCuts, seedNow)
    else
      ((fun (z_1 : Int32 × Int32 × Int64) =>
      if z_1.1 = 0 then
          f_X11_gamesNow_L17 n branches stand z_1.2.1 z_1.2.2 kindOf onOf x1 x2 x3 (x4 + (1 : Int32)) (x5 + (1 : Int32))
        else
          f_X11_gamesNow_L17 n branches stand z_1.2.1 z_1.2.2 kindOf onOf x1 x2 x3 (x4 + (0 : Int32)) (x5 + (1 : Int32))) (f_X11_play branches stand gameCuts seedNow kindOf onOf (x5 - x5 / (2 : Int32) * (2 : Int32))))
theorem f_X11_gamesNow_L17_s {n : Nat} {branches : Int32} {stand : Int32} {gameCuts : Int32} {seedNow : Int64} {kindOf : Nat → Int32} {onOf : Nat → Int32} {x1 : Int32} {x2 : Int32} {x3 : Int32} {x4 : Int32} {x5 : Int32} : f_X11_gamesNow_L17 (n + 1) branches stand gameCuts seedNow kindOf onOf x1 x2 x3 x4 x5 =
    (if x1 ≤ x5 then
      if x3 = 0 then
        (x4, gameCuts, seedNow)
      else
        if x3 = (1 : Int32) then
          (gameCuts, gameCuts, seedNow)
        else
          (((seedNow).toInt32), gameCuts, seedNow)
    else
      ((fun (z_1 : Int32 × Int32 × Int64) =>
      if z_1.1 = 0 then
          f_X11_gamesNow_L17 n branches stand z_1.2.1 z_1.2.2 kindOf onOf x1 x2 x3 (x4 + (1 : Int32)) (x5 + (1 : Int32))
        else
          f_X11_gamesNow_L17 n branches stand z_1.2.1 z_1.2.2 kindOf onOf x1 x2 x3 (x4 + (0 : Int32)) (x5 + (1 : Int32))) (f_X11_play branches stand gameCuts seedNow kindOf onOf (x5 - x5 / (2 : Int32) * (2 : Int32))))) := rfl
def f_X11_gamesNow (branches : Int32) (stand : Int32) (gameCuts : Int32) (seedNow : Int64) (kindOf : Nat → Int32) (onOf : Nat → Int32) (p1 : Int32) (p2 : Int32) (p3 : Int32) : Int32 × Int32 × Int64 :=
  f_X11_gamesNow_L17 41 branches stand (0 : Int32) ((p2).toInt64) kindOf onOf p1 p2 p3 (0 : Int32) (0 : Int32)
theorem f_X11_gamesNow_s {branches : Int32} {stand : Int32} {gameCuts : Int32} {seedNow : Int64} {kindOf : Nat → Int32} {onOf : Nat → Int32} {p1 : Int32} {p2 : Int32} {p3 : Int32} : f_X11_gamesNow branches stand gameCuts seedNow kindOf onOf p1 p2 p3 =
  (f_X11_gamesNow_L17 41 branches stand (0 : Int32) ((p2).toInt64) kindOf onOf p1 p2 p3 (0 : Int32) (0 : Int32)) := rfl
def f_X11_games (branches : Int32) (stand : Int32) (gameCuts : Int32) (seedNow : Int64) (kindOf : Nat → Int32) (onOf : Nat → Int32) (p1 : Int32) (p2 : Int32) (p3 : Int32) : Int32 × Int32 × Int64 :=
  if (f_X11_within p1 (1 : Int32) (40 : Int32)) = 0 then
    ((-102 : Int32), gameCuts, seedNow)
  else
    if p2 < 0 then
      ((-102 : Int32), gameCuts, seedNow)
    else
      if (f_X11_within p3 (0 : Int32) (2 : Int32)) = 0 then
        ((-102 : Int32), gameCuts, seedNow)
      else
        if branches = 0 then
          ((-103 : Int32), gameCuts, seedNow)
        else
          ((fun (z_1 : Int32 × Int32 × Int64) =>
          (z_1.1, z_1.2.1, z_1.2.2)) (f_X11_gamesNow branches stand gameCuts seedNow kindOf onOf p1 p2 p3))
theorem f_X11_games_s {branches : Int32} {stand : Int32} {gameCuts : Int32} {seedNow : Int64} {kindOf : Nat → Int32} {onOf : Nat → Int32} {p1 : Int32} {p2 : Int32} {p3 : Int32} : f_X11_games branches stand gameCuts seedNow kindOf onOf p1 p2 p3 =
  (if (f_X11_within p1 (1 : Int32) (40 : Int32)) = 0 then
    ((-102 : Int32), gameCuts, seedNow)
  else
    if p2 < 0 then
      ((-102 : Int32), gameCuts, seedNow)
    else
      if (f_X11_within p3 (0 : Int32) (2 : Int32)) = 0 then
        ((-102 : Int32), gameCuts, seedNow)
      else
        if branches = 0 then
          ((-103 : Int32), gameCuts, seedNow)
        else
          ((fun (z_1 : Int32 × Int32 × Int64) =>
          (z_1.1, z_1.2.1, z_1.2.2)) (f_X11_gamesNow branches stand gameCuts seedNow kindOf onOf p1 p2 p3))) := rfl
/-! facts of draws and games -/
theorem l_bm {z : Int} (h1 : -9223372036854775808 ≤ z) (h2 : z < 9223372036854775808) : z.bmod (2 ^ 64) = z := by
  apply Int.bmod_eq_of_le
  · exact Int.le_trans (by decide) h1
  · exact Int.lt_of_lt_of_le h2 (by decide)
theorem l_rg (x : Int64) : -9223372036854775808 ≤ x.toInt ∧ x.toInt < 9223372036854775808 := ⟨Int64.le_toInt x, Int64.toInt_lt x⟩
theorem rem_n {a d : Int} (ha : 0 ≤ a) (hd : 0 < d) : 0 ≤ a / d ∧ a / d ≤ a ∧ 0 ≤ a / d * d ∧ a / d * d ≤ a ∧ a - a / d * d = a % d := by
  have h1 : 0 ≤ a / d := Int.ediv_nonneg ha (Int.le_of_lt hd)
  have h2 : a / d * d ≤ a := Int.ediv_mul_le a (by omega)
  have h3 : 0 ≤ a / d * d := Int.mul_nonneg h1 (Int.le_of_lt hd)
  have h4 : a / d ≤ a := Int.ediv_le_self d ha
  refine ⟨h1, h4, h3, h2, ?_⟩
  have := Int.emod_def a d
  have hc := Int.mul_comm d (a / d)
  omega
theorem l_div {x d : Int64} (hx : 0 ≤ x.toInt) (hd : 0 < d.toInt) : (x / d).toInt = x.toInt / d.toInt := by
  rw [Int64.toInt_div, Int.tdiv_eq_ediv_of_nonneg hx]
  have := rem_n hx hd
  have := l_rg x
  exact l_bm (by omega) (by omega)
theorem i_div {x d : Int32} (hx : 0 ≤ x.toInt) (hd : 0 < d.toInt) : (x / d).toInt = x.toInt / d.toInt := by
  rw [Int32.toInt_div, Int.tdiv_eq_ediv_of_nonneg hx]
  have := rem_n hx hd
  have := i_rg x
  exact i_bm (by omega) (by omega)
theorem l_rem {x d : Int64} (hx : 0 ≤ x.toInt) (hd : 0 < d.toInt) : (x - x / d * d).toInt = x.toInt % d.toInt := by
  have k := rem_n hx hd
  have r := l_rg x
  rw [Int64.toInt_sub, Int64.toInt_mul, l_div hx hd, l_bm (z := x.toInt / d.toInt * d.toInt) (by omega) (by omega), l_bm (by omega) (by omega)]
  exact k.2.2.2.2
theorem i_rem {x d : Int32} (hx : 0 ≤ x.toInt) (hd : 0 < d.toInt) : (x - x / d * d).toInt = x.toInt % d.toInt := by
  have k := rem_n hx hd
  have r := i_rg x
  rw [Int32.toInt_sub, Int32.toInt_mul, i_div hx hd, i_bm (z := x.toInt / d.toInt * d.toInt) (by omega) (by omega), i_bm (by omega) (by omega)]
  exact k.2.2.2.2
theorem l_and31 (x : Int64) : (x &&& (2147483647 : Int64)).toInt = ((x.toBitVec.toNat % 2147483648 : Nat) : Int) := by
  have e : (x &&& (2147483647 : Int64)).toBitVec.toNat = x.toBitVec.toNat % 2147483648 := by
    rw [Int64.toBitVec_and, BitVec.toNat_and]
    show x.toBitVec.toNat &&& (2 ^ 31 - 1) = _
    rw [Nat.and_two_pow_sub_one_eq_mod]
  show (x &&& (2147483647 : Int64)).toBitVec.toInt = _
  have h : x.toBitVec.toNat % 2147483648 < 2147483648 := Nat.mod_lt _ (by decide)
  rw [BitVec.toInt_eq_toNat_cond, e, if_pos (by omega)]
theorem l_nn {x : Int64} (h : 0 ≤ x.toInt) : ((x.toBitVec.toNat : Nat) : Int) = x.toInt := by
  have h2 : x.toBitVec.toInt = x.toInt := rfl
  have h3 := x.toBitVec.isLt
  rw [BitVec.toInt_eq_toNat_cond] at h2
  by_cases c : 2 * x.toBitVec.toNat < 2 ^ 64
  · rw [if_pos c] at h2; exact h2
  · rw [if_neg c] at h2; omega
theorem i_of64 {x : Int64} (h : 0 ≤ x.toInt) (h2 : x.toInt < 2147483648) : x.toInt32.toInt = x.toInt := by
  rw [Int64.toInt_toInt32]
  exact i_bm (by omega) h2
theorem dr_t (x : Int64) {p1 : Int32} (hp : 0 < p1.toInt) (hx : 0 ≤ x.toInt ∧ x.toInt < 2147483648) : ((x / (65536 : Int64) - x / (65536 : Int64) / p1.toInt64 * p1.toInt64).toInt32).toInt = x.toInt / 65536 % p1.toInt := by
  have t : (65536 : Int64).toInt = 65536 := rfl
  have tp : p1.toInt64.toInt = p1.toInt := Int32.toInt_toInt64 p1
  have e1 : (x / (65536 : Int64)).toInt = x.toInt / 65536 := by rw [l_div hx.1 (by decide), t]
  have e2 := l_rem (x := x / (65536 : Int64)) (d := p1.toInt64) (by omega) (by omega)
  rw [e1, tp] at e2
  have m1 := Int.emod_nonneg (x.toInt / 65536) (by omega : p1.toInt ≠ 0)
  have m2 := Int.emod_lt_of_pos (x.toInt / 65536) hp
  have m3 := i_rg p1
  rw [i_of64 (by omega) (by omega), e2]
theorem r_draw {seedNow : Int64} {p1 : Int32} {z : Int32 × Int64} (e : z = f_X11_draw seedNow p1) : 0 < p1.toInt → (0 ≤ z.1.toInt ∧ z.1.toInt < p1.toInt) := by
  intro hp
  subst e
  have h := l_and31 ((1103515245 : Int64) * seedNow + (12345 : Int64))
  have h2 : ((1103515245 : Int64) * seedNow + (12345 : Int64)).toBitVec.toNat % 2147483648 < 2147483648 := Nat.mod_lt _ (by decide)
  have k := dr_t (((1103515245 : Int64) * seedNow + (12345 : Int64)) &&& (2147483647 : Int64)) hp (by omega)
  rw [f_X11_draw_s]
  show 0 ≤ (((((1103515245 : Int64) * seedNow + (12345 : Int64)) &&& (2147483647 : Int64)) / (65536 : Int64) - (((1103515245 : Int64) * seedNow + (12345 : Int64)) &&& (2147483647 : Int64)) / (65536 : Int64) / p1.toInt64 * p1.toInt64).toInt32).toInt ∧ (((((1103515245 : Int64) * seedNow + (12345 : Int64)) &&& (2147483647 : Int64)) / (65536 : Int64) - (((1103515245 : Int64) * seedNow + (12345 : Int64)) &&& (2147483647 : Int64)) / (65536 : Int64) / p1.toInt64 * p1.toInt64).toInt32).toInt < p1.toInt
  rw [k]
  exact ⟨Int.emod_nonneg _ (by omega), Int.emod_lt_of_pos _ hp⟩
/-- both draws are one -/
theorem draw_eq {seed p1 : Int32} (hs : 0 ≤ seed.toInt) (hp : 0 < p1.toInt) : ∃ r s2, f_X2_draw seed p1 = (r, s2) ∧ f_X11_draw seed.toInt64 p1 = (r, s2.toInt64) ∧ 0 ≤ s2.toInt ∧ 0 ≤ r.toInt ∧ r.toInt < p1.toInt := by
  have r1 := i_rg seed
  have ts : seed.toInt64.toInt = seed.toInt := Int32.toInt_toInt64 seed
  have tc : (1103515245 : Int64).toInt = 1103515245 := rfl
  have td : (12345 : Int64).toInt = 12345 := rfl
  have tm : (2147483648 : Int64).toInt = 2147483648 := rfl
  have t6 : (65536 : Int32).toInt = 65536 := rfl
  have hv : ((1103515245 : Int64) * seed.toInt64 + (12345 : Int64)).toInt = 1103515245 * seed.toInt + 12345 := by
    rw [Int64.toInt_add, Int64.toInt_mul, ts, tc, td, l_bm (z := 1103515245 * seed.toInt) (by omega) (by omega), l_bm (by omega) (by omega)]
  generalize hV : (1103515245 : Int64) * seed.toInt64 + (12345 : Int64) = v at hv
  have v0 : 0 ≤ v.toInt := by omega
  have e1 : (v - v / (2147483648 : Int64) * (2147483648 : Int64)).toInt = v.toInt % 2147483648 := by rw [l_rem v0 (by decide), tm]
  have e2 : (v &&& (2147483647 : Int64)).toInt = v.toInt % 2147483648 := by
    rw [l_and31, ← l_nn v0]
    exact Int.natCast_emod _ _
  have m1 := Int.emod_nonneg v.toInt (by decide : (2147483648 : Int) ≠ 0)
  have m2 := Int.emod_lt_of_pos v.toInt (by decide : (0 : Int) < 2147483648)
  have e3 : (v - v / (2147483648 : Int64) * (2147483648 : Int64)).toInt32.toInt = v.toInt % 2147483648 := by rw [i_of64 (by omega) (by omega), e1]
  generalize hS : (v - v / (2147483648 : Int64) * (2147483648 : Int64)).toInt32 = s2 at e3
  have e4 : s2.toInt64 = v &&& (2147483647 : Int64) := Int64.toInt_inj.mp (by rw [Int32.toInt_toInt64, e3, e2])
  have e5 : (s2 / (65536 : Int32)).toInt = s2.toInt / 65536 := by rw [i_div (by omega) (by decide), t6]
  have e6 := i_rem (x := s2 / (65536 : Int32)) (d := p1) (by omega) hp
  rw [e5] at e6
  have k := dr_t (v &&& (2147483647 : Int64)) hp (by omega)
  have g1 := Int.emod_nonneg (s2.toInt / 65536) (by omega : p1.toInt ≠ 0)
  have g2 := Int.emod_lt_of_pos (s2.toInt / 65536) hp
  refine ⟨s2 / (65536 : Int32) - s2 / (65536 : Int32) / p1 * p1, s2, ?_, ?_, by omega, by omega, by omega⟩
  · rw [f_X2_draw_s, hV, hS, if_neg (fun z => by have := i_le z; have t0 : (0 : Int32).toInt = 0 := rfl; omega)]
  · rw [f_X11_draw_s, hV, e4]
    refine Prod.ext ?_ rfl
    apply Int32.toInt_inj.mp
    show ((v &&& (2147483647 : Int64)) / (65536 : Int64) - (v &&& (2147483647 : Int64)) / (65536 : Int64) / p1.toInt64 * p1.toInt64).toInt32.toInt = _
    rw [k, e6, e2, e3]
def ofI (x k l : Int32) : Prop := 0 ≤ l.toInt ∧ 0 ≤ k.toInt ∧ k.toInt ≤ 8 ∧ l.toInt < (cb x 8 : Int) - (cb x k.toNatClampNeg : Int)
theorem ofI_n {x k l : Int32} (h : ofI x k l) : ∃ j i, k = nI j ∧ l = nI i ∧ j < 8 ∧ i < 8 ∧ i + cb x j < cb x 8 := by
  obtain ⟨h1, h2, h3, h4⟩ := h
  obtain ⟨j, hj, rfl⟩ := of_rg (x := k) (N := 9) (by decide) (by omega)
  have c8 := cb_le x 8
  obtain ⟨i, hi, rfl⟩ := of_rg (x := l) (N := 8) (by decide) (by omega)
  rw [nI_clamp (by omega : j < 2 ^ 31), tI (by omega)] at h4
  refine ⟨j, i, rfl, rfl, ?_, hi, by omega⟩
  rcases Nat.lt_or_ge j 8 with g | g
  · exact g
  · have : j = 8 := by omega
    subst this
    omega
theorem ofI_lt {x k l : Int32} (h : ofI x k l) : 0 ≤ k.toInt ∧ k.toInt < 8 := by
  obtain ⟨j, i, rfl, rfl, hj, _⟩ := ofI_n h
  rw [tI (by omega)]; omega
theorem ofI_of {x : Int32} {j i : Nat} (hj : j ≤ 8) (h : i + cb x j < cb x 8) : ofI x (nI j) (nI i) := by
  have c8 := cb_le x 8
  unfold ofI
  rw [nI_clamp (by omega : j < 2 ^ 31), tI (by omega : i < 2 ^ 31), tI (by omega : j < 2 ^ 31)]
  omega
theorem ofI_0 {x l : Int32} (h : 0 ≤ l.toInt ∧ l.toInt < (cb x 8 : Int)) : ofI x (0 : Int32) l := by
  have c8 := cb_le x 8
  obtain ⟨i, hi, rfl⟩ := of_rg (x := l) (N := 8) (by decide) (by omega)
  have : (nI i).toInt = i := tI (by omega)
  exact ofI_of (j := 0) (by omega) (by show i + 0 < _; omega)
theorem ofI_no {x k l : Int32} (h : ofI x k l) (e : f_X11_isIn x k = 0) : ofI x (k + (1 : Int32)) (l - (0 : Int32)) := by
  obtain ⟨j, i, rfl, rfl, hj, hi, hc⟩ := ofI_n h
  have b := (isIn_0 x (by omega)).mp e
  have e0 : nI i - (0 : Int32) = nI i := pk_sub (a := i) (b := 0) (by omega)
  rw [nI_1, e0]
  refine ofI_of (by omega) ?_
  rw [cb_s, b]
  exact hc
theorem ofI_yes {x k l : Int32} (h : ofI x k l) (e : ¬ f_X11_isIn x k = 0) (hl : (0 : Int32).toInt < l.toInt) : ofI x (k + (1 : Int32)) (l - (1 : Int32)) := by
  obtain ⟨j, i, rfl, rfl, hj, hi, hc⟩ := ofI_n h
  have ti : (nI i).toInt = i := tI (by omega)
  have t0 : (0 : Int32).toInt = 0 := rfl
  have b : bt x j = true := by
    cases g : bt x j
    · exact absurd ((isIn_0 x (by omega)).mpr g) e
    · rfl
  have e0 : nI i - (1 : Int32) = nI (i - 1) := pk_sub (a := i) (b := 1) (by omega)
  rw [nI_1, e0]
  refine ofI_of (by omega) ?_
  rw [cb_s, b]
  show i - 1 + (cb x j + 1) < _
  omega
theorem ofs_L {x w seed : Int32} : ∀ (m j i : Nat), 8 < j + m → i + cb x j < cb x 8 → j ≤ 8 → ∃ b, b < 8 ∧ bt x b = true ∧ f_X11_ofSet_L4 m x w (nI j) (nI i) = nI b ∧ f_X2_drawFrom_L11 m seed x (nI i) (nI j) = (nI b, seed) := by
  intro m
  induction m with
  | zero => intro j i h1 h2 h3; omega
  | succ m ih =>
    intro j i h1 h2 h3
    obtain ⟨j2, i2, ej, ei, hj, hi, hc⟩ := ofI_n (ofI_of h3 h2)
    have hj8 : j < 8 := by
      rcases Nat.lt_or_ge j 8 with g | g
      · exact g
      · have : j = 8 := by omega
        subst this; omega
    have hi8 : i < 8 := by have := cb_le x 8; omega
    rw [f_X11_ofSet_L4_s, f_X2_drawFrom_L11_s, if_neg (show ¬ (8 : Int32) ≤ nI j from nI_ge (b := 8) (by omega) (by omega)), nI_1]
    cases g : bt x j
    · have e0 : nI i - (0 : Int32) = nI i := pk_sub (a := i) (b := 0) (by omega)
      rw [if_pos ((isIn_0 x (by omega)).mpr g), if_pos ((isIn_0 x (by omega)).mpr g), if_pos ((bit_ne x (by omega)).mpr g), e0]
      exact ih (j + 1) i (by omega) (by rw [cb_s, g]; exact h2) (by omega)
    · have n1 : ¬ f_X11_isIn x (nI j) = 0 := fun z => by rw [isIn_0 x (by omega), g] at z; cases z
      have n2 : ¬ ((x >>> (nI j &&& 31)) &&& (1 : Int32)) = 0 := fun z => by rw [bit_ne x (by omega), g] at z; cases z
      rw [if_neg n1, if_neg n2]
      by_cases c : i = 0
      · subst c
        rw [if_pos (show nI 0 ≤ (0 : Int32) by decide), if_pos (show nI 0 = (0 : Int32) from rfl)]
        exact ⟨j, hj8, g, rfl, rfl⟩
      · have ti : (nI i).toInt = i := tI (by omega)
        have t0 : (0 : Int32).toInt = 0 := rfl
        have n3 : ¬ nI i ≤ (0 : Int32) := fun z => by have := i_le z; omega
        have n4 : ¬ nI i = (0 : Int32) := nI_ne0 (by omega) (by omega)
        have e0 : nI i - (1 : Int32) = nI (i - 1) := pk_sub (a := i) (b := 1) (by omega)
        have e1 : nI i + (-1 : Int32) = nI (i - 1) := by rw [← e0]; exact (Int32.sub_eq_add_neg _ _).symm
        rw [if_neg n3, if_neg n1, if_neg n4, e0, e1]
        exact ih (j + 1) (i - 1) (by omega) (by rw [cb_s, g]; show i - 1 + (cb x j + 1) < _; omega) (by omega)
theorem ofs_eq {x l : Int32} (seed : Int32) (h : 0 ≤ l.toInt ∧ l.toInt < (cb x 8 : Int)) : ∃ b, b < 8 ∧ bt x b = true ∧ f_X11_ofSet x l = nI b ∧ f_X2_drawFrom_L11 9 seed x l (0 : Int32) = (nI b, seed) := by
  have c8 := cb_le x 8
  obtain ⟨i, hi, rfl⟩ := of_rg (x := l) (N := 8) (by decide) (by omega)
  have : (nI i).toInt = i := tI (by omega)
  exact ofs_L 9 0 i (by omega) (by show i + 0 < _; omega) (by omega)
theorem r_ofSet {x l : Int32} : 0 ≤ l.toInt ∧ l.toInt < (cb x 8 : Int) → (0 ≤ (f_X11_ofSet x l).toInt ∧ (f_X11_ofSet x l).toInt < 8) := by
  intro h
  obtain ⟨b, hb, _, e, _⟩ := ofs_eq 0 h
  rw [e, tI (by omega)]; omega
theorem r_ofSet2 {x l : Int32} : 0 ≤ l.toInt ∧ l.toInt < (cb x 8 : Int) → bt x (f_X11_ofSet x l).toNatClampNeg = true := by
  intro h
  obtain ⟨b, hb, g, e, _⟩ := ofs_eq 0 h
  rw [e, nI_clamp (by omega : b < 2 ^ 31)]; exact g
def plI (br : Int32) (K O : Nat → Int32) (who x may : Int32) (n : Nat) : Prop := 0 ≤ x.toInt ∧ x.toInt < 256 ∧ may = f_X11_mayCuts br K O who x ∧ cb x 8 < n
theorem plI_0 {br : Int32} {K O : Nat → Int32} {who x may : Int32} (h : 0 ≤ x.toInt ∧ x.toInt < 256) (e : may = f_X11_mayCuts br K O who x) : plI br K O who x may 9 := ⟨h.1, h.2, e, by have := cb_le x 8; omega⟩
theorem sz_toInt {x : Int32} : (f_X11_size x).toInt = (cb x 8 : Int) := by
  have := cb_le x 8
  rw [size_cb, tI (by omega)]
theorem mcw_L {N : Nat} (hN : N ≤ 8) {K O : Nat → Int32} {w A : Int32} : ∀ (m k : Nat) (x : Int32), N < k + m → k ≤ N → (∀ e, k ≤ e → bt x e = false) → (∀ e, e < k → bt x e = true → bt A e = true) → ∀ e, e < 32 → bt (f_X11_mayCuts_L5 m (nI N) K O w A x (nI k)) e = true → e < N ∧ bt A e = true := by
  intro m
  induction m with
  | zero => intro k x h1 h2; omega
  | succ m ih =>
    intro k x h1 h2 h3 h4 e he
    rw [f_X11_mayCuts_L5_s, nI_1]
    by_cases hk : k = N
    · subst hk
      rw [if_pos (nI_le (Nat.le_refl _) (by omega))]
      intro h
      have : e < k := by
        rcases Nat.lt_or_ge e k with g | g
        · exact g
        · rw [h3 e g] at h; cases h
      exact ⟨this, h4 e this h⟩
    · have hlt : k < N := by omega
      rw [if_neg (nI_ge hlt (by omega))]
      by_cases c : f_X11_mayCut (nI N) K O w (nI k) A = 0
      · rw [if_pos c]
        have ex : x ||| (0 : Int32) = x := by
          apply b_ext
          intro i hi
          rw [b_or, b_0]
          simp
        rw [ex]
        exact ih (k + 1) x (by omega) (by omega) (fun e he => h3 e (by omega)) (fun e2 he2 q => by
          rcases Nat.lt_or_ge e2 k with g | g
          · exact h4 e2 g q
          · rw [h3 e2 g] at q; cases q) e he
      · rw [if_neg c]
        refine ih (k + 1) _ (by omega) (by omega) (fun e2 he2 => by
          rcases Nat.lt_or_ge e2 32 with g | g
          · rw [b_or, h3 e2 (by omega), bt_s1 (by omega) g]
            have : ¬ e2 = k := by omega
            simp [this]
          · exact b_big g) (fun e2 he2 q => ?_) e he
        rw [b_or, bt_s1 (by omega) (by omega)] at q
        by_cases g : e2 = k
        · subst g; exact mayCut_in (by omega) c
        · exact h4 e2 (by omega) (by simpa [g] using q)
theorem mcw {N : Nat} (hN : N ≤ 8) {K O : Nat → Int32} {w A : Int32} {e : Nat} (h : bt (f_X11_mayCuts (nI N) K O w A) e = true) : e < N ∧ bt A e = true := by
  have he : e < 32 := by
    rcases Nat.lt_or_ge e 32 with g | g
    · exact g
    · rw [b_big g] at h; cases h
  exact mcw_L hN 9 0 0 (by omega) (by omega) (fun e _ => b_0 e) (fun e he => by omega) e he h
theorem cb_pos {x : Int32} (h : ∀ e, 8 ≤ e → bt x e = false) (h0 : ¬ x = 0) : 0 < cb x 8 := by
  rcases Nat.eq_zero_or_pos (cb x 8) with g | g
  · exfalso
    apply h0
    have all : ∀ k, k ≤ 8 → ∀ e, e < k → bt x e = false := by
      intro k
      induction k with
      | zero => intro _ e he; omega
      | succ k ih =>
        intro hk e he
        rcases Nat.lt_or_ge e k with q | q
        · exact ih (by omega) e q
        · have : e = k := by omega
          subst this
          cases z : bt x e
          · rfl
          · exfalso
            have m1 : cb x (e + 1) ≤ cb x 8 := by
              have mono : ∀ d, cb x (e + 1) ≤ cb x (e + 1 + d) := by
                intro d
                induction d with
                | zero => exact Nat.le_refl _
                | succ d ihd => exact Nat.le_trans ihd (by rw [← Nat.add_assoc, cb_s]; omega)
              have := mono (8 - (e + 1))
              rw [show e + 1 + (8 - (e + 1)) = 8 by omega] at this
              exact this
            rw [cb_s, z] at m1
            have : (if true = true then 1 else 0) = 1 := rfl
            omega
    apply b_ext
    intro i hi
    rw [b_0]
    rcases Nat.lt_or_ge i 8 with q | q
    · exact all 8 (by omega) i q
    · exact h i q
  · exact g
theorem pl_sz {br : Int32} {K O : Nat → Int32} {who x may : Int32} {n : Nat} (hbr : 0 ≤ br.toInt ∧ br.toInt ≤ 8) (h : plI br K O who x may n) (h0 : ¬ may = 0) : 0 < (f_X11_size may).toInt := by
  obtain ⟨N, hN, rfl⟩ := of_rg (x := br) (N := 9) (by decide) (by omega)
  obtain ⟨h1, h2, rfl, h4⟩ := h
  rw [sz_toInt]
  have := cb_pos (x := f_X11_mayCuts (nI N) K O who x) (fun e he => by
    cases q : bt (f_X11_mayCuts (nI N) K O who x) e
    · rfl
    · have := (mcw (by omega) q).1; omega) h0
  omega
theorem pl_step {br : Int32} {K O : Nat → Int32} {who who2 x x2 may may2 k : Int32} {n : Nat} (hbr : 0 ≤ br.toInt ∧ br.toInt ≤ 8) (h : plI br K O who x may (n + 1)) (hk : 0 ≤ k.toInt ∧ k.toInt < 8) (hb : bt may k.toNatClampNeg = true) (e : x2 = f_X11_leaves br O k x) (e2 : may2 = f_X11_mayCuts br K O who2 x2) : plI br K O who2 x2 may2 n := by
  obtain ⟨N, hN, rfl⟩ := of_rg (x := br) (N := 9) (by decide) (by omega)
  obtain ⟨h1, h2, rfl, h4⟩ := h
  obtain ⟨j, hj, rfl⟩ := of_rg (x := k) (N := 8) (by decide) (by omega)
  obtain ⟨S, hS, rfl⟩ := of_rg (x := x) (N := 256) (by decide) (by omega)
  rw [nI_clamp (by omega : j < 2 ^ 31)] at hb
  have hbS := (mcw (by omega) hb).2
  rw [leaves_LV] at e
  obtain ⟨l1, l2⟩ := LV_nI (N := N) (on := O) (b := j) hS
  rw [l1] at e
  have p := pcn_lv (N := N) (on := O) hj hS hbS
  subst e
  have tl : (nI (lv N O j S)).toInt = (lv N O j S : Int) := tI (by omega)
  refine ⟨by omega, by omega, e2, ?_⟩
  have p2 : cb (nI (lv N O j S)) 8 < cb (nI S) 8 := p
  omega
