/-! the class's charts: bits of longs, places, choices -/
def lb (x : Int64) (i : Nat) : Bool := x.toBitVec.getLsbD i
theorem lb_or (x y : Int64) (i : Nat) : lb (x ||| y) i = (lb x i || lb y i) := by unfold lb; rw [Int64.toBitVec_or, BitVec.getLsbD_or]
theorem lb_and (x y : Int64) (i : Nat) : lb (x &&& y) i = (lb x i && lb y i) := by unfold lb; rw [Int64.toBitVec_and, BitVec.getLsbD_and]
theorem lb_xor (x y : Int64) (i : Nat) : lb (x ^^^ y) i = (lb x i ^^ lb y i) := by unfold lb; rw [Int64.toBitVec_xor, BitVec.getLsbD_xor]
theorem lb_m1 : ∀ i, i < 64 → lb (-1) i = true := by decide +kernel
theorem lb_0 (i : Nat) : lb 0 i = false := BitVec.getLsbD_zero
theorem lb_not (x : Int64) {i : Nat} (hi : i < 64) : lb (x ^^^ (-1 : Int64)) i = !lb x i := by
  rw [lb_xor, lb_m1 i hi]
  cases lb x i <;> rfl
theorem lb_ext {x y : Int64} (h : ∀ i, i < 64 → lb x i = lb y i) : x = y := Int64.toBitVec_inj.mp (BitVec.eq_of_getLsbD_eq (fun i hi => h i hi))
theorem place_nI (w S : Nat) : f_X10_place (nI w) (nI S) = nI (w * 256 + S) := by
  unfold f_X10_place
  show nI w * nI 256 + nI S = _
  rw [pk_mul, nI_add]
theorem place_ix {w S : Nat} (hw : w ≤ 1) (hS : S < 256) : (f_X10_place (nI w) (nI S)).toNatClampNeg = w * 256 + S := by
  rw [place_nI, nI_clamp (by omega)]
theorem one_sub {w : Nat} (hw : w ≤ 1) : (1 : Int32) - nI w = nI (1 - w) := pk_sub (a := 1) hw
/-- the hedge with one branch of another kind; 40: as it is -/
def Ki (K : Nat → Int32) (i : Nat) : Nat → Int32 := fun b => if i < 40 ∧ i / 5 = b then nI (i % 5) else K b
theorem Ki_40 (K : Nat → Int32) : Ki K 40 = K := funext (fun b => if_neg (fun h => absurd h.1 (by decide)))
theorem Ki_isK {K : Nat → Int32} {i b : Nat} (h : isK (K b)) : isK (Ki K i b) := by
  unfold Ki
  split
  · have : i % 5 = 0 ∨ i % 5 = 1 ∨ i % 5 = 2 ∨ i % 5 = 3 ∨ i % 5 = 4 := by omega
    rcases this with e | e | e | e | e <;> rw [e]
    · exact Or.inl rfl
    · exact Or.inr (Or.inl rfl)
    · exact Or.inr (Or.inr (Or.inl rfl))
    · exact Or.inr (Or.inr (Or.inr (Or.inl rfl)))
    · exact Or.inr (Or.inr (Or.inr (Or.inr rfl)))
  · exact h
def hw0 (kc kb : Int32) (b : Int32) : Int64 :=
  if ((kc >>> (kb &&& 31)) &&& (1 : Int32)) = 0 then
    (kc.toInt64 <<< (((5 : Int32) * b).toInt64 &&& 63))
  else
    ((kc.toInt64 <<< (((5 : Int32) * b).toInt64 &&& 63)) ||| ((2199023255551 : Int64) &&& (((31 : Int64) <<< (((5 : Int32) * b).toInt64 &&& 63)) ^^^ (-1 : Int64))))
theorem hwc_hw0 {abv K : Nat → Int32} {who b s : Int32} : f_X4_hedgesWithCut abv K who b s = hw0 (f_X6_kindsCutBy abv who b s) (K b.toNatClampNeg) b := rfl
set_option maxRecDepth 100000 in
theorem hw0_3 : ∀ kb, kb < 5 → ∀ b, b < 8 → ∀ i, i < 41 → lb (hw0 3 (nI kb) (nI b)) i = bt 3 (if i < 40 ∧ i / 5 = b then i % 5 else kb) := by decide +kernel
set_option maxRecDepth 100000 in
theorem hw0_5 : ∀ kb, kb < 5 → ∀ b, b < 8 → ∀ i, i < 41 → lb (hw0 5 (nI kb) (nI b)) i = bt 5 (if i < 40 ∧ i / 5 = b then i % 5 else kb) := by decide +kernel
set_option maxRecDepth 100000 in
theorem hw0_19 : ∀ kb, kb < 5 → ∀ b, b < 8 → ∀ i, i < 41 → lb (hw0 19 (nI kb) (nI b)) i = bt 19 (if i < 40 ∧ i / 5 = b then i % 5 else kb) := by decide +kernel
theorem isK_nI {k : Int32} (h : isK k) : ∃ j, j < 5 ∧ k = nI j := by
  rcases h with e | e | e | e | e
  · exact ⟨0, by omega, e⟩
  · exact ⟨1, by omega, e⟩
  · exact ⟨2, by omega, e⟩
  · exact ⟨3, by omega, e⟩
  · exact ⟨4, by omega, e⟩
theorem KC_3 (N : Nat) (on : Nat → Int32) (who : Int32) (b : Nat) (s : Int32) : KC N on who b s = 3 ∨ KC N on who b s = 5 ∨ KC N on who b s = 19 := by
  unfold KC
  split
  · exact Or.inr (Or.inl rfl)
  · split
    · exact Or.inr (Or.inr rfl)
    · exact Or.inl rfl
theorem hwc_bt {N : Nat} {on abv K : Nat → Int32} {b : Nat} (hb : b < 8) (ha : abv b = AB N on b) (hk : isK (K b)) {who s : Int32} {i : Nat} (hi : i < 41) :
    lb (f_X4_hedgesWithCut abv K who (nI b) s) i = bt (KC N on who b s) (Ki K i b).toNatClampNeg := by
  obtain ⟨j, hj, e⟩ := isK_nI hk
  have e2 : (Ki K i b).toNatClampNeg = if i < 40 ∧ i / 5 = b then i % 5 else j := by
    unfold Ki
    split
    · rw [nI_clamp (by omega)]
    · rw [e, nI_clamp (by omega)]
  rw [hwc_hw0, kcb_KC hb ha, nI_clamp (by omega : b < 2 ^ 31), e, e2]
  rcases KC_3 N on who b s with q | q | q <;> rw [q]
  · exact hw0_3 j hj b hb i hi
  · exact hw0_5 j hj b hb i hi
  · exact hw0_19 j hj b hb i hi
/-- may a side cut it, of the kinds K -/
def gC (N : Nat) (K on : Nat → Int32) (w b S : Nat) : Prop := bt (nI S) b = true ∧ bt (KC N on (nI w) b (nI S)) (K b).toNatClampNeg = true
theorem nI_01 {w : Nat} (hw : w ≤ 1) : nI w = 0 ∨ nI w = 1 := by
  rcases (show w = 0 ∨ w = 1 by omega) with e | e
  · subst e; exact Or.inl rfl
  · subst e; exact Or.inr rfl
theorem mC_gC {N : Nat} (hN : N ≤ 8) {on K : Nat → Int32} (ho : hOn N on) {w b S : Nat} (hb : b < N) (hk : isK (K b)) (hw : w ≤ 1) (hs : stds N on (nI S)) : mC N K on w b S ↔ gC N K on w b S := by
  unfold mC gC
  rw [mayCut_0 hN ho hb hk (nI_01 hw) hs]
  exact Classical.not_not
theorem ch_L {N : Nat} (hN : N ≤ 8) {on abv K : Nat → Int32} (ha : ∀ b, b < N → abv b = AB N on b) (hk : ∀ b, b < N → isK (K b)) {w S : Nat} :
    ∀ (m k : Nat) (x3 : Int32), N < k + m → k ≤ N → (∀ e, k ≤ e → bt x3 e = false) →
      ∀ e, e < 32 → (bt (f_X6_choices_L5 m (nI N) abv K (nI w) (nI S) x3 (nI k)) e = true ↔ (bt x3 e = true ∨ (k ≤ e ∧ e < N ∧ gC N K on w e S))) := by
  intro m
  induction m with
  | zero => intro k x3 h1 h2; omega
  | succ m ih =>
    intro k x3 h1 h2 h3 e he
    rw [f_X6_choices_L5_s, nI_1]
    by_cases hkN : k = N
    · subst hkN
      rw [if_pos (nI_le (Nat.le_refl _) (by omega))]
      exact ⟨Or.inl, fun h => h.elim id (fun ⟨g1, g2, _⟩ => by omega)⟩
    · have hlt : k < N := by omega
      rw [if_neg (nI_ge hlt (by omega)), kcb_KC (by omega) (ha k hlt), nI_clamp (by omega : k < 2 ^ 31)]
      have skip : ¬ gC N K on w k S → (bt (f_X6_choices_L5 m (nI N) abv K (nI w) (nI S) x3 (nI (k + 1))) e = true ↔ (bt x3 e = true ∨ (k ≤ e ∧ e < N ∧ gC N K on w e S))) := by
        intro ng
        rw [ih (k + 1) x3 (by omega) (by omega) (fun e he => h3 e (by omega)) e he]
        constructor
        · rintro (h | ⟨g1, g2⟩)
          · exact Or.inl h
          · exact Or.inr ⟨by omega, g2⟩
        · rintro (h | ⟨g1, g2, g3⟩)
          · exact Or.inl h
          · rcases Nat.eq_or_lt_of_le g1 with q | q
            · subst q; exact absurd g3 ng
            · exact Or.inr ⟨q, g2, g3⟩
      by_cases c1 : bt (nI S) k = true
      · rw [if_neg (by rw [bit_ne _ (by omega), c1]; decide)]
        obtain ⟨j, hj, ej⟩ := isK_nI (hk k hlt)
        rw [ej]
        by_cases c2 : bt (KC N on (nI w) k (nI S)) j = true
        · rw [if_neg (by rw [bit_ne _ (by omega), c2]; decide)]
          have hg : gC N K on w k S := ⟨c1, by rw [ej, nI_clamp (by omega)]; exact c2⟩
          rw [ih (k + 1) _ (by omega) (by omega) (fun e2 he2 => by
            rcases Nat.lt_or_ge e2 32 with g | g
            · rw [b_or, h3 e2 (by omega), bt_s1 (by omega) g]
              have : ¬ e2 = k := by omega
              simp [this]
            · exact b_big g) e he]
          rw [b_or, bt_s1 (by omega) he]
          constructor
          · rintro (h | ⟨g1, g2⟩)
            · by_cases q : e = k
              · subst q; exact Or.inr ⟨Nat.le_refl _, hlt, hg⟩
              · simp [q] at h; exact Or.inl h
            · exact Or.inr ⟨by omega, g2⟩
          · rintro (h | ⟨g1, g2, g3⟩)
            · left; rw [h]; rfl
            · rcases Nat.eq_or_lt_of_le g1 with q | q
              · subst q; left; simp
              · exact Or.inr ⟨q, g2, g3⟩
        · rw [if_pos ((bit_ne _ (by omega)).mpr (by simpa using c2))]
          exact skip (fun h => c2 (by have := h.2; rw [ej, nI_clamp (by omega)] at this; exact this))
      · rw [if_pos ((bit_ne _ (by omega)).mpr (by simpa using c1))]
        exact skip (fun h => c1 h.1)
theorem ch_bt {N : Nat} (hN : N ≤ 8) {on abv K : Nat → Int32} (ha : ∀ b, b < N → abv b = AB N on b) (hk : ∀ b, b < N → isK (K b)) {w S : Nat} {e : Nat} (he : e < 32) : bt (f_X6_choices (nI N) abv K (nI w) (nI S)) e = true ↔ (e < N ∧ gC N K on w e S) := by
  have h := ch_L hN ha hk (w := w) (S := S) 9 0 0 (by omega) (by omega) (fun e _ => b_0 e) e he
  rw [b_0] at h
  refine h.trans ⟨fun q => ?_, fun q => Or.inr ⟨by omega, q⟩⟩
  rcases q with q | q
  · cases q
  · exact q.2
theorem ch_bit {N : Nat} (hN : N ≤ 8) {on abv K : Nat → Int32} (ha : ∀ b, b < N → abv b = AB N on b) (hk : ∀ b, b < N → isK (K b)) {w S b : Nat} (hb : b < N) : ((f_X6_choices (nI N) abv K (nI w) (nI S) >>> (nI b &&& 31)) &&& (1 : Int32)) = 0 ↔ ¬ gC N K on w b S := by
  rw [bit_ne _ (by omega)]
  have h := ch_bt hN ha hk (w := w) (S := S) (e := b) (by omega)
  constructor
  · intro q g
    rw [h.mpr ⟨hb, g⟩] at q
    cases q
  · intro q
    cases hh : bt (f_X6_choices (nI N) abv K (nI w) (nI S)) b with
    | false => rfl
    | true => exact absurd (h.mp hh).2 q
