/-! pure rows: numbers, masks, the long sums, the quotient -/
theorem pk_us {f : Nat → Int32} {k : Nat} {x : Int32} : upd f k x k = x := if_pos rfl
theorem pk_un {f : Nat → Int32} {k j : Nat} {x : Int32} (h : j ≠ k) : upd f k x j = f j := if_neg h
theorem pk_m1 (n : Nat) : nI (n + 1) + (-1) = nI n := by
  rw [← nI_1, Int32.add_assoc, show (1 : Int32) + (-1) = 0 from rfl, Int32.add_zero]
theorem pk_mul (a b : Nat) : nI a * nI b = nI (a * b) := (Int32.ofNat_mul a b).symm
theorem pk_div {a d : Nat} (ha : a < 2 ^ 31) (h0 : 0 < d) (hd : d < 2 ^ 31) : nI a / nI d = nI (a / d) := by
  apply Int32.toInt_inj.mp
  rw [lg_idiv_nonneg (by rw [nI_toInt ha]; omega) (by rw [nI_toInt hd]; omega), nI_toInt ha, nI_toInt hd, nI_toInt (Nat.lt_of_le_of_lt (Nat.div_le_self a d) ha)]
  first | rfl | exact (Int.natCast_ediv _ _).symm
theorem pk_ix (x : Int32) {n : Nat} (hn : n < 2 ^ 31) : x < 0 ∨ nI n ≤ x ∨ ∃ j : Nat, j < n ∧ x = nI j := by
  by_cases h : x < 0
  · exact Or.inl h
  · obtain ⟨j, hj, rfl⟩ := nI_of h
    by_cases h2 : j < n
    · exact Or.inr (Or.inr ⟨j, h2, rfl⟩)
    · exact Or.inr (Or.inl (nI_le (by omega) hj))
theorem pk_and (x : Int32) {m : Int32} (k : Nat) (hm : m.toBitVec.toNat = 2 ^ k - 1) : x &&& m = nI (x.toBitVec.toNat % 2 ^ k) := by
  apply Int32.toBitVec_inj.mp
  apply BitVec.eq_of_toNat_eq
  rw [Int32.toBitVec_and, BitVec.toNat_and, hm, Nat.and_two_pow_sub_one_eq_mod]
  show _ = (BitVec.ofNat 32 _).toNat
  rw [BitVec.toNat_ofNat]
  exact (Nat.mod_eq_of_lt (Nat.lt_of_le_of_lt (Nat.mod_le _ _) x.toBitVec.isLt)).symm
theorem pk_andE (x : Int32) {m : Int32} (k : Nat) (hm : m.toBitVec.toNat = 2 ^ k - 1) : ∃ j : Nat, j < 2 ^ k ∧ x &&& m = nI j := ⟨_, Nat.mod_lt _ (Nat.two_pow_pos k), pk_and x k hm⟩
theorem pk_shr (a s : Int32) (k : Nat) (hs : (s.toBitVec.smod 32).toNat = k) : (a >>> s).toInt = a.toInt >>> k := by
  show (a.toBitVec.sshiftRight (s.toBitVec.smod 32).toNat).toInt = _
  rw [hs, BitVec.toInt_sshiftRight]
  rfl
theorem pk_shrN {n : Nat} (h : n < 2 ^ 31) (s : Int32) (k : Nat) (hs : (s.toBitVec.smod 32).toNat = k) : nI n >>> s = nI (n / 2 ^ k) := by
  apply Int32.toInt_inj.mp
  have h2 : n / 2 ^ k ≤ n := Nat.div_le_self _ _
  rw [pk_shr _ _ k hs, nI_toInt h, nI_toInt (by omega), Int.shiftRight_eq_div_pow]
  rfl
theorem pt_and7 (x : Int32) : ∃ j : Nat, j < 8 ∧ x &&& 7 = nI j := pk_andE x 3 (by decide)
theorem pt_in7 (x : Int32) : vp_in (x &&& 7) 8 := by
  obtain ⟨j, hj, e⟩ := pt_and7 x
  rw [e]; exact vp_in_nI hj (by omega)
theorem pt_div (x y : Int32) : (x.toInt64 / y.toInt64).toInt32 = x / y := by
  apply Int32.toInt_inj.mp
  rw [Int64.toInt_toInt32, Int64.toInt_div, Int32.toInt_div, Int32.toInt_toInt64, Int32.toInt_toInt64]
  exact Int.bmod_bmod_of_dvd (by decide)
theorem pt_sum (x y m : Int32) : (x.toInt64 + y.toInt64 + m.toInt64).toInt32 = x + y + m := by
  rw [Int64.toInt32_add, Int64.toInt32_add, Int32.toInt32_toInt64, Int32.toInt32_toInt64, Int32.toInt32_toInt64]
theorem pt_dif (x y : Int32) : (x.toInt64 - y.toInt64).toInt32 = x - y := by
  apply Int32.toInt_inj.mp
  rw [Int64.toInt_toInt32, Int64.toInt_sub, Int32.toInt_sub, Int32.toInt_toInt64, Int32.toInt_toInt64]
  exact Int.bmod_bmod_of_dvd (by decide)
theorem pt_cmp (x : Int64) : x ≤ 4294967295 ↔ x < 4294967296 := by
  rw [Int64.le_iff_toInt_le, Int64.lt_iff_toInt_lt, show (4294967295 : Int64).toInt = 4294967295 from by decide, show (4294967296 : Int64).toInt = 4294967296 from by decide]
  omega
theorem pt_64z (x : Int32) : x.toInt64 = 0 ↔ x = 0 := by
  rw [← Int64.toInt_inj, ← Int32.toInt_inj, Int32.toInt_toInt64]
  exact Iff.rfl
theorem pt_d8 {j : Nat} (h : j < 32) : nI j / 8 = nI (j / 8) := pk_div (d := 8) (by omega) (by decide) (by decide)
theorem pt_s3 {j : Nat} (h : j < 32) : nI j >>> ((3 : Int32) &&& 31) = nI (j / 8) := pk_shrN (by omega) _ 3 (by decide)
theorem pt_m8 (p : Nat) : nI p * 8 = nI (8 * p) := by
  rw [show (8 : Int32) = nI 8 from rfl, pk_mul, Nat.mul_comm]
theorem pt_8m (p : Nat) : 8 * nI p = nI (8 * p) := pk_mul 8 p
/-- a condition as a flag -/
noncomputable def pt_b (c : Prop) : Int32 := @ite _ c (Classical.propDecidable c) 1 0
theorem pt_bt {c : Prop} (h : c) : pt_b c = 1 := if_pos h
theorem pt_bf {c : Prop} (h : ¬ c) : pt_b c = 0 := if_neg h
theorem pt_bi {c d : Prop} (h : c ↔ d) : pt_b c = pt_b d := by rw [propext h]
/-- the numbers that both sides keep: pages, cells, instructions, rights, ops -/
def pt_I (pg cc cn : Int32) (rt op : Nat → Int32) : Prop := ∃ p n : Nat, 1 ≤ p ∧ p ≤ 4 ∧ pg = nI p ∧ cc = nI (8 * p) ∧ n ≤ 40 ∧ cn = nI n ∧ (∀ j, ∃ r : Nat, r ≤ 2 ∧ rt j = nI r) ∧ (∀ j, ∃ o : Nat, o ≤ 12 ∧ op j = nI o)
theorem pt_updI {m : Nat} {f : Nat → Int32} {k : Nat} {x : Int32} (h : ∀ j, ∃ r : Nat, r ≤ m ∧ f j = nI r) (hx : ∃ r : Nat, r ≤ m ∧ x = nI r) : ∀ j, ∃ r : Nat, r ≤ m ∧ upd f k x j = nI r := by
  intro j
  by_cases e : j = k
  · subst e; rw [pk_us]; exact hx
  · rw [pk_un e]; exact h j
