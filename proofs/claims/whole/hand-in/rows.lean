section
/-! pure rows: numbers, masks, the long sums, the quotient -/
theorem pk_us {f : Nat → Int32} {k : Nat} {x : Int32} : upd f k x k = x := if_pos rfl
theorem pk_un {f : Nat → Int32} {k j : Nat} {x : Int32} (h : j ≠ k) : upd f k x j = f j := if_neg h
theorem pk_m1 (n : Nat) : nI (n + 1) + (-1) = nI n := by
  rw [← nI_1, Int32.add_assoc, show (1 : Int32) + (-1) = 0 from rfl, Int32.add_zero]
theorem pk_mul (a b : Nat) : nI a * nI b = nI (a * b) := (Int32.ofNat_mul a b).symm
theorem pk_div {a d : Nat} (ha : a < 2 ^ 31) (h0 : 0 < d) (hd : d < 2 ^ 31) : nI a / nI d = nI (a / d) := by
  apply Int32.toInt_inj.mp
  rw [lg_idiv_nonneg (by rw [nI_toInt ha]; omega) (by rw [nI_toInt hd]; omega), nI_toInt ha, nI_toInt hd, nI_toInt (Nat.lt_of_le_of_lt (Nat.div_le_self a d) ha)]
  first | rfl | exact (Int.natCast_ediv _ _).symm
theorem pk_ix (x : Int32) {n : Nat} (hn : n < 2 ^ 31) : x < 0 ∨ nI n ≤ x ∨ ∃ j : Nat, j < n ∧ x = nI j := by
  by_cases h : x < 0
  · exact Or.inl h
  · obtain ⟨j, hj, rfl⟩ := nI_of h
    by_cases h2 : j < n
    · exact Or.inr (Or.inr ⟨j, h2, rfl⟩)
    · exact Or.inr (Or.inl (nI_le (by omega) hj))
theorem pk_and (x : Int32) {m : Int32} (k : Nat) (hm : m.toBitVec.toNat = 2 ^ k - 1) : x &&& m = nI (x.toBitVec.toNat % 2 ^ k) := by
  apply Int32.toBitVec_inj.mp
  apply BitVec.eq_of_toNat_eq
  rw [Int32.toBitVec_and, BitVec.toNat_and, hm, Nat.and_two_pow_sub_one_eq_mod]
  show _ = (BitVec.ofNat 32 _).toNat
  rw [BitVec.toNat_ofNat]
  exact (Nat.mod_eq_of_lt (Nat.lt_of_le_of_lt (Nat.mod_le _ _) x.toBitVec.isLt)).symm
theorem pk_andE (x : Int32) {m : Int32} (k : Nat) (hm : m.toBitVec.toNat = 2 ^ k - 1) : ∃ j : Nat, j < 2 ^ k ∧ x &&& m = nI j := ⟨_, Nat.mod_lt _ (Nat.two_pow_pos k), pk_and x k hm⟩
theorem pk_shr (a s : Int32) (k : Nat) (hs : (s.toBitVec.smod 32).toNat = k) : (a >>> s).toInt = a.toInt >>> k := by
  show (a.toBitVec.sshiftRight (s.toBitVec.smod 32).toNat).toInt = _
  rw [hs, BitVec.toInt_sshiftRight]
  rfl
theorem pk_shrN {n : Nat} (h : n < 2 ^ 31) (s : Int32) (k : Nat) (hs : (s.toBitVec.smod 32).toNat = k) : nI n >>> s = nI (n / 2 ^ k) := by
  apply Int32.toInt_inj.mp
  have h2 : n / 2 ^ k ≤ n := Nat.div_le_self _ _
  rw [pk_shr _ _ k hs, nI_toInt h, nI_toInt (by omega), Int.shiftRight_eq_div_pow]
  rfl
theorem pt_and7 (x : Int32) : ∃ j : Nat, j < 8 ∧ x &&& 7 = nI j := pk_andE x 3 (by decide)
theorem pt_in7 (x : Int32) : vp_in (x &&& 7) 8 := by
  obtain ⟨j, hj, e⟩ := pt_and7 x
  rw [e]; exact vp_in_nI hj (by omega)
theorem pt_div (x y : Int32) : (x.toInt64 / y.toInt64).toInt32 = x / y := by
  apply Int32.toInt_inj.mp
  rw [Int64.toInt_toInt32, Int64.toInt_div, Int32.toInt_div, Int32.toInt_toInt64, Int32.toInt_toInt64]
  exact Int.bmod_bmod_of_dvd (by decide)
theorem pt_sum (x y m : Int32) : (x.toInt64 + y.toInt64 + m.toInt64).toInt32 = x + y + m := by
  rw [Int64.toInt32_add, Int64.toInt32_add, Int32.toInt32_toInt64, Int32.toInt32_toInt64, Int32.toInt32_toInt64]
theorem pt_dif (x y : Int32) : (x.toInt64 - y.toInt64).toInt32 = x - y := by
  apply Int32.toInt_inj.mp
  rw [Int64.toInt_toInt32, Int64.toInt_sub, Int32.toInt_sub, Int32.toInt_toInt64, Int32.toInt_toInt64]
  exact Int.bmod_bmod_of_dvd (by decide)
theorem pt_cmp (x : Int64) : x ≤ 4294967295 ↔ x < 4294967296 := by
  rw [Int64.le_iff_toInt_le, Int64.lt_iff_toInt_lt, show (4294967295 : Int64).toInt = 4294967295 from by decide, show (4294967296 : Int64).toInt = 4294967296 from by decide]
  omega
theorem pt_64z (x : Int32) : x.toInt64 = 0 ↔ x = 0 := by
  rw [← Int64.toInt_inj, ← Int32.toInt_inj, Int32.toInt_toInt64]
  exact Iff.rfl
theorem pt_d8 {j : Nat} (h : j < 32) : nI j / 8 = nI (j / 8) := pk_div (d := 8) (by omega) (by decide) (by decide)
theorem pt_s3 {j : Nat} (h : j < 32) : nI j >>> ((3 : Int32) &&& 31) = nI (j / 8) := pk_shrN (by omega) _ 3 (by decide)
theorem pt_m8 (p : Nat) : nI p * 8 = nI (8 * p) := by
  rw [show (8 : Int32) = nI 8 from rfl, pk_mul, Nat.mul_comm]
theorem pt_8m (p : Nat) : 8 * nI p = nI (8 * p) := pk_mul 8 p
/-- a condition as a flag -/
noncomputable def pt_b (c : Prop) : Int32 := @ite _ c (Classical.propDecidable c) 1 0
theorem pt_bt {c : Prop} (h : c) : pt_b c = 1 := if_pos h
theorem pt_bf {c : Prop} (h : ¬ c) : pt_b c = 0 := if_neg h
theorem pt_bi {c d : Prop} (h : c ↔ d) : pt_b c = pt_b d := by rw [propext h]
/-- the numbers that both sides keep: pages, cells, instructions, rights, ops -/
def pt_I (pg cc cn : Int32) (rt op : Nat → Int32) : Prop := ∃ p n : Nat, 1 ≤ p ∧ p ≤ 4 ∧ pg = nI p ∧ cc = nI (8 * p) ∧ n ≤ 40 ∧ cn = nI n ∧ (∀ j, ∃ r : Nat, r ≤ 2 ∧ rt j = nI r) ∧ (∀ j, ∃ o : Nat, o ≤ 12 ∧ op j = nI o)
theorem pt_updI {m : Nat} {f : Nat → Int32} {k : Nat} {x : Int32} (h : ∀ j, ∃ r : Nat, r ≤ m ∧ f j = nI r) (hx : ∃ r : Nat, r ≤ m ∧ x = nI r) : ∀ j, ∃ r : Nat, r ≤ m ∧ upd f k x j = nI r := by
  intro j
  by_cases e : j = k
  · subst e; rw [pk_us]; exact hx
  · rw [pk_un e]; exact h j
end
section
/-! the relation, and the methods that don't run -/
/-- both sides hold the same numbers; pages, instructions, rights and ops are within their bounds -/
def i_Rel (_ : Nat) (u : SX) (v : SY) : Prop := ∃ (qp qc qn qz qg qy qv qk qt qw : Int32) (rr rc rp ro ra rb rd : Nat → Int32), u = (qp, qc, qn, qz, qg, qy, qv, qk, qt, qw, rr, rc, rp, ro, ra, rb, rd) ∧ v = (qp, qn, qz, qg, qy, qv, qk, qt, qw, rp, ro, ra, rb, rd, rr, rc) ∧ pt_I qp qc qn rp ro
theorem i_up {k : Nat} {u : SX} {v : SY} (h : i_Rel k u v) : i_Rel (k + 5) u v := h
section
variable {qp qc qn qz qg qy qv qk qt qw : Int32} {rr rc rp ro ra rb rd : Nat → Int32}
theorem pt_mk {k : Nat} (h : pt_I qp qc qn rp ro) : i_Rel k (qp, qc, qn, qz, qg, qy, qv, qk, qt, qw, rr, rc, rp, ro, ra, rb, rd) (qp, qn, qz, qg, qy, qv, qk, qt, qw, rp, ro, ra, rb, rd, rr, rc) := ⟨_, _, _, _, _, _, _, _, _, _, _, _, _, _, _, _, _, rfl, rfl, h⟩
end
/-- the four pages' rights as both constructors write them -/
def pt_r4 (r : Int32) : Nat → Int32 := upd (upd (upd (upd (fun _ => 0) (0 : Int32).toNatClampNeg r) (1 : Int32).toNatClampNeg r) (2 : Int32).toNatClampNeg r) (3 : Int32).toNatClampNeg r
theorem pt_r4I {r : Int32} (h : ∃ q : Nat, q ≤ 2 ∧ r = nI q) : ∀ j, ∃ q : Nat, q ≤ 2 ∧ pt_r4 r j = nI q :=
  pt_updI (pt_updI (pt_updI (pt_updI (fun _ => ⟨0, by omega, rfl⟩) h) h) h) h
theorem pt_v4 : vp_in 0 4 ∧ vp_in 1 4 ∧ vp_in 2 4 ∧ vp_in 3 4 := ⟨vp_in_nI (n := 0) (by omega) (by omega), vp_in_nI (n := 1) (by omega) (by omega), vp_in_nI (n := 2) (by omega) (by omega), vp_in_nI (n := 3) (by omega) (by omega)⟩
theorem px_init {post : SX → Prop} {r a b : Int32} (h : post (a, b, 0, 0, 0, 0, 0, 0, 0, 0, (fun _ => 0), (fun _ => 0), pt_r4 r, (fun _ => 0), (fun _ => 0), (fun _ => 0), (fun _ => 0))) : wX_init_90 post r a b 0 0 0 0 0 0 0 0 (0 + 1 + 1 + 1 + 1 + 1) 0 (fun _ => 0) (fun _ => 0) (fun _ => 0) (fun _ => 0) (fun _ => 0) (fun _ => 0) (fun _ => 0) :=
  br_f (by decide) ⟨pt_v4.1, nm_e (nm_r (e' := 1) rfl (br_f (by decide) ⟨pt_v4.2.1, nm_e (nm_r (e' := 2) rfl (br_f (by decide) ⟨pt_v4.2.2.1, nm_e (nm_r (e' := 3) rfl (br_f (by decide) ⟨pt_v4.2.2.2, nm_e (nm_r (e' := 4) rfl (br_t (by decide) h))⟩))⟩))⟩))⟩
theorem py_init {post : SY → Prop} {r q a : Int32} (hr : ∀ P : Int32 → Prop, P r → ((0 ≤ q → ((q ≤ 2 → P q) ∧ (¬ q ≤ 2 → P 2))) ∧ (¬ 0 ≤ q → P 0))) (h : post (a, 0, 0, 0, 0, 0, 0, 0, 0, pt_r4 r, (fun _ => 0), (fun _ => 0), (fun _ => 0), (fun _ => 0), (fun _ => 0), (fun _ => 0))) : wY_init_84 post q a 0 0 0 0 0 0 0 0 (0 + 1 + 1 + 1 + 1 + 1) 0 (fun _ => 0) (fun _ => 0) (fun _ => 0) (fun _ => 0) (fun _ => 0) (fun _ => 0) (fun _ => 0) := by
  have s3 : ∀ y : Int32, y = r → wY_init_84 post q a 0 0 0 0 0 0 0 0 (0 + 1 + 1) 3 (upd (upd (upd (fun _ => 0) (0 : Int32).toNatClampNeg r) (1 : Int32).toNatClampNeg r) (2 : Int32).toNatClampNeg r) (fun _ => 0) (fun _ => 0) (fun _ => 0) (fun _ => 0) (fun _ => 0) (fun _ => 0) := by
    intro y ey
    refine br_f (by decide) (hr (fun y => vp_in 3 4 ∧ ∀ b : Nat → Int32, b = upd _ _ y → ∀ x : Int32, x = 3 + 1 → wY_init_84 post q a 0 0 0 0 0 0 0 0 (0 + 1) x b _ _ _ _ _ _) ?_)
    exact ⟨pt_v4.2.2.2, nm_e (nm_r (e' := 4) rfl (br_t (by decide) h))⟩
  have s2 : wY_init_84 post q a 0 0 0 0 0 0 0 0 (0 + 1 + 1 + 1) 2 (upd (upd (fun _ => 0) (0 : Int32).toNatClampNeg r) (1 : Int32).toNatClampNeg r) (fun _ => 0) (fun _ => 0) (fun _ => 0) (fun _ => 0) (fun _ => 0) (fun _ => 0) := by
    refine br_f (by decide) (hr (fun y => vp_in 2 4 ∧ ∀ b : Nat → Int32, b = upd _ _ y → ∀ x : Int32, x = 2 + 1 → wY_init_84 post q a 0 0 0 0 0 0 0 0 (0 + 1 + 1) x b _ _ _ _ _ _) ?_)
    exact ⟨pt_v4.2.2.1, nm_e (nm_r (e' := 3) rfl (s3 r rfl))⟩
  have s1 : wY_init_84 post q a 0 0 0 0 0 0 0 0 (0 + 1 + 1 + 1 + 1) 1 (upd (fun _ => 0) (0 : Int32).toNatClampNeg r) (fun _ => 0) (fun _ => 0) (fun _ => 0) (fun _ => 0) (fun _ => 0) (fun _ => 0) := by
    refine br_f (by decide) (hr (fun y => vp_in 1 4 ∧ ∀ b : Nat → Int32, b = upd _ _ y → ∀ x : Int32, x = 1 + 1 → wY_init_84 post q a 0 0 0 0 0 0 0 0 (0 + 1 + 1 + 1) x b _ _ _ _ _ _) ?_)
    exact ⟨pt_v4.2.1, nm_e (nm_r (e' := 2) rfl s2)⟩
  refine br_f (by decide) (hr (fun y => vp_in 0 4 ∧ ∀ b : Nat → Int32, b = upd _ _ y → ∀ x : Int32, x = 0 + 1 → wY_init_84 post q a 0 0 0 0 0 0 0 0 (0 + 1 + 1 + 1 + 1) x b _ _ _ _ _ _) ?_)
  exact ⟨pt_v4.1, nm_e (nm_r (e' := 1) rfl s1)⟩
theorem pt_clP {post : Int32 → Prop} {x a b r : Int32} (hr : (a ≤ x ∧ x ≤ b ∧ r = x) ∨ (a ≤ x ∧ ¬ x ≤ b ∧ r = b) ∨ (¬ a ≤ x ∧ r = a)) (h : post r) : ((a ≤ x → ((x ≤ b → post x) ∧ (¬ x ≤ b → post b))) ∧ (¬ a ≤ x → post a)) := by
  rcases hr with ⟨h1, h2, rfl⟩ | ⟨h1, h2, rfl⟩ | ⟨h1, rfl⟩
  · exact br_t h1 (br_t h2 h)
  · exact br_t h1 (br_f h2 h)
  · exact br_f h1 h
theorem px_clamp {post : Int32 → Prop} {x a b r : Int32} (hr : (a ≤ x ∧ x ≤ b ∧ r = x) ∨ (a ≤ x ∧ ¬ x ≤ b ∧ r = b) ∨ (¬ a ≤ x ∧ r = a)) (h : post r) : wpX_clamp post x a b := pt_clP hr h
theorem pt_cl (x : Int32) {a b : Nat} (hab : a ≤ b) (hb : b < 2 ^ 31) : ∃ q : Nat, a ≤ q ∧ q ≤ b ∧ ((nI a ≤ x ∧ x ≤ nI b ∧ nI q = x) ∨ (nI a ≤ x ∧ ¬ x ≤ nI b ∧ nI q = nI b) ∨ (¬ nI a ≤ x ∧ nI q = nI a)) := by
  by_cases h1 : nI a ≤ x
  · by_cases h2 : x ≤ nI b
    · have hx : ¬ x < 0 := by
        have := nI_pos' (n := a) (by omega)
        exact Int32.not_lt.mpr (Int32.le_trans this h1)
      obtain ⟨j, hj, rfl⟩ := nI_of hx
      rw [nI_leI (by omega) hj] at h1
      rw [nI_leI hj hb] at h2
      exact ⟨j, h1, h2, Or.inl ⟨nI_le h1 hj, nI_le h2 hb, rfl⟩⟩
    · exact ⟨b, hab, Nat.le_refl b, Or.inr (Or.inl ⟨h1, h2, rfl⟩)⟩
  · exact ⟨a, Nat.le_refl a, hab, Or.inr (Or.inr ⟨h1, rfl⟩)⟩
theorem i_vc0 (k0 : Int32) (k1 : Int32) : wpX_init (fun u => wpY_init (fun v => i_Rel 2 u v) k0 k1) k0 k1 := by
  obtain ⟨p, hp1, hp4, hp⟩ := pt_cl k0 (a := 1) (b := 4) (by omega) (by omega)
  obtain ⟨r, hr0, hr2, hr⟩ := pt_cl k1 (a := 0) (b := 2) (by omega) (by omega)
  unfold wpX_init
  refine px_clamp hp (nm_r (pt_m8 p) (px_clamp hr ⟨_, px_init ?_⟩))
  refine pt_clP (post := fun g => ∃ n84 : Nat, wY_init_84 _ k1 g 0 0 0 0 0 0 0 0 n84 0 _ _ _ _ _ _ _) hp ⟨_, py_init (r := nI r) (fun P hP => pt_clP hr hP) ?_⟩
  exact pt_mk ⟨p, 0, hp1, hp4, rfl, rfl, by omega, rfl, pt_r4I ⟨r, hr2, rfl⟩, fun _ => ⟨0, by omega, rfl⟩⟩
theorem i_vc_emit {k : Nat} {u : SX} {v : SY} (I : i_Rel k u v) (hk : k + 5 ≤ 2562) (v1 : Int32) (v2 : Int32) (v3 : Int32) (v4 : Int32) : wpX_emit (fun r u' => wpY_emit (fun r' v' => r' = r ∧ i_Rel (k + 5) u' v') v v1 v2 v3 v4) u v1 v2 v3 v4 := by
  obtain ⟨qp, qc, qn, qz, qg, qy, qv, qk, qt, qw, rr, rc, rp, ro, ra, rb, rd, rfl, rfl, hI⟩ := I
  obtain ⟨p, n, hp1, hp4, rfl, rfl, hn, rfl, hrt, hop⟩ := id hI
  refine br_c (fun h0 => br_t h0 ⟨rfl, pt_mk hI⟩) (fun h0 => br_c (fun h12 => ?_) (fun h12 => br_f h0 (br_f h12 ⟨rfl, pt_mk hI⟩)))
  by_cases e : n = 40
  · subst e
    exact br_f (nI_nlt (b := 40) (by omega) (by omega)) (br_f h0 (br_t h12 (br_t rfl ⟨rfl, pt_mk hI⟩)))
  · have hi : vp_in (nI n) 40 := vp_in_nI (by omega) (by omega)
    have ne : ¬ nI n = 40 := fun z => e ((nI_eq (b := 40) (by omega) (by omega)).mp z)
    refine br_t (nI_lt (b := 40) (by omega) (by omega)) ⟨hi, nm_e ⟨hi, nm_e ⟨hi, nm_e ⟨hi, nm_e (nm_r (nI_1 n) ?_)⟩⟩⟩⟩
    refine br_f h0 (br_t h12 (br_f ne ⟨hi, nm_e ⟨hi, nm_e ⟨hi, nm_e ⟨hi, nm_e (nm_r (nI_1 n) ?_)⟩⟩⟩⟩))
    refine ⟨nI_pred n, pt_mk ⟨p, n + 1, hp1, hp4, rfl, rfl, by omega, rfl, hrt, pt_updI hop ?_⟩⟩
    exact (nI_of2 (M := 12) (n := 12) (by decide) h0 h12)
theorem i_vc_drop {k : Nat} {u : SX} {v : SY} (I : i_Rel k u v) (hk : k + 5 ≤ 2562) : wpX_drop (fun r u' => wpY_drop (fun r' v' => r' = r ∧ i_Rel (k + 5) u' v') v) u := by
  obtain ⟨qp, qc, qn, qz, qg, qy, qv, qk, qt, qw, rr, rc, rp, ro, ra, rb, rd, rfl, rfl, hI⟩ := I
  obtain ⟨p, n, hp1, hp4, rfl, rfl, hn, rfl, hrt, hop⟩ := id hI
  cases n with
  | zero => exact br_f (by decide) (br_t rfl ⟨rfl, pt_mk hI⟩)
  | succ n =>
    refine br_t (nI_lt (a := 0) (by omega) (by omega)) (nm_r (nI_pred n) (br_f (nI_ne0 (by omega) (by omega)) (nm_r (nI_pred n) ⟨rfl, pt_mk ?_⟩)))
    exact ⟨p, n, hp1, hp4, rfl, rfl, by omega, rfl, hrt, hop⟩
theorem pt_le7 {x : Int32} : x ≤ 7 ↔ ¬ 8 ≤ x := by
  rw [Int32.le_iff_toInt_le, Int32.le_iff_toInt_le, show (7 : Int32).toInt = 7 from by decide, show (8 : Int32).toInt = 8 from by decide]
  omega
theorem pt_in8 {x : Int32} (h0 : ¬ x < 0) (h8 : ¬ 8 ≤ x) : vp_in x 8 := by
  obtain ⟨j, hj, rfl⟩ := nI_of h0
  have : j < 8 := Nat.lt_of_not_le (fun z => h8 (nI_le (a := 8) z hj))
  exact vp_in_nI this (by omega)
theorem i_vc_setReg {k : Nat} {u : SX} {v : SY} (I : i_Rel k u v) (hk : k + 5 ≤ 2562) (v1 : Int32) (v2 : Int32) : wpX_setReg (fun r u' => wpY_setReg (fun r' v' => r' = r ∧ i_Rel (k + 5) u' v') v v1 v2) u v1 v2 := by
  obtain ⟨qp, qc, qn, qz, qg, qy, qv, qk, qt, qw, rr, rc, rp, ro, ra, rb, rd, rfl, rfl, hI⟩ := I
  unfold wpX_setReg
  dsimp only
  refine br_c (fun h0 => br_t rfl (br_t h0 ⟨rfl, pt_mk hI⟩)) (fun h0 => br_c (fun h8 => br_t rfl (br_f h0 (br_f (fun z => pt_le7.mp z h8) ⟨rfl, pt_mk hI⟩))) (fun h8 => ?_))
  exact br_f (by decide) ⟨pt_in8 h0 h8, nm_e (br_f h0 (br_t (pt_le7.mpr h8) ⟨pt_in8 h0 h8, nm_e ⟨rfl, pt_mk hI⟩⟩))⟩
theorem i_vc_setFlags {k : Nat} {u : SX} {v : SY} (I : i_Rel k u v) (hk : k + 5 ≤ 2562) (v1 : Int32) : wpX_setFlags (fun u' => wpY_setFlags (fun v' => i_Rel (k + 5) u' v') v v1) u v1 := by
  obtain ⟨qp, qc, qn, qz, qg, qy, qv, qk, qt, qw, rr, rc, rp, ro, ra, rb, rd, rfl, rfl, hI⟩ := I
  exact nm_e (nm_e (nm_e (nm_e (nm_e (nm_e (nm_e (nm_e (pt_mk hI))))))))
section
variable {qp qc qn qz qg qy qv qk qt qw : Int32} {rr rc rp ro ra rb rd : Nat → Int32}
theorem px_out {post : Int32 → Prop} {a : Int32} {p : Nat} (h : a < 0 ∨ nI (8 * p) ≤ a) (hp : post 0) : wpX_isAddress post (qp, nI (8 * p), qn, qz, qg, qy, qv, qk, qt, qw, rr, rc, rp, ro, ra, rb, rd) a := by
  by_cases h0 : a < 0
  · exact br_t h0 hp
  · exact br_f h0 (br_t (h.resolve_left h0) hp)
theorem px_inn {post : Int32 → Prop} {p j : Nat} (hp4 : p ≤ 4) (h : j < 8 * p) (hp : post 1) : wpX_isAddress post (qp, nI (8 * p), qn, qz, qg, qy, qv, qk, qt, qw, rr, rc, rp, ro, ra, rb, rd) (nI j) :=
  br_f (nI_pos (by omega)) (br_f (nI_ge h (by omega)) hp)
theorem py_out {post : Int32 → Prop} {a : Int32} {p : Nat} (h : a < 0 ∨ nI (8 * p) ≤ a) (hp : post 0) : wpY_inside post (nI p, qn, qz, qg, qy, qv, qk, qt, qw, rp, ro, ra, rb, rd, rr, rc) a := by
  by_cases h0 : a < 0
  · exact br_t h0 hp
  · exact br_f h0 (br_t (by rw [pt_8m]; exact h.resolve_left h0) hp)
theorem py_inn {post : Int32 → Prop} {p j : Nat} (hp4 : p ≤ 4) (h : j < 8 * p) (hp : post 1) : wpY_inside post (nI p, qn, qz, qg, qy, qv, qk, qt, qw, rp, ro, ra, rb, rd, rr, rc) (nI j) :=
  br_f (nI_pos (by omega)) (br_f (by rw [pt_8m]; exact nI_ge h (by omega)) hp)
end
theorem pt_adr (a : Int32) {p : Nat} (hp4 : p ≤ 4) : (a < 0 ∨ nI (8 * p) ≤ a) ∨ ∃ j : Nat, j < 8 * p ∧ a = nI j := by
  rcases pk_ix a (n := 8 * p) (by omega) with h | h | h
  · exact Or.inl (Or.inl h)
  · exact Or.inl (Or.inr h)
  · exact Or.inr h
theorem i_vc_poke {k : Nat} {u : SX} {v : SY} (I : i_Rel k u v) (hk : k + 5 ≤ 2562) (v1 : Int32) (v2 : Int32) : wpX_poke (fun r u' => wpY_poke (fun r' v' => r' = r ∧ i_Rel (k + 5) u' v') v v1 v2) u v1 v2 := by
  obtain ⟨qp, qc, qn, qz, qg, qy, qv, qk, qt, qw, rr, rc, rp, ro, ra, rb, rd, rfl, rfl, hI⟩ := I
  obtain ⟨p, n, hp1, hp4, rfl, rfl, hn, rfl, hrt, hop⟩ := id hI
  unfold wpX_poke wpY_poke
  dsimp only
  rcases pt_adr v1 hp4 with h | ⟨j, hj, rfl⟩
  · exact px_out h (br_t rfl (py_out h (br_t rfl ⟨rfl, pt_mk hI⟩)))
  · have hi : vp_in (nI j) 32 := vp_in_nI (by omega) (by omega)
    exact px_inn hp4 hj (br_f (by decide) ⟨hi, nm_e (py_inn hp4 hj (br_f (by decide) ⟨hi, nm_e ⟨rfl, pt_mk hI⟩⟩))⟩)
theorem i_vc_setPage {k : Nat} {u : SX} {v : SY} (I : i_Rel k u v) (hk : k + 5 ≤ 2562) (v1 : Int32) (v2 : Int32) : wpX_setPage (fun r u' => wpY_setPage (fun r' v' => r' = r ∧ i_Rel (k + 5) u' v') v v1 v2) u v1 v2 := by
  obtain ⟨qp, qc, qn, qz, qg, qy, qv, qk, qt, qw, rr, rc, rp, ro, ra, rb, rd, rfl, rfl, hI⟩ := I
  obtain ⟨p, n, hp1, hp4, rfl, rfl, hn, rfl, hrt, hop⟩ := id hI
  refine br_c (fun h0 => br_t h0 ⟨rfl, pt_mk hI⟩) (fun h0 => br_c (fun h1 => ?_) (fun h1 => br_f h0 (br_f h1 ⟨rfl, pt_mk hI⟩)))
  refine br_c (fun h2 => br_f h0 (br_t h1 (br_t h2 ⟨rfl, pt_mk hI⟩))) (fun h2 => br_c (fun h3 => ?_) (fun h3 => br_f h0 (br_t h1 (br_f h2 (br_f h3 ⟨rfl, pt_mk hI⟩)))))
  have hi : vp_in v1 4 := by
    obtain ⟨j, hj, rfl⟩ := nI_of h0
    rw [nI_ltI hj (by omega)] at h1
    exact vp_in_nI (by omega) (by omega)
  refine ⟨hi, nm_e (br_f h0 (br_t h1 (br_f h2 (br_t h3 ⟨hi, nm_e ⟨rfl, pt_mk ?_⟩⟩))))⟩
  exact ⟨p, n, hp1, hp4, rfl, rfl, hn, rfl, pt_updI hrt (nI_of2 (M := 2) (n := 2) (by decide) h2 h3), hop⟩
theorem i_vc_jump {k : Nat} {u : SX} {v : SY} (I : i_Rel k u v) (hk : k + 5 ≤ 2562) (v1 : Int32) : wpX_jump (fun u' => wpY_jump (fun v' => i_Rel (k + 5) u' v') v v1) u v1 := by
  obtain ⟨qp, qc, qn, qz, qg, qy, qv, qk, qt, qw, rr, rc, rp, ro, ra, rb, rd, rfl, rfl, hI⟩ := I
  exact pt_mk (k := k) hI
theorem i_vc_reg {k : Nat} {u : SX} {v : SY} (I : i_Rel k u v) (hk : k + 5 ≤ 2562) (v1 : Int32) : wpX_reg (fun r => wpY_reg (fun r' => r' = r ∧ i_Rel (k + 5) u v) v v1) u v1 := by
  obtain ⟨qp, qc, qn, qz, qg, qy, qv, qk, qt, qw, rr, rc, rp, ro, ra, rb, rd, rfl, rfl, hI⟩ := I
  unfold wpX_reg
  dsimp only
  refine br_c (fun h0 => br_t rfl (br_t h0 ⟨rfl, pt_mk hI⟩)) (fun h0 => br_c (fun h8 => br_t rfl (br_f h0 (br_f (fun z => pt_le7.mp z h8) ⟨rfl, pt_mk hI⟩))) (fun h8 => ?_))
  exact br_f (by decide) ⟨pt_in8 h0 h8, br_f h0 (br_t (pt_le7.mpr h8) ⟨pt_in8 h0 h8, ⟨rfl, pt_mk hI⟩⟩)⟩
theorem i_vc_flags {k : Nat} {u : SX} {v : SY} (I : i_Rel k u v) (hk : k + 5 ≤ 2562) : wpX_flags (fun r => wpY_flags (fun r' => r' = r ∧ i_Rel (k + 5) u v) v) u := by
  obtain ⟨qp, qc, qn, qz, qg, qy, qv, qk, qt, qw, rr, rc, rp, ro, ra, rb, rd, rfl, rfl, hI⟩ := I
  exact ⟨rfl, pt_mk hI⟩
theorem i_vc_peek {k : Nat} {u : SX} {v : SY} (I : i_Rel k u v) (hk : k + 5 ≤ 2562) (v1 : Int32) : wpX_peek (fun r => wpY_peek (fun r' => r' = r ∧ i_Rel (k + 5) u v) v v1) u v1 := by
  obtain ⟨qp, qc, qn, qz, qg, qy, qv, qk, qt, qw, rr, rc, rp, ro, ra, rb, rd, rfl, rfl, hI⟩ := I
  obtain ⟨p, n, hp1, hp4, rfl, rfl, hn, rfl, hrt, hop⟩ := id hI
  unfold wpX_peek wpY_peek
  dsimp only
  rcases pt_adr v1 hp4 with h | ⟨j, hj, rfl⟩
  · exact px_out h (br_t rfl (py_out h (br_t rfl ⟨rfl, pt_mk hI⟩)))
  · have hi : vp_in (nI j) 32 := vp_in_nI (by omega) (by omega)
    exact px_inn hp4 hj (br_f (by decide) ⟨hi, py_inn hp4 hj (br_f (by decide) ⟨hi, ⟨rfl, pt_mk hI⟩⟩)⟩)
theorem i_vc_pc {k : Nat} {u : SX} {v : SY} (I : i_Rel k u v) (hk : k + 5 ≤ 2562) : wpX_pc (fun r => wpY_pc (fun r' => r' = r ∧ i_Rel (k + 5) u v) v) u := by
  obtain ⟨qp, qc, qn, qz, qg, qy, qv, qk, qt, qw, rr, rc, rp, ro, ra, rb, rd, rfl, rfl, hI⟩ := I
  exact ⟨rfl, pt_mk hI⟩
theorem i_vc_steps {k : Nat} {u : SX} {v : SY} (I : i_Rel k u v) (hk : k + 5 ≤ 2562) : wpX_steps (fun r => wpY_steps (fun r' => r' = r ∧ i_Rel (k + 5) u v) v) u := by
  obtain ⟨qp, qc, qn, qz, qg, qy, qv, qk, qt, qw, rr, rc, rp, ro, ra, rb, rd, rfl, rfl, hI⟩ := I
  exact ⟨rfl, pt_mk hI⟩
theorem i_vc_where {k : Nat} {u : SX} {v : SY} (I : i_Rel k u v) (hk : k + 5 ≤ 2562) : wpX_where (fun r => wpY_where (fun r' => r' = r ∧ i_Rel (k + 5) u v) v) u := by
  obtain ⟨qp, qc, qn, qz, qg, qy, qv, qk, qt, qw, rr, rc, rp, ro, ra, rb, rd, rfl, rfl, hI⟩ := I
  exact ⟨rfl, pt_mk hI⟩
end
section
/-! the pieces of one step, each at its own method's name, for every post -/
theorem pt_10 : ¬ (1 : Int32) = 0 := by decide
theorem pt_bnf {c : Prop} (h : c) : pt_b (¬ c) = 0 := pt_bf (fun z => z h)
section
variable {qp qc qn qz qg qy qv qk qt qw : Int32} {rr rc rp ro ra rb rd : Nat → Int32}
theorem px_put {post : SX → Prop} {t r c1 c2 : Int32} (ht : vp_in t 8) (h1 : c1 = 0 ∨ c1 = 1) (h2 : c2 = 0 ∨ c2 = 1) (h : post (qp, qc, qn, pt_b (r = 0), pt_b (¬ 0 ≤ r), c1, c2, qk, qt, qw, upd rr t.toNatClampNeg r, rc, rp, ro, ra, rb, rd)) : wpX_putResult post (qp, qc, qn, qz, qg, qy, qv, qk, qt, qw, rr, rc, rp, ro, ra, rb, rd) t r c1 c2 := by
  refine ⟨ht, nm_e ?_⟩
  refine br_c (fun h0 => ?_) (fun h0 => ?_) <;> refine br_c (fun h3 => ?_) (fun h3 => ?_)
  all_goals
    first
      | rw [pt_bt h0] at h
      | rw [pt_bf h0] at h
    first
      | rw [pt_bt h3] at h
      | rw [pt_bnf h3] at h
    rcases h1 with rfl | rfl <;> rcases h2 with rfl | rfl
    · exact br_t rfl (br_t rfl h)
    · exact br_t rfl (br_f pt_10 h)
    · exact br_f pt_10 (br_t rfl h)
    · exact br_f pt_10 (br_f pt_10 h)
theorem py_sig {post : SY → Prop} {r c1 c2 : Int32} (h1 : c1 = 0 ∨ c1 = 1) (h2 : c2 = 0 ∨ c2 = 1) (h : post (qp, qn, pt_b (r = 0), pt_b (¬ 0 ≤ r), c1, c2, qk, qt, qw, rp, ro, ra, rb, rd, rr, rc)) : wpY_signs post (qp, qn, qz, qg, qy, qv, qk, qt, qw, rp, ro, ra, rb, rd, rr, rc) r c1 c2 := by
  refine br_c (fun h0 => ?_) (fun h0 => ?_) <;> refine br_c (fun h3 => ?_) (fun h3 => ?_)
  all_goals
    first
      | rw [pt_bt h0] at h
      | rw [pt_bf h0] at h
    first
      | rw [pt_bt h3] at h
      | rw [pt_bnf h3] at h
    rcases h1 with rfl | rfl <;> rcases h2 with rfl | rfl
    · exact br_t rfl (br_t rfl h)
    · exact br_t rfl (br_f pt_10 h)
    · exact br_f pt_10 (br_t rfl h)
    · exact br_f pt_10 (br_f pt_10 h)
theorem px_add {post : SX → Prop} {t x y m : Int32} (ht : vp_in t 8) (h : post (qp, qc, qn, pt_b (x + y + m = 0), pt_b (¬ 0 ≤ x + y + m), pt_b (¬ ((x.toInt64 &&& 4294967295) + (y.toInt64 &&& 4294967295)) + m.toInt64 ≤ 4294967295), pt_b (¬ (x.toInt64 + y.toInt64) + m.toInt64 = (x + y + m).toInt64), qk, qt, qw, upd rr t.toNatClampNeg (x + y + m), rc, rp, ro, ra, rb, rd)) : wpX_add post (qp, qc, qn, qz, qg, qy, qv, qk, qt, qw, rr, rc, rp, ro, ra, rb, rd) t x y m := by
  intro x5 e5 x7 e7
  have e9 : x7.toInt32 = x + y + m := by rw [e7, pt_sum]
  rw [e9]
  rw [← e5, ← e7] at h
  refine br_c (fun h5 => ?_) (fun h5 => ?_) <;> refine br_c (fun h7 => ?_) (fun h7 => ?_)
  · rw [pt_bnf h5, pt_bnf h7] at h; exact px_put ht (Or.inl rfl) (Or.inl rfl) h
  · rw [pt_bnf h5, pt_bt h7] at h; exact px_put ht (Or.inl rfl) (Or.inr rfl) h
  · rw [pt_bt h5, pt_bnf h7] at h; exact px_put ht (Or.inr rfl) (Or.inl rfl) h
  · rw [pt_bt h5, pt_bt h7] at h; exact px_put ht (Or.inr rfl) (Or.inr rfl) h
theorem py_sum {post : Int32 → SY → Prop} {x y m : Int32} (h : post (x + y + m) (qp, qn, pt_b (x + y + m = 0), pt_b (¬ 0 ≤ x + y + m), pt_b (¬ ((x.toInt64 &&& 4294967295) + (y.toInt64 &&& 4294967295)) + m.toInt64 ≤ 4294967295), pt_b (¬ (x.toInt64 + y.toInt64) + m.toInt64 = (x + y + m).toInt64), qk, qt, qw, rp, ro, ra, rb, rd, rr, rc)) : wpY_sum post (qp, qn, qz, qg, qy, qv, qk, qt, qw, rp, ro, ra, rb, rd, rr, rc) x y m := by
  refine nm_e ?_
  intro x5 e5
  unfold wpY_bare
  intro x7 e7
  rw [← e7, ← e5] at h
  refine br_c (fun h5 => ?_) (fun h5 => ?_) <;> refine br_c (fun h7 => ?_) (fun h7 => ?_) <;> rw [← pt_cmp] at h5
  · rw [pt_bnf h5, pt_bnf h7] at h; exact py_sig (Or.inl rfl) (Or.inl rfl) h
  · rw [pt_bnf h5, pt_bt h7] at h; exact py_sig (Or.inl rfl) (Or.inr rfl) h
  · rw [pt_bt h5, pt_bnf h7] at h; exact py_sig (Or.inr rfl) (Or.inl rfl) h
  · rw [pt_bt h5, pt_bt h7] at h; exact py_sig (Or.inr rfl) (Or.inr rfl) h
theorem px_sub {post : SX → Prop} {t x y : Int32} (ht : vp_in t 8) (h : post (qp, qc, qn, pt_b (x - y = 0), pt_b (¬ 0 ≤ x - y), pt_b (¬ (y.toInt64 &&& 4294967295) ≤ (x.toInt64 &&& 4294967295)), pt_b (¬ x.toInt64 - y.toInt64 = (x - y).toInt64), qk, qt, qw, upd rr t.toNatClampNeg (x - y), rc, rp, ro, ra, rb, rd)) : wpX_subtract post (qp, qc, qn, qz, qg, qy, qv, qk, qt, qw, rr, rc, rp, ro, ra, rb, rd) t x y := by
  intro x4 e4
  have e9 : x4.toInt32 = x - y := by rw [e4, pt_dif]
  rw [e9]
  rw [← e4] at h
  refine br_c (fun h5 => ?_) (fun h5 => ?_) <;> refine br_c (fun h7 => ?_) (fun h7 => ?_)
  · rw [pt_bnf h5, pt_bnf h7] at h; exact px_put ht (Or.inl rfl) (Or.inl rfl) h
  · rw [pt_bnf h5, pt_bt h7] at h; exact px_put ht (Or.inl rfl) (Or.inr rfl) h
  · rw [pt_bt h5, pt_bnf h7] at h; exact px_put ht (Or.inr rfl) (Or.inl rfl) h
  · rw [pt_bt h5, pt_bt h7] at h; exact px_put ht (Or.inr rfl) (Or.inr rfl) h
theorem py_dif {post : Int32 → SY → Prop} {x y : Int32} (h : post (x - y) (qp, qn, pt_b (x - y = 0), pt_b (¬ 0 ≤ x - y), pt_b (¬ (y.toInt64 &&& 4294967295) ≤ (x.toInt64 &&& 4294967295)), pt_b (¬ x.toInt64 - y.toInt64 = (x - y).toInt64), qk, qt, qw, rp, ro, ra, rb, rd, rr, rc)) : wpY_difference post (qp, qn, qz, qg, qy, qv, qk, qt, qw, rp, ro, ra, rb, rd, rr, rc) x y := by
  refine nm_e ?_
  intro x4 e4
  unfold wpY_bare
  rw [← e4] at h
  refine br_c (fun h5 => ?_) (fun h5 => ?_) <;> refine br_c (fun h7 => ?_) (fun h7 => ?_)
  · rw [pt_bnf h5, pt_bnf h7] at h; exact py_sig (Or.inl rfl) (Or.inl rfl) h
  · rw [pt_bnf h5, pt_bt h7] at h; exact py_sig (Or.inl rfl) (Or.inr rfl) h
  · rw [pt_bt h5, pt_bnf h7] at h; exact py_sig (Or.inr rfl) (Or.inl rfl) h
  · rw [pt_bt h5, pt_bt h7] at h; exact py_sig (Or.inr rfl) (Or.inr rfl) h
theorem px_div0 {post : Int32 → SX → Prop} {t x y : Int32} (hy : y = 0) (h : post 6 (qp, qc, qn, qz, qg, qy, qv, qk, qt, qw, rr, rc, rp, ro, ra, rb, rd)) : wpX_divide post (qp, qc, qn, qz, qg, qy, qv, qk, qt, qw, rr, rc, rp, ro, ra, rb, rd) t x y := br_t hy h
theorem px_divk {post : Int32 → SX → Prop} {t x y : Int32} (ht : vp_in t 8) (hy : ¬ y = 0) (h : post (-1) (qp, qc, qn, qz, qg, qy, qv, qk, qt, qw, upd rr t.toNatClampNeg (x / y), rc, rp, ro, ra, rb, rd)) : wpX_divide post (qp, qc, qn, qz, qg, qy, qv, qk, qt, qw, rr, rc, rp, ro, ra, rb, rd) t x y := br_f hy ⟨hy, ht, nm_e h⟩
theorem py_quo {post : Int32 → Prop} {x y : Int32} (hy : ¬ y = 0) (h : post (x / y)) : wpY_quotient post x y := by
  refine br_f hy ⟨fun z => hy ((pt_64z y).mp z), fun q eq => ?_⟩
  rw [eq, pt_div]
  exact h
theorem px_ldO {post : Int32 → SX → Prop} {t a : Int32} {p : Nat} (ha : a < 0 ∨ nI (8 * p) ≤ a) (h : post 3 (qp, nI (8 * p), qn, qz, qg, qy, qv, qk, qt, a, rr, rc, rp, ro, ra, rb, rd)) : wpX_load post (qp, nI (8 * p), qn, qz, qg, qy, qv, qk, qt, qw, rr, rc, rp, ro, ra, rb, rd) t a := by
  unfold wpX_load
  dsimp only
  exact px_out ha (br_t rfl h)
theorem px_stO {post : Int32 → SX → Prop} {t a : Int32} {p : Nat} (ha : a < 0 ∨ nI (8 * p) ≤ a) (h : post 3 (qp, nI (8 * p), qn, qz, qg, qy, qv, qk, qt, a, rr, rc, rp, ro, ra, rb, rd)) : wpX_store post (qp, nI (8 * p), qn, qz, qg, qy, qv, qk, qt, qw, rr, rc, rp, ro, ra, rb, rd) t a := by
  unfold wpX_store
  dsimp only
  exact px_out ha (br_t rfl h)
theorem pt_80 : ¬ (8 : Int32) = 0 := by decide
theorem px_ldN {post : Int32 → SX → Prop} {t a : Int32} {p j : Nat} (hp4 : p ≤ 4) (hj : j < 8 * p) (ea : a = nI j) (hr : rp (nI (j / 8)).toNatClampNeg = 0) (h : post 4 (qp, nI (8 * p), qn, qz, qg, qy, qv, qk, qt, a, rr, rc, rp, ro, ra, rb, rd)) : wpX_load post (qp, nI (8 * p), qn, qz, qg, qy, qv, qk, qt, qw, rr, rc, rp, ro, ra, rb, rd) t a := by
  subst ea
  unfold wpX_load
  dsimp only
  refine px_inn hp4 hj (br_f pt_10 ⟨pt_80, ?_⟩)
  rw [pt_d8 (by omega)]
  exact ⟨vp_in_nI (by omega) (by omega), br_t hr h⟩
theorem px_ldK {post : Int32 → SX → Prop} {t a : Int32} {p j : Nat} (ht : vp_in t 8) (hp4 : p ≤ 4) (hj : j < 8 * p) (ea : a = nI j) (hr : ¬ rp (nI (j / 8)).toNatClampNeg = 0) (h : post (-1) (qp, nI (8 * p), qn, qz, qg, qy, qv, qk, qt, qw, upd rr t.toNatClampNeg (rc (nI j).toNatClampNeg), rc, rp, ro, ra, rb, rd)) : wpX_load post (qp, nI (8 * p), qn, qz, qg, qy, qv, qk, qt, qw, rr, rc, rp, ro, ra, rb, rd) t a := by
  subst ea
  unfold wpX_load
  dsimp only
  refine px_inn hp4 hj (br_f pt_10 ⟨pt_80, ?_⟩)
  rw [pt_d8 (by omega)]
  exact ⟨vp_in_nI (by omega) (by omega), br_f hr ⟨vp_in_nI (by omega) (by omega), ht, nm_e h⟩⟩
theorem px_stN {post : Int32 → SX → Prop} {t a : Int32} {p j : Nat} (hp4 : p ≤ 4) (hj : j < 8 * p) (ea : a = nI j) (hr : ¬ rp (nI (j / 8)).toNatClampNeg = 2) (h : post 5 (qp, nI (8 * p), qn, qz, qg, qy, qv, qk, qt, a, rr, rc, rp, ro, ra, rb, rd)) : wpX_store post (qp, nI (8 * p), qn, qz, qg, qy, qv, qk, qt, qw, rr, rc, rp, ro, ra, rb, rd) t a := by
  subst ea
  unfold wpX_store
  dsimp only
  refine px_inn hp4 hj (br_f pt_10 ⟨pt_80, ?_⟩)
  rw [pt_d8 (by omega)]
  exact ⟨vp_in_nI (by omega) (by omega), br_f hr h⟩
theorem px_stK {post : Int32 → SX → Prop} {t a : Int32} {p j : Nat} (ht : vp_in t 8) (hp4 : p ≤ 4) (hj : j < 8 * p) (ea : a = nI j) (hr : rp (nI (j / 8)).toNatClampNeg = 2) (h : post (-1) (qp, nI (8 * p), qn, qz, qg, qy, qv, qk, qt, qw, rr, upd rc (nI j).toNatClampNeg (rr t.toNatClampNeg), rp, ro, ra, rb, rd)) : wpX_store post (qp, nI (8 * p), qn, qz, qg, qy, qv, qk, qt, qw, rr, rc, rp, ro, ra, rb, rd) t a := by
  subst ea
  unfold wpX_store
  dsimp only
  refine px_inn hp4 hj (br_f pt_10 ⟨pt_80, ?_⟩)
  rw [pt_d8 (by omega)]
  exact ⟨vp_in_nI (by omega) (by omega), br_t hr ⟨ht, vp_in_nI (by omega) (by omega), nm_e h⟩⟩
/-- Y's look at an address, for LOAD (9) and STORE (10) -/
theorem py_obO {post : Int32 → Prop} {o a : Int32} {p : Nat} (hi : vp_in qk 40) (ea : rr (rb qk.toNatClampNeg &&& 7).toNatClampNeg + rd qk.toNatClampNeg = a) (ha : a < 0 ∨ nI (8 * p) ≤ a) (h : post 3) : wY_obstacle_79 post o (nI p) qn qz qg qy qv qk qt qw rp ro ra rb rd rr rc :=
  ⟨hi, pt_in7 _, hi, nm_r ea (py_out ha (br_t rfl h))⟩
theorem py_ob9 {post : Int32 → Prop} {p j : Nat} (hi : vp_in qk 40) (hp4 : p ≤ 4) (hj : j < 8 * p) (ea : rr (rb qk.toNatClampNeg &&& 7).toNatClampNeg + rd qk.toNatClampNeg = nI j) (hN : rp (nI (j / 8)).toNatClampNeg = 0 → post 4) (hK : ¬ rp (nI (j / 8)).toNatClampNeg = 0 → post 0) : wY_obstacle_79 post 9 (nI p) qn qz qg qy qv qk qt qw rp ro ra rb rd rr rc := by
  refine ⟨hi, pt_in7 _, hi, nm_r ea (py_inn hp4 hj (br_f pt_10 (br_t rfl ?_)))⟩
  rw [pt_s3 (by omega)]
  exact ⟨vp_in_nI (by omega) (by omega), br_c hN (fun z => br_f (by decide) (hK z))⟩
theorem py_ob10 {post : Int32 → Prop} {p j : Nat} (hi : vp_in qk 40) (hp4 : p ≤ 4) (hj : j < 8 * p) (ea : rr (rb qk.toNatClampNeg &&& 7).toNatClampNeg + rd qk.toNatClampNeg = nI j) (hK : 2 ≤ rp (nI (j / 8)).toNatClampNeg → post 0) (hN : ¬ 2 ≤ rp (nI (j / 8)).toNatClampNeg → post 5) : wY_obstacle_79 post 10 (nI p) qn qz qg qy qv qk qt qw rp ro ra rb rd rr rc := by
  refine ⟨hi, pt_in7 _, hi, nm_r ea (py_inn hp4 hj (br_f pt_10 (br_f (by decide) (br_t rfl ?_))))⟩
  rw [pt_s3 (by omega)]
  exact ⟨vp_in_nI (by omega) (by omega), br_c hK hN⟩
end
section
variable {qp qc qn qz qg qy qv qk qt qw : Int32} {rr rc rp ro ra rb rd : Nat → Int32}
theorem pt_holds (x : Int32) : ∃ r : Int32, (∀ post : Int32 → Prop, post r → wpX_holds post (qp, qc, qn, qz, qg, qy, qv, qk, qt, qw, rr, rc, rp, ro, ra, rb, rd) (x &&& 7)) ∧ (∀ post : Int32 → Prop, post r → wpY_holds post (qp, qn, qz, qg, qy, qv, qk, qt, qw, rp, ro, ra, rb, rd, rr, rc) (x &&& 7)) := by
  obtain ⟨q, hq, e⟩ := pt_and7 x
  have hq' : q = 0 ∨ q = 1 ∨ q = 2 ∨ q = 3 ∨ q = 4 ∨ q = 5 ∨ q = 6 ∨ q = 7 := by omega
  rcases hq' with rfl | rfl | rfl | rfl | rfl | rfl | rfl | rfl
  · have e : x &&& 7 = 0 := e
    rw [e]
    exact ⟨1, fun post h => br_t (by decide) h, fun post h => br_t rfl h⟩
  · have e : x &&& 7 = 1 := e
    rw [e]
    by_cases z : qz = 1
    · exact ⟨1, fun post h => br_f (by decide) (br_f (by decide) (br_t rfl (br_t z h))), fun post h => br_f (by decide) (br_t rfl (br_t z h))⟩
    · exact ⟨0, fun post h => br_f (by decide) (br_f (by decide) (br_t rfl (br_f z h))), fun post h => br_f (by decide) (br_t rfl (br_f z h))⟩
  · have e : x &&& 7 = 2 := e
    rw [e]
    by_cases z : qz = 0
    · exact ⟨1, fun post h => br_f (by decide) (br_f (by decide) (br_f (by decide) (br_t rfl (br_t z h)))), fun post h => br_f (by decide) (br_f (by decide) (br_t rfl (br_t z h)))⟩
    · exact ⟨0, fun post h => br_f (by decide) (br_f (by decide) (br_f (by decide) (br_t rfl (br_f z h)))), fun post h => br_f (by decide) (br_f (by decide) (br_t rfl (br_f z h)))⟩
  · have e : x &&& 7 = 3 := e
    rw [e]
    by_cases z : qg = 1
    · exact ⟨1, fun post h => br_f (by decide) (br_f (by decide) (br_f (by decide) (br_f (by decide) (br_t rfl (br_t z h))))), fun post h => br_f (by decide) (br_f (by decide) (br_f (by decide) (br_t rfl (br_t z h))))⟩
    · exact ⟨0, fun post h => br_f (by decide) (br_f (by decide) (br_f (by decide) (br_f (by decide) (br_t rfl (br_f z h))))), fun post h => br_f (by decide) (br_f (by decide) (br_f (by decide) (br_t rfl (br_f z h))))⟩
  · have e : x &&& 7 = 4 := e
    rw [e]
    by_cases z : qg = 0
    · exact ⟨1, fun post h => br_f (by decide) (br_f (by decide) (br_f (by decide) (br_f (by decide) (br_f (by decide) (br_t rfl (br_t z h)))))), fun post h => br_f (by decide) (br_f (by decide) (br_f (by decide) (br_f (by decide) (br_t rfl (br_t z h)))))⟩
    · exact ⟨0, fun post h => br_f (by decide) (br_f (by decide) (br_f (by decide) (br_f (by decide) (br_f (by decide) (br_t rfl (br_f z h)))))), fun post h => br_f (by decide) (br_f (by decide) (br_f (by decide) (br_f (by decide) (br_t rfl (br_f z h)))))⟩
  · have e : x &&& 7 = 5 := e
    rw [e]
    by_cases z : qy = 1
    · exact ⟨1, fun post h => br_f (by decide) (br_f (by decide) (br_f (by decide) (br_f (by decide) (br_f (by decide) (br_f (by decide) (br_t rfl (br_t z h))))))), fun post h => br_f (by decide) (br_f (by decide) (br_f (by decide) (br_f (by decide) (br_f (by decide) (br_t rfl (br_t z h))))))⟩
    · exact ⟨0, fun post h => br_f (by decide) (br_f (by decide) (br_f (by decide) (br_f (by decide) (br_f (by decide) (br_f (by decide) (br_t rfl (br_f z h))))))), fun post h => br_f (by decide) (br_f (by decide) (br_f (by decide) (br_f (by decide) (br_f (by decide) (br_t rfl (br_f z h))))))⟩
  · have e : x &&& 7 = 6 := e
    rw [e]
    by_cases z : qv = 1
    · exact ⟨1, fun post h => br_f (by decide) (br_f (by decide) (br_f (by decide) (br_f (by decide) (br_f (by decide) (br_f (by decide) (br_f (by decide) (br_t rfl (br_t z h)))))))), fun post h => br_f (by decide) (br_f (by decide) (br_f (by decide) (br_f (by decide) (br_f (by decide) (br_f (by decide) (br_t rfl (br_t z h)))))))⟩
    · exact ⟨0, fun post h => br_f (by decide) (br_f (by decide) (br_f (by decide) (br_f (by decide) (br_f (by decide) (br_f (by decide) (br_f (by decide) (br_t rfl (br_f z h)))))))), fun post h => br_f (by decide) (br_f (by decide) (br_f (by decide) (br_f (by decide) (br_f (by decide) (br_f (by decide) (br_t rfl (br_f z h)))))))⟩
  · have e : x &&& 7 = 7 := e
    rw [e]
    by_cases z : qg = qv
    · exact ⟨0, fun post h => br_f (by decide) (br_f (by decide) (br_f (by decide) (br_f (by decide) (br_f (by decide) (br_f (by decide) (br_f (by decide) (br_f (by decide) (br_t rfl (br_t z h))))))))), fun post h => br_f (by decide) (br_f (by decide) (br_f (by decide) (br_f (by decide) (br_f (by decide) (br_f (by decide) (br_f (by decide) (br_t z h)))))))⟩
    · exact ⟨1, fun post h => br_f (by decide) (br_f (by decide) (br_f (by decide) (br_f (by decide) (br_f (by decide) (br_f (by decide) (br_f (by decide) (br_f (by decide) (br_t rfl (br_f z h))))))))), fun post h => br_f (by decide) (br_f (by decide) (br_f (by decide) (br_f (by decide) (br_f (by decide) (br_f (by decide) (br_f (by decide) (br_f z h)))))))⟩
end
end
section
/-! one step of each instruction -/
section
variable {qp qc qn qz qg qy qv qk qt qw : Int32} {rr rc rp ro ra rb rd : Nat → Int32}
theorem px_s0 {post : Int32 → SX → Prop} (h0 : ¬ qk < 0) (h1 : qk < qn) (hi : vp_in qk 40) (e : ro qk.toNatClampNeg = 0) (h : post (-1) (qp, qc, qn, qz, qg, qy, qv, qk + 1, qt, qw, upd rr (ra qk.toNatClampNeg &&& 7).toNatClampNeg (rd qk.toNatClampNeg), rc, rp, ro, ra, rb, rd)) : wpX_step post (qp, qc, qn, qz, qg, qy, qv, qk, qt, qw, rr, rc, rp, ro, ra, rb, rd) :=
  br_f h0 (br_t h1 ⟨hi, nm_r e (br_f (by decide) ⟨hi, nm_e ⟨hi, nm_e ⟨hi, nm_e (br_f (by decide) (br_f (by decide) (br_f (by decide) ⟨pt_in7 _, nm_e ⟨pt_in7 _, nm_e (br_f (by decide) (br_f (by decide) (br_f (by decide) (br_t rfl ⟨pt_in7 _, nm_e (br_t rfl (nm_e h))⟩))))⟩⟩)))⟩⟩⟩)⟩)
theorem px_s1 {post : Int32 → SX → Prop} (h0 : ¬ qk < 0) (h1 : qk < qn) (hi : vp_in qk 40) (e : ro qk.toNatClampNeg = 1) (h : post (-1) (qp, qc, qn, pt_b (rr (rb qk.toNatClampNeg &&& 7).toNatClampNeg + rr (rd qk.toNatClampNeg &&& 7).toNatClampNeg + 0 = 0), pt_b (¬ 0 ≤ rr (rb qk.toNatClampNeg &&& 7).toNatClampNeg + rr (rd qk.toNatClampNeg &&& 7).toNatClampNeg + 0), pt_b (¬ (((rr (rb qk.toNatClampNeg &&& 7).toNatClampNeg).toInt64 &&& 4294967295) + ((rr (rd qk.toNatClampNeg &&& 7).toNatClampNeg).toInt64 &&& 4294967295)) + (0 : Int32).toInt64 ≤ 4294967295), pt_b (¬ ((rr (rb qk.toNatClampNeg &&& 7).toNatClampNeg).toInt64 + (rr (rd qk.toNatClampNeg &&& 7).toNatClampNeg).toInt64) + (0 : Int32).toInt64 = (rr (rb qk.toNatClampNeg &&& 7).toNatClampNeg + rr (rd qk.toNatClampNeg &&& 7).toNatClampNeg + 0).toInt64), qk + 1, qt, qw, upd rr (ra qk.toNatClampNeg &&& 7).toNatClampNeg (rr (rb qk.toNatClampNeg &&& 7).toNatClampNeg + rr (rd qk.toNatClampNeg &&& 7).toNatClampNeg + 0), rc, rp, ro, ra, rb, rd)) : wpX_step post (qp, qc, qn, qz, qg, qy, qv, qk, qt, qw, rr, rc, rp, ro, ra, rb, rd) :=
  br_f h0 (br_t h1 ⟨hi, nm_r e (br_f (by decide) ⟨hi, nm_e ⟨hi, nm_e ⟨hi, nm_e (br_f (by decide) (br_f (by decide) (br_f (by decide) ⟨pt_in7 _, nm_e ⟨pt_in7 _, nm_e (br_f (by decide) (br_f (by decide) (br_f (by decide) (br_f (by decide) (br_t rfl (px_add (pt_in7 _) (br_t rfl (nm_e h))))))))⟩⟩)))⟩⟩⟩)⟩)
theorem px_s2 {post : Int32 → SX → Prop} (h0 : ¬ qk < 0) (h1 : qk < qn) (hi : vp_in qk 40) (e : ro qk.toNatClampNeg = 2) (h : post (-1) (qp, qc, qn, pt_b (rr (rb qk.toNatClampNeg &&& 7).toNatClampNeg - rr (rd qk.toNatClampNeg &&& 7).toNatClampNeg = 0), pt_b (¬ 0 ≤ rr (rb qk.toNatClampNeg &&& 7).toNatClampNeg - rr (rd qk.toNatClampNeg &&& 7).toNatClampNeg), pt_b (¬ ((rr (rd qk.toNatClampNeg &&& 7).toNatClampNeg).toInt64 &&& 4294967295) ≤ ((rr (rb qk.toNatClampNeg &&& 7).toNatClampNeg).toInt64 &&& 4294967295)), pt_b (¬ (rr (rb qk.toNatClampNeg &&& 7).toNatClampNeg).toInt64 - (rr (rd qk.toNatClampNeg &&& 7).toNatClampNeg).toInt64 = (rr (rb qk.toNatClampNeg &&& 7).toNatClampNeg - rr (rd qk.toNatClampNeg &&& 7).toNatClampNeg).toInt64), qk + 1, qt, qw, upd rr (ra qk.toNatClampNeg &&& 7).toNatClampNeg (rr (rb qk.toNatClampNeg &&& 7).toNatClampNeg - rr (rd qk.toNatClampNeg &&& 7).toNatClampNeg), rc, rp, ro, ra, rb, rd)) : wpX_step post (qp, qc, qn, qz, qg, qy, qv, qk, qt, qw, rr, rc, rp, ro, ra, rb, rd) :=
  br_f h0 (br_t h1 ⟨hi, nm_r e (br_f (by decide) ⟨hi, nm_e ⟨hi, nm_e ⟨hi, nm_e (br_f (by decide) (br_f (by decide) (br_f (by decide) ⟨pt_in7 _, nm_e ⟨pt_in7 _, nm_e (br_f (by decide) (br_f (by decide) (br_f (by decide) (br_f (by decide) (br_f (by decide) (br_t rfl (px_sub (pt_in7 _) (br_t rfl (nm_e h)))))))))⟩⟩)))⟩⟩⟩)⟩)
theorem px_s3 {post : Int32 → SX → Prop} (h0 : ¬ qk < 0) (h1 : qk < qn) (hi : vp_in qk 40) (e : ro qk.toNatClampNeg = 3) (h : post (-1) (qp, qc, qn, pt_b (rr (rb qk.toNatClampNeg &&& 7).toNatClampNeg &&& rr (rd qk.toNatClampNeg &&& 7).toNatClampNeg = 0), pt_b (¬ 0 ≤ rr (rb qk.toNatClampNeg &&& 7).toNatClampNeg &&& rr (rd qk.toNatClampNeg &&& 7).toNatClampNeg), 0, 0, qk + 1, qt, qw, upd rr (ra qk.toNatClampNeg &&& 7).toNatClampNeg (rr (rb qk.toNatClampNeg &&& 7).toNatClampNeg &&& rr (rd qk.toNatClampNeg &&& 7).toNatClampNeg), rc, rp, ro, ra, rb, rd)) : wpX_step post (qp, qc, qn, qz, qg, qy, qv, qk, qt, qw, rr, rc, rp, ro, ra, rb, rd) :=
  br_f h0 (br_t h1 ⟨hi, nm_r e (br_f (by decide) ⟨hi, nm_e ⟨hi, nm_e ⟨hi, nm_e (br_f (by decide) (br_f (by decide) (br_f (by decide) ⟨pt_in7 _, nm_e ⟨pt_in7 _, nm_e (br_f (by decide) (br_f (by decide) (br_f (by decide) (br_f (by decide) (br_f (by decide) (br_f (by decide) (br_t rfl (px_put (pt_in7 _) (Or.inl rfl) (Or.inl rfl) (br_t rfl (nm_e h))))))))))⟩⟩)))⟩⟩⟩)⟩)
theorem px_s4 {post : Int32 → SX → Prop} (h0 : ¬ qk < 0) (h1 : qk < qn) (hi : vp_in qk 40) (e : ro qk.toNatClampNeg = 4) (h : post (-1) (qp, qc, qn, pt_b (rr (rb qk.toNatClampNeg &&& 7).toNatClampNeg ^^^ rr (rd qk.toNatClampNeg &&& 7).toNatClampNeg = 0), pt_b (¬ 0 ≤ rr (rb qk.toNatClampNeg &&& 7).toNatClampNeg ^^^ rr (rd qk.toNatClampNeg &&& 7).toNatClampNeg), 0, 0, qk + 1, qt, qw, upd rr (ra qk.toNatClampNeg &&& 7).toNatClampNeg (rr (rb qk.toNatClampNeg &&& 7).toNatClampNeg ^^^ rr (rd qk.toNatClampNeg &&& 7).toNatClampNeg), rc, rp, ro, ra, rb, rd)) : wpX_step post (qp, qc, qn, qz, qg, qy, qv, qk, qt, qw, rr, rc, rp, ro, ra, rb, rd) :=
  br_f h0 (br_t h1 ⟨hi, nm_r e (br_f (by decide) ⟨hi, nm_e ⟨hi, nm_e ⟨hi, nm_e (br_f (by decide) (br_f (by decide) (br_f (by decide) ⟨pt_in7 _, nm_e ⟨pt_in7 _, nm_e (br_f (by decide) (br_f (by decide) (br_f (by decide) (br_f (by decide) (br_f (by decide) (br_f (by decide) (br_f (by decide) (br_t rfl (px_put (pt_in7 _) (Or.inl rfl) (Or.inl rfl) (br_t rfl (nm_e h)))))))))))⟩⟩)))⟩⟩⟩)⟩)
theorem px_s5 {post : Int32 → SX → Prop} (h0 : ¬ qk < 0) (h1 : qk < qn) (hi : vp_in qk 40) (e : ro qk.toNatClampNeg = 5) (h : post (-1) (qp, qc, qn, pt_b (rr (rb qk.toNatClampNeg &&& 7).toNatClampNeg + rr (rd qk.toNatClampNeg &&& 7).toNatClampNeg + qy = 0), pt_b (¬ 0 ≤ rr (rb qk.toNatClampNeg &&& 7).toNatClampNeg + rr (rd qk.toNatClampNeg &&& 7).toNatClampNeg + qy), pt_b (¬ (((rr (rb qk.toNatClampNeg &&& 7).toNatClampNeg).toInt64 &&& 4294967295) + ((rr (rd qk.toNatClampNeg &&& 7).toNatClampNeg).toInt64 &&& 4294967295)) + (qy : Int32).toInt64 ≤ 4294967295), pt_b (¬ ((rr (rb qk.toNatClampNeg &&& 7).toNatClampNeg).toInt64 + (rr (rd qk.toNatClampNeg &&& 7).toNatClampNeg).toInt64) + (qy : Int32).toInt64 = (rr (rb qk.toNatClampNeg &&& 7).toNatClampNeg + rr (rd qk.toNatClampNeg &&& 7).toNatClampNeg + qy).toInt64), qk + 1, qt, qw, upd rr (ra qk.toNatClampNeg &&& 7).toNatClampNeg (rr (rb qk.toNatClampNeg &&& 7).toNatClampNeg + rr (rd qk.toNatClampNeg &&& 7).toNatClampNeg + qy), rc, rp, ro, ra, rb, rd)) : wpX_step post (qp, qc, qn, qz, qg, qy, qv, qk, qt, qw, rr, rc, rp, ro, ra, rb, rd) :=
  br_f h0 (br_t h1 ⟨hi, nm_r e (br_f (by decide) ⟨hi, nm_e ⟨hi, nm_e ⟨hi, nm_e (br_f (by decide) (br_f (by decide) (br_f (by decide) ⟨pt_in7 _, nm_e ⟨pt_in7 _, nm_e (br_f (by decide) (br_f (by decide) (br_f (by decide) (br_f (by decide) (br_f (by decide) (br_f (by decide) (br_f (by decide) (br_f (by decide) (br_t rfl (px_add (pt_in7 _) (br_t rfl (nm_e h))))))))))))⟩⟩)))⟩⟩⟩)⟩)
theorem px_s6 {post : Int32 → SX → Prop} (h0 : ¬ qk < 0) (h1 : qk < qn) (hi : vp_in qk 40) (e : ro qk.toNatClampNeg = 6) (h : post (-1) (qp, qc, qn, qz, qg, qy, qv, qk + 1, qt, qw, upd rr (ra qk.toNatClampNeg &&& 7).toNatClampNeg (rr (rb qk.toNatClampNeg &&& 7).toNatClampNeg * rr (rd qk.toNatClampNeg &&& 7).toNatClampNeg), rc, rp, ro, ra, rb, rd)) : wpX_step post (qp, qc, qn, qz, qg, qy, qv, qk, qt, qw, rr, rc, rp, ro, ra, rb, rd) :=
  br_f h0 (br_t h1 ⟨hi, nm_r e (br_f (by decide) ⟨hi, nm_e ⟨hi, nm_e ⟨hi, nm_e (br_f (by decide) (br_f (by decide) (br_f (by decide) ⟨pt_in7 _, nm_e ⟨pt_in7 _, nm_e (br_f (by decide) (br_f (by decide) (br_f (by decide) (br_f (by decide) (br_f (by decide) (br_f (by decide) (br_f (by decide) (br_f (by decide) (br_f (by decide) (br_t rfl ⟨pt_in7 _, nm_e (br_t rfl (nm_e h))⟩))))))))))⟩⟩)))⟩⟩⟩)⟩)
theorem px_s7 {post : Int32 → SX → Prop} (h0 : ¬ qk < 0) (h1 : qk < qn) (hi : vp_in qk 40) (e : ro qk.toNatClampNeg = 7) (hy : ¬ rr (rd qk.toNatClampNeg &&& 7).toNatClampNeg = 0) (h : post (-1) (qp, qc, qn, qz, qg, qy, qv, qk + 1, qt, qw, upd rr (ra qk.toNatClampNeg &&& 7).toNatClampNeg (rr (rb qk.toNatClampNeg &&& 7).toNatClampNeg / rr (rd qk.toNatClampNeg &&& 7).toNatClampNeg), rc, rp, ro, ra, rb, rd)) : wpX_step post (qp, qc, qn, qz, qg, qy, qv, qk, qt, qw, rr, rc, rp, ro, ra, rb, rd) :=
  br_f h0 (br_t h1 ⟨hi, nm_r e (br_f (by decide) ⟨hi, nm_e ⟨hi, nm_e ⟨hi, nm_e (br_f (by decide) (br_f (by decide) (br_f (by decide) ⟨pt_in7 _, nm_e ⟨pt_in7 _, nm_e (br_t rfl (px_divk (pt_in7 _) hy (br_t rfl (nm_e h))))⟩⟩)))⟩⟩⟩)⟩)
theorem px_s8 {post : Int32 → SX → Prop} (h0 : ¬ qk < 0) (h1 : qk < qn) (hi : vp_in qk 40) (e : ro qk.toNatClampNeg = 8) (h : post (-1) (qp, qc, qn, qz, qg, qy, qv, qk + 1, qt, qw, upd rr (ra qk.toNatClampNeg &&& 7).toNatClampNeg (rr (rb qk.toNatClampNeg &&& 7).toNatClampNeg <<< ((rd qk.toNatClampNeg &&& 31) &&& 31)), rc, rp, ro, ra, rb, rd)) : wpX_step post (qp, qc, qn, qz, qg, qy, qv, qk, qt, qw, rr, rc, rp, ro, ra, rb, rd) :=
  br_f h0 (br_t h1 ⟨hi, nm_r e (br_f (by decide) ⟨hi, nm_e ⟨hi, nm_e ⟨hi, nm_e (br_f (by decide) (br_f (by decide) (br_f (by decide) ⟨pt_in7 _, nm_e ⟨pt_in7 _, nm_e (br_f (by decide) (br_f (by decide) (br_f (by decide) (br_f (by decide) (br_f (by decide) (br_f (by decide) (br_f (by decide) (br_f (by decide) (br_f (by decide) (br_f (by decide) (br_f (by decide) (br_t rfl ⟨pt_in7 _, nm_e (br_t rfl (nm_e h))⟩))))))))))))⟩⟩)))⟩⟩⟩)⟩)
theorem px_s7z {post : Int32 → SX → Prop} (h0 : ¬ qk < 0) (h1 : qk < qn) (hi : vp_in qk 40) (e : ro qk.toNatClampNeg = 7) (hy : rr (rd qk.toNatClampNeg &&& 7).toNatClampNeg = 0) (h : post 6 (qp, qc, qn, qz, qg, qy, qv, qk, qt, qw, rr, rc, rp, ro, ra, rb, rd)) : wpX_step post (qp, qc, qn, qz, qg, qy, qv, qk, qt, qw, rr, rc, rp, ro, ra, rb, rd) :=
  br_f h0 (br_t h1 ⟨hi, nm_r e (br_f (by decide) ⟨hi, nm_e ⟨hi, nm_e ⟨hi, nm_e (br_f (by decide) (br_f (by decide) (br_f (by decide) ⟨pt_in7 _, nm_e ⟨pt_in7 _, nm_e (br_t rfl (px_div0 hy (br_f (by decide) h)))⟩⟩)))⟩⟩⟩)⟩)
theorem py_oG {post : Int32 → Prop} {o : Int32} (h0 : ¬ qk < 0) (h1 : qk < qn) (hi : vp_in qk 40) (e : ro qk.toNatClampNeg = o) (n12 : ¬ o = 12) (n7 : ¬ o = 7) (n9 : ¬ o = 9) (n10 : ¬ o = 10) (h : post 0) : wpY_obstacle post (qp, qn, qz, qg, qy, qv, qk, qt, qw, rp, ro, ra, rb, rd, rr, rc) :=
  br_f h0 (br_t h1 ⟨hi, nm_r e (br_f n12 (br_f n7 (br_f n9 (br_f n10 h))))⟩)
theorem py_o7 {post : Int32 → Prop} (h0 : ¬ qk < 0) (h1 : qk < qn) (hi : vp_in qk 40) (e : ro qk.toNatClampNeg = 7) (hy : ¬ rr (rd qk.toNatClampNeg &&& 7).toNatClampNeg = 0) (h : post 0) : wpY_obstacle post (qp, qn, qz, qg, qy, qv, qk, qt, qw, rp, ro, ra, rb, rd, rr, rc) :=
  br_f h0 (br_t h1 ⟨hi, nm_r e (br_f (by decide) (br_t rfl ⟨hi, pt_in7 _, br_f hy (br_f (by decide) (br_f (by decide) h))⟩))⟩)
theorem py_o7z {post : Int32 → Prop} (h0 : ¬ qk < 0) (h1 : qk < qn) (hi : vp_in qk 40) (e : ro qk.toNatClampNeg = 7) (hy : rr (rd qk.toNatClampNeg &&& 7).toNatClampNeg = 0) (h : post 6) : wpY_obstacle post (qp, qn, qz, qg, qy, qv, qk, qt, qw, rp, ro, ra, rb, rd, rr, rc) :=
  br_f h0 (br_t h1 ⟨hi, nm_r e (br_f (by decide) (br_t rfl ⟨hi, pt_in7 _, br_t hy h⟩))⟩)
theorem py_o9 {post : Int32 → Prop} (h0 : ¬ qk < 0) (h1 : qk < qn) (hi : vp_in qk 40) (e : ro qk.toNatClampNeg = 9) (h : wY_obstacle_79 post 9 qp qn qz qg qy qv qk qt qw rp ro ra rb rd rr rc) : wpY_obstacle post (qp, qn, qz, qg, qy, qv, qk, qt, qw, rp, ro, ra, rb, rd, rr, rc) :=
  br_f h0 (br_t h1 ⟨hi, nm_r e (br_f (by decide) (br_f (by decide) (br_t rfl h)))⟩)
theorem py_o10 {post : Int32 → Prop} (h0 : ¬ qk < 0) (h1 : qk < qn) (hi : vp_in qk 40) (e : ro qk.toNatClampNeg = 10) (h : wY_obstacle_79 post 10 qp qn qz qg qy qv qk qt qw rp ro ra rb rd rr rc) : wpY_obstacle post (qp, qn, qz, qg, qy, qv, qk, qt, qw, rp, ro, ra, rb, rd, rr, rc) :=
  br_f h0 (br_t h1 ⟨hi, nm_r e (br_f (by decide) (br_f (by decide) (br_f (by decide) (br_t rfl h))))⟩)
theorem py_w1 {post : Int32 → SY → Prop} {x y : Int32} (h : post (x + y + 0) (qp, qn, pt_b (x + y + 0 = 0), pt_b (¬ 0 ≤ x + y + 0), pt_b (¬ (((x).toInt64 &&& 4294967295) + ((y).toInt64 &&& 4294967295)) + (0 : Int32).toInt64 ≤ 4294967295), pt_b (¬ ((x).toInt64 + (y).toInt64) + (0 : Int32).toInt64 = (x + y + 0).toInt64), qk, qt, qw, rp, ro, ra, rb, rd, rr, rc)) : wpY_worked post (qp, qn, qz, qg, qy, qv, qk, qt, qw, rp, ro, ra, rb, rd, rr, rc) 1 x y :=
  (br_t rfl (py_sum h))
theorem py_w2 {post : Int32 → SY → Prop} {x y : Int32} (h : post (x - y) (qp, qn, pt_b (x - y = 0), pt_b (¬ 0 ≤ x - y), pt_b (¬ ((y).toInt64 &&& 4294967295) ≤ ((x).toInt64 &&& 4294967295)), pt_b (¬ (x).toInt64 - (y).toInt64 = (x - y).toInt64), qk, qt, qw, rp, ro, ra, rb, rd, rr, rc)) : wpY_worked post (qp, qn, qz, qg, qy, qv, qk, qt, qw, rp, ro, ra, rb, rd, rr, rc) 2 x y :=
  (br_f (by decide) (br_t rfl (py_dif h)))
theorem py_w3 {post : Int32 → SY → Prop} {x y : Int32} (h : post (x &&& y) (qp, qn, pt_b (x &&& y = 0), pt_b (¬ 0 ≤ x &&& y), 0, 0, qk, qt, qw, rp, ro, ra, rb, rd, rr, rc)) : wpY_worked post (qp, qn, qz, qg, qy, qv, qk, qt, qw, rp, ro, ra, rb, rd, rr, rc) 3 x y :=
  (br_f (by decide) (br_f (by decide) (br_f (by decide) (br_t rfl (py_sig (Or.inl rfl) (Or.inl rfl) h)))))
theorem py_w4 {post : Int32 → SY → Prop} {x y : Int32} (h : post (x ^^^ y) (qp, qn, pt_b (x ^^^ y = 0), pt_b (¬ 0 ≤ x ^^^ y), 0, 0, qk, qt, qw, rp, ro, ra, rb, rd, rr, rc)) : wpY_worked post (qp, qn, qz, qg, qy, qv, qk, qt, qw, rp, ro, ra, rb, rd, rr, rc) 4 x y :=
  (br_f (by decide) (br_f (by decide) (br_f (by decide) (br_f (by decide) (py_sig (Or.inl rfl) (Or.inl rfl) h)))))
theorem py_w5 {post : Int32 → SY → Prop} {x y : Int32} (h : post (x + y + qy) (qp, qn, pt_b (x + y + qy = 0), pt_b (¬ 0 ≤ x + y + qy), pt_b (¬ (((x).toInt64 &&& 4294967295) + ((y).toInt64 &&& 4294967295)) + (qy : Int32).toInt64 ≤ 4294967295), pt_b (¬ ((x).toInt64 + (y).toInt64) + (qy : Int32).toInt64 = (x + y + qy).toInt64), qk, qt, qw, rp, ro, ra, rb, rd, rr, rc)) : wpY_worked post (qp, qn, qz, qg, qy, qv, qk, qt, qw, rp, ro, ra, rb, rd, rr, rc) 5 x y :=
  (br_f (by decide) (br_f (by decide) (br_t rfl (py_sum h))))
theorem py_c0 {post : SY → Prop} (hi : vp_in qk 40) (e : ro qk.toNatClampNeg = 0) (h : post (qp, qn, qz, qg, qy, qv, qk + 1, qt, qw, rp, ro, ra, rb, rd, upd rr (ra qk.toNatClampNeg &&& 7).toNatClampNeg (rd qk.toNatClampNeg), rc)) : wpY_carryOut post (qp, qn, qz, qg, qy, qv, qk, qt, qw, rp, ro, ra, rb, rd, rr, rc) :=
  ⟨hi, nm_r e ⟨hi, nm_e ⟨hi, pt_in7 _, nm_e ⟨hi, nm_e ⟨pt_in7 _, nm_e (nm_e (nm_e (br_t rfl ⟨pt_in7 _, nm_e (br_t (by decide) (br_f (by decide) (br_f (by decide) (br_f (by decide) (br_f (by decide) (br_f (by decide) (br_f (by decide) h)))))))⟩)))⟩⟩⟩⟩⟩
theorem py_c1 {post : SY → Prop} (hi : vp_in qk 40) (e : ro qk.toNatClampNeg = 1) (h : post (qp, qn, pt_b (rr (rb qk.toNatClampNeg &&& 7).toNatClampNeg + rr (rd qk.toNatClampNeg &&& 7).toNatClampNeg + 0 = 0), pt_b (¬ 0 ≤ rr (rb qk.toNatClampNeg &&& 7).toNatClampNeg + rr (rd qk.toNatClampNeg &&& 7).toNatClampNeg + 0), pt_b (¬ (((rr (rb qk.toNatClampNeg &&& 7).toNatClampNeg).toInt64 &&& 4294967295) + ((rr (rd qk.toNatClampNeg &&& 7).toNatClampNeg).toInt64 &&& 4294967295)) + (0 : Int32).toInt64 ≤ 4294967295), pt_b (¬ ((rr (rb qk.toNatClampNeg &&& 7).toNatClampNeg).toInt64 + (rr (rd qk.toNatClampNeg &&& 7).toNatClampNeg).toInt64) + (0 : Int32).toInt64 = (rr (rb qk.toNatClampNeg &&& 7).toNatClampNeg + rr (rd qk.toNatClampNeg &&& 7).toNatClampNeg + 0).toInt64), qk + 1, qt, qw, rp, ro, ra, rb, rd, upd rr (ra qk.toNatClampNeg &&& 7).toNatClampNeg (rr (rb qk.toNatClampNeg &&& 7).toNatClampNeg + rr (rd qk.toNatClampNeg &&& 7).toNatClampNeg + 0), rc)) : wpY_carryOut post (qp, qn, qz, qg, qy, qv, qk, qt, qw, rp, ro, ra, rb, rd, rr, rc) :=
  ⟨hi, nm_r e ⟨hi, nm_e ⟨hi, pt_in7 _, nm_e ⟨hi, nm_e ⟨pt_in7 _, nm_e (nm_e (nm_e (br_f (by decide) (br_f (by decide) (br_f (by decide) (py_w1 ⟨pt_in7 _, nm_e (br_f (by decide) (br_f (by decide) (br_f (by decide) (br_f (by decide) (br_f (by decide) (br_f (by decide) h))))))⟩))))))⟩⟩⟩⟩⟩
theorem py_c2 {post : SY → Prop} (hi : vp_in qk 40) (e : ro qk.toNatClampNeg = 2) (h : post (qp, qn, pt_b (rr (rb qk.toNatClampNeg &&& 7).toNatClampNeg - rr (rd qk.toNatClampNeg &&& 7).toNatClampNeg = 0), pt_b (¬ 0 ≤ rr (rb qk.toNatClampNeg &&& 7).toNatClampNeg - rr (rd qk.toNatClampNeg &&& 7).toNatClampNeg), pt_b (¬ ((rr (rd qk.toNatClampNeg &&& 7).toNatClampNeg).toInt64 &&& 4294967295) ≤ ((rr (rb qk.toNatClampNeg &&& 7).toNatClampNeg).toInt64 &&& 4294967295)), pt_b (¬ (rr (rb qk.toNatClampNeg &&& 7).toNatClampNeg).toInt64 - (rr (rd qk.toNatClampNeg &&& 7).toNatClampNeg).toInt64 = (rr (rb qk.toNatClampNeg &&& 7).toNatClampNeg - rr (rd qk.toNatClampNeg &&& 7).toNatClampNeg).toInt64), qk + 1, qt, qw, rp, ro, ra, rb, rd, upd rr (ra qk.toNatClampNeg &&& 7).toNatClampNeg (rr (rb qk.toNatClampNeg &&& 7).toNatClampNeg - rr (rd qk.toNatClampNeg &&& 7).toNatClampNeg), rc)) : wpY_carryOut post (qp, qn, qz, qg, qy, qv, qk, qt, qw, rp, ro, ra, rb, rd, rr, rc) :=
  ⟨hi, nm_r e ⟨hi, nm_e ⟨hi, pt_in7 _, nm_e ⟨hi, nm_e ⟨pt_in7 _, nm_e (nm_e (nm_e (br_f (by decide) (br_f (by decide) (br_f (by decide) (py_w2 ⟨pt_in7 _, nm_e (br_f (by decide) (br_f (by decide) (br_f (by decide) (br_f (by decide) (br_f (by decide) (br_f (by decide) h))))))⟩))))))⟩⟩⟩⟩⟩
theorem py_c3 {post : SY → Prop} (hi : vp_in qk 40) (e : ro qk.toNatClampNeg = 3) (h : post (qp, qn, pt_b (rr (rb qk.toNatClampNeg &&& 7).toNatClampNeg &&& rr (rd qk.toNatClampNeg &&& 7).toNatClampNeg = 0), pt_b (¬ 0 ≤ rr (rb qk.toNatClampNeg &&& 7).toNatClampNeg &&& rr (rd qk.toNatClampNeg &&& 7).toNatClampNeg), 0, 0, qk + 1, qt, qw, rp, ro, ra, rb, rd, upd rr (ra qk.toNatClampNeg &&& 7).toNatClampNeg (rr (rb qk.toNatClampNeg &&& 7).toNatClampNeg &&& rr (rd qk.toNatClampNeg &&& 7).toNatClampNeg), rc)) : wpY_carryOut post (qp, qn, qz, qg, qy, qv, qk, qt, qw, rp, ro, ra, rb, rd, rr, rc) :=
  ⟨hi, nm_r e ⟨hi, nm_e ⟨hi, pt_in7 _, nm_e ⟨hi, nm_e ⟨pt_in7 _, nm_e (nm_e (nm_e (br_f (by decide) (br_f (by decide) (br_f (by decide) (py_w3 ⟨pt_in7 _, nm_e (br_f (by decide) (br_f (by decide) (br_f (by decide) (br_f (by decide) (br_f (by decide) (br_f (by decide) h))))))⟩))))))⟩⟩⟩⟩⟩
theorem py_c4 {post : SY → Prop} (hi : vp_in qk 40) (e : ro qk.toNatClampNeg = 4) (h : post (qp, qn, pt_b (rr (rb qk.toNatClampNeg &&& 7).toNatClampNeg ^^^ rr (rd qk.toNatClampNeg &&& 7).toNatClampNeg = 0), pt_b (¬ 0 ≤ rr (rb qk.toNatClampNeg &&& 7).toNatClampNeg ^^^ rr (rd qk.toNatClampNeg &&& 7).toNatClampNeg), 0, 0, qk + 1, qt, qw, rp, ro, ra, rb, rd, upd rr (ra qk.toNatClampNeg &&& 7).toNatClampNeg (rr (rb qk.toNatClampNeg &&& 7).toNatClampNeg ^^^ rr (rd qk.toNatClampNeg &&& 7).toNatClampNeg), rc)) : wpY_carryOut post (qp, qn, qz, qg, qy, qv, qk, qt, qw, rp, ro, ra, rb, rd, rr, rc) :=
  ⟨hi, nm_r e ⟨hi, nm_e ⟨hi, pt_in7 _, nm_e ⟨hi, nm_e ⟨pt_in7 _, nm_e (nm_e (nm_e (br_f (by decide) (br_f (by decide) (br_f (by decide) (py_w4 ⟨pt_in7 _, nm_e (br_f (by decide) (br_f (by decide) (br_f (by decide) (br_f (by decide) (br_f (by decide) (br_f (by decide) h))))))⟩))))))⟩⟩⟩⟩⟩
theorem py_c5 {post : SY → Prop} (hi : vp_in qk 40) (e : ro qk.toNatClampNeg = 5) (h : post (qp, qn, pt_b (rr (rb qk.toNatClampNeg &&& 7).toNatClampNeg + rr (rd qk.toNatClampNeg &&& 7).toNatClampNeg + qy = 0), pt_b (¬ 0 ≤ rr (rb qk.toNatClampNeg &&& 7).toNatClampNeg + rr (rd qk.toNatClampNeg &&& 7).toNatClampNeg + qy), pt_b (¬ (((rr (rb qk.toNatClampNeg &&& 7).toNatClampNeg).toInt64 &&& 4294967295) + ((rr (rd qk.toNatClampNeg &&& 7).toNatClampNeg).toInt64 &&& 4294967295)) + (qy : Int32).toInt64 ≤ 4294967295), pt_b (¬ ((rr (rb qk.toNatClampNeg &&& 7).toNatClampNeg).toInt64 + (rr (rd qk.toNatClampNeg &&& 7).toNatClampNeg).toInt64) + (qy : Int32).toInt64 = (rr (rb qk.toNatClampNeg &&& 7).toNatClampNeg + rr (rd qk.toNatClampNeg &&& 7).toNatClampNeg + qy).toInt64), qk + 1, qt, qw, rp, ro, ra, rb, rd, upd rr (ra qk.toNatClampNeg &&& 7).toNatClampNeg (rr (rb qk.toNatClampNeg &&& 7).toNatClampNeg + rr (rd qk.toNatClampNeg &&& 7).toNatClampNeg + qy), rc)) : wpY_carryOut post (qp, qn, qz, qg, qy, qv, qk, qt, qw, rp, ro, ra, rb, rd, rr, rc) :=
  ⟨hi, nm_r e ⟨hi, nm_e ⟨hi, pt_in7 _, nm_e ⟨hi, nm_e ⟨pt_in7 _, nm_e (nm_e (nm_e (br_f (by decide) (br_f (by decide) (br_f (by decide) (py_w5 ⟨pt_in7 _, nm_e (br_f (by decide) (br_f (by decide) (br_f (by decide) (br_f (by decide) (br_f (by decide) (br_f (by decide) h))))))⟩))))))⟩⟩⟩⟩⟩
theorem py_c6 {post : SY → Prop} (hi : vp_in qk 40) (e : ro qk.toNatClampNeg = 6) (h : post (qp, qn, qz, qg, qy, qv, qk + 1, qt, qw, rp, ro, ra, rb, rd, upd rr (ra qk.toNatClampNeg &&& 7).toNatClampNeg (rr (rb qk.toNatClampNeg &&& 7).toNatClampNeg * rr (rd qk.toNatClampNeg &&& 7).toNatClampNeg), rc)) : wpY_carryOut post (qp, qn, qz, qg, qy, qv, qk, qt, qw, rp, ro, ra, rb, rd, rr, rc) :=
  ⟨hi, nm_r e ⟨hi, nm_e ⟨hi, pt_in7 _, nm_e ⟨hi, nm_e ⟨pt_in7 _, nm_e (nm_e (nm_e (br_f (by decide) (br_f (by decide) (br_t (by decide) (br_t rfl ⟨pt_in7 _, nm_e (br_f (by decide) (br_f (by decide) (br_f (by decide) (br_f (by decide) (br_f (by decide) h)))))⟩))))))⟩⟩⟩⟩⟩
theorem py_c7 {post : SY → Prop} (hi : vp_in qk 40) (e : ro qk.toNatClampNeg = 7) (hy : ¬ rr (rd qk.toNatClampNeg &&& 7).toNatClampNeg = 0) (h : post (qp, qn, qz, qg, qy, qv, qk + 1, qt, qw, rp, ro, ra, rb, rd, upd rr (ra qk.toNatClampNeg &&& 7).toNatClampNeg (rr (rb qk.toNatClampNeg &&& 7).toNatClampNeg / rr (rd qk.toNatClampNeg &&& 7).toNatClampNeg), rc)) : wpY_carryOut post (qp, qn, qz, qg, qy, qv, qk, qt, qw, rp, ro, ra, rb, rd, rr, rc) :=
  ⟨hi, nm_r e ⟨hi, nm_e ⟨hi, pt_in7 _, nm_e ⟨hi, nm_e ⟨pt_in7 _, nm_e (nm_e (nm_e (br_f (by decide) (br_f (by decide) (br_t (by decide) (br_f (by decide) (br_t rfl (py_quo hy ⟨pt_in7 _, nm_e (br_f (by decide) (br_f (by decide) (br_f (by decide) (br_f (by decide) h))))⟩))))))))⟩⟩⟩⟩⟩
theorem py_c8 {post : SY → Prop} (hi : vp_in qk 40) (e : ro qk.toNatClampNeg = 8) (h : post (qp, qn, qz, qg, qy, qv, qk + 1, qt, qw, rp, ro, ra, rb, rd, upd rr (ra qk.toNatClampNeg &&& 7).toNatClampNeg (rr (rb qk.toNatClampNeg &&& 7).toNatClampNeg <<< ((rd qk.toNatClampNeg &&& 31) &&& 31)), rc)) : wpY_carryOut post (qp, qn, qz, qg, qy, qv, qk, qt, qw, rp, ro, ra, rb, rd, rr, rc) :=
  ⟨hi, nm_r e ⟨hi, nm_e ⟨hi, pt_in7 _, nm_e ⟨hi, nm_e ⟨pt_in7 _, nm_e (nm_e (nm_e (br_f (by decide) (br_f (by decide) (br_t (by decide) (br_f (by decide) (br_f (by decide) (br_t rfl ⟨pt_in7 _, nm_e (br_f (by decide) (br_f (by decide) (br_f (by decide) h)))⟩))))))))⟩⟩⟩⟩⟩
theorem px_s9O {post : Int32 → SX → Prop} {p : Nat} (ha : rr (rb qk.toNatClampNeg &&& 7).toNatClampNeg + rd qk.toNatClampNeg < 0 ∨ nI (8 * p) ≤ rr (rb qk.toNatClampNeg &&& 7).toNatClampNeg + rd qk.toNatClampNeg) (h0 : ¬ qk < 0) (h1 : qk < qn) (hi : vp_in qk 40) (e : ro qk.toNatClampNeg = 9) (h : post 3 (qp, nI (8 * p), qn, qz, qg, qy, qv, qk, qt, rr (rb qk.toNatClampNeg &&& 7).toNatClampNeg + rd qk.toNatClampNeg, rr, rc, rp, ro, ra, rb, rd)) : wpX_step post (qp, nI (8 * p), qn, qz, qg, qy, qv, qk, qt, qw, rr, rc, rp, ro, ra, rb, rd) :=
  br_f h0 (br_t h1 ⟨hi, nm_r e (br_f (by decide) ⟨hi, nm_e ⟨hi, nm_e ⟨hi, nm_e (br_f (by decide) (br_t rfl ⟨pt_in7 _, px_ldO ha (br_f (by decide) h)⟩))⟩⟩⟩)⟩)
theorem px_s9N {post : Int32 → SX → Prop} {p j : Nat} (hp4 : p ≤ 4) (hj : j < 8 * p) (ea : rr (rb qk.toNatClampNeg &&& 7).toNatClampNeg + rd qk.toNatClampNeg = nI j) (h0 : ¬ qk < 0) (h1 : qk < qn) (hi : vp_in qk 40) (e : ro qk.toNatClampNeg = 9) (hr : rp (nI (j / 8)).toNatClampNeg = 0) (h : post 4 (qp, nI (8 * p), qn, qz, qg, qy, qv, qk, qt, rr (rb qk.toNatClampNeg &&& 7).toNatClampNeg + rd qk.toNatClampNeg, rr, rc, rp, ro, ra, rb, rd)) : wpX_step post (qp, nI (8 * p), qn, qz, qg, qy, qv, qk, qt, qw, rr, rc, rp, ro, ra, rb, rd) :=
  br_f h0 (br_t h1 ⟨hi, nm_r e (br_f (by decide) ⟨hi, nm_e ⟨hi, nm_e ⟨hi, nm_e (br_f (by decide) (br_t rfl ⟨pt_in7 _, px_ldN hp4 hj ea hr (br_f (by decide) h)⟩))⟩⟩⟩)⟩)
theorem px_s9K {post : Int32 → SX → Prop} {p j : Nat} (hp4 : p ≤ 4) (hj : j < 8 * p) (ea : rr (rb qk.toNatClampNeg &&& 7).toNatClampNeg + rd qk.toNatClampNeg = nI j) (h0 : ¬ qk < 0) (h1 : qk < qn) (hi : vp_in qk 40) (e : ro qk.toNatClampNeg = 9) (hr : ¬ rp (nI (j / 8)).toNatClampNeg = 0) (h : post (-1) (qp, nI (8 * p), qn, qz, qg, qy, qv, qk + 1, qt, qw, upd rr (ra qk.toNatClampNeg &&& 7).toNatClampNeg (rc (nI j).toNatClampNeg), rc, rp, ro, ra, rb, rd)) : wpX_step post (qp, nI (8 * p), qn, qz, qg, qy, qv, qk, qt, qw, rr, rc, rp, ro, ra, rb, rd) :=
  br_f h0 (br_t h1 ⟨hi, nm_r e (br_f (by decide) ⟨hi, nm_e ⟨hi, nm_e ⟨hi, nm_e (br_f (by decide) (br_t rfl ⟨pt_in7 _, px_ldK (pt_in7 _) hp4 hj ea hr (br_t rfl (nm_e h))⟩))⟩⟩⟩)⟩)
theorem py_c9 {post : SY → Prop} {p j : Nat} (hp4 : p ≤ 4) (hj : j < 8 * p) (ea : rr (rb qk.toNatClampNeg &&& 7).toNatClampNeg + rd qk.toNatClampNeg = nI j) (hi : vp_in qk 40) (e : ro qk.toNatClampNeg = 9) (h : post (nI p, qn, qz, qg, qy, qv, qk + 1, qt, qw, rp, ro, ra, rb, rd, upd rr (ra qk.toNatClampNeg &&& 7).toNatClampNeg (rc (nI j).toNatClampNeg), rc)) : wpY_carryOut post (nI p, qn, qz, qg, qy, qv, qk, qt, qw, rp, ro, ra, rb, rd, rr, rc) :=
  ⟨hi, nm_r e ⟨hi, nm_e ⟨hi, pt_in7 _, nm_e ⟨hi, nm_e ⟨pt_in7 _, nm_e (nm_r ea (nm_e (br_f (by decide) (br_f (by decide) (br_t (by decide) (br_f (by decide) (br_f (by decide) (br_f (by decide) (br_t rfl (py_inn hp4 hj (br_f pt_10 ⟨vp_in_nI (by omega) (by omega), pt_in7 _, nm_e (br_f (by decide) (br_f (by decide) h))⟩)))))))))))⟩⟩⟩⟩⟩
theorem px_s10O {post : Int32 → SX → Prop} {p : Nat} (ha : rr (rb qk.toNatClampNeg &&& 7).toNatClampNeg + rd qk.toNatClampNeg < 0 ∨ nI (8 * p) ≤ rr (rb qk.toNatClampNeg &&& 7).toNatClampNeg + rd qk.toNatClampNeg) (h0 : ¬ qk < 0) (h1 : qk < qn) (hi : vp_in qk 40) (e : ro qk.toNatClampNeg = 10) (h : post 3 (qp, nI (8 * p), qn, qz, qg, qy, qv, qk, qt, rr (rb qk.toNatClampNeg &&& 7).toNatClampNeg + rd qk.toNatClampNeg, rr, rc, rp, ro, ra, rb, rd)) : wpX_step post (qp, nI (8 * p), qn, qz, qg, qy, qv, qk, qt, qw, rr, rc, rp, ro, ra, rb, rd) :=
  br_f h0 (br_t h1 ⟨hi, nm_r e (br_f (by decide) ⟨hi, nm_e ⟨hi, nm_e ⟨hi, nm_e (br_f (by decide) (br_f (by decide) (br_t rfl ⟨pt_in7 _, px_stO ha (br_f (by decide) h)⟩)))⟩⟩⟩)⟩)
theorem px_s10N {post : Int32 → SX → Prop} {p j : Nat} (hp4 : p ≤ 4) (hj : j < 8 * p) (ea : rr (rb qk.toNatClampNeg &&& 7).toNatClampNeg + rd qk.toNatClampNeg = nI j) (h0 : ¬ qk < 0) (h1 : qk < qn) (hi : vp_in qk 40) (e : ro qk.toNatClampNeg = 10) (hr : ¬ rp (nI (j / 8)).toNatClampNeg = 2) (h : post 5 (qp, nI (8 * p), qn, qz, qg, qy, qv, qk, qt, rr (rb qk.toNatClampNeg &&& 7).toNatClampNeg + rd qk.toNatClampNeg, rr, rc, rp, ro, ra, rb, rd)) : wpX_step post (qp, nI (8 * p), qn, qz, qg, qy, qv, qk, qt, qw, rr, rc, rp, ro, ra, rb, rd) :=
  br_f h0 (br_t h1 ⟨hi, nm_r e (br_f (by decide) ⟨hi, nm_e ⟨hi, nm_e ⟨hi, nm_e (br_f (by decide) (br_f (by decide) (br_t rfl ⟨pt_in7 _, px_stN hp4 hj ea hr (br_f (by decide) h)⟩)))⟩⟩⟩)⟩)
theorem px_s10K {post : Int32 → SX → Prop} {p j : Nat} (hp4 : p ≤ 4) (hj : j < 8 * p) (ea : rr (rb qk.toNatClampNeg &&& 7).toNatClampNeg + rd qk.toNatClampNeg = nI j) (h0 : ¬ qk < 0) (h1 : qk < qn) (hi : vp_in qk 40) (e : ro qk.toNatClampNeg = 10) (hr : rp (nI (j / 8)).toNatClampNeg = 2) (h : post (-1) (qp, nI (8 * p), qn, qz, qg, qy, qv, qk + 1, qt, qw, rr, upd rc (nI j).toNatClampNeg (rr (ra qk.toNatClampNeg &&& 7).toNatClampNeg), rp, ro, ra, rb, rd)) : wpX_step post (qp, nI (8 * p), qn, qz, qg, qy, qv, qk, qt, qw, rr, rc, rp, ro, ra, rb, rd) :=
  br_f h0 (br_t h1 ⟨hi, nm_r e (br_f (by decide) ⟨hi, nm_e ⟨hi, nm_e ⟨hi, nm_e (br_f (by decide) (br_f (by decide) (br_t rfl ⟨pt_in7 _, px_stK (pt_in7 _) hp4 hj ea hr (br_t rfl (nm_e h))⟩)))⟩⟩⟩)⟩)
theorem py_c10 {post : SY → Prop} {p j : Nat} (hp4 : p ≤ 4) (hj : j < 8 * p) (ea : rr (rb qk.toNatClampNeg &&& 7).toNatClampNeg + rd qk.toNatClampNeg = nI j) (hi : vp_in qk 40) (e : ro qk.toNatClampNeg = 10) (h : post (nI p, qn, qz, qg, qy, qv, qk + 1, qt, qw, rp, ro, ra, rb, rd, rr, upd rc (nI j).toNatClampNeg (rr (ra qk.toNatClampNeg &&& 7).toNatClampNeg))) : wpY_carryOut post (nI p, qn, qz, qg, qy, qv, qk, qt, qw, rp, ro, ra, rb, rd, rr, rc) :=
  ⟨hi, nm_r e ⟨hi, nm_e ⟨hi, pt_in7 _, nm_e ⟨hi, nm_e ⟨pt_in7 _, nm_e (nm_r ea (nm_e (br_f (by decide) (br_f (by decide) (br_t (by decide) (br_f (by decide) (br_f (by decide) (br_f (by decide) (br_f (by decide) (br_t rfl (py_inn hp4 hj (br_f pt_10 ⟨pt_in7 _, vp_in_nI (by omega) (by omega), nm_e (br_f (by decide) h)⟩))))))))))))⟩⟩⟩⟩⟩
theorem px_s12 {post : Int32 → SX → Prop} (h0 : ¬ qk < 0) (h1 : qk < qn) (hi : vp_in qk 40) (e : ro qk.toNatClampNeg = 12) (h : post 1 (qp, qc, qn, qz, qg, qy, qv, qk, qt, qw, rr, rc, rp, ro, ra, rb, rd)) : wpX_step post (qp, qc, qn, qz, qg, qy, qv, qk, qt, qw, rr, rc, rp, ro, ra, rb, rd) :=
  br_f h0 (br_t h1 ⟨hi, nm_r e (br_t rfl h)⟩)
theorem py_o12 {post : Int32 → Prop} (h0 : ¬ qk < 0) (h1 : qk < qn) (hi : vp_in qk 40) (e : ro qk.toNatClampNeg = 12) (h : post 1) : wpY_obstacle post (qp, qn, qz, qg, qy, qv, qk, qt, qw, rp, ro, ra, rb, rd, rr, rc) :=
  br_f h0 (br_t h1 ⟨hi, nm_r e (br_t rfl h)⟩)
theorem px_s11 {post : Int32 → SX → Prop} (h0 : ¬ qk < 0) (h1 : qk < qn) (hi : vp_in qk 40) (e : ro qk.toNatClampNeg = 11) {r : Int32} (hX : ∀ post : Int32 → Prop, post r → wpX_holds post (qp, qc, qn, qz, qg, qy, qv, qk, qt, qw, rr, rc, rp, ro, ra, rb, rd) (ra qk.toNatClampNeg &&& 7)) (h0' : r = 0 → post (-1) (qp, qc, qn, qz, qg, qy, qv, qk + 1, qt, qw, rr, rc, rp, ro, ra, rb, rd)) (h1' : ¬ r = 0 → post (-1) (qp, qc, qn, qz, qg, qy, qv, rd qk.toNatClampNeg, qt, qw, rr, rc, rp, ro, ra, rb, rd)) : wpX_step post (qp, qc, qn, qz, qg, qy, qv, qk, qt, qw, rr, rc, rp, ro, ra, rb, rd) :=
  br_f h0 (br_t h1 ⟨hi, nm_r e (br_f (by decide) ⟨hi, nm_e ⟨hi, nm_e ⟨hi, nm_e (br_t rfl (hX _ (br_c (fun z => nm_e (h0' z)) h1')))⟩⟩⟩)⟩)
theorem py_c11 {post : SY → Prop} (hi : vp_in qk 40) (e : ro qk.toNatClampNeg = 11) {r : Int32} (hY : ∀ post : Int32 → Prop, post r → wpY_holds post (qp, qn, qz, qg, qy, qv, qk, qt, qw, rp, ro, ra, rb, rd, rr, rc) (ra qk.toNatClampNeg &&& 7)) (h0' : r = 0 → post (qp, qn, qz, qg, qy, qv, qk + 1, qt, qw, rp, ro, ra, rb, rd, rr, rc)) (h1' : ¬ r = 0 → post (qp, qn, qz, qg, qy, qv, rd qk.toNatClampNeg, qt, qw, rp, ro, ra, rb, rd, rr, rc)) : wpY_carryOut post (qp, qn, qz, qg, qy, qv, qk, qt, qw, rp, ro, ra, rb, rd, rr, rc) :=
  ⟨hi, nm_r e ⟨hi, nm_e ⟨hi, pt_in7 _, nm_e ⟨hi, nm_e ⟨pt_in7 _, nm_e (nm_e (nm_e (br_f (by decide) (br_f (by decide) (br_t (by decide) (br_f (by decide) (br_f (by decide) (br_f (by decide) (br_f (by decide) (br_f (by decide) (br_t rfl (hY _ (br_c h0' h1')))))))))))))⟩⟩⟩⟩⟩
end
end
section
/-! one step of both sides -/
section
variable {qp qc qn qz qg qy qv qk qt qw : Int32} {rr rc rp ro ra rb rd : Nat → Int32}
theorem pt_step (hI : pt_I qp qc qn rp ro) :
    (∃ r : Int32, (r = 1 ∨ r = 2 ∨ r = 6) ∧ (∀ post : Int32 → SX → Prop, post r (qp, qc, qn, qz, qg, qy, qv, qk, qt, qw, rr, rc, rp, ro, ra, rb, rd) → wpX_step post (qp, qc, qn, qz, qg, qy, qv, qk, qt, qw, rr, rc, rp, ro, ra, rb, rd)) ∧ (∀ post : Int32 → Prop, post r → wpY_obstacle post (qp, qn, qz, qg, qy, qv, qk, qt, qw, rp, ro, ra, rb, rd, rr, rc))) ∨
    (∃ r : Int32, (r = 3 ∨ r = 4 ∨ r = 5) ∧ vp_in qk 40 ∧ (∀ post : Int32 → SX → Prop, post r (qp, qc, qn, qz, qg, qy, qv, qk, qt, rr (rb qk.toNatClampNeg &&& 7).toNatClampNeg + rd qk.toNatClampNeg, rr, rc, rp, ro, ra, rb, rd) → wpX_step post (qp, qc, qn, qz, qg, qy, qv, qk, qt, qw, rr, rc, rp, ro, ra, rb, rd)) ∧ (∀ post : Int32 → Prop, post r → wpY_obstacle post (qp, qn, qz, qg, qy, qv, qk, qt, qw, rp, ro, ra, rb, rd, rr, rc))) ∨
    (∃ (z1 g1 y1 v1 k1 : Int32) (r1 c1 : Nat → Int32), (∀ post : Int32 → SX → Prop, post (-1) (qp, qc, qn, z1, g1, y1, v1, k1, qt, qw, r1, c1, rp, ro, ra, rb, rd) → wpX_step post (qp, qc, qn, qz, qg, qy, qv, qk, qt, qw, rr, rc, rp, ro, ra, rb, rd)) ∧ (∀ post : Int32 → Prop, post 0 → wpY_obstacle post (qp, qn, qz, qg, qy, qv, qk, qt, qw, rp, ro, ra, rb, rd, rr, rc)) ∧ (∀ post : SY → Prop, post (qp, qn, z1, g1, y1, v1, k1, qt, qw, rp, ro, ra, rb, rd, r1, c1) → wpY_carryOut post (qp, qn, qz, qg, qy, qv, qk, qt, qw, rp, ro, ra, rb, rd, rr, rc))) := by
  obtain ⟨p, n, hp1, hp4, rfl, rfl, hn, rfl, hrt, hop⟩ := hI
  by_cases h0 : qk < 0
  · exact Or.inl ⟨2, Or.inr (Or.inl rfl), fun post h => br_t h0 h, fun post h => br_t h0 h⟩
  by_cases h1 : qk < nI n
  case neg => exact Or.inl ⟨2, Or.inr (Or.inl rfl), fun post h => br_f h0 (br_f h1 h), fun post h => br_f h0 (br_f h1 h)⟩
  have hi : vp_in qk 40 := by
    obtain ⟨j, hj, rfl⟩ := nI_of h0
    rw [nI_ltI hj (by omega)] at h1
    exact vp_in_nI (by omega) (by omega)
  obtain ⟨o, ho, e⟩ := hop qk.toNatClampNeg
  have ho' : o = 0 ∨ o = 1 ∨ o = 2 ∨ o = 3 ∨ o = 4 ∨ o = 5 ∨ o = 6 ∨ o = 7 ∨ o = 8 ∨ o = 9 ∨ o = 10 ∨ o = 11 ∨ o = 12 := by omega
  rcases ho' with rfl | rfl | rfl | rfl | rfl | rfl | rfl | rfl | rfl | rfl | rfl | rfl | rfl
  · have e : ro qk.toNatClampNeg = 0 := e
    exact Or.inr (Or.inr ⟨_, _, _, _, _, _, _, fun post h => px_s0 h0 h1 hi e h, fun post h => py_oG h0 h1 hi e (by decide) (by decide) (by decide) (by decide) h, fun post h => py_c0 hi e h⟩)
  · have e : ro qk.toNatClampNeg = 1 := e
    exact Or.inr (Or.inr ⟨_, _, _, _, _, _, _, fun post h => px_s1 h0 h1 hi e h, fun post h => py_oG h0 h1 hi e (by decide) (by decide) (by decide) (by decide) h, fun post h => py_c1 hi e h⟩)
  · have e : ro qk.toNatClampNeg = 2 := e
    exact Or.inr (Or.inr ⟨_, _, _, _, _, _, _, fun post h => px_s2 h0 h1 hi e h, fun post h => py_oG h0 h1 hi e (by decide) (by decide) (by decide) (by decide) h, fun post h => py_c2 hi e h⟩)
  · have e : ro qk.toNatClampNeg = 3 := e
    exact Or.inr (Or.inr ⟨_, _, _, _, _, _, _, fun post h => px_s3 h0 h1 hi e h, fun post h => py_oG h0 h1 hi e (by decide) (by decide) (by decide) (by decide) h, fun post h => py_c3 hi e h⟩)
  · have e : ro qk.toNatClampNeg = 4 := e
    exact Or.inr (Or.inr ⟨_, _, _, _, _, _, _, fun post h => px_s4 h0 h1 hi e h, fun post h => py_oG h0 h1 hi e (by decide) (by decide) (by decide) (by decide) h, fun post h => py_c4 hi e h⟩)
  · have e : ro qk.toNatClampNeg = 5 := e
    exact Or.inr (Or.inr ⟨_, _, _, _, _, _, _, fun post h => px_s5 h0 h1 hi e h, fun post h => py_oG h0 h1 hi e (by decide) (by decide) (by decide) (by decide) h, fun post h => py_c5 hi e h⟩)
  · have e : ro qk.toNatClampNeg = 6 := e
    exact Or.inr (Or.inr ⟨_, _, _, _, _, _, _, fun post h => px_s6 h0 h1 hi e h, fun post h => py_oG h0 h1 hi e (by decide) (by decide) (by decide) (by decide) h, fun post h => py_c6 hi e h⟩)
  · have e : ro qk.toNatClampNeg = 7 := e
    by_cases hy : rr (rd qk.toNatClampNeg &&& 7).toNatClampNeg = 0
    · exact Or.inl ⟨6, Or.inr (Or.inr rfl), fun post h => px_s7z h0 h1 hi e hy h, fun post h => py_o7z h0 h1 hi e hy h⟩
    · exact Or.inr (Or.inr ⟨_, _, _, _, _, _, _, fun post h => px_s7 h0 h1 hi e hy h, fun post h => py_o7 h0 h1 hi e hy h, fun post h => py_c7 hi e hy h⟩)
  · have e : ro qk.toNatClampNeg = 8 := e
    exact Or.inr (Or.inr ⟨_, _, _, _, _, _, _, fun post h => px_s8 h0 h1 hi e h, fun post h => py_oG h0 h1 hi e (by decide) (by decide) (by decide) (by decide) h, fun post h => py_c8 hi e h⟩)
  · have e : ro qk.toNatClampNeg = 9 := e
    rcases pt_adr (rr (rb qk.toNatClampNeg &&& 7).toNatClampNeg + rd qk.toNatClampNeg) hp4 with ha | ⟨j, hj, ea⟩
    · exact Or.inr (Or.inl ⟨3, Or.inl rfl, hi, fun post h => px_s9O ha h0 h1 hi e h, fun post h => py_o9 h0 h1 hi e (py_obO hi rfl ha h)⟩)
    · by_cases hr : rp (nI (j / 8)).toNatClampNeg = 0
      · exact Or.inr (Or.inl ⟨4, Or.inr (Or.inl rfl), hi, fun post h => px_s9N hp4 hj ea h0 h1 hi e hr h, fun post h => py_o9 h0 h1 hi e (py_ob9 hi hp4 hj ea (fun _ => h) (fun z => absurd hr z))⟩)
      · exact Or.inr (Or.inr ⟨_, _, _, _, _, _, _, fun post h => px_s9K hp4 hj ea h0 h1 hi e hr h, fun post h => py_o9 h0 h1 hi e (py_ob9 hi hp4 hj ea (fun z => absurd z hr) (fun _ => h)), fun post h => py_c9 hp4 hj ea hi e h⟩)
  · have e : ro qk.toNatClampNeg = 10 := e
    rcases pt_adr (rr (rb qk.toNatClampNeg &&& 7).toNatClampNeg + rd qk.toNatClampNeg) hp4 with ha | ⟨j, hj, ea⟩
    · exact Or.inr (Or.inl ⟨3, Or.inl rfl, hi, fun post h => px_s10O ha h0 h1 hi e h, fun post h => py_o10 h0 h1 hi e (py_obO hi rfl ha h)⟩)
    · have h2 : rp (nI (j / 8)).toNatClampNeg = 2 ↔ 2 ≤ rp (nI (j / 8)).toNatClampNeg := by
        obtain ⟨r, hr, er⟩ := hrt (nI (j / 8)).toNatClampNeg
        have hr' : r = 0 ∨ r = 1 ∨ r = 2 := by omega
        rw [er]
        rcases hr' with rfl | rfl | rfl <;> decide
      by_cases hr : rp (nI (j / 8)).toNatClampNeg = 2
      · exact Or.inr (Or.inr ⟨_, _, _, _, _, _, _, fun post h => px_s10K hp4 hj ea h0 h1 hi e hr h, fun post h => py_o10 h0 h1 hi e (py_ob10 hi hp4 hj ea (fun _ => h) (fun z => absurd (h2.mp hr) z)), fun post h => py_c10 hp4 hj ea hi e h⟩)
      · exact Or.inr (Or.inl ⟨5, Or.inr (Or.inr rfl), hi, fun post h => px_s10N hp4 hj ea h0 h1 hi e hr h, fun post h => py_o10 h0 h1 hi e (py_ob10 hi hp4 hj ea (fun z => absurd (h2.mpr z) hr) (fun _ => h))⟩)
  · have e : ro qk.toNatClampNeg = 11 := e
    obtain ⟨r, hX, hY⟩ := pt_holds (qp := nI p) (qc := nI (8 * p)) (qn := nI n) (qz := qz) (qg := qg) (qy := qy) (qv := qv) (qk := qk) (qt := qt) (qw := qw) (rr := rr) (rc := rc) (rp := rp) (ro := ro) (ra := ra) (rb := rb) (rd := rd) (ra qk.toNatClampNeg)
    by_cases hr : r = 0
    · exact Or.inr (Or.inr ⟨_, _, _, _, _, _, _, fun post h => px_s11 h0 h1 hi e hX (fun _ => h) (fun z => absurd hr z), fun post h => py_oG h0 h1 hi e (by decide) (by decide) (by decide) (by decide) h, fun post h => py_c11 hi e hY (fun _ => h) (fun z => absurd hr z)⟩)
    · exact Or.inr (Or.inr ⟨_, _, _, _, _, _, _, fun post h => px_s11 h0 h1 hi e hX (fun z => absurd z hr) (fun _ => h), fun post h => py_oG h0 h1 hi e (by decide) (by decide) (by decide) (by decide) h, fun post h => py_c11 hi e hY (fun z => absurd z hr) (fun _ => h)⟩)
  · have e : ro qk.toNatClampNeg = 12 := e
    exact Or.inl ⟨1, Or.inl rfl, fun post h => px_s12 h0 h1 hi e h, fun post h => py_o12 h0 h1 hi e h⟩
end
end
section
/-! run and reset -/
section
variable {qp qc qn qz qg qy qv qk qt qw : Int32} {rr rc rp ro ra rb rd : Nat → Int32}
theorem pt_loop (m : Nat) (hm : m ≤ 300) (hI : pt_I qp qc qn rp ro) : ∀ (d i : Nat), i + d = m → ∀ (qz qg qy qv qk qw : Int32) (rr rc : Nat → Int32), ∃ (r z1 g1 y1 v1 k1 t1 w1 : Int32) (r1 c1 : Nat → Int32), (∀ post : Int32 → SX → Prop, post r (qp, qc, qn, z1, g1, y1, v1, k1, t1, w1, r1, c1, rp, ro, ra, rb, rd) → wX_run_21 post (nI m) (d + 1) (nI i) qp qc qn qz qg qy qv qk (nI i) qw rr rc rp ro ra rb rd) ∧ (∀ post : Int32 → SY → Prop, post r (qp, qn, z1, g1, y1, v1, k1, t1, w1, rp, ro, ra, rb, rd, r1, c1) → wY_run_35 post (nI m) (d + 1) (nI i) qp qn qz qg qy qv qk (nI i) qw rp ro ra rb rd rr rc) := by
  intro d
  induction d with
  | zero =>
    intro i hi qz qg qy qv qk qw rr rc
    have hl : nI m ≤ nI i := nI_le (by omega) (by omega)
    exact ⟨0, qz, qg, qy, qv, qk, nI i, qw, rr, rc, fun post h => br_t hl h, fun post h => br_t hl h⟩
  | succ d ih =>
    intro i hi qz qg qy qv qk qw rr rc
    have hl : ¬ nI m ≤ nI i := nI_ge (by omega) (by omega)
    rcases pt_step (qz := qz) (qg := qg) (qy := qy) (qv := qv) (qk := qk) (qt := nI i) (qw := qw) (rr := rr) (rc := rc) (ra := ra) (rb := rb) (rd := rd) hI with ⟨r, hr, hX, hO⟩ | ⟨r, hr, hin, hX, hO⟩ | ⟨z1, g1, y1, v1, k1, r1, c1, hX, hO, hC⟩
    · have n1 : ¬ r = -1 := by rcases hr with rfl | rfl | rfl <;> decide
      have n0 : ¬ r = 0 := by rcases hr with rfl | rfl | rfl <;> decide
      have n3 : ¬ r = 3 := by rcases hr with rfl | rfl | rfl <;> decide
      have n4 : ¬ r = 4 := by rcases hr with rfl | rfl | rfl <;> decide
      have n5 : ¬ r = 5 := by rcases hr with rfl | rfl | rfl <;> decide
      exact ⟨r, qz, qg, qy, qv, qk, nI i, qw, rr, rc, fun post h => br_f hl (hX _ (br_f n1 h)), fun post h => br_f hl (hO _ (br_f n0 (br_f n3 (br_f n4 (br_f n5 h)))))⟩
    · have n1 : ¬ r = -1 := by rcases hr with rfl | rfl | rfl <;> decide
      refine ⟨r, qz, qg, qy, qv, qk, nI i, _, rr, rc, fun post h => br_f hl (hX _ (br_f n1 h)), fun post h => br_f hl (hO _ ?_)⟩
      rcases hr with rfl | rfl | rfl
      · exact br_f (by decide) (br_t rfl ⟨hin, pt_in7 _, hin, nm_e h⟩)
      · exact br_f (by decide) (br_f (by decide) (br_t rfl ⟨hin, pt_in7 _, hin, nm_e h⟩))
      · exact br_f (by decide) (br_f (by decide) (br_f (by decide) (br_t rfl ⟨hin, pt_in7 _, hin, nm_e h⟩)))
    · obtain ⟨r, z2, g2, y2, v2, k2, t2, w2, r2, c2, iX, iY⟩ := ih (i + 1) (by omega) z1 g1 y1 v1 k1 qw r1 c1
      exact ⟨r, z2, g2, y2, v2, k2, t2, w2, r2, c2, fun post h => br_f hl (hX _ (br_t rfl (nm_r (nI_1 i) (nm_r (nI_1 i) (iX post h))))), fun post h => br_f hl (hO _ (br_t rfl (hC _ (nm_r (nI_1 i) (nm_r (nI_1 i) (iY post h))))))⟩
theorem px_run {post : Int32 → SX → Prop} {b r : Int32} (hr : (0 ≤ b ∧ b ≤ 300 ∧ r = b) ∨ (0 ≤ b ∧ ¬ b ≤ 300 ∧ r = 300) ∨ (¬ 0 ≤ b ∧ r = 0)) (h : ∃ n : Nat, wX_run_21 post r n 0 qp qc qn qz qg qy qv qk 0 0 rr rc rp ro ra rb rd) : wpX_run post (qp, qc, qn, qz, qg, qy, qv, qk, qt, qw, rr, rc, rp, ro, ra, rb, rd) b := by
  unfold wpX_run
  dsimp only
  exact px_clamp hr h
theorem py_run {post : Int32 → SY → Prop} {b r : Int32} (hr : (0 ≤ b ∧ b ≤ 300 ∧ r = b) ∨ (0 ≤ b ∧ ¬ b ≤ 300 ∧ r = 300) ∨ (¬ 0 ≤ b ∧ r = 0)) (h : ∃ n : Nat, wY_run_35 post r n 0 qp qn qz qg qy qv qk 0 0 rp ro ra rb rd rr rc) : wpY_run post (qp, qn, qz, qg, qy, qv, qk, qt, qw, rp, ro, ra, rb, rd, rr, rc) b :=
  pt_clP (post := fun r => wY_run_22 post r qp qn qz qg qy qv qk qt qw rp ro ra rb rd rr rc) hr h
theorem pt_rc (rr : Nat → Int32) : ∀ (d j : Nat), j + d = 32 → ∀ rc : Nat → Int32, ∃ c1 : Nat → Int32, (∀ post : SX → Prop, post (qp, qc, qn, 0, 0, 0, 0, 0, 0, 0, rr, c1, rp, ro, ra, rb, rd) → wX_reset_23 post qp qc qn qz qg qy qv qk qt qw (d + 1) (nI j) rr rc rp ro ra rb rd) ∧ (∀ post : SY → Prop, post (qp, qn, 0, 0, 0, 0, 0, 0, 0, rp, ro, ra, rb, rd, rr, c1) → wY_reset_23 post qp qn qz qg qy qv qk qt qw (d + 1) (nI j) rp ro ra rb rd rr rc) := by
  intro d
  induction d with
  | zero =>
    intro j hj rc
    have hl : (32 : Int32) ≤ nI j := nI_le (a := 32) (by omega) (by omega)
    refine ⟨rc, fun post h => br_t hl h, fun post h => br_t hl ?_⟩
    exact nm_r (e' := 0) rfl (nm_r (e' := 0) rfl (nm_r (e' := 0) rfl (nm_r (e' := 0) rfl h)))
  | succ d ih =>
    intro j hj rc
    have hl : ¬ (32 : Int32) ≤ nI j := nI_ge (b := 32) (by omega) (by omega)
    have hi : vp_in (nI j) 32 := vp_in_nI (by omega) (by omega)
    obtain ⟨c1, iX, iY⟩ := ih (j + 1) (by omega) (upd rc (nI j).toNatClampNeg 0)
    exact ⟨c1, fun post h => br_f hl ⟨hi, nm_e (nm_r (nI_1 j) (iX post h))⟩, fun post h => br_f hl ⟨hi, nm_e (nm_r (nI_1 j) (iY post h))⟩⟩
theorem pt_rr (rc : Nat → Int32) : ∀ (d j : Nat), j + d = 8 → ∀ rr : Nat → Int32, ∃ r1 c1 : Nat → Int32, (∀ post : SX → Prop, post (qp, qc, qn, 0, 0, 0, 0, 0, 0, 0, r1, c1, rp, ro, ra, rb, rd) → wX_reset_2 post qp qc qn qz qg qy qv qk qt qw (d + 1) (nI j) rr rc rp ro ra rb rd) ∧ (∀ post : SY → Prop, post (qp, qn, 0, 0, 0, 0, 0, 0, 0, rp, ro, ra, rb, rd, r1, c1) → wY_reset_2 post qp qn qz qg qy qv qk qt qw (d + 1) (nI j) rp ro ra rb rd rr rc) := by
  intro d
  induction d with
  | zero =>
    intro j hj rr
    have hl : (8 : Int32) ≤ nI j := nI_le (a := 8) (by omega) (by omega)
    obtain ⟨c1, iX, iY⟩ := pt_rc (qp := qp) (qc := qc) (qn := qn) (qz := qz) (qg := qg) (qy := qy) (qv := qv) (qk := qk) (qt := qt) (qw := qw) (rp := rp) (ro := ro) (ra := ra) (rb := rb) (rd := rd) rr 32 0 (by omega) rc
    exact ⟨rr, c1, fun post h => br_t hl ⟨_, iX post h⟩, fun post h => br_t hl ⟨_, iY post h⟩⟩
  | succ d ih =>
    intro j hj rr
    have hl : ¬ (8 : Int32) ≤ nI j := nI_ge (b := 8) (by omega) (by omega)
    have hi : vp_in (nI j) 8 := vp_in_nI (by omega) (by omega)
    obtain ⟨r1, c1, iX, iY⟩ := ih (j + 1) (by omega) (upd rr (nI j).toNatClampNeg 0)
    exact ⟨r1, c1, fun post h => br_f hl ⟨hi, nm_e (nm_r (nI_1 j) (iX post h))⟩, fun post h => br_f hl ⟨hi, nm_e (nm_r (nI_1 j) (iY post h))⟩⟩
end
theorem i_vc_run {k : Nat} {u : SX} {v : SY} (I : i_Rel k u v) (hk : k + 5 ≤ 2562) (v1 : Int32) : wpX_run (fun r u' => wpY_run (fun r' v' => r' = r ∧ i_Rel (k + 5) u' v') v v1) u v1 := by
  obtain ⟨qp, qc, qn, qz, qg, qy, qv, qk, qt, qw, rr, rc, rp, ro, ra, rb, rd, rfl, rfl, hI⟩ := I
  obtain ⟨m, hm0, hm, hr⟩ := pt_cl v1 (a := 0) (b := 300) (by omega) (by omega)
  obtain ⟨r, z1, g1, y1, w1, k1, t1, a1, r1, c1, iX, iY⟩ := pt_loop (ra := ra) (rb := rb) (rd := rd) m hm hI m 0 (by omega) qz qg qy qv qk 0 rr rc
  exact px_run hr ⟨_, iX _ (py_run hr ⟨_, iY _ ⟨rfl, pt_mk hI⟩⟩)⟩
theorem i_vc_reset {k : Nat} {u : SX} {v : SY} (I : i_Rel k u v) (hk : k + 5 ≤ 2562) : wpX_reset (fun u' => wpY_reset (fun v' => i_Rel (k + 5) u' v') v) u := by
  obtain ⟨qp, qc, qn, qz, qg, qy, qv, qk, qt, qw, rr, rc, rp, ro, ra, rb, rd, rfl, rfl, hI⟩ := I
  obtain ⟨r1, c1, iX, iY⟩ := pt_rr (qp := qp) (qc := qc) (qn := qn) (qz := qz) (qg := qg) (qy := qy) (qv := qv) (qk := qk) (qt := qt) (qw := qw) (rp := rp) (ro := ro) (ra := ra) (rb := rb) (rd := rd) rc 8 0 (by omega) rr
  exact ⟨_, iX _ ⟨_, iY _ (pt_mk (k := k) hI)⟩⟩
end
