/-! the pieces of one step, each at its own method's name, for every post -/
theorem pt_10 : ¬ (1 : Int32) = 0 := by decide
theorem pt_bnf {c : Prop} (h : c) : pt_b (¬ c) = 0 := pt_bf (fun z => z h)
section
variable {qp qc qn qz qg qy qv qk qt qw : Int32} {rr rc rp ro ra rb rd : Nat → Int32}
theorem px_put {post : SX → Prop} {t r c1 c2 : Int32} (ht : vp_in t 8) (h1 : c1 = 0 ∨ c1 = 1) (h2 : c2 = 0 ∨ c2 = 1) (h : post (qp, qc, qn, pt_b (r = 0), pt_b (¬ 0 ≤ r), c1, c2, qk, qt, qw, upd rr t.toNatClampNeg r, rc, rp, ro, ra, rb, rd)) : wpX_putResult post (qp, qc, qn, qz, qg, qy, qv, qk, qt, qw, rr, rc, rp, ro, ra, rb, rd) t r c1 c2 := by
  refine ⟨ht, nm_e ?_⟩
  refine br_c (fun h0 => ?_) (fun h0 => ?_) <;> refine br_c (fun h3 => ?_) (fun h3 => ?_)
  all_goals
    first
      | rw [pt_bt h0] at h
      | rw [pt_bf h0] at h
    first
      | rw [pt_bt h3] at h
      | rw [pt_bnf h3] at h
    rcases h1 with rfl | rfl <;> rcases h2 with rfl | rfl
    · exact br_t rfl (br_t rfl h)
    · exact br_t rfl (br_f pt_10 h)
    · exact br_f pt_10 (br_t rfl h)
    · exact br_f pt_10 (br_f pt_10 h)
theorem py_sig {post : SY → Prop} {r c1 c2 : Int32} (h1 : c1 = 0 ∨ c1 = 1) (h2 : c2 = 0 ∨ c2 = 1) (h : post (qp, qn, pt_b (r = 0), pt_b (¬ 0 ≤ r), c1, c2, qk, qt, qw, rp, ro, ra, rb, rd, rr, rc)) : wpY_signs post (qp, qn, qz, qg, qy, qv, qk, qt, qw, rp, ro, ra, rb, rd, rr, rc) r c1 c2 := by
  refine br_c (fun h0 => ?_) (fun h0 => ?_) <;> refine br_c (fun h3 => ?_) (fun h3 => ?_)
  all_goals
    first
      | rw [pt_bt h0] at h
      | rw [pt_bf h0] at h
    first
      | rw [pt_bt h3] at h
      | rw [pt_bnf h3] at h
    rcases h1 with rfl | rfl <;> rcases h2 with rfl | rfl
    · exact br_t rfl (br_t rfl h)
    · exact br_t rfl (br_f pt_10 h)
    · exact br_f pt_10 (br_t rfl h)
    · exact br_f pt_10 (br_f pt_10 h)
theorem px_add {post : SX → Prop} {t x y m : Int32} (ht : vp_in t 8) (h : post (qp, qc, qn, pt_b (x + y + m = 0), pt_b (¬ 0 ≤ x + y + m), pt_b (¬ ((x.toInt64 &&& 4294967295) + (y.toInt64 &&& 4294967295)) + m.toInt64 ≤ 4294967295), pt_b (¬ (x.toInt64 + y.toInt64) + m.toInt64 = (x + y + m).toInt64), qk, qt, qw, upd rr t.toNatClampNeg (x + y + m), rc, rp, ro, ra, rb, rd)) : wpX_add post (qp, qc, qn, qz, qg, qy, qv, qk, qt, qw, rr, rc, rp, ro, ra, rb, rd) t x y m := by
  intro x5 e5 x7 e7
  have e9 : x7.toInt32 = x + y + m := by rw [e7, pt_sum]
  rw [e9]
  rw [← e5, ← e7] at h
  refine br_c (fun h5 => ?_) (fun h5 => ?_) <;> refine br_c (fun h7 => ?_) (fun h7 => ?_)
  · rw [pt_bnf h5, pt_bnf h7] at h; exact px_put ht (Or.inl rfl) (Or.inl rfl) h
  · rw [pt_bnf h5, pt_bt h7] at h; exact px_put ht (Or.inl rfl) (Or.inr rfl) h
  · rw [pt_bt h5, pt_bnf h7] at h; exact px_put ht (Or.inr rfl) (Or.inl rfl) h
  · rw [pt_bt h5, pt_bt h7] at h; exact px_put ht (Or.inr rfl) (Or.inr rfl) h
theorem py_sum {post : Int32 → SY → Prop} {x y m : Int32} (h : post (x + y + m) (qp, qn, pt_b (x + y + m = 0), pt_b (¬ 0 ≤ x + y + m), pt_b (¬ ((x.toInt64 &&& 4294967295) + (y.toInt64 &&& 4294967295)) + m.toInt64 ≤ 4294967295), pt_b (¬ (x.toInt64 + y.toInt64) + m.toInt64 = (x + y + m).toInt64), qk, qt, qw, rp, ro, ra, rb, rd, rr, rc)) : wpY_sum post (qp, qn, qz, qg, qy, qv, qk, qt, qw, rp, ro, ra, rb, rd, rr, rc) x y m := by
  refine nm_e ?_
  intro x5 e5
  unfold wpY_bare
  intro x7 e7
  rw [← e7, ← e5] at h
  refine br_c (fun h5 => ?_) (fun h5 => ?_) <;> refine br_c (fun h7 => ?_) (fun h7 => ?_) <;> rw [← pt_cmp] at h5
  · rw [pt_bnf h5, pt_bnf h7] at h; exact py_sig (Or.inl rfl) (Or.inl rfl) h
  · rw [pt_bnf h5, pt_bt h7] at h; exact py_sig (Or.inl rfl) (Or.inr rfl) h
  · rw [pt_bt h5, pt_bnf h7] at h; exact py_sig (Or.inr rfl) (Or.inl rfl) h
  · rw [pt_bt h5, pt_bt h7] at h; exact py_sig (Or.inr rfl) (Or.inr rfl) h
theorem px_sub {post : SX → Prop} {t x y : Int32} (ht : vp_in t 8) (h : post (qp, qc, qn, pt_b (x - y = 0), pt_b (¬ 0 ≤ x - y), pt_b (¬ (y.toInt64 &&& 4294967295) ≤ (x.toInt64 &&& 4294967295)), pt_b (¬ x.toInt64 - y.toInt64 = (x - y).toInt64), qk, qt, qw, upd rr t.toNatClampNeg (x - y), rc, rp, ro, ra, rb, rd)) : wpX_subtract post (qp, qc, qn, qz, qg, qy, qv, qk, qt, qw, rr, rc, rp, ro, ra, rb, rd) t x y := by
  intro x4 e4
  have e9 : x4.toInt32 = x - y := by rw [e4, pt_dif]
  rw [e9]
  rw [← e4] at h
  refine br_c (fun h5 => ?_) (fun h5 => ?_) <;> refine br_c (fun h7 => ?_) (fun h7 => ?_)
  · rw [pt_bnf h5, pt_bnf h7] at h; exact px_put ht (Or.inl rfl) (Or.inl rfl) h
  · rw [pt_bnf h5, pt_bt h7] at h; exact px_put ht (Or.inl rfl) (Or.inr rfl) h
  · rw [pt_bt h5, pt_bnf h7] at h; exact px_put ht (Or.inr rfl) (Or.inl rfl) h
  · rw [pt_bt h5, pt_bt h7] at h; exact px_put ht (Or.inr rfl) (Or.inr rfl) h
theorem py_dif {post : Int32 → SY → Prop} {x y : Int32} (h : post (x - y) (qp, qn, pt_b (x - y = 0), pt_b (¬ 0 ≤ x - y), pt_b (¬ (y.toInt64 &&& 4294967295) ≤ (x.toInt64 &&& 4294967295)), pt_b (¬ x.toInt64 - y.toInt64 = (x - y).toInt64), qk, qt, qw, rp, ro, ra, rb, rd, rr, rc)) : wpY_difference post (qp, qn, qz, qg, qy, qv, qk, qt, qw, rp, ro, ra, rb, rd, rr, rc) x y := by
  refine nm_e ?_
  intro x4 e4
  unfold wpY_bare
  rw [← e4] at h
  refine br_c (fun h5 => ?_) (fun h5 => ?_) <;> refine br_c (fun h7 => ?_) (fun h7 => ?_)
  · rw [pt_bnf h5, pt_bnf h7] at h; exact py_sig (Or.inl rfl) (Or.inl rfl) h
  · rw [pt_bnf h5, pt_bt h7] at h; exact py_sig (Or.inl rfl) (Or.inr rfl) h
  · rw [pt_bt h5, pt_bnf h7] at h; exact py_sig (Or.inr rfl) (Or.inl rfl) h
  · rw [pt_bt h5, pt_bt h7] at h; exact py_sig (Or.inr rfl) (Or.inr rfl) h
theorem px_div0 {post : Int32 → SX → Prop} {t x y : Int32} (hy : y = 0) (h : post 6 (qp, qc, qn, qz, qg, qy, qv, qk, qt, qw, rr, rc, rp, ro, ra, rb, rd)) : wpX_divide post (qp, qc, qn, qz, qg, qy, qv, qk, qt, qw, rr, rc, rp, ro, ra, rb, rd) t x y := br_t hy h
theorem px_divk {post : Int32 → SX → Prop} {t x y : Int32} (ht : vp_in t 8) (hy : ¬ y = 0) (h : post (-1) (qp, qc, qn, qz, qg, qy, qv, qk, qt, qw, upd rr t.toNatClampNeg (x / y), rc, rp, ro, ra, rb, rd)) : wpX_divide post (qp, qc, qn, qz, qg, qy, qv, qk, qt, qw, rr, rc, rp, ro, ra, rb, rd) t x y := br_f hy ⟨hy, ht, nm_e h⟩
theorem py_quo {post : Int32 → Prop} {x y : Int32} (hy : ¬ y = 0) (h : post (x / y)) : wpY_quotient post x y := by
  refine br_f hy ⟨fun z => hy ((pt_64z y).mp z), fun q eq => ?_⟩
  rw [eq, pt_div]
  exact h
theorem px_ldO {post : Int32 → SX → Prop} {t a : Int32} {p : Nat} (ha : a < 0 ∨ nI (8 * p) ≤ a) (h : post 3 (qp, nI (8 * p), qn, qz, qg, qy, qv, qk, qt, a, rr, rc, rp, ro, ra, rb, rd)) : wpX_load post (qp, nI (8 * p), qn, qz, qg, qy, qv, qk, qt, qw, rr, rc, rp, ro, ra, rb, rd) t a := by
  unfold wpX_load
  dsimp only
  exact px_out ha (br_t rfl h)
theorem px_stO {post : Int32 → SX → Prop} {t a : Int32} {p : Nat} (ha : a < 0 ∨ nI (8 * p) ≤ a) (h : post 3 (qp, nI (8 * p), qn, qz, qg, qy, qv, qk, qt, a, rr, rc, rp, ro, ra, rb, rd)) : wpX_store post (qp, nI (8 * p), qn, qz, qg, qy, qv, qk, qt, qw, rr, rc, rp, ro, ra, rb, rd) t a := by
  unfold wpX_store
  dsimp only
  exact px_out ha (br_t rfl h)
theorem pt_80 : ¬ (8 : Int32) = 0 := by decide
theorem px_ldN {post : Int32 → SX → Prop} {t a : Int32} {p j : Nat} (hp4 : p ≤ 4) (hj : j < 8 * p) (ea : a = nI j) (hr : rp (nI (j / 8)).toNatClampNeg = 0) (h : post 4 (qp, nI (8 * p), qn, qz, qg, qy, qv, qk, qt, a, rr, rc, rp, ro, ra, rb, rd)) : wpX_load post (qp, nI (8 * p), qn, qz, qg, qy, qv, qk, qt, qw, rr, rc, rp, ro, ra, rb, rd) t a := by
  subst ea
  unfold wpX_load
  dsimp only
  refine px_inn hp4 hj (br_f pt_10 ⟨pt_80, ?_⟩)
  rw [pt_d8 (by omega)]
  exact ⟨vp_in_nI (by omega) (by omega), br_t hr h⟩
theorem px_ldK {post : Int32 → SX → Prop} {t a : Int32} {p j : Nat} (ht : vp_in t 8) (hp4 : p ≤ 4) (hj : j < 8 * p) (ea : a = nI j) (hr : ¬ rp (nI (j / 8)).toNatClampNeg = 0) (h : post (-1) (qp, nI (8 * p), qn, qz, qg, qy, qv, qk, qt, qw, upd rr t.toNatClampNeg (rc (nI j).toNatClampNeg), rc, rp, ro, ra, rb, rd)) : wpX_load post (qp, nI (8 * p), qn, qz, qg, qy, qv, qk, qt, qw, rr, rc, rp, ro, ra, rb, rd) t a := by
  subst ea
  unfold wpX_load
  dsimp only
  refine px_inn hp4 hj (br_f pt_10 ⟨pt_80, ?_⟩)
  rw [pt_d8 (by omega)]
  exact ⟨vp_in_nI (by omega) (by omega), br_f hr ⟨vp_in_nI (by omega) (by omega), ht, nm_e h⟩⟩
theorem px_stN {post : Int32 → SX → Prop} {t a : Int32} {p j : Nat} (hp4 : p ≤ 4) (hj : j < 8 * p) (ea : a = nI j) (hr : ¬ rp (nI (j / 8)).toNatClampNeg = 2) (h : post 5 (qp, nI (8 * p), qn, qz, qg, qy, qv, qk, qt, a, rr, rc, rp, ro, ra, rb, rd)) : wpX_store post (qp, nI (8 * p), qn, qz, qg, qy, qv, qk, qt, qw, rr, rc, rp, ro, ra, rb, rd) t a := by
  subst ea
  unfold wpX_store
  dsimp only
  refine px_inn hp4 hj (br_f pt_10 ⟨pt_80, ?_⟩)
  rw [pt_d8 (by omega)]
  exact ⟨vp_in_nI (by omega) (by omega), br_f hr h⟩
theorem px_stK {post : Int32 → SX → Prop} {t a : Int32} {p j : Nat} (ht : vp_in t 8) (hp4 : p ≤ 4) (hj : j < 8 * p) (ea : a = nI j) (hr : rp (nI (j / 8)).toNatClampNeg = 2) (h : post (-1) (qp, nI (8 * p), qn, qz, qg, qy, qv, qk, qt, qw, rr, upd rc (nI j).toNatClampNeg (rr t.toNatClampNeg), rp, ro, ra, rb, rd)) : wpX_store post (qp, nI (8 * p), qn, qz, qg, qy, qv, qk, qt, qw, rr, rc, rp, ro, ra, rb, rd) t a := by
  subst ea
  unfold wpX_store
  dsimp only
  refine px_inn hp4 hj (br_f pt_10 ⟨pt_80, ?_⟩)
  rw [pt_d8 (by omega)]
  exact ⟨vp_in_nI (by omega) (by omega), br_t hr ⟨ht, vp_in_nI (by omega) (by omega), nm_e h⟩⟩
/-- Y's look at an address, for LOAD (9) and STORE (10) -/
theorem py_obO {post : Int32 → Prop} {o a : Int32} {p : Nat} (hi : vp_in qk 40) (ea : rr (rb qk.toNatClampNeg &&& 7).toNatClampNeg + rd qk.toNatClampNeg = a) (ha : a < 0 ∨ nI (8 * p) ≤ a) (h : post 3) : wY_obstacle_79 post o (nI p) qn qz qg qy qv qk qt qw rp ro ra rb rd rr rc :=
  ⟨hi, pt_in7 _, hi, nm_r ea (py_out ha (br_t rfl h))⟩
theorem py_ob9 {post : Int32 → Prop} {p j : Nat} (hi : vp_in qk 40) (hp4 : p ≤ 4) (hj : j < 8 * p) (ea : rr (rb qk.toNatClampNeg &&& 7).toNatClampNeg + rd qk.toNatClampNeg = nI j) (hN : rp (nI (j / 8)).toNatClampNeg = 0 → post 4) (hK : ¬ rp (nI (j / 8)).toNatClampNeg = 0 → post 0) : wY_obstacle_79 post 9 (nI p) qn qz qg qy qv qk qt qw rp ro ra rb rd rr rc := by
  refine ⟨hi, pt_in7 _, hi, nm_r ea (py_inn hp4 hj (br_f pt_10 (br_t rfl ?_)))⟩
  rw [pt_s3 (by omega)]
  exact ⟨vp_in_nI (by omega) (by omega), br_c hN (fun z => br_f (by decide) (hK z))⟩
theorem py_ob10 {post : Int32 → Prop} {p j : Nat} (hi : vp_in qk 40) (hp4 : p ≤ 4) (hj : j < 8 * p) (ea : rr (rb qk.toNatClampNeg &&& 7).toNatClampNeg + rd qk.toNatClampNeg = nI j) (hK : 2 ≤ rp (nI (j / 8)).toNatClampNeg → post 0) (hN : ¬ 2 ≤ rp (nI (j / 8)).toNatClampNeg → post 5) : wY_obstacle_79 post 10 (nI p) qn qz qg qy qv qk qt qw rp ro ra rb rd rr rc := by
  refine ⟨hi, pt_in7 _, hi, nm_r ea (py_inn hp4 hj (br_f pt_10 (br_f (by decide) (br_t rfl ?_))))⟩
  rw [pt_s3 (by omega)]
  exact ⟨vp_in_nI (by omega) (by omega), br_c hK hN⟩
end
section
variable {qp qc qn qz qg qy qv qk qt qw : Int32} {rr rc rp ro ra rb rd : Nat → Int32}
theorem pt_holds (x : Int32) : ∃ r : Int32, (∀ post : Int32 → Prop, post r → wpX_holds post (qp, qc, qn, qz, qg, qy, qv, qk, qt, qw, rr, rc, rp, ro, ra, rb, rd) (x &&& 7)) ∧ (∀ post : Int32 → Prop, post r → wpY_holds post (qp, qn, qz, qg, qy, qv, qk, qt, qw, rp, ro, ra, rb, rd, rr, rc) (x &&& 7)) := by
  obtain ⟨q, hq, e⟩ := pt_and7 x
  have hq' : q = 0 ∨ q = 1 ∨ q = 2 ∨ q = 3 ∨ q = 4 ∨ q = 5 ∨ q = 6 ∨ q = 7 := by omega
  rcases hq' with rfl | rfl | rfl | rfl | rfl | rfl | rfl | rfl
  · have e : x &&& 7 = 0 := e
    rw [e]
    exact ⟨1, fun post h => br_t (by decide) h, fun post h => br_t rfl h⟩
  · have e : x &&& 7 = 1 := e
    rw [e]
    by_cases z : qz = 1
    · exact ⟨1, fun post h => br_f (by decide) (br_f (by decide) (br_t rfl (br_t z h))), fun post h => br_f (by decide) (br_t rfl (br_t z h))⟩
    · exact ⟨0, fun post h => br_f (by decide) (br_f (by decide) (br_t rfl (br_f z h))), fun post h => br_f (by decide) (br_t rfl (br_f z h))⟩
  · have e : x &&& 7 = 2 := e
    rw [e]
    by_cases z : qz = 0
    · exact ⟨1, fun post h => br_f (by decide) (br_f (by decide) (br_f (by decide) (br_t rfl (br_t z h)))), fun post h => br_f (by decide) (br_f (by decide) (br_t rfl (br_t z h)))⟩
    · exact ⟨0, fun post h => br_f (by decide) (br_f (by decide) (br_f (by decide) (br_t rfl (br_f z h)))), fun post h => br_f (by decide) (br_f (by decide) (br_t rfl (br_f z h)))⟩
  · have e : x &&& 7 = 3 := e
    rw [e]
    by_cases z : qg = 1
    · exact ⟨1, fun post h => br_f (by decide) (br_f (by decide) (br_f (by decide) (br_f (by decide) (br_t rfl (br_t z h))))), fun post h => br_f (by decide) (br_f (by decide) (br_f (by decide) (br_t rfl (br_t z h))))⟩
    · exact ⟨0, fun post h => br_f (by decide) (br_f (by decide) (br_f (by decide) (br_f (by decide) (br_t rfl (br_f z h))))), fun post h => br_f (by decide) (br_f (by decide) (br_f (by decide) (br_t rfl (br_f z h))))⟩
  · have e : x &&& 7 = 4 := e
    rw [e]
    by_cases z : qg = 0
    · exact ⟨1, fun post h => br_f (by decide) (br_f (by decide) (br_f (by decide) (br_f (by decide) (br_f (by decide) (br_t rfl (br_t z h)))))), fun post h => br_f (by decide) (br_f (by decide) (br_f (by decide) (br_f (by decide) (br_t rfl (br_t z h)))))⟩
    · exact ⟨0, fun post h => br_f (by decide) (br_f (by decide) (br_f (by decide) (br_f (by decide) (br_f (by decide) (br_t rfl (br_f z h)))))), fun post h => br_f (by decide) (br_f (by decide) (br_f (by decide) (br_f (by decide) (br_t rfl (br_f z h)))))⟩
  · have e : x &&& 7 = 5 := e
    rw [e]
    by_cases z : qy = 1
    · exact ⟨1, fun post h => br_f (by decide) (br_f (by decide) (br_f (by decide) (br_f (by decide) (br_f (by decide) (br_f (by decide) (br_t rfl (br_t z h))))))), fun post h => br_f (by decide) (br_f (by decide) (br_f (by decide) (br_f (by decide) (br_f (by decide) (br_t rfl (br_t z h))))))⟩
    · exact ⟨0, fun post h => br_f (by decide) (br_f (by decide) (br_f (by decide) (br_f (by decide) (br_f (by decide) (br_f (by decide) (br_t rfl (br_f z h))))))), fun post h => br_f (by decide) (br_f (by decide) (br_f (by decide) (br_f (by decide) (br_f (by decide) (br_t rfl (br_f z h))))))⟩
  · have e : x &&& 7 = 6 := e
    rw [e]
    by_cases z : qv = 1
    · exact ⟨1, fun post h => br_f (by decide) (br_f (by decide) (br_f (by decide) (br_f (by decide) (br_f (by decide) (br_f (by decide) (br_f (by decide) (br_t rfl (br_t z h)))))))), fun post h => br_f (by decide) (br_f (by decide) (br_f (by decide) (br_f (by decide) (br_f (by decide) (br_f (by decide) (br_t rfl (br_t z h)))))))⟩
    · exact ⟨0, fun post h => br_f (by decide) (br_f (by decide) (br_f (by decide) (br_f (by decide) (br_f (by decide) (br_f (by decide) (br_f (by decide) (br_t rfl (br_f z h)))))))), fun post h => br_f (by decide) (br_f (by decide) (br_f (by decide) (br_f (by decide) (br_f (by decide) (br_f (by decide) (br_t rfl (br_f z h)))))))⟩
  · have e : x &&& 7 = 7 := e
    rw [e]
    by_cases z : qg = qv
    · exact ⟨0, fun post h => br_f (by decide) (br_f (by decide) (br_f (by decide) (br_f (by decide) (br_f (by decide) (br_f (by decide) (br_f (by decide) (br_f (by decide) (br_t rfl (br_t z h))))))))), fun post h => br_f (by decide) (br_f (by decide) (br_f (by decide) (br_f (by decide) (br_f (by decide) (br_f (by decide) (br_f (by decide) (br_t z h)))))))⟩
    · exact ⟨1, fun post h => br_f (by decide) (br_f (by decide) (br_f (by decide) (br_f (by decide) (br_f (by decide) (br_f (by decide) (br_f (by decide) (br_f (by decide) (br_t rfl (br_f z h))))))))), fun post h => br_f (by decide) (br_f (by decide) (br_f (by decide) (br_f (by decide) (br_f (by decide) (br_f (by decide) (br_f (by decide) (br_f z h)))))))⟩
end
