/-! run and reset -/
section
variable {qp qc qn qz qg qy qv qk qt qw : Int32} {rr rc rp ro ra rb rd : Nat → Int32}
theorem pt_loop (m : Nat) (hm : m ≤ 300) (hI : pt_I qp qc qn rp ro) : ∀ (d i : Nat), i + d = m → ∀ (qz qg qy qv qk qw : Int32) (rr rc : Nat → Int32), ∃ (r z1 g1 y1 v1 k1 t1 w1 : Int32) (r1 c1 : Nat → Int32), (∀ post : Int32 → SX → Prop, post r (qp, qc, qn, z1, g1, y1, v1, k1, t1, w1, r1, c1, rp, ro, ra, rb, rd) → wX_run_21 post (nI m) (d + 1) (nI i) qp qc qn qz qg qy qv qk (nI i) qw rr rc rp ro ra rb rd) ∧ (∀ post : Int32 → SY → Prop, post r (qp, qn, z1, g1, y1, v1, k1, t1, w1, rp, ro, ra, rb, rd, r1, c1) → wY_run_35 post (nI m) (d + 1) (nI i) qp qn qz qg qy qv qk (nI i) qw rp ro ra rb rd rr rc) := by
  intro d
  induction d with
  | zero =>
    intro i hi qz qg qy qv qk qw rr rc
    have hl : nI m ≤ nI i := nI_le (by omega) (by omega)
    exact ⟨0, qz, qg, qy, qv, qk, nI i, qw, rr, rc, fun post h => br_t hl h, fun post h => br_t hl h⟩
  | succ d ih =>
    intro i hi qz qg qy qv qk qw rr rc
    have hl : ¬ nI m ≤ nI i := nI_ge (by omega) (by omega)
    rcases pt_step (qz := qz) (qg := qg) (qy := qy) (qv := qv) (qk := qk) (qt := nI i) (qw := qw) (rr := rr) (rc := rc) (ra := ra) (rb := rb) (rd := rd) hI with ⟨r, hr, hX, hO⟩ | ⟨r, hr, hin, hX, hO⟩ | ⟨z1, g1, y1, v1, k1, r1, c1, hX, hO, hC⟩
    · have n1 : ¬ r = -1 := by rcases hr with rfl | rfl | rfl <;> decide
      have n0 : ¬ r = 0 := by rcases hr with rfl | rfl | rfl <;> decide
      have n3 : ¬ r = 3 := by rcases hr with rfl | rfl | rfl <;> decide
      have n4 : ¬ r = 4 := by rcases hr with rfl | rfl | rfl <;> decide
      have n5 : ¬ r = 5 := by rcases hr with rfl | rfl | rfl <;> decide
      exact ⟨r, qz, qg, qy, qv, qk, nI i, qw, rr, rc, fun post h => br_f hl (hX _ (br_f n1 h)), fun post h => br_f hl (hO _ (br_f n0 (br_f n3 (br_f n4 (br_f n5 h)))))⟩
    · have n1 : ¬ r = -1 := by rcases hr with rfl | rfl | rfl <;> decide
      refine ⟨r, qz, qg, qy, qv, qk, nI i, _, rr, rc, fun post h => br_f hl (hX _ (br_f n1 h)), fun post h => br_f hl (hO _ ?_)⟩
      rcases hr with rfl | rfl | rfl
      · exact br_f (by decide) (br_t rfl ⟨hin, pt_in7 _, hin, nm_e h⟩)
      · exact br_f (by decide) (br_f (by decide) (br_t rfl ⟨hin, pt_in7 _, hin, nm_e h⟩))
      · exact br_f (by decide) (br_f (by decide) (br_f (by decide) (br_t rfl ⟨hin, pt_in7 _, hin, nm_e h⟩)))
    · obtain ⟨r, z2, g2, y2, v2, k2, t2, w2, r2, c2, iX, iY⟩ := ih (i + 1) (by omega) z1 g1 y1 v1 k1 qw r1 c1
      exact ⟨r, z2, g2, y2, v2, k2, t2, w2, r2, c2, fun post h => br_f hl (hX _ (br_t rfl (nm_r (nI_1 i) (nm_r (nI_1 i) (iX post h))))), fun post h => br_f hl (hO _ (br_t rfl (hC _ (nm_r (nI_1 i) (nm_r (nI_1 i) (iY post h))))))⟩
theorem px_run {post : Int32 → SX → Prop} {b r : Int32} (hr : (0 ≤ b ∧ b ≤ 300 ∧ r = b) ∨ (0 ≤ b ∧ ¬ b ≤ 300 ∧ r = 300) ∨ (¬ 0 ≤ b ∧ r = 0)) (h : ∃ n : Nat, wX_run_21 post r n 0 qp qc qn qz qg qy qv qk 0 0 rr rc rp ro ra rb rd) : wpX_run post (qp, qc, qn, qz, qg, qy, qv, qk, qt, qw, rr, rc, rp, ro, ra, rb, rd) b := by
  unfold wpX_run
  dsimp only
  exact px_clamp hr h
theorem py_run {post : Int32 → SY → Prop} {b r : Int32} (hr : (0 ≤ b ∧ b ≤ 300 ∧ r = b) ∨ (0 ≤ b ∧ ¬ b ≤ 300 ∧ r = 300) ∨ (¬ 0 ≤ b ∧ r = 0)) (h : ∃ n : Nat, wY_run_35 post r n 0 qp qn qz qg qy qv qk 0 0 rp ro ra rb rd rr rc) : wpY_run post (qp, qn, qz, qg, qy, qv, qk, qt, qw, rp, ro, ra, rb, rd, rr, rc) b :=
  pt_clP (post := fun r => wY_run_22 post r qp qn qz qg qy qv qk qt qw rp ro ra rb rd rr rc) hr h
theorem pt_rc (rr : Nat → Int32) : ∀ (d j : Nat), j + d = 32 → ∀ rc : Nat → Int32, ∃ c1 : Nat → Int32, (∀ post : SX → Prop, post (qp, qc, qn, 0, 0, 0, 0, 0, 0, 0, rr, c1, rp, ro, ra, rb, rd) → wX_reset_23 post qp qc qn qz qg qy qv qk qt qw (d + 1) (nI j) rr rc rp ro ra rb rd) ∧ (∀ post : SY → Prop, post (qp, qn, 0, 0, 0, 0, 0, 0, 0, rp, ro, ra, rb, rd, rr, c1) → wY_reset_23 post qp qn qz qg qy qv qk qt qw (d + 1) (nI j) rp ro ra rb rd rr rc) := by
  intro d
  induction d with
  | zero =>
    intro j hj rc
    have hl : (32 : Int32) ≤ nI j := nI_le (a := 32) (by omega) (by omega)
    refine ⟨rc, fun post h => br_t hl h, fun post h => br_t hl ?_⟩
    exact nm_r (e' := 0) rfl (nm_r (e' := 0) rfl (nm_r (e' := 0) rfl (nm_r (e' := 0) rfl h)))
  | succ d ih =>
    intro j hj rc
    have hl : ¬ (32 : Int32) ≤ nI j := nI_ge (b := 32) (by omega) (by omega)
    have hi : vp_in (nI j) 32 := vp_in_nI (by omega) (by omega)
    obtain ⟨c1, iX, iY⟩ := ih (j + 1) (by omega) (upd rc (nI j).toNatClampNeg 0)
    exact ⟨c1, fun post h => br_f hl ⟨hi, nm_e (nm_r (nI_1 j) (iX post h))⟩, fun post h => br_f hl ⟨hi, nm_e (nm_r (nI_1 j) (iY post h))⟩⟩
theorem pt_rr (rc : Nat → Int32) : ∀ (d j : Nat), j + d = 8 → ∀ rr : Nat → Int32, ∃ r1 c1 : Nat → Int32, (∀ post : SX → Prop, post (qp, qc, qn, 0, 0, 0, 0, 0, 0, 0, r1, c1, rp, ro, ra, rb, rd) → wX_reset_2 post qp qc qn qz qg qy qv qk qt qw (d + 1) (nI j) rr rc rp ro ra rb rd) ∧ (∀ post : SY → Prop, post (qp, qn, 0, 0, 0, 0, 0, 0, 0, rp, ro, ra, rb, rd, r1, c1) → wY_reset_2 post qp qn qz qg qy qv qk qt qw (d + 1) (nI j) rp ro ra rb rd rr rc) := by
  intro d
  induction d with
  | zero =>
    intro j hj rr
    have hl : (8 : Int32) ≤ nI j := nI_le (a := 8) (by omega) (by omega)
    obtain ⟨c1, iX, iY⟩ := pt_rc (qp := qp) (qc := qc) (qn := qn) (qz := qz) (qg := qg) (qy := qy) (qv := qv) (qk := qk) (qt := qt) (qw := qw) (rp := rp) (ro := ro) (ra := ra) (rb := rb) (rd := rd) rr 32 0 (by omega) rc
    exact ⟨rr, c1, fun post h => br_t hl ⟨_, iX post h⟩, fun post h => br_t hl ⟨_, iY post h⟩⟩
  | succ d ih =>
    intro j hj rr
    have hl : ¬ (8 : Int32) ≤ nI j := nI_ge (b := 8) (by omega) (by omega)
    have hi : vp_in (nI j) 8 := vp_in_nI (by omega) (by omega)
    obtain ⟨r1, c1, iX, iY⟩ := ih (j + 1) (by omega) (upd rr (nI j).toNatClampNeg 0)
    exact ⟨r1, c1, fun post h => br_f hl ⟨hi, nm_e (nm_r (nI_1 j) (iX post h))⟩, fun post h => br_f hl ⟨hi, nm_e (nm_r (nI_1 j) (iY post h))⟩⟩
end
theorem i_vc_run {k : Nat} {u : SX} {v : SY} (I : i_Rel k u v) (hk : k + 5 ≤ 2562) (v1 : Int32) : wpX_run (fun r u' => wpY_run (fun r' v' => r' = r ∧ i_Rel (k + 5) u' v') v v1) u v1 := by
  obtain ⟨qp, qc, qn, qz, qg, qy, qv, qk, qt, qw, rr, rc, rp, ro, ra, rb, rd, rfl, rfl, hI⟩ := I
  obtain ⟨m, hm0, hm, hr⟩ := pt_cl v1 (a := 0) (b := 300) (by omega) (by omega)
  obtain ⟨r, z1, g1, y1, w1, k1, t1, a1, r1, c1, iX, iY⟩ := pt_loop (ra := ra) (rb := rb) (rd := rd) m hm hI m 0 (by omega) qz qg qy qv qk 0 rr rc
  exact px_run hr ⟨_, iX _ (py_run hr ⟨_, iY _ ⟨rfl, pt_mk hI⟩⟩)⟩
theorem i_vc_reset {k : Nat} {u : SX} {v : SY} (I : i_Rel k u v) (hk : k + 5 ≤ 2562) : wpX_reset (fun u' => wpY_reset (fun v' => i_Rel (k + 5) u' v') v) u := by
  obtain ⟨qp, qc, qn, qz, qg, qy, qv, qk, qt, qw, rr, rc, rp, ro, ra, rb, rd, rfl, rfl, hI⟩ := I
  obtain ⟨r1, c1, iX, iY⟩ := pt_rr (qp := qp) (qc := qc) (qn := qn) (qz := qz) (qg := qg) (qy := qy) (qv := qv) (qk := qk) (qt := qt) (qw := qw) (rp := rp) (ro := ro) (ra := ra) (rb := rb) (rd := rd) rc 8 0 (by omega) rr
  exact ⟨_, iX _ ⟨_, iY _ (pt_mk (k := k) hI)⟩⟩
