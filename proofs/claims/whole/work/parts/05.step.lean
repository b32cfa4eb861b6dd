/-! one step of both sides -/
section
variable {qp qc qn qz qg qy qv qk qt qw : Int32} {rr rc rp ro ra rb rd : Nat → Int32}
theorem pt_step (hI : pt_I qp qc qn rp ro) :
    (∃ r : Int32, (r = 1 ∨ r = 2 ∨ r = 6) ∧ (∀ post : Int32 → SX → Prop, post r (qp, qc, qn, qz, qg, qy, qv, qk, qt, qw, rr, rc, rp, ro, ra, rb, rd) → wpX_step post (qp, qc, qn, qz, qg, qy, qv, qk, qt, qw, rr, rc, rp, ro, ra, rb, rd)) ∧ (∀ post : Int32 → Prop, post r → wpY_obstacle post (qp, qn, qz, qg, qy, qv, qk, qt, qw, rp, ro, ra, rb, rd, rr, rc))) ∨
    (∃ r : Int32, (r = 3 ∨ r = 4 ∨ r = 5) ∧ vp_in qk 40 ∧ (∀ post : Int32 → SX → Prop, post r (qp, qc, qn, qz, qg, qy, qv, qk, qt, rr (rb qk.toNatClampNeg &&& 7).toNatClampNeg + rd qk.toNatClampNeg, rr, rc, rp, ro, ra, rb, rd) → wpX_step post (qp, qc, qn, qz, qg, qy, qv, qk, qt, qw, rr, rc, rp, ro, ra, rb, rd)) ∧ (∀ post : Int32 → Prop, post r → wpY_obstacle post (qp, qn, qz, qg, qy, qv, qk, qt, qw, rp, ro, ra, rb, rd, rr, rc))) ∨
    (∃ (z1 g1 y1 v1 k1 : Int32) (r1 c1 : Nat → Int32), (∀ post : Int32 → SX → Prop, post (-1) (qp, qc, qn, z1, g1, y1, v1, k1, qt, qw, r1, c1, rp, ro, ra, rb, rd) → wpX_step post (qp, qc, qn, qz, qg, qy, qv, qk, qt, qw, rr, rc, rp, ro, ra, rb, rd)) ∧ (∀ post : Int32 → Prop, post 0 → wpY_obstacle post (qp, qn, qz, qg, qy, qv, qk, qt, qw, rp, ro, ra, rb, rd, rr, rc)) ∧ (∀ post : SY → Prop, post (qp, qn, z1, g1, y1, v1, k1, qt, qw, rp, ro, ra, rb, rd, r1, c1) → wpY_carryOut post (qp, qn, qz, qg, qy, qv, qk, qt, qw, rp, ro, ra, rb, rd, rr, rc))) := by
  obtain ⟨p, n, hp1, hp4, rfl, rfl, hn, rfl, hrt, hop⟩ := hI
  by_cases h0 : qk < 0
  · exact Or.inl ⟨2, Or.inr (Or.inl rfl), fun post h => br_t h0 h, fun post h => br_t h0 h⟩
  by_cases h1 : qk < nI n
  case neg => exact Or.inl ⟨2, Or.inr (Or.inl rfl), fun post h => br_f h0 (br_f h1 h), fun post h => br_f h0 (br_f h1 h)⟩
  have hi : vp_in qk 40 := by
    obtain ⟨j, hj, rfl⟩ := nI_of h0
    rw [nI_ltI hj (by omega)] at h1
    exact vp_in_nI (by omega) (by omega)
  obtain ⟨o, ho, e⟩ := hop qk.toNatClampNeg
  have ho' : o = 0 ∨ o = 1 ∨ o = 2 ∨ o = 3 ∨ o = 4 ∨ o = 5 ∨ o = 6 ∨ o = 7 ∨ o = 8 ∨ o = 9 ∨ o = 10 ∨ o = 11 ∨ o = 12 := by omega
  rcases ho' with rfl | rfl | rfl | rfl | rfl | rfl | rfl | rfl | rfl | rfl | rfl | rfl | rfl
  · have e : ro qk.toNatClampNeg = 0 := e
    exact Or.inr (Or.inr ⟨_, _, _, _, _, _, _, fun post h => px_s0 h0 h1 hi e h, fun post h => py_oG h0 h1 hi e (by decide) (by decide) (by decide) (by decide) h, fun post h => py_c0 hi e h⟩)
  · have e : ro qk.toNatClampNeg = 1 := e
    exact Or.inr (Or.inr ⟨_, _, _, _, _, _, _, fun post h => px_s1 h0 h1 hi e h, fun post h => py_oG h0 h1 hi e (by decide) (by decide) (by decide) (by decide) h, fun post h => py_c1 hi e h⟩)
  · have e : ro qk.toNatClampNeg = 2 := e
    exact Or.inr (Or.inr ⟨_, _, _, _, _, _, _, fun post h => px_s2 h0 h1 hi e h, fun post h => py_oG h0 h1 hi e (by decide) (by decide) (by decide) (by decide) h, fun post h => py_c2 hi e h⟩)
  · have e : ro qk.toNatClampNeg = 3 := e
    exact Or.inr (Or.inr ⟨_, _, _, _, _, _, _, fun post h => px_s3 h0 h1 hi e h, fun post h => py_oG h0 h1 hi e (by decide) (by decide) (by decide) (by decide) h, fun post h => py_c3 hi e h⟩)
  · have e : ro qk.toNatClampNeg = 4 := e
    exact Or.inr (Or.inr ⟨_, _, _, _, _, _, _, fun post h => px_s4 h0 h1 hi e h, fun post h => py_oG h0 h1 hi e (by decide) (by decide) (by decide) (by decide) h, fun post h => py_c4 hi e h⟩)
  · have e : ro qk.toNatClampNeg = 5 := e
    exact Or.inr (Or.inr ⟨_, _, _, _, _, _, _, fun post h => px_s5 h0 h1 hi e h, fun post h => py_oG h0 h1 hi e (by decide) (by decide) (by decide) (by decide) h, fun post h => py_c5 hi e h⟩)
  · have e : ro qk.toNatClampNeg = 6 := e
    exact Or.inr (Or.inr ⟨_, _, _, _, _, _, _, fun post h => px_s6 h0 h1 hi e h, fun post h => py_oG h0 h1 hi e (by decide) (by decide) (by decide) (by decide) h, fun post h => py_c6 hi e h⟩)
  · have e : ro qk.toNatClampNeg = 7 := e
    by_cases hy : rr (rd qk.toNatClampNeg &&& 7).toNatClampNeg = 0
    · exact Or.inl ⟨6, Or.inr (Or.inr rfl), fun post h => px_s7z h0 h1 hi e hy h, fun post h => py_o7z h0 h1 hi e hy h⟩
    · exact Or.inr (Or.inr ⟨_, _, _, _, _, _, _, fun post h => px_s7 h0 h1 hi e hy h, fun post h => py_o7 h0 h1 hi e hy h, fun post h => py_c7 hi e hy h⟩)
  · have e : ro qk.toNatClampNeg = 8 := e
    exact Or.inr (Or.inr ⟨_, _, _, _, _, _, _, fun post h => px_s8 h0 h1 hi e h, fun post h => py_oG h0 h1 hi e (by decide) (by decide) (by decide) (by decide) h, fun post h => py_c8 hi e h⟩)
  · have e : ro qk.toNatClampNeg = 9 := e
    rcases pt_adr (rr (rb qk.toNatClampNeg &&& 7).toNatClampNeg + rd qk.toNatClampNeg) hp4 with ha | ⟨j, hj, ea⟩
    · exact Or.inr (Or.inl ⟨3, Or.inl rfl, hi, fun post h => px_s9O ha h0 h1 hi e h, fun post h => py_o9 h0 h1 hi e (py_obO hi rfl ha h)⟩)
    · by_cases hr : rp (nI (j / 8)).toNatClampNeg = 0
      · exact Or.inr (Or.inl ⟨4, Or.inr (Or.inl rfl), hi, fun post h => px_s9N hp4 hj ea h0 h1 hi e hr h, fun post h => py_o9 h0 h1 hi e (py_ob9 hi hp4 hj ea (fun _ => h) (fun z => absurd hr z))⟩)
      · exact Or.inr (Or.inr ⟨_, _, _, _, _, _, _, fun post h => px_s9K hp4 hj ea h0 h1 hi e hr h, fun post h => py_o9 h0 h1 hi e (py_ob9 hi hp4 hj ea (fun z => absurd z hr) (fun _ => h)), fun post h => py_c9 hp4 hj ea hi e h⟩)
  · have e : ro qk.toNatClampNeg = 10 := e
    rcases pt_adr (rr (rb qk.toNatClampNeg &&& 7).toNatClampNeg + rd qk.toNatClampNeg) hp4 with ha | ⟨j, hj, ea⟩
    · exact Or.inr (Or.inl ⟨3, Or.inl rfl, hi, fun post h => px_s10O ha h0 h1 hi e h, fun post h => py_o10 h0 h1 hi e (py_obO hi rfl ha h)⟩)
    · have h2 : rp (nI (j / 8)).toNatClampNeg = 2 ↔ 2 ≤ rp (nI (j / 8)).toNatClampNeg := by
        obtain ⟨r, hr, er⟩ := hrt (nI (j / 8)).toNatClampNeg
        have hr' : r = 0 ∨ r = 1 ∨ r = 2 := by omega
        rw [er]
        rcases hr' with rfl | rfl | rfl <;> decide
      by_cases hr : rp (nI (j / 8)).toNatClampNeg = 2
      · exact Or.inr (Or.inr ⟨_, _, _, _, _, _, _, fun post h => px_s10K hp4 hj ea h0 h1 hi e hr h, fun post h => py_o10 h0 h1 hi e (py_ob10 hi hp4 hj ea (fun _ => h) (fun z => absurd (h2.mp hr) z)), fun post h => py_c10 hp4 hj ea hi e h⟩)
      · exact Or.inr (Or.inl ⟨5, Or.inr (Or.inr rfl), hi, fun post h => px_s10N hp4 hj ea h0 h1 hi e hr h, fun post h => py_o10 h0 h1 hi e (py_ob10 hi hp4 hj ea (fun z => absurd (h2.mpr z) hr) (fun _ => h))⟩)
  · have e : ro qk.toNatClampNeg = 11 := e
    obtain ⟨r, hX, hY⟩ := pt_holds (qp := nI p) (qc := nI (8 * p)) (qn := nI n) (qz := qz) (qg := qg) (qy := qy) (qv := qv) (qk := qk) (qt := qt) (qw := qw) (rr := rr) (rc := rc) (rp := rp) (ro := ro) (ra := ra) (rb := rb) (rd := rd) (ra qk.toNatClampNeg)
    by_cases hr : r = 0
    · exact Or.inr (Or.inr ⟨_, _, _, _, _, _, _, fun post h => px_s11 h0 h1 hi e hX (fun _ => h) (fun z => absurd hr z), fun post h => py_oG h0 h1 hi e (by decide) (by decide) (by decide) (by decide) h, fun post h => py_c11 hi e hY (fun _ => h) (fun z => absurd hr z)⟩)
    · exact Or.inr (Or.inr ⟨_, _, _, _, _, _, _, fun post h => px_s11 h0 h1 hi e hX (fun z => absurd z hr) (fun _ => h), fun post h => py_oG h0 h1 hi e (by decide) (by decide) (by decide) (by decide) h, fun post h => py_c11 hi e hY (fun z => absurd z hr) (fun _ => h)⟩)
  · have e : ro qk.toNatClampNeg = 12 := e
    exact Or.inl ⟨1, Or.inl rfl, fun post h => px_s12 h0 h1 hi e h, fun post h => py_o12 h0 h1 hi e h⟩
end
