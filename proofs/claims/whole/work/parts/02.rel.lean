/-! the relation, and the methods that don't run -/
/-- both sides hold the same numbers; pages, instructions, rights and ops are within their bounds -/
def i_Rel (_ : Nat) (u : SX) (v : SY) : Prop := ∃ (qp qc qn qz qg qy qv qk qt qw : Int32) (rr rc rp ro ra rb rd : Nat → Int32), u = (qp, qc, qn, qz, qg, qy, qv, qk, qt, qw, rr, rc, rp, ro, ra, rb, rd) ∧ v = (qp, qn, qz, qg, qy, qv, qk, qt, qw, rp, ro, ra, rb, rd, rr, rc) ∧ pt_I qp qc qn rp ro
theorem i_up {k : Nat} {u : SX} {v : SY} (h : i_Rel k u v) : i_Rel (k + 5) u v := h
section
variable {qp qc qn qz qg qy qv qk qt qw : Int32} {rr rc rp ro ra rb rd : Nat → Int32}
theorem pt_mk {k : Nat} (h : pt_I qp qc qn rp ro) : i_Rel k (qp, qc, qn, qz, qg, qy, qv, qk, qt, qw, rr, rc, rp, ro, ra, rb, rd) (qp, qn, qz, qg, qy, qv, qk, qt, qw, rp, ro, ra, rb, rd, rr, rc) := ⟨_, _, _, _, _, _, _, _, _, _, _, _, _, _, _, _, _, rfl, rfl, h⟩
end
/-- the four pages' rights as both constructors write them -/
def pt_r4 (r : Int32) : Nat → Int32 := upd (upd (upd (upd (fun _ => 0) (0 : Int32).toNatClampNeg r) (1 : Int32).toNatClampNeg r) (2 : Int32).toNatClampNeg r) (3 : Int32).toNatClampNeg r
theorem pt_r4I {r : Int32} (h : ∃ q : Nat, q ≤ 2 ∧ r = nI q) : ∀ j, ∃ q : Nat, q ≤ 2 ∧ pt_r4 r j = nI q :=
  pt_updI (pt_updI (pt_updI (pt_updI (fun _ => ⟨0, by omega, rfl⟩) h) h) h) h
theorem pt_v4 : vp_in 0 4 ∧ vp_in 1 4 ∧ vp_in 2 4 ∧ vp_in 3 4 := ⟨vp_in_nI (n := 0) (by omega) (by omega), vp_in_nI (n := 1) (by omega) (by omega), vp_in_nI (n := 2) (by omega) (by omega), vp_in_nI (n := 3) (by omega) (by omega)⟩
theorem px_init {post : SX → Prop} {r a b : Int32} (h : post (a, b, 0, 0, 0, 0, 0, 0, 0, 0, (fun _ => 0), (fun _ => 0), pt_r4 r, (fun _ => 0), (fun _ => 0), (fun _ => 0), (fun _ => 0))) : wX_init_90 post r a b 0 0 0 0 0 0 0 0 (0 + 1 + 1 + 1 + 1 + 1) 0 (fun _ => 0) (fun _ => 0) (fun _ => 0) (fun _ => 0) (fun _ => 0) (fun _ => 0) (fun _ => 0) :=
  br_f (by decide) ⟨pt_v4.1, nm_e (nm_r (e' := 1) rfl (br_f (by decide) ⟨pt_v4.2.1, nm_e (nm_r (e' := 2) rfl (br_f (by decide) ⟨pt_v4.2.2.1, nm_e (nm_r (e' := 3) rfl (br_f (by decide) ⟨pt_v4.2.2.2, nm_e (nm_r (e' := 4) rfl (br_t (by decide) h))⟩))⟩))⟩))⟩
theorem py_init {post : SY → Prop} {r q a : Int32} (hr : ∀ P : Int32 → Prop, P r → ((0 ≤ q → ((q ≤ 2 → P q) ∧ (¬ q ≤ 2 → P 2))) ∧ (¬ 0 ≤ q → P 0))) (h : post (a, 0, 0, 0, 0, 0, 0, 0, 0, pt_r4 r, (fun _ => 0), (fun _ => 0), (fun _ => 0), (fun _ => 0), (fun _ => 0), (fun _ => 0))) : wY_init_84 post q a 0 0 0 0 0 0 0 0 (0 + 1 + 1 + 1 + 1 + 1) 0 (fun _ => 0) (fun _ => 0) (fun _ => 0) (fun _ => 0) (fun _ => 0) (fun _ => 0) (fun _ => 0) := by
  have s3 : ∀ y : Int32, y = r → wY_init_84 post q a 0 0 0 0 0 0 0 0 (0 + 1 + 1) 3 (upd (upd (upd (fun _ => 0) (0 : Int32).toNatClampNeg r) (1 : Int32).toNatClampNeg r) (2 : Int32).toNatClampNeg r) (fun _ => 0) (fun _ => 0) (fun _ => 0) (fun _ => 0) (fun _ => 0) (fun _ => 0) := by
    intro y ey
    refine br_f (by decide) (hr (fun y => vp_in 3 4 ∧ ∀ b : Nat → Int32, b = upd _ _ y → ∀ x : Int32, x = 3 + 1 → wY_init_84 post q a 0 0 0 0 0 0 0 0 (0 + 1) x b _ _ _ _ _ _) ?_)
    exact ⟨pt_v4.2.2.2, nm_e (nm_r (e' := 4) rfl (br_t (by decide) h))⟩
  have s2 : wY_init_84 post q a 0 0 0 0 0 0 0 0 (0 + 1 + 1 + 1) 2 (upd (upd (fun _ => 0) (0 : Int32).toNatClampNeg r) (1 : Int32).toNatClampNeg r) (fun _ => 0) (fun _ => 0) (fun _ => 0) (fun _ => 0) (fun _ => 0) (fun _ => 0) := by
    refine br_f (by decide) (hr (fun y => vp_in 2 4 ∧ ∀ b : Nat → Int32, b = upd _ _ y → ∀ x : Int32, x = 2 + 1 → wY_init_84 post q a 0 0 0 0 0 0 0 0 (0 + 1 + 1) x b _ _ _ _ _ _) ?_)
    exact ⟨pt_v4.2.2.1, nm_e (nm_r (e' := 3) rfl (s3 r rfl))⟩
  have s1 : wY_init_84 post q a 0 0 0 0 0 0 0 0 (0 + 1 + 1 + 1 + 1) 1 (upd (fun _ => 0) (0 : Int32).toNatClampNeg r) (fun _ => 0) (fun _ => 0) (fun _ => 0) (fun _ => 0) (fun _ => 0) (fun _ => 0) := by
    refine br_f (by decide) (hr (fun y => vp_in 1 4 ∧ ∀ b : Nat → Int32, b = upd _ _ y → ∀ x : Int32, x = 1 + 1 → wY_init_84 post q a 0 0 0 0 0 0 0 0 (0 + 1 + 1 + 1) x b _ _ _ _ _ _) ?_)
    exact ⟨pt_v4.2.1, nm_e (nm_r (e' := 2) rfl s2)⟩
  refine br_f (by decide) (hr (fun y => vp_in 0 4 ∧ ∀ b : Nat → Int32, b = upd _ _ y → ∀ x : Int32, x = 0 + 1 → wY_init_84 post q a 0 0 0 0 0 0 0 0 (0 + 1 + 1 + 1 + 1) x b _ _ _ _ _ _) ?_)
  exact ⟨pt_v4.1, nm_e (nm_r (e' := 1) rfl s1)⟩
theorem pt_clP {post : Int32 → Prop} {x a b r : Int32} (hr : (a ≤ x ∧ x ≤ b ∧ r = x) ∨ (a ≤ x ∧ ¬ x ≤ b ∧ r = b) ∨ (¬ a ≤ x ∧ r = a)) (h : post r) : ((a ≤ x → ((x ≤ b → post x) ∧ (¬ x ≤ b → post b))) ∧ (¬ a ≤ x → post a)) := by
  rcases hr with ⟨h1, h2, rfl⟩ | ⟨h1, h2, rfl⟩ | ⟨h1, rfl⟩
  · exact br_t h1 (br_t h2 h)
  · exact br_t h1 (br_f h2 h)
  · exact br_f h1 h
theorem px_clamp {post : Int32 → Prop} {x a b r : Int32} (hr : (a ≤ x ∧ x ≤ b ∧ r = x) ∨ (a ≤ x ∧ ¬ x ≤ b ∧ r = b) ∨ (¬ a ≤ x ∧ r = a)) (h : post r) : wpX_clamp post x a b := pt_clP hr h
theorem pt_cl (x : Int32) {a b : Nat} (hab : a ≤ b) (hb : b < 2 ^ 31) : ∃ q : Nat, a ≤ q ∧ q ≤ b ∧ ((nI a ≤ x ∧ x ≤ nI b ∧ nI q = x) ∨ (nI a ≤ x ∧ ¬ x ≤ nI b ∧ nI q = nI b) ∨ (¬ nI a ≤ x ∧ nI q = nI a)) := by
  by_cases h1 : nI a ≤ x
  · by_cases h2 : x ≤ nI b
    · have hx : ¬ x < 0 := by
        have := nI_pos' (n := a) (by omega)
        exact Int32.not_lt.mpr (Int32.le_trans this h1)
      obtain ⟨j, hj, rfl⟩ := nI_of hx
      rw [nI_leI (by omega) hj] at h1
      rw [nI_leI hj hb] at h2
      exact ⟨j, h1, h2, Or.inl ⟨nI_le h1 hj, nI_le h2 hb, rfl⟩⟩
    · exact ⟨b, hab, Nat.le_refl b, Or.inr (Or.inl ⟨h1, h2, rfl⟩)⟩
  · exact ⟨a, Nat.le_refl a, hab, Or.inr (Or.inr ⟨h1, rfl⟩)⟩
theorem i_vc0 (k0 : Int32) (k1 : Int32) : wpX_init (fun u => wpY_init (fun v => i_Rel 2 u v) k0 k1) k0 k1 := by
  obtain ⟨p, hp1, hp4, hp⟩ := pt_cl k0 (a := 1) (b := 4) (by omega) (by omega)
  obtain ⟨r, hr0, hr2, hr⟩ := pt_cl k1 (a := 0) (b := 2) (by omega) (by omega)
  unfold wpX_init
  refine px_clamp hp (nm_r (pt_m8 p) (px_clamp hr ⟨_, px_init ?_⟩))
  refine pt_clP (post := fun g => ∃ n84 : Nat, wY_init_84 _ k1 g 0 0 0 0 0 0 0 0 n84 0 _ _ _ _ _ _ _) hp ⟨_, py_init (r := nI r) (fun P hP => pt_clP hr hP) ?_⟩
  exact pt_mk ⟨p, 0, hp1, hp4, rfl, rfl, by omega, rfl, pt_r4I ⟨r, hr2, rfl⟩, fun _ => ⟨0, by omega, rfl⟩⟩
theorem i_vc_emit {k : Nat} {u : SX} {v : SY} (I : i_Rel k u v) (hk : k + 5 ≤ 2562) (v1 : Int32) (v2 : Int32) (v3 : Int32) (v4 : Int32) : wpX_emit (fun r u' => wpY_emit (fun r' v' => r' = r ∧ i_Rel (k + 5) u' v') v v1 v2 v3 v4) u v1 v2 v3 v4 := by
  obtain ⟨qp, qc, qn, qz, qg, qy, qv, qk, qt, qw, rr, rc, rp, ro, ra, rb, rd, rfl, rfl, hI⟩ := I
  obtain ⟨p, n, hp1, hp4, rfl, rfl, hn, rfl, hrt, hop⟩ := id hI
  refine br_c (fun h0 => br_t h0 ⟨rfl, pt_mk hI⟩) (fun h0 => br_c (fun h12 => ?_) (fun h12 => br_f h0 (br_f h12 ⟨rfl, pt_mk hI⟩)))
  by_cases e : n = 40
  · subst e
    exact br_f (nI_nlt (b := 40) (by omega) (by omega)) (br_f h0 (br_t h12 (br_t rfl ⟨rfl, pt_mk hI⟩)))
  · have hi : vp_in (nI n) 40 := vp_in_nI (by omega) (by omega)
    have ne : ¬ nI n = 40 := fun z => e ((nI_eq (b := 40) (by omega) (by omega)).mp z)
    refine br_t (nI_lt (b := 40) (by omega) (by omega)) ⟨hi, nm_e ⟨hi, nm_e ⟨hi, nm_e ⟨hi, nm_e (nm_r (nI_1 n) ?_)⟩⟩⟩⟩
    refine br_f h0 (br_t h12 (br_f ne ⟨hi, nm_e ⟨hi, nm_e ⟨hi, nm_e ⟨hi, nm_e (nm_r (nI_1 n) ?_)⟩⟩⟩⟩))
    refine ⟨nI_pred n, pt_mk ⟨p, n + 1, hp1, hp4, rfl, rfl, by omega, rfl, hrt, pt_updI hop ?_⟩⟩
    exact (nI_of2 (M := 12) (n := 12) (by decide) h0 h12)
theorem i_vc_drop {k : Nat} {u : SX} {v : SY} (I : i_Rel k u v) (hk : k + 5 ≤ 2562) : wpX_drop (fun r u' => wpY_drop (fun r' v' => r' = r ∧ i_Rel (k + 5) u' v') v) u := by
  obtain ⟨qp, qc, qn, qz, qg, qy, qv, qk, qt, qw, rr, rc, rp, ro, ra, rb, rd, rfl, rfl, hI⟩ := I
  obtain ⟨p, n, hp1, hp4, rfl, rfl, hn, rfl, hrt, hop⟩ := id hI
  cases n with
  | zero => exact br_f (by decide) (br_t rfl ⟨rfl, pt_mk hI⟩)
  | succ n =>
    refine br_t (nI_lt (a := 0) (by omega) (by omega)) (nm_r (nI_pred n) (br_f (nI_ne0 (by omega) (by omega)) (nm_r (nI_pred n) ⟨rfl, pt_mk ?_⟩)))
    exact ⟨p, n, hp1, hp4, rfl, rfl, by omega, rfl, hrt, hop⟩
theorem pt_le7 {x : Int32} : x ≤ 7 ↔ ¬ 8 ≤ x := by
  rw [Int32.le_iff_toInt_le, Int32.le_iff_toInt_le, show (7 : Int32).toInt = 7 from by decide, show (8 : Int32).toInt = 8 from by decide]
  omega
theorem pt_in8 {x : Int32} (h0 : ¬ x < 0) (h8 : ¬ 8 ≤ x) : vp_in x 8 := by
  obtain ⟨j, hj, rfl⟩ := nI_of h0
  have : j < 8 := Nat.lt_of_not_le (fun z => h8 (nI_le (a := 8) z hj))
  exact vp_in_nI this (by omega)
theorem i_vc_setReg {k : Nat} {u : SX} {v : SY} (I : i_Rel k u v) (hk : k + 5 ≤ 2562) (v1 : Int32) (v2 : Int32) : wpX_setReg (fun r u' => wpY_setReg (fun r' v' => r' = r ∧ i_Rel (k + 5) u' v') v v1 v2) u v1 v2 := by
  obtain ⟨qp, qc, qn, qz, qg, qy, qv, qk, qt, qw, rr, rc, rp, ro, ra, rb, rd, rfl, rfl, hI⟩ := I
  unfold wpX_setReg
  dsimp only
  refine br_c (fun h0 => br_t rfl (br_t h0 ⟨rfl, pt_mk hI⟩)) (fun h0 => br_c (fun h8 => br_t rfl (br_f h0 (br_f (fun z => pt_le7.mp z h8) ⟨rfl, pt_mk hI⟩))) (fun h8 => ?_))
  exact br_f (by decide) ⟨pt_in8 h0 h8, nm_e (br_f h0 (br_t (pt_le7.mpr h8) ⟨pt_in8 h0 h8, nm_e ⟨rfl, pt_mk hI⟩⟩))⟩
theorem i_vc_setFlags {k : Nat} {u : SX} {v : SY} (I : i_Rel k u v) (hk : k + 5 ≤ 2562) (v1 : Int32) : wpX_setFlags (fun u' => wpY_setFlags (fun v' => i_Rel (k + 5) u' v') v v1) u v1 := by
  obtain ⟨qp, qc, qn, qz, qg, qy, qv, qk, qt, qw, rr, rc, rp, ro, ra, rb, rd, rfl, rfl, hI⟩ := I
  exact nm_e (nm_e (nm_e (nm_e (nm_e (nm_e (nm_e (nm_e (pt_mk hI))))))))
section
variable {qp qc qn qz qg qy qv qk qt qw : Int32} {rr rc rp ro ra rb rd : Nat → Int32}
theorem px_out {post : Int32 → Prop} {a : Int32} {p : Nat} (h : a < 0 ∨ nI (8 * p) ≤ a) (hp : post 0) : wpX_isAddress post (qp, nI (8 * p), qn, qz, qg, qy, qv, qk, qt, qw, rr, rc, rp, ro, ra, rb, rd) a := by
  by_cases h0 : a < 0
  · exact br_t h0 hp
  · exact br_f h0 (br_t (h.resolve_left h0) hp)
theorem px_inn {post : Int32 → Prop} {p j : Nat} (hp4 : p ≤ 4) (h : j < 8 * p) (hp : post 1) : wpX_isAddress post (qp, nI (8 * p), qn, qz, qg, qy, qv, qk, qt, qw, rr, rc, rp, ro, ra, rb, rd) (nI j) :=
  br_f (nI_pos (by omega)) (br_f (nI_ge h (by omega)) hp)
theorem py_out {post : Int32 → Prop} {a : Int32} {p : Nat} (h : a < 0 ∨ nI (8 * p) ≤ a) (hp : post 0) : wpY_inside post (nI p, qn, qz, qg, qy, qv, qk, qt, qw, rp, ro, ra, rb, rd, rr, rc) a := by
  by_cases h0 : a < 0
  · exact br_t h0 hp
  · exact br_f h0 (br_t (by rw [pt_8m]; exact h.resolve_left h0) hp)
theorem py_inn {post : Int32 → Prop} {p j : Nat} (hp4 : p ≤ 4) (h : j < 8 * p) (hp : post 1) : wpY_inside post (nI p, qn, qz, qg, qy, qv, qk, qt, qw, rp, ro, ra, rb, rd, rr, rc) (nI j) :=
  br_f (nI_pos (by omega)) (br_f (by rw [pt_8m]; exact nI_ge h (by omega)) hp)
end
theorem pt_adr (a : Int32) {p : Nat} (hp4 : p ≤ 4) : (a < 0 ∨ nI (8 * p) ≤ a) ∨ ∃ j : Nat, j < 8 * p ∧ a = nI j := by
  rcases pk_ix a (n := 8 * p) (by omega) with h | h | h
  · exact Or.inl (Or.inl h)
  · exact Or.inl (Or.inr h)
  · exact Or.inr h
theorem i_vc_poke {k : Nat} {u : SX} {v : SY} (I : i_Rel k u v) (hk : k + 5 ≤ 2562) (v1 : Int32) (v2 : Int32) : wpX_poke (fun r u' => wpY_poke (fun r' v' => r' = r ∧ i_Rel (k + 5) u' v') v v1 v2) u v1 v2 := by
  obtain ⟨qp, qc, qn, qz, qg, qy, qv, qk, qt, qw, rr, rc, rp, ro, ra, rb, rd, rfl, rfl, hI⟩ := I
  obtain ⟨p, n, hp1, hp4, rfl, rfl, hn, rfl, hrt, hop⟩ := id hI
  unfold wpX_poke wpY_poke
  dsimp only
  rcases pt_adr v1 hp4 with h | ⟨j, hj, rfl⟩
  · exact px_out h (br_t rfl (py_out h (br_t rfl ⟨rfl, pt_mk hI⟩)))
  · have hi : vp_in (nI j) 32 := vp_in_nI (by omega) (by omega)
    exact px_inn hp4 hj (br_f (by decide) ⟨hi, nm_e (py_inn hp4 hj (br_f (by decide) ⟨hi, nm_e ⟨rfl, pt_mk hI⟩⟩))⟩)
theorem i_vc_setPage {k : Nat} {u : SX} {v : SY} (I : i_Rel k u v) (hk : k + 5 ≤ 2562) (v1 : Int32) (v2 : Int32) : wpX_setPage (fun r u' => wpY_setPage (fun r' v' => r' = r ∧ i_Rel (k + 5) u' v') v v1 v2) u v1 v2 := by
  obtain ⟨qp, qc, qn, qz, qg, qy, qv, qk, qt, qw, rr, rc, rp, ro, ra, rb, rd, rfl, rfl, hI⟩ := I
  obtain ⟨p, n, hp1, hp4, rfl, rfl, hn, rfl, hrt, hop⟩ := id hI
  refine br_c (fun h0 => br_t h0 ⟨rfl, pt_mk hI⟩) (fun h0 => br_c (fun h1 => ?_) (fun h1 => br_f h0 (br_f h1 ⟨rfl, pt_mk hI⟩)))
  refine br_c (fun h2 => br_f h0 (br_t h1 (br_t h2 ⟨rfl, pt_mk hI⟩))) (fun h2 => br_c (fun h3 => ?_) (fun h3 => br_f h0 (br_t h1 (br_f h2 (br_f h3 ⟨rfl, pt_mk hI⟩)))))
  have hi : vp_in v1 4 := by
    obtain ⟨j, hj, rfl⟩ := nI_of h0
    rw [nI_ltI hj (by omega)] at h1
    exact vp_in_nI (by omega) (by omega)
  refine ⟨hi, nm_e (br_f h0 (br_t h1 (br_f h2 (br_t h3 ⟨hi, nm_e ⟨rfl, pt_mk ?_⟩⟩))))⟩
  exact ⟨p, n, hp1, hp4, rfl, rfl, hn, rfl, pt_updI hrt (nI_of2 (M := 2) (n := 2) (by decide) h2 h3), hop⟩
theorem i_vc_jump {k : Nat} {u : SX} {v : SY} (I : i_Rel k u v) (hk : k + 5 ≤ 2562) (v1 : Int32) : wpX_jump (fun u' => wpY_jump (fun v' => i_Rel (k + 5) u' v') v v1) u v1 := by
  obtain ⟨qp, qc, qn, qz, qg, qy, qv, qk, qt, qw, rr, rc, rp, ro, ra, rb, rd, rfl, rfl, hI⟩ := I
  exact pt_mk (k := k) hI
theorem i_vc_reg {k : Nat} {u : SX} {v : SY} (I : i_Rel k u v) (hk : k + 5 ≤ 2562) (v1 : Int32) : wpX_reg (fun r => wpY_reg (fun r' => r' = r ∧ i_Rel (k + 5) u v) v v1) u v1 := by
  obtain ⟨qp, qc, qn, qz, qg, qy, qv, qk, qt, qw, rr, rc, rp, ro, ra, rb, rd, rfl, rfl, hI⟩ := I
  unfold wpX_reg
  dsimp only
  refine br_c (fun h0 => br_t rfl (br_t h0 ⟨rfl, pt_mk hI⟩)) (fun h0 => br_c (fun h8 => br_t rfl (br_f h0 (br_f (fun z => pt_le7.mp z h8) ⟨rfl, pt_mk hI⟩))) (fun h8 => ?_))
  exact br_f (by decide) ⟨pt_in8 h0 h8, br_f h0 (br_t (pt_le7.mpr h8) ⟨pt_in8 h0 h8, ⟨rfl, pt_mk hI⟩⟩)⟩
theorem i_vc_flags {k : Nat} {u : SX} {v : SY} (I : i_Rel k u v) (hk : k + 5 ≤ 2562) : wpX_flags (fun r => wpY_flags (fun r' => r' = r ∧ i_Rel (k + 5) u v) v) u := by
  obtain ⟨qp, qc, qn, qz, qg, qy, qv, qk, qt, qw, rr, rc, rp, ro, ra, rb, rd, rfl, rfl, hI⟩ := I
  exact ⟨rfl, pt_mk hI⟩
theorem i_vc_peek {k : Nat} {u : SX} {v : SY} (I : i_Rel k u v) (hk : k + 5 ≤ 2562) (v1 : Int32) : wpX_peek (fun r => wpY_peek (fun r' => r' = r ∧ i_Rel (k + 5) u v) v v1) u v1 := by
  obtain ⟨qp, qc, qn, qz, qg, qy, qv, qk, qt, qw, rr, rc, rp, ro, ra, rb, rd, rfl, rfl, hI⟩ := I
  obtain ⟨p, n, hp1, hp4, rfl, rfl, hn, rfl, hrt, hop⟩ := id hI
  unfold wpX_peek wpY_peek
  dsimp only
  rcases pt_adr v1 hp4 with h | ⟨j, hj, rfl⟩
  · exact px_out h (br_t rfl (py_out h (br_t rfl ⟨rfl, pt_mk hI⟩)))
  · have hi : vp_in (nI j) 32 := vp_in_nI (by omega) (by omega)
    exact px_inn hp4 hj (br_f (by decide) ⟨hi, py_inn hp4 hj (br_f (by decide) ⟨hi, ⟨rfl, pt_mk hI⟩⟩)⟩)
theorem i_vc_pc {k : Nat} {u : SX} {v : SY} (I : i_Rel k u v) (hk : k + 5 ≤ 2562) : wpX_pc (fun r => wpY_pc (fun r' => r' = r ∧ i_Rel (k + 5) u v) v) u := by
  obtain ⟨qp, qc, qn, qz, qg, qy, qv, qk, qt, qw, rr, rc, rp, ro, ra, rb, rd, rfl, rfl, hI⟩ := I
  exact ⟨rfl, pt_mk hI⟩
theorem i_vc_steps {k : Nat} {u : SX} {v : SY} (I : i_Rel k u v) (hk : k + 5 ≤ 2562) : wpX_steps (fun r => wpY_steps (fun r' => r' = r ∧ i_Rel (k + 5) u v) v) u := by
  obtain ⟨qp, qc, qn, qz, qg, qy, qv, qk, qt, qw, rr, rc, rp, ro, ra, rb, rd, rfl, rfl, hI⟩ := I
  exact ⟨rfl, pt_mk hI⟩
theorem i_vc_where {k : Nat} {u : SX} {v : SY} (I : i_Rel k u v) (hk : k + 5 ≤ 2562) : wpX_where (fun r => wpY_where (fun r' => r' = r ∧ i_Rel (k + 5) u v) v) u := by
  obtain ⟨qp, qc, qn, qz, qg, qy, qv, qk, qt, qw, rr, rc, rp, ro, ra, rb, rd, rfl, rfl, hI⟩ := I
  exact ⟨rfl, pt_mk hI⟩
