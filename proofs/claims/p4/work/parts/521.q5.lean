section
variable {g : ax_G} {Ret : Option Value → ax_H → Prop} {h : ax_H} {z : Nat → Nat} {DD : Nat → rD} {N : Nat → Nat → Nat} {C : Nat → Nat → Nat → Nat → Int32} {S : sT} {Im : Nat → Option sT} {tp : Nat → Nat} {B : Nat}
/-! PERSON -/
def s_per (x2 x3 : Int32) (D : rD) : Int32 := if sp_in x2 (dP D) = true then (if x3 = 0 then dpu D x2.toNatClampNeg else if ¬ x3 < 10 ∧ ¬ 10 + nI (dH D) ≤ x3 then sp_de D x2 (x3 - 10) else if ¬ x3 < 30 ∧ ¬ 30 + nI (dH D) ≤ x3 then sp_lo D x2 (x3 - 30) else -2) else -2
theorem q9_person {x1 x2 x3 : Int32} (a : tc h z DD N C) (hq : ∀ h', ax_same cl_F h h' → Ret (some (.int (qv (z 0) DD x1 (-2) (s_per x2 x3)))) h') : mX9_person g [.ref 0, .int x1, .int x2, .int x3] h Ret := by
  have z2 := a.2.2.2.2.1 0 (by decide)
  have hv := hq h sm_rf
  refine eX9_person ⟨a.1.1, _, a.1.2.1.1, a.2.2.1.1.1, c_republicAt a.2.2.1 (fun q => Or.inr ⟨rfl, ?_⟩) (fun k hk ex => ?_)⟩
  · rwa [qv_no q] at hv
  · have rc := a.2.2.1.2.2.1 k hk
    rw [qv_yes z2 hk ex] at hv
    refine Or.inl ⟨_, rfl, rc.1.1, c_hasPerson rc ⟨_, rfl, fun q => ⟨fun q0 => ?_, fun q0 => ?_⟩, fun q => ?_⟩⟩
    · unfold s_per at hv
      rw [if_pos (b2i_n0.mp q), if_neg q0] at hv
      refine ⟨fun q1 => ⟨fun q2 => ?_, fun q2 => ⟨rc.1.1, fun q3 => ?_, fun q3 => ⟨rc.1.1, c_lotAt rc ⟨_, rfl, ?_⟩⟩⟩⟩, fun q1 => ⟨rc.1.1, fun q2 => ⟨fun q3 => ?_, fun q3 => ⟨rc.1.1, fun q4 => ?_, fun q4 => ⟨rc.1.1, c_lotAt rc ⟨_, rfl, ?_⟩⟩⟩⟩, fun q2 => ⟨rc.1.1, c_deedAt rc ⟨_, rfl, ?_⟩⟩⟩⟩
      · rw [if_neg (fun w => w.1 q1), if_neg (fun w => w.1 q2)] at hv; exact hv
      · rw [rc.2.2.1.1] at q3; rw [if_neg (fun w => w.1 q1), if_neg (fun w => w.2 q3)] at hv; exact hv
      · rw [rc.2.2.1.1] at q3; rw [if_neg (fun w => w.1 q1), if_pos ⟨q2, q3⟩] at hv; exact hv
      · rw [rc.2.2.1.1] at q2; rw [if_neg (fun w => w.2 q2), if_neg (fun w => w.1 q3)] at hv; exact hv
      · rw [rc.2.2.1.1] at q2 q4; rw [if_neg (fun w => w.2 q2), if_neg (fun w => w.2 q4)] at hv; exact hv
      · rw [rc.2.2.1.1] at q2 q4; rw [if_neg (fun w => w.2 q2), if_pos ⟨q3, q4⟩] at hv; exact hv
      · rw [rc.2.2.1.1] at q2; rw [if_pos ⟨q1, q2⟩] at hv; exact hv
    · unfold s_per at hv
      rw [if_pos (b2i_n0.mp q), if_pos q0] at hv
      obtain ⟨p, hp, rfl⟩ := sp_in_ix (by have := rc.2.1.2; omega) (b2i_n0.mp q)
      refine ⟨rc.1.1, _, rc.1.2.1.2.2.1, by rw [rc.1.2.2.2.2.1], ?_, ?_⟩
      · rw [rc.1.2.2.2.2.1]; exact nI_in (by have := rc.2.1.2; omega) (by decide)
      · rw [nI_clamp (by have := rc.2.1.2; omega)] at hv ⊢; rw [rc.2.2.2.2.2.1 p hp]; exact hv
    · unfold s_per at hv
      rw [if_neg (by rw [b2i_0.mp q]; decide)] at hv
      exact hv
theorem de_nI {D : rD} {p q : Nat} (hp : p < dP D) (hq : q < dH D) (hP : dP D ≤ 6) (hH : dH D ≤ 12) : sp_de D (nI p) (nI q) = dde D p q := by
  unfold sp_de; rw [sp_in_nI (by omega) hp, sp_in_nI (by omega) hq, nI_clamp (by omega), nI_clamp (by omega)]; rfl
theorem lo_nI {D : rD} {p q : Nat} (hp : p < dP D) (hq : q < dH D) (hP : dP D ≤ 6) (hH : dH D ≤ 12) : sp_lo D (nI p) (nI q) = dlo D p q := by
  unfold sp_lo; rw [sp_in_nI (by omega) hp, sp_in_nI (by omega) hq, nI_clamp (by omega), nI_clamp (by omega)]; rfl
theorem ni_c12 {c p b q : Nat} : (OfNat.ofNat c : Int32) + 12 * nI p + nI (b + q) - OfNat.ofNat b = nI (c + 12 * p + q) := by
  have e : (OfNat.ofNat c : Int32) + 12 * nI p = nI (c + 12 * p) := by
    have := ni_21 (p := p) (q := 0)
    rw [nI_0, Int32.add_zero, Nat.add_zero] at this
    rw [this]; exact ni_c c (12 * p)
  rw [e, nI_add, show c + 12 * p + (b + q) = b + (c + 12 * p + q) by omega]
  exact ni_sb
theorem nr_of {x : Int32} {a H : Nat} (ha : a < 100) (hH : H ≤ 12) (h0 : ¬ (nI (a + 1) ≤ x ∧ x ≤ nI (a + H))) : ¬ (¬ x < nI (a + 1) ∧ ¬ nI (a + 1 + H) ≤ x) := fun w => h0 ⟨nt_lt.mp w.1, by
  have := nt_le.mp w.2
  rw [i_lt, nI_toInt (by omega)] at this
  rw [i_le, nI_toInt (by omega)]
  omega⟩
theorem q10_person {x1 x2 x3 : Int32} (a : tc h z DD N C) (hq : ∀ h', ax_same md_F h h' → Ret (some (.int (qv (z 0) DD x1 (-2) (s_per x2 x3)))) h') : mX10_person g [.ref 77, .int x1, .int x2, .int x3] h Ret := by
  refine eX10_person ⟨a.2.1.1, ?_⟩
  intro h1
  refine ⟨a.2.1.1, q_one (f := s_per x2 x3) (d := -2) a hq (fun D e => by unfold s_per; rw [if_neg (by rw [e]; decide)]) (fun h' r => ⟨_, rfl, fun q => absurd rfl q, fun _ => r⟩) (fun k p hk ok hp ep h' hm hr => ?_)⟩
  have hv := hr h' sm_rf
  have mb := hm.1.1
  have eH := mb.2.2.2.2.1
  subst ep
  unfold s_per at hv
  rw [if_pos (sp_in_nI (by have := ok.2.1; omega) hp)] at hv
  have H12 := ok.1.2
  have P6 := ok.2.1
  have H2 := ok.1.1
  refine ⟨_, rfl, fun _ => ⟨mb.1.1, c_min ⟨_, rfl, fun q => ⟨fun q0 => ⟨mb.1.1, c_min ⟨_, rfl, fun q1 => ?_, fun q1 => ?_⟩⟩, fun q0 => ⟨mb.1.1, _, (mo_pu mb.1).1, by rw [(mo_pu mb.1).2], ?_, ?_⟩⟩, fun q => ?_⟩⟩, fun q => absurd q (by decide)⟩
  · rw [eH, show (9 : Int32) + nI (dH (DD k)) = nI (9 + dH (DD k)) from ni_c 9 _] at q
    rw [eH, show (29 : Int32) + nI (dH (DD k)) = nI (29 + dH (DD k)) from ni_c 29 _] at q1
    rw [if_neg q0, show (10 : Int32) + nI (dH (DD k)) = nI (10 + dH (DD k)) from ni_c 10 _, show (30 : Int32) + nI (dH (DD k)) = nI (30 + dH (DD k)) from ni_c 30 _, if_neg (show ¬ (¬ x3 < 10 ∧ ¬ nI (10 + dH (DD k)) ≤ x3) from nr_of (a := 9) (by decide) H12 (of_decide_eq_false (b2i_0.mp q))), if_neg (show ¬ (¬ x3 < 30 ∧ ¬ nI (30 + dH (DD k)) ≤ x3) from nr_of (a := 29) (by decide) H12 (of_decide_eq_false (b2i_0.mp q1)))] at hv
    exact hv
  · rw [eH, show (9 : Int32) + nI (dH (DD k)) = nI (9 + dH (DD k)) from ni_c 9 _] at q
    rw [eH, show (29 : Int32) + nI (dH (DD k)) = nI (29 + dH (DD k)) from ni_c 29 _] at q1
    obtain ⟨n, n1, n2, rfl⟩ := i_rng (a := 30) (b := 29 + dH (DD k)) (by omega) (by omega) (of_decide_eq_true (b2i_n0.mp q1)).1 (of_decide_eq_true (b2i_n0.mp q1)).2
    obtain ⟨i, rfl⟩ := Nat.exists_eq_add_of_le n1
    refine ⟨mb.1.1, c_mof (i := 92 + 12 * p + i) mb.1 mb.2.1 mb.2.2.2.1 (by omega) ni_c12 ⟨_, rfl, ?_⟩⟩
    rw [show 164 * k + (92 + 12 * p + i) = 164 * k + 92 + 12 * p + i by omega, mb.2.2.1.2.2.2.2.2.2.2 p i hp (by omega)]
    rw [if_neg q0, show (10 : Int32) + nI (dH (DD k)) = nI (10 + dH (DD k)) from ni_c 10 _, show (30 : Int32) + nI (dH (DD k)) = nI (30 + dH (DD k)) from ni_c 30 _, if_neg (show ¬ (¬ nI (30 + i) < 10 ∧ ¬ nI (10 + dH (DD k)) ≤ nI (30 + i)) from nr_of (a := 9) (by decide) H12 (of_decide_eq_false (b2i_0.mp q))), if_pos ⟨nI_nlt (b := 30) (by omega) (by omega), nI_ge (a := 30 + i) (b := 30 + dH (DD k)) (by omega) (by omega)⟩, show nI (30 + i) - 30 = nI i from ni_sb, lo_nI hp (by omega) P6 H12] at hv
    exact hv
  · rw [(mo_pu mb.1).2]; exact nI_in (by omega) (by decide)
  · rw [if_pos q0] at hv
    rw [nI_clamp (by omega)] at hv ⊢
    rw [hm.1.2.1 p hp]; exact hv
  · rw [eH, show (9 : Int32) + nI (dH (DD k)) = nI (9 + dH (DD k)) from ni_c 9 _] at q
    obtain ⟨n, n1, n2, rfl⟩ := i_rng (a := 10) (b := 9 + dH (DD k)) (by omega) (by omega) (of_decide_eq_true (b2i_n0.mp q)).1 (of_decide_eq_true (b2i_n0.mp q)).2
    obtain ⟨i, rfl⟩ := Nat.exists_eq_add_of_le n1
    refine ⟨mb.1.1, c_mof (i := 20 + 12 * p + i) mb.1 mb.2.1 mb.2.2.2.1 (by omega) ni_c12 ⟨_, rfl, ?_⟩⟩
    rw [show 164 * k + (20 + 12 * p + i) = 164 * k + 20 + 12 * p + i by omega, mb.2.2.1.2.2.2.2.2.2.1 p i hp (by omega)]
    rw [if_neg (nI_ne0 (by omega) (by omega)), show (10 : Int32) + nI (dH (DD k)) = nI (10 + dH (DD k)) from ni_c 10 _, if_pos ⟨nI_nlt (b := 10) (by omega) (by omega), nI_ge (a := 10 + i) (b := 10 + dH (DD k)) (by omega) (by omega)⟩, show nI (10 + i) - 10 = nI i from ni_sb, de_nI hp (by omega) P6 H12] at hv
    exact hv
theorem g_person (a : IV h S Im tp) (b : 103 ≤ h.1 ∧ h.1 ≤ B) (x1 x2 x3 : Int32) : prI (mX9_person g) (mX10_person g) [.ref 0, .int x1, .int x2, .int x3] [.ref 77, .int x1, .int x2, .int x3] h (inv B) := pr_q _ a b (fun Ret k => q9_person (iv_tc a) k) (fun h1 Ret a1 k => q10_person (iv_tc a1) k)
end
