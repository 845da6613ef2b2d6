section
variable {g : ax_G} {Ret : Option Value → ax_H → Prop} {h : ax_H}
section
variable {m ρ : Nat} {D : rD} {mo pu w : Nat → Int32} {vl : Nat → Nat → Int32} {t po : Int32}
theorem c_mmeanOf {p : Nat} (a : mc_at h m ρ D mo pu vl) (b : mw_at h m (dH D) w t po) (hp : p < dP D) (hq : Ret (some (.long (sp_we (dP D) (dH D) vl w (nI p)))) h) : mX10_meanOf g [.ref m, .int (nI p)] h Ret := by
  obtain ⟨hH, hP⟩ := a.1.2.2.1.1
  have s0 := a.1.1.1
  have e26 := a.1.2.2.2.2.1
  obtain ⟨e1, e2⟩ := mo_we a.1.1
  obtain ⟨f1, f2⟩ := mo_va a.1.1
  refine uX10_meanOf (fun A hA => vX10_meanOf_0 hA ?_)
  have key : ∀ n i : Nat, i + n = dH D → A (5, [some (.ref m), some (.int (nI p)), some (.long (sumL (fun q => (w q).toInt64 * (sp_br (dP D) (dH D) vl (nI p) (nI q)).toInt64) i)), none, some (.int (nI i))], [], h, 0, 0) := by
    intro n
    induction n with
    | zero =>
      intro i hi
      refine vX10_meanOf_5 hA ⟨s0, fun _ => ?_, fun q => ?_⟩
      · rw [show i = dH D by omega]; exact hq
      · rw [e26] at q; exact absurd (nI_le (by omega) (by omega)) q
    | succ n ih =>
      intro i hi
      have ei : (12 : Int32) * nI p + nI i = nI (12 * p + i) := ni_21
      refine vX10_meanOf_5 hA ⟨s0, fun q => ?_, fun _ => ⟨s0, _, e1, by rw [e2], by rw [e2]; exact vp_in_nI (by omega) (by decide), s0, _, f1, by rw [f2], by rw [ei, f2]; exact vp_in_nI (by omega) (by decide), ?_⟩⟩
      · rw [e26] at q; exact absurd q (nI_ge (by omega) (by omega))
      · rw [ei, nI_clamp (by omega), nI_clamp (by omega), b.1 i (by omega), a.2.2.2 p i hp (by omega), ← sp_br_in (vl := vl) hp (show i < dH D by omega) hP hH, ← nI_succ]
        exact ih (i + 1) (by omega)
  exact key (dH D) 0 (by omega)
/-- what an hour is worth more than a day is to bring, times all weights -/
def sp_ga (P H : Nat) (vl : Nat → Nat → Int32) (w : Nat → Int32) (t x y : Int32) : Int64 := (sp_br P H vl x y).toInt64 * t.toInt64 - sp_we P H vl w x
theorem c_mgainOf {p q : Nat} (a : mc_at h m ρ D mo pu vl) (b : mw_at h m (dH D) w t po) (hp : p < dP D) (hq0 : q < dH D) (hq : Ret (some (.long (sp_ga (dP D) (dH D) vl w t (nI p) (nI q)))) h) : mX10_gainOf g [.ref m, .int (nI p), .int (nI q)] h Ret := by
  obtain ⟨hH, hP⟩ := a.1.2.2.1.1
  have s0 := a.1.1.1
  obtain ⟨f1, f2⟩ := mo_va a.1.1
  have ei : (12 : Int32) * nI p + nI q = nI (12 * p + q) := ni_21
  refine eX10_gainOf ⟨s0, s0, _, f1, by rw [f2], by rw [ei, f2]; exact vp_in_nI (by omega) (by decide), ?_⟩
  refine ⟨s0, c_mmeanOf a b hp ⟨_, rfl, ?_⟩⟩
  rw [ei, nI_clamp (by omega), a.2.2.2 p q hp hq0, b.2.1]
  unfold sp_ga at hq
  rw [sp_br_in hp hq0 hP hH, Int64.mul_comm] at hq
  exact hq
theorem c_mallBy {q : Nat} (a : mc_at h m ρ D mo pu vl) (hq0 : q < dH D) (hq : Ret (some (.int (sp_br (dP D) (dH D) vl (-1) (nI q)))) h) : mX10_allBy g [.ref m, .int (nI q)] h Ret := by
  obtain ⟨hH, hP⟩ := a.1.2.2.1.1
  have s0 := a.1.1.1
  have e27 := a.1.2.2.2.2.2.1
  obtain ⟨f1, f2⟩ := mo_va a.1.1
  have eb : sp_br (dP D) (dH D) vl (-1) (nI q) = sumN (fun p => vl p q) (dP D) := by
    unfold sp_br
    rw [if_neg, if_pos (by decide), nI_clamp (by omega)]
    rintro (z | z | z)
    · exact nI_pos (by omega) z
    · exact nI_ge hq0 (by omega) z
    · have := i_le.mp z
      rw [nI_toInt (by omega)] at this
      exact absurd this (by show ¬ ((_ : Int) ≤ -1); omega)
  rw [eb] at hq
  refine uX10_allBy (fun A hA => vX10_allBy_0 hA ?_)
  have key : ∀ n i : Nat, i + n = dP D → A (4, [some (.ref m), some (.int (nI q)), some (.int (sumN (fun p => vl p q) i)), some (.int (nI i))], [], h, 0, 0) := by
    intro n
    induction n with
    | zero =>
      intro i hi
      refine vX10_allBy_4 hA ⟨s0, fun _ => ?_, fun z => ?_⟩
      · rw [show i = dP D by omega]; exact hq
      · rw [e27] at z; exact absurd (nI_le (by omega) (by omega)) z
    | succ n ih =>
      intro i hi
      have ei : (12 : Int32) * nI i + nI q = nI (12 * i + q) := ni_21
      refine vX10_allBy_4 hA ⟨s0, fun z => ?_, fun _ => ⟨s0, _, f1, by rw [f2], by rw [ei, f2]; exact vp_in_nI (by omega) (by decide), ?_⟩⟩
      · rw [e27] at z; exact absurd z (nI_ge (by omega) (by omega))
      · rw [ei, nI_clamp (by omega), a.2.2.2 i q (by omega) hq0, ← nI_succ]
        exact ih (i + 1) (by omega)
  exact key (dP D) 0 (by omega)
theorem c_mwishOf {p : Nat} (hH1 : 1 ≤ dH D) (a : mc_at h m ρ D mo pu vl) (hp : p < dP D) (hq : Ret (some (.int (sp_bh (dP D) (dH D) vl (nI p)))) h) : mX10_wishOf g [.ref m, .int (nI p)] h Ret := by
  obtain ⟨hH, hP⟩ := a.1.2.2.1.1
  have s0 := a.1.1.1
  have e26 := a.1.2.2.2.2.1
  obtain ⟨f1, f2⟩ := mo_va a.1.1
  refine uX10_wishOf (fun A hA => vX10_wishOf_0 hA ?_)
  have key : ∀ n i : Nat, i + 1 + n = dH D → A (4, [some (.ref m), some (.int (nI p)), some (.int (nI (bst (fun q => sp_br (dP D) (dH D) vl (nI p) (nI q)) i))), some (.int (nI (i + 1)))], [], h, 0, 0) := by
    intro n
    induction n with
    | zero =>
      intro i hi
      refine vX10_wishOf_4 hA ⟨s0, fun _ => ?_, fun z => ?_⟩
      · unfold sp_bh at hq; rw [show dH D - 1 = i by omega] at hq; exact hq
      · rw [e26] at z; exact absurd (nI_le (by omega) (by omega)) z
    | succ n ih =>
      intro i hi
      have hb := bst_le (fun q => sp_br (dP D) (dH D) vl (nI p) (nI q)) i
      have e1 : (12 : Int32) * nI p + nI (i + 1) = nI (12 * p + (i + 1)) := ni_21
      have e2 : (12 : Int32) * nI p + nI (bst (fun q => sp_br (dP D) (dH D) vl (nI p) (nI q)) i) = nI (12 * p + bst (fun q => sp_br (dP D) (dH D) vl (nI p) (nI q)) i) := ni_21
      have v1 : ax_i h (m + 15) (12 * p + (i + 1)) = sp_br (dP D) (dH D) vl (nI p) (nI (i + 1)) := by rw [a.2.2.2 p (i + 1) hp (by omega), sp_br_in hp (by omega) hP hH]
      have v2 : ax_i h (m + 15) (12 * p + bst (fun q => sp_br (dP D) (dH D) vl (nI p) (nI q)) i) = sp_br (dP D) (dH D) vl (nI p) (nI (bst (fun q => sp_br (dP D) (dH D) vl (nI p) (nI q)) i)) := by rw [a.2.2.2 p _ hp (by omega), sp_br_in hp (by omega) hP hH]
      refine vX10_wishOf_4 hA ⟨s0, fun z => ?_, fun _ => ⟨s0, _, f1, by rw [f2], by rw [e1, f2]; exact vp_in_nI (by omega) (by decide), s0, _, f1, by rw [f2], by rw [e2, f2]; exact vp_in_nI (by omega) (by decide), fun z => ?_, fun z => ?_⟩⟩
      · rw [e26] at z; exact absurd z (nI_ge (by omega) (by omega))
      · rw [e1, e2, nI_clamp (by omega), nI_clamp (by omega), v1, v2] at z
        have := ih (i + 1) (by omega)
        rw [show bst (fun q => sp_br (dP D) (dH D) vl (nI p) (nI q)) (i + 1) = bst (fun q => sp_br (dP D) (dH D) vl (nI p) (nI q)) i from if_neg (nt_lt.mpr z)] at this
        rw [← nI_succ]; exact this
      · rw [e1, e2, nI_clamp (by omega), nI_clamp (by omega), v1, v2] at z
        have := ih (i + 1) (by omega)
        rw [show bst (fun q => sp_br (dP D) (dH D) vl (nI p) (nI q)) (i + 1) = i + 1 from if_pos (nt_le.mp z)] at this
        rw [← nI_succ]; exact this
  exact key (dH D - 1) 0 (by omega)
theorem c_mchoice (hH1 : 1 ≤ dH D) (a : mc_at h m ρ D mo pu vl) (hq : Ret (some (.int (sp_bh (dP D) (dH D) vl (-1)))) h) : mX10_choice g [.ref m] h Ret := by
  obtain ⟨hH, hP⟩ := a.1.2.2.1.1
  have s0 := a.1.1.1
  have e26 := a.1.2.2.2.2.1
  refine uX10_choice (fun A hA => vX10_choice_0 hA ?_)
  have key : ∀ n i : Nat, i + 1 + n = dH D → A (4, [some (.ref m), some (.int (nI (bst (fun q => sp_br (dP D) (dH D) vl (-1) (nI q)) i))), some (.int (nI (i + 1)))], [], h, 0, 0) := by
    intro n
    induction n with
    | zero =>
      intro i hi
      refine vX10_choice_4 hA ⟨s0, fun _ => ?_, fun z => ?_⟩
      · unfold sp_bh at hq; rw [show dH D - 1 = i by omega] at hq; exact hq
      · rw [e26] at z; exact absurd (nI_le (by omega) (by omega)) z
    | succ n ih =>
      intro i hi
      have hb := bst_le (fun q => sp_br (dP D) (dH D) vl (-1) (nI q)) i
      refine vX10_choice_4 hA ⟨s0, fun z => ?_, fun _ => ⟨s0, c_mallBy a (by omega) ⟨_, rfl, s0, c_mallBy a (by omega) ⟨_, rfl, fun z => ?_, fun z => ?_⟩⟩⟩⟩
      · rw [e26] at z; exact absurd z (nI_ge (by omega) (by omega))
      · have := ih (i + 1) (by omega)
        rw [show bst (fun q => sp_br (dP D) (dH D) vl (-1) (nI q)) (i + 1) = bst (fun q => sp_br (dP D) (dH D) vl (-1) (nI q)) i from if_neg (nt_lt.mpr z)] at this
        rw [← nI_succ]; exact this
      · have := ih (i + 1) (by omega)
        rw [show bst (fun q => sp_br (dP D) (dH D) vl (-1) (nI q)) (i + 1) = i + 1 from if_pos (nt_le.mp z)] at this
        rw [← nI_succ]; exact this
  exact key (dH D - 1) 0 (by omega)
end
variable {z : Nat → Nat} {DD : Nat → rD} {N : Nat → Nat → Nat} {C : Nat → Nat → Nat → Nat → Int32}
/-- an answer about a republic -/
def qv (z0 : Nat) (DD : Nat → rD) (x d : Int32) (f : rD → Int32) : Int32 := if sp_in x z0 then f (DD x.toNatClampNeg) else d
theorem qv_no {z0 : Nat} {x d : Int32} {f : rD → Int32} (hx : sp_in x z0 = false) : qv z0 DD x d f = d := by unfold qv; rw [hx]; rfl
theorem qv_yes {z0 k : Nat} {x d : Int32} {f : rD → Int32} (hz : z0 ≤ 2) (hk : k < z0) (hx : x = nI k) : qv z0 DD x d f = f (DD k) := by
  unfold qv
  rw [hx, sp_in_nI (by omega) hk, nI_clamp (by omega)]
  rfl
/-! VALUE -/
def s_value (x2 x3 : Int32) (D : rD) : Int32 := if (decide (x2 = -1) || sp_in x2 (dP D)) && sp_in x3 (dH D) then sp_br (dP D) (dH D) (sp_vl D) x2 x3 else -1000000
theorem q9_value {x1 x2 x3 : Int32} (a : tc h z DD N C) (hq : ∀ h', ax_same cl_F h h' → Ret (some (.int (qv (z 0) DD x1 (-1000000) (s_value x2 x3)))) h') : mX9_value g [.ref 0, .int x1, .int x2, .int x3] h Ret := by
  have z2 := a.2.2.2.2.1 0 (by decide)
  refine eX9_value ⟨a.1.1, q_begun a (fun q => Or.inr ⟨rfl, ?_⟩) (fun k hk ex ok h' hs xs hc => Or.inl ⟨_, rfl, hc.1.1.1, c_hasPersonOrAll hc.1 ⟨_, rfl, fun q1 => ?_, fun q1 => ⟨hc.1.1.1, c_hasHour hc.1 ⟨_, rfl, fun q2 => ⟨xs.1, _, xs.2.1.2.2.2.1, hc.2.1.1.1, c_brings hc.2.1 ⟨_, rfl, ?_⟩⟩, fun q2 => ?_⟩⟩⟩⟩)⟩
  · have := hq h sm_rf; rwa [qv_no q] at this
  · have := hq h' hs
    rw [qv_yes z2 hk ex] at this
    unfold s_value at this
    rw [b2i_0.mp q1] at this
    exact this
  · have := hq h' hs
    rw [qv_yes z2 hk ex] at this
    unfold s_value at this
    rw [b2i_n0.mp q1, b2i_n0.mp q2] at this
    exact this
  · have := hq h' hs
    rw [qv_yes z2 hk ex] at this
    unfold s_value at this
    rw [b2i_0.mp q2, Bool.and_false] at this
    exact this
theorem q10_value {x1 x2 x3 : Int32} (a : tc h z DD N C) (hq : ∀ h', ax_same md_F h h' → Ret (some (.int (qv (z 0) DD x1 (-1000000) (s_value x2 x3)))) h') : mX10_value g [.ref 77, .int x1, .int x2, .int x3] h Ret := by
  have z2 := a.2.2.2.2.1 0 (by decide)
  refine eX10_value ⟨a.2.1.1, ?_⟩
  intro h1
  obtain ⟨a1, T1, hs1⟩ := q_code (v := 0) a.2.1 a.2.2.2.1
  refine ⟨a1.1, q_hand a1 T1 a.2.2.2.2 (fun q => ⟨_, rfl, fun _ => ?_, fun q2 => absurd rfl q2⟩) (fun k hk ex ok h' hs hm => ⟨_, rfl, fun q => absurd q (by decide), fun _ => ⟨hm.1.1.1.1, c_misHour hm.1.1 ⟨_, rfl, fun q1 => ?_, fun q1 => ?_⟩⟩⟩)⟩
  · have := hq _ hs1; rwa [qv_no q] at this
  · have := hq h' (sm_tr hs1 hs)
    rw [qv_yes z2 hk ex] at this
    unfold s_value at this
    rw [b2i_0.mp q1, Bool.and_false] at this
    exact this
  · obtain ⟨y, hy, rfl⟩ := sp_in_ix (by have := ok.1.2; omega) (b2i_n0.mp q1)
    have hv := hq h' (sm_tr hs1 hs)
    rw [qv_yes z2 hk ex] at hv
    unfold s_value at hv
    rw [b2i_n0.mp q1, Bool.and_true] at hv
    have s0 := hm.1.1.1.1
    obtain ⟨f1, f2⟩ := mo_va hm.1.1.1
    obtain ⟨hH, hP⟩ := hm.1.1.2.2.1.1
    refine ⟨fun e => ⟨fun ne => absurd e ne, fun _ => ⟨s0, ?_⟩⟩, fun ne => ⟨s0, c_misOne hm.1.1 ⟨_, rfl, fun q2 => ⟨fun _ => ?_, fun e => absurd e ne⟩, fun q2 => ?_⟩⟩⟩
    · subst e
      exact c_mallBy hm.1 hy ⟨_, rfl, hv⟩
    · obtain ⟨p, hp, rfl⟩ := sp_in_ix (by omega) (b2i_n0.mp q2)
      have ei : (12 : Int32) * nI p + nI y = nI (12 * p + y) := ni_21
      rw [b2i_n0.mp q2, Bool.or_true, if_pos rfl, sp_br_in hp hy hP hH] at hv
      refine ⟨s0, _, f1, by rw [f2], by rw [ei, f2]; exact vp_in_nI (by omega) (by decide), ?_⟩
      rw [ei, nI_clamp (by omega), hm.1.2.2.2 p y hp hy]
      exact hv
    · rw [b2i_0.mp q2, decide_eq_false ne] at hv
      exact hv
end
