section
variable {g : ax_G} {Ret : Option Value → ax_H → Prop} {h : ax_H} {z : Nat → Nat} {DD : Nat → rD} {N : Nat → Nat → Nat} {C : Nat → Nat → Nat → Nat → Int32}
/-- a share of all weights -/
def s_sh (a : Int64) (D : rD) (u : Int32) : Int32 := (sp_sd a (sp_t D (rul D)).toInt64 u).toInt32
theorem t_pos {D : rD} (ok : rd_ok D) : 0 < (sp_t D (rul D)).toInt64.toInt := by rw [i_64]; exact (sp_t_bd ok _).1
/-! ODDS -/
def s_odds (x2 u : Int32) (D : rD) : Int32 := if sp_in x2 (dH D) then s_sh (sp_w D (rul D) x2.toNatClampNeg).toInt64 D u else -1
theorem w_big {D : rD} (ok : rd_ok D) (x : Int32) (q : Nat) : -9223372036854775808 < (sp_w D x q).toInt64.toInt := by
  have := sp_w_bd ok x q
  rw [i_64]; omega
theorem q9_odds {x1 x2 u : Int32} (a : tc h z DD N C) (hq : ∀ h', ax_same cl_F h h' → Ret (some (.int (qv (z 0) DD x1 (-1) (s_odds x2 u)))) h') : mX9_odds g [.ref 0, .int x1, .int x2, .int u] h Ret := by
  have z2 := a.2.2.2.2.1 0 (by decide)
  refine eX9_odds ⟨a.1.1, q_begun a (fun q => Or.inr ⟨rfl, ?_⟩) (fun k hk ex ok h' hs xs hc => Or.inl ⟨_, rfl, hc.1.1.1, c_hasHour hc.1 ⟨_, rfl, fun q1 => ?_, fun q1 => ?_⟩⟩)⟩
  · have := hq h sm_rf; rwa [qv_no q] at this
  · have hv := hq h' hs
    rw [qv_yes z2 hk ex] at hv
    unfold s_odds at hv
    rw [b2i_n0.mp q1, if_pos rfl] at hv
    obtain ⟨y, hy, rfl⟩ := sp_in_ix (by have := ok.1.2; omega) (b2i_n0.mp q1)
    obtain ⟨⟨so, ro, sw⟩, hH, -, e2, ew⟩ := hc.2.2
    have x4 := xs.2.1.2.2.2.2.1
    rw [nI_clamp (by omega)] at hv
    refine ⟨xs.1, _, x4, so, _, ro, by rw [sw], by rw [sw]; exact vp_in_nI (by omega) (by decide), xs.1, _, x4, so, ?_⟩
    rw [nI_clamp (by omega), ew y hy, e2]
    exact c_side (w_big ok _ _) (t_pos ok) ⟨_, rfl, hv⟩
  · have hv := hq h' hs
    rw [qv_yes z2 hk ex] at hv
    unfold s_odds at hv
    rw [b2i_0.mp q1] at hv
    exact hv
theorem q10_odds {x1 x2 u : Int32} (a : tc h z DD N C) (hq : ∀ h', ax_same md_F h h' → Ret (some (.int (qv (z 0) DD x1 (-1) (s_odds x2 u)))) h') : mX10_odds g [.ref 77, .int x1, .int x2, .int u] h Ret := by
  have z2 := a.2.2.2.2.1 0 (by decide)
  refine eX10_odds ⟨a.2.1.1, ?_⟩
  intro h1
  obtain ⟨a1, T1, hs1⟩ := q_code (v := 0) a.2.1 a.2.2.2.1
  refine ⟨a1.1, q_hand a1 T1 a.2.2.2.2 (fun q => ⟨_, rfl, fun _ => ?_, fun q2 => absurd rfl q2⟩) (fun k hk ex ok h' hs hm => ⟨_, rfl, fun q => absurd q (by decide), fun _ => ⟨hm.1.1.1.1, c_misHour hm.1.1 ⟨_, rfl, fun q1 => ?_, fun q1 => ?_⟩⟩⟩)⟩
  · have := hq _ hs1; rwa [qv_no q] at this
  · have hv := hq h' (sm_tr hs1 hs)
    rw [qv_yes z2 hk ex] at hv
    unfold s_odds at hv
    rw [b2i_0.mp q1] at hv
    exact hv
  · have hv := hq h' (sm_tr hs1 hs)
    rw [qv_yes z2 hk ex] at hv
    unfold s_odds at hv
    rw [b2i_n0.mp q1, if_pos rfl] at hv
    obtain ⟨y, hy, rfl⟩ := sp_in_ix (by have := ok.1.2; omega) (b2i_n0.mp q1)
    have hH := ok.1.2
    have s0 := hm.1.1.1.1
    obtain ⟨f1, f2⟩ := mo_we hm.1.1.1
    rw [nI_clamp (by omega)] at hv
    refine ⟨s0, _, f1, by rw [f2], by rw [f2]; exact vp_in_nI (by omega) (by decide), s0, ?_⟩
    rw [nI_clamp (by omega), hm.2.1 y hy, hm.2.2.1]
    exact c_part (w_big ok _ _) (t_pos ok) ⟨_, rfl, hv⟩
/-! MEAN -/
def s_we (D : rD) (x : Int32) : Int64 := sp_we (dP D) (dH D) (sp_vl D) (sp_w D (rul D)) x
theorem we_big {D : rD} (ok : rd_ok D) (x : Int32) : -9223372036854775808 < (s_we D x).toInt := by
  have := sp_we_bd (P := dP D) (vl := sp_vl D) (w := sp_w D (rul D)) (x := x) ok.1.2 (sp_w_bd ok (rul D))
  unfold s_we; omega
def s_mean (x2 u : Int32) (D : rD) : Int32 := if sp_in x2 (dP D) then s_sh (s_we D x2) D u else -1000000
theorem q9_mean {x1 x2 u : Int32} (a : tc h z DD N C) (hq : ∀ h', ax_same cl_F h h' → Ret (some (.int (qv (z 0) DD x1 (-1000000) (s_mean x2 u)))) h') : mX9_mean g [.ref 0, .int x1, .int x2, .int u] h Ret := by
  have z2 := a.2.2.2.2.1 0 (by decide)
  refine eX9_mean ⟨a.1.1, q_begun a (fun q => Or.inr ⟨rfl, ?_⟩) (fun k hk ex ok h' hs xs hc => Or.inl ⟨_, rfl, hc.1.1.1, c_hasPerson hc.1 ⟨_, rfl, fun q1 => ?_, fun q1 => ?_⟩⟩)⟩
  · have := hq h sm_rf; rwa [qv_no q] at this
  · have hv := hq h' hs
    rw [qv_yes z2 hk ex] at hv
    unfold s_mean at hv
    rw [b2i_n0.mp q1, if_pos rfl] at hv
    refine ⟨xs.1, _, xs.2.1.2.2.2.1, xs.1, _, xs.2.1.2.2.2.2.1, hc.2.1.1.1, c_weighed hc.2.1 hc.2.2 (Nat.le_refl _) ⟨_, rfl, xs.1, _, xs.2.1.2.2.2.2.1, hc.2.2.1.1, ?_⟩⟩
    rw [hc.2.2.2.2.2.1]
    exact c_side (we_big ok _) (t_pos ok) ⟨_, rfl, hv⟩
  · have hv := hq h' hs
    rw [qv_yes z2 hk ex] at hv
    unfold s_mean at hv
    rw [b2i_0.mp q1] at hv
    exact hv
/-- the reference's way into a republic and a person -/
theorem q_one {x1 x2 d : Int32} {f : rD → Int32} {K : Option Value → ax_H → Prop} (a : tc h z DD N C) (hq : ∀ h', ax_same md_F h h' → Ret (some (.int (qv (z 0) DD x1 d f))) h') (hf : ∀ D, sp_in x2 (dP D) = false → f D = d) (h0 : ∀ h', Ret (some (.int d)) h' → K (some (.int 0)) h') (h1 : ∀ k p, k < z 0 → rd_ok (DD k) → p < dP (DD k) → x2 = nI p → ∀ h', hm_at h' k (DD k) → (∀ h2, ax_same md_F h' h2 → Ret (some (.int (f (DD k)))) h2) → K (some (.int 1)) h') : mX10_handOne g [.ref 77, .int x1, .int x2] (ax_pi h 77 0 0) K := by
  have z2 := a.2.2.2.2.1 0 (by decide)
  obtain ⟨a1, T1, hs1⟩ := q_code (v := 0) a.2.1 a.2.2.2.1
  refine q_handOne a1 T1 a.2.2.2.2 (fun h' hs no => h0 h' ?_) (fun k p hk ex ok hp ep h' hs hm => h1 k p hk ok hp ep h' hm (fun h2 hs2 => ?_))
  · have := hq h' (sm_tr hs1 hs)
    by_cases q : sp_in x1 (z 0) = true
    · obtain ⟨k, hk, ex⟩ := sp_in_ix (by omega) q
      rw [qv_yes z2 hk ex, hf _ (no k hk ex)] at this
      exact this
    · rw [qv_no (by simpa using q)] at this
      exact this
  · have := hq h2 (sm_tr hs1 (sm_tr hs hs2))
    rw [qv_yes z2 hk ex] at this
    exact this
theorem q10_mean {x1 x2 u : Int32} (a : tc h z DD N C) (hq : ∀ h', ax_same md_F h h' → Ret (some (.int (qv (z 0) DD x1 (-1000000) (s_mean x2 u)))) h') : mX10_mean g [.ref 77, .int x1, .int x2, .int u] h Ret := by
  refine eX10_mean ⟨a.2.1.1, ?_⟩
  intro h1
  refine ⟨(q_code (v := 0) a.2.1 a.2.2.2.1).1.1, q_one (x2 := x2) a hq (fun D e => by unfold s_mean; rw [e]; rfl) (fun h' r => ⟨_, rfl, fun _ => r, fun q => absurd rfl q⟩) (fun k p hk ok hp ep h' hm hr => ⟨_, rfl, fun q => absurd q (by decide), fun _ => ⟨hm.1.1.1.1, ?_⟩⟩)⟩
  subst ep
  have hv := hr h' sm_rf
  unfold s_mean at hv
  rw [sp_in_nI (by have := ok.2.1; omega) hp, if_pos rfl] at hv
  refine c_mmeanOf hm.1 hm.2 hp ⟨_, rfl, hm.1.1.1.1, ?_⟩
  rw [hm.2.2.1]
  exact c_part (we_big ok _) (t_pos ok) ⟨_, rfl, hv⟩
/-! GAIN -/
def s_gn (D : rD) (x y : Int32) : Int64 := sp_ga (dP D) (dH D) (sp_vl D) (sp_w D (rul D)) (sp_t D (rul D)) x y
theorem gn_bd {D : rD} (ok : rd_ok D) (x y : Int32) : -463856467968 ≤ (s_gn D x y).toInt ∧ (s_gn D x y).toInt ≤ 463856467968 := by
  have h1 := sp_we_bd (P := dP D) (vl := sp_vl D) (w := sp_w D (rul D)) (x := x) ok.1.2 (sp_w_bd ok (rul D))
  have h2 := sp_t_bd ok (rul D)
  unfold s_gn sp_ga
  generalize sp_we (dP D) (dH D) (sp_vl D) (sp_w D (rul D)) x = W at h1
  have h3 := i_bd (sp_br (dP D) (dH D) (sp_vl D) x y)
  have e1 := i_64 (sp_br (dP D) (dH D) (sp_vl D) x y)
  have e2 := i_64 (sp_t D (rul D))
  generalize (sp_br (dP D) (dH D) (sp_vl D) x y).toInt64 = B at e1 ⊢
  generalize (sp_t D (rul D)).toInt64 = T at e2 ⊢
  rw [← e1] at h3
  rw [← e2] at h2
  have m1 : B.toInt * T.toInt ≤ 231928233984 := by
    rcases Int.le_total 0 B.toInt with hv | hv
    · have := Int.mul_le_mul_of_nonneg_left (a := T.toInt) (b := 108) (c := B.toInt) h2.2 hv
      omega
    · have := Int.mul_nonneg (Int.neg_nonneg_of_nonpos hv) (show 0 ≤ T.toInt by omega)
      rw [Int.neg_mul] at this
      omega
  have m2 : -231928233984 ≤ B.toInt * T.toInt := by
    rcases Int.le_total 0 B.toInt with hv | hv
    · have := Int.mul_nonneg hv (show 0 ≤ T.toInt by omega)
      omega
    · have := Int.mul_le_mul_of_nonneg_left (a := T.toInt) (b := 108) (c := -B.toInt) h2.2 (Int.neg_nonneg_of_nonpos hv)
      rw [Int.neg_mul] at this
      omega
  have e3 : (B * T).toInt = B.toInt * T.toInt := i64_mul (by omega) (by omega)
  rw [i64_sub (by rw [e3]; omega) (by rw [e3]; omega), e3]
  omega
def s_gain (x2 x3 u : Int32) (D : rD) : Int32 := if sp_in x2 (dP D) && sp_in x3 (dH D) then s_sh (s_gn D x2 x3) D u else -1000000
theorem c_gainBy {k : Nat} {D : rD} {x y : Int32} (xs : xs_st h) (hc : hc_at h k D) (hq : Ret (some (.long (s_gn D x y))) h) : mX9_gainBy g [.ref 0, .int x, .int y] h Ret := by
  have x3 := xs.2.1.2.2.2.1
  have x4 := xs.2.1.2.2.2.2.1
  refine eX9_gainBy ⟨xs.1, _, x3, hc.2.1.1.1, c_brings hc.2.1 ⟨_, rfl, xs.1, _, x4, hc.2.2.1.1, xs.1, _, x3, xs.1, _, x4, hc.2.1.1.1, c_weighed hc.2.1 hc.2.2 (Nat.le_refl _) ⟨_, rfl, ?_⟩⟩⟩
  rw [hc.2.2.2.2.2.1]
  exact hq
theorem q9_gain {x1 x2 x3 u : Int32} (a : tc h z DD N C) (hq : ∀ h', ax_same cl_F h h' → Ret (some (.int (qv (z 0) DD x1 (-1000000) (s_gain x2 x3 u)))) h') : mX9_gain g [.ref 0, .int x1, .int x2, .int x3, .int u] h Ret := by
  have z2 := a.2.2.2.2.1 0 (by decide)
  refine eX9_gain ⟨a.1.1, q_begun a (fun q => Or.inr ⟨rfl, ?_⟩) (fun k hk ex ok h' hs xs hc => Or.inl ⟨_, rfl, hc.1.1.1, c_hasPerson hc.1 ⟨_, rfl, fun q1 => ?_, fun q1 => ⟨hc.1.1.1, c_hasHour hc.1 ⟨_, rfl, fun q2 => ⟨xs.1, c_gainBy xs hc ⟨_, rfl, xs.1, _, xs.2.1.2.2.2.2.1, hc.2.2.1.1, ?_⟩⟩, fun q2 => ?_⟩⟩⟩⟩)⟩
  · have := hq h sm_rf; rwa [qv_no q] at this
  · have hv := hq h' hs
    rw [qv_yes z2 hk ex] at hv
    unfold s_gain at hv
    rw [b2i_0.mp q1] at hv
    exact hv
  · have hv := hq h' hs
    rw [qv_yes z2 hk ex] at hv
    unfold s_gain at hv
    rw [b2i_n0.mp q1, b2i_n0.mp q2, Bool.and_true, if_pos rfl] at hv
    rw [hc.2.2.2.2.2.1]
    exact c_side (by have := gn_bd ok x2 x3; omega) (t_pos ok) ⟨_, rfl, hv⟩
  · have hv := hq h' hs
    rw [qv_yes z2 hk ex] at hv
    unfold s_gain at hv
    rw [b2i_0.mp q2, Bool.and_false] at hv
    exact hv
theorem q10_gain {x1 x2 x3 u : Int32} (a : tc h z DD N C) (hq : ∀ h', ax_same md_F h h' → Ret (some (.int (qv (z 0) DD x1 (-1000000) (s_gain x2 x3 u)))) h') : mX10_gain g [.ref 77, .int x1, .int x2, .int x3, .int u] h Ret := by
  refine eX10_gain ⟨a.2.1.1, ?_⟩
  intro h1
  refine ⟨(q_code (v := 0) a.2.1 a.2.2.2.1).1.1, q_one (x2 := x2) a hq (fun D e => by unfold s_gain; rw [e]; rfl) (fun h' r => ⟨_, rfl, fun _ => r, fun q => absurd rfl q⟩) (fun k p hk ok hp ep h' hm hr => ⟨_, rfl, fun q => absurd q (by decide), fun _ => ⟨hm.1.1.1.1, c_misHour hm.1.1 ⟨_, rfl, fun q1 => ?_, fun q1 => ⟨hm.1.1.1.1, ?_⟩⟩⟩⟩)⟩
  · have hv := hr h' sm_rf
    unfold s_gain at hv
    rw [b2i_0.mp q1, Bool.and_false] at hv
    exact hv
  · subst ep
    have hv := hr h' sm_rf
    unfold s_gain at hv
    rw [sp_in_nI (by have := ok.2.1; omega) hp, b2i_n0.mp q1, Bool.and_true, if_pos rfl] at hv
    obtain ⟨y, hy, rfl⟩ := sp_in_ix (by have := ok.1.2; omega) (b2i_n0.mp q1)
    refine c_mgainOf hm.1 hm.2 hp hy ⟨_, rfl, hm.1.1.1.1, ?_⟩
    rw [hm.2.2.1]
    exact c_part (by have := gn_bd ok (nI p) (nI y); unfold s_gn at this; omega) (t_pos ok) ⟨_, rfl, hv⟩
/-! WISH -/
def s_wish (x2 : Int32) (D : rD) : Int32 := if decide (x2 = -1) || sp_in x2 (dP D) then sp_bh (dP D) (dH D) (sp_vl D) x2 else -1
theorem q9_wish {x1 x2 : Int32} (a : tc h z DD N C) (hq : ∀ h', ax_same cl_F h h' → Ret (some (.int (qv (z 0) DD x1 (-1) (s_wish x2)))) h') : mX9_wish g [.ref 0, .int x1, .int x2] h Ret := by
  have z2 := a.2.2.2.2.1 0 (by decide)
  refine eX9_wish ⟨a.1.1, q_begun a (fun q => Or.inr ⟨rfl, ?_⟩) (fun k hk ex ok h' hs xs hc => Or.inl ⟨_, rfl, hc.1.1.1, c_hasPersonOrAll hc.1 ⟨_, rfl, fun q1 => ⟨xs.1, _, xs.2.1.2.2.2.1, hc.2.1.1.1, c_bestHour (by have := ok.1.1; omega) hc.2.1 ⟨_, rfl, ?_⟩⟩, fun q1 => ?_⟩⟩)⟩
  · have := hq h sm_rf; rwa [qv_no q] at this
  · have hv := hq h' hs
    rw [qv_yes z2 hk ex] at hv
    unfold s_wish at hv
    rw [b2i_n0.mp q1] at hv
    exact hv
  · have hv := hq h' hs
    rw [qv_yes z2 hk ex] at hv
    unfold s_wish at hv
    rw [b2i_0.mp q1] at hv
    exact hv
theorem q10_wish {x1 x2 : Int32} (a : tc h z DD N C) (hq : ∀ h', ax_same md_F h h' → Ret (some (.int (qv (z 0) DD x1 (-1) (s_wish x2)))) h') : mX10_wish g [.ref 77, .int x1, .int x2] h Ret := by
  have z2 := a.2.2.2.2.1 0 (by decide)
  refine eX10_wish ⟨a.2.1.1, ?_⟩
  intro h1
  obtain ⟨a1, T1, hs1⟩ := q_code (v := 0) a.2.1 a.2.2.2.1
  refine ⟨a1.1, q_hand a1 T1 a.2.2.2.2 (fun q => ⟨_, rfl, fun _ => ?_, fun q2 => absurd rfl q2⟩) (fun k hk ex ok h' hs hm => ⟨_, rfl, fun q => absurd q (by decide), fun _ => ?_⟩)⟩
  · have := hq _ hs1; rwa [qv_no q] at this
  · have hv := hq h' (sm_tr hs1 hs)
    rw [qv_yes z2 hk ex] at hv
    unfold s_wish at hv
    have s0 := hm.1.1.1.1
    have hH1 : 1 ≤ dH (DD k) := by have := ok.1.1; omega
    refine ⟨fun e => ⟨fun ne => absurd e ne, fun _ => ⟨s0, ?_⟩⟩, fun ne => ⟨s0, c_misOne hm.1.1 ⟨_, rfl, fun q2 => ⟨fun _ => ⟨s0, ?_⟩, fun e => absurd e ne⟩, fun q2 => ?_⟩⟩⟩
    · subst e
      exact c_mchoice hH1 hm.1 ⟨_, rfl, hv⟩
    · rw [b2i_n0.mp q2, Bool.or_true, if_pos rfl] at hv
      obtain ⟨p, hp, rfl⟩ := sp_in_ix (by have := ok.2.1; omega) (b2i_n0.mp q2)
      exact c_mwishOf hH1 hm.1 hp ⟨_, rfl, hv⟩
    · rw [b2i_0.mp q2, decide_eq_false ne] at hv
      exact hv
end
