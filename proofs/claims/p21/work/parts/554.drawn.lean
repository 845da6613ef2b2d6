section
variable {g : ax_G} {Ret : Option Value → ax_H → Prop} {h : ax_H} {z : Nat → Nat} {DD : Nat → rD} {N : Nat → Nat → Nat} {C : Nat → Nat → Nat → Nat → Int32} {S : sT} {Im : Nat → Option sT} {tp : Nat → Nat} {B : Nat}
/-! DRAWN: the same answer -/
def hrL (w : Nat → Int32) : Nat → Nat → Int32 → Nat
  | 0, i, _ => i
  | n + 1, i, e => if e < w i then i else hrL w n (i + 1) (e - w i)
theorem hrL_le (w : Nat → Int32) : ∀ n i e, hrL w n i e ≤ i + n
  | 0, i, _ => Nat.le_refl _
  | n + 1, i, e => by
    unfold hrL
    split
    · omega
    · have := hrL_le w n (i + 1) (e - w i); omega
theorem c_hourOfE {H : Nat} {w : Nat → Int32} {t x : Int32} (od : od_at h 55 H w t) (ht : ¬ t = 0) (hH : 1 ≤ H) (hq : Ret (some (.int (nI (hrL w (H - 1) 0 (x - x / t * t))))) h) : mX3_hourOf g [.ref 55, .int x] h Ret := by
  have H12 := od.2.1
  refine uX3_hourOf (fun A hA => vX3_hourOf_0 hA ?_)
  have key : ∀ n i : Nat, i + n = H - 1 → ∀ (o1 : Option Value) (x2 : Int32), Ret (some (.int (nI (hrL w n i x2)))) h → A (20, [some (.ref 55), o1, some (.int x2), some (.int (nI i))], [], h, 0, 0) := by
    intro n
    have e1 : nI H - 1 = nI (H - 1) := by
      obtain ⟨j, rfl⟩ : ∃ j, H = j + 1 := ⟨H - 1, by omega⟩
      exact nI_pred j
    induction n with
    | zero =>
      intro i hi o1 x2 r
      refine vX3_hourOf_20 hA ⟨od.1.1, fun _ => r, fun q => ?_⟩
      rw [od.2.2.1, e1] at q; exact absurd (nI_le (by omega) (by omega)) q
    | succ n ih =>
      intro i hi o1 x2 r
      have ew : ax_i h 56 (nI i).toNatClampNeg = w i := by rw [nI_clamp (by omega)]; exact od.2.2.2.2 i (by omega)
      unfold hrL at r
      refine vX3_hourOf_20 hA ⟨od.1.1, fun q => ?_, fun _ => ⟨od.1.1, _, od.1.2.1, by rw [od.1.2.2], by rw [od.1.2.2]; exact vp_in_nI (by omega) (by decide), fun q => ?_, fun q => ⟨od.1.1, _, od.1.2.1, by rw [od.1.2.2], by rw [od.1.2.2]; exact vp_in_nI (by omega) (by decide), ?_⟩⟩⟩
      · rw [od.2.2.1, e1] at q; exact absurd q (nI_ge (by omega) (by omega))
      · have q : x2 < ax_i h 56 (nI i).toNatClampNeg := q
        rw [ew] at q
        rw [if_pos q] at r
        exact r
      · have q : ¬ x2 < ax_i h 56 (nI i).toNatClampNeg := q
        rw [ew] at q
        rw [if_neg q] at r
        rw [← nI_succ]
        show A (20, [some (.ref 55), _, some (.int (x2 - ax_i h 56 (nI i).toNatClampNeg)), some (.int (nI (i + 1)))], [], h, 0, 0)
        rw [ew]
        exact ih (i + 1) (by omega) _ _ r
  rw [od.2.2.2.1]
  exact ⟨od.1.1, fun _ => ⟨od.1.1, ht, key (H - 1) 0 (by omega) _ _ hq⟩, fun q => absurd q ht⟩
def usr (x : Int32) : Int32 := (x.toUInt32 >>> ((16 : Int32).toUInt32 &&& Int32.toUInt32 31)).toInt32
def drH (D : rD) (x s : Int32) : Nat := hrL (sp_w D x) (dH D - 1) 0 (usr s - usr s / sp_t D x * sp_t D x)
theorem drH_lt {D : rD} (ok : rd_ok D) (x s : Int32) : drH D x s < dH D := by
  have := hrL_le (sp_w D x) (dH D - 1) 0 (usr s - usr s / sp_t D x * sp_t D x)
  have := ok.1.1
  unfold drH
  omega
theorem c_mdrawHourE {m ρ : Nat} {D : rD} {mo pu : Nat → Int32} {vl : Nat → Nat → Int32} {x : Int32} (ok : rd_ok D) (a : mc_at h m ρ D mo pu vl) (b : mw_at h m (dH D) (sp_w D x) (sp_t D x) x) (hq : Ret (some (.int (nI (drH D x (ax_i h m 39 * 1103515245 + 12345))))) (ax_pi h m 39 (ax_i h m 39 * 1103515245 + 12345))) : mX10_drawHour g [.ref m] h Ret := by
  have H12 := ok.1.2
  have H2 := ok.1.1
  obtain ⟨W, hW, hT⟩ := w_sum ok x
  have tb := sp_t_bd ok x
  have τ0 : 0 < sNn W (dH D) ∧ sNn W (dH D) < 2 ^ 31 := by
    have hs : ∀ n, sNn W n ≤ 9 * n := fun n => by
      induction n with
      | zero => exact Nat.le_refl _
      | succ n ih => show sNn W n + W n ≤ 9 * (n + 1); have := (hW n).2; omega
    have s9 := hs (dH D)
    rw [hT, nI_toInt (by omega)] at tb
    omega
  have s0 := a.1.1.1
  refine uX10_drawHour (fun A hA => vX10_drawHour_0 hA ⟨s0, s0, eX10_draw ⟨s0, s0, ?_⟩⟩)
  intro u1
  refine ⟨s0, ?_⟩
  intro z2
  have es : ax_i u1 m 39 = ax_i h m 39 * 1103515245 + 12345 := ai_eq
  have ez2 : z2 = usr (ax_i h m 39 * 1103515245 + 12345) := by
    show usr (ax_i u1 m 39) = _
    rw [es]
  obtain ⟨n, hn, en⟩ := ush16 (ax_i h m 39 * 1103515245 + 12345)
  have en : usr (ax_i h m 39 * 1103515245 + 12345) = nI n := en
  have r1 : mr (fun j => j = 39) (fun _ => False) m h u1 := mr_f rfl
  have e1 := mo_we (mr_st r1 a.1.1)
  unfold drH at hq
  rw [en, hT, pk_rem (by omega) τ0.1 τ0.2] at hq
  rw [b.2.1, hT, ez2, en, pk_rem (by omega) τ0.1 τ0.2]
  refine ⟨nI_ne0 τ0.1 τ0.2, _, rfl, ?_⟩
  have key : ∀ k i e : Nat, i + k = dH D - 1 → e < 2 ^ 31 → e + sNn W i < sNn W (dH D) → Ret (some (.int (nI (hrL (sp_w D x) k i (nI e))))) u1 → A (11, [some (.ref m), some (.int (nI e)), some (.int (nI i))], [], u1, 0, 0) := by
    intro k
    induction k with
    | zero =>
      intro i e hi he hs r
      have ew : ax_i u1 (m + 16) (nI i).toNatClampNeg = nI (W i) := by rw [nI_clamp (by omega), mr_e r1 (by omega) (by exact id), b.1 i (by omega), (hW i).1]
      have w9 := (hW i).2
      refine vX10_drawHour_11 hA ⟨s0, _, e1.1, by rw [e1.2], by rw [e1.2]; exact vp_in_nI (by omega) (by decide), fun q => r, fun q => absurd ?_ q⟩
      rw [ew]
      have : sNn W (dH D) = sNn W i + W i := by rw [show dH D = i + 1 by omega]; rfl
      exact nI_lt (by omega) (by omega)
    | succ k ih =>
      intro i e hi he hs r
      have ew : ax_i u1 (m + 16) (nI i).toNatClampNeg = nI (W i) := by rw [nI_clamp (by omega), mr_e r1 (by omega) (by exact id), b.1 i (by omega), (hW i).1]
      have w9 := (hW i).2
      unfold hrL at r
      rw [(hW i).1] at r
      refine vX10_drawHour_11 hA ⟨s0, _, e1.1, by rw [e1.2], by rw [e1.2]; exact vp_in_nI (by omega) (by decide), fun q => ?_, fun q => ⟨s0, _, e1.1, by rw [e1.2], by rw [e1.2]; exact vp_in_nI (by omega) (by decide), ?_⟩⟩
      · rw [ew] at q
        rw [if_pos q] at r
        exact r
      · rw [ew] at q
        rw [if_neg q] at r
        rw [nI_ltI he (by omega)] at q
        rw [show nI e - nI (W i) = nI (e - W i) from by rw [show nI e = nI (e - W i) + nI (W i) from by rw [nI_add, Nat.sub_add_cancel (by omega)], Int32.add_sub_cancel]] at r
        rw [ew, ← nI_succ, show nI e - nI (W i) = nI (e - W i) from by rw [show nI e = nI (e - W i) + nI (W i) from by rw [nI_add, Nat.sub_add_cancel (by omega)], Int32.add_sub_cancel]]
        exact ih (i + 1) (e - W i) (by omega) (by omega) (by show e - W i + (sNn W i + W i) < _; omega) r
  exact key (dH D - 1) 0 (n % sNn W (dH D)) (by omega) (by have := Nat.mod_lt n τ0.1; omega) (by show _ + 0 < _; have := Nat.mod_lt n τ0.1; omega) hq
def sdN (x : Int32) : Nat → Int32
  | 0 => x
  | n + 1 => sdN x n * 1103515245 + 12345
def drS (D : rD) (x : Int32) : Nat → Nat → Int32
  | 0 => dpu D
  | n + 1 => fun p => drS D x n p + sp_vl D p (drH D (sp_po (dP D) (drS D x n)) (sdN x (n + 1)))
def drY (D : rD) (x : Int32) (n : Nat) : Nat := drH D (sp_po (dP D) (drS D x n)) (sdN x (n + 1))
def drT (D : rD) (x c : Int32) : Nat → Int32
  | 0 => 0
  | n + 1 => if nI (drY D x n) = c then drT D x c n + 1 else drT D x c n
def drL (D : rD) (x : Int32) : Nat → Int32
  | 0 => -1
  | n + 1 => nI (drY D x n)
def drV (D : rD) (x : Int32) (m : Nat) (x4 : Int32) : Int32 := if sp_in x4 (dP D) then drS D x m x4.toNatClampNeg else if x4 = 10 then sp_po (dP D) (drS D x m) else if x4 = 11 then drL D x m else if sp_in (x4 - 20) (dH D) then drT D x (x4 - 20) m else -1000000
def s_drawn (x2 x3 x4 : Int32) (D : rD) : Int32 := if x3 < 0 then -1000000 else if x3 ≤ 60 then drV D x2 x3.toNatClampNeg x4 else -1000000
theorem q9_drawn {x1 x2 x3 x4 : Int32} (a : tc h z DD N C) (hq : ∀ h', ax_same cl_F h h' → Ret (some (.int (qv (z 0) DD x1 (-1000000) (s_drawn x2 x3 x4)))) h') : mX9_drawn g [.ref 0, .int x1, .int x2, .int x3, .int x4] h Ret := by
  have z2 := a.2.2.2.2.1 0 (by decide)
  refine uX9_drawn (fun A hA => vX9_drawn_0 hA ⟨a.1.1, q_begun a (fun q => Or.inr ⟨rfl, ?_⟩) (fun k hk ex ok h' hs xs hc => Or.inl ⟨_, rfl, fun q0 => ?_, fun q0 => ⟨fun q60 => ?_, fun q60 => ?_⟩⟩)⟩)
  · have := hq h sm_rf; rwa [qv_no q] at this
  · have hv := hq h' hs
    rw [qv_yes z2 hk ex] at hv
    unfold s_drawn at hv
    rw [if_pos q0] at hv
    exact hv
  · have hv : ∀ hh, ax_same cl_F h hh → Ret (some (.int (drV (DD k) x2 x3.toNatClampNeg x4))) hh := fun hh hs => by
      have hv := hq hh hs
      rw [qv_yes z2 hk ex] at hv
      unfold s_drawn at hv
      rw [if_neg q0, if_pos q60] at hv
      exact hv
    obtain ⟨m, _, hm, rfl⟩ := i_rng (a := 0) (b := 60) (by omega) (by omega) (nt_lt.mp q0) q60
    rw [nI_clamp (by omega)] at hv
    have key : ∀ n i : Nat, i + n = m → ∀ hh, lgE h hh (DD k) (drS (DD k) x2 i) → A (44, [some (.ref 0), some (.int x1), some (.int x2), some (.int (nI m)), some (.int x4), some (.ref (6 + 14 * k)), some (.int (x4 - 20)), some (.int (drT (DD k) x2 (x4 - 20) i)), some (.int (drL (DD k) x2 i)), some (.int (sdN x2 i)), some (.int (nI i))], [], hh, 0, 0) := by
      intro n
      induction n with
      | zero =>
        intro i hi hh L
        have e : i = m := by omega
        subst e
        have c := tc_cl L.1 a
        have co := L.2
        have rc := c.2.2.1.2.2.1 k hk
        have hw := hv hh L.1
        unfold drV at hw
        refine vX9_drawn_44 hA ⟨fun _ => ⟨rc.1.1, c_hasPerson rc ⟨_, rfl, fun q => ⟨fun n10 => ⟨fun n11 => ⟨rc.1.1, c_hasHour rc ⟨_, rfl, fun q2 => ?_, fun q2 => ?_⟩⟩, fun e11 => ?_⟩, fun e10 => ⟨c.1.1, _, c.1.2.1.2.2.2.1, co.1.1, c_poorest co ⟨_, rfl, ?_⟩⟩⟩, fun q => ⟨c.1.1, _, c.1.2.1.2.2.2.1, co.1.1, ?_⟩⟩⟩, fun q => absurd (nI_le (by omega) (by omega)) q⟩
        · rw [b2i_0.mp q, if_neg Bool.false_ne_true, if_neg n10, if_neg n11, b2i_0.mp q2, if_neg Bool.false_ne_true] at hw; exact hw
        · rw [b2i_0.mp q, if_neg Bool.false_ne_true, if_neg n10, if_neg n11, if_pos (b2i_n0.mp q2)] at hw; exact hw
        · rw [b2i_0.mp q, if_neg Bool.false_ne_true, if_neg n10, if_pos e11] at hw; exact hw
        · rw [b2i_0.mp q, if_neg Bool.false_ne_true, if_pos e10] at hw; exact hw
        · rw [if_pos (b2i_n0.mp q)] at hw
          obtain ⟨p, hp, rfl⟩ := sp_in_ix (by have := ok.2.1; omega) (b2i_n0.mp q)
          obtain ⟨e1, e2, e3⟩ := have_at co hp
          refine ⟨_, e1, e2, e3, ?_⟩
          rw [nI_clamp (by have := ok.2.1; omega)] at hw ⊢
          rw [show ax_i hh 53 p = _ from co.2.2.2.2.1 p hp]
          exact hw
      | succ n ih =>
        intro i hi hh L
        have c := tc_cl L.1 a
        have co := L.2
        refine vX9_drawn_44 hA ⟨fun q => absurd q (nI_ge (by omega) (by omega)), fun _ => ⟨c.1.1, _, c.1.2.1.2.2.2.2.1, c.1.1, _, c.1.2.1.2.2.2.1, co.1.1, c_poorest co ⟨_, rfl, c.1.2.2.2.1.1, c_weigh c.1.2.2.2.1 (c.2.2.1.2.2.1 k hk) (fun j hj q => by unfold od_F at q; have := a.2.2.2.2.1 0 (by decide); omega) (fun h2 s2 od => ⟨rfl, ?_⟩)⟩⟩⟩
        have s3 : ax_same cl_F h h2 := sm_tr L.1 (sm_mono s2 (fun x q => by unfold od_F at q; unfold cl_F; omega))
        have c2 := tc_cl s3 a
        have co2 := co_at_same s2 (by refine ⟨?_, ?_, ?_⟩ <;> (intro q; unfold od_F at q; omega)) co
        refine ⟨c2.1.1, _, c2.1.2.1.2.2.2.2.1, ?_⟩
        intro z24
        have st := fun h4 => ih (i + 1) (by omega) h4
        refine ⟨od.1.1, c_hourOfE od (spt_ne ok _) (by have := ok.1.1; omega) ⟨_, rfl, c2.1.1, _, c2.1.2.1.2.2.2.1, co2.1.1, ?_⟩⟩
        show mX0_live g [.ref 52, .int (nI (drY (DD k) x2 i))] h2 _
        refine lg_live ok ⟨s3, co2⟩ (drH_lt ok _ _) (fun h4 L4 s4 => ⟨rfl, fun q => ?_, fun q => ?_⟩)
        · have t := st h4 L4
          rw [show drT (DD k) x2 (x4 - 20) (i + 1) = drT (DD k) x2 (x4 - 20) i from if_neg q, nI_succ] at t
          rw [Int32.add_zero]
          exact t
        · have t := st h4 L4
          rw [show drT (DD k) x2 (x4 - 20) (i + 1) = drT (DD k) x2 (x4 - 20) i + 1 from if_pos q, nI_succ] at t
          exact t
    exact key m 0 (by omega) h' ⟨hs, hc.2.1⟩
  · have hv := hq h' hs
    rw [qv_yes z2 hk ex] at hv
    unfold s_drawn at hv
    rw [if_neg q0, if_neg q60] at hv
    exact hv
def drC (D : rD) (x : Int32) (q : Nat) : Nat → Int32
  | 0 => 0
  | n + 1 => if drY D x n = q then drC D x q n + 1 else drC D x q n
theorem drC_T {D : rD} (ok : rd_ok D) (x : Int32) {q : Nat} (hq : q < 12) : ∀ n, drC D x q n = drT D x (nI q) n
  | 0 => rfl
  | n + 1 => by
    have := drH_lt ok (sp_po (dP D) (drS D x n)) (sdN x (n + 1))
    have H12 := ok.1.2
    show (if drY D x n = q then drC D x q n + 1 else drC D x q n) = (if nI (drY D x n) = nI q then drT D x (nI q) n + 1 else drT D x (nI q) n)
    rw [drC_T ok x hq n]
    by_cases e : drY D x n = q
    · rw [if_pos e, if_pos (congrArg nI e)]
    · rw [if_neg e, if_neg (fun f => e ((nI_eq (by show drH D (sp_po (dP D) (drS D x n)) (sdN x (n + 1)) < 2 ^ 31; omega) (by omega)).mp f))]
theorem q10_drawn {x1 x2 x3 x4 : Int32} (a : tc h z DD N C) (hq : ∀ h', ax_same md_F h h' → Ret (some (.int (qv (z 0) DD x1 (-1000000) (s_drawn x2 x3 x4)))) h') : mX10_drawn g [.ref 77, .int x1, .int x2, .int x3, .int x4] h Ret := by
  have z2 := a.2.2.2.2.1 0 (by decide)
  obtain ⟨a1, T1, hs1⟩ := q_code (v := 0) a.2.1 a.2.2.2.1
  have bad : ∀ h', ax_same md_F h h' → ¬ (0 ≤ x3 ∧ x3 ≤ 60) → Ret (some (.int (-1000000))) h' := fun h' hs n => by
    have hv := hq h' hs
    have e : qv (z 0) DD x1 (-1000000) (s_drawn x2 x3 x4) = -1000000 := by
      unfold qv
      split
      · unfold s_drawn
        split
        · rfl
        · rename_i c
          split
          · rename_i d
            exact absurd ⟨Int32.not_lt.mp c, d⟩ n
          · rfl
      · rfl
    rw [e] at hv
    exact hv
  refine uX10_drawn (fun A hA => vX10_drawn_0 hA ⟨a.2.1.1, ?_⟩)
  intro h1
  refine c_min ⟨_, rfl, fun q => bad _ hs1 (of_decide_eq_false (b2i_0.mp q)), fun q60 => ⟨a1.1, q_hand a1 T1 a.2.2.2.2 (fun q => ⟨_, rfl, fun _ => ?_, fun q => absurd rfl q⟩) (fun k hk ex ok h' hs hm => ⟨_, rfl, fun q => absurd q (by decide), fun _ => ⟨hm.1.1.1.1, ?_⟩⟩)⟩⟩
  · have := hq _ hs1; rwa [qv_no q] at this
  obtain ⟨p0, p60⟩ := of_decide_eq_true (b2i_n0.mp q60)
  have hv : ∀ hh, ax_same md_F h hh → Ret (some (.int (drV (DD k) x2 x3.toNatClampNeg x4))) hh := fun hh hs => by
    have hv := hq hh hs
    rw [qv_yes z2 hk ex] at hv
    unfold s_drawn at hv
    rw [if_neg (Int32.not_lt.mpr p0), if_pos p60] at hv
    exact hv
  obtain ⟨m, _, hm60, rfl⟩ := i_rng (a := 0) (b := 60) (by omega) (by omega) p0 p60
  rw [nI_clamp (by omega)] at hv
  have L := lm_hm (sm_tr hs1 hs) hm
  have H12 := ok.1.2
  have P6 := ok.2.1
  have Lu : lmE h (ax_pi h' 77 39 x2) k (DD k) (dpu (DD k)) := lm_mr L (mr_f (J := fun j => j = 39) (F := fun _ => False) rfl) (fun j hj => by omega) (fun a ha => ha.elim)
  have s0 := hm.1.1.1.1
  have go : ((∃ p, p < dP (DD k) ∧ x4 = nI p) ∨ (sp_in x4 (dP (DD k)) = false ∧ (10 ≤ x4 ∧ x4 ≤ 11)) ∨ ∃ i, i < dH (DD k) ∧ x4 = nI (20 + i)) → A (76, [some (.ref 77), some (.int x1), some (.int x2), some (.int (nI m)), some (.int x4), some (.int (-1)), some (.int 0)], [], ax_pi h' 77 39 x2, 0, 0) := by
    intro hx
    have k2 : ∀ n i : Nat, i + n = m → ∀ h3, lmE h h3 k (DD k) (drS (DD k) x2 i) → ax_i h3 77 39 = sdN x2 i → (∀ q, q < 12 → ax_i h3 94 q = drC (DD k) x2 q i) → A (100, [some (.ref 77), some (.int x1), some (.int x2), some (.int (nI m)), some (.int x4), some (.int (drL (DD k) x2 i)), some (.int (nI i))], [], h3, 0, 0) := by
      intro n
      induction n with
      | zero =>
        intro i hi h3 L3 e39 eo
        have e : i = m := by omega
        subst e
        have mc := L3.2.1
        have mw := L3.2.2
        have t0 := mc.1.1.1
        have hw := hv h3 L3.1
        unfold drV at hw
        obtain ⟨e1, e2⟩ := mo_pu mc.1.1
        obtain ⟨f1, f2⟩ := mo_dr mc.1.1
        refine vX10_drawn_100 hA ⟨fun _ => ⟨fun n10 => ⟨fun n11 => ⟨fun q => ⟨t0, _, f1, by rw [f2], ?_⟩, fun q => ⟨t0, _, e1, by rw [e2], ?_⟩⟩, fun e11 => ?_⟩, fun e10 => ⟨t0, ?_⟩⟩, fun q => absurd (nI_le (by omega) (by omega)) q⟩
        · rw [f2]
          rcases hx with ⟨p, hp, rfl⟩ | y | ⟨j, hj, rfl⟩
          · exact absurd q (nI_ge (a := p) (b := 10) (by omega) (by decide))
          · obtain ⟨j, j1, j2, rfl⟩ := i_rng (a := 10) (b := 11) (by decide) (by decide) y.2.1 y.2.2
            rcases (by omega : j = 10 ∨ j = 11) with rfl | rfl
            · exact absurd rfl n10
            · exact absurd rfl n11
          · have no : sp_in (nI (20 + j)) (dP (DD k)) = false := by
              unfold sp_in
              exact decide_eq_false (fun w => absurd w.2 (nI_nlt (by omega) (by omega)))
            have e20 : nI (20 + j) - 20 = nI j := ni_sb
            rw [no, if_neg Bool.false_ne_true, if_neg n10, if_neg n11, e20, sp_in_nI (by omega) hj, if_pos rfl, ← drC_T ok x2 (by omega), ← eo j (by omega)] at hw
            rw [e20]
            refine ⟨vp_in_nI (by omega) (by decide), ?_⟩
            rw [nI_clamp (by omega)]
            exact hw
        · rw [e2]
          rcases hx with ⟨p, hp, rfl⟩ | y | ⟨j, hj, rfl⟩
          · rw [sp_in_nI (by omega) hp, if_pos rfl, nI_clamp (by omega)] at hw
            refine ⟨vp_in_nI (by omega) (by decide), ?_⟩
            rw [nI_clamp (by omega), show ax_i h3 (77 + 13) p = _ from mc.2.1 p hp]
            exact hw
          · exact absurd y.2.1 q
          · exact absurd (nI_le (a := 10) (b := 20 + j) (by omega) (by omega)) q
        · rw [show sp_in x4 (dP (DD k)) = false from by
            rw [e11]
            unfold sp_in
            exact decide_eq_false (fun w => absurd w.2 (nI_nlt (a := 11) (by omega) (by omega))), if_neg Bool.false_ne_true, if_neg n10, if_pos e11] at hw
          exact hw
        · rw [show sp_in x4 (dP (DD k)) = false from by
            rw [e10]
            unfold sp_in
            exact decide_eq_false (fun w => absurd w.2 (nI_nlt (a := 10) (by omega) (by omega))), if_neg Bool.false_ne_true, if_pos e10] at hw
          rw [mw.2.2]
          exact hw
      | succ n ih =>
        intro i hi h3 L3 e39 eo
        have mc := L3.2.1
        have mw := L3.2.2
        have t0 := mc.1.1.1
        obtain ⟨f1, f2⟩ := mo_dr mc.1.1
        have yl : drY (DD k) x2 i < dH (DD k) := drH_lt ok _ _
        have ey : drH (DD k) (sp_po (dP (DD k)) (drS (DD k) x2 i)) (ax_i h3 77 39 * 1103515245 + 12345) = drY (DD k) x2 i := by rw [e39]; rfl
        refine vX10_drawn_100 hA ⟨fun q => absurd q (nI_ge (by omega) (by omega)), fun _ => ⟨t0, c_mdrawHourE ok mc mw ?_⟩⟩
        rw [ey]
        refine ⟨_, rfl, t0, _, f1, ⟨rfl, rfl⟩, by show (ax_s h3 (77 + 17)).1 = 11; rw [f2], by show vp_in (nI (drY (DD k) x2 i)) (ax_s h3 (77 + 17)).2; rw [f2]; exact vp_in_nI (by omega) (by decide), by show (ax_s h3 (77 + 17)).1 = 11; rw [f2], by show vp_in (nI (drY (DD k) x2 i)) (ax_s h3 (77 + 17)).2; rw [f2]; exact vp_in_nI (by omega) (by decide), ?_⟩
        intro u5
        have r5 : mr (fun j => j = 39) (fun a => a = 94) 77 h3 u5 := mr_tr (mr_f rfl) (mr_c rfl (by decide))
        have L5 := lm_mr L3 r5 (fun j hj => by omega) (fun a ha => by omega)
        refine ⟨t0, lm_live L5 yl (fun h6 L6 r6 => ⟨rfl, ?_⟩)⟩
        rw [← nI_succ]
        refine ih (i + 1) (by omega) h6 L6 ?_ (fun q hq => ?_)
        · rw [(r6.2 39 (by decide)).1]
          show ax_i (ax_pi (ax_pi h3 77 39 (ax_i h3 77 39 * 1103515245 + 12345)) (77 + 17) _ _) 77 39 = _
          rw [ai_pi, if_neg (by omega), ai_eq, e39]
          rfl
        · rw [mr_e r6 (x := 94) (by omega) (by omega)]
          show ax_i (ax_pi (ax_pi h3 77 39 (ax_i h3 77 39 * 1103515245 + 12345)) 94 (nI (drY (DD k) x2 i)).toNatClampNeg (ax_i (ax_pi h3 77 39 (ax_i h3 77 39 * 1103515245 + 12345)) 94 (nI (drY (DD k) x2 i)).toNatClampNeg + 1)) 94 q = _
          rw [nI_clamp (by omega)]
          by_cases e : q = drY (DD k) x2 i
          · rw [ai_pi, if_pos ⟨rfl, e⟩, ai_pi, if_neg (by omega), eo _ (by omega), show drC (DD k) x2 q (i + 1) = drC (DD k) x2 q i + 1 from if_pos e.symm, e]
          · rw [ai_pi, if_neg (fun w => e w.2), ai_pi, if_neg (by omega), eo q hq, show drC (DD k) x2 q (i + 1) = drC (DD k) x2 q i from if_neg (fun w => e w.symm)]
    have k1 : ∀ n i : Nat, i + n = 12 → ∀ h3, lmE h h3 k (DD k) (dpu (DD k)) → ax_i h3 77 39 = x2 → (∀ q, q < i → ax_i h3 94 q = 0) → A (76, [some (.ref 77), some (.int x1), some (.int x2), some (.int (nI m)), some (.int x4), some (.int (-1)), some (.int (nI i))], [], h3, 0, 0) := by
      intro n
      induction n with
      | zero =>
        intro i hi h3 L3 e39 eo
        exact vX10_drawn_76 hA ⟨fun _ => k2 m 0 (by omega) h3 L3 e39 (fun q hq => eo q (by omega)), fun q => absurd (nI_le (a := 12) (b := i) (by omega) (by omega)) q⟩
      | succ n ih =>
        intro i hi h3 L3 e39 eo
        have mc := L3.2.1
        obtain ⟨f1, f2⟩ := mo_dr mc.1.1
        refine vX10_drawn_76 hA ⟨fun q => absurd q (nI_ge (a := i) (b := 12) (by omega) (by decide)), fun _ => ⟨mc.1.1.1, _, f1, by rw [f2], by rw [f2]; exact vp_in_nI (by omega) (by decide), ?_⟩⟩
        intro u5
        rw [← nI_succ]
        refine ih (i + 1) (by omega) u5 (lm_mr L3 (mr_c (J := fun _ => False) (F := fun a => a = 94) rfl (by decide)) (fun j hj => hj.elim) (fun a ha => by omega)) ?_ (fun q hq => ?_)
        · show ax_i (ax_pi h3 (77 + 17) _ _) 77 39 = x2
          rw [ai_pi, if_neg (by omega)]; exact e39
        · show ax_i (ax_pi h3 94 (nI i).toNatClampNeg 0) 94 q = 0
          rw [nI_clamp (by omega), ai_pi]
          by_cases e : q = i
          · rw [if_pos ⟨rfl, e⟩]
          · rw [if_neg (fun w => e w.2)]; exact eo q (by omega)
    exact k1 12 0 (by decide) _ Lu ai_eq (fun q hq => absurd hq (Nat.not_lt_zero q))
  refine c_misOne hm.1.1 ⟨_, rfl, fun q => ⟨s0, go (Or.inl ?_)⟩, fun q1 => c_min ⟨_, rfl, fun q => ⟨s0, go (Or.inr (Or.inl ⟨b2i_0.mp q1, of_decide_eq_true (b2i_n0.mp q)⟩))⟩, fun q2 => ⟨s0, ?_⟩⟩⟩
  · exact sp_in_ix (by omega) (b2i_n0.mp q)
  · rw [hm.1.1.2.2.2.2.1, show (19 : Int32) + nI (dH (DD k)) = nI (19 + dH (DD k)) from ni_c 19 _]
    refine c_min ⟨_, rfl, fun q => ⟨s0, go (Or.inr (Or.inr ?_))⟩, fun q => ?_⟩
    · obtain ⟨n, n1, n2, rfl⟩ := i_rng (a := 20) (b := 19 + dH (DD k)) (by omega) (by have := ok.1.1; omega) (of_decide_eq_true (b2i_n0.mp q)).1 (of_decide_eq_true (b2i_n0.mp q)).2
      obtain ⟨i, rfl⟩ := Nat.exists_eq_add_of_le n1
      exact ⟨i, by omega, rfl⟩
    · have hw := hv h' L.1
      unfold drV at hw
      have f2 := of_decide_eq_false (b2i_0.mp q2)
      have f3 := of_decide_eq_false (b2i_0.mp q)
      rw [b2i_0.mp q1, if_neg Bool.false_ne_true, if_neg (fun e => f2 (by rw [e]; decide)), if_neg (fun e => f2 (by rw [e]; decide)), if_neg (fun e => ?_)] at hw
      · exact hw
      · obtain ⟨i, hi, ei⟩ := sp_in_ix (by omega) e
        have ex4 : x4 = nI (20 + i) := by
          rw [show nI (20 + i) = 20 + nI i from (ni_c 20 i).symm, ← ei, Int32.add_comm, Int32.sub_add_cancel]
        rw [ex4] at f3
        exact f3 ⟨nI_le (a := 20) (by omega) (by omega), nI_le (by omega) (by omega)⟩
theorem g_drawn (a : IV h S Im tp) (b : 103 ≤ h.1 ∧ h.1 ≤ B) (x1 x2 x3 x4 : Int32) : prI (mX9_drawn g) (mX10_drawn g) [.ref 0, .int x1, .int x2, .int x3, .int x4] [.ref 77, .int x1, .int x2, .int x3, .int x4] h (inv B) := pr_q _ a b (fun Ret k => q9_drawn (iv_tc a) k) (fun h1 Ret a1 k => q10_drawn (iv_tc a1) k)
end
