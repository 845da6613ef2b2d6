section
variable {g : ax_G} {Ret : Option Value → ax_H → Prop} {h : ax_H} {z : Nat → Nat} {DD : Nat → rD} {N : Nat → Nat → Nat} {C : Nat → Nat → Nat → Nat → Int32} {S : sT} {Im : Nat → Option sT} {tp : Nat → Nat} {B : Nat}
/-! trains, of the class -/
def sp_tt (x s : Int32) : Int32 := if x ≤ s then x else x + 1
def sp_ld (x y n s : Int32) : Int32 := sp_tt n s - sp_tt x s - y
theorem c_trueTime {x s : Int32} (hq : Ret (some (.int (sp_tt x s))) h) : mX9_trueTime g [.int x, .int s] h Ret := by
  unfold sp_tt at hq
  exact eX9_trueTime ⟨fun q => by rw [if_pos q] at hq; exact hq, fun q => by rw [if_neg q] at hq; exact hq⟩
theorem c_lead {x y n s : Int32} (hq : Ret (some (.int (sp_ld x y n s))) h) : mX9_lead g [.int x, .int y, .int n, .int s] h Ret := eX9_lead (c_trueTime ⟨_, rfl, c_trueTime ⟨_, rfl, hq⟩⟩)
section
variable {l n : Nat} {C1 : Nat → Nat → Int32} {r : Nat} {D : rD}
theorem c_leadOf {x s : Int32} (L : li_at h l 3 n C1) (hq : ∀ v : Int32, Ret (some (.int v)) h) : mX9_leadOf g [.ref l, .int x, .int s] h Ret := eX9_leadOf ⟨L.1.1, c_lcell (by decide) (by decide) L ⟨_, rfl, L.1.1, c_lcell (by decide) (by decide) L ⟨_, rfl, L.1.1, c_lcell (by decide) (by decide) L ⟨_, rfl, c_lead ⟨_, rfl, hq _⟩⟩⟩⟩⟩
theorem c_keepsBy {s : Int32} (L : li_at h l 3 n C1) (hq : ∀ v : Int32, Ret (some (.int v)) h) : mX9_keepsBy g [.ref l, .int s] h Ret := by
  have n8 : n ≤ 8 := L.2.1
  refine uX9_keepsBy (fun A hA => vX9_keepsBy_0 hA ?_)
  have key : ∀ k i : Nat, n ≤ i + 1 + k → i ≤ 8 → A (2, [some (.ref l), some (.int s), some (.int (nI i))], [], h, 0, 0) := by
    intro k
    induction k with
    | zero =>
      intro i hi i8
      refine vX9_keepsBy_2 hA ⟨L.1.1, fun _ => ⟨Or.inr rfl, hq _⟩, fun q => ?_⟩
      rw [L.2.2.1, ← nI_succ] at q; exact absurd (nI_le (by omega) (by omega)) q
    | succ k ih =>
      intro i hi i8
      refine vX9_keepsBy_2 hA ⟨L.1.1, fun _ => ⟨Or.inr rfl, hq _⟩, fun q => c_leadOf L (fun v => ⟨_, rfl, fun _ => ?_, fun _ => ⟨Or.inl rfl, hq _⟩⟩)⟩
      rw [L.2.2.1, ← nI_succ, nI_leI (by omega) (by omega)] at q
      rw [← nI_succ]; exact ih (i + 1) (by omega) (by omega)
  exact key 8 0 (by omega) (by omega)
theorem c_slackOf {x : Int32} (rc : rc_at h r D) (L : li_at h l 3 n C1) (hq : ∀ v : Int32, Ret (some (.int v)) h) : mX9_slackOf g [.ref r, .ref l, .int x] h Ret := by
  have H12 := rc.2.1.1
  refine uX9_slackOf (fun A hA => vX9_slackOf_0 hA ?_)
  have key : ∀ k i : Nat, i + k = dH D → ∀ x3 : Int32, A (7, [some (.ref r), some (.ref l), some (.int x), some (.int x3), some (.int (nI i))], [], h, 0, 0) := by
    intro k
    induction k with
    | zero =>
      intro i hi x3
      refine vX9_slackOf_7 hA ⟨rc.1.1, fun _ => hq _, fun q => ?_⟩
      rw [rc.2.2.1.1] at q; exact absurd (nI_le (by omega) (by omega)) q
    | succ k ih =>
      intro i hi x3
      refine vX9_slackOf_7 hA ⟨rc.1.1, fun q => ?_, fun _ => c_leadOf L (fun v => ⟨_, rfl, ?_⟩)⟩
      · rw [rc.2.2.1.1] at q; exact absurd q (nI_ge (by omega) (by omega))
      · rw [← nI_succ]; exact ih (i + 1) (by omega) _
  exact key (dH D) 0 (by omega) _
theorem c_leastNext {u w : Nat} (rc : rc_at h r D) (hu : u ≤ 200) (hw : w ≤ 9) (hq : ∀ v, v ≤ u + w → Ret (some (.int (nI v))) h) : mX9_leastNext g [.ref r, .int (nI u), .int (nI w)] h Ret := by
  have H12 := rc.2.1.1
  have e : nI u + nI w = nI (u + w) := nI_add u w
  refine uX9_leastNext (fun A hA => vX9_leastNext_0 hA ?_)
  have key : ∀ k i : Nat, i + k = u + w → ∀ o4 o5 : Option Value, A (2, [some (.ref r), some (.int (nI u)), some (.int (nI w)), some (.int (nI i)), o4, o5], [], h, 0, 0) := by
    intro k
    induction k with
    | zero =>
      intro i hi o4 o5
      refine vX9_leastNext_2 hA ⟨fun _ => ?_, fun q => ?_⟩
      · rw [e]; exact hq _ (Nat.le_refl _)
      · rw [e] at q; exact absurd (nI_le (by omega) (by omega)) q
    | succ k ih =>
      intro i hi o4 o5
      have inn : ∀ m j : Nat, j + m = dH D → ∀ x4 : Int32, A (15, [some (.ref r), some (.int (nI u)), some (.int (nI w)), some (.int (nI i)), some (.int x4), some (.int (nI j))], [], h, 0, 0) := by
        intro m
        induction m with
        | zero =>
          intro j hj x4
          refine vX9_leastNext_15 hA ⟨rc.1.1, fun _ => ⟨fun _ => ?_, fun _ => hq i (by omega)⟩, fun q => ?_⟩
          · rw [← nI_succ]; exact ih (i + 1) (by omega) _ _
          · rw [rc.2.2.1.1] at q; exact absurd (nI_le (by omega) (by omega)) q
        | succ m ihm =>
          intro j hj x4
          refine vX9_leastNext_15 hA ⟨rc.1.1, fun q => ?_, fun _ => ⟨fun _ => ?_, fun _ => c_lead ⟨_, rfl, fun _ => ?_, fun _ => ?_⟩⟩⟩
          · rw [rc.2.2.1.1] at q; exact absurd q (nI_ge (by omega) (by omega))
          all_goals (rw [← nI_succ]; exact ihm (j + 1) (by omega) _)
      refine vX9_leastNext_2 hA ⟨fun q => ?_, fun _ => inn (dH D) 0 (by omega) _⟩
      rw [e] at q; exact absurd q (nI_ge (by omega) (by omega))
  exact key w u (by omega) _ _
theorem c_leastHour {k : Nat} (rc : rc_at h r D) (L : li_at h l 3 n C1) (ok : ln_ok 3 n C1) (hk : k < n) (hq : ∀ v : Int32, Ret (some (.int v)) h) : mX9_leastHour g [.ref r, .ref l, .int (nI k)] h Ret := by
  have n8 : n ≤ 8 := L.2.1
  obtain ⟨a0, b0, ha, hb1, hb, ea, eb⟩ := ok.2 0 (by omega)
  refine uX9_leastHour (fun A hA => vX9_leastHour_0 hA ⟨L.1.1, c_lcell (by decide) (by decide) L ⟨_, rfl, ?_⟩⟩)
  rw [show sp_lc n (lw 3) C1 0 0 = C1 0 0 from lc_in (i := 0) (j := 0) (by omega) (by decide) (by omega) (by decide), ea]
  have key : ∀ m i : Nat, i + m = k → ∀ u, u ≤ 12 + 9 * i → A (10, [some (.ref r), some (.ref l), some (.int (nI k)), some (.int (nI u)), some (.int (nI i))], [], h, 0, 0) := by
    intro m
    induction m with
    | zero =>
      intro i hi u hu
      exact vX9_leastHour_10 hA ⟨fun _ => hq _, fun q => absurd (nI_le (by omega) (by omega)) q⟩
    | succ m ih =>
      intro i hi u hu
      obtain ⟨a1, b1, ha1, hb11, hb1', ea1, eb1⟩ := ok.2 i (by omega)
      refine vX9_leastHour_10 hA ⟨fun q => absurd q (nI_ge (by omega) (by omega)), fun _ => ⟨L.1.1, c_lcell (by decide) (by decide) L ⟨_, rfl, ?_⟩⟩⟩
      rw [show sp_lc n (lw 3) C1 (nI i) 1 = C1 i 1 from lc_in (j := 1) (by omega) (by decide) (by omega) (by decide), eb1]
      refine c_leastNext rc (by omega) (by omega) (fun v hv => ⟨_, rfl, ?_⟩)
      rw [← nI_succ]; exact ih (i + 1) (by omega) v (by omega)
  exact key k 0 (by omega) a0 (by omega)
end
/-! HOLDS, CLOCK, TRUST, TIGHT, of the class -/
theorem t9_holds {x1 x2 x3 : Int32} (a : tc h z DD N C) (hq : ∀ (v : Int32) h', ax_same cl_F h h' → Ret (some (.int v)) h') : mX9_holds g [.ref 0, .int x1, .int x2, .int x3] h Ret := by
  have fin : ∀ v : Int32, Ret (some (.int v)) h := fun v => hq v h sm_rf
  refine uX9_holds (fun A hA => vX9_holds_0 hA ⟨a.1.1, _, a.1.2.1.1, a.2.2.1.1.1, c_republicAt a.2.2.1 (fun q => Or.inr ⟨rfl, a.1.1, _, a.1.2.1.1, a.2.2.1.1.1, c_linesAt (s0 := 3) a.2.2.1 (by decide) (by decide) (fun _ => Or.inr ⟨rfl, fin _⟩) (fun k hk ex => Or.inl ⟨_, rfl, fin _⟩)⟩) (fun k hk ex => Or.inl ⟨_, rfl, a.1.1, _, a.1.2.1.1, a.2.2.1.1.1, c_linesAt (s0 := 3) a.2.2.1 (by decide) (by decide) (fun _ => Or.inr ⟨rfl, fin _⟩) (fun w hw ew => Or.inl ⟨_, rfl, ?_⟩)⟩)⟩)
  have rc := a.2.2.1.2.2.1 k hk
  have L := a.2.2.1.2.2.2 3 w (by decide) (by decide) hw
  have n8 : N 3 w ≤ 8 := L.2.1
  have key : ∀ m i : Nat, N 3 w ≤ i + 1 + m → i ≤ 8 → ∀ x6 : Int32, A (77, [some (.ref 0), some (.int x1), some (.int x2), some (.int x3), some (.ref (1 + 5 + 14 * k)), some (.ref (lnp 1 3 w)), some (.int x6), some (.int (nI i))], [], h, 0, 0) := by
    intro m
    induction m with
    | zero =>
      intro i hi i8 x6
      refine vX9_holds_77 hA ⟨L.1.1, fun _ => fin _, fun q => ?_⟩
      rw [L.2.2.1, ← nI_succ] at q; exact absurd (nI_le (by omega) (by omega)) q
    | succ m ih =>
      intro i hi i8 x6
      refine vX9_holds_77 hA ⟨L.1.1, fun _ => fin _, fun q => c_slackOf rc L (fun v => ⟨_, rfl, ?_⟩)⟩
      rw [L.2.2.1, ← nI_succ, nI_leI (by omega) (by omega)] at q
      rw [← nI_succ]; exact ih (i + 1) (by omega) (by omega) _
  exact ⟨fun e => ⟨fun _ => key 8 0 (by omega) (by omega) _, fun q => absurd e q⟩, fun e => ⟨rc.1.1, c_hasHour rc ⟨_, rfl, fun _ => ⟨fun q => absurd q e, fun _ => c_keepsBy L (fun v => ⟨_, rfl, fun _ => fin _, fun _ => fin _⟩)⟩, fun _ => fin _⟩⟩⟩
theorem t9_tight {x1 x2 : Int32} (a : tc h z DD N C) (hq : ∀ (v : Int32) h', ax_same cl_F h h' → Ret (some (.int v)) h') : mX9_tight g [.ref 0, .int x1, .int x2] h Ret := by
  have fin : ∀ v : Int32, Ret (some (.int v)) h := fun v => hq v h sm_rf
  refine uX9_tight (fun A hA => vX9_tight_0 hA ⟨a.1.1, _, a.1.2.1.1, a.2.2.1.1.1, c_republicAt a.2.2.1 (fun q => Or.inr ⟨rfl, a.1.1, _, a.1.2.1.1, a.2.2.1.1.1, c_linesAt (s0 := 3) a.2.2.1 (by decide) (by decide) (fun _ => Or.inr ⟨rfl, fin _⟩) (fun k hk ex => Or.inl ⟨_, rfl, fin _⟩)⟩) (fun k hk ex => Or.inl ⟨_, rfl, a.1.1, _, a.1.2.1.1, a.2.2.1.1.1, c_linesAt (s0 := 3) a.2.2.1 (by decide) (by decide) (fun _ => Or.inr ⟨rfl, fin _⟩) (fun w hw ew => Or.inl ⟨_, rfl, ?_⟩)⟩)⟩)
  have rc := a.2.2.1.2.2.1 k hk
  have L := a.2.2.1.2.2.2 3 w (by decide) (by decide) hw
  have n8 : N 3 w ≤ 8 := L.2.1
  have key : ∀ m i : Nat, N 3 w ≤ i + 1 + m → i ≤ 9 → ∀ x5 : Int32, A (46, [some (.ref 0), some (.int x1), some (.int x2), some (.ref (1 + 5 + 14 * k)), some (.ref (lnp 1 3 w)), some (.int x5), some (.int (nI i))], [], h, 0, 0) := by
    intro m
    induction m with
    | zero =>
      intro i hi i8 x6
      refine vX9_tight_46 hA ⟨L.1.1, fun _ => fin _, fun q => ?_⟩
      rw [L.2.2.1, ← nI_succ] at q; exact absurd (nI_le (by omega) (by omega)) q
    | succ m ih =>
      intro i hi i8 x6
      refine vX9_tight_46 hA ⟨L.1.1, fun _ => fin _, fun q => c_slackOf rc L (fun v => ⟨_, rfl, c_slackOf rc L (fun v2 => ⟨_, rfl, fun _ => ?_, fun _ => ?_⟩)⟩)⟩
      all_goals
        rw [L.2.2.1, ← nI_succ, nI_leI (by omega) (by omega)] at q
        rw [← nI_succ]; exact ih (i + 1) (by omega) (by omega) _
  exact ⟨L.1.1, fun _ => key 8 1 (by omega) (by omega) _, fun _ => fin _⟩
theorem t9_clock {x1 x2 x3 x4 : Int32} (a : tc h z DD N C) (hq : ∀ (v : Int32) h', ax_same cl_F h h' → Ret (some (.int v)) h') : mX9_clock g [.ref 0, .int x1, .int x2, .int x3, .int x4] h Ret := by
  have fin : ∀ v : Int32, Ret (some (.int v)) h := fun v => hq v h sm_rf
  refine eX9_clock ⟨a.1.1, _, a.1.2.1.1, a.2.2.1.1.1, c_republicAt a.2.2.1 (fun q => Or.inr ⟨rfl, a.1.1, _, a.1.2.1.1, a.2.2.1.1.1, c_linesAt (s0 := 3) a.2.2.1 (by decide) (by decide) (fun _ => Or.inr ⟨rfl, fin _⟩) (fun k hk ex => Or.inl ⟨_, rfl, fin _⟩)⟩) (fun k hk ex => Or.inl ⟨_, rfl, a.1.1, _, a.1.2.1.1, a.2.2.1.1.1, c_linesAt (s0 := 3) a.2.2.1 (by decide) (by decide) (fun _ => Or.inr ⟨rfl, fin _⟩) (fun w hw ew => Or.inl ⟨_, rfl, ?_⟩)⟩)⟩
  have rc := a.2.2.1.2.2.1 k hk
  have L := a.2.2.1.2.2.2 3 w (by decide) (by decide) hw
  have lo := a.2.2.2.2.2.2 3 w (by decide) (by decide) hw
  have n8 : N 3 w ≤ 8 := L.2.1
  refine ⟨L.1.1, c_lhas L ⟨_, rfl, fun q => ?_, fun _ => fin _⟩⟩
  obtain ⟨j, hj, rfl⟩ := sp_in_ix (by omega) (b2i_n0.mp q)
  refine ⟨fun _ => c_leastHour rc L lo hj (fun v => ⟨_, rfl, fin _⟩), fun _ => ⟨fun _ => ⟨rc.1.1, c_hasHour rc ⟨_, rfl, fun _ => ⟨L.1.1, c_lcell (by decide) (by decide) L ⟨_, rfl, c_trueTime ⟨_, rfl, L.1.1, c_lcell (by decide) (by decide) L ⟨_, rfl, fun _ => fin _, fun _ => fin _⟩⟩⟩⟩, fun _ => fin _⟩⟩, fun _ => c_leastHour rc L lo hj (fun v => ⟨_, rfl, fin _⟩)⟩⟩
theorem t9_trust {x1 x2 x3 : Int32} (a : tc h z DD N C) (hq : ∀ (v : Int32) h', ax_same cl_F h h' → Ret (some (.int v)) h') : mX9_trust g [.ref 0, .int x1, .int x2, .int x3] h Ret := by
  refine uX9_trust (fun A hA => vX9_trust_0 hA ⟨a.1.1, q_begun a (fun q => Or.inr ⟨rfl, a.1.1, _, a.1.2.1.1, a.2.2.1.1.1, c_linesAt (s0 := 3) a.2.2.1 (by decide) (by decide) (fun _ => Or.inr ⟨rfl, hq _ h sm_rf⟩) (fun k hk ex => Or.inl ⟨_, rfl, hq _ h sm_rf⟩)⟩) (fun k hk ex ok h' hs xs hc => Or.inl ⟨_, rfl, ?_⟩)⟩)
  have b := tc_cl hs a
  have fin : ∀ v : Int32, Ret (some (.int v)) h' := fun v => hq v h' hs
  refine ⟨b.1.1, _, b.1.2.1.1, b.2.2.1.1.1, c_linesAt (s0 := 3) b.2.2.1 (by decide) (by decide) (fun _ => Or.inr ⟨rfl, fin _⟩) (fun w hw ew => Or.inl ⟨_, rfl, ?_⟩)⟩
  have L := b.2.2.1.2.2.2 3 w (by decide) (by decide) hw
  have H12 := ok.1.2
  have od := hc.2.2
  have key : ∀ m i : Nat, i + m = dH (DD k) → ∀ x6 : Int64, 0 ≤ x6.toInt → x6.toInt ≤ 9 * i → A (36, [some (.ref 0), some (.int x1), some (.int x2), some (.int x3), some (.ref (6 + 14 * k)), some (.ref (lnp 1 3 w)), some (.long x6), none, some (.int (nI i))], [], h', 0, 0) := by
    intro m
    induction m with
    | zero =>
      intro i hi x6 b1 b2
      refine vX9_trust_36 hA ⟨hc.1.1.1, fun _ => ⟨xs.1, _, xs.2.1.2.2.2.2.1, od.1.1, ?_⟩, fun q => ?_⟩
      · rw [od.2.2.2.1]; exact c_side (by omega) (t_pos ok) ⟨_, rfl, fin _⟩
      · rw [hc.1.2.2.1.1] at q; exact absurd (nI_le (by omega) (by omega)) q
    | succ m ih =>
      intro i hi x6 b1 b2
      refine vX9_trust_36 hA ⟨hc.1.1.1, fun q => ?_, fun q => c_keepsBy L (fun v => ⟨_, rfl, fun _ => ?_, fun _ => ⟨xs.1, _, xs.2.1.2.2.2.2.1, od.1.1, _, od.1.2.1, by rw [od.1.2.2], by rw [od.1.2.2]; exact vp_in_nI (by omega) (by decide), ?_⟩⟩)⟩
      · rw [hc.1.2.2.1.1] at q; exact absurd q (nI_ge (by omega) (by omega))
      · rw [← nI_succ, Int64.add_zero]; exact ih (i + 1) (by omega) x6 b1 (by omega)
      · rw [nI_clamp (by omega), od.2.2.2.2 i (by omega), ← nI_succ]
        have bw := sp_w_bd ok (rul (DD k)) i
        have ea : (x6 + (sp_w (DD k) (rul (DD k)) i).toInt64).toInt = x6.toInt + (sp_w (DD k) (rul (DD k)) i).toInt := by rw [i64_add (by rw [i_64]; omega) (by rw [i_64]; omega), i_64]
        exact ih (i + 1) (by omega) _ (by rw [ea]; omega) (by rw [ea]; omega)
  exact key (dH (DD k)) 0 (by omega) 0 (by decide) (by decide)
end
