section
variable {g : ax_G} {Ret : Option Value → ax_H → Prop} {h : ax_H} {z : Nat → Nat} {DD : Nat → rD} {N : Nat → Nat → Nat} {C : Nat → Nat → Nat → Nat → Int32} {S : sT} {Im : Nat → Option sT} {tp : Nat → Nat} {B : Nat}
/-! DRAWN, of the class -/
theorem c_hourOf {H : Nat} {w : Nat → Int32} {t x : Int32} (od : od_at h 55 H w t) (ht : ¬ t = 0) (hH : 1 ≤ H) (hq : ∀ v : Int32, Ret (some (.int v)) h) : mX3_hourOf g [.ref 55, .int x] h Ret := by
  have H12 := od.2.1
  refine uX3_hourOf (fun A hA => vX3_hourOf_0 hA ?_)
  have key : ∀ n i : Nat, i + n = H - 1 → ∀ (o1 : Option Value) (x2 : Int32), A (20, [some (.ref 55), o1, some (.int x2), some (.int (nI i))], [], h, 0, 0) := by
    intro n
    have e1 : nI H - 1 = nI (H - 1) := by
      obtain ⟨j, rfl⟩ : ∃ j, H = j + 1 := ⟨H - 1, by omega⟩
      exact nI_pred j
    induction n with
    | zero =>
      intro i hi o1 x2
      refine vX3_hourOf_20 hA ⟨od.1.1, fun _ => hq _, fun q => ?_⟩
      rw [od.2.2.1, e1] at q; exact absurd (nI_le (by omega) (by omega)) q
    | succ n ih =>
      intro i hi o1 x2
      refine vX3_hourOf_20 hA ⟨od.1.1, fun q => ?_, fun _ => ⟨od.1.1, _, od.1.2.1, by rw [od.1.2.2], by rw [od.1.2.2]; exact vp_in_nI (by omega) (by decide), fun _ => hq _, fun _ => ⟨od.1.1, _, od.1.2.1, by rw [od.1.2.2], by rw [od.1.2.2]; exact vp_in_nI (by omega) (by decide), ?_⟩⟩⟩
      · rw [od.2.2.1, e1] at q; exact absurd q (nI_ge (by omega) (by omega))
      · rw [← nI_succ]; exact ih (i + 1) (by omega) _ _
  rw [od.2.2.2.1]
  exact ⟨od.1.1, fun _ => ⟨od.1.1, ht, key (H - 1) 0 (by omega) _ _⟩, fun q => absurd q ht⟩
theorem spt_ne {D : rD} (ok : rd_ok D) (x : Int32) : ¬ sp_t D x = 0 := fun e => by have := (sp_t_bd ok x).1; rw [e] at this; exact absurd this (by decide)
theorem t9_drawn {x1 x2 x3 x4 : Int32} (a : tc h z DD N C) (hq : ∀ (v : Int32) h', ax_same cl_F h h' → Ret (some (.int v)) h') : mX9_drawn g [.ref 0, .int x1, .int x2, .int x3, .int x4] h Ret := by
  refine uX9_drawn (fun A hA => vX9_drawn_0 hA ⟨a.1.1, q_begun a (fun q => Or.inr ⟨rfl, hq _ h sm_rf⟩) (fun k hk ex ok h' hs xs hc => Or.inl ⟨_, rfl, fun _ => hq _ h' hs, fun q0 => ⟨fun q60 => ?_, fun _ => hq _ h' hs⟩⟩)⟩)
  obtain ⟨m, _, hm, rfl⟩ := i_rng (a := 0) (b := 60) (by omega) (by omega) (nt_lt.mp q0) q60
  have key : ∀ n i : Nat, i + n = m → ∀ hh, lvg h hh (DD k) → ∀ (x6 x7 x8 x9 : Int32), A (44, [some (.ref 0), some (.int x1), some (.int x2), some (.int (nI m)), some (.int x4), some (.ref (6 + 14 * k)), some (.int x6), some (.int x7), some (.int x8), some (.int x9), some (.int (nI i))], [], hh, 0, 0) := by
    intro n
    induction n with
    | zero =>
      intro i hi hh L x6 x7 x8 x9
      have c := tc_cl L.1 a
      obtain ⟨hv, co⟩ := L.2
      have rc := c.2.2.1.2.2.1 k hk
      have fin : ∀ v : Int32, Ret (some (.int v)) hh := fun v => hq v hh L.1
      refine vX9_drawn_44 hA ⟨fun _ => ⟨rc.1.1, c_hasPerson rc ⟨_, rfl, fun _ => ⟨fun _ => ⟨fun _ => ⟨rc.1.1, c_hasHour rc ⟨_, rfl, fun _ => fin _, fun _ => fin _⟩⟩, fun _ => fin _⟩, fun _ => ⟨c.1.1, _, c.1.2.1.2.2.2.1, co.1.1, c_poorest co ⟨_, rfl, fin _⟩⟩⟩, fun q => ⟨c.1.1, _, c.1.2.1.2.2.2.1, co.1.1, ?_⟩⟩⟩, fun q => absurd (nI_le (by omega) (by omega)) q⟩
      obtain ⟨p, hp, rfl⟩ := sp_in_ix (by have := ok.2.1; omega) (b2i_n0.mp q)
      obtain ⟨e1, e2, e3⟩ := have_at co hp
      exact ⟨_, e1, e2, e3, fin _⟩
    | succ n ih =>
      intro i hi hh L x6 x7 x8 x9
      have c := tc_cl L.1 a
      obtain ⟨hv, co⟩ := L.2
      refine vX9_drawn_44 hA ⟨fun q => absurd q (nI_ge (by omega) (by omega)), fun _ => ⟨c.1.1, _, c.1.2.1.2.2.2.2.1, c.1.1, _, c.1.2.1.2.2.2.1, co.1.1, c_poorest co ⟨_, rfl, c.1.2.2.2.1.1, c_weigh c.1.2.2.2.1 (c.2.2.1.2.2.1 k hk) (fun j hj q => by unfold od_F at q; have := a.2.2.2.2.1 0 (by decide); omega) (fun h2 s2 od => ⟨rfl, ?_⟩)⟩⟩⟩
      have s3 : ax_same cl_F h h2 := sm_tr L.1 (sm_mono s2 (fun x q => by unfold od_F at q; unfold cl_F; omega))
      have c2 := tc_cl s3 a
      have co2 := co_at_same s2 (by refine ⟨?_, ?_, ?_⟩ <;> (intro q; unfold od_F at q; omega)) co
      refine ⟨c2.1.1, _, c2.1.2.1.2.2.2.2.1, ?_⟩
      intro z24
      refine ⟨od.1.1, c_hourOf od (spt_ne ok _) (by have := ok.1.1; omega) (fun v => ⟨_, rfl, c2.1.1, _, c2.1.2.1.2.2.2.1, co2.1.1, lv_live ⟨s3, _, co2⟩ (fun h4 L4 s4 => ⟨rfl, fun _ => ?_, fun _ => ?_⟩)⟩)⟩
      · rw [← nI_succ]; exact ih (i + 1) (by omega) h4 L4 _ _ _ _
      · rw [← nI_succ]; exact ih (i + 1) (by omega) h4 L4 _ _ _ _
  exact key m 0 (by omega) h' ⟨hs, _, hc.2.1⟩ _ _ _ _
/-! REIGN, of the class -/
theorem t9_reign {x1 x2 x3 : Int32} (a : tc h z DD N C) (hq : ∀ (v : Int32) h', ax_same cl_F h h' → Ret (some (.int v)) h') : mX9_reign g [.ref 0, .int x1, .int x2, .int x3] h Ret := by
  refine uX9_reign (fun A hA => vX9_reign_0 hA ⟨a.1.1, q_begun a (fun q => Or.inr ⟨rfl, hq _ h sm_rf⟩) (fun k hk ex ok h' hs xs hc => Or.inl ⟨_, rfl, fun _ => hq _ h' hs, fun q0 => ⟨fun q60 => ?_, fun _ => hq _ h' hs⟩⟩)⟩)
  obtain ⟨m, _, hm, rfl⟩ := i_rng (a := 0) (b := 60) (by omega) (by omega) (nt_lt.mp q0) q60
  have key : ∀ n i : Nat, i + n = m → ∀ hh, lvg h hh (DD k) → ∀ (x5 x6 x7 : Int32) (o9 o10 : Option Value), A (38, [some (.ref 0), some (.int x1), some (.int (nI m)), some (.int x3), some (.ref (6 + 14 * k)), some (.int x5), some (.int x6), some (.int x7), some (.int (nI i)), o9, o10], [], hh, 0, 0) := by
    intro n
    induction n with
    | zero =>
      intro i hi hh L x5 x6 x7 o9 o10
      have c := tc_cl L.1 a
      obtain ⟨hv, co⟩ := L.2
      have rc := c.2.2.1.2.2.1 k hk
      have fin : ∀ v : Int32, Ret (some (.int v)) hh := fun v => hq v hh L.1
      refine vX9_reign_38 hA ⟨fun _ => ⟨rc.1.1, c_hasPerson rc ⟨_, rfl, fun _ => ⟨fun _ => ⟨fun _ => ⟨rc.1.1, c_hasPerson rc ⟨_, rfl, fun _ => fin _, fun _ => fin _⟩⟩, fun _ => fin _⟩, fun _ => ⟨c.1.1, _, c.1.2.1.2.2.2.1, co.1.1, c_poorest co ⟨_, rfl, fin _⟩⟩⟩, fun q => ⟨c.1.1, _, c.1.2.1.2.2.2.1, co.1.1, ?_⟩⟩⟩, fun q => absurd (nI_le (by omega) (by omega)) q⟩
      obtain ⟨p, hp, rfl⟩ := sp_in_ix (by have := ok.2.1; omega) (b2i_n0.mp q)
      obtain ⟨e1, e2, e3⟩ := have_at co hp
      exact ⟨_, e1, e2, e3, fin _⟩
    | succ n ih =>
      intro i hi hh L x5 x6 x7 o9 o10
      have c := tc_cl L.1 a
      obtain ⟨hv, co⟩ := L.2
      have K : ∀ h4, lvg h h4 (DD k) → ∀ (x5 x6 x7 : Int32) (o9 o10 : Option Value), A (38, [some (.ref 0), some (.int x1), some (.int (nI m)), some (.int x3), some (.ref (6 + 14 * k)), some (.int x5), some (.int x6), some (.int x7), some (.int (nI i + 1)), o9, o10], [], h4, 0, 0) := fun h4 L4 x5 x6 x7 o9 o10 => by rw [← nI_succ]; exact ih (i + 1) (by omega) h4 L4 _ _ _ _ _
      refine vX9_reign_38 hA ⟨fun q => absurd q (nI_ge (by omega) (by omega)), fun _ => ⟨c.1.1, _, c.1.2.1.2.2.2.1, co.1.1, c_poorest co ⟨_, rfl, fun _ => ⟨c.1.1, _, c.1.2.1.2.2.2.1, co.1.1, c_bestHour (by have := ok.1.1; omega) co ⟨_, rfl, c.1.1, _, c.1.2.1.2.2.2.1, co.1.1, lv_live L (fun h4 L4 s4 => ⟨rfl, fun _ => ?_, fun _ => ?_⟩)⟩⟩, fun _ => ⟨c.1.1, _, c.1.2.1.2.2.2.1, co.1.1, lv_live L (fun h4 L4 s4 => ⟨rfl, fun _ => ?_, fun _ => ?_⟩)⟩⟩⟩⟩
      · exact ⟨fun _ => ⟨fun _ => K h4 L4 _ _ _ _ _, fun _ => K h4 L4 _ _ _ _ _⟩, fun _ => ⟨fun _ => K h4 L4 _ _ _ _ _, fun _ => K h4 L4 _ _ _ _ _⟩⟩
      · have c4 := tc_cl L4.1 a
        obtain ⟨hv4, co4⟩ := L4.2
        exact ⟨c4.1.1, _, c4.1.2.1.2.2.2.1, co4.1.1, c_poorest co4 ⟨_, rfl, fun _ => ⟨fun _ => ⟨fun _ => K h4 L4 _ _ _ _ _, fun _ => K h4 L4 _ _ _ _ _⟩, fun _ => ⟨fun _ => K h4 L4 _ _ _ _ _, fun _ => K h4 L4 _ _ _ _ _⟩⟩, fun _ => ⟨fun _ => ⟨fun _ => K h4 L4 _ _ _ _ _, fun _ => K h4 L4 _ _ _ _ _⟩, fun _ => ⟨fun _ => K h4 L4 _ _ _ _ _, fun _ => K h4 L4 _ _ _ _ _⟩⟩⟩⟩
      · exact ⟨fun _ => ⟨fun _ => K h4 L4 _ _ _ _ _, fun _ => K h4 L4 _ _ _ _ _⟩, fun _ => ⟨fun _ => K h4 L4 _ _ _ _ _, fun _ => K h4 L4 _ _ _ _ _⟩⟩
      · have c4 := tc_cl L4.1 a
        obtain ⟨hv4, co4⟩ := L4.2
        exact ⟨c4.1.1, _, c4.1.2.1.2.2.2.1, co4.1.1, c_poorest co4 ⟨_, rfl, fun _ => ⟨fun _ => ⟨fun _ => K h4 L4 _ _ _ _ _, fun _ => K h4 L4 _ _ _ _ _⟩, fun _ => ⟨fun _ => K h4 L4 _ _ _ _ _, fun _ => K h4 L4 _ _ _ _ _⟩⟩, fun _ => ⟨fun _ => ⟨fun _ => K h4 L4 _ _ _ _ _, fun _ => K h4 L4 _ _ _ _ _⟩, fun _ => ⟨fun _ => K h4 L4 _ _ _ _ _, fun _ => K h4 L4 _ _ _ _ _⟩⟩⟩⟩
  exact key m 0 (by omega) h' ⟨hs, _, hc.2.1⟩ _ _ _ _ _
end
