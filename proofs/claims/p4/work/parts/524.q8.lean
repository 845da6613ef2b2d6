section
variable {g : ax_G} {Ret : Option Value → ax_H → Prop} {h : ax_H} {z : Nat → Nat} {DD : Nat → rD} {N : Nat → Nat → Nat} {C : Nat → Nat → Nat → Nat → Int32} {S : sT} {Im : Nat → Option sT} {tp : Nat → Nat} {B : Nat}
/-! FEUD: both answer -/
theorem t9_feud {x1 x2 : Int32} (a : tc h z DD N C) (hq : ∀ (v : Int32) h', ax_same cl_F h h' → Ret (some (.int v)) h') : mX9_feud g [.ref 0, .int x1, .int x2] h Ret := by
  refine uX9_feud (fun A hA => vX9_feud_0 hA ⟨a.1.1, q_begun a (fun q => Or.inr ⟨rfl, hq _ h sm_rf⟩) (fun k hk ex ok h' hs xs hc => Or.inl ⟨_, rfl, fun _ => hq _ h' hs, fun _ => ⟨fun _ => ⟨xs.1, _, xs.2.1.2.2.2.1, hc.2.1.1.1, c_apart hc.2.1 ⟨_, rfl, ?_⟩⟩, fun _ => hq _ h' hs⟩⟩)⟩)
  have H12 := ok.1.2
  have e5 := hc.1.2.2.1.1
  have key : ∀ n i : Nat, i + n = dH (DD k) → ∀ (x4 x5 x6 : Int32) (o8 o9 : Option Value), A (41, [some (.ref 0), some (.int x1), some (.int x2), some (.ref (6 + 14 * k)), some (.int x4), some (.int x5), some (.int x6), some (.int (nI i)), o8, o9], [], h', 0, 0) := by
    intro n
    induction n with
    | zero =>
      intro i hi x4 x5 x6 o8 o9
      refine vX9_feud_41 hA ⟨hc.1.1.1, fun _ => ⟨fun _ => ⟨fun _ => hq _ h' hs, fun _ => hq _ h' hs⟩, fun _ => hq _ h' hs⟩, fun q => ?_⟩
      rw [e5] at q; exact absurd (nI_le (by omega) (by omega)) q
    | succ n ih =>
      intro i hi x4 x5 x6 o8 o9
      refine vX9_feud_41 hA ⟨hc.1.1.1, fun q => ?_, fun _ => ?_⟩
      · rw [e5] at q; exact absurd q (nI_ge (by omega) (by omega))
      · rw [← nI_succ]
        have inn : ∀ m j : Nat, j + m = dH (DD k) → ∀ (x4 x5 x6 : Int32) (o9 : Option Value), A (56, [some (.ref 0), some (.int x1), some (.int x2), some (.ref (6 + 14 * k)), some (.int x4), some (.int x5), some (.int x6), some (.int (nI i)), some (.int (nI j)), o9], [], h', 0, 0) := by
          intro m
          induction m with
          | zero =>
            intro j hj x4 x5 x6 o9
            refine vX9_feud_56 hA ⟨hc.1.1.1, fun _ => ?_, fun q => ?_⟩
            · rw [← nI_succ]; exact ih (i + 1) (by omega) _ _ _ _ _
            · rw [e5] at q; exact absurd (nI_le (by omega) (by omega)) q
          | succ m ihm =>
            intro j hj x4 x5 x6 o9
            refine vX9_feud_56 hA ⟨hc.1.1.1, fun q => ?_, fun _ => ⟨xs.1, _, xs.2.1.2.2.2.1, hc.2.1.1.1, c_apart hc.2.1 ⟨_, rfl, fun _ => ?_, fun _ => ?_⟩⟩⟩
            · rw [e5] at q; exact absurd q (nI_ge (by omega) (by omega))
            · rw [← nI_succ]; exact ihm (j + 1) (by omega) _ _ _ _
            · rw [← nI_succ]; exact ihm (j + 1) (by omega) _ _ _ _
        exact inn n (i + 1) (by omega) _ _ _ _
  exact key (dH (DD k)) 0 (by omega) _ _ _ _ _
theorem c_mapart {m ρ q r : Nat} {D : rD} {mo pu : Nat → Int32} {vl : Nat → Nat → Int32} (a : mc_at h m ρ D mo pu vl) (hq0 : q < dH D) (hr0 : r < dH D) (hq : Ret (some (.int (sp_ap (dP D) (dH D) vl (nI q) (nI r)))) h) : mX10_apart g [.ref m, .int (nI q), .int (nI r)] h Ret := by
  obtain ⟨hH, hP⟩ := a.1.2.2.1.1
  have s0 := a.1.1.1
  have e27 := a.1.2.2.2.2.2.1
  obtain ⟨f1, f2⟩ := mo_va a.1.1
  refine uX10_apart (fun A hA => vX10_apart_0 hA ?_)
  have key : ∀ n i : Nat, i + n = dP D → ∀ o5 : Option Value, A (5, [some (.ref m), some (.int (nI q)), some (.int (nI r)), some (.int (sumN (fun p => iabs (sp_br (dP D) (dH D) vl (nI p) (nI q) - sp_br (dP D) (dH D) vl (nI p) (nI r))) i)), some (.int (nI i)), o5], [], h, 0, 0) := by
    intro n
    induction n with
    | zero =>
      intro i hi o5
      refine vX10_apart_5 hA ⟨s0, fun _ => ?_, fun q => ?_⟩
      · rw [show i = dP D by omega]; exact hq
      · rw [e27] at q; exact absurd (nI_le (by omega) (by omega)) q
    | succ n ih =>
      intro i hi o5
      have eq : (12 : Int32) * nI i + nI q = nI (12 * i + q) := ni_21
      have er : (12 : Int32) * nI i + nI r = nI (12 * i + r) := ni_21
      refine vX10_apart_5 hA ⟨s0, fun q => ?_, fun _ => ⟨s0, _, f1, by rw [f2], by rw [eq, f2]; exact vp_in_nI (by omega) (by decide), s0, _, f1, by rw [f2], by rw [er, f2]; exact vp_in_nI (by omega) (by decide), ?_⟩⟩
      · rw [e27] at q; exact absurd q (nI_ge (by omega) (by omega))
      · intro z3
        have ez : z3 = sp_br (dP D) (dH D) vl (nI i) (nI q) - sp_br (dP D) (dH D) vl (nI i) (nI r) := by
          show ax_i h (m + 15) ((12 : Int32) * nI i + nI q).toNatClampNeg - ax_i h (m + 15) ((12 : Int32) * nI i + nI r).toNatClampNeg = _
          rw [eq, er, nI_clamp (by omega), nI_clamp (by omega), a.2.2.2 i q (by omega) hq0, a.2.2.2 i r (by omega) hr0, sp_br_in (by omega) hq0 hP hH, sp_br_in (by omega) hr0 hP hH]
        have st := ih (i + 1) (by omega) (some (.int z3))
        rw [show sumN (fun p => iabs (sp_br (dP D) (dH D) vl (nI p) (nI q) - sp_br (dP D) (dH D) vl (nI p) (nI r))) (i + 1) = sumN (fun p => iabs (sp_br (dP D) (dH D) vl (nI p) (nI q) - sp_br (dP D) (dH D) vl (nI p) (nI r))) i + iabs (sp_br (dP D) (dH D) vl (nI i) (nI q) - sp_br (dP D) (dH D) vl (nI i) (nI r)) from rfl, ← ez] at st
        unfold iabs at st
        refine ⟨fun q => ?_, fun q => ?_⟩
        · rw [if_pos q, nI_succ] at st; exact st
        · rw [if_neg q, Int32.zero_sub, nI_succ] at st; exact st
  exact key (dP D) 0 (by omega) _
theorem t10_feud {x1 x2 : Int32} (a : tc h z DD N C) (hq : ∀ (v : Int32) h', ax_same md_F h h' → Ret (some (.int v)) h') : mX10_feud g [.ref 77, .int x1, .int x2] h Ret := by
  obtain ⟨a1, T1, hs1⟩ := q_code (v := 0) a.2.1 a.2.2.2.1
  refine uX10_feud (fun A hA => vX10_feud_0 hA ⟨a.2.1.1, ?_⟩)
  intro h1
  refine c_min ⟨_, rfl, fun _ => hq _ _ hs1, fun _ => ⟨a1.1, q_hand a1 T1 a.2.2.2.2 (fun q => ⟨_, rfl, fun q => absurd rfl q, fun _ => hq _ _ hs1⟩) (fun k hk ex ok h' hs hm => ⟨_, rfl, fun _ => ?_, fun q => absurd q (by decide)⟩)⟩⟩
  have fin : ∀ v : Int32, Ret (some (.int v)) h' := fun v => hq v h' (sm_tr hs1 hs)
  have mb := hm.1.1
  have s0 := mb.1.1
  have H12 := ok.1.2
  have e26 := mb.2.2.2.2.1
  have key : ∀ n i : Nat, i + n = dH (DD k) → ∀ (x3 x4 : Int32) (o6 : Option Value), A (32, [some (.ref 77), some (.int x1), some (.int x2), some (.int x3), some (.int x4), some (.int (nI i)), o6], [], h', 0, 0) := by
    intro n
    induction n with
    | zero =>
      intro i hi x3 x4 o6
      refine vX10_feud_32 hA ⟨s0, fun _ => ⟨fun _ => ⟨fun _ => fin _, fun _ => ⟨by decide, fin _⟩⟩, fun _ => ⟨by decide, fin _⟩⟩, fun q => ?_⟩
      rw [e26] at q; exact absurd (nI_le (by omega) (by omega)) q
    | succ n ih =>
      intro i hi x3 x4 o6
      refine vX10_feud_32 hA ⟨s0, fun q => ?_, fun _ => ?_⟩
      · rw [e26] at q; exact absurd q (nI_ge (by omega) (by omega))
      · rw [← nI_succ]
        have inn : ∀ m j : Nat, j + m = dH (DD k) → ∀ (x3 x4 : Int32), A (47, [some (.ref 77), some (.int x1), some (.int x2), some (.int x3), some (.int x4), some (.int (nI i)), some (.int (nI j))], [], h', 0, 0) := by
          intro m
          induction m with
          | zero =>
            intro j hj x3 x4
            refine vX10_feud_47 hA ⟨s0, fun _ => ?_, fun q => ?_⟩
            · rw [← nI_succ]; exact ih (i + 1) (by omega) _ _ _
            · rw [e26] at q; exact absurd (nI_le (by omega) (by omega)) q
          | succ m ihm =>
            intro j hj x3 x4
            refine vX10_feud_47 hA ⟨s0, fun q => ?_, fun _ => ⟨s0, c_mapart hm.1 (by omega) (by omega) ⟨_, rfl, fun _ => ⟨s0, c_mapart hm.1 (by omega) (by omega) ⟨_, rfl, eX10_greater ⟨fun _ => ⟨_, rfl, ?_⟩, fun _ => ⟨_, rfl, ?_⟩⟩⟩⟩, fun _ => ⟨s0, c_mapart hm.1 (by omega) (by omega) ⟨_, rfl, eX10_greater ⟨fun _ => ⟨_, rfl, ?_⟩, fun _ => ⟨_, rfl, ?_⟩⟩⟩⟩⟩⟩⟩
            · rw [e26] at q; exact absurd q (nI_ge (by omega) (by omega))
            all_goals (rw [← nI_succ]; exact ihm (j + 1) (by omega) _ _)
        exact inn n (i + 1) (by omega) _ _
  exact key (dH (DD k)) 0 (by omega) _ _ _
theorem n_feud (a : IV h S Im tp) (b : 103 ≤ h.1 ∧ h.1 ≤ B) (x1 x2 : Int32) : prN (mX9_feud g) (mX10_feud g) [.ref 0, .int x1, .int x2] [.ref 77, .int x1, .int x2] h (inv B) := pr_n a b (fun Ret k => t9_feud (iv_tc a) k) (fun h1 Ret a1 k => t10_feud (iv_tc a1) k)
/-! BUYER: both answer -/
def gB (x : Int64) : Prop := -463856467968 ≤ x.toInt ∧ x.toInt ≤ 463856467968
theorem t9_buyer {x1 x2 : Int32} (a : tc h z DD N C) (hq : ∀ (v : Int32) h', ax_same cl_F h h' → Ret (some (.int v)) h') : mX9_buyer g [.ref 0, .int x1, .int x2] h Ret := by
  refine uX9_buyer (fun A hA => vX9_buyer_0 hA ⟨a.1.1, q_begun a (fun q => Or.inr ⟨rfl, hq _ h sm_rf⟩) (fun k hk ex ok h' hs xs hc => Or.inl ⟨_, rfl, hc.1.1.1, fun _ => hq _ h' hs, fun _ => ⟨fun _ => hq _ h' hs, fun _ => ⟨fun _ => ⟨xs.1, _, xs.2.1.2.2.2.1, hc.2.1.1.1, c_bestHour (by have := ok.1.1; omega) hc.2.1 ⟨_, rfl, xs.1, c_gainBy xs hc ⟨_, rfl, ?_⟩⟩⟩, fun _ => hq _ h' hs⟩⟩⟩)⟩)
  have P6 := ok.2.1
  have e6 := hc.1.2.2.1.2
  have fin : ∀ v : Int32, Ret (some (.int v)) h' := fun v => hq v h' hs
  have key : ∀ n i : Nat, dP (DD k) ≤ i + n → i ≤ 7 → ∀ (x4 : Int32) (x5 x7 : Int64) (o10 o11 : Option Value), gB x5 → gB x7 → A (53, [some (.ref 0), some (.int x1), some (.int x2), some (.ref (6 + 14 * k)), some (.int x4), some (.long x5), none, some (.long x7), none, some (.int (nI i)), o10, o11], [], h', 0, 0) := by
    intro n
    induction n with
    | zero =>
      intro i hi h7 x4 x5 x7 o10 o11 b5 b7
      refine vX9_buyer_53 hA ⟨hc.1.1.1, fun _ => ⟨fun _ => ⟨xs.1, _, xs.2.1.2.2.2.2.1, hc.2.2.1.1, fun _ => ?_, fun _ => ?_⟩, fun _ => fin _⟩, fun q => ?_⟩
      · rw [hc.2.2.2.2.2.1]; exact c_side (by unfold gB at b7; omega) (t_pos ok) ⟨_, rfl, fin _⟩
      · rw [hc.2.2.2.2.2.1]; exact c_side (by unfold gB at b7; omega) (t_pos ok) ⟨_, rfl, fin _⟩
      · rw [e6] at q; exact absurd (nI_le (by omega) (by omega)) q
    | succ n ih =>
      intro i hi h7 x4 x5 x7 o10 o11 b5 b7
      refine vX9_buyer_53 hA ⟨hc.1.1.1, fun _ => ⟨fun _ => ⟨xs.1, _, xs.2.1.2.2.2.2.1, hc.2.2.1.1, fun _ => ?_, fun _ => ?_⟩, fun _ => fin _⟩, fun q => ⟨xs.1, _, xs.2.1.2.2.2.1, hc.2.1.1.1, c_bestHour (by have := ok.1.1; omega) hc.2.1 ⟨_, rfl, xs.1, c_gainBy xs hc ⟨_, rfl, fun q1 => ?_, fun q1 => ?_⟩⟩⟩⟩
      · rw [hc.2.2.2.2.2.1]; exact c_side (by unfold gB at b7; omega) (t_pos ok) ⟨_, rfl, fin _⟩
      · rw [hc.2.2.2.2.2.1]; exact c_side (by unfold gB at b7; omega) (t_pos ok) ⟨_, rfl, fin _⟩
      · rw [e6, nI_leI (by omega) (by omega)] at q
        rw [← nI_succ]
        refine ih (i + 1) (by omega) (by omega) _ _ _ _ _ b5 ?_
        split
        · exact b7
        · exact gn_bd ok _ _
      · rw [e6, nI_leI (by omega) (by omega)] at q
        rw [← nI_succ]
        exact ih (i + 1) (by omega) (by omega) _ _ _ _ _ (gn_bd ok _ _) b5
  exact key 6 1 (by omega) (by omega) _ _ _ _ _ (gn_bd ok _ _) (by unfold gB; decide)
theorem t10_buyer {x1 x2 : Int32} (a : tc h z DD N C) (hq : ∀ (v : Int32) h', ax_same md_F h h' → Ret (some (.int v)) h') : mX10_buyer g [.ref 77, .int x1, .int x2] h Ret := by
  obtain ⟨a1, T1, hs1⟩ := q_code (v := 0) a.2.1 a.2.2.2.1
  refine uX10_buyer (fun A hA => vX10_buyer_0 hA ⟨a.2.1.1, ?_⟩)
  intro h1
  refine c_min ⟨_, rfl, fun _ => hq _ _ hs1, fun _ => ⟨a1.1, q_hand a1 T1 a.2.2.2.2 (fun q => ⟨_, rfl, fun _ => hq _ _ hs1, fun q => absurd rfl q⟩) (fun k hk ex ok h' hs hm => ⟨_, rfl, fun q => absurd q (by decide), fun _ => ⟨hm.1.1.1.1, fun q0 => ?_, fun _ => hq _ _ (sm_tr hs1 hs)⟩⟩)⟩⟩
  have fin : ∀ v : Int32, Ret (some (.int v)) h' := fun v => hq v h' (sm_tr hs1 hs)
  have mb := hm.1.1
  have s0 := mb.1.1
  have H12 := ok.1.2
  have H2 := ok.1.1
  have P6 := ok.2.1
  have e27 := mb.2.2.2.2.2.1
  have P0 : 0 < dP (DD k) := by
    rw [e27] at q0
    rcases Nat.eq_zero_or_pos (dP (DD k)) with e | e
    · rw [e] at q0; exact absurd nI_0 q0
    · exact e
  have bh : ∀ p : Nat, sp_bh (dP (DD k)) (dH (DD k)) (sp_vl (DD k)) (nI p) = nI (bst (fun q => sp_br (dP (DD k)) (dH (DD k)) (sp_vl (DD k)) (nI p) (nI q)) (dH (DD k) - 1)) ∧ bst (fun q => sp_br (dP (DD k)) (dH (DD k)) (sp_vl (DD k)) (nI p) (nI q)) (dH (DD k) - 1) < dH (DD k) := fun p => ⟨rfl, by have := bst_le (fun q => sp_br (dP (DD k)) (dH (DD k)) (sp_vl (DD k)) (nI p) (nI q)) (dH (DD k) - 1); omega⟩
  have key2 : ∀ n i : Nat, i + n = dP (DD k) → ∀ (x3 x6 : Int32) (x4 : Int64) (o8 o9 : Option Value), gB x4 → A (95, [some (.ref 77), some (.int x1), some (.int x2), some (.int x3), some (.long x4), none, some (.int x6), some (.int (nI i)), o8, o9], [], h', 0, 0) := by
    intro n
    induction n with
    | zero =>
      intro i hi x3 x6 x4 o8 o9 b4
      refine vX10_buyer_95 hA ⟨s0, fun _ => ⟨fun _ => ⟨s0, fun _ => ?_, fun _ => ?_⟩, fun _ => fin _⟩, fun q => ?_⟩
      · rw [hm.2.2.1]; exact c_part (by unfold gB at b4; omega) (t_pos ok) ⟨_, rfl, fin _⟩
      · rw [hm.2.2.1]; exact c_part (by unfold gB at b4; omega) (t_pos ok) ⟨_, rfl, fin _⟩
      · rw [e27] at q; exact absurd (nI_le (by omega) (by omega)) q
    | succ n ih =>
      intro i hi x3 x6 x4 o8 o9 b4
      refine vX10_buyer_95 hA ⟨s0, fun q => ?_, fun q => ⟨fun _ => ?_, fun _ => ⟨s0, c_mwishOf (by omega) hm.1 (by omega) ⟨_, rfl, s0, ?_⟩⟩⟩⟩
      · rw [e27] at q; exact absurd q (nI_ge (by omega) (by omega))
      · rw [← nI_succ]; exact ih (i + 1) (by omega) _ _ _ _ _ b4
      · rw [(bh i).1]
        refine c_mgainOf hm.1 hm.2 (by omega) (bh i).2 ⟨_, rfl, fun _ => ?_, fun _ => ⟨fun _ => ?_, fun _ => ?_⟩⟩
        · rw [← nI_succ]; exact ih (i + 1) (by omega) _ _ _ _ _ (gn_bd ok _ _)
        · rw [← nI_succ]; exact ih (i + 1) (by omega) _ _ _ _ _ b4
        · rw [← nI_succ]; exact ih (i + 1) (by omega) _ _ _ _ _ (gn_bd ok _ _)
  have key : ∀ n i j : Nat, i + n = dP (DD k) → j < dP (DD k) → ∀ (o5 o6 o7 o8 o9 : Option Value), A (38, [some (.ref 77), some (.int x1), some (.int x2), some (.int (nI j)), some (.int (nI i)), o5, o6, o7, o8, o9], [], h', 0, 0) := by
    intro n
    induction n with
    | zero =>
      intro i j hi hj o5 o6 o7 o8 o9
      refine vX10_buyer_38 hA ⟨s0, fun _ => key2 (dP (DD k)) 0 (by omega) _ _ _ _ _ (by unfold gB; decide), fun q => ?_⟩
      rw [e27] at q; exact absurd (nI_le (by omega) (by omega)) q
    | succ n ih =>
      intro i j hi hj o5 o6 o7 o8 o9
      refine vX10_buyer_38 hA ⟨s0, fun q => ?_, fun q => ⟨s0, c_mwishOf (by omega) hm.1 (by omega) ⟨_, rfl, s0, ?_⟩⟩⟩
      · rw [e27] at q; exact absurd q (nI_ge (by omega) (by omega))
      · rw [(bh i).1]
        refine c_mgainOf hm.1 hm.2 (by omega) (bh i).2 ⟨_, rfl, s0, c_mwishOf (by omega) hm.1 hj ⟨_, rfl, s0, ?_⟩⟩
        rw [(bh j).1]
        refine c_mgainOf hm.1 hm.2 hj (bh j).2 ⟨_, rfl, fun _ => ?_, fun _ => ?_⟩
        · rw [← nI_succ]; exact ih (i + 1) j (by omega) hj _ _ _ _ _
        · rw [← nI_succ]; exact ih (i + 1) i (by omega) (by omega) _ _ _ _ _
  exact key (dP (DD k) - 1) 1 0 (by omega) P0 _ _ _ _ _
theorem n_buyer (a : IV h S Im tp) (b : 103 ≤ h.1 ∧ h.1 ≤ B) (x1 x2 : Int32) : prN (mX9_buyer g) (mX10_buyer g) [.ref 0, .int x1, .int x2] [.ref 77, .int x1, .int x2] h (inv B) := pr_n a b (fun Ret k => t9_buyer (iv_tc a) k) (fun h1 Ret a1 k => t10_buyer (iv_tc a1) k)
end
