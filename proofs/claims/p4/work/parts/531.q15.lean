section
variable {g : ax_G} {Ret : Option Value → ax_H → Prop} {h : ax_H} {z : Nat → Nat} {DD : Nat → rD} {N : Nat → Nat → Nat} {C : Nat → Nat → Nat → Nat → Int32} {S : sT} {Im : Nat → Option sT} {tp : Nat → Nat} {B : Nat}
/-! trains, of the reference -/
theorem q_handR {x : Int32} (a : mo_st h 77) (T : tm_at h 77 0 z DD N C) (K : tk z DD N C) (h0 : sp_in x (z 0) = false → Ret (some (.int 0)) h) (h1 : ∀ k, k < z 0 → x = nI k → rd_ok (DD k) → ∀ h', mr hd_J (hd_F 77) 77 h h' → hm_at h' k (DD k) → Ret (some (.int 1)) h') : mX10_hand g [.ref 77, .int x] h Ret := by
  refine c_mhand (n := z 0) (DD := DD) a (K.1 0 (by decide)) (T.1 0 (by decide)) (fun ρ hρ => ⟨by have := T.2.1 ρ hρ; rwa [Nat.mul_zero, Nat.zero_add] at this, rd_de_of (K.2.1 ρ hρ)⟩) h0 (fun ρ hρ ex h' hs c w => ?_)
  have ok := K.2.1 ρ hρ
  refine h1 ρ hρ ex ok h' hs ⟨⟨c.1, c.2.1, c.2.2.1, fun p q hp hq => ?_⟩, w⟩
  rw [c.2.2.2 p q hp hq]
  exact vb_vl (rd_de_of ok) hp hq ok.1.2 ok.2.1 ok.2.2.2.1
theorem hd_md {h' : ax_H} (s : mr hd_J (hd_F 77) 77 h h') : ax_same md_F h h' := sm_mono s.1 (fun x e => by unfold hd_F at e; unfold md_F; omega)
/-- a table and a republic in hand -/
def tbm (h hh : ax_H) (k : Nat) (D : rD) (w : Nat) : Prop := lvm h hh k D ∧ ax_i hh 77 47 = nI w
theorem c_trueAt {x s : Int32} (hq : Ret (some (.int (sp_tt x s))) h) : mX10_trueAt g [.int x, .int s] h Ret := by
  unfold sp_tt at hq
  exact eX10_trueAt ⟨fun q => by rw [if_pos q] at hq; exact hq, fun q => by rw [if_neg q] at hq; exact hq⟩
theorem c_lesser {x y : Int32} (hq : ∀ v : Int32, Ret (some (.int v)) h) : mX10_lesser g [.int x, .int y] h Ret := eX10_lesser ⟨fun _ => hq _, fun _ => hq _⟩
section
variable {hh : ax_H} {k w : Nat}
theorem c_mslackBy {x : Int32} (a : tc h z DD N C) (T : tbm h hh k (DD k) w) (hw : w < z 3) (hq : ∀ v : Int32, Ret (some (.int v)) hh) : mX10_slackBy g [.ref 77, .int x] hh Ret := by
  have c := tc_md T.1.1 a
  have n8 : N 3 w ≤ 8 := (a.2.2.2.2.2.2 3 w (by decide) (by decide) hw).1
  have s0 := c.2.1.1
  refine uX10_slackBy (fun A hA => vX10_slackBy_0 hA ?_)
  have key : ∀ m i : Nat, N 3 w ≤ i + 1 + m → i ≤ 8 → ∀ x2 : Int32, A (6, [some (.ref 77), some (.int x), some (.int x2), some (.int (nI i))], [], hh, 0, 0) := by
    intro m
    induction m with
    | zero =>
      intro i hi i8 x2
      refine vX10_slackBy_6 hA ⟨s0, c_mtrains c.2.1 c.2.2.2.1 c.2.2.2.2 hw T.2 ⟨_, rfl, fun _ => hq _, fun q => ?_⟩⟩
      rw [← nI_succ] at q; exact absurd (nI_le (by omega) (by omega)) q
    | succ m ih =>
      intro i hi i8 x2
      refine vX10_slackBy_6 hA ⟨s0, c_mtrains c.2.1 c.2.2.2.1 c.2.2.2.2 hw T.2 ⟨_, rfl, fun _ => hq _, fun q => ⟨s0, ?_⟩⟩⟩
      rw [← nI_succ, nI_leI (by omega) (by omega)] at q
      rw [← nI_succ]
      refine c_mtrainOf (j := 0) c.2.1 c.2.2.2.1 c.2.2.2.2 hw T.2 (by omega) (by decide) ⟨_, rfl, c_trueAt ⟨_, rfl, s0, c_mtrainOf (j := 0) c.2.1 c.2.2.2.1 c.2.2.2.2 hw T.2 (by omega) (by decide) ⟨_, rfl, c_trueAt ⟨_, rfl, s0, c_mtrainOf (j := 1) c.2.1 c.2.2.2.1 c.2.2.2.2 hw T.2 (by omega) (by decide) ⟨_, rfl, c_lesser (fun v => ⟨_, rfl, ?_⟩)⟩⟩⟩⟩⟩
      exact ih (i + 1) (by omega) (by omega) _
  exact key 8 0 (by omega) (by omega) _
theorem tt_nI {u i : Nat} (hu : u < 1000) (hi : i < 1000) : sp_tt (nI u) (nI i) = nI (if u ≤ i then u else u + 1) := by
  unfold sp_tt
  by_cases e : u ≤ i
  · rw [if_pos (nI_le e (by omega)), if_pos e]
  · rw [if_neg (fun q => e ((nI_leI (by omega) (by omega)).mp q)), if_neg e, ← nI_succ]
theorem c_mcanLeave {u e r : Nat} {ρ m : Nat} {D : rD} {mo : Nat → Int32} (mb : mb_at hh m ρ D mo) (hu : u < 900) (he : e < 900) (hr : r < 90) (h1 : Ret (some (.int 1)) hh) (h0 : u ≠ e + r → Ret (some (.int 0)) hh) : mX10_canLeave g [.ref m, .int (nI u), .int (nI e), .int (nI r)] hh Ret := by
  have H12 := mb.2.2.1.1.1
  refine uX10_canLeave (fun A hA => vX10_canLeave_0 hA ?_)
  have key : ∀ n i : Nat, i + n = dH D → A (3, [some (.ref m), some (.int (nI u)), some (.int (nI e)), some (.int (nI r)), some (.int (nI i))], [], hh, 0, 0) := by
    intro n
    induction n with
    | zero =>
      intro i hi
      refine vX10_canLeave_3 hA ⟨mb.1.1, fun _ => ⟨Or.inr rfl, h1⟩, fun q => ?_⟩
      rw [mb.2.2.2.2.1] at q; exact absurd (nI_le (by omega) (by omega)) q
    | succ n ih =>
      intro i hi
      refine vX10_canLeave_3 hA ⟨mb.1.1, fun q => ?_, fun _ => c_trueAt ⟨_, rfl, c_trueAt ⟨_, rfl, fun _ => ?_, fun q => ⟨Or.inl rfl, h0 (fun eu => q ?_)⟩⟩⟩⟩
      · rw [mb.2.2.2.2.1] at q; exact absurd q (nI_ge (by omega) (by omega))
      · rw [← nI_succ]; exact ih (i + 1) (by omega)
      · rw [tt_nI (by omega) (by omega), tt_nI (by omega) (by omega), nI_add]
        refine nI_le ?_ (by split <;> omega)
        split <;> split <;> omega
  exact key (dH D) 0 (by omega)
theorem mo_ea {h : ax_H} {m : Nat} (a : mo_st h m) : ax_r h m 48 = some (m + 20) ∧ ax_s h (m + 20) = (11, 8) := a.2 19 _ rfl
theorem tbm_97 {j : Nat} {v : Int32} {D : rD} (T : tbm h hh k D w) : tbm h (ax_pi hh 97 j v) k D w := ⟨lvm_mr T.1 (mr_c (J := fun _ => False) (F := fun a => a = 97) rfl (by decide)) (fun j hj => hj.elim) (fun a ha => by omega), by rw [ai_pi, if_neg (by omega)]; exact T.2⟩
theorem c_findEarliest (a : tc h z DD N C) (ok : rd_ok (DD k)) (T : tbm h hh k (DD k) w) (hw : w < z 3) (hn : 0 < N 3 w) (hq : ∀ h2, tbm h h2 k (DD k) w → Ret none h2) : mX10_findEarliest g [.ref 77] hh Ret := by
  have c := tc_md T.1.1 a
  have lo := a.2.2.2.2.2.2 3 w (by decide) (by decide) hw
  have n8 : N 3 w ≤ 8 := lo.1
  have s0 := c.2.1.1
  obtain ⟨e1, e2⟩ := mo_ea c.2.1
  refine uX10_findEarliest (fun A hA => vX10_findEarliest_0 hA ⟨s0, _, e1, s0, c_mtrainOf (i := 0) (j := 0) c.2.1 c.2.2.2.1 c.2.2.2.2 hw T.2 hn (by decide) ⟨_, rfl, by rw [e2], by rw [e2]; exact vp_in_nI (n := 0) (by decide) (by decide), ?_⟩⟩)
  intro u5
  have key : ∀ m j : Nat, j + 1 + m = N 3 w → ∀ h3, tbm h h3 k (DD k) w → ∀ e, e ≤ 12 + 9 * j → ax_i h3 97 j = nI e → ∀ o2 : Option Value, A (14, [some (.ref 77), some (.int (nI (j + 1))), o2], [], h3, 0, 0) := by
    intro m
    induction m with
    | zero =>
      intro j hj h3 T3 e he ee o2
      have c := tc_md T3.1.1 a
      exact vX10_findEarliest_14 hA ⟨c.2.1.1, c_mtrains c.2.1 c.2.2.2.1 c.2.2.2.2 hw T3.2 ⟨_, rfl, fun _ => hq h3 T3, fun q => absurd (nI_le (by omega) (by omega)) q⟩⟩
    | succ m ih =>
      intro j hj h3 T3 e he ee o2
      have c := tc_md T3.1.1 a
      obtain ⟨pu, mc, mw⟩ := T3.1.2
      have s0 := c.2.1.1
      obtain ⟨e1, e2⟩ := mo_ea c.2.1
      obtain ⟨a1, b1, ha1, hb11, hb1, ea1, eb1⟩ := lo.2 j (by omega)
      have inn : ∀ f u : Nat, u + f = e + b1 → A (24, [some (.ref 77), some (.int (nI (j + 1))), some (.int (nI u))], [], h3, 0, 0) := by
        intro f
        induction f with
        | zero =>
          intro u hu
          refine vX10_findEarliest_24 hA ⟨s0, _, e1, by rw [e2], by rw [e2, nI_pred]; exact vp_in_nI (by omega) (by decide), s0, ?_⟩
          rw [nI_pred, nI_clamp (by omega)]
          refine c_mtrainOf (j := 1) c.2.1 c.2.2.2.1 c.2.2.2.2 hw T3.2 (by omega) (by decide) ⟨_, rfl, s0, ?_⟩
          rw [show ax_i h3 (77 + 20) j = nI e from ee, eb1]
          refine c_mcanLeave mc.1 (by omega) (by omega) (by omega) ⟨_, rfl, fun _ => ⟨s0, _, e1, by rw [e2], by rw [e2]; exact vp_in_nI (by omega) (by decide), ?_⟩, fun q => absurd q (by decide)⟩ (fun q => absurd hu q)
          intro u17
          rw [← nI_succ]
          refine ih (j + 1) (by omega) u17 (tbm_97 T3) u (by omega) ?_ _
          show ax_i (ax_pi h3 97 (nI (j + 1)).toNatClampNeg (nI u)) 97 (j + 1) = nI u
          rw [nI_clamp (by omega), ai_pi, if_pos ⟨rfl, rfl⟩]
        | succ f ihf =>
          intro u hu
          refine vX10_findEarliest_24 hA ⟨s0, _, e1, by rw [e2], by rw [e2, nI_pred]; exact vp_in_nI (by omega) (by decide), s0, ?_⟩
          rw [nI_pred, nI_clamp (by omega)]
          refine c_mtrainOf (j := 1) c.2.1 c.2.2.2.1 c.2.2.2.2 hw T3.2 (by omega) (by decide) ⟨_, rfl, s0, ?_⟩
          rw [show ax_i h3 (77 + 20) j = nI e from ee, eb1]
          refine c_mcanLeave mc.1 (by omega) (by omega) (by omega) ⟨_, rfl, fun _ => ⟨s0, _, e1, by rw [e2], by rw [e2]; exact vp_in_nI (by omega) (by decide), ?_⟩, fun q => absurd q (by decide)⟩ (fun _ => ⟨_, rfl, fun q => absurd rfl q, fun _ => ?_⟩)
          · intro u17
            rw [← nI_succ]
            refine ih (j + 1) (by omega) u17 (tbm_97 T3) u (by omega) ?_ _
            show ax_i (ax_pi h3 97 (nI (j + 1)).toNatClampNeg (nI u)) 97 (j + 1) = nI u
            rw [nI_clamp (by omega), ai_pi, if_pos ⟨rfl, rfl⟩]
          · rw [← nI_succ]; exact ihf (u + 1) (by omega)
      exact vX10_findEarliest_14 hA ⟨s0, c_mtrains c.2.1 c.2.2.2.1 c.2.2.2.2 hw T3.2 ⟨_, rfl, fun q => absurd q (nI_ge (by omega) (by omega)), fun _ => inn (e + b1) 0 (by omega)⟩⟩
  obtain ⟨a0, b0, ha0, hb0, hb1, ea0, eb0⟩ := lo.2 0 hn
  exact key (N 3 w - 1) 0 (by omega) u5 (tbm_97 T) a0 (by omega) (by show ax_i (ax_pi hh 97 0 (C 3 w 0 0)) 97 0 = nI a0; rw [ai_pi, if_pos ⟨rfl, rfl⟩, ea0]) _
end
theorem q_tab {x1 x2 d : Int32} {P : Int32 → ax_H → Prop} (a : tc h z DD N C) (hq : ∀ (v : Int32) h', ax_same md_F h h' → Ret (some (.int v)) h') (h1 : ∀ k w h', k < z 0 → w < z 3 → rd_ok (DD k) → tbm h h' k (DD k) w → P 1 h') (h0 : ∀ h', ax_same md_F h h' → P 0 h') : mX10_hasTable g [.ref 77, .int x2] (ax_pi h 77 0 0) (fun v3 h2 => ∃ r4 : Int32, v3 = some (.int r4) ∧ ((r4 = 0 → Ret (some (.int d)) h2) ∧ (¬ (r4 = 0) → ((ax_s h2 77).1 = 10 ∧ mX10_hand g [.ref 77, .int x1] h2 (fun v6 h5 => ∃ r7 : Int32, v6 = some (.int r7) ∧ P r7 h5))))) := by
  obtain ⟨a1, T1, hs1⟩ := q_code (v := 0) a.2.1 a.2.2.2.1
  obtain ⟨a2, T2, hs2⟩ := mf_keep (k := 47) (v := x2) a1 T1
  refine c_mhasTable a1 T1 a.2.2.2.2 ⟨_, rfl, fun _ => hq _ _ (sm_tr hs1 hs2), fun q => ⟨a2.1, q_handR a2 T2 a.2.2.2.2 (fun _ => ⟨_, rfl, h0 _ (sm_tr hs1 hs2)⟩) (fun k hk ex ok h' hs hm => ⟨_, rfl, ?_⟩)⟩⟩
  obtain ⟨w, hw, rfl⟩ := sp_in_ix (by have := a.2.2.2.2.1 3 (by decide); omega) (b2i_n0.mp q)
  exact h1 k w h' hk hw ok ⟨lvm_hm (sm_tr hs1 (sm_tr hs2 (hd_md hs))) hm, by rw [(hs.2 47 (by unfold hd_J; decide)).1]; exact ai_eq⟩
theorem t10_holds {x1 x2 x3 : Int32} (a : tc h z DD N C) (hq : ∀ (v : Int32) h', ax_same md_F h h' → Ret (some (.int v)) h') : mX10_holds g [.ref 77, .int x1, .int x2, .int x3] h Ret := by
  refine uX10_holds (fun A hA => vX10_holds_0 hA ⟨a.2.1.1, ?_⟩)
  intro u1
  refine ⟨a.2.1.1, q_tab a hq (fun k w h' hk hw ok T => ?_) (fun h' s => ⟨fun _ => hq _ _ s, fun q => absurd rfl q⟩)⟩
  obtain ⟨pu, mc, mw⟩ := T.1.2
  have s0 := mc.1.1.1
  have H12 := ok.1.2
  have fin : ∀ v : Int32, Ret (some (.int v)) h' := fun v => hq v h' T.1.1
  have key : ∀ m i : Nat, i + m = dH (DD k) → ∀ (o3 : Option Value) (x4 : Int32), A (65, [some (.ref 77), some (.int x1), some (.int x2), o3, some (.int x4), some (.int (nI i))], [], h', 0, 0) := by
    intro m
    induction m with
    | zero =>
      intro i hi o3 x4
      refine vX10_holds_65 hA ⟨s0, fun _ => fin _, fun q => ?_⟩
      rw [mc.1.2.2.2.2.1] at q; exact absurd (nI_le (by omega) (by omega)) q
    | succ m ih =>
      intro i hi o3 x4
      refine vX10_holds_65 hA ⟨s0, fun q => ?_, fun _ => ⟨s0, c_mslackBy a T hw (fun v => ⟨_, rfl, c_lesser (fun v2 => ⟨_, rfl, ?_⟩)⟩)⟩⟩
      · rw [mc.1.2.2.2.2.1] at q; exact absurd q (nI_ge (by omega) (by omega))
      · rw [← nI_succ]; exact ih (i + 1) (by omega) _ _
  exact ⟨fun q => absurd q (by decide), fun _ => ⟨fun e => ⟨fun _ => key (dH (DD k)) 0 (by omega) _ _, fun q => absurd e q⟩, fun e => ⟨s0, c_misHour mc.1 ⟨_, rfl, fun _ => ⟨fun q => absurd q e, fun _ => ⟨s0, c_mslackBy a T hw (fun v => ⟨_, rfl, fun _ => fin _, fun _ => fin _⟩)⟩⟩, fun _ => fin _⟩⟩⟩⟩
theorem t10_trust {x1 x2 x3 : Int32} (a : tc h z DD N C) (hq : ∀ (v : Int32) h', ax_same md_F h h' → Ret (some (.int v)) h') : mX10_trust g [.ref 77, .int x1, .int x2, .int x3] h Ret := by
  refine uX10_trust (fun A hA => vX10_trust_0 hA ⟨a.2.1.1, ?_⟩)
  intro u1
  refine ⟨a.2.1.1, q_tab a hq (fun k w h' hk hw ok T => ⟨fun _ => ?_, fun q => absurd q (by decide)⟩) (fun h' s => ⟨fun q => absurd rfl q, fun _ => hq _ _ s⟩)⟩
  obtain ⟨pu, mc, mw⟩ := T.1.2
  have s0 := mc.1.1.1
  have H12 := ok.1.2
  have fin : ∀ v : Int32, Ret (some (.int v)) h' := fun v => hq v h' T.1.1
  obtain ⟨e1, e2⟩ := mo_we mc.1.1
  have key : ∀ m i : Nat, i + m = dH (DD k) → ∀ x4 : Int64, 0 ≤ x4.toInt → x4.toInt ≤ 9 * i → A (29, [some (.ref 77), some (.int x1), some (.int x2), some (.int x3), some (.long x4), none, some (.int (nI i))], [], h', 0, 0) := by
    intro m
    induction m with
    | zero =>
      intro i hi x4 b1 b2
      refine vX10_trust_29 hA ⟨s0, fun _ => ⟨s0, ?_⟩, fun q => ?_⟩
      · rw [mw.2.1]; exact c_part (by omega) (by rw [i_64]; exact (sp_t_bd ok _).1) ⟨_, rfl, fin _⟩
      · rw [mc.1.2.2.2.2.1] at q; exact absurd (nI_le (by omega) (by omega)) q
    | succ m ih =>
      intro i hi x4 b1 b2
      refine vX10_trust_29 hA ⟨s0, fun q => ?_, fun q => ⟨s0, c_mslackBy a T hw (fun v => ⟨_, rfl, fun _ => ?_, fun _ => ⟨s0, _, e1, by rw [e2], by rw [e2]; exact vp_in_nI (by omega) (by decide), ?_⟩⟩)⟩⟩
      · rw [mc.1.2.2.2.2.1] at q; exact absurd q (nI_ge (by omega) (by omega))
      · rw [← nI_succ, Int64.add_zero]; exact ih (i + 1) (by omega) x4 b1 (by omega)
      · rw [nI_clamp (by omega), mw.1 i (by omega), ← nI_succ]
        have bw := sp_w_bd ok (sp_po (dP (DD k)) pu) i
        have ea : (x4 + (sp_w (DD k) (sp_po (dP (DD k)) pu) i).toInt64).toInt = x4.toInt + (sp_w (DD k) (sp_po (dP (DD k)) pu) i).toInt := by rw [i64_add (by rw [i_64]; omega) (by rw [i_64]; omega), i_64]
        exact ih (i + 1) (by omega) _ (by rw [ea]; omega) (by rw [ea]; omega)
  exact key (dH (DD k)) 0 (by omega) 0 (by decide) (by decide)
theorem t10_tight {x1 x2 : Int32} (a : tc h z DD N C) (hq : ∀ (v : Int32) h', ax_same md_F h h' → Ret (some (.int v)) h') : mX10_tight g [.ref 77, .int x1, .int x2] h Ret := by
  refine uX10_tight (fun A hA => vX10_tight_0 hA ⟨a.2.1.1, ?_⟩)
  intro u1
  refine ⟨a.2.1.1, q_tab a hq (fun k w h' hk hw ok T => ⟨fun _ => ?_, fun q => absurd q (by decide)⟩) (fun h' s => ⟨fun q => absurd rfl q, fun _ => hq _ _ s⟩)⟩
  obtain ⟨pu, mc, mw⟩ := T.1.2
  have c := tc_md T.1.1 a
  have s0 := mc.1.1.1
  have H12 := ok.1.2
  have n8 : N 3 w ≤ 8 := (a.2.2.2.2.2.2 3 w (by decide) (by decide) hw).1
  have fin : ∀ v : Int32, Ret (some (.int v)) h' := fun v => hq v h' T.1.1
  have key : ∀ m i : Nat, N 3 w ≤ i + 1 + m → i ≤ 8 → ∀ (x3 x4 : Int32) (o2 o6 o7 : Option Value), A (33, [some (.ref 77), some (.int x1), o2, some (.int x3), some (.int x4), some (.int (nI i)), o6, o7], [], h', 0, 0) := by
    intro m
    induction m with
    | zero =>
      intro i hi i8 x3 x4 o2 o6 o7
      refine vX10_tight_33 hA ⟨s0, c_mtrains c.2.1 c.2.2.2.1 c.2.2.2.2 hw T.2 ⟨_, rfl, fun _ => fin _, fun q => ?_⟩⟩
      rw [← nI_succ] at q; exact absurd (nI_le (by omega) (by omega)) q
    | succ m ih =>
      intro i hi i8 x3 x4 o2 o6 o7
      refine vX10_tight_33 hA ⟨s0, c_mtrains c.2.1 c.2.2.2.1 c.2.2.2.2 hw T.2 ⟨_, rfl, fun _ => fin _, fun q => ?_⟩⟩
      rw [← nI_succ, nI_leI (by omega) (by omega)] at q
      have inn : ∀ f j : Nat, j + f = dH (DD k) → ∀ (x3 x4 : Int32) (o2 o7 : Option Value), A (47, [some (.ref 77), some (.int x1), o2, some (.int x3), some (.int x4), some (.int (nI i)), some (.int (nI j)), o7], [], h', 0, 0) := by
        intro f
        induction f with
        | zero =>
          intro j hj x3 x4 o2 o7
          refine vX10_tight_47 hA ⟨s0, fun _ => ?_, fun q => ?_⟩
          · rw [← nI_succ]; exact ih (i + 1) (by omega) (by omega) _ _ _ _ _
          · rw [mc.1.2.2.2.2.1] at q; exact absurd (nI_le (by omega) (by omega)) q
        | succ f ihf =>
          intro j hj x3 x4 o2 o7
          refine vX10_tight_47 hA ⟨s0, fun q => ?_, fun _ => ⟨s0, ?_⟩⟩
          · rw [mc.1.2.2.2.2.1] at q; exact absurd q (nI_ge (by omega) (by omega))
          · rw [← nI_succ]
            refine c_mtrainOf (j := 0) c.2.1 c.2.2.2.1 c.2.2.2.2 hw T.2 (by omega) (by decide) ⟨_, rfl, c_trueAt ⟨_, rfl, s0, c_mtrainOf (j := 0) c.2.1 c.2.2.2.1 c.2.2.2.2 hw T.2 (by omega) (by decide) ⟨_, rfl, c_trueAt ⟨_, rfl, s0, c_mtrainOf (j := 1) c.2.1 c.2.2.2.1 c.2.2.2.2 hw T.2 (by omega) (by decide) ⟨_, rfl, fun _ => c_lesser (fun v => ⟨_, rfl, ?_⟩), fun _ => c_lesser (fun v => ⟨_, rfl, ?_⟩)⟩⟩⟩⟩⟩
            all_goals (rw [← nI_succ]; exact ihf (j + 1) (by omega) _ _ _ _)
      exact inn (dH (DD k)) 0 (by omega) _ _ _ _
  exact key 8 0 (by omega) (by omega) _ _ _ _ _
theorem t10_clock {x1 x2 x3 x4 : Int32} (a : tc h z DD N C) (hq : ∀ (v : Int32) h', ax_same md_F h h' → Ret (some (.int v)) h') : mX10_clock g [.ref 77, .int x1, .int x2, .int x3, .int x4] h Ret := by
  refine eX10_clock ⟨a.2.1.1, ?_⟩
  intro u1
  refine ⟨a.2.1.1, q_tab a hq (fun k w h' hk hw ok T => ⟨fun q => absurd q (by decide), fun _ => ?_⟩) (fun h' s => ⟨fun _ => hq _ _ s, fun q => absurd rfl q⟩)⟩
  obtain ⟨pu, mc, mw⟩ := T.1.2
  have c := tc_md T.1.1 a
  have s0 := mc.1.1.1
  have n8 : N 3 w ≤ 8 := (a.2.2.2.2.2.2 3 w (by decide) (by decide) hw).1
  have fin : ∀ v : Int32, Ret (some (.int v)) h' := fun v => hq v h' T.1.1
  refine ⟨s0, c_mtrains c.2.1 c.2.2.2.1 c.2.2.2.2 hw T.2 ⟨_, rfl, c_minN (by omega) ⟨_, rfl, fun _ => fin _, fun q => ?_⟩⟩⟩
  obtain ⟨j, hj, rfl⟩ := sp_in_ix (by omega) (b2i_n0.mp q)
  refine ⟨fun e => ⟨fun q => absurd e q, fun _ => ⟨s0, c_findEarliest a ok T hw (by omega) (fun h2 T2 => ⟨rfl, ?_⟩)⟩⟩, fun e => ⟨s0, c_misHour mc.1 ⟨_, rfl, fun _ => ⟨fun _ => ⟨s0, ?_⟩, fun q => absurd q e⟩, fun _ => fin _⟩⟩⟩
  · obtain ⟨pu2, mc2, mw2⟩ := T2.1.2
    obtain ⟨e1, e2⟩ := mo_ea mc2.1.1
    exact ⟨mc2.1.1.1, _, e1, by rw [e2], by rw [e2]; exact vp_in_nI (by omega) (by decide), hq _ _ T2.1.1⟩
  · exact c_mtrainOf (j := 0) c.2.1 c.2.2.2.1 c.2.2.2.2 hw T.2 hj (by decide) ⟨_, rfl, c_trueAt ⟨_, rfl, s0, c_mtrainOf (j := 1) c.2.1 c.2.2.2.1 c.2.2.2.2 hw T.2 hj (by decide) ⟨_, rfl, fun _ => fin _, fun _ => fin _⟩⟩⟩
theorem n_holds (a : IV h S Im tp) (b : 103 ≤ h.1 ∧ h.1 ≤ B) (x1 x2 x3 : Int32) : prN (mX9_holds g) (mX10_holds g) [.ref 0, .int x1, .int x2, .int x3] [.ref 77, .int x1, .int x2, .int x3] h (inv B) := pr_n a b (fun Ret k => t9_holds (iv_tc a) k) (fun h1 Ret a1 k => t10_holds (iv_tc a1) k)
theorem n_trust (a : IV h S Im tp) (b : 103 ≤ h.1 ∧ h.1 ≤ B) (x1 x2 x3 : Int32) : prN (mX9_trust g) (mX10_trust g) [.ref 0, .int x1, .int x2, .int x3] [.ref 77, .int x1, .int x2, .int x3] h (inv B) := pr_n a b (fun Ret k => t9_trust (iv_tc a) k) (fun h1 Ret a1 k => t10_trust (iv_tc a1) k)
theorem n_tight (a : IV h S Im tp) (b : 103 ≤ h.1 ∧ h.1 ≤ B) (x1 x2 : Int32) : prN (mX9_tight g) (mX10_tight g) [.ref 0, .int x1, .int x2] [.ref 77, .int x1, .int x2] h (inv B) := pr_n a b (fun Ret k => t9_tight (iv_tc a) k) (fun h1 Ret a1 k => t10_tight (iv_tc a1) k)
theorem n_clock (a : IV h S Im tp) (b : 103 ≤ h.1 ∧ h.1 ≤ B) (x1 x2 x3 x4 : Int32) : prN (mX9_clock g) (mX10_clock g) [.ref 0, .int x1, .int x2, .int x3, .int x4] [.ref 77, .int x1, .int x2, .int x3, .int x4] h (inv B) := pr_n a b (fun Ret k => t9_clock (iv_tc a) k) (fun h1 Ret a1 k => t10_clock (iv_tc a1) k)
end
