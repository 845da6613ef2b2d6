section
variable {g : ax_G} {Ret : Option Value → ax_H → Prop} {h : ax_H} {z : Nat → Nat} {DD : Nat → rD} {N : Nat → Nat → Nat} {C : Nat → Nat → Nat → Nat → Int32} {S : sT} {Im : Nat → Option sT} {tp : Nat → Nat} {B : Nat}
/-! FEUD: the same answer -/
def fdU (f : Nat → Nat → Int32) (i j : Nat) (s : Nat × Nat × Int32) : Nat × Nat × Int32 := if f i j ≤ s.2.2 then s else (i, j, f i j)
def fdI (f : Nat → Nat → Int32) (i : Nat) : Nat → Nat → Nat × Nat × Int32 → Nat × Nat × Int32
  | 0, _, s => s
  | m + 1, j, s => fdI f i m (j + 1) (fdU f i j s)
def fdO (f : Nat → Nat → Int32) (H : Nat) : Nat → Nat → Nat × Nat × Int32 → Nat × Nat × Int32
  | 0, _, s => s
  | n + 1, i, s => fdO f H n (i + 1) (fdI f i (H - (i + 1)) (i + 1) s)
def fdA (x2 : Int32) (s : Nat × Nat × Int32) : Int32 := if x2 = 2 then s.2.2 else if x2 = 0 then nI s.1 else nI s.2.1
def fdF (D : rD) (i j : Nat) : Int32 := sp_ap (dP D) (dH D) (sp_vl D) (nI i) (nI j)
def s_feud (x2 : Int32) (D : rD) : Int32 := if x2 < 0 then -1 else if x2 ≤ 2 then fdA x2 (fdO (fdF D) (dH D) (dH D) 0 (0, 1, fdF D 0 1)) else -1
theorem q9_feud {x1 x2 : Int32} (a : tc h z DD N C) (hq : ∀ h', ax_same cl_F h h' → Ret (some (.int (qv (z 0) DD x1 (-1) (s_feud x2)))) h') : mX9_feud g [.ref 0, .int x1, .int x2] h Ret := by
  have z2 := a.2.2.2.2.1 0 (by decide)
  refine uX9_feud (fun A hA => vX9_feud_0 hA ⟨a.1.1, q_begun a (fun q => Or.inr ⟨rfl, ?_⟩) (fun k hk ex ok h' hs xs hc => Or.inl ⟨_, rfl, fun q1 => ?_, fun q1 => ⟨fun q2 => ⟨xs.1, _, xs.2.1.2.2.2.1, hc.2.1.1.1, c_apart hc.2.1 ⟨_, rfl, ?_⟩⟩, fun q2 => ?_⟩⟩)⟩)
  · have := hq h sm_rf; rwa [qv_no q] at this
  · have hv := hq h' hs
    rw [qv_yes z2 hk ex] at hv
    unfold s_feud at hv
    rw [if_pos q1] at hv
    exact hv
  · have hv := hq h' hs
    rw [qv_yes z2 hk ex] at hv
    unfold s_feud at hv
    rw [if_neg q1, if_pos q2] at hv
    have H12 := ok.1.2
    have e5 := hc.1.2.2.1.1
    have key : ∀ n i : Nat, i + n = dH (DD k) → ∀ (s : Nat × Nat × Int32) (o8 o9 : Option Value), Ret (some (.int (fdA x2 (fdO (fdF (DD k)) (dH (DD k)) n i s)))) h' → A (41, [some (.ref 0), some (.int x1), some (.int x2), some (.ref (6 + 14 * k)), some (.int (nI s.1)), some (.int (nI s.2.1)), some (.int s.2.2), some (.int (nI i)), o8, o9], [], h', 0, 0) := by
      intro n
      induction n with
      | zero =>
        intro i hi s o8 o9 r
        have r1 : Ret (some (.int (fdA x2 s))) h' := r
        unfold fdA at r1
        refine vX9_feud_41 hA ⟨hc.1.1.1, fun _ => ⟨fun n2 => ⟨fun n0 => ?_, fun e0 => ?_⟩, fun e2 => ?_⟩, fun q => ?_⟩
        · rw [if_neg n2, if_neg n0] at r1; exact r1
        · rw [if_neg n2, if_pos e0] at r1; exact r1
        · rw [if_pos e2] at r1; exact r1
        · rw [e5] at q; exact absurd (nI_le (by omega) (by omega)) q
      | succ n ih =>
        intro i hi s o8 o9 r
        refine vX9_feud_41 hA ⟨hc.1.1.1, fun q => ?_, fun _ => ?_⟩
        · rw [e5] at q; exact absurd q (nI_ge (by omega) (by omega))
        · rw [← nI_succ]
          have inn : ∀ m j : Nat, j + m = dH (DD k) → ∀ (s : Nat × Nat × Int32) (o9 : Option Value), Ret (some (.int (fdA x2 (fdO (fdF (DD k)) (dH (DD k)) n (i + 1) (fdI (fdF (DD k)) i m j s))))) h' → A (56, [some (.ref 0), some (.int x1), some (.int x2), some (.ref (6 + 14 * k)), some (.int (nI s.1)), some (.int (nI s.2.1)), some (.int s.2.2), some (.int (nI i)), some (.int (nI j)), o9], [], h', 0, 0) := by
            intro m
            induction m with
            | zero =>
              intro j hj s o9 r
              refine vX9_feud_56 hA ⟨hc.1.1.1, fun _ => ?_, fun q => ?_⟩
              · rw [← nI_succ]; exact ih (i + 1) (by omega) s _ _ r
              · rw [e5] at q; exact absurd (nI_le (by omega) (by omega)) q
            | succ m ihm =>
              intro j hj s o9 r
              have r1 : Ret (some (.int (fdA x2 (fdO (fdF (DD k)) (dH (DD k)) n (i + 1) (fdI (fdF (DD k)) i m (j + 1) (fdU (fdF (DD k)) i j s)))))) h' := r
              refine vX9_feud_56 hA ⟨hc.1.1.1, fun q => ?_, fun _ => ⟨xs.1, _, xs.2.1.2.2.2.1, hc.2.1.1.1, c_apart hc.2.1 ⟨_, rfl, fun c => ?_, fun c => ?_⟩⟩⟩
              · rw [e5] at q; exact absurd q (nI_ge (by omega) (by omega))
              · rw [← nI_succ]
                rw [show fdU (fdF (DD k)) i j s = s from if_pos c] at r1
                exact ihm (j + 1) (by omega) s _ r1
              · rw [← nI_succ]
                rw [show fdU (fdF (DD k)) i j s = (i, j, fdF (DD k) i j) from if_neg c] at r1
                exact ihm (j + 1) (by omega) (i, j, fdF (DD k) i j) _ r1
          exact inn (dH (DD k) - (i + 1)) (i + 1) (by omega) s _ r
    exact key (dH (DD k)) 0 (by omega) (0, 1, fdF (DD k) 0 1) _ _ hv
  · have hv := hq h' hs
    rw [qv_yes z2 hk ex] at hv
    unfold s_feud at hv
    rw [if_neg q1, if_neg q2] at hv
    exact hv
theorem iabs_bd {x : Int32} {m : Int} (h1 : -m ≤ x.toInt) (h2 : x.toInt ≤ m) (hm : m < 2147483648) : 0 ≤ (iabs x).toInt ∧ (iabs x).toInt ≤ m := by
  unfold iabs
  have z0 : (0 : Int32).toInt = 0 := rfl
  split
  · rename_i c; rw [i_le, z0] at c; exact ⟨c, h2⟩
  · rename_i c; rw [i_le, z0] at c
    rw [i32_sub (by rw [z0]; omega) (by rw [z0]; omega), z0]
    omega
theorem fdF_nn {D : rD} (ok : rd_ok D) {i j : Nat} (hi : i < dH D) (hj : j < dH D) : 0 ≤ (fdF D i j).toInt := by
  have P6 := ok.2.1
  have H12 := ok.1.2
  have t := sumN_bd (f := fun p => iabs (sp_br (dP D) (dH D) (sp_vl D) (nI p) (nI i) - sp_br (dP D) (dH D) (sp_vl D) (nI p) (nI j))) (a := 0) (b := 2574) (n := dP D) (fun p hp => by
    show 0 ≤ (iabs (sp_br (dP D) (dH D) (sp_vl D) (nI p) (nI i) - sp_br (dP D) (dH D) (sp_vl D) (nI p) (nI j))).toInt ∧ (iabs (sp_br (dP D) (dH D) (sp_vl D) (nI p) (nI i) - sp_br (dP D) (dH D) (sp_vl D) (nI p) (nI j))).toInt ≤ 2574
    rw [sp_br_in hp hi (by omega) (by omega), sp_br_in hp hj (by omega) (by omega)]
    have b1 := vl_bd ok p i
    have b2 := vl_bd ok p j
    have e := i32_sub (x := sp_vl D p i) (y := sp_vl D p j) (by omega) (by omega)
    exact iabs_bd (by rw [e]; omega) (by rw [e]; omega) (by omega)) (by omega) (by omega) (by omega) (by omega)
  have t1 := t.1
  unfold fdF sp_ap
  omega
theorem fd_div {a b : Nat} (ha : a < 12) (hb : b < 12) : nI (12 * a + b) / 12 = nI a := by
  rw [show (12 : Int32) = nI 12 from rfl, pk_div (by omega) (by decide) (by decide), show (12 * a + b) / 12 = a by omega]
theorem fd_rem {a b : Nat} (ha : a < 12) (hb : b < 12) : nI (12 * a + b) - nI (12 * a + b) / 12 * 12 = nI b := by
  rw [show (12 : Int32) = nI 12 from rfl, pk_rem (by omega) (by decide) (by decide), show (12 * a + b) % 12 = b by omega]
theorem fdU_self (f : Nat → Nat → Int32) : fdU f 0 1 (0, 1, f 0 1) = (0, 1, f 0 1) := by unfold fdU; split <;> rfl
theorem fdO_first (f : Nat → Nat → Int32) {H n : Nat} (e : H = n + 2) : fdO f H H 0 (0, 1, f 0 1) = fdO f H (n + 1) 1 (fdI f 0 n 2 (0, 1, f 0 1)) := by
  subst e
  show fdO f (n + 2) (n + 1) 1 (fdI f 0 n 2 (fdU f 0 1 (0, 1, f 0 1))) = _
  rw [fdU_self]
theorem i_012 {x : Int32} (h0 : 0 ≤ x) (h2 : x ≤ 2) (n0 : ¬ x = 0) (n1 : ¬ x = 1) : x = 2 := by
  have z0 : (0 : Int32).toInt = 0 := rfl
  have z1 : (1 : Int32).toInt = 1 := rfl
  have z2 : (2 : Int32).toInt = 2 := rfl
  have a0 : ¬ x.toInt = 0 := fun q => n0 (i_inj (q.trans z0.symm))
  have a1 : ¬ x.toInt = 1 := fun q => n1 (i_inj (q.trans z1.symm))
  rw [i_le] at h0 h2
  exact i_inj (by omega)
theorem q10_feud {x1 x2 : Int32} (a : tc h z DD N C) (hq : ∀ h', ax_same md_F h h' → Ret (some (.int (qv (z 0) DD x1 (-1) (s_feud x2)))) h') : mX10_feud g [.ref 77, .int x1, .int x2] h Ret := by
  have z2 := a.2.2.2.2.1 0 (by decide)
  obtain ⟨a1, T1, hs1⟩ := q_code (v := 0) a.2.1 a.2.2.2.1
  have bad : ∀ h', ax_same md_F h h' → ¬ (0 ≤ x2 ∧ x2 ≤ 2) → Ret (some (.int (-1))) h' := fun h' hs n => by
    have hv := hq h' hs
    have e : qv (z 0) DD x1 (-1) (s_feud x2) = -1 := by
      unfold qv
      split
      · unfold s_feud
        split
        · rfl
        · rename_i c
          split
          · rename_i d
            exact absurd ⟨Int32.not_lt.mp c, d⟩ n
          · rfl
      · rfl
    rw [e] at hv
    exact hv
  refine uX10_feud (fun A hA => vX10_feud_0 hA ⟨a.2.1.1, ?_⟩)
  intro h1
  refine c_min ⟨_, rfl, fun q0 => bad _ hs1 (of_decide_eq_false (b2i_0.mp q0)), fun q0 => ⟨a1.1, q_hand a1 T1 a.2.2.2.2 (fun q => ⟨_, rfl, fun q => absurd rfl q, fun _ => ?_⟩) (fun k hk ex ok h' hs hm => ⟨_, rfl, fun _ => ?_, fun q => absurd q (by decide)⟩)⟩⟩
  · have := hq _ hs1; rwa [qv_no q] at this
  obtain ⟨p0, p2⟩ := of_decide_eq_true (b2i_n0.mp q0)
  have hv := hq h' (sm_tr hs1 hs)
  rw [qv_yes z2 hk ex] at hv
  unfold s_feud at hv
  rw [if_neg (Int32.not_lt.mpr p0), if_pos p2] at hv
  have mb := hm.1.1
  have s0 := mb.1.1
  have H12 := ok.1.2
  have H2 := ok.1.1
  have e26 := mb.2.2.2.2.1
  have inn : ∀ n i : Nat, i < dH (DD k) → (∀ (s : Nat × Nat × Int32) (o6 : Option Value), s.1 < 12 → s.2.1 < 12 → Ret (some (.int (fdA x2 (fdO (fdF (DD k)) (dH (DD k)) n (i + 1) s)))) h' → A (32, [some (.ref 77), some (.int x1), some (.int x2), some (.int (nI (12 * s.1 + s.2.1))), some (.int s.2.2), some (.int (nI (i + 1))), o6], [], h', 0, 0)) → ∀ m j : Nat, j + m = dH (DD k) → ∀ (s : Nat × Nat × Int32), s.1 < 12 → s.2.1 < 12 → Ret (some (.int (fdA x2 (fdO (fdF (DD k)) (dH (DD k)) n (i + 1) (fdI (fdF (DD k)) i m j s))))) h' → A (47, [some (.ref 77), some (.int x1), some (.int x2), some (.int (nI (12 * s.1 + s.2.1))), some (.int s.2.2), some (.int (nI i)), some (.int (nI j))], [], h', 0, 0) := by
    intro n i hi nx m
    induction m with
    | zero =>
      intro j hj s l1 l2 r
      refine vX10_feud_47 hA ⟨s0, fun _ => ?_, fun q => ?_⟩
      · rw [← nI_succ]; exact nx s _ l1 l2 r
      · rw [e26] at q; exact absurd (nI_le (by omega) (by omega)) q
    | succ m ihm =>
      intro j hj s l1 l2 r
      have r1 : Ret (some (.int (fdA x2 (fdO (fdF (DD k)) (dH (DD k)) n (i + 1) (fdI (fdF (DD k)) i m (j + 1) (fdU (fdF (DD k)) i j s)))))) h' := r
      refine vX10_feud_47 hA ⟨s0, fun q => ?_, fun _ => ⟨s0, c_mapart hm.1 hi (by omega) ⟨_, rfl, fun c => ⟨s0, c_mapart hm.1 hi (by omega) ⟨_, rfl, eX10_greater ⟨fun d => ⟨_, rfl, ?_⟩, fun d => ⟨_, rfl, ?_⟩⟩⟩⟩, fun c => ⟨s0, c_mapart hm.1 hi (by omega) ⟨_, rfl, eX10_greater ⟨fun d => ⟨_, rfl, ?_⟩, fun d => ⟨_, rfl, ?_⟩⟩⟩⟩⟩⟩⟩
      · rw [e26] at q; exact absurd q (nI_ge (by omega) (by omega))
      · rw [show fdU (fdF (DD k)) i j s = s from if_pos c] at r1
        rw [← nI_succ, Int32.le_antisymm c d]
        exact ihm (j + 1) (by omega) s l1 l2 r1
      · rw [show fdU (fdF (DD k)) i j s = s from if_pos c] at r1
        rw [← nI_succ]
        exact ihm (j + 1) (by omega) s l1 l2 r1
      · rw [show fdU (fdF (DD k)) i j s = (i, j, fdF (DD k) i j) from if_neg c] at r1
        rw [← nI_succ, ni_21]
        exact ihm (j + 1) (by omega) (i, j, fdF (DD k) i j) (show i < 12 by omega) (show j < 12 by omega) r1
      · exact absurd (Int32.le_of_lt (Int32.not_le.mp c)) d
  have key : ∀ n i : Nat, i + n = dH (DD k) → ∀ (s : Nat × Nat × Int32) (o6 : Option Value), s.1 < 12 → s.2.1 < 12 → Ret (some (.int (fdA x2 (fdO (fdF (DD k)) (dH (DD k)) n i s)))) h' → A (32, [some (.ref 77), some (.int x1), some (.int x2), some (.int (nI (12 * s.1 + s.2.1))), some (.int s.2.2), some (.int (nI i)), o6], [], h', 0, 0) := by
    intro n
    induction n with
    | zero =>
      intro i hi s o6 l1 l2 r
      have r1 : Ret (some (.int (fdA x2 s))) h' := r
      unfold fdA at r1
      refine vX10_feud_32 hA ⟨s0, fun _ => ⟨fun n0 => ⟨fun n1 => ?_, fun e1 => ⟨by decide, ?_⟩⟩, fun e0 => ⟨by decide, ?_⟩⟩, fun q => ?_⟩
      · rw [if_pos (i_012 p0 p2 n0 n1)] at r1; exact r1
      · rw [if_neg (by rw [e1]; decide), if_neg n0] at r1; rw [fd_rem l1 l2]; exact r1
      · rw [if_neg (by rw [e0]; decide), if_pos e0] at r1; rw [fd_div l1 l2]; exact r1
      · rw [e26] at q; exact absurd (nI_le (by omega) (by omega)) q
    | succ n ih =>
      intro i hi s o6 l1 l2 r
      refine vX10_feud_32 hA ⟨s0, fun q => ?_, fun _ => ?_⟩
      · rw [e26] at q; exact absurd q (nI_ge (by omega) (by omega))
      · rw [← nI_succ]
        exact inn n i (by omega) (fun s o6 l1 l2 r => ih (i + 1) (by omega) s o6 l1 l2 r) (dH (DD k) - (i + 1)) (i + 1) (by omega) s l1 l2 r
  obtain ⟨n, en⟩ : ∃ n, dH (DD k) = n + 2 := ⟨dH (DD k) - 2, by omega⟩
  rw [fdO_first _ en] at hv
  have nn := fdF_nn ok (i := 0) (j := 1) (by omega) (by omega)
  have ng : ¬ fdF (DD k) 0 1 ≤ -1 := fun q => by
    rw [i_le, show (-1 : Int32).toInt = -1 from rfl] at q
    omega
  refine vX10_feud_32 hA ⟨s0, fun q => ?_, fun _ => vX10_feud_47 hA ⟨s0, fun q => ?_, fun _ => ⟨s0, c_mapart (q := 0) (r := 1) hm.1 (by omega) (by omega) ⟨_, rfl, fun c => absurd c ng, fun c => ⟨s0, c_mapart (q := 0) (r := 1) hm.1 (by omega) (by omega) ⟨_, rfl, eX10_greater ⟨fun d => ⟨_, rfl, ?_⟩, fun d => absurd (Int32.le_of_lt (Int32.not_le.mp ng)) d⟩⟩⟩⟩⟩⟩⟩
  · rw [e26] at q; exact absurd q (nI_ge (a := 0) (by omega) (by omega))
  · rw [e26] at q; exact absurd q (nI_ge (a := 1) (by omega) (by omega))
  · exact inn (n + 1) 0 (by omega) (fun s o6 l1 l2 r => key (n + 1) 1 (by omega) s o6 l1 l2 r) n 2 (by omega) (0, 1, fdF (DD k) 0 1) (show 0 < 12 by decide) (show 1 < 12 by decide) hv
theorem g_feud (a : IV h S Im tp) (b : 103 ≤ h.1 ∧ h.1 ≤ B) (x1 x2 : Int32) : prI (mX9_feud g) (mX10_feud g) [.ref 0, .int x1, .int x2] [.ref 77, .int x1, .int x2] h (inv B) := pr_q _ a b (fun Ret k => q9_feud (iv_tc a) k) (fun h1 Ret a1 k => q10_feud (iv_tc a1) k)
end
