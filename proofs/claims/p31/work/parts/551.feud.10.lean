section
section
variable {g : ax_G} {Ret : Option Value → ax_H → Prop} {h : ax_H} {z : Nat → Nat} {DD : Nat → rD} {N : Nat → Nat → Nat} {C : Nat → Nat → Nat → Nat → Int32} {S : sT} {Im : Nat → Option sT} {tp : Nat → Nat} {B : Nat}
/-! FEUD: the same answer -/
def fdU (f : Nat → Nat → Int32) (i j : Nat) (s : Nat × Nat × Int32) : Nat × Nat × Int32 := if f i j ≤ s.2.2 then s else (i, j, f i j)
def fdI (f : Nat → Nat → Int32) (i : Nat) : Nat → Nat → Nat × Nat × Int32 → Nat × Nat × Int32
  | 0, _, s => s
  | m + 1, j, s => fdI f i m (j + 1) (fdU f i j s)
def fdO (f : Nat → Nat → Int32) (H : Nat) : Nat → Nat → Nat × Nat × Int32 → Nat × Nat × Int32
  | 0, _, s => s
  | n + 1, i, s => fdO f H n (i + 1) (fdI f i (H - (i + 1)) (i + 1) s)
def fdA (x2 : Int32) (s : Nat × Nat × Int32) : Int32 := if x2 = 2 then s.2.2 else if x2 = 0 then nI s.1 else nI s.2.1
def fdF (D : rD) (i j : Nat) : Int32 := sp_ap (dP D) (dH D) (sp_vl D) (nI i) (nI j)
def s_feud (x2 : Int32) (D : rD) : Int32 := if x2 < 0 then -1 else if x2 ≤ 2 then fdA x2 (fdO (fdF D) (dH D) (dH D) 0 (0, 1, fdF D 0 1)) else -1
theorem q9_feud {x1 x2 : Int32} (a : tc h z DD N C) (hq : ∀ h', ax_same cl_F h h' → Ret (some (.int (qv (z 0) DD x1 (-1) (s_feud x2)))) h') : mX9_feud g [.ref 0, .int x1, .int x2] h Ret := by
  have z2 := a.2.2.2.2.1 0 (by decide)
  refine uX9_feud (fun A hA => vX9_feud_0 hA ⟨a.1.1, q_begun a (fun q => Or.inr ⟨rfl, ?_⟩) (fun k hk ex ok h' hs xs hc => Or.inl ⟨_, rfl, fun q1 => ?_, fun q1 => ⟨fun q2 => ⟨xs.1, _, xs.2.1.2.2.2.1, hc.2.1.1.1, c_apart hc.2.1 ⟨_, rfl, ?_⟩⟩, fun q2 => ?_⟩⟩)⟩)
  · have := hq h sm_rf; rwa [qv_no q] at this
  · have hv := hq h' hs
    rw [qv_yes z2 hk ex] at hv
    unfold s_feud at hv
    rw [if_pos q1] at hv
    exact hv
  · have hv := hq h' hs
    rw [qv_yes z2 hk ex] at hv
    unfold s_feud at hv
    rw [if_neg q1, if_pos q2] at hv
    have H12 := ok.1.2
    have e5 := hc.1.2.2.1.1
    have key : ∀ n i : Nat, i + n = dH (DD k) → ∀ (s : Nat × Nat × Int32) (o8 o9 : Option Value), Ret (some (.int (fdA x2 (fdO (fdF (DD k)) (dH (DD k)) n i s)))) h' → A (41, [some (.ref 0), some (.int x1), some (.int x2), some (.ref (6 + 14 * k)), some (.int (nI s.1)), some (.int (nI s.2.1)), some (.int s.2.2), some (.int (nI i)), o8, o9], [], h', 0, 0) := by
      intro n
      induction n with
      | zero =>
        intro i hi s o8 o9 r
        have r1 : Ret (some (.int (fdA x2 s))) h' := r
        unfold fdA at r1
        refine vX9_feud_41 hA ⟨hc.1.1.1, fun _ => ⟨fun n2 => ⟨fun n0 => ?_, fun e0 => ?_⟩, fun e2 => ?_⟩, fun q => ?_⟩
        · rw [if_neg n2, if_neg n0] at r1; exact r1
        · rw [if_neg n2, if_pos e0] at r1; exact r1
        · rw [if_pos e2] at r1; exact r1
        · rw [e5] at q; exact absurd (nI_le (by omega) (by omega)) q
      | succ n ih =>
        intro i hi s o8 o9 r
        refine vX9_feud_41 hA ⟨hc.1.1.1, fun q => ?_, fun _ => ?_⟩
        · rw [e5] at q; exact absurd q (nI_ge (by omega) (by omega))
        · rw [← nI_succ]
          have inn : ∀ m j : Nat, j + m = dH (DD k) → ∀ (s : Nat × Nat × Int32) (o9 : Option Value), Ret (some (.int (fdA x2 (fdO (fdF (DD k)) (dH (DD k)) n (i + 1) (fdI (fdF (DD k)) i m j s))))) h' → A (56, [some (.ref 0), some (.int x1), some (.int x2), some (.ref (6 + 14 * k)), some (.int (nI s.1)), some (.int (nI s.2.1)), some (.int s.2.2), some (.int (nI i)), some (.int (nI j)), o9], [], h', 0, 0) := by
            intro m
            induction m with
            | zero =>
              intro j hj s o9 r
              refine vX9_feud_56 hA ⟨hc.1.1.1, fun _ => ?_, fun q => ?_⟩
              · rw [← nI_succ]; exact ih (i + 1) (by omega) s _ _ r
              · rw [e5] at q; exact absurd (nI_le (by omega) (by omega)) q
            | succ m ihm =>
              intro j hj s o9 r
              have r1 : Ret (some (.int (fdA x2 (fdO (fdF (DD k)) (dH (DD k)) n (i + 1) (fdI (fdF (DD k)) i m (j + 1) (fdU (fdF (DD k)) i j s)))))) h' := r
              refine vX9_feud_56 hA ⟨hc.1.1.1, fun q => ?_, fun _ => ⟨xs.1, _, xs.2.1.2.2.2.1, hc.2.1.1.1, c_apart hc.2.1 ⟨_, rfl, fun c => ?_, fun c => ?_⟩⟩⟩
              · rw [e5] at q; exact absurd q (nI_ge (by omega) (by omega))
              · rw [← nI_succ]
                rw [show fdU (fdF (DD k)) i j s = s from if_pos c] at r1
                exact ihm (j + 1) (by omega) s _ r1
              · rw [← nI_succ]
                rw [show fdU (fdF (DD k)) i j s = (i, j, fdF (DD k) i j) from if_neg c] at r1
                exact ihm (j + 1) (by omega) (i, j, fdF (DD k) i j) _ r1
          exact inn (dH (DD k) - (i + 1)) (i + 1) (by omega) s _ r
    exact key (dH (DD k)) 0 (by omega) (0, 1, fdF (DD k) 0 1) _ _ hv
  · have hv := hq h' hs
    rw [qv_yes z2 hk ex] at hv
    unfold s_feud at hv
    rw [if_neg q1, if_neg q2] at hv
    exact hv
theorem iabs_bd {x : Int32} {m : Int} (h1 : -m ≤ x.toInt) (h2 : x.toInt ≤ m) (hm : m < 2147483648) : 0 ≤ (iabs x).toInt ∧ (iabs x).toInt ≤ m := by
  unfold iabs
  have z0 : (0 : Int32).toInt = 0 := rfl
  split
  · rename_i c; rw [i_le, z0] at c; exact ⟨c, h2⟩
  · rename_i c; rw [i_le, z0] at c
    rw [i32_sub (by rw [z0]; omega) (by rw [z0]; omega), z0]
    omega
theorem fdF_nn {D : rD} (ok : rd_ok D) {i j : Nat} (hi : i < dH D) (hj : j < dH D) : 0 ≤ (fdF D i j).toInt := by
  have P6 := ok.2.1
  have H12 := ok.1.2
  have t := sumN_bd (f := fun p => iabs (sp_br (dP D) (dH D) (sp_vl D) (nI p) (nI i) - sp_br (dP D) (dH D) (sp_vl D) (nI p) (nI j))) (a := 0) (b := 2574) (n := dP D) (fun p hp => by
    show 0 ≤ (iabs (sp_br (dP D) (dH D) (sp_vl D) (nI p) (nI i) - sp_br (dP D) (dH D) (sp_vl D) (nI p) (nI j))).toInt ∧ (iabs (sp_br (dP D) (dH D) (sp_vl D) (nI p) (nI i) - sp_br (dP D) (dH D) (sp_vl D) (nI p) (nI j))).toInt ≤ 2574
    rw [sp_br_in hp hi (by omega) (by omega), sp_br_in hp hj (by omega) (by omega)]
    have b1 := vl_bd ok p i
    have b2 := vl_bd ok p j
    have e := i32_sub (x := sp_vl D p i) (y := sp_vl D p j) (by omega) (by omega)
    exact iabs_bd (by rw [e]; omega) (by rw [e]; omega) (by omega)) (by omega) (by omega) (by omega) (by omega)
  have t1 := t.1
  unfold fdF sp_ap
  omega
theorem fd_div {a b : Nat} (ha : a < 12) (hb : b < 12) : nI (12 * a + b) / 12 = nI a := by
  rw [show (12 : Int32) = nI 12 from rfl, pk_div (by omega) (by decide) (by decide), show (12 * a + b) / 12 = a by omega]
theorem fd_rem {a b : Nat} (ha : a < 12) (hb : b < 12) : nI (12 * a + b) - nI (12 * a + b) / 12 * 12 = nI b := by
  rw [show (12 : Int32) = nI 12 from rfl, pk_rem (by omega) (by decide) (by decide), show (12 * a + b) % 12 = b by omega]
theorem fdU_self (f : Nat → Nat → Int32) : fdU f 0 1 (0, 1, f 0 1) = (0, 1, f 0 1) := by unfold fdU; split <;> rfl
theorem fdO_first (f : Nat → Nat → Int32) {H n : Nat} (e : H = n + 2) : fdO f H H 0 (0, 1, f 0 1) = fdO f H (n + 1) 1 (fdI f 0 n 2 (0, 1, f 0 1)) := by
  subst e
  show fdO f (n + 2) (n + 1) 1 (fdI f 0 n 2 (fdU f 0 1 (0, 1, f 0 1))) = _
  rw [fdU_self]
theorem i_012 {x : Int32} (h0 : 0 ≤ x) (h2 : x ≤ 2) (n0 : ¬ x = 0) (n1 : ¬ x = 1) : x = 2 := by
  have z0 : (0 : Int32).toInt = 0 := rfl
  have z1 : (1 : Int32).toInt = 1 := rfl
  have z2 : (2 : Int32).toInt = 2 := rfl
  have a0 : ¬ x.toInt = 0 := fun q => n0 (i_inj (q.trans z0.symm))
  have a1 : ¬ x.toInt = 1 := fun q => n1 (i_inj (q.trans z1.symm))
  rw [i_le] at h0 h2
  exact i_inj (by omega)
theorem q10_feud {x1 x2 : Int32} (a : tc h z DD N C) (hq : ∀ h', ax_same md_F h h' → Ret (some (.int (qv (z 0) DD x1 (-1) (s_feud x2)))) h') : mX10_feud g [.ref 77, .int x1, .int x2] h Ret := by
  have z2 := a.2.2.2.2.1 0 (by decide)
  obtain ⟨a1, T1, hs1⟩ := q_code (v := 0) a.2.1 a.2.2.2.1
  have bad : ∀ h', ax_same md_F h h' → ¬ (0 ≤ x2 ∧ x2 ≤ 2) → Ret (some (.int (-1))) h' := fun h' hs n => by
    have hv := hq h' hs
    have e : qv (z 0) DD x1 (-1) (s_feud x2) = -1 := by
      unfold qv
      split
      · unfold s_feud
        split
        · rfl
        · rename_i c
          split
          · rename_i d
            exact absurd ⟨Int32.not_lt.mp c, d⟩ n
          · rfl
      · rfl
    rw [e] at hv
    exact hv
  refine uX10_feud (fun A hA => vX10_feud_0 hA ⟨a.2.1.1, ?_⟩)
  intro h1
  refine c_min ⟨_, rfl, fun q0 => bad _ hs1 (of_decide_eq_false (b2i_0.mp q0)), fun q0 => ⟨a1.1, q_hand a1 T1 a.2.2.2.2 (fun q => ⟨_, rfl, fun q => absurd rfl q, fun _ => ?_⟩) (fun k hk ex ok h' hs hm => ⟨_, rfl, fun _ => ?_, fun q => absurd q (by decide)⟩)⟩⟩
  · have := hq _ hs1; rwa [qv_no q] at this
  obtain ⟨p0, p2⟩ := of_decide_eq_true (b2i_n0.mp q0)
  have hv := hq h' (sm_tr hs1 hs)
  rw [qv_yes z2 hk ex] at hv
  unfold s_feud at hv
  rw [if_neg (Int32.not_lt.mpr p0), if_pos p2] at hv
  have mb := hm.1.1
  have s0 := mb.1.1
  have H12 := ok.1.2
  have H2 := ok.1.1
  have e26 := mb.2.2.2.2.1
  have inn : ∀ n i : Nat, i < dH (DD k) → (∀ (s : Nat × Nat × Int32) (o6 : Option Value), s.1 < 12 → s.2.1 < 12 → Ret (some (.int (fdA x2 (fdO (fdF (DD k)) (dH (DD k)) n (i + 1) s)))) h' → A (32, [some (.ref 77), some (.int x1), some (.int x2), some (.int (nI (12 * s.1 + s.2.1))), some (.int s.2.2), some (.int (nI (i + 1))), o6], [], h', 0, 0)) → ∀ m j : Nat, j + m = dH (DD k) → ∀ (s : Nat × Nat × Int32), s.1 < 12 → s.2.1 < 12 → Ret (some (.int (fdA x2 (fdO (fdF (DD k)) (dH (DD k)) n (i + 1) (fdI (fdF (DD k)) i m j s))))) h' → A (47, [some (.ref 77), some (.int x1), some (.int x2), some (.int (nI (12 * s.1 + s.2.1))), some (.int s.2.2), some (.int (nI i)), some (.int (nI j))], [], h', 0, 0) := by
    intro n i hi nx m
    induction m with
    | zero =>
      intro j hj s l1 l2 r
      refine vX10_feud_47 hA ⟨s0, fun _ => ?_, fun q => ?_⟩
      · rw [← nI_succ]; exact nx s _ l1 l2 r
      · rw [e26] at q; exact absurd (nI_le (by omega) (by omega)) q
    | succ m ihm =>
      intro j hj s l1 l2 r
      have r1 : Ret (some (.int (fdA x2 (fdO (fdF (DD k)) (dH (DD k)) n (i + 1) (fdI (fdF (DD k)) i m (j + 1) (fdU (fdF (DD k)) i j s)))))) h' := r
      refine vX10_feud_47 hA ⟨s0, fun q => ?_, fun _ => ⟨s0, c_mapart hm.1 hi (by omega) ⟨_, rfl, fun c => ⟨s0, c_mapart hm.1 hi (by omega) ⟨_, rfl, eX10_greater ⟨fun d => ⟨_, rfl, ?_⟩, fun d => ⟨_, rfl, ?_⟩⟩⟩⟩, fun c => ⟨s0, c_mapart hm.1 hi (by omega) ⟨_, rfl, eX10_greater ⟨fun d => ⟨_, rfl, ?_⟩, fun d => ⟨_, rfl, ?_⟩⟩⟩⟩⟩⟩⟩
      · rw [e26] at q; exact absurd q (nI_ge (by omega) (by omega))
      · rw [show fdU (fdF (DD k)) i j s = s from if_pos c] at r1
        rw [← nI_succ, Int32.le_antisymm c d]
        exact ihm (j + 1) (by omega) s l1 l2 r1
      · rw [show fdU (fdF (DD k)) i j s = s from if_pos c] at r1
        rw [← nI_succ]
        exact ihm (j + 1) (by omega) s l1 l2 r1
      · rw [show fdU (fdF (DD k)) i j s = (i, j, fdF (DD k) i j) from if_neg c] at r1
        rw [← nI_succ, ni_21]
        exact ihm (j + 1) (by omega) (i, j, fdF (DD k) i j) (show i < 12 by omega) (show j < 12 by omega) r1
      · exact absurd (Int32.le_of_lt (Int32.not_le.mp c)) d
  have key : ∀ n i : Nat, i + n = dH (DD k) → ∀ (s : Nat × Nat × Int32) (o6 : Option Value), s.1 < 12 → s.2.1 < 12 → Ret (some (.int (fdA x2 (fdO (fdF (DD k)) (dH (DD k)) n i s)))) h' → A (32, [some (.ref 77), some (.int x1), some (.int x2), some (.int (nI (12 * s.1 + s.2.1))), some (.int s.2.2), some (.int (nI i)), o6], [], h', 0, 0) := by
    intro n
    induction n with
    | zero =>
      intro i hi s o6 l1 l2 r
      have r1 : Ret (some (.int (fdA x2 s))) h' := r
      unfold fdA at r1
      refine vX10_feud_32 hA ⟨s0, fun _ => ⟨fun n0 => ⟨fun n1 => ?_, fun e1 => ⟨by decide, ?_⟩⟩, fun e0 => ⟨by decide, ?_⟩⟩, fun q => ?_⟩
      · rw [if_pos (i_012 p0 p2 n0 n1)] at r1; exact r1
      · rw [if_neg (by rw [e1]; decide), if_neg n0] at r1; rw [fd_rem l1 l2]; exact r1
      · rw [if_neg (by rw [e0]; decide), if_pos e0] at r1; rw [fd_div l1 l2]; exact r1
      · rw [e26] at q; exact absurd (nI_le (by omega) (by omega)) q
    | succ n ih =>
      intro i hi s o6 l1 l2 r
      refine vX10_feud_32 hA ⟨s0, fun q => ?_, fun _ => ?_⟩
      · rw [e26] at q; exact absurd q (nI_ge (by omega) (by omega))
      · rw [← nI_succ]
        exact inn n i (by omega) (fun s o6 l1 l2 r => ih (i + 1) (by omega) s o6 l1 l2 r) (dH (DD k) - (i + 1)) (i + 1) (by omega) s l1 l2 r
  obtain ⟨n, en⟩ : ∃ n, dH (DD k) = n + 2 := ⟨dH (DD k) - 2, by omega⟩
  rw [fdO_first _ en] at hv
  have nn := fdF_nn ok (i := 0) (j := 1) (by omega) (by omega)
  have ng : ¬ fdF (DD k) 0 1 ≤ -1 := fun q => by
    rw [i_le, show (-1 : Int32).toInt = -1 from rfl] at q
    omega
  refine vX10_feud_32 hA ⟨s0, fun q => ?_, fun _ => vX10_feud_47 hA ⟨s0, fun q => ?_, fun _ => ⟨s0, c_mapart (q := 0) (r := 1) hm.1 (by omega) (by omega) ⟨_, rfl, fun c => absurd c ng, fun c => ⟨s0, c_mapart (q := 0) (r := 1) hm.1 (by omega) (by omega) ⟨_, rfl, eX10_greater ⟨fun d => ⟨_, rfl, ?_⟩, fun d => absurd (Int32.le_of_lt (Int32.not_le.mp ng)) d⟩⟩⟩⟩⟩⟩⟩
  · rw [e26] at q; exact absurd q (nI_ge (a := 0) (by omega) (by omega))
  · rw [e26] at q; exact absurd q (nI_ge (a := 1) (by omega) (by omega))
  · exact inn (n + 1) 0 (by omega) (fun s o6 l1 l2 r => key (n + 1) 1 (by omega) s o6 l1 l2 r) n 2 (by omega) (0, 1, fdF (DD k) 0 1) (show 0 < 12 by decide) (show 1 < 12 by decide) hv
theorem g_feud (a : IV h S Im tp) (b : 103 ≤ h.1 ∧ h.1 ≤ B) (x1 x2 : Int32) : prI (mX9_feud g) (mX10_feud g) [.ref 0, .int x1, .int x2] [.ref 77, .int x1, .int x2] h (inv B) := pr_q _ a b (fun Ret k => q9_feud (iv_tc a) k) (fun h1 Ret a1 k => q10_feud (iv_tc a1) k)
end
end

section
section
variable {g : ax_G} {Ret : Option Value → ax_H → Prop} {h : ax_H} {z : Nat → Nat} {DD : Nat → rD} {N : Nat → Nat → Nat} {C : Nat → Nat → Nat → Nat → Int32} {S : sT} {Im : Nat → Option sT} {tp : Nat → Nat} {B : Nat}
/-! sums told as integers -/
def sumI (f : Nat → Int) : Nat → Int
  | 0 => 0
  | n + 1 => sumI f n + f n
theorem sumI_le {f k : Nat → Int} : ∀ {n : Nat}, (∀ i, i < n → f i ≤ k i) → sumI f n ≤ sumI k n
  | 0, _ => Int.le_refl _
  | n + 1, h => Int.add_le_add (sumI_le (n := n) (fun i hi => h i (by omega))) (h n (by omega))
theorem sumI_mul {f : Nat → Int} {c : Int} : ∀ n, sumI (fun i => c * f i) n = c * sumI f n
  | 0 => (Int.mul_zero c).symm
  | n + 1 => by
    show sumI (fun i => c * f i) n + c * f n = c * (sumI f n + f n)
    rw [sumI_mul n, Int.mul_add]
theorem sumI_congr {f k : Nat → Int} : ∀ {n : Nat}, (∀ i, i < n → f i = k i) → sumI f n = sumI k n
  | 0, _ => rfl
  | n + 1, h => by
    show sumI f n + f n = sumI k n + k n
    rw [sumI_congr (n := n) (fun i hi => h i (by omega)), h n (by omega)]
theorem sumL_int {f : Nat → Int64} {b : Int} (hb : 0 ≤ b) : ∀ {n : Nat}, (∀ i, i < n → -b ≤ (f i).toInt ∧ (f i).toInt ≤ b) → b * n < 9223372036854775807 → (sumL f n).toInt = sumI (fun i => (f i).toInt) n ∧ -(b * n) ≤ (sumL f n).toInt ∧ (sumL f n).toInt ≤ b * n
  | 0, _, _ => by
    have : (sumL f 0).toInt = 0 := rfl
    refine ⟨rfl, ?_, ?_⟩
    · rw [this]; simp
    · rw [this]; simp
  | n + 1, h, hn => by
    have e1 : b * ((n + 1 : Nat) : Int) = b * (n : Int) + b := by
      rw [show ((n + 1 : Nat) : Int) = (n : Int) + 1 from rfl, Int.mul_add, Int.mul_one]
    rw [e1] at hn ⊢
    have ih := sumL_int hb (n := n) (fun i hi => h i (by omega)) (by omega)
    have hl := h n (by omega)
    have e : (sumL f (n + 1)).toInt = (sumL f n).toInt + (f n).toInt := i64_add (by omega) (by omega)
    refine ⟨?_, by omega, by omega⟩
    rw [e, ih.1]
    rfl
theorem sumN_int {f : Nat → Int32} {b : Int} (hb : 0 ≤ b) : ∀ {n : Nat}, (∀ i, i < n → -b ≤ (f i).toInt ∧ (f i).toInt ≤ b) → b * n < 2147483647 → (sumN f n).toInt = sumI (fun i => (f i).toInt) n ∧ -(b * n) ≤ (sumN f n).toInt ∧ (sumN f n).toInt ≤ b * n
  | 0, _, _ => by
    have : (sumN f 0).toInt = 0 := rfl
    refine ⟨rfl, ?_, ?_⟩
    · rw [this]; simp
    · rw [this]; simp
  | n + 1, h, hn => by
    have e1 : b * ((n + 1 : Nat) : Int) = b * (n : Int) + b := by
      rw [show ((n + 1 : Nat) : Int) = (n : Int) + 1 from rfl, Int.mul_add, Int.mul_one]
    rw [e1] at hn ⊢
    have ih := sumN_int hb (n := n) (fun i hi => h i (by omega)) (by omega)
    have hl := h n (by omega)
    have e : (sumN f (n + 1)).toInt = (sumN f n).toInt + (f n).toInt := i32_add (by omega) (by omega)
    refine ⟨?_, by omega, by omega⟩
    rw [e, ih.1]
    rfl
/-- all weights, as a sum -/
theorem t_sum {D : rD} (ok : rd_ok D) (x : Int32) : (sp_t D x).toInt = sumI (fun q => (sp_w D x q).toInt) (dH D) := by
  have H12 := ok.1.2
  by_cases c : sp_ws D x = 0
  · have e : ∀ n, sumI (fun q => (sp_w D x q).toInt) n = n := by
      intro n
      induction n with
      | zero => rfl
      | succ n ih =>
        show sumI (fun q => (sp_w D x q).toInt) n + (sp_w D x n).toInt = _
        rw [ih, show sp_w D x n = 1 from if_pos c]
        rfl
    rw [e, show sp_t D x = nI (dH D) from if_pos c, nI_toInt (by omega)]
  · rw [show sp_t D x = sp_ws D x from if_neg c]
    have t := sumN_int (f := fun q => sp_lo D x (nI q)) (b := 9) (n := dH D) (by decide) (fun i _ => by have := sp_lo_bd ok x (nI i); omega) (by omega)
    unfold sp_ws
    rw [t.1]
    exact sumI_congr (fun q _ => by show _ = (sp_w D x q).toInt; rw [show sp_w D x q = sp_lo D x (nI q) from if_neg c])
theorem bst_max (f : Nat → Int32) : ∀ n q, q ≤ n → (f q).toInt ≤ (f (bst f n)).toInt
  | 0, q, h => by
    rw [show q = 0 by omega]
    exact Int.le_refl _
  | n + 1, q, h => by
    unfold bst
    by_cases c : f (bst f n) < f (n + 1)
    · rw [if_pos c]
      rw [i_lt] at c
      rcases Nat.lt_or_ge n q with d | d
      · rw [show q = n + 1 by omega]; exact Int.le_refl _
      · have := bst_max f n q d; omega
    · rw [if_neg c]
      rw [i_lt] at c
      rcases Nat.lt_or_ge n q with d | d
      · rw [show q = n + 1 by omega]; omega
      · exact bst_max f n q d
/-- one's wish never brings less than the mean -/
theorem gn_nn {D : rD} (ok : rd_ok D) {p : Nat} (hp : p < dP D) : 0 ≤ (s_gn D (nI p) (sp_bh (dP D) (dH D) (sp_vl D) (nI p))).toInt := by
  have H12 := ok.1.2
  have H2 := ok.1.1
  have P6 := ok.2.1
  have bx : bst (fun q => sp_br (dP D) (dH D) (sp_vl D) (nI p) (nI q)) (dH D - 1) < dH D := by have := bst_le (fun q => sp_br (dP D) (dH D) (sp_vl D) (nI p) (nI q)) (dH D - 1); omega
  have mx := bst_max (fun q => sp_br (dP D) (dH D) (sp_vl D) (nI p) (nI q)) (dH D - 1)
  have vb : ∀ q, q < dH D → -1287 ≤ (sp_br (dP D) (dH D) (sp_vl D) (nI p) (nI q)).toInt ∧ (sp_br (dP D) (dH D) (sp_vl D) (nI p) (nI q)).toInt ≤ 1287 := fun q hq => by
    rw [sp_br_in hp hq (by omega) (by omega)]; exact vl_bd ok p q
  have bb := vb _ bx
  have tb := sp_t_bd ok (rul D)
  have wb := sp_w_bd ok (rul D)
  unfold s_gn sp_ga sp_we
  rw [show sp_bh (dP D) (dH D) (sp_vl D) (nI p) = nI (bst (fun q => sp_br (dP D) (dH D) (sp_vl D) (nI p) (nI q)) (dH D - 1)) from rfl]
  generalize bst (fun q => sp_br (dP D) (dH D) (sp_vl D) (nI p) (nI q)) (dH D - 1) = β at bx mx bb ⊢
  have pr : ∀ q, q < dH D → ((sp_w D (rul D) q).toInt64 * (sp_br (dP D) (dH D) (sp_vl D) (nI p) (nI q)).toInt64).toInt = (sp_w D (rul D) q).toInt * (sp_br (dP D) (dH D) (sp_vl D) (nI p) (nI q)).toInt ∧ -11583 ≤ (sp_w D (rul D) q).toInt * (sp_br (dP D) (dH D) (sp_vl D) (nI p) (nI q)).toInt ∧ (sp_w D (rul D) q).toInt * (sp_br (dP D) (dH D) (sp_vl D) (nI p) (nI q)).toInt ≤ 11583 ∧ (sp_w D (rul D) q).toInt * (sp_br (dP D) (dH D) (sp_vl D) (nI p) (nI q)).toInt ≤ (sp_br (dP D) (dH D) (sp_vl D) (nI p) (nI β)).toInt * (sp_w D (rul D) q).toInt := fun q hq => by
    have w1 := wb q
    have v1 := vb q hq
    have m1 := mx q (by omega)
    generalize sp_w D (rul D) q = w at w1 ⊢
    have m1 : (sp_br (dP D) (dH D) (sp_vl D) (nI p) (nI q)).toInt ≤ (sp_br (dP D) (dH D) (sp_vl D) (nI p) (nI β)).toInt := m1
    generalize sp_br (dP D) (dH D) (sp_vl D) (nI p) (nI q) = v at v1 m1 ⊢
    have u1 : w.toInt * v.toInt ≤ w.toInt * 1287 := Int.mul_le_mul_of_nonneg_left v1.2 w1.1
    have u2 : w.toInt * (-1287) ≤ w.toInt * v.toInt := Int.mul_le_mul_of_nonneg_left v1.1 w1.1
    have u3 : w.toInt * v.toInt ≤ w.toInt * (sp_br (dP D) (dH D) (sp_vl D) (nI p) (nI β)).toInt := Int.mul_le_mul_of_nonneg_left m1 w1.1
    rw [Int.mul_comm w.toInt (sp_br (dP D) (dH D) (sp_vl D) (nI p) (nI β)).toInt] at u3
    refine ⟨?_, by omega, by omega, u3⟩
    rw [i64_mul (by rw [i_64, i_64]; omega) (by rw [i_64, i_64]; omega), i_64, i_64]
  have sl := sumL_int (f := fun q => (sp_w D (rul D) q).toInt64 * (sp_br (dP D) (dH D) (sp_vl D) (nI p) (nI q)).toInt64) (b := 11583) (n := dH D) (by decide) (fun q hq => by
    have := pr q hq
    show -11583 ≤ ((sp_w D (rul D) q).toInt64 * (sp_br (dP D) (dH D) (sp_vl D) (nI p) (nI q)).toInt64).toInt ∧ _
    rw [this.1]; omega) (by omega)
  have le : sumI (fun q => ((sp_w D (rul D) q).toInt64 * (sp_br (dP D) (dH D) (sp_vl D) (nI p) (nI q)).toInt64).toInt) (dH D) ≤ (sp_br (dP D) (dH D) (sp_vl D) (nI p) (nI β)).toInt * (sp_t D (rul D)).toInt := by
    rw [t_sum ok, ← sumI_mul]
    exact sumI_le (fun q hq => by
      have := pr q hq
      show ((sp_w D (rul D) q).toInt64 * (sp_br (dP D) (dH D) (sp_vl D) (nI p) (nI q)).toInt64).toInt ≤ _
      rw [this.1]; exact this.2.2.2)
  generalize sumL (fun q => (sp_w D (rul D) q).toInt64 * (sp_br (dP D) (dH D) (sp_vl D) (nI p) (nI q)).toInt64) (dH D) = s at sl ⊢
  rw [← sl.1] at le
  generalize sp_br (dP D) (dH D) (sp_vl D) (nI p) (nI β) = v at bb le ⊢
  generalize sp_t D (rul D) = t at tb le ⊢
  have u1 : t.toInt * v.toInt ≤ t.toInt * 1287 := Int.mul_le_mul_of_nonneg_left bb.2 (by omega)
  have u2 : t.toInt * (-1287) ≤ t.toInt * v.toInt := Int.mul_le_mul_of_nonneg_left bb.1 (by omega)
  rw [Int.mul_comm t.toInt v.toInt] at u1 u2
  have e3 : (v.toInt64 * t.toInt64).toInt = v.toInt * t.toInt := by
    rw [i64_mul (by rw [i_64, i_64]; omega) (by rw [i_64, i_64]; omega), i_64, i_64]
  rw [i64_sub (by rw [e3]; omega) (by rw [e3]; omega), e3]
  omega
/-! BUYER: the same answer -/
theorem cmp_le0 {x y : Int64} : lg_cmp x y ≤ 0 ↔ x.toInt ≤ y.toInt := by
  unfold lg_cmp
  by_cases c : x > y
  · rw [if_pos c]
    have c : y.toInt < x.toInt := l_lt.mp c
    exact ⟨fun q => absurd q (by decide), fun _ => by omega⟩
  · rw [if_neg c]
    have c : ¬ y.toInt < x.toInt := fun q => c (l_lt.mpr q)
    by_cases d : x = y
    · rw [if_pos d, d]
      exact ⟨fun _ => Int.le_refl _, fun _ => by decide⟩
    · rw [if_neg d]
      exact ⟨fun _ => by omega, fun _ => by decide⟩
def byG (D : rD) (p : Nat) : Int64 := s_gn D (nI p) (sp_bh (dP D) (dH D) (sp_vl D) (nI p))
def byS (G : Nat → Int64) : Nat → Nat × Int64
  | 0 => (0, 0)
  | n + 1 => if lg_cmp (G (n + 1)) (G (byS G n).1) ≤ 0 then ((byS G n).1, if G (n + 1) < (byS G n).2 then (byS G n).2 else G (n + 1)) else (n + 1, G (byS G n).1)
def rpS (G : Nat → Int64) (c : Nat) : Nat → Int64
  | 0 => 0
  | i + 1 => if i = c then rpS G c i else if lg_cmp (G i) (rpS G c i) ≤ 0 then rpS G c i else G i
theorem rp_up {G : Nat → Int64} {c : Nat} {M : Int} (h0 : 0 ≤ M) : ∀ k, (∀ q, q < k → (G q).toInt ≤ M) → (rpS G c k).toInt ≤ M
  | 0, _ => h0
  | k + 1, h => by
    unfold rpS
    have ih := rp_up (c := c) h0 k (fun q hq => h q (by omega))
    split
    · exact ih
    · split
      · exact ih
      · exact h k (by omega)
theorem rp_lo {G : Nat → Int64} {c : Nat} : ∀ k q, q < k → q ≠ c → (G q).toInt ≤ (rpS G c k).toInt
  | 0, q, h, _ => by omega
  | k + 1, q, h, n => by
    unfold rpS
    split
    · rename_i e
      exact rp_lo k q (by omega) n
    · rename_i e
      split
      · rename_i d
        rw [cmp_le0] at d
        rcases Nat.lt_or_ge q k with f | f
        · exact rp_lo k q f n
        · rw [show q = k by omega]; exact d
      · rename_i d
        rw [cmp_le0] at d
        rcases Nat.lt_or_ge q k with f | f
        · have := rp_lo (G := G) k q f n; omega
        · rw [show q = k by omega]; exact Int.le_refl _
theorem by_inv {G : Nat → Int64} : ∀ n, (∀ q, q ≤ n → 0 ≤ (G q).toInt) → (byS G n).1 ≤ n ∧ (∀ q, q ≤ n → (G q).toInt ≤ (G (byS G n).1).toInt) ∧ (byS G n).2 = rpS G (byS G n).1 (n + 1)
  | 0, _ => ⟨Nat.le_refl _, fun q hq => by rw [show q = 0 by omega]; exact Int.le_refl _, rfl⟩
  | n + 1, h => by
    obtain ⟨i1, i2, i3⟩ := by_inv (G := G) n (fun q hq => h q (by omega))
    by_cases c : lg_cmp (G (n + 1)) (G (byS G n).1) ≤ 0
    · have e : byS G (n + 1) = ((byS G n).1, if G (n + 1) < (byS G n).2 then (byS G n).2 else G (n + 1)) := if_pos c
      rw [e]
      rw [cmp_le0] at c
      refine ⟨show (byS G n).1 ≤ n + 1 by omega, fun q hq => ?_, ?_⟩
      · show (G q).toInt ≤ (G (byS G n).1).toInt
        rcases Nat.lt_or_ge n q with d | d
        · rw [show q = n + 1 by omega]; exact c
        · exact i2 q d
      · show (if G (n + 1) < (byS G n).2 then (byS G n).2 else G (n + 1)) = (if n + 1 = (byS G n).1 then rpS G (byS G n).1 (n + 1) else if lg_cmp (G (n + 1)) (rpS G (byS G n).1 (n + 1)) ≤ 0 then rpS G (byS G n).1 (n + 1) else G (n + 1))
        rw [if_neg (show ¬ n + 1 = (byS G n).1 by omega), ← i3]
        by_cases d : G (n + 1) < (byS G n).2
        · rw [if_pos d]
          rw [l_lt] at d
          rw [if_pos (cmp_le0.mpr (by omega))]
        · rw [if_neg d]
          rw [l_lt] at d
          by_cases f : lg_cmp (G (n + 1)) (byS G n).2 ≤ 0
          · rw [if_pos f]
            rw [cmp_le0] at f
            exact Int64.toInt_inj.mp (by omega)
          · rw [if_neg f]
    · have e : byS G (n + 1) = (n + 1, G (byS G n).1) := if_neg c
      rw [e]
      rw [cmp_le0] at c
      refine ⟨Nat.le_refl _, fun q hq => ?_, ?_⟩
      · show (G q).toInt ≤ (G (n + 1)).toInt
        rcases Nat.lt_or_ge n q with d | d
        · rw [show q = n + 1 by omega]; exact Int.le_refl _
        · have := i2 q d; omega
      · show G (byS G n).1 = (if n + 1 = n + 1 then rpS G (n + 1) (n + 1) else _)
        rw [if_pos rfl]
        have a1 := rp_lo (G := G) (c := n + 1) (n + 1) (byS G n).1 (by omega) (by omega)
        have a2 := rp_up (G := G) (c := n + 1) (h _ (show (byS G n).1 ≤ n + 1 by omega)) (n + 1) (fun q hq => i2 q (by omega))
        exact Int64.toInt_inj.mp (by omega)
def byA (x2 : Int32) (D : rD) (s : Nat × Int64) : Int32 := if x2 = 0 then nI s.1 else (sp_sd s.2 (sp_t D (rul D)).toInt64 (if x2 = 2 then 1 else 0)).toInt32
def s_buyer (x2 : Int32) (D : rD) : Int32 := if dP D = 0 then -1000000 else if x2 < 0 then -1000000 else if x2 ≤ 2 then byA x2 D (byS (byG D) (dP D - 1)) else -1000000
theorem byG_bd {D : rD} (ok : rd_ok D) (p : Nat) : gB (byG D p) := gn_bd ok _ _
theorem byS_bd {D : rD} (ok : rd_ok D) : ∀ n, gB (byS (byG D) n).2
  | 0 => by show gB 0; unfold gB; decide
  | n + 1 => by
    have ih := byS_bd ok n
    unfold byS
    split
    · show gB (if byG D (n + 1) < (byS (byG D) n).2 then (byS (byG D) n).2 else byG D (n + 1))
      split
      · exact ih
      · exact byG_bd ok _
    · exact byG_bd ok _
theorem nI_z {n : Nat} (hn : n < 2 ^ 31) : nI n = 0 ↔ n = 0 := by
  rw [← nI_0]; exact nI_eq hn (by decide)
theorem q9_buyer {x1 x2 : Int32} (a : tc h z DD N C) (hq : ∀ h', ax_same cl_F h h' → Ret (some (.int (qv (z 0) DD x1 (-1000000) (s_buyer x2)))) h') : mX9_buyer g [.ref 0, .int x1, .int x2] h Ret := by
  have z2 := a.2.2.2.2.1 0 (by decide)
  refine uX9_buyer (fun A hA => vX9_buyer_0 hA ⟨a.1.1, q_begun a (fun q => Or.inr ⟨rfl, ?_⟩) (fun k hk ex ok h' hs xs hc => Or.inl ⟨_, rfl, hc.1.1.1, fun q0 => ?_, fun q0 => ⟨fun q1 => ?_, fun q1 => ⟨fun q2 => ⟨xs.1, _, xs.2.1.2.2.2.1, hc.2.1.1.1, c_bestHour (by have := ok.1.1; omega) hc.2.1 ⟨_, rfl, xs.1, c_gainBy xs hc ⟨_, rfl, ?_⟩⟩⟩, fun q2 => ?_⟩⟩⟩)⟩)
  · have := hq h sm_rf; rwa [qv_no q] at this
  all_goals
    have hv := hq h' hs
    rw [qv_yes z2 hk ex] at hv
    unfold s_buyer at hv
    have P6 := ok.2.1
    have e6 := hc.1.2.2.1.2
    rw [e6, nI_z (by omega)] at q0
  · rw [if_pos q0] at hv; exact hv
  · rw [if_neg q0, if_pos q1] at hv; exact hv
  · rw [if_neg q0, if_neg q1, if_pos q2] at hv
    have key : ∀ n i : Nat, i + 1 + n = dP (DD k) → ∀ (o10 o11 : Option Value), A (53, [some (.ref 0), some (.int x1), some (.int x2), some (.ref (6 + 14 * k)), some (.int (nI (byS (byG (DD k)) i).1)), some (.long (byG (DD k) (byS (byG (DD k)) i).1)), none, some (.long (byS (byG (DD k)) i).2), none, some (.int (nI (i + 1))), o10, o11], [], h', 0, 0) := by
      intro n
      induction n with
      | zero =>
        intro i hi o10 o11
        rw [show dP (DD k) - 1 = i by omega] at hv
        have b7 := byS_bd ok i
        unfold byA at hv
        refine vX9_buyer_53 hA ⟨hc.1.1.1, fun _ => ⟨fun n0 => ⟨xs.1, _, xs.2.1.2.2.2.2.1, hc.2.2.1.1, fun n2 => ?_, fun e2 => ?_⟩, fun e0 => ?_⟩, fun q => ?_⟩
        · rw [if_neg n0, if_neg n2] at hv
          rw [hc.2.2.2.2.2.1]; exact c_side (by unfold gB at b7; omega) (t_pos ok) ⟨_, rfl, hv⟩
        · rw [if_neg n0, if_pos e2] at hv
          rw [hc.2.2.2.2.2.1]; exact c_side (by unfold gB at b7; omega) (t_pos ok) ⟨_, rfl, hv⟩
        · rw [if_pos e0] at hv; exact hv
        · rw [e6] at q; exact absurd (nI_le (by omega) (by omega)) q
      | succ n ih =>
        intro i hi o10 o11
        have st := ih (i + 1) (by omega)
        refine vX9_buyer_53 hA ⟨hc.1.1.1, fun q => ?_, fun q => ⟨xs.1, _, xs.2.1.2.2.2.1, hc.2.1.1.1, c_bestHour (by have := ok.1.1; omega) hc.2.1 ⟨_, rfl, xs.1, c_gainBy xs hc ⟨_, rfl, fun q1 => ?_, fun q1 => ?_⟩⟩⟩⟩
        · rw [e6] at q; exact absurd q (nI_ge (by omega) (by omega))
        · rw [show byS (byG (DD k)) (i + 1) = ((byS (byG (DD k)) i).1, if byG (DD k) (i + 1) < (byS (byG (DD k)) i).2 then (byS (byG (DD k)) i).2 else byG (DD k) (i + 1)) from if_pos q1] at st
          rw [← nI_succ]
          exact st _ _
        · rw [show byS (byG (DD k)) (i + 1) = (i + 1, byG (DD k) (byS (byG (DD k)) i).1) from if_neg q1] at st
          rw [← nI_succ]
          exact st _ _
    exact key (dP (DD k) - 1) 0 (by omega) _ _
  · rw [if_neg q0, if_neg q1, if_neg q2] at hv; exact hv
theorem q10_buyer {x1 x2 : Int32} (a : tc h z DD N C) (hq : ∀ h', ax_same md_F h h' → Ret (some (.int (qv (z 0) DD x1 (-1000000) (s_buyer x2)))) h') : mX10_buyer g [.ref 77, .int x1, .int x2] h Ret := by
  have z2 := a.2.2.2.2.1 0 (by decide)
  obtain ⟨a1, T1, hs1⟩ := q_code (v := 0) a.2.1 a.2.2.2.1
  have bad : ∀ h', ax_same md_F h h' → ¬ (0 ≤ x2 ∧ x2 ≤ 2) → Ret (some (.int (-1000000))) h' := fun h' hs n => by
    have hv := hq h' hs
    have e : qv (z 0) DD x1 (-1000000) (s_buyer x2) = -1000000 := by
      unfold qv
      split
      · unfold s_buyer
        split
        · rfl
        · split
          · rfl
          · rename_i c
            split
            · rename_i d
              exact absurd ⟨Int32.not_lt.mp c, d⟩ n
            · rfl
      · rfl
    rw [e] at hv
    exact hv
  refine uX10_buyer (fun A hA => vX10_buyer_0 hA ⟨a.2.1.1, ?_⟩)
  intro h1
  refine c_min ⟨_, rfl, fun q0 => bad _ hs1 (of_decide_eq_false (b2i_0.mp q0)), fun q1 => ⟨a1.1, q_hand a1 T1 a.2.2.2.2 (fun q => ⟨_, rfl, fun _ => ?_, fun q => absurd rfl q⟩) (fun k hk ex ok h' hs hm => ⟨_, rfl, fun q => absurd q (by decide), fun _ => ⟨hm.1.1.1.1, fun q0 => ?_, fun q0 => ?_⟩⟩)⟩⟩
  · have := hq _ hs1; rwa [qv_no q] at this
  all_goals
    obtain ⟨p0, p2⟩ := of_decide_eq_true (b2i_n0.mp q1)
    have hv := hq h' (sm_tr hs1 hs)
    rw [qv_yes z2 hk ex] at hv
    unfold s_buyer at hv
    have P6 := ok.2.1
    have mb := hm.1.1
    have e27 := mb.2.2.2.2.2.1
    rw [e27, nI_z (by omega)] at q0
  · rw [if_neg q0, if_neg (Int32.not_lt.mpr p0), if_pos p2] at hv
    have s0 := mb.1.1
    have H12 := ok.1.2
    have H2 := ok.1.1
    have nn : ∀ p, p < dP (DD k) → 0 ≤ (byG (DD k) p).toInt := fun p hp => gn_nn ok hp
    obtain ⟨j1, j2, j3⟩ := by_inv (G := byG (DD k)) (dP (DD k) - 1) (fun q hq => nn q (by omega))
    rw [show dP (DD k) - 1 + 1 = dP (DD k) by omega] at j3
    have bh : ∀ p : Nat, sp_bh (dP (DD k)) (dH (DD k)) (sp_vl (DD k)) (nI p) = nI (bst (fun q => sp_br (dP (DD k)) (dH (DD k)) (sp_vl (DD k)) (nI p) (nI q)) (dH (DD k) - 1)) ∧ bst (fun q => sp_br (dP (DD k)) (dH (DD k)) (sp_vl (DD k)) (nI p) (nI q)) (dH (DD k) - 1) < dH (DD k) := fun p => ⟨rfl, by have := bst_le (fun q => sp_br (dP (DD k)) (dH (DD k)) (sp_vl (DD k)) (nI p) (nI q)) (dH (DD k) - 1); omega⟩
    have gO : ∀ {p : Nat} {R : Option Value → ax_H → Prop}, p < dP (DD k) → R (some (.long (byG (DD k) p))) h' → mX10_gainOf g [.ref 77, .int (nI p), .int (sp_bh (dP (DD k)) (dH (DD k)) (sp_vl (DD k)) (nI p))] h' R := fun {p R} hp r => by
      rw [(bh p).1]
      exact c_mgainOf hm.1 hm.2 hp (bh p).2 r
    have key2 : ∀ n i : Nat, i + n = dP (DD k) → ∀ (x6 : Int32) (o8 o9 : Option Value), (x6 = 0 → rpS (byG (DD k)) (byS (byG (DD k)) (dP (DD k) - 1)).1 i = 0) → A (95, [some (.ref 77), some (.int x1), some (.int x2), some (.int (nI (byS (byG (DD k)) (dP (DD k) - 1)).1)), some (.long (rpS (byG (DD k)) (byS (byG (DD k)) (dP (DD k) - 1)).1 i)), none, some (.int x6), some (.int (nI i)), o8, o9], [], h', 0, 0) := by
      intro n
      induction n with
      | zero =>
        intro i hi x6 o8 o9 _
        rw [show i = dP (DD k) by omega, ← j3]
        have b4 := byS_bd ok (dP (DD k) - 1)
        unfold byA at hv
        refine vX10_buyer_95 hA ⟨s0, fun _ => ⟨fun n0 => ⟨s0, fun n2 => ?_, fun e2 => ?_⟩, fun e0 => ?_⟩, fun q => ?_⟩
        · rw [if_neg n0, if_neg n2] at hv
          rw [hm.2.2.1]; exact c_part (by unfold gB at b4; omega) (t_pos ok) ⟨_, rfl, hv⟩
        · rw [if_neg n0, if_pos e2] at hv
          rw [hm.2.2.1]; exact c_part (by unfold gB at b4; omega) (t_pos ok) ⟨_, rfl, hv⟩
        · rw [if_pos e0] at hv; exact hv
        · rw [e27] at q; exact absurd (nI_le (by omega) (by omega)) q
      | succ n ih =>
        intro i hi x6 o8 o9 z6
        have st := ih (i + 1) (by omega)
        have ng := nn i (by omega)
        refine vX10_buyer_95 hA ⟨s0, fun q => ?_, fun q => ⟨fun e => ?_, fun ne => ⟨s0, c_mwishOf (by omega) hm.1 (by omega) ⟨_, rfl, s0, gO (by omega) ⟨_, rfl, fun f0 => ?_, fun f0 => ⟨fun c => ?_, fun c => ?_⟩⟩⟩⟩⟩⟩
        · rw [e27] at q; exact absurd q (nI_ge (by omega) (by omega))
        · rw [nI_eq (by omega) (by omega)] at e
          rw [show rpS (byG (DD k)) (byS (byG (DD k)) (dP (DD k) - 1)).1 (i + 1) = rpS (byG (DD k)) (byS (byG (DD k)) (dP (DD k) - 1)).1 i from if_pos e] at st
          rw [← nI_succ]
          exact st x6 _ _ z6
        all_goals
          rw [nI_eq (by omega) (by omega)] at ne
          rw [show rpS (byG (DD k)) (byS (byG (DD k)) (dP (DD k) - 1)).1 (i + 1) = (if lg_cmp (byG (DD k) i) (rpS (byG (DD k)) (byS (byG (DD k)) (dP (DD k) - 1)).1 i) ≤ 0 then rpS (byG (DD k)) (byS (byG (DD k)) (dP (DD k) - 1)).1 i else byG (DD k) i) from if_neg ne] at st
          rw [← nI_succ]
        · rw [z6 f0] at st
          rw [show (if lg_cmp (byG (DD k) i) 0 ≤ 0 then (0 : Int64) else byG (DD k) i) = byG (DD k) i from by
            split
            · rename_i d
              rw [cmp_le0, show (0 : Int64).toInt = 0 from rfl] at d
              exact Int64.toInt_inj.mp (by rw [show (0 : Int64).toInt = 0 from rfl]; omega)
            · rfl] at st
          exact st 1 _ _ (fun q => absurd q (by decide))
        · rw [if_pos c] at st
          exact st 1 _ _ (fun q => absurd q (by decide))
        · rw [if_neg c] at st
          exact st 1 _ _ (fun q => absurd q (by decide))
    have key : ∀ n i : Nat, i + 1 + n = dP (DD k) → ∀ (o5 o6 o7 o8 o9 : Option Value), A (38, [some (.ref 77), some (.int x1), some (.int x2), some (.int (nI (byS (byG (DD k)) i).1)), some (.int (nI (i + 1))), o5, o6, o7, o8, o9], [], h', 0, 0) := by
      intro n
      induction n with
      | zero =>
        intro i hi o5 o6 o7 o8 o9
        rw [show i = dP (DD k) - 1 by omega]
        refine vX10_buyer_38 hA ⟨s0, fun _ => key2 (dP (DD k)) 0 (by omega) 0 _ _ (fun _ => rfl), fun q => ?_⟩
        rw [e27] at q; exact absurd (nI_le (by omega) (by omega)) q
      | succ n ih =>
        intro i hi o5 o6 o7 o8 o9
        have st := ih (i + 1) (by omega)
        have bi := (by_inv (G := byG (DD k)) i (fun q hq => nn q (by omega))).1
        refine vX10_buyer_38 hA ⟨s0, fun q => ?_, fun q => ⟨s0, c_mwishOf (by omega) hm.1 (by omega) ⟨_, rfl, s0, gO (by omega) ⟨_, rfl, s0, c_mwishOf (by omega) hm.1 (by omega) ⟨_, rfl, s0, gO (by omega) ⟨_, rfl, fun c => ?_, fun c => ?_⟩⟩⟩⟩⟩⟩
        · rw [e27] at q; exact absurd q (nI_ge (by omega) (by omega))
        · rw [show byS (byG (DD k)) (i + 1) = ((byS (byG (DD k)) i).1, if byG (DD k) (i + 1) < (byS (byG (DD k)) i).2 then (byS (byG (DD k)) i).2 else byG (DD k) (i + 1)) from if_pos c] at st
          rw [← nI_succ]
          exact st _ _ _ _ _
        · rw [show byS (byG (DD k)) (i + 1) = (i + 1, byG (DD k) (byS (byG (DD k)) i).1) from if_neg c] at st
          rw [← nI_succ]
          exact st _ _ _ _ _
    exact key (dP (DD k) - 1) 0 (by omega) _ _ _ _ _
  · rw [if_pos q0] at hv; exact hv
theorem g_buyer (a : IV h S Im tp) (b : 103 ≤ h.1 ∧ h.1 ≤ B) (x1 x2 : Int32) : prI (mX9_buyer g) (mX10_buyer g) [.ref 0, .int x1, .int x2] [.ref 77, .int x1, .int x2] h (inv B) := pr_q _ a b (fun Ret k => q9_buyer (iv_tc a) k) (fun h1 Ret a1 k => q10_buyer (iv_tc a1) k)
end
end

section
section
variable {g : ax_G} {Ret : Option Value → ax_H → Prop} {h : ax_H} {z : Nat → Nat} {DD : Nat → rD} {N : Nat → Nat → Nat} {C : Nat → Nat → Nat → Nat → Int32} {S : sT} {Im : Nat → Option sT} {tp : Nat → Nat} {B : Nat}
/-! an answer told by what must hold for it -/
def ansE {α β : Type} (G : α → Prop) (val : α → β) (d V : β) : Prop := (∃ t, G t ∧ V = val t) ∨ ((∀ t, ¬ G t) ∧ V = d)
theorem ans_ex {α β : Type} (G : α → Prop) (val : α → β) (d : β) : ∃ V, ansE G val d V := by
  rcases Classical.em (∃ t, G t) with ⟨t, ht⟩ | n
  · exact ⟨_, Or.inl ⟨t, ht, rfl⟩⟩
  · exact ⟨_, Or.inr ⟨fun t ht => n ⟨t, ht⟩, rfl⟩⟩
theorem ans_no {α β : Type} {G : α → Prop} {val : α → β} {d V : β} (a : ansE G val d V) (n : ∀ t, ¬ G t) : V = d := by
  rcases a with ⟨t, ht, _⟩ | ⟨_, e⟩
  · exact absurd ht (n t)
  · exact e
theorem ans_yes {α β : Type} {G : α → Prop} {val : α → β} {d V : β} {t : α} (a : ansE G val d V) (ht : G t) (u : ∀ t', G t' → t' = t) : V = val t := by
  rcases a with ⟨t', ht', e⟩ | ⟨n, _⟩
  · rw [e, u t' ht']
  · exact absurd ht (n t)
theorem in_no {x : Int32} {n k : Nat} (q : sp_in x n = false) (hn : n ≤ 2) (hk : k < n) (e : x = nI k) : False := by
  rw [e, sp_in_nI (by omega) hk] at q; cases q
/-! a course over the days of a week -/
def lvW (D : rD) (y : Nat → Nat) : Nat → Nat → Int32
  | 0 => dpu D
  | n + 1 => fun p => lvW D y n p + sp_vl D p (y n)
def lkU (D : rD) (y : Nat → Nat) : Nat → Int64
  | 0 => 1
  | n + 1 => lkU D y n * (sp_w D (sp_po (dP D) (lvW D y n)) (y n)).toInt64
def lkD (D : rD) (y : Nat → Nat) : Nat → Int64
  | 0 => 1
  | n + 1 => lkD D y n * (sp_t D (sp_po (dP D) (lvW D y n))).toInt64
theorem lk_bd {D : rD} (ok : rd_ok D) (y : Nat → Nat) : ∀ i, i ≤ 6 → (0 ≤ (lkU D y i).toInt ∧ (lkU D y i).toInt ≤ 108 ^ i) ∧ 0 < (lkD D y i).toInt ∧ (lkD D y i).toInt ≤ 108 ^ i
  | 0, _ => ⟨by show 0 ≤ (1 : Int64).toInt ∧ (1 : Int64).toInt ≤ 108 ^ 0; decide, by show 0 < (1 : Int64).toInt ∧ (1 : Int64).toInt ≤ 108 ^ 0; decide⟩
  | i + 1, hi => by
    obtain ⟨⟨b1, b2⟩, b3, b4⟩ := lk_bd ok y i (by omega)
    have bw := sp_w_bd ok (sp_po (dP D) (lvW D y i)) (y i)
    have bt := sp_t_bd ok (sp_po (dP D) (lvW D y i))
    have m1 := mulB (x := lkU D y i) (y := (sp_w D (sp_po (dP D) (lvW D y i)) (y i)).toInt64) (i := i) (by omega) b1 b2 (by rw [i_64]; omega) (by rw [i_64]; omega)
    have m2 := mulB (x := lkD D y i) (y := (sp_t D (sp_po (dP D) (lvW D y i))).toInt64) (i := i) (by omega) (by omega) b4 (by rw [i_64]; omega) (by rw [i_64]; omega)
    have pos : 0 < (lkD D y i).toInt * (sp_t D (sp_po (dP D) (lvW D y i))).toInt64.toInt := Int.mul_pos b3 (by rw [i_64]; omega)
    show (0 ≤ (lkU D y i * (sp_w D (sp_po (dP D) (lvW D y i)) (y i)).toInt64).toInt ∧ (lkU D y i * (sp_w D (sp_po (dP D) (lvW D y i)) (y i)).toInt64).toInt ≤ 108 ^ (i + 1)) ∧ 0 < (lkD D y i * (sp_t D (sp_po (dP D) (lvW D y i))).toInt64).toInt ∧ (lkD D y i * (sp_t D (sp_po (dP D) (lvW D y i))).toInt64).toInt ≤ 108 ^ (i + 1)
    rw [m1.1, m2.1]
    exact ⟨⟨m1.2.1, m1.2.2⟩, pos, m2.2.2⟩
theorem co_congr {c P H : Nat} {hv hw : Nat → Int32} {vl : Nat → Nat → Int32} (co : co_at h c P H hv vl) (e : ∀ p, p < P → hv p = hw p) : co_at h c P H hw vl := ⟨co.1, co.2.1, co.2.2.1, co.2.2.2.1, fun p hp => (co.2.2.2.2.1 p hp).trans (e p hp), co.2.2.2.2.2⟩
def lgE (h hh : ax_H) (D : rD) (hv : Nat → Int32) : Prop := ax_same cl_F h hh ∧ co_at hh 52 (dP D) (dH D) hv (sp_vl D)
theorem lg_live {hh : ax_H} {D : rD} {q : Nat} {hv : Nat → Int32} (ok : rd_ok D) (L : lgE h hh D hv) (hq : q < dH D) (k : ∀ h2, lgE h h2 D (fun p => hv p + sp_vl D p q) → ax_same (fun a => a = 53) hh h2 → Ret none h2) : mX0_live g [.ref 52, .int (nI q)] hh Ret := c_live L.2 (fun h2 s2 c2 => k h2 ⟨sm_tr L.1 (sm_mono s2 (fun x q => by unfold cl_F; omega)), co_congr c2 (fun p hp => by rw [sp_br_in hp hq ok.2.1 ok.1.2])⟩ s2)
def lmE (h hh : ax_H) (k : Nat) (D : rD) (pu : Nat → Int32) : Prop := ax_same md_F h hh ∧ mc_at hh 77 k D (dmo D) pu (sp_vl D) ∧ mw_at hh 77 (dH D) (sp_w D (sp_po (dP D) pu)) (sp_t D (sp_po (dP D) pu)) (sp_po (dP D) pu)
theorem lm_live {hh : ax_H} {k q : Nat} {D : rD} {pu : Nat → Int32} (L : lmE h hh k D pu) (hq : q < dH D) (K : ∀ h2, lmE h h2 k D (fun p => pu p + sp_vl D p q) → lvR hh h2 → Ret none h2) : mX10_live g [.ref 77, .int (nI q)] hh Ret := c_mlive L.2.1 hq (fun h2 m2 c2 w2 => K h2 ⟨sm_tr L.1 (sm_mono m2.1 (fun x e => by unfold md_F; omega)), c2, w2⟩ m2)
theorem lm_mr {J F : Nat → Prop} {hh h2 : ax_H} {k : Nat} {D : rD} {pu : Nat → Int32} (L : lmE h hh k D pu) (s : mr J F 77 hh h2) (hJ : ∀ j, J j → j < 25 ∨ (27 < j ∧ j < 32) ∨ 35 < j) (hF : ∀ a, F a → 94 ≤ a ∧ a ≤ 101) : lmE h h2 k D pu := by
  obtain ⟨s0, c, w⟩ := L
  refine ⟨sm_tr s0 (sm_mono s.1 (fun x e => ?_)), mc_at_mr s ⟨fun q => ?_, fun q => ?_, fun q => ?_, fun q => ?_, fun q => ?_⟩ ⟨fun q => ?_, fun q => ?_, fun q => ?_, fun q => ?_⟩ c, mw_mr s ⟨fun q => ?_, fun q => ?_⟩ (fun q => ?_) w⟩
  · unfold md_F
    rcases e with e | e
    · exact Or.inl e
    · have := hF x e; omega
  all_goals first | (have := hJ _ q; omega) | (have := hF _ q; omega)
theorem lm_hm {h' : ax_H} {k : Nat} {D : rD} (s : ax_same md_F h h') (hm : hm_at h' k D) : lmE h h' k D (dpu D) := ⟨s, hm.1, hm.2⟩
/-- the republic, the week, the days -/
def wkG (z : Nat → Nat) (DD : Nat → rD) (N : Nat → Nat → Nat) (C : Nat → Nat → Nat → Nat → Int32) (x1 x2 x3 : Int32) (t : Nat × Nat × Nat) : Prop := t.1 < z 0 ∧ x1 = nI t.1 ∧ t.2.1 < z 1 ∧ x2 = nI t.2.1 ∧ x3 = nI t.2.2 ∧ t.2.2 ≤ N 1 t.2.1 ∧ ∀ d, d < t.2.2 → sp_in (C 1 t.2.1 d 0) (dH (DD t.1)) = true
def wkY (C : Nat → Nat → Nat → Nat → Int32) (w d : Nat) : Nat := (C 1 w d 0).toNatClampNeg
theorem wkG_u {x1 x2 x3 : Int32} {t t' : Nat × Nat × Nat} (K : tk z DD N C) (a : wkG z DD N C x1 x2 x3 t) (b : wkG z DD N C x1 x2 x3 t') : t' = t := by
  obtain ⟨k, w, m⟩ := t
  obtain ⟨k', w', m'⟩ := t'
  obtain ⟨a1, a2, a3, a4, a5, a6, _⟩ := a
  obtain ⟨b1, b2, b3, b4, b5, b6, _⟩ := b
  have a1 : k < z 0 := a1
  have a3 : w < z 1 := a3
  have a6 : m ≤ N 1 w := a6
  have b1 : k' < z 0 := b1
  have b3 : w' < z 1 := b3
  have b6 : m' ≤ N 1 w' := b6
  have z0 := K.1 0 (by decide)
  have z1 := K.1 1 (by decide)
  have n1 : N 1 w ≤ 14 := (K.2.2 1 w (by decide) (by decide) a3).1
  have n2 : N 1 w' ≤ 14 := (K.2.2 1 w' (by decide) (by decide) b3).1
  have e1 : k' = k := (nI_eq (by omega) (by omega)).mp (b2.symm.trans a2)
  have e2 : w' = w := (nI_eq (by omega) (by omega)).mp (b4.symm.trans a4)
  have e3 : m' = m := (nI_eq (by omega) (by omega)).mp (b5.symm.trans a5)
  rw [e1, e2, e3]
theorem c_stopsE {r l n : Nat} {D : rD} {C1 : Nat → Nat → Int32} {x : Int32} (rc : rc_at h r D) (L : li_at h l 1 n C1) (h1 : (∀ m, x = nI m → m ≤ n → ¬ ∀ d, d < m → sp_in (C1 d 0) (dH D) = true) → Ret (some (.int 1)) h) (h0 : ∀ m, x = nI m → m ≤ n → (∀ d, d < m → sp_in (C1 d 0) (dH D) = true) → Ret (some (.int 0)) h) : mX9_stops g [.ref r, .ref l, .int x] h Ret := by
  have n14 : n ≤ 14 := L.2.1
  have e3 := L.2.2.1
  refine uX9_stops (fun A hA => vX9_stops_0 hA ⟨fun q => ⟨Or.inr rfl, h1 (fun m e hm _ => by rw [e] at q; exact nI_pos (by omega) q)⟩, fun q => ⟨L.1.1, fun q1 => ?_, fun q1 => ⟨Or.inr rfl, h1 (fun m e hm _ => by rw [e, e3] at q1; exact q1 (nI_le hm (by omega)))⟩⟩⟩)
  rw [e3] at q1
  obtain ⟨m, _, hm, rfl⟩ := i_rng (a := 0) (b := n) (by omega) (by omega) (nt_lt.mp q) q1
  have key : ∀ j i : Nat, i + j = m → (∀ d, d < i → sp_in (C1 d 0) (dH D) = true) → A (20, [some (.ref r), some (.ref l), some (.int (nI m)), some (.int (nI i))], [], h, 0, 0) := by
    intro j
    induction j with
    | zero =>
      intro i hi hd
      refine vX9_stops_20 hA ⟨fun _ => ⟨Or.inl rfl, h0 m rfl hm (by rw [show m = i by omega]; exact hd)⟩, fun q => ?_⟩
      exact absurd (nI_le (by omega) (by omega)) q
    | succ j ih =>
      intro i hi hd
      have ec : sp_lc n (lw 1) C1 (nI i) 0 = C1 i 0 := lc_in n14 (by decide) (by omega) (by decide)
      refine vX9_stops_20 hA ⟨fun q => ?_, fun _ => ⟨L.1.1, c_lcell (by decide) (by decide) L ⟨_, rfl, rc.1.1, c_hasHour rc ⟨_, rfl, fun q2 => ?_, fun q2 => ⟨Or.inr rfl, h1 (fun m2 e2 hm2 all => ?_)⟩⟩⟩⟩⟩
      · exact absurd q (nI_ge (by omega) (by omega))
      · rw [← nI_succ]
        rw [ec] at q2
        refine ih (i + 1) (by omega) (fun d hd2 => ?_)
        by_cases e : d = i
        · rw [e]; exact b2i_n0.mp q2
        · exact hd d (by omega)
      · rw [ec] at q2
        have e4 : m2 = m := (nI_eq (by omega) (by omega)).mp e2.symm
        have t := all i (by omega)
        rw [b2i_0.mp q2] at t
        cases t
  exact key m 0 (by omega) (fun d hd => absurd hd (Nat.not_lt_zero d))
theorem c_liveDaysE {hh : ax_H} {k w : Nat} {x : Int32} (a : tc h z DD N C) (ok : rd_ok (DD k)) (L : lmE h hh k (DD k) (dpu (DD k))) (hw : w < z 1) (e36 : ax_i hh 77 36 = nI w) (h0 : ∀ h2, ax_same md_F h h2 → (∀ m, x = nI m → m ≤ N 1 w → ¬ ∀ d, d < m → sp_in (C 1 w d 0) (dH (DD k)) = true) → Ret (some (.int 0)) h2) (h1 : ∀ m, x = nI m → m ≤ N 1 w → (∀ d, d < m → sp_in (C 1 w d 0) (dH (DD k)) = true) → ∀ h2, lmE h h2 k (DD k) (lvW (DD k) (wkY C w) m) → (m ≤ 6 → ax_l h2 77 37 = lkU (DD k) (wkY C w) m ∧ ax_l h2 77 38 = lkD (DD k) (wkY C w) m) → Ret (some (.int 1)) h2) : mX10_liveDays g [.ref 77, .int x] hh Ret := by
  have w2 : w < 2 := by have := a.2.2.2.2.1 1 (by decide); omega
  have b := tc_md L.1 a
  have H12 := ok.1.2
  refine uX10_liveDays (fun A hA => vX10_liveDays_0 hA ⟨b.2.1.1, ?_⟩)
  intro u1
  refine ⟨b.2.1.1, ?_⟩
  intro u2
  have ur : mr (fun j => j = 37 ∨ j = 38) (fun _ => False) 77 hh u2 := mr_tr (mr_l (Or.inl rfl)) (mr_l (Or.inr rfl))
  have Lu : lmE h u2 k (DD k) (dpu (DD k)) := lm_mr L ur (fun j hj => by omega) (fun a ha => ha.elim)
  have bu := tc_md Lu.1 a
  have eu : ax_i u2 77 36 = nI w := e36
  obtain ⟨e1, e2⟩ := mo_wk bu.2.1
  have tl := tm_ln bu.2.2.2.1 (show 1 ≤ 1 by decide) (by decide) hw
  have n14 : N 1 w ≤ 14 := (a.2.2.2.2.2.2 1 w (by decide) (by decide) hw).1
  refine ⟨bu.2.1.1, _, e1, bu.2.1.1, by rw [e2], ?_, ?_⟩
  · rw [eu, e2, show (15 : Int32) * nI w = nI (15 * w) from ni_mul]; exact vp_in_nI (by omega) (by decide)
  · rw [eu, show (15 : Int32) * nI w = nI (15 * w) from ni_mul, nI_clamp (by omega), show ax_i u2 (77 + 7) (15 * w) = nI (N 1 w) from tl.1]
    refine c_min ⟨_, rfl, fun q => ?_, fun q => ⟨Or.inl rfl, h0 u2 Lu.1 (fun m e hm _ => ?_)⟩⟩
    · obtain ⟨m, _, hm, rfl⟩ := i_rng (a := 0) (b := N 1 w) (by omega) (by omega) (of_decide_eq_true (b2i_n0.mp q)).1 (of_decide_eq_true (b2i_n0.mp q)).2
      have key : ∀ n i : Nat, i + n = m → (∀ d, d < i → sp_in (C 1 w d 0) (dH (DD k)) = true) → ∀ h3, lmE h h3 k (DD k) (lvW (DD k) (wkY C w) i) → ax_i h3 77 36 = nI w → ∀ (o3 : Option Value), (i ≤ 6 → ax_l h3 77 37 = lkU (DD k) (wkY C w) i ∧ ax_l h3 77 38 = lkD (DD k) (wkY C w) i) → A (34, [some (.ref 77), some (.int (nI m)), some (.int (nI i)), o3], [], h3, 0, 0) := by
        intro n
        induction n with
        | zero =>
          intro i hi hd h3 L3 e3 o3 lk
          have e : i = m := by omega
          subst e
          exact vX10_liveDays_34 hA ⟨fun _ => ⟨Or.inr rfl, h1 i rfl hm hd h3 L3 lk⟩, fun q => absurd (nI_le (by omega) (by omega)) q⟩
        | succ n ih =>
          intro i hi hd h3 L3 e3 o3 lk
          have c := tc_md L3.1 a
          have mc := L3.2.1
          have mw := L3.2.2
          have s0 := mc.1.1.1
          refine vX10_liveDays_34 hA ⟨fun q => absurd q (nI_ge (by omega) (by omega)), fun _ => ⟨s0, c_mhourOf c.2.1 c.2.2.2.1 c.2.2.2.2 hw e3 (by omega) ⟨_, rfl, s0, c_misHour mc.1 ⟨_, rfl, fun q => ?_, fun q => ⟨Or.inl rfl, h0 h3 L3.1 (fun m2 em hm2 all => ?_)⟩⟩⟩⟩⟩
          · have hd' : ∀ d, d < i + 1 → sp_in (C 1 w d 0) (dH (DD k)) = true := fun d hd2 => by
              by_cases e : d = i
              · rw [e]; exact b2i_n0.mp q
              · exact hd d (by omega)
            obtain ⟨y, hy, ey⟩ := sp_in_ix (by omega) (b2i_n0.mp q)
            have ey2 : wkY C w i = y := by unfold wkY; rw [ey, nI_clamp (by omega)]
            have ev : lvW (DD k) (wkY C w) (i + 1) = (fun p => lvW (DD k) (wkY C w) i p + sp_vl (DD k) p y) := by rw [← ey2]; rfl
            rw [ey]
            refine ⟨fun q6 => ⟨s0, lm_live L3 hy (fun h4 L4 r4 => ⟨rfl, ?_⟩)⟩, fun q6 => ⟨rfl, s0, s0, ?_⟩⟩
            · rw [← nI_succ]
              have i6 : 6 ≤ i := Nat.le_of_not_lt (fun e => absurd (show (6 : Int32) ≤ nI i from q6) (nI_ge (a := i) (b := 6) e (by decide)))
              exact ih (i + 1) (by omega) hd' h4 (by rw [ev]; exact L4) (by rw [(r4.2 36 (by decide)).1]; exact e3) _ (fun q => by omega)
            · have i6 : i < 6 := Nat.lt_of_not_le (fun e => q6 (nI_le (a := 6) e (by omega)))
              obtain ⟨f1, f2⟩ := mo_we mc.1.1
              refine ⟨_, f1, by rw [f2], by rw [f2]; exact vp_in_nI (by omega) (by decide), s0, ?_⟩
              intro u3
              refine ⟨rfl, s0, s0, s0, ?_⟩
              intro u4
              have r4 : mr (fun j => j = 37 ∨ j = 38) (fun _ => False) 77 h3 u4 := mr_tr (mr_l (Or.inl rfl)) (mr_l (Or.inr rfl))
              have L4 := lm_mr L3 r4 (fun j hj => by omega) (fun a ha => ha.elim)
              refine ⟨s0, lm_live L4 hy (fun h5 L5 r5 => ⟨rfl, ?_⟩)⟩
              rw [← nI_succ]
              obtain ⟨k1, k2⟩ := lk (by omega)
              have l1 : ax_l h5 77 37 = ax_l h3 77 37 * (sp_w (DD k) (sp_po (dP (DD k)) (lvW (DD k) (wkY C w) i)) y).toInt64 := by
                rw [(r5.2 37 (by decide)).2]
                show ax_l (ax_pl (ax_pl h3 77 37 _) 77 38 _) 77 37 = _
                rw [al_pl, if_neg (by decide), al_pl, if_pos ⟨rfl, rfl⟩, nI_clamp (by omega), mw.1 y hy]
              have l2 : ax_l h5 77 38 = ax_l h3 77 38 * (sp_t (DD k) (sp_po (dP (DD k)) (lvW (DD k) (wkY C w) i))).toInt64 := by
                rw [(r5.2 38 (by decide)).2]
                show ax_l (ax_pl (ax_pl h3 77 37 _) 77 38 (ax_l (ax_pl h3 77 37 _) 77 38 * (ax_i h3 77 32).toInt64)) 77 38 = _
                rw [al_pl, if_pos ⟨rfl, rfl⟩, al_pl, if_neg (by decide), mw.2.1]
              refine ih (i + 1) (by omega) hd' h5 (by rw [ev]; exact L5) (by rw [(r5.2 36 (by decide)).1]; exact e3) _ (fun _ => ⟨?_, ?_⟩)
              · rw [l1, k1, ← ey2]; rfl
              · rw [l2, k2]; rfl
          · have e4 : m2 = m := (nI_eq (by omega) (by omega)).mp em.symm
            have t := all i (by omega)
            rw [b2i_0.mp q] at t
            cases t
      have p37 : ax_l u2 77 37 = 1 := by
        show ax_l (ax_pl (ax_pl hh 77 37 1) 77 38 1) 77 37 = 1
        rw [al_pl, if_neg (by decide), al_pl, if_pos ⟨rfl, rfl⟩]
      have p38 : ax_l u2 77 38 = 1 := by
        show ax_l (ax_pl (ax_pl hh 77 37 1) 77 38 1) 77 38 = 1
        rw [al_pl, if_pos ⟨rfl, rfl⟩]
      exact key m 0 (by omega) (fun d hd => absurd hd (Nat.not_lt_zero d)) u2 Lu eu _ (fun _ => ⟨p37, p38⟩)
    · have f := of_decide_eq_false (b2i_0.mp q)
      rw [e] at f
      exact f ⟨nI_pos' (by omega), nI_le hm (by omega)⟩
/-! PURSE: the same answer -/
def pG (z : Nat → Nat) (DD : Nat → rD) (N : Nat → Nat → Nat) (C : Nat → Nat → Nat → Nat → Int32) (x1 x2 x3 x4 : Int32) (t : Nat × Nat × Nat) : Prop := wkG z DD N C x1 x2 x3 t ∧ (x4 = -1 ∨ sp_in x4 (dP (DD t.1)) = true)
def pV (DD : Nat → rD) (C : Nat → Nat → Nat → Nat → Int32) (x4 : Int32) (t : Nat × Nat × Nat) : Int32 := if x4 = -1 then sp_po (dP (DD t.1)) (lvW (DD t.1) (wkY C t.2.1) t.2.2) else lvW (DD t.1) (wkY C t.2.1) t.2.2 x4.toNatClampNeg
theorem or_no {x4 : Int32} {n : Nat} (q : (decide (x4 = -1) || sp_in x4 n) = false) : ¬ (x4 = -1 ∨ sp_in x4 n = true) := by
  rw [Bool.or_eq_false_iff] at q
  rintro (e | e)
  · exact absurd e (of_decide_eq_false q.1)
  · rw [q.2] at e; cases e
theorem or_yes {x4 : Int32} {n : Nat} (q : (decide (x4 = -1) || sp_in x4 n) = true) : x4 = -1 ∨ sp_in x4 n = true := by
  rw [Bool.or_eq_true] at q
  exact q.imp of_decide_eq_true id
theorem q9_purse {x1 x2 x3 x4 V : Int32} (a : tc h z DD N C) (hV : ansE (pG z DD N C x1 x2 x3 x4) (pV DD C x4) (-1000000) V) (hq : ∀ h', ax_same cl_F h h' → Ret (some (.int V)) h') : mX9_purse g [.ref 0, .int x1, .int x2, .int x3, .int x4] h Ret := by
  have z0 := a.2.2.2.2.1 0 (by decide)
  have z1 := a.2.2.2.2.1 1 (by decide)
  have bad : ∀ h', ax_same cl_F h h' → (∀ t, ¬ pG z DD N C x1 x2 x3 x4 t) → Ret (some (.int (-1000000))) h' := fun h' hs n => by
    have hv := hq h' hs
    rw [ans_no hV n] at hv
    exact hv
  refine uX9_purse (fun A hA => vX9_purse_0 hA ⟨a.1.1, q_begun a (fun q => Or.inr ⟨rfl, a.1.1, _, a.1.2.1.1, a.2.2.1.1.1, c_linesAt (s0 := 1) a.2.2.1 (by decide) (by decide) (fun _ => Or.inr ⟨rfl, bad h sm_rf (fun t G => in_no q z0 G.1.1 G.1.2.1)⟩) (fun k hk ex => Or.inl ⟨_, rfl, bad h sm_rf (fun t G => in_no q z0 G.1.1 G.1.2.1)⟩)⟩) (fun k hk ex ok h' hs xs hc => Or.inl ⟨_, rfl, ?_⟩)⟩)
  have b := tc_cl hs a
  have kk : ∀ t, pG z DD N C x1 x2 x3 x4 t → t.1 = k := fun t G => (nI_eq (by have := G.1.1; omega) (by omega)).mp (G.1.2.1.symm.trans ex)
  refine ⟨b.1.1, _, b.1.2.1.1, b.2.2.1.1.1, c_linesAt (s0 := 1) b.2.2.1 (by decide) (by decide) (fun q => Or.inr ⟨rfl, hc.1.1.1, c_hasPersonOrAll hc.1 ⟨_, rfl, fun _ => bad h' hs (fun t G => in_no q z1 G.1.2.2.1 G.1.2.2.2.1), fun _ => c_stopsN ⟨_, rfl, fun q => absurd q (by decide), fun _ => bad h' hs (fun t G => in_no q z1 G.1.2.2.1 G.1.2.2.2.1)⟩⟩⟩) (fun w hw ew => Or.inl ⟨_, rfl, hc.1.1.1, c_hasPersonOrAll hc.1 ⟨_, rfl, fun q4 => bad h' hs (fun t G => or_no (b2i_0.mp q4) (by have := G.2; rw [kk t G] at this; exact this)), fun q4 => c_stopsE hc.1 (b.2.2.1.2.2.2 1 w (by decide) (by decide) hw) (fun no => ⟨_, rfl, fun q => absurd q (by decide), fun _ => bad h' hs (fun t G => ?_)⟩) (fun m em hm hd => ⟨_, rfl, fun _ => ?_, fun q => absurd rfl q⟩)⟩⟩)⟩
  · have ww : t.2.1 = w := (nI_eq (by have := G.1.2.2.1; omega) (by omega)).mp (G.1.2.2.2.1.symm.trans ew)
    have e := G.1.2.2.2.2
    rw [kk t G, ww] at e
    exact no t.2.2 e.1 e.2.1 e.2.2
  · subst em
    have n14 : N 1 w ≤ 14 := (b.2.2.1.2.2.2 1 w (by decide) (by decide) hw).2.1
    have q5 := or_yes (b2i_n0.mp q4)
    have Gt : pG z DD N C x1 x2 (nI m) x4 (k, w, m) := ⟨⟨hk, ex, hw, ew, rfl, hm, hd⟩, q5⟩
    have eV := ans_yes hV Gt (fun t' G' => wkG_u a.2.2.2.2 Gt.1 G'.1)
    have H12 := ok.1.2
    have key : ∀ n i : Nat, i + n = m → ∀ hh, lgE h hh (DD k) (lvW (DD k) (wkY C w) i) → A (50, [some (.ref 0), some (.int x1), some (.int x2), some (.int (nI m)), some (.int x4), some (.ref (6 + 14 * k)), some (.ref (lnp 1 1 w)), some (.int (nI i))], [], hh, 0, 0) := by
      intro n
      induction n with
      | zero =>
        intro i hi hh L
        have e : i = m := by omega
        subst e
        have c := tc_cl L.1 a
        have co := L.2
        have hv := hq hh L.1
        rw [eV] at hv
        unfold pV at hv
        refine vX9_purse_50 hA ⟨fun _ => ⟨fun q => ⟨c.1.1, _, c.1.2.1.2.2.2.1, co.1.1, ?_⟩, fun q => ⟨c.1.1, _, c.1.2.1.2.2.2.1, co.1.1, c_poorest co ⟨_, rfl, ?_⟩⟩⟩, fun q => absurd (nI_le (by omega) (by omega)) q⟩
        · rw [if_neg q] at hv
          obtain ⟨p, hp, rfl⟩ := sp_in_ix (by have := ok.2.1; omega) (q5.resolve_left q)
          obtain ⟨e1, e2, e3⟩ := have_at co hp
          refine ⟨_, e1, e2, e3, ?_⟩
          rw [nI_clamp (by have := ok.2.1; omega)] at hv ⊢
          rw [show ax_i hh 53 p = _ from co.2.2.2.2.1 p hp]
          exact hv
        · rw [if_pos q] at hv; exact hv
      | succ n ih =>
        intro i hi hh L
        have c := tc_cl L.1 a
        have co := L.2
        obtain ⟨y, hy, ey⟩ := sp_in_ix (by omega) (hd i (by omega))
        have ey2 : wkY C w i = y := by unfold wkY; rw [ey, nI_clamp (by omega)]
        have ev : lvW (DD k) (wkY C w) (i + 1) = (fun p => lvW (DD k) (wkY C w) i p + sp_vl (DD k) p y) := by rw [← ey2]; rfl
        refine vX9_purse_50 hA ⟨fun q => absurd q (nI_ge (by omega) (by omega)), fun _ => ⟨c.1.1, _, c.1.2.1.2.2.2.1, (c.2.2.1.2.2.2 1 w (by decide) (by decide) hw).1.1, c_lcell (by decide) (by decide) (c.2.2.1.2.2.2 1 w (by decide) (by decide) hw) ⟨_, rfl, co.1.1, ?_⟩⟩⟩
        rw [show sp_lc (N 1 w) (lw 1) (C 1 w) (nI i) 0 = C 1 w i 0 from lc_in n14 (by decide) (by omega) (by decide), ey]
        refine lg_live ok L hy (fun h2 L2 _ => ⟨rfl, ?_⟩)
        rw [← nI_succ]; exact ih (i + 1) (by omega) h2 (by rw [ev]; exact L2)
    exact key m 0 (by omega) h' ⟨hs, hc.2.1⟩
theorem q10_purse {x1 x2 x3 x4 V : Int32} (a : tc h z DD N C) (hV : ansE (pG z DD N C x1 x2 x3 x4) (pV DD C x4) (-1000000) V) (hq : ∀ h', ax_same md_F h h' → Ret (some (.int V)) h') : mX10_purse g [.ref 77, .int x1, .int x2, .int x3, .int x4] h Ret := by
  have z0 := a.2.2.2.2.1 0 (by decide)
  have z1 := a.2.2.2.2.1 1 (by decide)
  have bad : ∀ h', ax_same md_F h h' → (∀ t, ¬ pG z DD N C x1 x2 x3 x4 t) → Ret (some (.int (-1000000))) h' := fun h' hs n => by
    have hv := hq h' hs
    rw [ans_no hV n] at hv
    exact hv
  obtain ⟨a1, T1, hs1⟩ := q_code (v := 0) a.2.1 a.2.2.2.1
  refine eX10_purse ⟨a.2.1.1, ?_⟩
  intro h1
  refine ⟨a1.1, q_hand a1 T1 a.2.2.2.2 (fun q => ⟨_, rfl, fun _ => bad _ hs1 (fun t G => in_no q z0 G.1.1 G.1.2.1), fun q => absurd rfl q⟩) (fun k hk ex ok h' hs hm => ⟨_, rfl, fun q => absurd q (by decide), fun _ => ⟨hm.1.1.1.1, ?_⟩⟩)⟩
  have L := lm_hm (sm_tr hs1 hs) hm
  have b := tc_md L.1 a
  have kk : ∀ t, pG z DD N C x1 x2 x3 x4 t → t.1 = k := fun t G => (nI_eq (by have := G.1.1; omega) (by omega)).mp (G.1.2.1.symm.trans ex)
  have Lu : lmE h (ax_pi h' 77 36 x2) k (DD k) (dpu (DD k)) := lm_mr L (mr_f (J := fun j => j = 36) (F := fun _ => False) rfl) (fun j hj => by omega) (fun a ha => ha.elim)
  have s0 : (ax_s (ax_pi h' 77 36 x2) 77).1 = 10 := b.2.1.1
  refine c_mhasWeek b.2.1 b.2.2.2.1 b.2.2.2.2 ⟨_, rfl, fun q => bad _ Lu.1 (fun t G => in_no (b2i_0.mp q) z1 G.1.2.2.1 G.1.2.2.2.1), fun q => ?_⟩
  obtain ⟨w, hw, ew⟩ := sp_in_ix (by omega) (b2i_n0.mp q)
  have stop : ∀ h2, ax_same md_F h h2 → (∀ m, x3 = nI m → m ≤ N 1 w → ¬ ∀ d, d < m → sp_in (C 1 w d 0) (dH (DD k)) = true) → Ret (some (.int (-1000000))) h2 := fun h2 s2 no => bad h2 s2 (fun t G => by
    have ww : t.2.1 = w := (nI_eq (by have := G.1.2.2.1; omega) (by omega)).mp (G.1.2.2.2.1.symm.trans ew)
    have e := G.1.2.2.2.2
    rw [kk t G, ww] at e
    exact no t.2.2 e.1 e.2.1 e.2.2)
  have e36 : ax_i (ax_pi h' 77 36 x2) 77 36 = nI w := by rw [← ew]; exact ai_eq
  have good : ∀ m, x3 = nI m → m ≤ N 1 w → (∀ d, d < m → sp_in (C 1 w d 0) (dH (DD k)) = true) → (x4 = -1 ∨ sp_in x4 (dP (DD k)) = true) → V = pV DD C x4 (k, w, m) := fun m em hm hd q5 => by
    have Gt : pG z DD N C x1 x2 x3 x4 (k, w, m) := ⟨⟨hk, ex, hw, ew, em, hm, hd⟩, q5⟩
    exact ans_yes hV Gt (fun t' G' => wkG_u a.2.2.2.2 Gt.1 G'.1)
  refine ⟨fun e => ⟨s0, c_liveDaysE a ok Lu hw e36 (fun h2 s2 no => ⟨_, rfl, fun q => absurd rfl q, fun _ => stop h2 s2 no⟩) (fun m em hm hd h2 L2 _ => ?_)⟩, fun e => ⟨s0, ?_⟩⟩
  · have hv := hq h2 L2.1
    rw [good m em hm hd (Or.inl e)] at hv
    unfold pV at hv
    rw [if_pos e] at hv
    refine ⟨_, rfl, fun _ => ⟨fun q => absurd e q, fun _ => ⟨L2.2.1.1.1.1, ?_⟩⟩, fun q => absurd q (by decide)⟩
    rw [L2.2.2.2.2]
    exact hv
  · have mc := Lu.2.1
    refine c_misOne mc.1 ⟨_, rfl, fun q1 => bad _ Lu.1 (fun t G => ?_), fun q1 => ⟨s0, c_liveDaysE a ok Lu hw e36 (fun h2 s2 no => ⟨_, rfl, fun q => absurd rfl q, fun _ => stop h2 s2 no⟩) (fun m em hm hd h2 L2 _ => ?_)⟩⟩
    · have t2 := G.2
      rw [kk t G] at t2
      rcases t2 with e2 | e2
      · exact e e2
      · rw [b2i_0.mp q1] at e2; cases e2
    · have hv := hq h2 L2.1
      rw [good m em hm hd (Or.inr (b2i_n0.mp q1))] at hv
      unfold pV at hv
      rw [if_neg e] at hv
      obtain ⟨p, hp, rfl⟩ := sp_in_ix (by have := ok.2.1; omega) (b2i_n0.mp q1)
      obtain ⟨e1, e2⟩ := mo_pu L2.2.1.1.1
      refine ⟨_, rfl, fun _ => ⟨fun _ => ⟨L2.2.1.1.1.1, _, e1, by rw [e2], by rw [e2]; exact vp_in_nI (by have := ok.2.1; omega) (by decide), ?_⟩, fun q => absurd q e⟩, fun q => absurd q (by decide)⟩
      rw [nI_clamp (by have := ok.2.1; omega)] at hv ⊢
      rw [show ax_i h2 (77 + 13) p = _ from L2.2.1.2.1 p hp]
      exact hv
theorem g_purse (a : IV h S Im tp) (b : 103 ≤ h.1 ∧ h.1 ≤ B) (x1 x2 x3 x4 : Int32) : prI (mX9_purse g) (mX10_purse g) [.ref 0, .int x1, .int x2, .int x3, .int x4] [.ref 77, .int x1, .int x2, .int x3, .int x4] h (inv B) := by
  obtain ⟨V, hV⟩ := ans_ex (pG (s_z S) (s_D S) (s_N S) (s_C S) x1 x2 x3 x4) (pV (s_D S) (s_C S) x4) (-1000000)
  exact pr_q V a b (fun Ret k => q9_purse (iv_tc a) hV k) (fun h1 Ret a1 k => q10_purse (iv_tc a1) hV k)
/-! LIKELY: the same answer -/
def lG (z : Nat → Nat) (DD : Nat → rD) (N : Nat → Nat → Nat) (C : Nat → Nat → Nat → Nat → Int32) (x1 x2 x3 : Int32) (t : Nat × Nat × Nat) : Prop := wkG z DD N C x1 x2 x3 t ∧ t.2.2 ≤ 6
def lV (DD : Nat → rD) (C : Nat → Nat → Nat → Nat → Int32) (x4 : Int32) (t : Nat × Nat × Nat) : Int64 := sp_sd (lkU (DD t.1) (wkY C t.2.1) t.2.2) (lkD (DD t.1) (wkY C t.2.1) t.2.2) x4
theorem q9_likely {x1 x2 x3 x4 : Int32} {V : Int64} (a : tc h z DD N C) (hV : ansE (lG z DD N C x1 x2 x3) (lV DD C x4) (-1) V) (hq : ∀ h', ax_same cl_F h h' → Ret (some (.long V)) h') : mX9_likely g [.ref 0, .int x1, .int x2, .int x3, .int x4] h Ret := by
  have z0 := a.2.2.2.2.1 0 (by decide)
  have z1 := a.2.2.2.2.1 1 (by decide)
  have bad : ∀ h', ax_same cl_F h h' → (∀ t, ¬ lG z DD N C x1 x2 x3 t) → Ret (some (.long (-1))) h' := fun h' hs n => by
    have hv := hq h' hs
    rw [ans_no hV n] at hv
    exact hv
  have big : ∀ t, (6 : Int32) < x3 → ¬ lG z DD N C x1 x2 x3 t := fun t q G => by
    rw [G.1.2.2.2.2.1] at q
    exact nI_nlt (a := 6) (b := t.2.2) G.2 (by decide) q
  refine uX9_likely (fun A hA => vX9_likely_0 hA ⟨a.1.1, q_begun a (fun q => Or.inr ⟨rfl, a.1.1, _, a.1.2.1.1, a.2.2.1.1.1, c_linesAt (s0 := 1) a.2.2.1 (by decide) (by decide) (fun _ => Or.inr ⟨rfl, bad h sm_rf (fun t G => in_no q z0 G.1.1 G.1.2.1)⟩) (fun k hk ex => Or.inl ⟨_, rfl, bad h sm_rf (fun t G => in_no q z0 G.1.1 G.1.2.1)⟩)⟩) (fun k hk ex ok h' hs xs hc => Or.inl ⟨_, rfl, ?_⟩)⟩)
  have b := tc_cl hs a
  have kk : ∀ t, lG z DD N C x1 x2 x3 t → t.1 = k := fun t G => (nI_eq (by have := G.1.1; omega) (by omega)).mp (G.1.2.1.symm.trans ex)
  refine ⟨b.1.1, _, b.1.2.1.1, b.2.2.1.1.1, c_linesAt (s0 := 1) b.2.2.1 (by decide) (by decide) (fun q => Or.inr ⟨rfl, fun _ => bad h' hs (fun t G => in_no q z1 G.1.2.2.1 G.1.2.2.2.1), fun _ => c_stopsN ⟨_, rfl, fun q => absurd q (by decide), fun _ => bad h' hs (fun t G => in_no q z1 G.1.2.2.1 G.1.2.2.2.1)⟩⟩) (fun w hw ew => Or.inl ⟨_, rfl, fun q6 => bad h' hs (fun t => big t q6), fun q6 => c_stopsE hc.1 (b.2.2.1.2.2.2 1 w (by decide) (by decide) hw) (fun no => ⟨_, rfl, fun q => absurd q (by decide), fun _ => bad h' hs (fun t G => ?_)⟩) (fun m em hm hd => ⟨_, rfl, fun _ => ?_, fun q => absurd rfl q⟩)⟩)⟩
  · have ww : t.2.1 = w := (nI_eq (by have := G.1.2.2.1; omega) (by omega)).mp (G.1.2.2.2.1.symm.trans ew)
    have e := G.1.2.2.2.2
    rw [kk t G, ww] at e
    exact no t.2.2 e.1 e.2.1 e.2.2
  · subst em
    have n14 : N 1 w ≤ 14 := (b.2.2.1.2.2.2 1 w (by decide) (by decide) hw).2.1
    have m6 : m ≤ 6 := Nat.le_of_not_lt (fun q => q6 (nI_lt (a := 6) q (by omega)))
    have Gt : lG z DD N C x1 x2 (nI m) (k, w, m) := ⟨⟨hk, ex, hw, ew, rfl, hm, hd⟩, m6⟩
    have eV := ans_yes hV Gt (fun t' G' => wkG_u a.2.2.2.2 Gt.1 G'.1)
    have H12 := ok.1.2
    have key : ∀ n i : Nat, i + n = m → ∀ hh, lgE h hh (DD k) (lvW (DD k) (wkY C w) i) → ∀ (o12 : Option Value), A (53, [some (.ref 0), some (.int x1), some (.int x2), some (.int (nI m)), some (.int x4), some (.ref (6 + 14 * k)), some (.ref (lnp 1 1 w)), some (.long (lkU (DD k) (wkY C w) i)), none, some (.long (lkD (DD k) (wkY C w) i)), none, some (.int (nI i)), o12], [], hh, 0, 0) := by
      intro n
      induction n with
      | zero =>
        intro i hi hh L o12
        have e : i = m := by omega
        subst e
        have bd := lk_bd ok (wkY C w) i m6
        have hv := hq hh L.1
        rw [eV] at hv
        exact vX9_likely_53 hA ⟨fun _ => c_side (by omega) bd.2.1 ⟨_, rfl, hv⟩, fun q => absurd (nI_le (by omega) (by omega)) q⟩
      | succ n ih =>
        intro i hi hh L o12
        have c := tc_cl L.1 a
        have co := L.2
        have li := c.2.2.1.2.2.2 1 w (by decide) (by decide) hw
        obtain ⟨y, hy, ey⟩ := sp_in_ix (by omega) (hd i (by omega))
        have ey2 : wkY C w i = y := by unfold wkY; rw [ey, nI_clamp (by omega)]
        have ev : lvW (DD k) (wkY C w) (i + 1) = (fun p => lvW (DD k) (wkY C w) i p + sp_vl (DD k) p y) := by rw [← ey2]; rfl
        refine vX9_likely_53 hA ⟨fun q => absurd q (nI_ge (by omega) (by omega)), fun _ => ⟨li.1.1, c_lcell (by decide) (by decide) li ⟨_, rfl, c.1.1, _, c.1.2.1.2.2.2.2.1, c.1.1, _, c.1.2.1.2.2.2.1, co.1.1, c_poorest co ⟨_, rfl, c.1.2.2.2.1.1, c_weigh c.1.2.2.2.1 (c.2.2.1.2.2.1 k hk) (fun j hj q => by unfold od_F at q; have := a.2.2.2.2.1 0 (by decide); omega) (fun h2 s2 od => ⟨rfl, ?_⟩)⟩⟩⟩⟩
        rw [show sp_lc (N 1 w) (lw 1) (C 1 w) (nI i) 0 = C 1 w i 0 from lc_in n14 (by decide) (by omega) (by decide)]
        rw [ey]
        have s3 : ax_same cl_F h h2 := sm_tr L.1 (sm_mono s2 (fun x q => by unfold od_F at q; unfold cl_F; omega))
        have c2 := tc_cl s3 a
        have co2 := co_at_same s2 (by refine ⟨?_, ?_, ?_⟩ <;> (intro q; unfold od_F at q; omega)) co
        refine ⟨c2.1.1, _, c2.1.2.1.2.2.2.2.1, od.1.1, _, od.1.2.1, by rw [od.1.2.2], by rw [od.1.2.2]; exact vp_in_nI (by omega) (by decide), c2.1.1, _, c2.1.2.1.2.2.2.2.1, od.1.1, c2.1.1, _, c2.1.2.1.2.2.2.1, co2.1.1, lg_live ok ⟨s3, co2⟩ hy (fun h4 L4 s4 => ⟨rfl, ?_⟩)⟩
        rw [nI_clamp (by omega), od.2.2.2.2 y hy, od.2.2.2.1, ← nI_succ]
        have st := ih (i + 1) (by omega) h4 (by rw [ev]; exact L4) (some (.int (nI y)))
        rw [show lkU (DD k) (wkY C w) (i + 1) = lkU (DD k) (wkY C w) i * (sp_w (DD k) (sp_po (dP (DD k)) (lvW (DD k) (wkY C w) i)) (wkY C w i)).toInt64 from rfl, ey2] at st
        exact st
    exact key m 0 (by omega) h' ⟨hs, hc.2.1⟩ _
theorem q10_likely {x1 x2 x3 x4 : Int32} {V : Int64} (a : tc h z DD N C) (hV : ansE (lG z DD N C x1 x2 x3) (lV DD C x4) (-1) V) (hq : ∀ h', ax_same md_F h h' → Ret (some (.long V)) h') : mX10_likely g [.ref 77, .int x1, .int x2, .int x3, .int x4] h Ret := by
  have z0 := a.2.2.2.2.1 0 (by decide)
  have z1 := a.2.2.2.2.1 1 (by decide)
  have bad : ∀ h', ax_same md_F h h' → (∀ t, ¬ lG z DD N C x1 x2 x3 t) → Ret (some (.long (-1))) h' := fun h' hs n => by
    have hv := hq h' hs
    rw [ans_no hV n] at hv
    exact hv
  obtain ⟨a1, T1, hs1⟩ := q_code (v := 0) a.2.1 a.2.2.2.1
  refine eX10_likely ⟨a.2.1.1, ?_⟩
  intro h1
  refine c_min ⟨_, rfl, fun q => bad _ hs1 (fun t G => ?_), fun q6 => ⟨a1.1, q_hand a1 T1 a.2.2.2.2 (fun q => ⟨_, rfl, fun _ => bad _ hs1 (fun t G => in_no q z0 G.1.1 G.1.2.1), fun q => absurd rfl q⟩) (fun k hk ex ok h' hs hm => ⟨_, rfl, fun q => absurd q (by decide), fun _ => ⟨hm.1.1.1.1, ?_⟩⟩)⟩⟩
  · have f := of_decide_eq_false (b2i_0.mp q)
    have g2 := G.2
    rw [G.1.2.2.2.2.1] at f
    exact f ⟨nI_pos' (by omega), nI_le (b := 6) g2 (by decide)⟩
  have L := lm_hm (sm_tr hs1 hs) hm
  have b := tc_md L.1 a
  have kk : ∀ t, lG z DD N C x1 x2 x3 t → t.1 = k := fun t G => (nI_eq (by have := G.1.1; omega) (by omega)).mp (G.1.2.1.symm.trans ex)
  have Lu : lmE h (ax_pi h' 77 36 x2) k (DD k) (dpu (DD k)) := lm_mr L (mr_f (J := fun j => j = 36) (F := fun _ => False) rfl) (fun j hj => by omega) (fun a ha => ha.elim)
  have s0 : (ax_s (ax_pi h' 77 36 x2) 77).1 = 10 := b.2.1.1
  refine c_mhasWeek b.2.1 b.2.2.2.1 b.2.2.2.2 ⟨_, rfl, fun q => bad _ Lu.1 (fun t G => in_no (b2i_0.mp q) z1 G.1.2.2.1 G.1.2.2.2.1), fun q => ?_⟩
  obtain ⟨w, hw, ew⟩ := sp_in_ix (by omega) (b2i_n0.mp q)
  have e36 : ax_i (ax_pi h' 77 36 x2) 77 36 = nI w := by rw [← ew]; exact ai_eq
  refine ⟨s0, c_liveDaysE a ok Lu hw e36 (fun h2 s2 no => ⟨_, rfl, fun q => absurd rfl q, fun _ => bad h2 s2 (fun t G => ?_)⟩) (fun m em hm hd h2 L2 lk => ?_)⟩
  · have ww : t.2.1 = w := (nI_eq (by have := G.1.2.2.1; omega) (by omega)).mp (G.1.2.2.2.1.symm.trans ew)
    have e := G.1.2.2.2.2
    rw [kk t G, ww] at e
    exact no t.2.2 e.1 e.2.1 e.2.2
  · have n14 : N 1 w ≤ 14 := (a.2.2.2.2.2.2 1 w (by decide) (by decide) hw).1
    have m6 : m ≤ 6 := by
      have := (of_decide_eq_true (b2i_n0.mp q6)).2
      rw [em] at this
      exact (nI_leI (b := 6) (by omega) (by decide)).mp this
    have Gt : lG z DD N C x1 x2 x3 (k, w, m) := ⟨⟨hk, ex, hw, ew, em, hm, hd⟩, m6⟩
    have hv := hq h2 L2.1
    rw [ans_yes hV Gt (fun t' G' => wkG_u a.2.2.2.2 Gt.1 G'.1)] at hv
    have bd := lk_bd ok (wkY C w) m m6
    obtain ⟨l1, l2⟩ := lk m6
    have s2 := L2.2.1.1.1.1
    refine ⟨_, rfl, fun _ => ⟨s2, s2, ?_⟩, fun q => absurd q (by decide)⟩
    rw [l1, l2]
    exact c_part (by omega) bd.2.1 ⟨_, rfl, hv⟩
theorem g_likely (a : IV h S Im tp) (b : 103 ≤ h.1 ∧ h.1 ≤ B) (x1 x2 x3 x4 : Int32) : prL (mX9_likely g) (mX10_likely g) [.ref 0, .int x1, .int x2, .int x3, .int x4] [.ref 77, .int x1, .int x2, .int x3, .int x4] h (inv B) := by
  obtain ⟨V, hV⟩ := ans_ex (lG (s_z S) (s_D S) (s_N S) (s_C S) x1 x2 x3) (lV (s_D S) (s_C S) x4) (-1)
  exact pr_ql V a b (fun Ret k => q9_likely (iv_tc a) hV k) (fun h1 Ret a1 k => q10_likely (iv_tc a1) hV k)
end
end

section
section
variable {g : ax_G} {Ret : Option Value → ax_H → Prop} {h : ax_H} {z : Nat → Nat} {DD : Nat → rD} {N : Nat → Nat → Nat} {C : Nat → Nat → Nat → Nat → Int32} {S : sT} {Im : Nat → Option sT} {tp : Nat → Nat} {B : Nat}
/-! DRAWN: the same answer -/
def hrL (w : Nat → Int32) : Nat → Nat → Int32 → Nat
  | 0, i, _ => i
  | n + 1, i, e => if e < w i then i else hrL w n (i + 1) (e - w i)
theorem hrL_le (w : Nat → Int32) : ∀ n i e, hrL w n i e ≤ i + n
  | 0, i, _ => Nat.le_refl _
  | n + 1, i, e => by
    unfold hrL
    split
    · omega
    · have := hrL_le w n (i + 1) (e - w i); omega
theorem c_hourOfE {H : Nat} {w : Nat → Int32} {t x : Int32} (od : od_at h 55 H w t) (ht : ¬ t = 0) (hH : 1 ≤ H) (hq : Ret (some (.int (nI (hrL w (H - 1) 0 (x - x / t * t))))) h) : mX3_hourOf g [.ref 55, .int x] h Ret := by
  have H12 := od.2.1
  refine uX3_hourOf (fun A hA => vX3_hourOf_0 hA ?_)
  have key : ∀ n i : Nat, i + n = H - 1 → ∀ (o1 : Option Value) (x2 : Int32), Ret (some (.int (nI (hrL w n i x2)))) h → A (20, [some (.ref 55), o1, some (.int x2), some (.int (nI i))], [], h, 0, 0) := by
    intro n
    have e1 : nI H - 1 = nI (H - 1) := by
      obtain ⟨j, rfl⟩ : ∃ j, H = j + 1 := ⟨H - 1, by omega⟩
      exact nI_pred j
    induction n with
    | zero =>
      intro i hi o1 x2 r
      refine vX3_hourOf_20 hA ⟨od.1.1, fun _ => r, fun q => ?_⟩
      rw [od.2.2.1, e1] at q; exact absurd (nI_le (by omega) (by omega)) q
    | succ n ih =>
      intro i hi o1 x2 r
      have ew : ax_i h 56 (nI i).toNatClampNeg = w i := by rw [nI_clamp (by omega)]; exact od.2.2.2.2 i (by omega)
      unfold hrL at r
      refine vX3_hourOf_20 hA ⟨od.1.1, fun q => ?_, fun _ => ⟨od.1.1, _, od.1.2.1, by rw [od.1.2.2], by rw [od.1.2.2]; exact vp_in_nI (by omega) (by decide), fun q => ?_, fun q => ⟨od.1.1, _, od.1.2.1, by rw [od.1.2.2], by rw [od.1.2.2]; exact vp_in_nI (by omega) (by decide), ?_⟩⟩⟩
      · rw [od.2.2.1, e1] at q; exact absurd q (nI_ge (by omega) (by omega))
      · have q : x2 < ax_i h 56 (nI i).toNatClampNeg := q
        rw [ew] at q
        rw [if_pos q] at r
        exact r
      · have q : ¬ x2 < ax_i h 56 (nI i).toNatClampNeg := q
        rw [ew] at q
        rw [if_neg q] at r
        rw [← nI_succ]
        show A (20, [some (.ref 55), _, some (.int (x2 - ax_i h 56 (nI i).toNatClampNeg)), some (.int (nI (i + 1)))], [], h, 0, 0)
        rw [ew]
        exact ih (i + 1) (by omega) _ _ r
  rw [od.2.2.2.1]
  exact ⟨od.1.1, fun _ => ⟨od.1.1, ht, key (H - 1) 0 (by omega) _ _ hq⟩, fun q => absurd q ht⟩
def usr (x : Int32) : Int32 := (x.toUInt32 >>> ((16 : Int32).toUInt32 &&& Int32.toUInt32 31)).toInt32
def drH (D : rD) (x s : Int32) : Nat := hrL (sp_w D x) (dH D - 1) 0 (usr s - usr s / sp_t D x * sp_t D x)
theorem drH_lt {D : rD} (ok : rd_ok D) (x s : Int32) : drH D x s < dH D := by
  have := hrL_le (sp_w D x) (dH D - 1) 0 (usr s - usr s / sp_t D x * sp_t D x)
  have := ok.1.1
  unfold drH
  omega
theorem c_mdrawHourE {m ρ : Nat} {D : rD} {mo pu : Nat → Int32} {vl : Nat → Nat → Int32} {x : Int32} (ok : rd_ok D) (a : mc_at h m ρ D mo pu vl) (b : mw_at h m (dH D) (sp_w D x) (sp_t D x) x) (hq : Ret (some (.int (nI (drH D x (ax_i h m 39 * 1103515245 + 12345))))) (ax_pi h m 39 (ax_i h m 39 * 1103515245 + 12345))) : mX10_drawHour g [.ref m] h Ret := by
  have H12 := ok.1.2
  have H2 := ok.1.1
  obtain ⟨W, hW, hT⟩ := w_sum ok x
  have tb := sp_t_bd ok x
  have τ0 : 0 < sNn W (dH D) ∧ sNn W (dH D) < 2 ^ 31 := by
    have hs : ∀ n, sNn W n ≤ 9 * n := fun n => by
      induction n with
      | zero => exact Nat.le_refl _
      | succ n ih => show sNn W n + W n ≤ 9 * (n + 1); have := (hW n).2; omega
    have s9 := hs (dH D)
    rw [hT, nI_toInt (by omega)] at tb
    omega
  have s0 := a.1.1.1
  refine uX10_drawHour (fun A hA => vX10_drawHour_0 hA ⟨s0, s0, eX10_draw ⟨s0, s0, ?_⟩⟩)
  intro u1
  refine ⟨s0, ?_⟩
  intro z2
  have es : ax_i u1 m 39 = ax_i h m 39 * 1103515245 + 12345 := ai_eq
  have ez2 : z2 = usr (ax_i h m 39 * 1103515245 + 12345) := by
    show usr (ax_i u1 m 39) = _
    rw [es]
  obtain ⟨n, hn, en⟩ := ush16 (ax_i h m 39 * 1103515245 + 12345)
  have en : usr (ax_i h m 39 * 1103515245 + 12345) = nI n := en
  have r1 : mr (fun j => j = 39) (fun _ => False) m h u1 := mr_f rfl
  have e1 := mo_we (mr_st r1 a.1.1)
  unfold drH at hq
  rw [en, hT, pk_rem (by omega) τ0.1 τ0.2] at hq
  rw [b.2.1, hT, ez2, en, pk_rem (by omega) τ0.1 τ0.2]
  refine ⟨nI_ne0 τ0.1 τ0.2, _, rfl, ?_⟩
  have key : ∀ k i e : Nat, i + k = dH D - 1 → e < 2 ^ 31 → e + sNn W i < sNn W (dH D) → Ret (some (.int (nI (hrL (sp_w D x) k i (nI e))))) u1 → A (11, [some (.ref m), some (.int (nI e)), some (.int (nI i))], [], u1, 0, 0) := by
    intro k
    induction k with
    | zero =>
      intro i e hi he hs r
      have ew : ax_i u1 (m + 16) (nI i).toNatClampNeg = nI (W i) := by rw [nI_clamp (by omega), mr_e r1 (by omega) (by exact id), b.1 i (by omega), (hW i).1]
      have w9 := (hW i).2
      refine vX10_drawHour_11 hA ⟨s0, _, e1.1, by rw [e1.2], by rw [e1.2]; exact vp_in_nI (by omega) (by decide), fun q => r, fun q => absurd ?_ q⟩
      rw [ew]
      have : sNn W (dH D) = sNn W i + W i := by rw [show dH D = i + 1 by omega]; rfl
      exact nI_lt (by omega) (by omega)
    | succ k ih =>
      intro i e hi he hs r
      have ew : ax_i u1 (m + 16) (nI i).toNatClampNeg = nI (W i) := by rw [nI_clamp (by omega), mr_e r1 (by omega) (by exact id), b.1 i (by omega), (hW i).1]
      have w9 := (hW i).2
      unfold hrL at r
      rw [(hW i).1] at r
      refine vX10_drawHour_11 hA ⟨s0, _, e1.1, by rw [e1.2], by rw [e1.2]; exact vp_in_nI (by omega) (by decide), fun q => ?_, fun q => ⟨s0, _, e1.1, by rw [e1.2], by rw [e1.2]; exact vp_in_nI (by omega) (by decide), ?_⟩⟩
      · rw [ew] at q
        rw [if_pos q] at r
        exact r
      · rw [ew] at q
        rw [if_neg q] at r
        rw [nI_ltI he (by omega)] at q
        rw [show nI e - nI (W i) = nI (e - W i) from by rw [show nI e = nI (e - W i) + nI (W i) from by rw [nI_add, Nat.sub_add_cancel (by omega)], Int32.add_sub_cancel]] at r
        rw [ew, ← nI_succ, show nI e - nI (W i) = nI (e - W i) from by rw [show nI e = nI (e - W i) + nI (W i) from by rw [nI_add, Nat.sub_add_cancel (by omega)], Int32.add_sub_cancel]]
        exact ih (i + 1) (e - W i) (by omega) (by omega) (by show e - W i + (sNn W i + W i) < _; omega) r
  exact key (dH D - 1) 0 (n % sNn W (dH D)) (by omega) (by have := Nat.mod_lt n τ0.1; omega) (by show _ + 0 < _; have := Nat.mod_lt n τ0.1; omega) hq
def sdN (x : Int32) : Nat → Int32
  | 0 => x
  | n + 1 => sdN x n * 1103515245 + 12345
def drS (D : rD) (x : Int32) : Nat → Nat → Int32
  | 0 => dpu D
  | n + 1 => fun p => drS D x n p + sp_vl D p (drH D (sp_po (dP D) (drS D x n)) (sdN x (n + 1)))
def drY (D : rD) (x : Int32) (n : Nat) : Nat := drH D (sp_po (dP D) (drS D x n)) (sdN x (n + 1))
def drT (D : rD) (x c : Int32) : Nat → Int32
  | 0 => 0
  | n + 1 => if nI (drY D x n) = c then drT D x c n + 1 else drT D x c n
def drL (D : rD) (x : Int32) : Nat → Int32
  | 0 => -1
  | n + 1 => nI (drY D x n)
def drV (D : rD) (x : Int32) (m : Nat) (x4 : Int32) : Int32 := if sp_in x4 (dP D) then drS D x m x4.toNatClampNeg else if x4 = 10 then sp_po (dP D) (drS D x m) else if x4 = 11 then drL D x m else if sp_in (x4 - 20) (dH D) then drT D x (x4 - 20) m else -1000000
def s_drawn (x2 x3 x4 : Int32) (D : rD) : Int32 := if x3 < 0 then -1000000 else if x3 ≤ 60 then drV D x2 x3.toNatClampNeg x4 else -1000000
theorem q9_drawn {x1 x2 x3 x4 : Int32} (a : tc h z DD N C) (hq : ∀ h', ax_same cl_F h h' → Ret (some (.int (qv (z 0) DD x1 (-1000000) (s_drawn x2 x3 x4)))) h') : mX9_drawn g [.ref 0, .int x1, .int x2, .int x3, .int x4] h Ret := by
  have z2 := a.2.2.2.2.1 0 (by decide)
  refine uX9_drawn (fun A hA => vX9_drawn_0 hA ⟨a.1.1, q_begun a (fun q => Or.inr ⟨rfl, ?_⟩) (fun k hk ex ok h' hs xs hc => Or.inl ⟨_, rfl, fun q0 => ?_, fun q0 => ⟨fun q60 => ?_, fun q60 => ?_⟩⟩)⟩)
  · have := hq h sm_rf; rwa [qv_no q] at this
  · have hv := hq h' hs
    rw [qv_yes z2 hk ex] at hv
    unfold s_drawn at hv
    rw [if_pos q0] at hv
    exact hv
  · have hv : ∀ hh, ax_same cl_F h hh → Ret (some (.int (drV (DD k) x2 x3.toNatClampNeg x4))) hh := fun hh hs => by
      have hv := hq hh hs
      rw [qv_yes z2 hk ex] at hv
      unfold s_drawn at hv
      rw [if_neg q0, if_pos q60] at hv
      exact hv
    obtain ⟨m, _, hm, rfl⟩ := i_rng (a := 0) (b := 60) (by omega) (by omega) (nt_lt.mp q0) q60
    rw [nI_clamp (by omega)] at hv
    have key : ∀ n i : Nat, i + n = m → ∀ hh, lgE h hh (DD k) (drS (DD k) x2 i) → A (44, [some (.ref 0), some (.int x1), some (.int x2), some (.int (nI m)), some (.int x4), some (.ref (6 + 14 * k)), some (.int (x4 - 20)), some (.int (drT (DD k) x2 (x4 - 20) i)), some (.int (drL (DD k) x2 i)), some (.int (sdN x2 i)), some (.int (nI i))], [], hh, 0, 0) := by
      intro n
      induction n with
      | zero =>
        intro i hi hh L
        have e : i = m := by omega
        subst e
        have c := tc_cl L.1 a
        have co := L.2
        have rc := c.2.2.1.2.2.1 k hk
        have hw := hv hh L.1
        unfold drV at hw
        refine vX9_drawn_44 hA ⟨fun _ => ⟨rc.1.1, c_hasPerson rc ⟨_, rfl, fun q => ⟨fun n10 => ⟨fun n11 => ⟨rc.1.1, c_hasHour rc ⟨_, rfl, fun q2 => ?_, fun q2 => ?_⟩⟩, fun e11 => ?_⟩, fun e10 => ⟨c.1.1, _, c.1.2.1.2.2.2.1, co.1.1, c_poorest co ⟨_, rfl, ?_⟩⟩⟩, fun q => ⟨c.1.1, _, c.1.2.1.2.2.2.1, co.1.1, ?_⟩⟩⟩, fun q => absurd (nI_le (by omega) (by omega)) q⟩
        · rw [b2i_0.mp q, if_neg Bool.false_ne_true, if_neg n10, if_neg n11, b2i_0.mp q2, if_neg Bool.false_ne_true] at hw; exact hw
        · rw [b2i_0.mp q, if_neg Bool.false_ne_true, if_neg n10, if_neg n11, if_pos (b2i_n0.mp q2)] at hw; exact hw
        · rw [b2i_0.mp q, if_neg Bool.false_ne_true, if_neg n10, if_pos e11] at hw; exact hw
        · rw [b2i_0.mp q, if_neg Bool.false_ne_true, if_pos e10] at hw; exact hw
        · rw [if_pos (b2i_n0.mp q)] at hw
          obtain ⟨p, hp, rfl⟩ := sp_in_ix (by have := ok.2.1; omega) (b2i_n0.mp q)
          obtain ⟨e1, e2, e3⟩ := have_at co hp
          refine ⟨_, e1, e2, e3, ?_⟩
          rw [nI_clamp (by have := ok.2.1; omega)] at hw ⊢
          rw [show ax_i hh 53 p = _ from co.2.2.2.2.1 p hp]
          exact hw
      | succ n ih =>
        intro i hi hh L
        have c := tc_cl L.1 a
        have co := L.2
        refine vX9_drawn_44 hA ⟨fun q => absurd q (nI_ge (by omega) (by omega)), fun _ => ⟨c.1.1, _, c.1.2.1.2.2.2.2.1, c.1.1, _, c.1.2.1.2.2.2.1, co.1.1, c_poorest co ⟨_, rfl, c.1.2.2.2.1.1, c_weigh c.1.2.2.2.1 (c.2.2.1.2.2.1 k hk) (fun j hj q => by unfold od_F at q; have := a.2.2.2.2.1 0 (by decide); omega) (fun h2 s2 od => ⟨rfl, ?_⟩)⟩⟩⟩
        have s3 : ax_same cl_F h h2 := sm_tr L.1 (sm_mono s2 (fun x q => by unfold od_F at q; unfold cl_F; omega))
        have c2 := tc_cl s3 a
        have co2 := co_at_same s2 (by refine ⟨?_, ?_, ?_⟩ <;> (intro q; unfold od_F at q; omega)) co
        refine ⟨c2.1.1, _, c2.1.2.1.2.2.2.2.1, ?_⟩
        intro z24
        have st := fun h4 => ih (i + 1) (by omega) h4
        refine ⟨od.1.1, c_hourOfE od (spt_ne ok _) (by have := ok.1.1; omega) ⟨_, rfl, c2.1.1, _, c2.1.2.1.2.2.2.1, co2.1.1, ?_⟩⟩
        show mX0_live g [.ref 52, .int (nI (drY (DD k) x2 i))] h2 _
        refine lg_live ok ⟨s3, co2⟩ (drH_lt ok _ _) (fun h4 L4 s4 => ⟨rfl, fun q => ?_, fun q => ?_⟩)
        · have t := st h4 L4
          rw [show drT (DD k) x2 (x4 - 20) (i + 1) = drT (DD k) x2 (x4 - 20) i from if_neg q, nI_succ] at t
          rw [Int32.add_zero]
          exact t
        · have t := st h4 L4
          rw [show drT (DD k) x2 (x4 - 20) (i + 1) = drT (DD k) x2 (x4 - 20) i + 1 from if_pos q, nI_succ] at t
          exact t
    exact key m 0 (by omega) h' ⟨hs, hc.2.1⟩
  · have hv := hq h' hs
    rw [qv_yes z2 hk ex] at hv
    unfold s_drawn at hv
    rw [if_neg q0, if_neg q60] at hv
    exact hv
def drC (D : rD) (x : Int32) (q : Nat) : Nat → Int32
  | 0 => 0
  | n + 1 => if drY D x n = q then drC D x q n + 1 else drC D x q n
theorem drC_T {D : rD} (ok : rd_ok D) (x : Int32) {q : Nat} (hq : q < 12) : ∀ n, drC D x q n = drT D x (nI q) n
  | 0 => rfl
  | n + 1 => by
    have := drH_lt ok (sp_po (dP D) (drS D x n)) (sdN x (n + 1))
    have H12 := ok.1.2
    show (if drY D x n = q then drC D x q n + 1 else drC D x q n) = (if nI (drY D x n) = nI q then drT D x (nI q) n + 1 else drT D x (nI q) n)
    rw [drC_T ok x hq n]
    by_cases e : drY D x n = q
    · rw [if_pos e, if_pos (congrArg nI e)]
    · rw [if_neg e, if_neg (fun f => e ((nI_eq (by show drH D (sp_po (dP D) (drS D x n)) (sdN x (n + 1)) < 2 ^ 31; omega) (by omega)).mp f))]
theorem q10_drawn {x1 x2 x3 x4 : Int32} (a : tc h z DD N C) (hq : ∀ h', ax_same md_F h h' → Ret (some (.int (qv (z 0) DD x1 (-1000000) (s_drawn x2 x3 x4)))) h') : mX10_drawn g [.ref 77, .int x1, .int x2, .int x3, .int x4] h Ret := by
  have z2 := a.2.2.2.2.1 0 (by decide)
  obtain ⟨a1, T1, hs1⟩ := q_code (v := 0) a.2.1 a.2.2.2.1
  have bad : ∀ h', ax_same md_F h h' → ¬ (0 ≤ x3 ∧ x3 ≤ 60) → Ret (some (.int (-1000000))) h' := fun h' hs n => by
    have hv := hq h' hs
    have e : qv (z 0) DD x1 (-1000000) (s_drawn x2 x3 x4) = -1000000 := by
      unfold qv
      split
      · unfold s_drawn
        split
        · rfl
        · rename_i c
          split
          · rename_i d
            exact absurd ⟨Int32.not_lt.mp c, d⟩ n
          · rfl
      · rfl
    rw [e] at hv
    exact hv
  refine uX10_drawn (fun A hA => vX10_drawn_0 hA ⟨a.2.1.1, ?_⟩)
  intro h1
  refine c_min ⟨_, rfl, fun q => bad _ hs1 (of_decide_eq_false (b2i_0.mp q)), fun q60 => ⟨a1.1, q_hand a1 T1 a.2.2.2.2 (fun q => ⟨_, rfl, fun _ => ?_, fun q => absurd rfl q⟩) (fun k hk ex ok h' hs hm => ⟨_, rfl, fun q => absurd q (by decide), fun _ => ⟨hm.1.1.1.1, ?_⟩⟩)⟩⟩
  · have := hq _ hs1; rwa [qv_no q] at this
  obtain ⟨p0, p60⟩ := of_decide_eq_true (b2i_n0.mp q60)
  have hv : ∀ hh, ax_same md_F h hh → Ret (some (.int (drV (DD k) x2 x3.toNatClampNeg x4))) hh := fun hh hs => by
    have hv := hq hh hs
    rw [qv_yes z2 hk ex] at hv
    unfold s_drawn at hv
    rw [if_neg (Int32.not_lt.mpr p0), if_pos p60] at hv
    exact hv
  obtain ⟨m, _, hm60, rfl⟩ := i_rng (a := 0) (b := 60) (by omega) (by omega) p0 p60
  rw [nI_clamp (by omega)] at hv
  have L := lm_hm (sm_tr hs1 hs) hm
  have H12 := ok.1.2
  have P6 := ok.2.1
  have Lu : lmE h (ax_pi h' 77 39 x2) k (DD k) (dpu (DD k)) := lm_mr L (mr_f (J := fun j => j = 39) (F := fun _ => False) rfl) (fun j hj => by omega) (fun a ha => ha.elim)
  have s0 := hm.1.1.1.1
  have go : ((∃ p, p < dP (DD k) ∧ x4 = nI p) ∨ (sp_in x4 (dP (DD k)) = false ∧ (10 ≤ x4 ∧ x4 ≤ 11)) ∨ ∃ i, i < dH (DD k) ∧ x4 = nI (20 + i)) → A (76, [some (.ref 77), some (.int x1), some (.int x2), some (.int (nI m)), some (.int x4), some (.int (-1)), some (.int 0)], [], ax_pi h' 77 39 x2, 0, 0) := by
    intro hx
    have k2 : ∀ n i : Nat, i + n = m → ∀ h3, lmE h h3 k (DD k) (drS (DD k) x2 i) → ax_i h3 77 39 = sdN x2 i → (∀ q, q < 12 → ax_i h3 94 q = drC (DD k) x2 q i) → A (100, [some (.ref 77), some (.int x1), some (.int x2), some (.int (nI m)), some (.int x4), some (.int (drL (DD k) x2 i)), some (.int (nI i))], [], h3, 0, 0) := by
      intro n
      induction n with
      | zero =>
        intro i hi h3 L3 e39 eo
        have e : i = m := by omega
        subst e
        have mc := L3.2.1
        have mw := L3.2.2
        have t0 := mc.1.1.1
        have hw := hv h3 L3.1
        unfold drV at hw
        obtain ⟨e1, e2⟩ := mo_pu mc.1.1
        obtain ⟨f1, f2⟩ := mo_dr mc.1.1
        refine vX10_drawn_100 hA ⟨fun _ => ⟨fun n10 => ⟨fun n11 => ⟨fun q => ⟨t0, _, f1, by rw [f2], ?_⟩, fun q => ⟨t0, _, e1, by rw [e2], ?_⟩⟩, fun e11 => ?_⟩, fun e10 => ⟨t0, ?_⟩⟩, fun q => absurd (nI_le (by omega) (by omega)) q⟩
        · rw [f2]
          rcases hx with ⟨p, hp, rfl⟩ | y | ⟨j, hj, rfl⟩
          · exact absurd q (nI_ge (a := p) (b := 10) (by omega) (by decide))
          · obtain ⟨j, j1, j2, rfl⟩ := i_rng (a := 10) (b := 11) (by decide) (by decide) y.2.1 y.2.2
            rcases (by omega : j = 10 ∨ j = 11) with rfl | rfl
            · exact absurd rfl n10
            · exact absurd rfl n11
          · have no : sp_in (nI (20 + j)) (dP (DD k)) = false := by
              unfold sp_in
              exact decide_eq_false (fun w => absurd w.2 (nI_nlt (by omega) (by omega)))
            have e20 : nI (20 + j) - 20 = nI j := ni_sb
            rw [no, if_neg Bool.false_ne_true, if_neg n10, if_neg n11, e20, sp_in_nI (by omega) hj, if_pos rfl, ← drC_T ok x2 (by omega), ← eo j (by omega)] at hw
            rw [e20]
            refine ⟨vp_in_nI (by omega) (by decide), ?_⟩
            rw [nI_clamp (by omega)]
            exact hw
        · rw [e2]
          rcases hx with ⟨p, hp, rfl⟩ | y | ⟨j, hj, rfl⟩
          · rw [sp_in_nI (by omega) hp, if_pos rfl, nI_clamp (by omega)] at hw
            refine ⟨vp_in_nI (by omega) (by decide), ?_⟩
            rw [nI_clamp (by omega), show ax_i h3 (77 + 13) p = _ from mc.2.1 p hp]
            exact hw
          · exact absurd y.2.1 q
          · exact absurd (nI_le (a := 10) (b := 20 + j) (by omega) (by omega)) q
        · rw [show sp_in x4 (dP (DD k)) = false from by
            rw [e11]
            unfold sp_in
            exact decide_eq_false (fun w => absurd w.2 (nI_nlt (a := 11) (by omega) (by omega))), if_neg Bool.false_ne_true, if_neg n10, if_pos e11] at hw
          exact hw
        · rw [show sp_in x4 (dP (DD k)) = false from by
            rw [e10]
            unfold sp_in
            exact decide_eq_false (fun w => absurd w.2 (nI_nlt (a := 10) (by omega) (by omega))), if_neg Bool.false_ne_true, if_pos e10] at hw
          rw [mw.2.2]
          exact hw
      | succ n ih =>
        intro i hi h3 L3 e39 eo
        have mc := L3.2.1
        have mw := L3.2.2
        have t0 := mc.1.1.1
        obtain ⟨f1, f2⟩ := mo_dr mc.1.1
        have yl : drY (DD k) x2 i < dH (DD k) := drH_lt ok _ _
        have ey : drH (DD k) (sp_po (dP (DD k)) (drS (DD k) x2 i)) (ax_i h3 77 39 * 1103515245 + 12345) = drY (DD k) x2 i := by rw [e39]; rfl
        refine vX10_drawn_100 hA ⟨fun q => absurd q (nI_ge (by omega) (by omega)), fun _ => ⟨t0, c_mdrawHourE ok mc mw ?_⟩⟩
        rw [ey]
        refine ⟨_, rfl, t0, _, f1, ⟨rfl, rfl⟩, by show (ax_s h3 (77 + 17)).1 = 11; rw [f2], by show vp_in (nI (drY (DD k) x2 i)) (ax_s h3 (77 + 17)).2; rw [f2]; exact vp_in_nI (by omega) (by decide), by show (ax_s h3 (77 + 17)).1 = 11; rw [f2], by show vp_in (nI (drY (DD k) x2 i)) (ax_s h3 (77 + 17)).2; rw [f2]; exact vp_in_nI (by omega) (by decide), ?_⟩
        intro u5
        have r5 : mr (fun j => j = 39) (fun a => a = 94) 77 h3 u5 := mr_tr (mr_f rfl) (mr_c rfl (by decide))
        have L5 := lm_mr L3 r5 (fun j hj => by omega) (fun a ha => by omega)
        refine ⟨t0, lm_live L5 yl (fun h6 L6 r6 => ⟨rfl, ?_⟩)⟩
        rw [← nI_succ]
        refine ih (i + 1) (by omega) h6 L6 ?_ (fun q hq => ?_)
        · rw [(r6.2 39 (by decide)).1]
          show ax_i (ax_pi (ax_pi h3 77 39 (ax_i h3 77 39 * 1103515245 + 12345)) (77 + 17) _ _) 77 39 = _
          rw [ai_pi, if_neg (by omega), ai_eq, e39]
          rfl
        · rw [mr_e r6 (x := 94) (by omega) (by omega)]
          show ax_i (ax_pi (ax_pi h3 77 39 (ax_i h3 77 39 * 1103515245 + 12345)) 94 (nI (drY (DD k) x2 i)).toNatClampNeg (ax_i (ax_pi h3 77 39 (ax_i h3 77 39 * 1103515245 + 12345)) 94 (nI (drY (DD k) x2 i)).toNatClampNeg + 1)) 94 q = _
          rw [nI_clamp (by omega)]
          by_cases e : q = drY (DD k) x2 i
          · rw [ai_pi, if_pos ⟨rfl, e⟩, ai_pi, if_neg (by omega), eo _ (by omega), show drC (DD k) x2 q (i + 1) = drC (DD k) x2 q i + 1 from if_pos e.symm, e]
          · rw [ai_pi, if_neg (fun w => e w.2), ai_pi, if_neg (by omega), eo q hq, show drC (DD k) x2 q (i + 1) = drC (DD k) x2 q i from if_neg (fun w => e w.symm)]
    have k1 : ∀ n i : Nat, i + n = 12 → ∀ h3, lmE h h3 k (DD k) (dpu (DD k)) → ax_i h3 77 39 = x2 → (∀ q, q < i → ax_i h3 94 q = 0) → A (76, [some (.ref 77), some (.int x1), some (.int x2), some (.int (nI m)), some (.int x4), some (.int (-1)), some (.int (nI i))], [], h3, 0, 0) := by
      intro n
      induction n with
      | zero =>
        intro i hi h3 L3 e39 eo
        exact vX10_drawn_76 hA ⟨fun _ => k2 m 0 (by omega) h3 L3 e39 (fun q hq => eo q (by omega)), fun q => absurd (nI_le (a := 12) (b := i) (by omega) (by omega)) q⟩
      | succ n ih =>
        intro i hi h3 L3 e39 eo
        have mc := L3.2.1
        obtain ⟨f1, f2⟩ := mo_dr mc.1.1
        refine vX10_drawn_76 hA ⟨fun q => absurd q (nI_ge (a := i) (b := 12) (by omega) (by decide)), fun _ => ⟨mc.1.1.1, _, f1, by rw [f2], by rw [f2]; exact vp_in_nI (by omega) (by decide), ?_⟩⟩
        intro u5
        rw [← nI_succ]
        refine ih (i + 1) (by omega) u5 (lm_mr L3 (mr_c (J := fun _ => False) (F := fun a => a = 94) rfl (by decide)) (fun j hj => hj.elim) (fun a ha => by omega)) ?_ (fun q hq => ?_)
        · show ax_i (ax_pi h3 (77 + 17) _ _) 77 39 = x2
          rw [ai_pi, if_neg (by omega)]; exact e39
        · show ax_i (ax_pi h3 94 (nI i).toNatClampNeg 0) 94 q = 0
          rw [nI_clamp (by omega), ai_pi]
          by_cases e : q = i
          · rw [if_pos ⟨rfl, e⟩]
          · rw [if_neg (fun w => e w.2)]; exact eo q (by omega)
    exact k1 12 0 (by decide) _ Lu ai_eq (fun q hq => absurd hq (Nat.not_lt_zero q))
  refine c_misOne hm.1.1 ⟨_, rfl, fun q => ⟨s0, go (Or.inl ?_)⟩, fun q1 => c_min ⟨_, rfl, fun q => ⟨s0, go (Or.inr (Or.inl ⟨b2i_0.mp q1, of_decide_eq_true (b2i_n0.mp q)⟩))⟩, fun q2 => ⟨s0, ?_⟩⟩⟩
  · exact sp_in_ix (by omega) (b2i_n0.mp q)
  · rw [hm.1.1.2.2.2.2.1, show (19 : Int32) + nI (dH (DD k)) = nI (19 + dH (DD k)) from ni_c 19 _]
    refine c_min ⟨_, rfl, fun q => ⟨s0, go (Or.inr (Or.inr ?_))⟩, fun q => ?_⟩
    · obtain ⟨n, n1, n2, rfl⟩ := i_rng (a := 20) (b := 19 + dH (DD k)) (by omega) (by have := ok.1.1; omega) (of_decide_eq_true (b2i_n0.mp q)).1 (of_decide_eq_true (b2i_n0.mp q)).2
      obtain ⟨i, rfl⟩ := Nat.exists_eq_add_of_le n1
      exact ⟨i, by omega, rfl⟩
    · have hw := hv h' L.1
      unfold drV at hw
      have f2 := of_decide_eq_false (b2i_0.mp q2)
      have f3 := of_decide_eq_false (b2i_0.mp q)
      rw [b2i_0.mp q1, if_neg Bool.false_ne_true, if_neg (fun e => f2 (by rw [e]; decide)), if_neg (fun e => f2 (by rw [e]; decide)), if_neg (fun e => ?_)] at hw
      · exact hw
      · obtain ⟨i, hi, ei⟩ := sp_in_ix (by omega) e
        have ex4 : x4 = nI (20 + i) := by
          rw [show nI (20 + i) = 20 + nI i from (ni_c 20 i).symm, ← ei, Int32.add_comm, Int32.sub_add_cancel]
        rw [ex4] at f3
        exact f3 ⟨nI_le (a := 20) (by omega) (by omega), nI_le (by omega) (by omega)⟩
theorem g_drawn (a : IV h S Im tp) (b : 103 ≤ h.1 ∧ h.1 ≤ B) (x1 x2 x3 x4 : Int32) : prI (mX9_drawn g) (mX10_drawn g) [.ref 0, .int x1, .int x2, .int x3, .int x4] [.ref 77, .int x1, .int x2, .int x3, .int x4] h (inv B) := pr_q _ a b (fun Ret k => q9_drawn (iv_tc a) k) (fun h1 Ret a1 k => q10_drawn (iv_tc a1) k)
end
end

section
section
variable {g : ax_G} {Ret : Option Value → ax_H → Prop} {h : ax_H} {z : Nat → Nat} {DD : Nat → rD} {N : Nat → Nat → Nat} {C : Nat → Nat → Nat → Nat → Int32} {S : sT} {Im : Nat → Option sT} {tp : Nat → Nat} {B : Nat}
/-! REIGN: the same answer -/
def rgY (D : rD) (hv : Nat → Int32) : Nat := if sp_po (dP D) hv = -1 then 0 else bst (fun q => sp_br (dP D) (dH D) (sp_vl D) (sp_po (dP D) hv) (nI q)) (dH D - 1)
def rgS (D : rD) : Nat → Nat → Int32
  | 0 => dpu D
  | n + 1 => fun p => rgS D n p + sp_vl D p (rgY D (rgS D n))
def rgR (D : rD) (n : Nat) : Int32 := sp_po (dP D) (rgS D n)
def rgF (D : rD) : Nat → Int32
  | 0 => -1
  | n + 1 => if rgF D n = -1 ∧ ¬ rgR D (n + 1) = rgR D n then nI n else rgF D n
def rgT (D : rD) (c : Int32) : Nat → Int32
  | 0 => 0
  | n + 1 => if rgR D n = c then rgT D c n + 1 else rgT D c n
def rgA (D : rD) (c : Int32) : Nat → Int32
  | 0 => -1000000
  | n + 1 => if nI n = c then nI (rgY D (rgS D n)) else rgA D c n
def rgV (D : rD) (m : Nat) (x3 : Int32) : Int32 := if sp_in x3 (dP D) then rgS D m x3.toNatClampNeg else if x3 = 10 then rgR D m else if x3 = 11 then rgF D m else if sp_in (x3 - 20) (dP D) then rgT D (x3 - 20) m else rgA D (x3 - 100) m
def s_reign (x2 x3 : Int32) (D : rD) : Int32 := if x2 < 0 then -1000000 else if x2 ≤ 60 then rgV D x2.toNatClampNeg x3 else -1000000
theorem rgY_lt {D : rD} (ok : rd_ok D) (hv : Nat → Int32) : rgY D hv < dH D := by
  have := ok.1.1
  unfold rgY
  split
  · omega
  · have := bst_le (fun q => sp_br (dP D) (dH D) (sp_vl D) (sp_po (dP D) hv) (nI q)) (dH D - 1); omega
theorem rgF_1 {D : rD} {i : Nat} (q : ¬ rgF D i = -1) : rgF D i = rgF D (i + 1) := (if_neg (fun w => q w.1)).symm
theorem rgF_2 {D : rD} {i : Nat} (q : rgR D (i + 1) = rgR D i) : rgF D i = rgF D (i + 1) := (if_neg (fun w => w.2 q)).symm
theorem rgF_3 {D : rD} {i : Nat} (e : rgF D i = -1) (q : ¬ rgR D (i + 1) = rgR D i) : nI i = rgF D (i + 1) := (if_pos ⟨e, q⟩).symm
theorem rgT_1 {D : rD} {c : Int32} {i : Nat} (q : ¬ rgR D i = c) : rgT D c i + 0 = rgT D c (i + 1) := by rw [Int32.add_zero]; exact (if_neg q).symm
theorem rgT_2 {D : rD} {c : Int32} {i : Nat} (q : rgR D i = c) : rgT D c i + 1 = rgT D c (i + 1) := (if_pos q).symm
theorem rgA_1 {D : rD} {c : Int32} {i : Nat} (q : ¬ nI i = c) : rgA D c i = rgA D c (i + 1) := (if_neg q).symm
theorem rgA_2 {D : rD} {c : Int32} {i : Nat} (q : nI i = c) : nI (rgY D (rgS D i)) = rgA D c (i + 1) := (if_pos q).symm
theorem q9_reign {x1 x2 x3 : Int32} (a : tc h z DD N C) (hq : ∀ h', ax_same cl_F h h' → Ret (some (.int (qv (z 0) DD x1 (-1000000) (s_reign x2 x3)))) h') : mX9_reign g [.ref 0, .int x1, .int x2, .int x3] h Ret := by
  have z2 := a.2.2.2.2.1 0 (by decide)
  refine uX9_reign (fun A hA => vX9_reign_0 hA ⟨a.1.1, q_begun a (fun q => Or.inr ⟨rfl, ?_⟩) (fun k hk ex ok h' hs xs hc => Or.inl ⟨_, rfl, fun q0 => ?_, fun q0 => ⟨fun q60 => ?_, fun q60 => ?_⟩⟩)⟩)
  · have := hq h sm_rf; rwa [qv_no q] at this
  · have hv := hq h' hs
    rw [qv_yes z2 hk ex] at hv
    unfold s_reign at hv
    rw [if_pos q0] at hv
    exact hv
  · have hv : ∀ hh, ax_same cl_F h hh → Ret (some (.int (rgV (DD k) x2.toNatClampNeg x3))) hh := fun hh hs => by
      have hv := hq hh hs
      rw [qv_yes z2 hk ex] at hv
      unfold s_reign at hv
      rw [if_neg q0, if_pos q60] at hv
      exact hv
    obtain ⟨m, _, hm, rfl⟩ := i_rng (a := 0) (b := 60) (by omega) (by omega) (nt_lt.mp q0) q60
    rw [nI_clamp (by omega)] at hv
    have key : ∀ n i : Nat, i + n = m → ∀ hh, lgE h hh (DD k) (rgS (DD k) i) → ∀ (o9 o10 : Option Value), A (38, [some (.ref 0), some (.int x1), some (.int (nI m)), some (.int x3), some (.ref (6 + 14 * k)), some (.int (rgF (DD k) i)), some (.int (rgT (DD k) (x3 - 20) i)), some (.int (rgA (DD k) (x3 - 100) i)), some (.int (nI i)), o9, o10], [], hh, 0, 0) := by
      intro n
      induction n with
      | zero =>
        intro i hi hh L o9 o10
        have e : i = m := by omega
        subst e
        have c := tc_cl L.1 a
        have co := L.2
        have rc := c.2.2.1.2.2.1 k hk
        have hw := hv hh L.1
        unfold rgV at hw
        refine vX9_reign_38 hA ⟨fun _ => ⟨rc.1.1, c_hasPerson rc ⟨_, rfl, fun q => ⟨fun n10 => ⟨fun n11 => ⟨rc.1.1, c_hasPerson rc ⟨_, rfl, fun q2 => ?_, fun q2 => ?_⟩⟩, fun e11 => ?_⟩, fun e10 => ⟨c.1.1, _, c.1.2.1.2.2.2.1, co.1.1, c_poorest co ⟨_, rfl, ?_⟩⟩⟩, fun q => ⟨c.1.1, _, c.1.2.1.2.2.2.1, co.1.1, ?_⟩⟩⟩, fun q => absurd (nI_le (by omega) (by omega)) q⟩
        · rw [b2i_0.mp q, if_neg Bool.false_ne_true, if_neg n10, if_neg n11, b2i_0.mp q2, if_neg Bool.false_ne_true] at hw; exact hw
        · rw [b2i_0.mp q, if_neg Bool.false_ne_true, if_neg n10, if_neg n11, if_pos (b2i_n0.mp q2)] at hw; exact hw
        · rw [b2i_0.mp q, if_neg Bool.false_ne_true, if_neg n10, if_pos e11] at hw; exact hw
        · rw [b2i_0.mp q, if_neg Bool.false_ne_true, if_pos e10] at hw; exact hw
        · rw [if_pos (b2i_n0.mp q)] at hw
          obtain ⟨p, hp, rfl⟩ := sp_in_ix (by have := ok.2.1; omega) (b2i_n0.mp q)
          obtain ⟨e1, e2, e3⟩ := have_at co hp
          refine ⟨_, e1, e2, e3, ?_⟩
          rw [nI_clamp (by have := ok.2.1; omega)] at hw ⊢
          rw [show ax_i hh 53 p = _ from co.2.2.2.2.1 p hp]
          exact hw
      | succ n ih =>
        intro i hi hh L o9 o10
        have c := tc_cl L.1 a
        have co := L.2
        have K : ∀ h4, lgE h h4 (DD k) (rgS (DD k) (i + 1)) → ∀ {x5 x6 x7 : Int32}, x5 = rgF (DD k) (i + 1) → x6 = rgT (DD k) (x3 - 20) (i + 1) → x7 = rgA (DD k) (x3 - 100) (i + 1) → ∀ (o9 o10 : Option Value), A (38, [some (.ref 0), some (.int x1), some (.int (nI m)), some (.int x3), some (.ref (6 + 14 * k)), some (.int x5), some (.int x6), some (.int x7), some (.int (nI i + 1)), o9, o10], [], h4, 0, 0) := fun h4 L4 {x5 x6 x7} e5 e6 e7 o9 o10 => by rw [← nI_succ, e5, e6, e7]; exact ih (i + 1) (by omega) h4 L4 _ _
        have yl := rgY_lt ok (rgS (DD k) i)
        refine vX9_reign_38 hA ⟨fun q => absurd q (nI_ge (by omega) (by omega)), fun _ => ⟨c.1.1, _, c.1.2.1.2.2.2.1, co.1.1, c_poorest co ⟨_, rfl, fun r1 => ⟨c.1.1, _, c.1.2.1.2.2.2.1, co.1.1, c_bestHour (by have := ok.1.1; omega) co ⟨_, rfl, c.1.1, _, c.1.2.1.2.2.2.1, co.1.1, ?_⟩⟩, fun r1 => ⟨c.1.1, _, c.1.2.1.2.2.2.1, co.1.1, ?_⟩⟩⟩⟩
        · have ey : sp_bh (dP (DD k)) (dH (DD k)) (sp_vl (DD k)) (sp_po (dP (DD k)) (rgS (DD k) i)) = nI (rgY (DD k) (rgS (DD k) i)) := by
            unfold rgY; rw [if_neg r1]; rfl
          rw [ey]
          refine lg_live ok L yl (fun h4 L4 s4 => ⟨rfl, fun f1 => ?_, fun f1 => ?_⟩)
          · exact ⟨fun t => ⟨fun s => K h4 L4 (rgF_1 f1) (rgT_1 t) (rgA_1 s) _ _, fun s => K h4 L4 (rgF_1 f1) (rgT_1 t) (rgA_2 s) _ _⟩, fun t => ⟨fun s => K h4 L4 (rgF_1 f1) (rgT_2 t) (rgA_1 s) _ _, fun s => K h4 L4 (rgF_1 f1) (rgT_2 t) (rgA_2 s) _ _⟩⟩
          · have c4 := tc_cl L4.1 a
            have co4 := L4.2
            exact ⟨c4.1.1, _, c4.1.2.1.2.2.2.1, co4.1.1, c_poorest co4 ⟨_, rfl, fun u => ⟨fun t => ⟨fun s => K h4 L4 (rgF_2 u) (rgT_1 t) (rgA_1 s) _ _, fun s => K h4 L4 (rgF_2 u) (rgT_1 t) (rgA_2 s) _ _⟩, fun t => ⟨fun s => K h4 L4 (rgF_2 u) (rgT_2 t) (rgA_1 s) _ _, fun s => K h4 L4 (rgF_2 u) (rgT_2 t) (rgA_2 s) _ _⟩⟩, fun u => ⟨fun t => ⟨fun s => K h4 L4 (rgF_3 f1 u) (rgT_1 t) (rgA_1 s) _ _, fun s => K h4 L4 (rgF_3 f1 u) (rgT_1 t) (rgA_2 s) _ _⟩, fun t => ⟨fun s => K h4 L4 (rgF_3 f1 u) (rgT_2 t) (rgA_1 s) _ _, fun s => K h4 L4 (rgF_3 f1 u) (rgT_2 t) (rgA_2 s) _ _⟩⟩⟩⟩
        · have ey : (0 : Int32) = nI (rgY (DD k) (rgS (DD k) i)) := by
            unfold rgY; rw [if_pos r1]; rfl
          have e0 : rgY (DD k) (rgS (DD k) i) = 0 := if_pos r1
          have eS : rgS (DD k) (i + 1) = (fun p => rgS (DD k) i p + sp_vl (DD k) p 0) := by
            show (fun p => rgS (DD k) i p + sp_vl (DD k) p (rgY (DD k) (rgS (DD k) i))) = _
            rw [e0]
          rw [e0] at yl
          refine lg_live (q := 0) ok L yl (fun h4 L4' s4 => ⟨rfl, fun f1 => ?_, fun f1 => ?_⟩)
          · have L4 : lgE h h4 (DD k) (rgS (DD k) (i + 1)) := by rw [eS]; exact L4'
            exact ⟨fun t => ⟨fun s => K h4 L4 (rgF_1 f1) (rgT_1 t) (rgA_1 s) _ _, fun s => K h4 L4 (rgF_1 f1) (rgT_1 t) (ey.trans (rgA_2 s)) _ _⟩, fun t => ⟨fun s => K h4 L4 (rgF_1 f1) (rgT_2 t) (rgA_1 s) _ _, fun s => K h4 L4 (rgF_1 f1) (rgT_2 t) (ey.trans (rgA_2 s)) _ _⟩⟩
          · have L4 : lgE h h4 (DD k) (rgS (DD k) (i + 1)) := by rw [eS]; exact L4'
            have c4 := tc_cl L4.1 a
            have co4 := L4.2
            exact ⟨c4.1.1, _, c4.1.2.1.2.2.2.1, co4.1.1, c_poorest co4 ⟨_, rfl, fun u => ⟨fun t => ⟨fun s => K h4 L4 (rgF_2 u) (rgT_1 t) (rgA_1 s) _ _, fun s => K h4 L4 (rgF_2 u) (rgT_1 t) (ey.trans (rgA_2 s)) _ _⟩, fun t => ⟨fun s => K h4 L4 (rgF_2 u) (rgT_2 t) (rgA_1 s) _ _, fun s => K h4 L4 (rgF_2 u) (rgT_2 t) (ey.trans (rgA_2 s)) _ _⟩⟩, fun u => ⟨fun t => ⟨fun s => K h4 L4 (rgF_3 f1 u) (rgT_1 t) (rgA_1 s) _ _, fun s => K h4 L4 (rgF_3 f1 u) (rgT_1 t) (ey.trans (rgA_2 s)) _ _⟩, fun t => ⟨fun s => K h4 L4 (rgF_3 f1 u) (rgT_2 t) (rgA_1 s) _ _, fun s => K h4 L4 (rgF_3 f1 u) (rgT_2 t) (ey.trans (rgA_2 s)) _ _⟩⟩⟩⟩
    exact key m 0 (by omega) h' ⟨hs, hc.2.1⟩ _ _
  · have hv := hq h' hs
    rw [qv_yes z2 hk ex] at hv
    unfold s_reign at hv
    rw [if_neg q0, if_neg q60] at hv
    exact hv
theorem c_reignDaysE {hh : ax_H} {k m : Nat} (ok : rd_ok (DD k)) (hm : m ≤ 60) (L : lmE h hh k (DD k) (dpu (DD k))) (h1 : ∀ h2, lmE h h2 k (DD k) (rgS (DD k) m) → (∀ d, d < m → ax_i h2 100 d = nI (rgY (DD k) (rgS (DD k) d))) → (∀ p, p < 6 → ax_i h2 101 p = rgT (DD k) (nI p) m) → Ret (some (.int (rgF (DD k) m))) h2) : mX10_reignDays g [.ref 77, .int (nI m)] hh Ret := by
  have H12 := ok.1.2
  have P6 := ok.2.1
  refine uX10_reignDays (fun A hA => vX10_reignDays_0 hA ?_)
  have k2 : ∀ n i : Nat, i + n = m → ∀ h3, lmE h h3 k (DD k) (rgS (DD k) i) → (∀ d, d < i → ax_i h3 100 d = nI (rgY (DD k) (rgS (DD k) d))) → (∀ p, p < 6 → ax_i h3 101 p = rgT (DD k) (nI p) i) → ∀ (o4 : Option Value), A (25, [some (.ref 77), some (.int (nI m)), some (.int (rgF (DD k) i)), some (.int (nI i)), o4], [], h3, 0, 0) := by
    intro n
    induction n with
    | zero =>
      intro i hi h3 L3 ed ep o4
      have e : i = m := by omega
      subst e
      exact vX10_reignDays_25 hA ⟨fun _ => h1 _ L3 ed ep, fun q => absurd (nI_le (by omega) (by omega)) q⟩
    | succ n ih =>
      intro i hi h3 L3 ed ep o4
      have mc := L3.2.1
      have mw := L3.2.2
      have t0 := mc.1.1.1
      obtain ⟨e1, e2⟩ := mo_rh mc.1.1
      obtain ⟨f1, f2⟩ := mo_rt mc.1.1
      have yl := rgY_lt ok (rgS (DD k) i)
      have v60 : vp_in (nI i) (ax_s h3 (77 + 23)).2 := by rw [e2]; exact vp_in_nI (by omega) (by decide)
      have s60 : (ax_s h3 (77 + 23)).1 = 11 := by rw [e2]
      have K : ∀ h6, lmE h h6 k (DD k) (rgS (DD k) (i + 1)) → (∀ d, d < i + 1 → ax_i h6 100 d = nI (rgY (DD k) (rgS (DD k) d))) → (∀ p, p < 6 → ax_i h6 101 p = rgT (DD k) (nI p) (i + 1)) → ∀ {x2 : Int32}, x2 = rgF (DD k) (i + 1) → ∀ (o4 : Option Value), A (25, [some (.ref 77), some (.int (nI m)), some (.int x2), some (.int (nI i + 1)), o4], [], h6, 0, 0) := fun h6 L6 a6 b6 {x2} e o4 => by rw [← nI_succ, e]; exact ih (i + 1) (by omega) h6 L6 a6 b6 _
      have e33 : ax_i h3 77 33 = rgR (DD k) i := mw.2.2
      refine vX10_reignDays_25 hA ⟨fun q => absurd q (nI_ge (by omega) (by omega)), fun _ => ⟨t0, t0, _, e1, fun q => ?_, fun q => ⟨s60, v60, ?_⟩⟩⟩
      · rw [e33] at q
        rcases po_ix (P := dP (DD k)) (pu := rgS (DD k) i) with e | ⟨p, hp, e⟩
        · exact absurd e q
        · have eR : rgR (DD k) i = nI p := e
          have eY : sp_bh (dP (DD k)) (dH (DD k)) (sp_vl (DD k)) (nI p) = nI (rgY (DD k) (rgS (DD k) i)) := by
            unfold rgY
            rw [if_neg (show ¬ sp_po (dP (DD k)) (rgS (DD k) i) = -1 from q), e]
            rfl
          rw [e33, eR]
          refine ⟨t0, c_mwishOf (by have := ok.1.1; omega) mc hp ⟨_, rfl, s60, v60, ?_⟩⟩
          rw [eY]
          intro u7
          have v6 : vp_in (nI p) (ax_s h3 (77 + 24)).2 := by rw [f2]; exact vp_in_nI (by omega) (by decide)
          have s6 : (ax_s h3 (77 + 24)).1 = 11 := by rw [f2]
          refine ⟨fun q9 => absurd q9 (nI_nm1 (by omega)), fun _ => ⟨t0, _, f1, ⟨rfl, rfl⟩, s6, v6, s6, v6, ?_⟩⟩
          intro u12
          have L12 : lmE h u12 k (DD k) (rgS (DD k) i) := lm_mr L3 (mr_tr (mr_c (J := fun _ => False) (F := fun a => a = 100 ∨ a = 101) (Or.inl rfl) (by decide)) (mr_c (Or.inr rfl) (by decide))) (fun j hj => hj.elim) (fun a ha => by omega)
          refine ⟨t0, _, e1, s60, v60, t0, ?_⟩
          have ev : ax_i u12 (77 + 23) (nI i).toNatClampNeg = nI (rgY (DD k) (rgS (DD k) i)) := by
            show ax_i (ax_pi (ax_pi h3 100 _ _) 101 _ _) 100 _ = _
            rw [ai_pi, if_neg (by omega), ai_pi, if_pos ⟨rfl, rfl⟩]
          rw [ev]
          have pd : ∀ d, d < i + 1 → ax_i u12 100 d = nI (rgY (DD k) (rgS (DD k) d)) := fun d hd => by
            show ax_i (ax_pi (ax_pi h3 100 (nI i).toNatClampNeg _) 101 _ _) 100 d = _
            rw [ai_pi, if_neg (by omega), nI_clamp (by omega), ai_pi]
            by_cases w : d = i
            · rw [if_pos ⟨rfl, w⟩, w]
            · rw [if_neg (fun v => w v.2)]; exact ed d (by omega)
          have pp : ∀ r, r < 6 → ax_i u12 101 r = rgT (DD k) (nI r) (i + 1) := fun r hr => by
            show ax_i (ax_pi (ax_pi h3 100 (nI i).toNatClampNeg _) 101 (nI p).toNatClampNeg (ax_i (ax_pi h3 100 (nI i).toNatClampNeg _) 101 (nI p).toNatClampNeg + 1)) 101 r = _
            rw [nI_clamp (n := p) (by omega)]
            by_cases w : r = p
            · rw [ai_pi, if_pos ⟨rfl, w⟩, ai_pi, if_neg (by omega), ep p (by omega), ← rgT_2 (show rgR (DD k) i = nI r from by rw [w]; exact eR), w]
            · rw [ai_pi, if_neg (fun v => w v.2), ai_pi, if_neg (by omega), ep r hr, ← rgT_1 (show ¬ rgR (DD k) i = nI r from fun v => w ((nI_eq (by omega) (by omega)).mp (v.symm.trans eR))), Int32.add_zero]
          refine lm_live L12 yl (fun h6 L6 r6 => ?_)
          have d6 : ∀ d, d < i + 1 → ax_i h6 100 d = nI (rgY (DD k) (rgS (DD k) d)) := fun d hd => by rw [mr_e r6 (x := 100) (by omega) (by omega)]; exact pd d hd
          have p6 : ∀ r, r < 6 → ax_i h6 101 r = rgT (DD k) (nI r) (i + 1) := fun r hr => by rw [mr_e r6 (x := 101) (by omega) (by omega)]; exact pp r hr
          have e6 : ax_i h6 77 33 = rgR (DD k) (i + 1) := L6.2.2.2.2
          refine ⟨rfl, fun f => K h6 L6 d6 p6 (rgF_1 f) _, fun f => ⟨L6.2.1.1.1.1, fun u => K h6 L6 d6 p6 (rgF_2 ?_) _, fun u => K h6 L6 d6 p6 (rgF_3 f (fun w => u ?_)) _⟩⟩
          · rw [← e6, eR]; exact u
          · rw [e6, w]; exact eR
      · have eR : rgR (DD k) i = -1 := e33.symm.trans q
        have eY : (0 : Int32) = nI (rgY (DD k) (rgS (DD k) i)) := by
          unfold rgY
          rw [if_pos (show sp_po (dP (DD k)) (rgS (DD k) i) = -1 from eR)]
          rfl
        rw [eY]
        intro u16
        have L16 : lmE h u16 k (DD k) (rgS (DD k) i) := lm_mr L3 (mr_c (J := fun _ => False) (F := fun a => a = 100 ∨ a = 101) (Or.inl rfl) (by decide)) (fun j hj => hj.elim) (fun a ha => by omega)
        refine ⟨fun _ => ⟨t0, _, e1, s60, v60, t0, ?_⟩, fun q2 => absurd q q2⟩
        have ev : ax_i u16 (77 + 23) (nI i).toNatClampNeg = nI (rgY (DD k) (rgS (DD k) i)) := by
          show ax_i (ax_pi h3 100 _ _) 100 _ = _
          rw [ai_pi, if_pos ⟨rfl, rfl⟩]
        rw [ev]
        have pd : ∀ d, d < i + 1 → ax_i u16 100 d = nI (rgY (DD k) (rgS (DD k) d)) := fun d hd => by
          show ax_i (ax_pi h3 100 (nI i).toNatClampNeg _) 100 d = _
          rw [nI_clamp (by omega), ai_pi]
          by_cases w : d = i
          · rw [if_pos ⟨rfl, w⟩, w]
          · rw [if_neg (fun v => w v.2)]; exact ed d (by omega)
        have pp : ∀ r, r < 6 → ax_i u16 101 r = rgT (DD k) (nI r) (i + 1) := fun r hr => by
          show ax_i (ax_pi h3 100 (nI i).toNatClampNeg _) 101 r = _
          rw [ai_pi, if_neg (by omega), ep r hr, ← rgT_1 (show ¬ rgR (DD k) i = nI r from fun v => nI_nm1 (k := r) (by omega) (v.symm.trans eR)), Int32.add_zero]
        refine lm_live L16 yl (fun h6 L6 r6 => ?_)
        have d6 : ∀ d, d < i + 1 → ax_i h6 100 d = nI (rgY (DD k) (rgS (DD k) d)) := fun d hd => by rw [mr_e r6 (x := 100) (by omega) (by omega)]; exact pd d hd
        have p6 : ∀ r, r < 6 → ax_i h6 101 r = rgT (DD k) (nI r) (i + 1) := fun r hr => by rw [mr_e r6 (x := 101) (by omega) (by omega)]; exact pp r hr
        have e6 : ax_i h6 77 33 = rgR (DD k) (i + 1) := L6.2.2.2.2
        refine ⟨rfl, fun f => K h6 L6 d6 p6 (rgF_1 f) _, fun f => ⟨L6.2.1.1.1.1, fun u => K h6 L6 d6 p6 (rgF_2 ?_) _, fun u => K h6 L6 d6 p6 (rgF_3 f (fun w => u ?_)) _⟩⟩
        · rw [← e6, ← e33]; exact u
        · rw [e6, w]; exact e33.symm
  have k1 : ∀ n i : Nat, i + n = 6 → ∀ h3, lmE h h3 k (DD k) (dpu (DD k)) → (∀ p, p < i → ax_i h3 101 p = 0) → ∀ o4 : Option Value, A (4, [some (.ref 77), some (.int (nI m)), some (.int (-1)), some (.int (nI i)), o4], [], h3, 0, 0) := by
    intro n
    induction n with
    | zero =>
      intro i hi h3 L3 ep o4
      exact vX10_reignDays_4 hA ⟨fun _ => k2 m 0 (by omega) h3 L3 (fun d hd => absurd hd (Nat.not_lt_zero d)) (fun p hp => ep p (by omega)) _, fun q => absurd (nI_le (a := 6) (b := i) (by omega) (by omega)) q⟩
    | succ n ih =>
      intro i hi h3 L3 ep o4
      have mc := L3.2.1
      obtain ⟨f1, f2⟩ := mo_rt mc.1.1
      refine vX10_reignDays_4 hA ⟨fun q => absurd q (nI_ge (a := i) (b := 6) (by omega) (by decide)), fun _ => ⟨mc.1.1.1, _, f1, by rw [f2], by rw [f2]; exact vp_in_nI (by omega) (by decide), ?_⟩⟩
      intro u5
      rw [← nI_succ]
      refine ih (i + 1) (by omega) u5 (lm_mr L3 (mr_c (J := fun _ => False) (F := fun a => a = 101) rfl (by decide)) (fun j hj => hj.elim) (fun a ha => by omega)) (fun p hp => ?_) _
      show ax_i (ax_pi h3 101 (nI i).toNatClampNeg 0) 101 p = 0
      rw [nI_clamp (by omega), ai_pi]
      by_cases w : p = i
      · rw [if_pos ⟨rfl, w⟩]
      · rw [if_neg (fun v => w v.2)]; exact ep p (by omega)
  exact k1 6 0 (by decide) hh L (fun p hp => absurd hp (Nat.not_lt_zero p)) _
theorem rgA_in {D : rD} {d : Nat} : ∀ m, d < m → m ≤ 60 → rgA D (nI d) m = nI (rgY D (rgS D d))
  | 0, h, _ => absurd h (Nat.not_lt_zero d)
  | m + 1, h, hm => by
    show (if nI m = nI d then nI (rgY D (rgS D m)) else rgA D (nI d) m) = _
    by_cases e : m = d
    · rw [if_pos (congrArg nI e), e]
    · rw [if_neg (fun w => e ((nI_eq (by omega) (by omega)).mp w)), rgA_in m (by omega) (by omega)]
theorem rgA_no {D : rD} {c : Int32} : ∀ m, (∀ d, d < m → ¬ nI d = c) → rgA D c m = -1000000
  | 0, _ => rfl
  | m + 1, h => by
    show (if nI m = c then nI (rgY D (rgS D m)) else rgA D c m) = _
    rw [if_neg (h m (by omega)), rgA_no m (fun d hd => h d (by omega))]
theorem nI_ne {a b : Nat} (ha : a < 2 ^ 31) (hb : b < 2 ^ 31) (n : a ≠ b) : ¬ nI a = nI b := fun e => n ((nI_eq ha hb).mp e)
theorem in_big {n P : Nat} (hn : P ≤ n) (h2 : n < 2 ^ 31) : sp_in (nI n) P = false := by
  unfold sp_in
  exact decide_eq_false (fun w => absurd w.2 (nI_nlt hn h2))
theorem q10_reign {x1 x2 x3 : Int32} (a : tc h z DD N C) (hq : ∀ h', ax_same md_F h h' → Ret (some (.int (qv (z 0) DD x1 (-1000000) (s_reign x2 x3)))) h') : mX10_reign g [.ref 77, .int x1, .int x2, .int x3] h Ret := by
  have z2 := a.2.2.2.2.1 0 (by decide)
  obtain ⟨a1, T1, hs1⟩ := q_code (v := 0) a.2.1 a.2.2.2.1
  have bad : ∀ h', ax_same md_F h h' → ¬ (0 ≤ x2 ∧ x2 ≤ 60) → Ret (some (.int (-1000000))) h' := fun h' hs n => by
    have hv := hq h' hs
    have e : qv (z 0) DD x1 (-1000000) (s_reign x2 x3) = -1000000 := by
      unfold qv
      split
      · unfold s_reign
        split
        · rfl
        · rename_i c
          split
          · rename_i d
            exact absurd ⟨Int32.not_lt.mp c, d⟩ n
          · rfl
      · rfl
    rw [e] at hv
    exact hv
  refine eX10_reign ⟨a.2.1.1, ?_⟩
  intro h1
  refine c_min ⟨_, rfl, fun q => bad _ hs1 (of_decide_eq_false (b2i_0.mp q)), fun q60 => ⟨a1.1, q_hand a1 T1 a.2.2.2.2 (fun q => ⟨_, rfl, fun q => absurd rfl q, fun _ => ?_⟩) (fun k hk ex ok h' hs hm => ⟨_, rfl, fun _ => ⟨hm.1.1.1.1, ?_⟩, fun q => absurd q (by decide)⟩)⟩⟩
  · have := hq _ hs1; rwa [qv_no q] at this
  obtain ⟨p0, p60⟩ := of_decide_eq_true (b2i_n0.mp q60)
  have hv : ∀ hh, ax_same md_F h hh → Ret (some (.int (rgV (DD k) x2.toNatClampNeg x3))) hh := fun hh hs => by
    have hv := hq hh hs
    rw [qv_yes z2 hk ex] at hv
    unfold s_reign at hv
    rw [if_neg (Int32.not_lt.mpr p0), if_pos p60] at hv
    exact hv
  obtain ⟨m, _, hm60, rfl⟩ := i_rng (a := 0) (b := 60) (by omega) (by omega) p0 p60
  rw [nI_clamp (by omega)] at hv
  have P6 := ok.2.1
  refine c_reignDaysE ok hm60 (lm_hm (sm_tr hs1 hs) hm) (fun h2 L2 ed ep => ⟨_, rfl, ?_⟩)
  have mc := L2.2.1
  have mw := L2.2.2
  have t0 := mc.1.1.1
  have hw := hv h2 L2.1
  unfold rgV at hw
  obtain ⟨e1, e2⟩ := mo_rh mc.1.1
  obtain ⟨f1, f2⟩ := mo_rt mc.1.1
  obtain ⟨g1, g2⟩ := mo_pu mc.1.1
  rw [show (99 : Int32) + nI m = nI (99 + m) from ni_c 99 _]
  refine c_min ⟨_, rfl, fun q1 => ⟨t0, ?_⟩, fun q => ⟨t0, _, e1, by rw [e2], ?_⟩⟩
  · have no1 := of_decide_eq_false (b2i_0.mp q1)
    rw [mc.1.2.2.2.2.2.1, show (19 : Int32) + nI (dP (DD k)) = nI (19 + dP (DD k)) from ni_c 19 _]
    refine c_min ⟨_, rfl, fun q2 => ⟨t0, c_misOne mc.1 ⟨_, rfl, fun q3 => ⟨fun n10 => ⟨fun n11 => ?_, fun e11 => ?_⟩, fun e10 => ⟨t0, ?_⟩⟩, fun q => ⟨t0, _, g1, by rw [g2], ?_⟩⟩⟩, fun q => ⟨t0, _, f1, by rw [f2], ?_⟩⟩
    · have no2 := of_decide_eq_false (b2i_0.mp q2)
      rw [b2i_0.mp q3, if_neg Bool.false_ne_true, if_neg n10, if_neg n11, if_neg (fun e => ?_), rgA_no m (fun d hd e => ?_)] at hw
      · exact hw
      · have ex3 : x3 = nI (100 + d) := by
          rw [show nI (100 + d) = 100 + nI d from (ni_c 100 d).symm, e, Int32.add_comm, Int32.sub_add_cancel]
        rw [ex3] at no1
        exact no1 ⟨nI_le (a := 100) (by omega) (by omega), nI_le (by omega) (by omega)⟩
      · obtain ⟨i, hi, ei⟩ := sp_in_ix (by omega) e
        have ex3 : x3 = nI (20 + i) := by
          rw [show nI (20 + i) = 20 + nI i from (ni_c 20 i).symm, ← ei, Int32.add_comm, Int32.sub_add_cancel]
        rw [ex3] at no2
        exact no2 ⟨nI_le (a := 20) (by omega) (by omega), nI_le (by omega) (by omega)⟩
    · rw [b2i_0.mp q3, if_neg Bool.false_ne_true, if_neg n10, if_pos e11] at hw; exact hw
    · rw [b2i_0.mp q3, if_neg Bool.false_ne_true, if_pos e10] at hw; rw [mw.2.2]; exact hw
    · rw [if_pos (b2i_n0.mp q)] at hw
      obtain ⟨p, hp, rfl⟩ := sp_in_ix (by omega) (b2i_n0.mp q)
      rw [nI_clamp (by omega)] at hw
      rw [g2]
      refine ⟨vp_in_nI (by omega) (by decide), ?_⟩
      rw [nI_clamp (by omega), show ax_i h2 (77 + 13) p = _ from mc.2.1 p hp]
      exact hw
    · have y := of_decide_eq_true (b2i_n0.mp q)
      rw [f2]
      rcases Nat.eq_zero_or_pos (dP (DD k)) with e | e
      · rw [e] at y
        have y1 := i_le.mp y.1
        have y2 := i_le.mp y.2
        rw [nI_toInt (by omega)] at y2
        change (20 : Int) ≤ _ at y1
        omega
      · obtain ⟨n, n1, n2, rfl⟩ := i_rng (a := 20) (b := 19 + dP (DD k)) (by omega) (by omega) y.1 y.2
        obtain ⟨i, rfl⟩ := Nat.exists_eq_add_of_le n1
        have e20 : nI (20 + i) - 20 = nI i := ni_sb
        rw [in_big (by omega) (by omega), if_neg Bool.false_ne_true, if_neg (show ¬ nI (20 + i) = 10 from nI_ne (b := 10) (by omega) (by decide) (by omega)), if_neg (show ¬ nI (20 + i) = 11 from nI_ne (b := 11) (by omega) (by decide) (by omega)), e20, sp_in_nI (by omega) (by omega), if_pos rfl, ← ep i (by omega)] at hw
        rw [e20]
        refine ⟨vp_in_nI (by omega) (by decide), ?_⟩
        rw [nI_clamp (by omega)]
        exact hw
  · have y := of_decide_eq_true (b2i_n0.mp q)
    rw [e2]
    rcases Nat.eq_zero_or_pos m with e | e
    · rw [e] at y
      have y1 := i_le.mp y.1
      have y2 := i_le.mp y.2
      rw [nI_toInt (by omega)] at y2
      change (100 : Int) ≤ _ at y1
      omega
    · obtain ⟨n, n1, n2, rfl⟩ := i_rng (a := 100) (b := 99 + m) (by omega) (by omega) y.1 y.2
      obtain ⟨i, rfl⟩ := Nat.exists_eq_add_of_le n1
      have e100 : nI (100 + i) - 100 = nI i := ni_sb
      have e80 : nI (100 + i) - 20 = nI (80 + i) := by rw [show 100 + i = 20 + (80 + i) by omega]; exact ni_sb
      rw [in_big (by omega) (by omega), if_neg Bool.false_ne_true, if_neg (show ¬ nI (100 + i) = 10 from nI_ne (b := 10) (by omega) (by decide) (by omega)), if_neg (show ¬ nI (100 + i) = 11 from nI_ne (b := 11) (by omega) (by decide) (by omega)), e80, in_big (by omega) (by omega), if_neg Bool.false_ne_true, e100, rgA_in m (by omega) hm60, ← ed i (by omega)] at hw
      rw [e100]
      refine ⟨vp_in_nI (by omega) (by decide), ?_⟩
      rw [nI_clamp (by omega)]
      exact hw
theorem g_reign (a : IV h S Im tp) (b : 103 ≤ h.1 ∧ h.1 ≤ B) (x1 x2 x3 : Int32) : prI (mX9_reign g) (mX10_reign g) [.ref 0, .int x1, .int x2, .int x3] [.ref 77, .int x1, .int x2, .int x3] h (inv B) := pr_q _ a b (fun Ret k => q9_reign (iv_tc a) k) (fun h1 Ret a1 k => q10_reign (iv_tc a1) k)
end
end

section
section
variable {g : ax_G} {Ret : Option Value → ax_H → Prop} {h : ax_H} {z : Nat → Nat} {DD : Nat → rD} {N : Nat → Nat → Nat} {C : Nat → Nat → Nat → Nat → Int32} {S : sT} {Im : Nat → Option sT} {tp : Nat → Nat} {B : Nat}
/-! a republic and lines of a sort -/
def qw (z0 zs : Nat) (x1 x2 d : Int32) (f : Nat → Nat → Int32) : Int32 := if sp_in x1 z0 && sp_in x2 zs then f x1.toNatClampNeg x2.toNatClampNeg else d
theorem qw_n1 {z0 zs : Nat} {x1 x2 d : Int32} {f : Nat → Nat → Int32} (e : sp_in x1 z0 = false) : qw z0 zs x1 x2 d f = d := by unfold qw; rw [e]; rfl
theorem qw_n2 {z0 zs : Nat} {x1 x2 d : Int32} {f : Nat → Nat → Int32} (e : sp_in x2 zs = false) : qw z0 zs x1 x2 d f = d := by unfold qw; rw [e, Bool.and_false]; rfl
theorem qw_y {z0 zs k w : Nat} {x1 x2 d : Int32} {f : Nat → Nat → Int32} (h0 : z0 ≤ 2) (h1 : zs ≤ 2) (hk : k < z0) (e1 : x1 = nI k) (hw : w < zs) (e2 : x2 = nI w) : qw z0 zs x1 x2 d f = f k w := by
  unfold qw
  rw [e1, e2, sp_in_nI (by omega) hk, sp_in_nI (by omega) hw, nI_clamp (by omega), nI_clamp (by omega)]; rfl
/-! trains -/
def ldT (C1 : Nat → Nat → Int32) (s : Int32) (k : Nat) : Int32 := sp_ld (C1 k 0) (C1 k 1) (C1 (k + 1) 0) s
def slk (C1 : Nat → Nat → Int32) (k : Nat) : Nat → Int32
  | 0 => 1000
  | j + 1 => if ldT C1 (nI j) k < slk C1 k j then ldT C1 (nI j) k else slk C1 k j
def hdk (C1 : Nat → Nat → Int32) (H : Nat) : Nat → Int32
  | 0 => 1000
  | k + 1 => if slk C1 k H < hdk C1 H k then slk C1 k H else hdk C1 H k
def sbk (C1 : Nat → Nat → Int32) (s : Int32) : Nat → Int32
  | 0 => 1000
  | k + 1 => if ldT C1 s k ≤ sbk C1 s k then ldT C1 s k else sbk C1 s k
def hdm (C1 : Nat → Nat → Int32) (K : Nat) : Nat → Int32
  | 0 => 1000
  | j + 1 => if sbk C1 (nI j) K ≤ hdm C1 K j then sbk C1 (nI j) K else hdm C1 K j
/-- the least of 1000 and of what stands at the places of P -/
def mnP (P : Int32 → Prop) (V : Int32) : Prop := (V = 1000 ∨ P V) ∧ V.toInt ≤ 1000 ∧ ∀ x, P x → V.toInt ≤ x.toInt
theorem mnP_u {P : Int32 → Prop} {V W : Int32} (a : mnP P V) (b : mnP P W) : V = W := by
  have t : (1000 : Int32).toInt = 1000 := rfl
  have a1 : W.toInt ≤ V.toInt := by
    rcases a.1 with e | e
    · rw [e, t]; exact b.2.1
    · exact b.2.2 V e
  have a2 : V.toInt ≤ W.toInt := by
    rcases b.1 with e | e
    · rw [e, t]; exact a.2.1
    · exact a.2.2 W e
  exact i_inj (by omega)
theorem mnP_0 {P : Int32 → Prop} (n : ∀ x, ¬ P x) : mnP P 1000 := ⟨Or.inl rfl, Int.le_refl _, fun x q => absurd q (n x)⟩
/-- one more place -/
theorem mnP_s {P Q R : Int32 → Prop} {V W X : Int32} (a : mnP P V) (b : mnP Q W) (r : ∀ x, R x ↔ P x ∨ Q x) (e : X = V ∧ V.toInt ≤ W.toInt ∨ X = W ∧ W.toInt ≤ V.toInt) : mnP R X := by
  rcases e with ⟨rfl, l⟩ | ⟨rfl, l⟩
  · refine ⟨a.1.imp id (fun q => (r _).mpr (Or.inl q)), a.2.1, fun x q => ?_⟩
    rcases (r x).mp q with w | w
    · exact a.2.2 x w
    · have := b.2.2 x w; omega
  · refine ⟨b.1.imp id (fun q => (r _).mpr (Or.inr q)), b.2.1, fun x q => ?_⟩
    rcases (r x).mp q with w | w
    · have := a.2.2 x w; omega
    · exact b.2.2 x w
theorem if_lt_min {x y : Int32} : (if x < y then x else y) = y ∧ y.toInt ≤ x.toInt ∨ (if x < y then x else y) = x ∧ x.toInt ≤ y.toInt := by
  by_cases c : x < y
  · rw [if_pos c]; rw [i_lt] at c; exact Or.inr ⟨rfl, by omega⟩
  · rw [if_neg c]; rw [i_lt] at c; exact Or.inl ⟨rfl, by omega⟩
theorem if_le_min {x y : Int32} : (if x ≤ y then x else y) = y ∧ y.toInt ≤ x.toInt ∨ (if x ≤ y then x else y) = x ∧ x.toInt ≤ y.toInt := by
  by_cases c : x ≤ y
  · rw [if_pos c]; rw [i_le] at c; exact Or.inr ⟨rfl, by omega⟩
  · rw [if_neg c]; rw [i_le] at c; exact Or.inl ⟨rfl, by omega⟩
/-- leads are small -/
theorem ld_bd {C1 : Nat → Nat → Int32} {n k j : Nat} (ok : ln_ok 3 n C1) (hk : k + 1 < n) (hj : j < 12) : -100 ≤ (ldT C1 (nI j) k).toInt ∧ (ldT C1 (nI j) k).toInt ≤ 100 := by
  obtain ⟨a0, b0, ha, hb1, hb, ea, eb⟩ := ok.2 k (by omega)
  obtain ⟨a1, b1, ha1, hb11, hb2, ea1, eb1⟩ := ok.2 (k + 1) hk
  unfold ldT sp_ld
  rw [ea, eb, ea1, tt_nI (by omega) (by omega), tt_nI (by omega) (by omega)]
  have u1 : (if a1 ≤ j then a1 else a1 + 1) ≤ 13 := by split <;> omega
  have u2 : (if a0 ≤ j then a0 else a0 + 1) ≤ 13 := by split <;> omega
  generalize (if a1 ≤ j then a1 else a1 + 1) = p at u1 ⊢
  generalize (if a0 ≤ j then a0 else a0 + 1) = q at u2 ⊢
  have e1 := pk_sub_toInt (a := p) (b := q) (by omega) (by omega)
  have e2 := nI_toInt (n := b0) (by omega)
  rw [i32_sub (by rw [e1, e2]; omega) (by rw [e1, e2]; omega), e1, e2]
  omega
theorem mn_1 {x : Int32} (l : x.toInt ≤ 1000) : mnP (fun y => y = x) x := ⟨Or.inr rfl, l, fun y e => by rw [e]; exact Int.le_refl _⟩
theorem slk_mn {C1 : Nat → Nat → Int32} {n k : Nat} (ok : ln_ok 3 n C1) (hk : k + 1 < n) : ∀ J, J ≤ 12 → mnP (fun x => ∃ j, j < J ∧ x = ldT C1 (nI j) k) (slk C1 k J)
  | 0, _ => mnP_0 (fun x ⟨j, hj, _⟩ => Nat.not_lt_zero j hj)
  | J + 1, hJ => mnP_s (slk_mn ok hk J (by omega)) (mn_1 (x := ldT C1 (nI J) k) (by have := ld_bd ok hk (j := J) (by omega); omega)) (fun x => ⟨fun ⟨j, hj, e⟩ => by
      rcases Nat.lt_or_ge j J with q | q
      · exact Or.inl ⟨j, q, e⟩
      · rw [show j = J by omega] at e; exact Or.inr e, fun q => q.elim (fun ⟨j, hj, e⟩ => ⟨j, by omega, e⟩) (fun e => ⟨J, by omega, e⟩)⟩) if_lt_min
theorem hdk_mn {C1 : Nat → Nat → Int32} {n H : Nat} (ok : ln_ok 3 n C1) (hH : H ≤ 12) : ∀ K, K ≤ n - 1 → mnP (fun x => ∃ k, k < K ∧ ∃ j, j < H ∧ x = ldT C1 (nI j) k) (hdk C1 H K)
  | 0, _ => mnP_0 (fun x ⟨k, hk, _⟩ => Nat.not_lt_zero k hk)
  | K + 1, hK => mnP_s (hdk_mn ok hH K (by omega)) (slk_mn ok (by omega) H hH) (fun x => ⟨fun ⟨k, hk, e⟩ => by
      rcases Nat.lt_or_ge k K with q | q
      · exact Or.inl ⟨k, q, e⟩
      · rw [show k = K by omega] at e; exact Or.inr e, fun q => q.elim (fun ⟨k, hk, e⟩ => ⟨k, by omega, e⟩) (fun e => ⟨K, by omega, e⟩)⟩) if_lt_min
theorem sbk_mn {C1 : Nat → Nat → Int32} {n j : Nat} (ok : ln_ok 3 n C1) (hj : j < 12) : ∀ K, K ≤ n - 1 → mnP (fun x => ∃ k, k < K ∧ x = ldT C1 (nI j) k) (sbk C1 (nI j) K)
  | 0, _ => mnP_0 (fun x ⟨k, hk, _⟩ => Nat.not_lt_zero k hk)
  | K + 1, hK => mnP_s (sbk_mn ok hj K (by omega)) (mn_1 (x := ldT C1 (nI j) K) (by have := ld_bd ok (k := K) (j := j) (by omega) hj; omega)) (fun x => ⟨fun ⟨k, hk, e⟩ => by
      rcases Nat.lt_or_ge k K with q | q
      · exact Or.inl ⟨k, q, e⟩
      · rw [show k = K by omega] at e; exact Or.inr e, fun q => q.elim (fun ⟨k, hk, e⟩ => ⟨k, by omega, e⟩) (fun e => ⟨K, by omega, e⟩)⟩) if_le_min
theorem hdm_mn {C1 : Nat → Nat → Int32} {n K : Nat} (ok : ln_ok 3 n C1) (hK : K ≤ n - 1) : ∀ J, J ≤ 12 → mnP (fun x => ∃ j, j < J ∧ ∃ k, k < K ∧ x = ldT C1 (nI j) k) (hdm C1 K J)
  | 0, _ => mnP_0 (fun x ⟨j, hj, _⟩ => Nat.not_lt_zero j hj)
  | J + 1, hJ => mnP_s (hdm_mn ok hK J (by omega)) (sbk_mn ok (by omega) K hK) (fun x => ⟨fun ⟨j, hj, e⟩ => by
      rcases Nat.lt_or_ge j J with q | q
      · exact Or.inl ⟨j, q, e⟩
      · rw [show j = J by omega] at e; exact Or.inr e, fun q => q.elim (fun ⟨j, hj, e⟩ => ⟨j, by omega, e⟩) (fun e => ⟨J, by omega, e⟩)⟩) if_le_min
theorem hd_eq {C1 : Nat → Nat → Int32} {n H : Nat} (ok : ln_ok 3 n C1) (hH : H ≤ 12) : hdm C1 (n - 1) H = hdk C1 H (n - 1) := by
  have a := hdm_mn ok (Nat.le_refl (n - 1)) H hH
  have b := hdk_mn ok hH (n - 1) (Nat.le_refl _)
  refine mnP_u (P := fun x => ∃ k, k < n - 1 ∧ ∃ j, j < H ∧ x = ldT C1 (nI j) k) ⟨a.1.imp id (fun ⟨j, hj, k, hk, e⟩ => ⟨k, hk, j, hj, e⟩), a.2.1, fun x ⟨k, hk, j, hj, e⟩ => a.2.2 x ⟨j, hj, k, hk, e⟩⟩ b
theorem sb_nn {C1 : Nat → Nat → Int32} {s : Int32} : ∀ K, (¬ sbk C1 s K < 0) ↔ ∀ k, k < K → 0 ≤ ldT C1 s k
  | 0 => ⟨fun _ k hk => absurd hk (Nat.not_lt_zero k), fun _ => by show ¬ (1000 : Int32) < 0; decide⟩
  | K + 1 => by
    have ih := sb_nn (C1 := C1) (s := s) K
    have z0 : (0 : Int32).toInt = 0 := rfl
    have m : sbk C1 s (K + 1) = sbk C1 s K ∧ (sbk C1 s K).toInt ≤ (ldT C1 s K).toInt ∨ sbk C1 s (K + 1) = ldT C1 s K ∧ (ldT C1 s K).toInt ≤ (sbk C1 s K).toInt := if_le_min
    constructor
    · intro q k hk
      rw [i_lt, z0] at q
      have a : ¬ sbk C1 s K < 0 := by rw [i_lt, z0]; rcases m with ⟨e, l⟩ | ⟨e, l⟩ <;> rw [e] at q <;> omega
      have b : 0 ≤ ldT C1 s K := by rw [i_le, z0]; rcases m with ⟨e, l⟩ | ⟨e, l⟩ <;> rw [e] at q <;> omega
      rcases Nat.lt_or_ge k K with w | w
      · exact ih.mp a k w
      · rw [show k = K by omega]; exact b
    · intro all
      have a := ih.mpr (fun k hk => all k (by omega))
      have b := all K (by omega)
      rw [i_lt, z0] at a ⊢
      rw [i_le, z0] at b
      rcases m with ⟨e, l⟩ | ⟨e, l⟩ <;> rw [e] <;> omega
section
variable {l n : Nat} {C1 : Nat → Nat → Int32} {r : Nat} {D : rD}
theorem c_leadOfE {k : Nat} {s : Int32} (L : li_at h l 3 n C1) (hk : k + 1 < n) (hq : Ret (some (.int (ldT C1 s k))) h) : mX9_leadOf g [.ref l, .int (nI k), .int s] h Ret := by
  have n8 : n ≤ 8 := L.2.1
  refine eX9_leadOf ⟨L.1.1, c_lcell (by decide) (by decide) L ⟨_, rfl, L.1.1, c_lcell (by decide) (by decide) L ⟨_, rfl, L.1.1, ?_⟩⟩⟩
  rw [← nI_succ, show sp_lc n (lw 3) C1 (nI k) 0 = C1 k 0 from lc_in (j := 0) (by omega) (by decide) (by omega) (by decide), show sp_lc n (lw 3) C1 (nI k) 1 = C1 k 1 from lc_in (j := 1) (by omega) (by decide) (by omega) (by decide)]
  refine c_lcell (by decide) (by decide) L ⟨_, rfl, ?_⟩
  rw [show sp_lc n (lw 3) C1 (nI (k + 1)) 0 = C1 (k + 1) 0 from lc_in (j := 0) (by omega) (by decide) (by omega) (by decide)]
  exact c_lead ⟨_, rfl, hq⟩
theorem c_keepsByE {s : Int32} (L : li_at h l 3 n C1) (h1 : ¬ sbk C1 s (n - 1) < 0 → Ret (some (.int 1)) h) (h0 : sbk C1 s (n - 1) < 0 → Ret (some (.int 0)) h) : mX9_keepsBy g [.ref l, .int s] h Ret := by
  have n8 : n ≤ 8 := L.2.1
  refine uX9_keepsBy (fun A hA => vX9_keepsBy_0 hA ?_)
  have key : ∀ k i : Nat, n ≤ i + 1 + k → i ≤ 8 → (∀ j, j < i → j + 1 < n → 0 ≤ ldT C1 s j) → A (2, [some (.ref l), some (.int s), some (.int (nI i))], [], h, 0, 0) := by
    intro k
    induction k with
    | zero =>
      intro i hi i8 al
      refine vX9_keepsBy_2 hA ⟨L.1.1, fun _ => ⟨Or.inr rfl, h1 ((sb_nn _).mpr (fun j hj => al j (by omega) (by omega)))⟩, fun q => ?_⟩
      rw [L.2.2.1, ← nI_succ] at q; exact absurd (nI_le (by omega) (by omega)) q
    | succ k ih =>
      intro i hi i8 al
      refine vX9_keepsBy_2 hA ⟨L.1.1, fun q => ⟨Or.inr rfl, h1 ((sb_nn _).mpr (fun j hj => ?_))⟩, fun q => ?_⟩
      · rw [L.2.2.1, ← nI_succ, nI_leI (by omega) (by omega)] at q
        exact al j (by omega) (by omega)
      · rw [L.2.2.1, ← nI_succ, nI_leI (by omega) (by omega)] at q
        refine c_leadOfE L (by omega) ⟨_, rfl, fun c => ?_, fun c => ⟨Or.inl rfl, h0 ?_⟩⟩
        · rw [← nI_succ]
          refine ih (i + 1) (by omega) (by omega) (fun j hj hn => ?_)
          rcases Nat.lt_or_ge j i with w | w
          · exact al j w hn
          · rw [show j = i by omega]; exact c
        · rcases Classical.em (sbk C1 s (n - 1) < 0) with w | w
          · exact w
          · exact absurd ((sb_nn _).mp w i (by omega)) c
  exact key 8 0 (by omega) (by omega) (fun j hj _ => absurd hj (Nat.not_lt_zero j))
theorem c_slackOfE {k : Nat} (rc : rc_at h r D) (L : li_at h l 3 n C1) (hk : k + 1 < n) (hq : Ret (some (.int (slk C1 k (dH D)))) h) : mX9_slackOf g [.ref r, .ref l, .int (nI k)] h Ret := by
  have H12 := rc.2.1.1
  refine uX9_slackOf (fun A hA => vX9_slackOf_0 hA ?_)
  have key : ∀ m i : Nat, i + m = dH D → A (7, [some (.ref r), some (.ref l), some (.int (nI k)), some (.int (slk C1 k i)), some (.int (nI i))], [], h, 0, 0) := by
    intro m
    induction m with
    | zero =>
      intro i hi
      refine vX9_slackOf_7 hA ⟨rc.1.1, fun _ => by rw [show i = dH D by omega]; exact hq, fun q => ?_⟩
      rw [rc.2.2.1.1] at q; exact absurd (nI_le (by omega) (by omega)) q
    | succ m ih =>
      intro i hi
      refine vX9_slackOf_7 hA ⟨rc.1.1, fun q => ?_, fun _ => c_leadOfE L hk ⟨_, rfl, ?_⟩⟩
      · rw [rc.2.2.1.1] at q; exact absurd q (nI_ge (by omega) (by omega))
      · rw [← nI_succ]; exact ih (i + 1) (by omega)
  exact key (dH D) 0 (by omega)
end
/-! the table and the republic, of the reference -/
def tbE (h hh : ax_H) (k : Nat) (D : rD) (w : Nat) : Prop := lmE h hh k D (dpu D) ∧ ax_i hh 77 47 = nI w
theorem q_tabE {x1 x2 d : Int32} {P : Int32 → ax_H → Prop} (a : tc h z DD N C) (h1 : ∀ k w h', k < z 0 → x1 = nI k → w < z 3 → x2 = nI w → rd_ok (DD k) → tbE h h' k (DD k) w → P 1 h') (h0 : ∀ h', ax_same md_F h h' → sp_in x1 (z 0) = false → P 0 h') (h2 : ∀ h', ax_same md_F h h' → sp_in x2 (z 3) = false → Ret (some (.int d)) h') : mX10_hasTable g [.ref 77, .int x2] (ax_pi h 77 0 0) (fun v3 h2 => ∃ r4 : Int32, v3 = some (.int r4) ∧ ((r4 = 0 → Ret (some (.int d)) h2) ∧ (¬ (r4 = 0) → ((ax_s h2 77).1 = 10 ∧ mX10_hand g [.ref 77, .int x1] h2 (fun v6 h5 => ∃ r7 : Int32, v6 = some (.int r7) ∧ P r7 h5))))) := by
  obtain ⟨a1, T1, hs1⟩ := q_code (v := 0) a.2.1 a.2.2.2.1
  obtain ⟨a2, T2, hs2⟩ := mf_keep (k := 47) (v := x2) a1 T1
  refine c_mhasTable a1 T1 a.2.2.2.2 ⟨_, rfl, fun q => h2 _ (sm_tr hs1 hs2) (b2i_0.mp q), fun q => ⟨a2.1, q_handR a2 T2 a.2.2.2.2 (fun e => ⟨_, rfl, h0 _ (sm_tr hs1 hs2) e⟩) (fun k hk ex ok h' hs hm => ⟨_, rfl, ?_⟩)⟩⟩
  obtain ⟨w, hw, ew⟩ := sp_in_ix (by have := a.2.2.2.2.1 3 (by decide); omega) (b2i_n0.mp q)
  exact h1 k w h' hk ex hw ew ok ⟨lm_hm (sm_tr hs1 (sm_tr hs2 (hd_md hs))) hm, by rw [(hs.2 47 (by unfold hd_J; decide)).1, ← ew]; exact ai_eq⟩
theorem c_mslackByE {hh : ax_H} {k w : Nat} {s : Int32} (a : tc h z DD N C) (T : tbE h hh k (DD k) w) (hw : w < z 3) (hq : Ret (some (.int (sbk (C 3 w) s (N 3 w - 1)))) hh) : mX10_slackBy g [.ref 77, .int s] hh Ret := by
  have c := tc_md T.1.1 a
  have n8 : N 3 w ≤ 8 := (a.2.2.2.2.2.2 3 w (by decide) (by decide) hw).1
  have s0 := c.2.1.1
  refine uX10_slackBy (fun A hA => vX10_slackBy_0 hA ?_)
  have key : ∀ m i : Nat, N 3 w ≤ i + 1 + m → i ≤ 8 → i ≤ N 3 w - 1 → A (6, [some (.ref 77), some (.int s), some (.int (sbk (C 3 w) s i)), some (.int (nI i))], [], hh, 0, 0) := by
    intro m
    induction m with
    | zero =>
      intro i hi i8 ii
      refine vX10_slackBy_6 hA ⟨s0, c_mtrains c.2.1 c.2.2.2.1 c.2.2.2.2 hw T.2 ⟨_, rfl, fun _ => by rw [show i = N 3 w - 1 by omega]; exact hq, fun q => ?_⟩⟩
      rw [← nI_succ] at q; exact absurd (nI_le (by omega) (by omega)) q
    | succ m ih =>
      intro i hi i8 ii
      refine vX10_slackBy_6 hA ⟨s0, c_mtrains c.2.1 c.2.2.2.1 c.2.2.2.2 hw T.2 ⟨_, rfl, fun q => ?_, fun q => ⟨s0, ?_⟩⟩⟩
      · rw [← nI_succ, nI_leI (by omega) (by omega)] at q
        rw [show i = N 3 w - 1 by omega]; exact hq
      · rw [← nI_succ, nI_leI (by omega) (by omega)] at q
        rw [← nI_succ]
        have st := ih (i + 1) (by omega) (by omega) (by omega)
        refine c_mtrainOf (j := 0) c.2.1 c.2.2.2.1 c.2.2.2.2 hw T.2 (by omega) (by decide) ⟨_, rfl, c_trueAt ⟨_, rfl, s0, c_mtrainOf (j := 0) c.2.1 c.2.2.2.1 c.2.2.2.2 hw T.2 (by omega) (by decide) ⟨_, rfl, c_trueAt ⟨_, rfl, s0, c_mtrainOf (j := 1) c.2.1 c.2.2.2.1 c.2.2.2.2 hw T.2 (by omega) (by decide) ⟨_, rfl, eX10_lesser ⟨fun d => ⟨_, rfl, ?_⟩, fun d => ⟨_, rfl, ?_⟩⟩⟩⟩⟩⟩⟩
        · rw [show sbk (C 3 w) s (i + 1) = ldT (C 3 w) s i from if_pos d] at st
          exact st
        · rw [show sbk (C 3 w) s (i + 1) = sbk (C 3 w) s i from if_neg d] at st
          exact st
  exact key 8 0 (by omega) (by omega) (by omega)
/-! HOLDS: the same answer -/
def s_holds (DD : Nat → rD) (N : Nat → Nat → Nat) (C : Nat → Nat → Nat → Nat → Int32) (x3 : Int32) (k w : Nat) : Int32 := if x3 = -1 then hdk (C 3 w) (dH (DD k)) (N 3 w - 1) else if sp_in x3 (dH (DD k)) then (if sbk (C 3 w) x3 (N 3 w - 1) < 0 then 0 else 1) else -1000
theorem q9_holds {x1 x2 x3 : Int32} (a : tc h z DD N C) (hq : ∀ h', ax_same cl_F h h' → Ret (some (.int (qw (z 0) (z 3) x1 x2 (-1000) (s_holds DD N C x3)))) h') : mX9_holds g [.ref 0, .int x1, .int x2, .int x3] h Ret := by
  have z0 := a.2.2.2.2.1 0 (by decide)
  have z3 := a.2.2.2.2.1 3 (by decide)
  have hv := hq h sm_rf
  have b1 : sp_in x1 (z 0) = false → Ret (some (.int (-1000))) h := fun e => by rw [qw_n1 e] at hv; exact hv
  have b2 : sp_in x2 (z 3) = false → Ret (some (.int (-1000))) h := fun e => by rw [qw_n2 e] at hv; exact hv
  refine uX9_holds (fun A hA => vX9_holds_0 hA ⟨a.1.1, _, a.1.2.1.1, a.2.2.1.1.1, c_republicAt a.2.2.1 (fun q => Or.inr ⟨rfl, a.1.1, _, a.1.2.1.1, a.2.2.1.1.1, c_linesAt (s0 := 3) a.2.2.1 (by decide) (by decide) (fun _ => Or.inr ⟨rfl, b1 q⟩) (fun k hk ex => Or.inl ⟨_, rfl, b1 q⟩)⟩) (fun k hk ex => Or.inl ⟨_, rfl, a.1.1, _, a.1.2.1.1, a.2.2.1.1.1, c_linesAt (s0 := 3) a.2.2.1 (by decide) (by decide) (fun q => Or.inr ⟨rfl, b2 q⟩) (fun w hw ew => Or.inl ⟨_, rfl, ?_⟩)⟩)⟩)
  rw [qw_y z0 z3 hk ex hw ew] at hv
  unfold s_holds at hv
  have rc := a.2.2.1.2.2.1 k hk
  have L := a.2.2.1.2.2.2 3 w (by decide) (by decide) hw
  have n8 : N 3 w ≤ 8 := L.2.1
  refine ⟨fun e => ⟨fun _ => ?_, fun q => absurd e q⟩, fun e => ⟨rc.1.1, c_hasHour rc ⟨_, rfl, fun q1 => ⟨fun q => absurd q e, fun _ => c_keepsByE L (fun c => ⟨_, rfl, fun q => absurd q (by decide), fun _ => ?_⟩) (fun c => ⟨_, rfl, fun _ => ?_, fun q => absurd rfl q⟩)⟩, fun q1 => ?_⟩⟩⟩
  · rw [if_pos e] at hv
    have key : ∀ m i : Nat, N 3 w ≤ i + 1 + m → i ≤ 8 → i ≤ N 3 w - 1 → A (77, [some (.ref 0), some (.int x1), some (.int x2), some (.int x3), some (.ref (1 + 5 + 14 * k)), some (.ref (lnp 1 3 w)), some (.int (hdk (C 3 w) (dH (DD k)) i)), some (.int (nI i))], [], h, 0, 0) := by
      intro m
      induction m with
      | zero =>
        intro i hi i8 ii
        refine vX9_holds_77 hA ⟨L.1.1, fun _ => by rw [show i = N 3 w - 1 by omega]; exact hv, fun q => ?_⟩
        rw [L.2.2.1, ← nI_succ] at q; exact absurd (nI_le (by omega) (by omega)) q
      | succ m ih =>
        intro i hi i8 ii
        refine vX9_holds_77 hA ⟨L.1.1, fun q => ?_, fun q => ?_⟩
        · rw [L.2.2.1, ← nI_succ, nI_leI (by omega) (by omega)] at q
          rw [show i = N 3 w - 1 by omega]; exact hv
        · rw [L.2.2.1, ← nI_succ, nI_leI (by omega) (by omega)] at q
          refine c_slackOfE rc L (by omega) ⟨_, rfl, ?_⟩
          rw [← nI_succ]; exact ih (i + 1) (by omega) (by omega) (by omega)
    exact key 8 0 (by omega) (by omega) (by omega)
  · rw [if_neg e, if_pos (b2i_n0.mp q1), if_neg c] at hv; exact hv
  · rw [if_neg e, if_pos (b2i_n0.mp q1), if_pos c] at hv; exact hv
  · rw [if_neg e, b2i_0.mp q1, if_neg Bool.false_ne_true] at hv; exact hv
theorem q10_holds {x1 x2 x3 : Int32} (a : tc h z DD N C) (hq : ∀ h', ax_same md_F h h' → Ret (some (.int (qw (z 0) (z 3) x1 x2 (-1000) (s_holds DD N C x3)))) h') : mX10_holds g [.ref 77, .int x1, .int x2, .int x3] h Ret := by
  have z0 := a.2.2.2.2.1 0 (by decide)
  have z3 := a.2.2.2.2.1 3 (by decide)
  refine uX10_holds (fun A hA => vX10_holds_0 hA ⟨a.2.1.1, ?_⟩)
  intro u1
  refine ⟨a.2.1.1, q_tabE a (fun k w h' hk ex hw ew ok T => ?_) (fun h' s e => ⟨fun _ => by have hv := hq h' s; rw [qw_n1 e] at hv; exact hv, fun q => absurd rfl q⟩) (fun h' s e => by have hv := hq h' s; rw [qw_n2 e] at hv; exact hv)⟩
  have hv := hq h' T.1.1
  rw [qw_y z0 z3 hk ex hw ew] at hv
  unfold s_holds at hv
  have mc := T.1.2.1
  have s0 := mc.1.1.1
  have H12 := ok.1.2
  have lo := a.2.2.2.2.2.2 3 w (by decide) (by decide) hw
  refine ⟨fun q => absurd q (by decide), fun _ => ⟨fun e => ⟨fun _ => ?_, fun q => absurd e q⟩, fun e => ⟨s0, c_misHour mc.1 ⟨_, rfl, fun q1 => ⟨fun q => absurd q e, fun _ => ⟨s0, c_mslackByE a T hw ⟨_, rfl, fun c => ?_, fun c => ?_⟩⟩⟩, fun q1 => ?_⟩⟩⟩⟩
  · rw [if_pos e, ← hd_eq lo H12] at hv
    have key : ∀ m i : Nat, i + m = dH (DD k) → ∀ (o3 : Option Value), A (65, [some (.ref 77), some (.int x1), some (.int x2), o3, some (.int (hdm (C 3 w) (N 3 w - 1) i)), some (.int (nI i))], [], h', 0, 0) := by
      intro m
      induction m with
      | zero =>
        intro i hi o3
        refine vX10_holds_65 hA ⟨s0, fun _ => by rw [show i = dH (DD k) by omega]; exact hv, fun q => ?_⟩
        rw [mc.1.2.2.2.2.1] at q; exact absurd (nI_le (by omega) (by omega)) q
      | succ m ih =>
        intro i hi o3
        have st := ih (i + 1) (by omega)
        refine vX10_holds_65 hA ⟨s0, fun q => ?_, fun _ => ⟨s0, c_mslackByE a T hw ⟨_, rfl, eX10_lesser ⟨fun d => ⟨_, rfl, ?_⟩, fun d => ⟨_, rfl, ?_⟩⟩⟩⟩⟩
        · rw [mc.1.2.2.2.2.1] at q; exact absurd q (nI_ge (by omega) (by omega))
        · rw [show hdm (C 3 w) (N 3 w - 1) (i + 1) = sbk (C 3 w) (nI i) (N 3 w - 1) from if_pos d] at st
          rw [← nI_succ]; exact st _
        · rw [show hdm (C 3 w) (N 3 w - 1) (i + 1) = hdm (C 3 w) (N 3 w - 1) i from if_neg d] at st
          rw [← nI_succ]; exact st _
    exact key (dH (DD k)) 0 (by omega) _
  · rw [if_neg e, if_pos (b2i_n0.mp q1), if_pos c] at hv; exact hv
  · rw [if_neg e, if_pos (b2i_n0.mp q1), if_neg c] at hv; exact hv
  · rw [if_neg e, b2i_0.mp q1, if_neg Bool.false_ne_true] at hv; exact hv
theorem g_holds (a : IV h S Im tp) (b : 103 ≤ h.1 ∧ h.1 ≤ B) (x1 x2 x3 : Int32) : prI (mX9_holds g) (mX10_holds g) [.ref 0, .int x1, .int x2, .int x3] [.ref 77, .int x1, .int x2, .int x3] h (inv B) := pr_q _ a b (fun Ret k => q9_holds (iv_tc a) k) (fun h1 Ret a1 k => q10_holds (iv_tc a1) k)
/-! TRUST: the same answer -/
def trS (D : rD) (C1 : Nat → Nat → Int32) (K : Nat) : Nat → Int64
  | 0 => 0
  | i + 1 => if sbk C1 (nI i) K < 0 then trS D C1 K i else trS D C1 K i + (sp_w D (rul D) i).toInt64
theorem trS_bd {D : rD} (ok : rd_ok D) {C1 : Nat → Nat → Int32} {K : Nat} : ∀ i, i ≤ 12 → 0 ≤ (trS D C1 K i).toInt ∧ (trS D C1 K i).toInt ≤ 9 * i
  | 0, _ => by show 0 ≤ (0 : Int64).toInt ∧ (0 : Int64).toInt ≤ 9 * (0 : Nat); decide
  | i + 1, hi => by
    have ih := trS_bd ok (C1 := C1) (K := K) i (by omega)
    have bw := sp_w_bd ok (rul D) i
    unfold trS
    split
    · omega
    · rw [i64_add (by rw [i_64]; omega) (by rw [i_64]; omega), i_64]; omega
def s_trust (DD : Nat → rD) (N : Nat → Nat → Nat) (C : Nat → Nat → Nat → Nat → Int32) (x3 : Int32) (k w : Nat) : Int32 := (sp_sd (trS (DD k) (C 3 w) (N 3 w - 1) (dH (DD k))) (sp_t (DD k) (rul (DD k))).toInt64 x3).toInt32
theorem q9_trust {x1 x2 x3 : Int32} (a : tc h z DD N C) (hq : ∀ h', ax_same cl_F h h' → Ret (some (.int (qw (z 0) (z 3) x1 x2 (-1) (s_trust DD N C x3)))) h') : mX9_trust g [.ref 0, .int x1, .int x2, .int x3] h Ret := by
  have z0 := a.2.2.2.2.1 0 (by decide)
  have z3 := a.2.2.2.2.1 3 (by decide)
  have b1 : ∀ h', ax_same cl_F h h' → sp_in x1 (z 0) = false → Ret (some (.int (-1))) h' := fun h' s e => by have hv := hq h' s; rw [qw_n1 e] at hv; exact hv
  have b2 : ∀ h', ax_same cl_F h h' → sp_in x2 (z 3) = false → Ret (some (.int (-1))) h' := fun h' s e => by have hv := hq h' s; rw [qw_n2 e] at hv; exact hv
  refine uX9_trust (fun A hA => vX9_trust_0 hA ⟨a.1.1, q_begun a (fun q => Or.inr ⟨rfl, a.1.1, _, a.1.2.1.1, a.2.2.1.1.1, c_linesAt (s0 := 3) a.2.2.1 (by decide) (by decide) (fun _ => Or.inr ⟨rfl, b1 h sm_rf q⟩) (fun k hk ex => Or.inl ⟨_, rfl, b1 h sm_rf q⟩)⟩) (fun k hk ex ok h' hs xs hc => Or.inl ⟨_, rfl, ?_⟩)⟩)
  have b := tc_cl hs a
  refine ⟨b.1.1, _, b.1.2.1.1, b.2.2.1.1.1, c_linesAt (s0 := 3) b.2.2.1 (by decide) (by decide) (fun q => Or.inr ⟨rfl, b2 h' hs q⟩) (fun w hw ew => Or.inl ⟨_, rfl, ?_⟩)⟩
  have hv := hq h' hs
  rw [qw_y z0 z3 hk ex hw ew] at hv
  unfold s_trust at hv
  have L := b.2.2.1.2.2.2 3 w (by decide) (by decide) hw
  have H12 := ok.1.2
  have od := hc.2.2
  have key : ∀ m i : Nat, i + m = dH (DD k) → A (36, [some (.ref 0), some (.int x1), some (.int x2), some (.int x3), some (.ref (6 + 14 * k)), some (.ref (lnp 1 3 w)), some (.long (trS (DD k) (C 3 w) (N 3 w - 1) i)), none, some (.int (nI i))], [], h', 0, 0) := by
    intro m
    induction m with
    | zero =>
      intro i hi
      have bd := trS_bd ok (C1 := C 3 w) (K := N 3 w - 1) i (by omega)
      refine vX9_trust_36 hA ⟨hc.1.1.1, fun _ => ⟨xs.1, _, xs.2.1.2.2.2.2.1, od.1.1, ?_⟩, fun q => ?_⟩
      · rw [od.2.2.2.1]; refine c_side (by omega) (t_pos ok) ⟨_, rfl, ?_⟩
        rw [show i = dH (DD k) by omega]; exact hv
      · rw [hc.1.2.2.1.1] at q; exact absurd (nI_le (by omega) (by omega)) q
    | succ m ih =>
      intro i hi
      have st := ih (i + 1) (by omega)
      refine vX9_trust_36 hA ⟨hc.1.1.1, fun q => ?_, fun q => c_keepsByE L (fun c => ⟨_, rfl, fun q => absurd q (by decide), fun _ => ⟨xs.1, _, xs.2.1.2.2.2.2.1, od.1.1, _, od.1.2.1, by rw [od.1.2.2], by rw [od.1.2.2]; exact vp_in_nI (by omega) (by decide), ?_⟩⟩) (fun c => ⟨_, rfl, fun _ => ?_, fun q => absurd rfl q⟩)⟩
      · rw [hc.1.2.2.1.1] at q; exact absurd q (nI_ge (by omega) (by omega))
      · rw [show trS (DD k) (C 3 w) (N 3 w - 1) (i + 1) = trS (DD k) (C 3 w) (N 3 w - 1) i + (sp_w (DD k) (rul (DD k)) i).toInt64 from if_neg c] at st
        rw [nI_clamp (by omega), od.2.2.2.2 i (by omega), ← nI_succ]
        exact st
      · rw [show trS (DD k) (C 3 w) (N 3 w - 1) (i + 1) = trS (DD k) (C 3 w) (N 3 w - 1) i from if_pos c] at st
        rw [← nI_succ, Int64.add_zero]; exact st
  exact key (dH (DD k)) 0 (by omega)
theorem q10_trust {x1 x2 x3 : Int32} (a : tc h z DD N C) (hq : ∀ h', ax_same md_F h h' → Ret (some (.int (qw (z 0) (z 3) x1 x2 (-1) (s_trust DD N C x3)))) h') : mX10_trust g [.ref 77, .int x1, .int x2, .int x3] h Ret := by
  have z0 := a.2.2.2.2.1 0 (by decide)
  have z3 := a.2.2.2.2.1 3 (by decide)
  refine uX10_trust (fun A hA => vX10_trust_0 hA ⟨a.2.1.1, ?_⟩)
  intro u1
  refine ⟨a.2.1.1, q_tabE a (fun k w h' hk ex hw ew ok T => ⟨fun _ => ?_, fun q => absurd q (by decide)⟩) (fun h' s e => ⟨fun q => absurd rfl q, fun _ => by have hv := hq h' s; rw [qw_n1 e] at hv; exact hv⟩) (fun h' s e => by have hv := hq h' s; rw [qw_n2 e] at hv; exact hv)⟩
  have hv := hq h' T.1.1
  rw [qw_y z0 z3 hk ex hw ew] at hv
  unfold s_trust at hv
  have mc := T.1.2.1
  have mw : mw_at h' 77 (dH (DD k)) (sp_w (DD k) (rul (DD k))) (sp_t (DD k) (rul (DD k))) (rul (DD k)) := T.1.2.2
  have s0 := mc.1.1.1
  have H12 := ok.1.2
  obtain ⟨e1, e2⟩ := mo_we mc.1.1
  have key : ∀ m i : Nat, i + m = dH (DD k) → A (29, [some (.ref 77), some (.int x1), some (.int x2), some (.int x3), some (.long (trS (DD k) (C 3 w) (N 3 w - 1) i)), none, some (.int (nI i))], [], h', 0, 0) := by
    intro m
    induction m with
    | zero =>
      intro i hi
      have bd := trS_bd ok (C1 := C 3 w) (K := N 3 w - 1) i (by omega)
      refine vX10_trust_29 hA ⟨s0, fun _ => ⟨s0, ?_⟩, fun q => ?_⟩
      · rw [mw.2.1]; refine c_part (by omega) (t_pos ok) ⟨_, rfl, ?_⟩
        rw [show i = dH (DD k) by omega]; exact hv
      · rw [mc.1.2.2.2.2.1] at q; exact absurd (nI_le (by omega) (by omega)) q
    | succ m ih =>
      intro i hi
      have st := ih (i + 1) (by omega)
      refine vX10_trust_29 hA ⟨s0, fun q => ?_, fun q => ⟨s0, c_mslackByE a T hw ⟨_, rfl, fun c => ?_, fun c => ⟨s0, _, e1, by rw [e2], by rw [e2]; exact vp_in_nI (by omega) (by decide), ?_⟩⟩⟩⟩
      · rw [mc.1.2.2.2.2.1] at q; exact absurd q (nI_ge (by omega) (by omega))
      · rw [show trS (DD k) (C 3 w) (N 3 w - 1) (i + 1) = trS (DD k) (C 3 w) (N 3 w - 1) i from if_pos c] at st
        rw [← nI_succ, Int64.add_zero]; exact st
      · rw [show trS (DD k) (C 3 w) (N 3 w - 1) (i + 1) = trS (DD k) (C 3 w) (N 3 w - 1) i + (sp_w (DD k) (rul (DD k)) i).toInt64 from if_neg c] at st
        rw [nI_clamp (by omega), mw.1 i (by omega), ← nI_succ]
        exact st
  exact key (dH (DD k)) 0 (by omega)
theorem g_trust (a : IV h S Im tp) (b : 103 ≤ h.1 ∧ h.1 ≤ B) (x1 x2 x3 : Int32) : prI (mX9_trust g) (mX10_trust g) [.ref 0, .int x1, .int x2, .int x3] [.ref 77, .int x1, .int x2, .int x3] h (inv B) := pr_q _ a b (fun Ret k => q9_trust (iv_tc a) k) (fun h1 Ret a1 k => q10_trust (iv_tc a1) k)
/-! TIGHT: the same answer -/
def tgK (C1 : Nat → Nat → Int32) (H : Nat) : Nat → Nat
  | 0 => 0
  | k + 1 => if slk C1 (tgK C1 H k) H ≤ slk C1 (k + 1) H then tgK C1 H k else k + 1
theorem tgK_le (C1 : Nat → Nat → Int32) (H : Nat) : ∀ k, tgK C1 H k ≤ k
  | 0 => Nat.le_refl _
  | k + 1 => by
    unfold tgK
    have := tgK_le C1 H k
    split <;> omega
def btK (C1 : Nat → Nat → Int32) (H : Nat) : Nat → Int32
  | 0 => -1
  | k + 1 => if slk C1 k H < hdk C1 H k then nI k else btK C1 H k
theorem slk_lt {C1 : Nat → Nat → Int32} {n k J : Nat} (ok : ln_ok 3 n C1) (hk : k + 1 < n) (hJ : J + 1 ≤ 12) : (slk C1 k (J + 1)).toInt ≤ 100 := by
  have a := (slk_mn ok hk (J + 1) hJ).2.2 (ldT C1 (nI J) k) ⟨J, by omega, rfl⟩
  have b := ld_bd ok hk (j := J) (by omega)
  omega
theorem tg_eq {C1 : Nat → Nat → Int32} {n H : Nat} (ok : ln_ok 3 n C1) (hH : H + 1 ≤ 12) : ∀ k, k + 1 < n → hdk C1 (H + 1) (k + 1) = slk C1 (tgK C1 (H + 1) k) (H + 1) ∧ btK C1 (H + 1) (k + 1) = nI (tgK C1 (H + 1) k)
  | 0, hk => by
    have l := slk_lt ok (k := 0) hk hH
    have t : slk C1 0 (H + 1) < (1000 : Int32) := by rw [i_lt, show (1000 : Int32).toInt = 1000 from rfl]; omega
    exact ⟨if_pos t, if_pos t⟩
  | k + 1, hk => by
    obtain ⟨i1, i2⟩ := tg_eq ok hH k (by omega)
    have u1 : hdk C1 (H + 1) (k + 1 + 1) = (if slk C1 (k + 1) (H + 1) < hdk C1 (H + 1) (k + 1) then slk C1 (k + 1) (H + 1) else hdk C1 (H + 1) (k + 1)) := rfl
    have u2 : btK C1 (H + 1) (k + 1 + 1) = (if slk C1 (k + 1) (H + 1) < hdk C1 (H + 1) (k + 1) then nI (k + 1) else btK C1 (H + 1) (k + 1)) := rfl
    have u3 : tgK C1 (H + 1) (k + 1) = (if slk C1 (tgK C1 (H + 1) k) (H + 1) ≤ slk C1 (k + 1) (H + 1) then tgK C1 (H + 1) k else k + 1) := rfl
    rw [u1, u2, u3, i1, i2]
    by_cases c : slk C1 (tgK C1 (H + 1) k) (H + 1) ≤ slk C1 (k + 1) (H + 1)
    · rw [if_pos c, if_neg (Int32.not_lt.mpr c), if_neg (Int32.not_lt.mpr c)]
      exact ⟨rfl, rfl⟩
    · rw [if_neg c, if_pos (Int32.not_le.mp c), if_pos (Int32.not_le.mp c)]
      exact ⟨rfl, rfl⟩
theorem tg_a {s l v : Int32} (d : (if s < l then s else l) ≤ v) (x y : Int32) : (if (if v < s then v else s) < l then x else y) = (if s < l then x else y) := by
  by_cases c : s < l
  · rw [if_pos c] at d
    rw [if_neg (Int32.not_lt.mpr d)]
  · rw [if_neg c] at d
    rw [if_neg c]
    by_cases e : v < s
    · rw [if_pos e, if_neg (Int32.not_lt.mpr d)]
    · rw [if_neg e, if_neg c]
theorem tg_a2 {s l v : Int32} (d : (if s < l then s else l) ≤ v) : (if (if v < s then v else s) < l then (if v < s then v else s) else l) = (if s < l then s else l) := by
  by_cases c : s < l
  · rw [if_pos c] at d
    rw [if_neg (Int32.not_lt.mpr d)]
  · rw [if_neg c] at d
    rw [if_neg c]
    by_cases e : v < s
    · rw [if_pos e, if_neg (Int32.not_lt.mpr d)]
    · rw [if_neg e, if_neg c]
theorem tg_b {s l v : Int32} (d : ¬ (if s < l then s else l) ≤ v) : (if v < s then v else s) = v ∧ (if v < s then v else s) < l := by
  have f := Int32.not_le.mp d
  have g : v < s ∧ v < l := by
    by_cases c : s < l
    · rw [if_pos c] at f
      exact ⟨f, Int32.lt_trans f c⟩
    · rw [if_neg c] at f
      exact ⟨Int32.lt_of_lt_of_le f (Int32.not_lt.mp c), f⟩
  rw [if_pos g.1]
  exact ⟨rfl, g.2⟩
def s_tight (DD : Nat → rD) (N : Nat → Nat → Nat) (C : Nat → Nat → Nat → Nat → Int32) (k w : Nat) : Int32 := if 2 ≤ N 3 w then nI (tgK (C 3 w) (dH (DD k)) (N 3 w - 2)) else -1
theorem q9_tight {x1 x2 : Int32} (a : tc h z DD N C) (hq : ∀ h', ax_same cl_F h h' → Ret (some (.int (qw (z 0) (z 3) x1 x2 (-1) (s_tight DD N C)))) h') : mX9_tight g [.ref 0, .int x1, .int x2] h Ret := by
  have z0 := a.2.2.2.2.1 0 (by decide)
  have z3 := a.2.2.2.2.1 3 (by decide)
  have hv := hq h sm_rf
  have b1 : sp_in x1 (z 0) = false → Ret (some (.int (-1))) h := fun e => by rw [qw_n1 e] at hv; exact hv
  have b2 : sp_in x2 (z 3) = false → Ret (some (.int (-1))) h := fun e => by rw [qw_n2 e] at hv; exact hv
  refine uX9_tight (fun A hA => vX9_tight_0 hA ⟨a.1.1, _, a.1.2.1.1, a.2.2.1.1.1, c_republicAt a.2.2.1 (fun q => Or.inr ⟨rfl, a.1.1, _, a.1.2.1.1, a.2.2.1.1.1, c_linesAt (s0 := 3) a.2.2.1 (by decide) (by decide) (fun _ => Or.inr ⟨rfl, b1 q⟩) (fun k hk ex => Or.inl ⟨_, rfl, b1 q⟩)⟩) (fun k hk ex => Or.inl ⟨_, rfl, a.1.1, _, a.1.2.1.1, a.2.2.1.1.1, c_linesAt (s0 := 3) a.2.2.1 (by decide) (by decide) (fun q => Or.inr ⟨rfl, b2 q⟩) (fun w hw ew => Or.inl ⟨_, rfl, ?_⟩)⟩)⟩)
  rw [qw_y z0 z3 hk ex hw ew] at hv
  unfold s_tight at hv
  have rc := a.2.2.1.2.2.1 k hk
  have L := a.2.2.1.2.2.2 3 w (by decide) (by decide) hw
  have n8 : N 3 w ≤ 8 := L.2.1
  refine ⟨L.1.1, fun q2 => ?_, fun q2 => ?_⟩
  · rw [L.2.2.1] at q2
    have n2 : 2 ≤ N 3 w := (nI_leI (a := 2) (by decide) (by omega)).mp q2
    rw [if_pos n2] at hv
    have key : ∀ m i : Nat, N 3 w ≤ i + 2 + m → i ≤ N 3 w - 2 → A (46, [some (.ref 0), some (.int x1), some (.int x2), some (.ref (1 + 5 + 14 * k)), some (.ref (lnp 1 3 w)), some (.int (nI (tgK (C 3 w) (dH (DD k)) i))), some (.int (nI (i + 1)))], [], h, 0, 0) := by
      intro m
      induction m with
      | zero =>
        intro i hi ii
        refine vX9_tight_46 hA ⟨L.1.1, fun _ => by rw [show i = N 3 w - 2 by omega]; exact hv, fun q => ?_⟩
        rw [L.2.2.1, ← nI_succ] at q; exact absurd (nI_le (by omega) (by omega)) q
      | succ m ih =>
        intro i hi ii
        have tl := tgK_le (C 3 w) (dH (DD k)) i
        have st := ih (i + 1) (by omega)
        refine vX9_tight_46 hA ⟨L.1.1, fun q => ?_, fun q => ?_⟩
        · rw [L.2.2.1, ← nI_succ, nI_leI (by omega) (by omega)] at q
          rw [show i = N 3 w - 2 by omega]; exact hv
        · rw [L.2.2.1, ← nI_succ, nI_leI (by omega) (by omega)] at q
          have st := st (by omega)
          refine c_slackOfE rc L (by omega) ⟨_, rfl, c_slackOfE rc L (by omega) ⟨_, rfl, fun c => ?_, fun c => ?_⟩⟩
          · rw [show tgK (C 3 w) (dH (DD k)) (i + 1) = tgK (C 3 w) (dH (DD k)) i from if_pos c] at st
            rw [← nI_succ]; exact st
          · rw [show tgK (C 3 w) (dH (DD k)) (i + 1) = i + 1 from if_neg c] at st
            rw [← nI_succ]; exact st
    exact key 8 0 (by omega) (by omega)
  · rw [L.2.2.1] at q2
    rw [if_neg (fun w => q2 (nI_le (a := 2) w (by omega)))] at hv
    exact hv
theorem q10_tight {x1 x2 : Int32} (a : tc h z DD N C) (hq : ∀ h', ax_same md_F h h' → Ret (some (.int (qw (z 0) (z 3) x1 x2 (-1) (s_tight DD N C)))) h') : mX10_tight g [.ref 77, .int x1, .int x2] h Ret := by
  have z0 := a.2.2.2.2.1 0 (by decide)
  have z3 := a.2.2.2.2.1 3 (by decide)
  refine uX10_tight (fun A hA => vX10_tight_0 hA ⟨a.2.1.1, ?_⟩)
  intro u1
  refine ⟨a.2.1.1, q_tabE a (fun k w h' hk ex hw ew ok T => ⟨fun _ => ?_, fun q => absurd q (by decide)⟩) (fun h' s e => ⟨fun q => absurd rfl q, fun _ => by have hv := hq h' s; rw [qw_n1 e] at hv; exact hv⟩) (fun h' s e => by have hv := hq h' s; rw [qw_n2 e] at hv; exact hv)⟩
  have hv := hq h' T.1.1
  rw [qw_y z0 z3 hk ex hw ew] at hv
  have mc := T.1.2.1
  have c := tc_md T.1.1 a
  have s0 := mc.1.1.1
  have H12 := ok.1.2
  have H2 := ok.1.1
  have lo := a.2.2.2.2.2.2 3 w (by decide) (by decide) hw
  have n8 : N 3 w ≤ 8 := lo.1
  have hb : Ret (some (.int (btK (C 3 w) (dH (DD k)) (N 3 w - 1)))) h' := by
    unfold s_tight at hv
    rcases Nat.lt_or_ge (N 3 w) 2 with q | q
    · rw [if_neg (by omega)] at hv
      rw [show N 3 w - 1 = 0 by omega]
      exact hv
    · rw [if_pos q] at hv
      obtain ⟨n, en⟩ : ∃ n, N 3 w = n + 2 := ⟨N 3 w - 2, by omega⟩
      obtain ⟨Hq, eH⟩ : ∃ Hq, dH (DD k) = Hq + 1 := ⟨dH (DD k) - 1, by omega⟩
      have t := (tg_eq lo (H := Hq) (by omega) n (by omega)).2
      rw [← eH] at t
      rw [show N 3 w - 1 = n + 1 by omega, t]
      rw [show N 3 w - 2 = n by omega] at hv
      exact hv
  have key : ∀ m i : Nat, N 3 w ≤ i + 1 + m → i ≤ N 3 w - 1 → ∀ (o2 o6 o7 : Option Value), A (33, [some (.ref 77), some (.int x1), o2, some (.int (btK (C 3 w) (dH (DD k)) i)), some (.int (hdk (C 3 w) (dH (DD k)) i)), some (.int (nI i)), o6, o7], [], h', 0, 0) := by
    intro m
    induction m with
    | zero =>
      intro i hi ii o2 o6 o7
      refine vX10_tight_33 hA ⟨s0, c_mtrains c.2.1 c.2.2.2.1 c.2.2.2.2 hw T.2 ⟨_, rfl, fun _ => by rw [show i = N 3 w - 1 by omega]; exact hb, fun q => ?_⟩⟩
      rw [← nI_succ] at q; exact absurd (nI_le (by omega) (by omega)) q
    | succ m ih =>
      intro i hi ii o2 o6 o7
      refine vX10_tight_33 hA ⟨s0, c_mtrains c.2.1 c.2.2.2.1 c.2.2.2.2 hw T.2 ⟨_, rfl, fun q => ?_, fun q => ?_⟩⟩
      · rw [← nI_succ, nI_leI (by omega) (by omega)] at q
        rw [show i = N 3 w - 1 by omega]; exact hb
      · rw [← nI_succ, nI_leI (by omega) (by omega)] at q
        have st := ih (i + 1) (by omega) (by omega)
        have hm := (hdk_mn lo H12 i (by omega)).2.1
        have inn : ∀ f j : Nat, j + f = dH (DD k) → ∀ (x3 x4 : Int32) (o2 o7 : Option Value), x3 = (if slk (C 3 w) i j < hdk (C 3 w) (dH (DD k)) i then nI i else btK (C 3 w) (dH (DD k)) i) → x4 = (if slk (C 3 w) i j < hdk (C 3 w) (dH (DD k)) i then slk (C 3 w) i j else hdk (C 3 w) (dH (DD k)) i) → A (47, [some (.ref 77), some (.int x1), o2, some (.int x3), some (.int x4), some (.int (nI i)), some (.int (nI j)), o7], [], h', 0, 0) := by
          intro f
          induction f with
          | zero =>
            intro j hj x3 x4 o2 o7 e3 e4
            refine vX10_tight_47 hA ⟨s0, fun _ => ?_, fun q => ?_⟩
            · rw [← nI_succ, e3, e4, show j = dH (DD k) by omega]
              exact st _ _ _
            · rw [mc.1.2.2.2.2.1] at q; exact absurd (nI_le (by omega) (by omega)) q
          | succ f ihf =>
            intro j hj x3 x4 o2 o7 e3 e4
            refine vX10_tight_47 hA ⟨s0, fun q => ?_, fun _ => ⟨s0, ?_⟩⟩
            · rw [mc.1.2.2.2.2.1] at q; exact absurd q (nI_ge (by omega) (by omega))
            · rw [← nI_succ]
              subst e3
              subst e4
              refine c_mtrainOf (j := 0) c.2.1 c.2.2.2.1 c.2.2.2.2 hw T.2 (by omega) (by decide) ⟨_, rfl, c_trueAt ⟨_, rfl, s0, c_mtrainOf (j := 0) c.2.1 c.2.2.2.1 c.2.2.2.2 hw T.2 (by omega) (by decide) ⟨_, rfl, c_trueAt ⟨_, rfl, s0, c_mtrainOf (j := 1) c.2.1 c.2.2.2.1 c.2.2.2.2 hw T.2 (by omega) (by decide) ⟨_, rfl, fun d => eX10_lesser ⟨fun e => ⟨_, rfl, ?_⟩, fun e => ⟨_, rfl, ?_⟩⟩, fun d => eX10_lesser ⟨fun e => ⟨_, rfl, ?_⟩, fun e => absurd (Int32.le_of_lt (Int32.not_le.mp d)) e⟩⟩⟩⟩⟩⟩
              · rw [← nI_succ]
                exact ihf (j + 1) (by omega) _ _ _ _ (tg_a (v := ldT (C 3 w) (nI j) i) d _ _).symm ((Int32.le_antisymm e d).trans (tg_a2 (v := ldT (C 3 w) (nI j) i) d).symm)
              · rw [← nI_succ]
                exact ihf (j + 1) (by omega) _ _ _ _ (tg_a (v := ldT (C 3 w) (nI j) i) d _ _).symm (tg_a2 (v := ldT (C 3 w) (nI j) i) d).symm
              · rw [← nI_succ]
                exact ihf (j + 1) (by omega) _ _ _ _ (if_pos (tg_b (v := ldT (C 3 w) (nI j) i) d).2).symm ((if_pos (tg_b (v := ldT (C 3 w) (nI j) i) d).2).trans (tg_b (v := ldT (C 3 w) (nI j) i) d).1).symm
        exact inn (dH (DD k)) 0 (by omega) _ _ _ _ (by rw [show slk (C 3 w) i 0 = 1000 from rfl, if_neg (by rw [i_lt, show (1000 : Int32).toInt = 1000 from rfl]; omega)]) (by rw [show slk (C 3 w) i 0 = 1000 from rfl, if_neg (by rw [i_lt, show (1000 : Int32).toInt = 1000 from rfl]; omega)])
  exact key 8 0 (by omega) (by omega) _ _ _
theorem g_tight (a : IV h S Im tp) (b : 103 ≤ h.1 ∧ h.1 ≤ B) (x1 x2 : Int32) : prI (mX9_tight g) (mX10_tight g) [.ref 0, .int x1, .int x2] [.ref 77, .int x1, .int x2] h (inv B) := pr_q _ a b (fun Ret k => q9_tight (iv_tc a) k) (fun h1 Ret a1 k => q10_tight (iv_tc a1) k)
end
end

section
section
variable {g : ax_G} {Ret : Option Value → ax_H → Prop} {h : ax_H} {z : Nat → Nat} {DD : Nat → rD} {N : Nat → Nat → Nat} {C : Nat → Nat → Nat → Nat → Int32} {S : sT} {Im : Nat → Option sT} {tp : Nat → Nat} {B : Nat}
/-! a republic with other deeds of one -/
def swr (D : rD) (p : Nat) (e : Nat → Int32) : rD := (dH D, dP D, dpu D, dwo D, dmo D, fun p' q => if p' = p then e q else dde D p' q, dlo D)
theorem swr_de (D : rD) (p : Nat) (e : Nat → Int32) (q : Nat) : dde (swr D p e) p q = e q := if_pos rfl
theorem swr_ok {D : rD} {p : Nat} {e : Nat → Int32} (ok : rd_ok D) (he : ∀ q, q < dH D → dOk (e q)) : rd_ok (swr D p e) := by
  refine ⟨ok.1, ok.2.1, ok.2.2.1, ok.2.2.2.1, ok.2.2.2.2.1, fun p' q hp hq => ?_, ok.2.2.2.2.2.2⟩
  by_cases c : p' = p
  · rw [c, swr_de]; exact he q hq
  · rw [show dde (swr D p e) p' q = dde D p' q from if_neg c]; exact ok.2.2.2.2.2.1 p' q hp hq
theorem de_in {D : rD} {p q : Nat} (hp : p < dP D) (hq : q < dH D) (hP : dP D ≤ 6) (hH : dH D ≤ 12) : sp_de D (nI p) (nI q) = dde D p q := by
  unfold sp_de
  rw [sp_in_nI (by omega) hp, sp_in_nI (by omega) hq, nI_clamp (by omega), nI_clamp (by omega)]; rfl
section
variable {m ρ : Nat} {D : rD} {mo : Nat → Int32} {e : Nat → Int32} {p : Nat}
theorem x_mworth {q : Nat} {l : Int32} (a : mb_at h m ρ D mo) (a9 : ax_i h (m + 14) (12 * p + q) = e q) (hd : dOk (e q)) (hp : p < dP D) (hq0 : q < dH D) (hq : Ret (some (.int (sp_mw (swr D p e) mo p q l))) h) : mX10_worthOf g [.ref m, .int (nI p), .int (nI q), .int l] h Ret := by
  obtain ⟨a1, a2, a3, a4, -, -, -⟩ := id a
  obtain ⟨e1, e2⟩ := mo_de a1
  have hb := a3.1
  have hq : Ret (some (.int (if e q = -1 then 0 else dwo D (e q).toNatClampNeg * (if l = 1 then 1 else sp_ti (mo (e q).toNatClampNeg) l)))) h := by
    have t := hq
    unfold sp_mw at t
    rw [swr_de] at t
    exact t
  have ei : (12 : Int32) * nI p + nI q = nI (12 * p + q) := ni_21
  refine eX10_worthOf ⟨a1.1, _, e1, by rw [e2], ?_, fun h1 => ?_, fun h1 => ?_⟩
  · rw [ei, e2]; exact vp_in_nI (by omega) (by decide)
  · rw [ei, nI_clamp (by omega), a9] at h1 ⊢
    obtain ⟨k, hk, hd⟩ := hd.resolve_left h1
    rw [if_neg h1, hd, nI_clamp (by omega)] at hq
    rw [hd]
    refine ⟨a1.1, c_mof (i := 8 + k) a1 a2 a4 (by omega) (ni_c 8 k) ⟨_, rfl, ?_⟩⟩
    rw [← Nat.add_assoc, a3.2.2.2.2.1 k hk]
    refine ⟨fun h2 => ⟨a1.1, c_mmode a hk ⟨_, rfl, c_mtimes ⟨_, rfl, ?_⟩⟩⟩, fun h2 => ?_⟩
    · rw [if_neg h2] at hq; exact hq
    · rw [if_pos h2] at hq; exact hq
  · rw [ei, nI_clamp (by omega), a9] at h1
    rw [if_pos h1] at hq; exact hq
theorem x_mvalueBy {x y : Int32} (a : mb_at h m ρ D mo) (hd : ∀ q, q < dH D → dOk (e q)) (hp : p < dP D) (a9 : ∀ q, q < dH D → ax_i h (m + 14) (12 * p + q) = e q) (hq : Ret (some (.int (sp_vb (swr D p e) mo p x y))) h) : mX10_valueBy g [.ref m, .int (nI p), .int x, .int y] h Ret := by
  have s0 := a.1.1
  have e26 := a.2.2.2.2.1
  have hH := a.2.2.1.1.1
  refine uX10_valueBy (fun A hA => vX10_valueBy_0 hA ?_)
  have key : ∀ n i : Nat, ∀ o6 : Option Value, i + n = dH D → A (6, [some (.ref m), some (.int (nI p)), some (.int x), some (.int y), some (.int (sumN (fun q => sp_mw (swr D p e) mo p q (sp_lv x y q)) i)), some (.int (nI i)), o6], [], h, 0, 0) := by
    intro n
    induction n with
    | zero =>
      intro i o6 hi
      refine vX10_valueBy_6 hA ⟨s0, fun _ => ?_, fun q => ?_⟩
      · rw [show i = dH D by omega]; exact hq
      · rw [e26] at q; exact absurd (nI_le (by omega) (by omega)) q
    | succ n ih =>
      intro i o6 hi
      have nx : ∀ l : Int32, l = sp_lv x y i → A (6, [some (.ref m), some (.int (nI p)), some (.int x), some (.int y), some (.int (sumN (fun q => sp_mw (swr D p e) mo p q (sp_lv x y q)) i + sp_mw (swr D p e) mo p i l)), some (.int (nI i + 1)), some (.int l)], [], h, 0, 0) := by
        rintro l rfl
        have := ih (i + 1) (some (.int (sp_lv x y i))) (by omega)
        rw [nI_succ] at this
        exact this
      refine vX10_valueBy_6 hA ⟨s0, fun q => ?_, fun _ => ⟨fun h1 => ⟨fun h2 => ⟨s0, x_mworth a (a9 i (by omega)) (hd i (by omega)) hp (by omega) ⟨_, rfl, nx _ ?_⟩⟩, fun h2 => ⟨s0, x_mworth a (a9 i (by omega)) (hd i (by omega)) hp (by omega) ⟨_, rfl, nx _ ?_⟩⟩⟩, fun h1 => ⟨fun h2 => ⟨s0, x_mworth a (a9 i (by omega)) (hd i (by omega)) hp (by omega) ⟨_, rfl, nx _ ?_⟩⟩, fun h2 => ⟨s0, x_mworth a (a9 i (by omega)) (hd i (by omega)) hp (by omega) ⟨_, rfl, nx _ ?_⟩⟩⟩⟩⟩
      · rw [e26] at q; exact absurd q (nI_ge (by omega) (by omega))
      · unfold sp_lv; rw [if_neg h1, if_neg h2]
      · unfold sp_lv; rw [if_neg h1, if_pos h2]
      · unfold sp_lv; rw [if_pos h1, if_neg h2]
      · unfold sp_lv; rw [if_pos h1, if_pos h2]
  exact key (dH D) 0 _ (by omega)
theorem x_mlayValues (a : mb_at h m ρ D mo) (hd : ∀ q, q < dH D → dOk (e q)) (hp : p < dP D) (a9 : ∀ q, q < dH D → ax_i h (m + 14) (12 * p + q) = e q) (hq : ∀ h', mr noJ (fun a => a = m + 15) m h h' → (∀ q, q < dH D → ax_i h' (m + 15) (12 * p + q) = sp_vb (swr D p e) mo p (nI q) (-1)) → Ret none h') : mX10_layValues g [.ref m, .int (nI p)] h Ret := by
  have hb := a.2.2.1.1
  refine uX10_layValues (fun A hA => vX10_layValues_0 hA ?_)
  have key : ∀ n i : Nat, ∀ hh : ax_H, i + n = dH D → mr noJ (fun a => a = m + 15) m h hh → (∀ q, q < i → ax_i hh (m + 15) (12 * p + q) = sp_vb (swr D p e) mo p (nI q) (-1)) → A (2, [some (.ref m), some (.int (nI p)), some (.int (nI i))], [], hh, 0, 0) := by
    intro n
    induction n with
    | zero =>
      intro i hh hi hs hv
      have a' : mb_at hh m ρ D mo := mb_at_mr hs ⟨id, id, id, id, id⟩ (by omega) a
      refine vX10_layValues_2 hA ⟨a'.1.1, fun _ => hq hh hs (by rw [← show i = dH D by omega]; exact hv), fun q => ?_⟩
      rw [a'.2.2.2.2.1] at q; exact absurd (nI_le (by omega) (by omega)) q
    | succ n ih =>
      intro i hh hi hs hv
      have a' : mb_at hh m ρ D mo := mb_at_mr hs ⟨id, id, id, id, id⟩ (by omega) a
      obtain ⟨e1, e2⟩ := mo_va a'.1
      have s0 := a'.1.1
      have ei : (12 : Int32) * nI p + nI i = nI (12 * p + i) := ni_21
      refine vX10_layValues_2 hA ⟨s0, fun q => ?_, fun _ => ⟨s0, _, e1, s0, x_mvalueBy a' hd hp (fun q hq' => by rw [mr_e hs (by omega) (by omega)]; exact a9 q hq') ⟨_, rfl, by rw [e2], by rw [ei, e2]; exact vp_in_nI (by omega) (by decide), ?_⟩⟩⟩
      · rw [a'.2.2.2.2.1] at q; exact absurd q (nI_ge (by omega) (by omega))
      · intro h5
        have := ih (i + 1) h5 (by omega) (mr_tr hs (mr_c rfl (by omega))) (fun q hq => by
          show ax_i (ax_pi hh (m + 15) (12 * nI p + nI i).toNatClampNeg _) (m + 15) (12 * p + q) = _
          rw [ai_pi, ei, nI_clamp (by omega)]
          by_cases c : q = i
          · rw [if_pos ⟨rfl, by omega⟩, c]
          · rw [if_neg (fun z => c (by omega))]; exact hv q (by omega))
        rw [nI_succ] at this
        exact this
  exact key (dH D) 0 h (by omega) mr_rf (fun q hq => absurd hq (Nat.not_lt_zero q))
theorem x_mmeanOf {w : Nat → Int32} {t po : Int32} {vl : Nat → Nat → Int32} (a : mb_at h m ρ D mo) (va : ∀ q, q < dH D → ax_i h (m + 15) (12 * p + q) = vl p q) (b : mw_at h m (dH D) w t po) (hp : p < dP D) (hq : Ret (some (.long (sp_we (dP D) (dH D) vl w (nI p)))) h) : mX10_meanOf g [.ref m, .int (nI p)] h Ret := by
  obtain ⟨hH, hP⟩ := a.2.2.1.1
  have s0 := a.1.1
  have e26 := a.2.2.2.2.1
  obtain ⟨e1, e2⟩ := mo_we a.1
  obtain ⟨f1, f2⟩ := mo_va a.1
  refine uX10_meanOf (fun A hA => vX10_meanOf_0 hA ?_)
  have key : ∀ n i : Nat, i + n = dH D → A (5, [some (.ref m), some (.int (nI p)), some (.long (sumL (fun q => (w q).toInt64 * (sp_br (dP D) (dH D) vl (nI p) (nI q)).toInt64) i)), none, some (.int (nI i))], [], h, 0, 0) := by
    intro n
    induction n with
    | zero =>
      intro i hi
      refine vX10_meanOf_5 hA ⟨s0, fun _ => ?_, fun q => ?_⟩
      · rw [show i = dH D by omega]; exact hq
      · rw [e26] at q; exact absurd (nI_le (by omega) (by omega)) q
    | succ n ih =>
      intro i hi
      have ei : (12 : Int32) * nI p + nI i = nI (12 * p + i) := ni_21
      refine vX10_meanOf_5 hA ⟨s0, fun q => ?_, fun _ => ⟨s0, _, e1, by rw [e2], by rw [e2]; exact vp_in_nI (by omega) (by decide), s0, _, f1, by rw [f2], by rw [ei, f2]; exact vp_in_nI (by omega) (by decide), ?_⟩⟩
      · rw [e26] at q; exact absurd q (nI_ge (by omega) (by omega))
      · rw [ei, nI_clamp (by omega), nI_clamp (by omega), b.1 i (by omega), va i (by omega), ← sp_br_in (vl := vl) hp (show i < dH D by omega) hP hH, ← nI_succ]
        exact ih (i + 1) (by omega)
  exact key (dH D) 0 (by omega)
end
/-! sums with two places exchanged -/
theorem sumI_u1 {f k : Nat → Int} {a : Nat} : ∀ n, (∀ q, q < n → q ≠ a → k q = f q) → a < n → sumI k n = sumI f n + (k a - f a)
  | 0, _, h => absurd h (Nat.not_lt_zero a)
  | n + 1, e, h => by
    show sumI k n + k n = sumI f n + f n + (k a - f a)
    rcases Nat.lt_or_ge a n with c | c
    · rw [sumI_u1 n (fun q hq => e q (by omega)) c, e n (by omega) (by omega)]; omega
    · have ea : a = n := by omega
      have t : sumI k n = sumI f n := sumI_congr (fun q hq => e q (by omega) (by omega))
      rw [t, ea]; omega
theorem sumI_u2 {f k : Nat → Int} {a b n : Nat} (hn : ∀ q, q < n → q ≠ a → q ≠ b → k q = f q) (ha : a < n) (hb : b < n) (ab : a ≠ b) : sumI k n = sumI f n + (k a - f a) + (k b - f b) := by
  have t1 := sumI_u1 (f := fun q => if q = a then f a else k q) (k := k) (a := a) n (fun q hq c => by show k q = (if q = a then f a else k q); rw [if_neg c]) ha
  have t2 := sumI_u1 (f := f) (k := fun q => if q = a then f a else k q) (a := b) n (fun q hq c => by
    show (if q = a then f a else k q) = f q
    by_cases d : q = a
    · rw [if_pos d, d]
    · rw [if_neg d]; exact hn q hq d c) hb
  have t1 : sumI k n = sumI (fun q => if q = a then f a else k q) n + (k a - (if a = a then f a else k a)) := t1
  have t2 : sumI (fun q => if q = a then f a else k q) n = sumI f n + ((if b = a then f a else k b) - f b) := t2
  rw [t1, t2, if_pos rfl, if_neg (fun w => ab w.symm)]
  omega
theorem sumI_ext {f k : Nat → Int} {n : Nat} (e : ∀ i, i < n → f i = k i) : sumI f n = sumI k n := sumI_congr e
/-- a day's mean, as an integer -/
theorem we_int {D : rD} (ok : rd_ok D) {vl : Nat → Nat → Int32} {p : Nat} {x : Int32} (hp : p < dP D) (bv : ∀ q, q < dH D → -1287 ≤ (vl p q).toInt ∧ (vl p q).toInt ≤ 1287) : (sp_we (dP D) (dH D) vl (sp_w D x) (nI p)).toInt = sumI (fun q => (sp_w D x q).toInt * (vl p q).toInt) (dH D) ∧ -138996 ≤ (sp_we (dP D) (dH D) vl (sp_w D x) (nI p)).toInt ∧ (sp_we (dP D) (dH D) vl (sp_w D x) (nI p)).toInt ≤ 138996 := by
  have H12 := ok.1.2
  have P6 := ok.2.1
  have pr : ∀ q, q < dH D → ((sp_w D x q).toInt64 * (sp_br (dP D) (dH D) vl (nI p) (nI q)).toInt64).toInt = (sp_w D x q).toInt * (vl p q).toInt ∧ -11583 ≤ (sp_w D x q).toInt * (vl p q).toInt ∧ (sp_w D x q).toInt * (vl p q).toInt ≤ 11583 := fun q hq => by
    rw [sp_br_in hp hq P6 H12]
    have w1 := sp_w_bd ok x q
    have v1 := bv q hq
    have t := abs_mul (a := 9) (b := 1287) (by decide) (by decide) (x := (sp_w D x q).toInt) (y := (vl p q).toInt) (by omega) v1
    refine ⟨?_, by omega, by omega⟩
    rw [i64_mul (by rw [i_64, i_64]; omega) (by rw [i_64, i_64]; omega), i_64, i_64]
  have sl := sumL_int (f := fun q => (sp_w D x q).toInt64 * (sp_br (dP D) (dH D) vl (nI p) (nI q)).toInt64) (b := 11583) (n := dH D) (by decide) (fun q hq => by
    have := pr q hq
    show -11583 ≤ ((sp_w D x q).toInt64 * (sp_br (dP D) (dH D) vl (nI p) (nI q)).toInt64).toInt ∧ _
    rw [this.1]; omega) (by omega)
  unfold sp_we
  refine ⟨?_, by omega, by omega⟩
  rw [sl.1]
  exact sumI_congr (fun q hq => (pr q hq).1)
theorem vl_int {D : rD} (ok : rd_ok D) {p q : Nat} (hp : p < dP D) (hq : q < dH D) : (sp_vl D p q).toInt = (sp_wd D (nI p)).toInt + (sp_ex D (dde D p q)).toInt := by
  have a := wd_bd ok (nI p)
  have b := ex_bd ok (sp_de D (nI p) (nI q)) (sp_mo D (sp_de D (nI p) (nI q)))
  unfold sp_vl
  rw [i32_add (by unfold sp_ex; omega) (by unfold sp_ex; omega), de_in hp hq ok.2.1 ok.1.2]
theorem wd_int {D : rD} (ok : rd_ok D) {p : Nat} (hp : p < dP D) : (sp_wd D (nI p)).toInt = sumI (fun q => (sp_wo D (dde D p q)).toInt) (dH D) := by
  have H12 := ok.1.2
  have t := sumN_int (f := fun q => sp_wo D (sp_de D (nI p) (nI q))) (b := 99) (n := dH D) (by decide) (fun q _ => wo_bd ok _) (by omega)
  unfold sp_wd
  rw [t.1]
  exact sumI_congr (fun q hq => by rw [de_in hp hq ok.2.1 H12])
theorem ex_no (D : rD) : sp_ex D (-1) = 0 := by
  unfold sp_ex sp_mo
  rw [if_pos (Or.inl (by decide))]
  unfold sp_xb
  rw [if_neg (by decide), if_neg (by decide)]
/-- deeds of one, with two exchanged -/
def exd (e : Nat → Int32) (a b q : Nat) : Int32 := if q = b then e a else if q = a then e b else e q
theorem we_sw {D : rD} (ok : rd_ok D) {p a b : Nat} {x : Int32} (hp : p < dP D) (ha : a < dH D) (hb : b < dH D) (ab : a ≠ b) (eb : dde D p b = -1) : (sp_we (dP D) (dH D) (sp_vl (swr D p (exd (dde D p) a b))) (sp_w D x) (nI p)).toInt = (sp_we (dP D) (dH D) (sp_vl D) (sp_w D x) (nI p)).toInt + (sp_ex D (dde D p a)).toInt * ((sp_w D x b).toInt - (sp_w D x a).toInt) := by
  have ok2 : rd_ok (swr D p (exd (dde D p) a b)) := swr_ok ok (fun q hq => by
    unfold exd
    split
    · exact rd_de_of ok p a hp ha
    · split
      · exact rd_de_of ok p b hp hb
      · exact rd_de_of ok p q hp hq)
  have i1 := (we_int ok (vl := sp_vl D) (x := x) hp (fun q _ => vl_bd ok p q)).1
  have i2 := (we_int ok (vl := sp_vl (swr D p (exd (dde D p) a b))) (x := x) hp (fun q _ => vl_bd ok2 p q)).1
  have wdE : (sp_wd (swr D p (exd (dde D p) a b)) (nI p)).toInt = (sp_wd D (nI p)).toInt := by
    rw [wd_int ok2 (p := p) hp, wd_int ok hp]
    show sumI (fun q => (sp_wo D (dde (swr D p (exd (dde D p) a b)) p q)).toInt) (dH D) = _
    have t := sumI_u2 (f := fun q => (sp_wo D (dde D p q)).toInt) (k := fun q => (sp_wo D (dde (swr D p (exd (dde D p) a b)) p q)).toInt) (a := a) (b := b) (n := dH D) (fun q _ c d => by
      show (sp_wo D (dde (swr D p (exd (dde D p) a b)) p q)).toInt = (sp_wo D (dde D p q)).toInt
      rw [swr_de]; unfold exd; rw [if_neg d, if_neg c]) ha hb ab
    have ea : dde (swr D p (exd (dde D p) a b)) p a = dde D p b := by rw [swr_de]; unfold exd; rw [if_neg ab, if_pos rfl]
    have eb2 : dde (swr D p (exd (dde D p) a b)) p b = dde D p a := by rw [swr_de]; unfold exd; rw [if_pos rfl]
    rw [t]
    show _ + ((sp_wo D (dde (swr D p (exd (dde D p) a b)) p a)).toInt - (sp_wo D (dde D p a)).toInt) + ((sp_wo D (dde (swr D p (exd (dde D p) a b)) p b)).toInt - (sp_wo D (dde D p b)).toInt) = _
    rw [ea, eb2]; omega
  have v2 : ∀ q, q < dH D → (sp_vl (swr D p (exd (dde D p) a b)) p q).toInt = (sp_wd D (nI p)).toInt + (sp_ex D (exd (dde D p) a b q)).toInt := fun q hq => by
    rw [vl_int ok2 (p := p) hp hq, wdE, swr_de]; rfl
  rw [i1, i2]
  have t := sumI_u2 (f := fun q => (sp_w D x q).toInt * (sp_vl D p q).toInt) (k := fun q => (sp_w D x q).toInt * (sp_vl (swr D p (exd (dde D p) a b)) p q).toInt) (a := a) (b := b) (n := dH D) (fun q hq c d => by
    show (sp_w D x q).toInt * (sp_vl (swr D p (exd (dde D p) a b)) p q).toInt = (sp_w D x q).toInt * (sp_vl D p q).toInt
    rw [v2 q hq, vl_int ok hp hq]; unfold exd; rw [if_neg d, if_neg c]) ha hb ab
  rw [t]
  show _ + ((sp_w D x a).toInt * (sp_vl (swr D p (exd (dde D p) a b)) p a).toInt - (sp_w D x a).toInt * (sp_vl D p a).toInt) + ((sp_w D x b).toInt * (sp_vl (swr D p (exd (dde D p) a b)) p b).toInt - (sp_w D x b).toInt * (sp_vl D p b).toInt) = _
  rw [v2 a ha, v2 b hb, vl_int ok hp ha, vl_int ok hp hb, show exd (dde D p) a b a = -1 from by unfold exd; rw [if_neg ab, if_pos rfl, eb], show exd (dde D p) a b b = dde D p a from if_pos rfl, eb, ex_no]
  have z0 : (0 : Int32).toInt = 0 := rfl
  rw [z0]
  generalize (sp_w D x a).toInt = u
  generalize (sp_w D x b).toInt = v
  generalize (sp_ex D (dde D p a)).toInt = y
  generalize (sp_wd D (nI p)).toInt = t0
  rw [Int.mul_add, Int.mul_add, Int.mul_add, Int.mul_add, Int.mul_sub, Int.mul_comm y v, Int.mul_comm y u]
  omega
/-! SHIFT: the same answer -/
def shR (D : rD) (p a b : Nat) : Int64 := (sp_ex D (dde D p a)).toInt64 * (sp_w D (rul D) b - sp_w D (rul D) a).toInt64
theorem shR_bd {D : rD} (ok : rd_ok D) (p a b : Nat) : (shR D p a b).toInt = (sp_ex D (dde D p a)).toInt * ((sp_w D (rul D) b).toInt - (sp_w D (rul D) a).toInt) ∧ bL 1782 (shR D p a b) := by
  have b1 := sp_w_bd ok (rul D) a
  have b2 := sp_w_bd ok (rul D) b
  have b3 := ex_bd ok (dde D p a) (sp_mo D (dde D p a))
  have e1 : (sp_w D (rul D) b - sp_w D (rul D) a).toInt = (sp_w D (rul D) b).toInt - (sp_w D (rul D) a).toInt := i32_sub (by omega) (by omega)
  have t := abs_mul (a := 99) (b := 18) (by decide) (by decide) (x := (sp_ex D (dde D p a)).toInt) (y := (sp_w D (rul D) b).toInt - (sp_w D (rul D) a).toInt) b3 (by omega)
  have e : (shR D p a b).toInt = (sp_ex D (dde D p a)).toInt * ((sp_w D (rul D) b).toInt - (sp_w D (rul D) a).toInt) := by
    unfold shR
    rw [i64_mul (by rw [i_64, i_64, e1]; omega) (by rw [i_64, i_64, e1]; omega), i_64, i_64, e1]
  exact ⟨e, by unfold bL; rw [e]; omega⟩
def shS (D : rD) (p : Nat) : Nat → Option Nat × Int64
  | 0 => (none, 0)
  | k + 1 => if k % 12 < dH D ∧ dde D p (k % 12) = -1 ∧ ¬ lg_cmp (shR D p (k / 12) (k % 12)) (shS D p k).2 ≤ 0 then (some k, shR D p (k / 12) (k % 12)) else shS D p k
theorem shS_bd {D : rD} (ok : rd_ok D) (p : Nat) : ∀ k, 0 ≤ (shS D p k).2.toInt ∧ (shS D p k).2.toInt ≤ 1782
  | 0 => by show 0 ≤ (0 : Int64).toInt ∧ (0 : Int64).toInt ≤ 1782; decide
  | k + 1 => by
    have ih := shS_bd ok p k
    unfold shS
    split
    · rename_i c
      have c := c.2.2
      rw [cmp_le0] at c
      have t := (shR_bd ok p (k / 12) (k % 12)).2
      unfold bL at t
      show 0 ≤ (shR D p (k / 12) (k % 12)).toInt ∧ (shR D p (k / 12) (k % 12)).toInt ≤ 1782
      omega
    · exact ih
theorem shS_skip {D : rD} (p a : Nat) : ∀ j, dH D + j ≤ 12 → shS D p (12 * a + (dH D + j)) = shS D p (12 * a + dH D)
  | 0, _ => rfl
  | j + 1, hj => by
    rw [show 12 * a + (dH D + (j + 1)) = (12 * a + (dH D + j)) + 1 by omega]
    have un : shS D p (12 * a + (dH D + j) + 1) = shS D p (12 * a + (dH D + j)) := if_neg (fun w => by have := w.1; omega)
    rw [un]
    exact shS_skip (D := D) p a j (by omega)
def frm : Option Nat → Int32
  | none => -1
  | some k => nI (k / 12)
def tto : Option Nat → Int32
  | none => -1
  | some k => nI (k % 12)
def bsO : Option Nat → Int32
  | none => -1
  | some k => nI k
def shA (x3 : Int32) (D : rD) (p : Nat) (s : Option Nat × Int64) : Int32 := if 2 ≤ x3 then (sp_sd (sp_we (dP D) (dH D) (sp_vl D) (sp_w D (rul D)) (nI p) + s.2) (sp_t D (rul D)).toInt64 (if x3 = 3 then 1 else 0)).toInt32 else if x3 = 0 then frm s.1 else tto s.1
def s_shift (x2 x3 : Int32) (D : rD) : Int32 := if sp_in x2 (dP D) then (if x3 < 0 then -1000000 else if x3 ≤ 3 then shA x3 D x2.toNatClampNeg (shS D x2.toNatClampNeg (12 * dH D)) else -1000000) else -1000000
theorem q9_shift {x1 x2 x3 : Int32} (a : tc h z DD N C) (hq : ∀ h', ax_same cl_F h h' → Ret (some (.int (qv (z 0) DD x1 (-1000000) (s_shift x2 x3)))) h') : mX9_shift g [.ref 0, .int x1, .int x2, .int x3] h Ret := by
  have z2 := a.2.2.2.2.1 0 (by decide)
  refine uX9_shift (fun A hA => vX9_shift_0 hA ⟨a.1.1, q_begun a (fun q => Or.inr ⟨rfl, ?_⟩) (fun k hk ex ok h' hs xs hc => Or.inl ⟨_, rfl, hc.1.1.1, c_hasPerson hc.1 ⟨_, rfl, fun q1 => ?_, fun q1 => ⟨fun q2 => ?_, fun q2 => ⟨fun q3 => ?_, fun q3 => ?_⟩⟩⟩⟩)⟩)
  · have := hq h sm_rf; rwa [qv_no q] at this
  all_goals
    have hv := hq h' hs
    rw [qv_yes z2 hk ex] at hv
    unfold s_shift at hv
  · rw [b2i_0.mp q1, if_neg Bool.false_ne_true] at hv; exact hv
  · rw [if_pos (b2i_n0.mp q1), if_pos q2] at hv; exact hv
  · rw [if_pos (b2i_n0.mp q1), if_neg q2, if_pos q3] at hv
    obtain ⟨p, hp, rfl⟩ := sp_in_ix (by have := ok.2.1; omega) (b2i_n0.mp q1)
    have P6 := ok.2.1
    rw [nI_clamp (by omega)] at hv
    have H12 := ok.1.2
    have od := hc.2.2
    have e5 := hc.1.2.2.1.1
    have key : ∀ m i : Nat, i + m = dH (DD k) → ∀ (o10 o11 o12 o13 : Option Value), A (45, [some (.ref 0), some (.int x1), some (.int (nI p)), some (.int x3), some (.ref (6 + 14 * k)), some (.int (frm (shS (DD k) p (12 * i)).1)), some (.int (tto (shS (DD k) p (12 * i)).1)), some (.long (shS (DD k) p (12 * i)).2), none, some (.int (nI i)), o10, o11, o12, o13], [], h', 0, 0) := by
      intro m
      induction m with
      | zero =>
        intro i hi o10 o11 o12 o13
        rw [show i = dH (DD k) by omega]
        have bd := shS_bd ok p (12 * dH (DD k))
        have wb := (we_int ok (vl := sp_vl (DD k)) (x := rul (DD k)) hp (fun q _ => vl_bd ok p q)).2
        have big : -9223372036854775808 < (sp_we (dP (DD k)) (dH (DD k)) (sp_vl (DD k)) (sp_w (DD k) (rul (DD k))) (nI p) + (shS (DD k) p (12 * dH (DD k))).2).toInt := by rw [i64_add (by omega) (by omega)]; omega
        unfold shA at hv
        refine vX9_shift_45 hA ⟨hc.1.1.1, fun _ => ⟨fun c2 => ⟨xs.1, _, xs.2.1.2.2.2.1, xs.1, _, xs.2.1.2.2.2.2.1, hc.2.1.1.1, c_weighed hc.2.1 od (Nat.le_refl _) ⟨_, rfl, xs.1, _, xs.2.1.2.2.2.2.1, od.1.1, fun n3 => ?_, fun e3 => ?_⟩⟩, fun c2 => ⟨fun n0 => ?_, fun e0 => ?_⟩⟩, fun q => ?_⟩
        · rw [if_pos c2, if_neg n3] at hv
          rw [od.2.2.2.1]; exact c_side big (t_pos ok) ⟨_, rfl, hv⟩
        · rw [if_pos c2, if_pos e3] at hv
          rw [od.2.2.2.1]; exact c_side big (t_pos ok) ⟨_, rfl, hv⟩
        · rw [if_neg c2, if_neg n0] at hv; exact hv
        · rw [if_neg c2, if_pos e0] at hv; exact hv
        · rw [e5] at q; exact absurd (nI_le (by omega) (by omega)) q
      | succ m ih =>
        intro i hi o10 o11 o12 o13
        have nx := ih (i + 1) (by omega)
        have inn : ∀ f j : Nat, j + f = dH (DD k) → ∀ (o12 o13 : Option Value), A (73, [some (.ref 0), some (.int x1), some (.int (nI p)), some (.int x3), some (.ref (6 + 14 * k)), some (.int (frm (shS (DD k) p (12 * i + j)).1)), some (.int (tto (shS (DD k) p (12 * i + j)).1)), some (.long (shS (DD k) p (12 * i + j)).2), none, some (.int (nI i)), some (.int (sp_ex (DD k) (dde (DD k) p i))), some (.int (nI j)), o12, o13], [], h', 0, 0) := by
          intro f
          induction f with
          | zero =>
            intro j hj o12 o13
            refine vX9_shift_73 hA ⟨hc.1.1.1, fun _ => ?_, fun q => ?_⟩
            · have sk := shS_skip (D := DD k) p i (12 - dH (DD k)) (by omega)
              rw [show 12 * i + (dH (DD k) + (12 - dH (DD k))) = 12 * (i + 1) by omega] at sk
              rw [← nI_succ, show j = dH (DD k) by omega, ← sk]
              exact nx _ _ _ _
            · rw [e5] at q; exact absurd (nI_le (by omega) (by omega)) q
          | succ f ihf =>
            intro j hj o12 o13
            have st := ihf (j + 1) (by omega)
            have m1 : (12 * i + j) % 12 = j := by omega
            have m2 : (12 * i + j) / 12 = i := by omega
            have un : shS (DD k) p (12 * i + (j + 1)) = (if j < dH (DD k) ∧ dde (DD k) p j = -1 ∧ ¬ lg_cmp (shR (DD k) p i j) (shS (DD k) p (12 * i + j)).2 ≤ 0 then (some (12 * i + j), shR (DD k) p i j) else shS (DD k) p (12 * i + j)) := by
              rw [show 12 * i + (j + 1) = 12 * i + j + 1 by omega]
              show (if (12 * i + j) % 12 < dH (DD k) ∧ dde (DD k) p ((12 * i + j) % 12) = -1 ∧ ¬ lg_cmp (shR (DD k) p ((12 * i + j) / 12) ((12 * i + j) % 12)) (shS (DD k) p (12 * i + j)).2 ≤ 0 then (some (12 * i + j), shR (DD k) p ((12 * i + j) / 12) ((12 * i + j) % 12)) else shS (DD k) p (12 * i + j)) = _
              rw [m1, m2]
            refine vX9_shift_73 hA ⟨hc.1.1.1, fun q => ?_, fun _ => ⟨xs.1, _, xs.2.1.2.2.2.2.1, od.1.1, _, od.1.2.1, by rw [od.1.2.2], by rw [od.1.2.2]; exact vp_in_nI (by omega) (by decide), xs.1, _, xs.2.1.2.2.2.2.1, od.1.1, _, od.1.2.1, by rw [od.1.2.2], by rw [od.1.2.2]; exact vp_in_nI (by omega) (by decide), ?_⟩⟩
            · rw [e5] at q; exact absurd q (nI_ge (by omega) (by omega))
            · intro z29
              have ez : (sp_ex (DD k) (dde (DD k) p i)).toInt64 * z29 = shR (DD k) p i j := by
                show (sp_ex (DD k) (dde (DD k) p i)).toInt64 * (ax_i h' 56 (nI j).toNatClampNeg - ax_i h' 56 (nI i).toNatClampNeg).toInt64 = _
                rw [nI_clamp (by omega), nI_clamp (by omega), od.2.2.2.2 j (by omega), od.2.2.2.2 i (by omega)]
                rfl
              refine ⟨hc.1.1.1, c_deedAt hc.1 ⟨_, rfl, ?_⟩⟩
              rw [de_in hp (show j < dH (DD k) by omega) P6 H12, ez, ← nI_succ]
              refine ⟨fun c => ?_, fun c => ⟨fun d => ?_, fun d => ?_⟩⟩
              · rw [un, if_neg (fun w => c w.2.1)] at st
                exact st _ _
              · rw [un, if_neg (fun w => w.2.2 d)] at st
                exact st _ _
              · rw [un, if_pos ⟨by omega, c, d⟩] at st
                have st := st (some (.long (shR (DD k) p i j))) none
                rw [show frm (some (12 * i + j), shR (DD k) p i j).1 = nI i from by show nI ((12 * i + j) / 12) = nI i; rw [m2], show tto (some (12 * i + j), shR (DD k) p i j).1 = nI j from by show nI ((12 * i + j) % 12) = nI j; rw [m1]] at st
                exact st
        refine vX9_shift_45 hA ⟨hc.1.1.1, fun q => ?_, fun _ => ⟨hc.1.1.1, c_deedAt hc.1 ⟨_, rfl, ?_⟩⟩⟩
        · rw [e5] at q; exact absurd q (nI_ge (by omega) (by omega))
        · rw [de_in hp (show i < dH (DD k) by omega) P6 H12]
          exact ⟨hc.1.1.1, c_extraOf hc.1 ⟨_, rfl, inn (dH (DD k)) 0 (by omega) _ _⟩⟩
    exact key (dH (DD k)) 0 (by omega) _ _ _ _
  · rw [if_pos (b2i_n0.mp q1), if_neg q2, if_neg q3] at hv; exact hv
/-- what SHIFT keeps in the reference -/
def shM (h hh : ax_H) (k : Nat) (D : rD) (p : Nat) (e : Nat → Int32) : Prop := ax_same md_F h hh ∧ mb_at hh 77 k D (dmo D) ∧ mw_at hh 77 (dH D) (sp_w D (rul D)) (sp_t D (rul D)) (rul D) ∧ (∀ q, q < dH D → ax_i hh 91 (12 * p + q) = e q) ∧ ∀ q, q < dH D → ax_i hh 92 (12 * p + q) = sp_vl (swr D p e) p q
theorem c_swapE {hh : ax_H} {k p q r : Nat} {D : rD} {e : Nat → Int32} (ok : rd_ok D) (M : shM h hh k D p e) (he : ∀ q, q < dH D → dOk (e q)) (hp : p < dP D) (hq0 : q < dH D) (hr : r < dH D) (K : ∀ h2, shM h h2 k D p (exd e q r) → Ret none h2) : mX10_swapDeed g [.ref 77, .int (nI p), .int (nI q), .int (nI r)] hh Ret := by
  obtain ⟨s0, b, w, d, v⟩ := M
  obtain ⟨hH, hP⟩ := b.2.2.1.1
  obtain ⟨e1, e2⟩ := mo_de b.1
  have eq : (12 : Int32) * nI p + nI q = nI (12 * p + q) := ni_21
  have er : (12 : Int32) * nI p + nI r = nI (12 * p + r) := ni_21
  have vq : vp_in ((12 : Int32) * nI p + nI q) (ax_s hh (77 + 14)).2 := by rw [eq, e2]; exact vp_in_nI (by omega) (by decide)
  have vr : vp_in ((12 : Int32) * nI p + nI r) (ax_s hh (77 + 14)).2 := by rw [er, e2]; exact vp_in_nI (by omega) (by decide)
  have s11 : (ax_s hh (77 + 14)).1 = 11 := by rw [e2]
  refine eX10_swapDeed ⟨b.1.1, _, e1, s11, vq, b.1.1, _, e1, b.1.1, _, e1, s11, vr, s11, vq, ?_⟩
  intro u4
  refine ⟨b.1.1, _, e1, s11, vr, ?_⟩
  intro u6
  have r6 : mr noJ (fun a => a = 91) 77 hh u6 := mr_tr (mr_c rfl (by decide)) (mr_c rfl (by decide))
  have b6 : mb_at u6 77 k D (dmo D) := mb_at_mr r6 (by unfold noJ; decide) (by decide) b
  have d6 : ∀ j, j < dH D → ax_i u6 91 (12 * p + j) = exd e q r j := fun j hj => by
    show ax_i (ax_pi (ax_pi hh 91 ((12 : Int32) * nI p + nI q).toNatClampNeg (ax_i hh 91 ((12 : Int32) * nI p + nI r).toNatClampNeg)) 91 ((12 : Int32) * nI p + nI r).toNatClampNeg (ax_i hh 91 ((12 : Int32) * nI p + nI q).toNatClampNeg)) 91 (12 * p + j) = _
    rw [eq, er, nI_clamp (by omega), nI_clamp (by omega), d q hq0, d r hr, ai_pi, ai_pi]
    unfold exd
    by_cases c : j = r
    · rw [if_pos ⟨rfl, by omega⟩, if_pos c]
    · rw [if_neg (fun z => c (by omega)), if_neg c]
      by_cases c2 : j = q
      · rw [if_pos ⟨rfl, by omega⟩, if_pos c2]
      · rw [if_neg (fun z => c2 (by omega)), if_neg c2]; exact d j hj
  have he2 : ∀ j, j < dH D → dOk (exd e q r j) := fun j hj => by
    unfold exd
    split
    · exact he q hq0
    · split
      · exact he r hr
      · exact he j hj
  refine ⟨b6.1.1, x_mlayValues (e := exd e q r) b6 he2 hp d6 (fun h2 r2 v2 => ⟨rfl, K h2 ⟨sm_tr s0 (sm_tr (sm_mono r6.1 (fun x e => by unfold md_F; omega)) (sm_mono r2.1 (fun x e => by unfold md_F; omega))), mb_at_mr r2 (by unfold noJ; decide) (by decide) b6, mw_mr r2 (by unfold noJ; decide) (by decide) (mw_mr r6 (by unfold noJ; decide) (by decide) w), fun j hj => by rw [mr_e r2 (by decide) (by decide)]; exact d6 j hj, fun j hj => ?_⟩⟩)⟩
  have ok2 : rd_ok (swr D p (exd e q r)) := swr_ok ok he2
  rw [show ax_i h2 92 (12 * p + j) = _ from v2 j hj]
  exact vb_vl (D := swr D p (exd e q r)) (rd_de_of ok2) hp hj hH hP ok.2.2.2.1
theorem exd_exd {e : Nat → Int32} {a b q : Nat} (ab : a ≠ b) : exd (exd e a b) a b q = e q := by
  unfold exd
  by_cases c : q = b
  · rw [if_pos c, if_neg ab, if_pos rfl, c]
  · rw [if_neg c]
    by_cases d : q = a
    · rw [if_pos d, if_pos rfl, d]
    · rw [if_neg d, if_neg c, if_neg d]
theorem shM_congr {hh : ax_H} {k p : Nat} {D : rD} {e e2 : Nat → Int32} (ok : rd_ok D) (hp : p < dP D) (M : shM h hh k D p e) (c : ∀ q, e q = e2 q) : shM h hh k D p e2 := by
  have : e = e2 := funext c
  rw [← this]; exact M
theorem swr_self {D : rD} {p : Nat} : swr D p (dde D p) = D := by
  have t : (fun p' q => if p' = p then dde D p q else dde D p' q) = dde D := funext fun p' => funext fun q => by
    by_cases c : p' = p
    · rw [if_pos c, c]
    · rw [if_neg c]
  show (dH D, dP D, dpu D, dwo D, dmo D, (fun p' q => if p' = p then dde D p q else dde D p' q), dlo D) = D
  rw [t]
  rfl
theorem q10_shift {x1 x2 x3 : Int32} (a : tc h z DD N C) (hq : ∀ h', ax_same md_F h h' → Ret (some (.int (qv (z 0) DD x1 (-1000000) (s_shift x2 x3)))) h') : mX10_shift g [.ref 77, .int x1, .int x2, .int x3] h Ret := by
  have z2 := a.2.2.2.2.1 0 (by decide)
  obtain ⟨a1, T1, hs1⟩ := q_code (v := 0) a.2.1 a.2.2.2.1
  have bad : ∀ h', ax_same md_F h h' → qv (z 0) DD x1 (-1000000) (s_shift x2 x3) = -1000000 → Ret (some (.int (-1000000))) h' := fun h' hs e => by
    have hv := hq h' hs
    rw [e] at hv
    exact hv
  refine uX10_shift (fun A hA => vX10_shift_0 hA ⟨a.2.1.1, ?_⟩)
  intro h1
  refine c_min ⟨_, rfl, fun q0 => bad _ hs1 ?_, fun q0 => ⟨a1.1, q_handOne a1 T1 a.2.2.2.2 (fun h' hs no => ⟨_, rfl, fun q => absurd rfl q, fun _ => bad _ (sm_tr hs1 hs) ?_⟩) (fun k p hk ex ok hp ep h' hs hm => ⟨_, rfl, fun _ => ⟨hm.1.1.1.1, ?_⟩, fun q => absurd q (by decide)⟩)⟩⟩
  · have n := of_decide_eq_false (b2i_0.mp q0)
    unfold qv
    split
    · unfold s_shift
      split
      · split
        · rfl
        · rename_i c
          split
          · rename_i d
            exact absurd ⟨Int32.not_lt.mp c, d⟩ n
          · rfl
      · rfl
    · rfl
  · unfold qv
    split
    · rename_i c
      obtain ⟨k, hk, ek⟩ := sp_in_ix (by omega) c
      have t := no k hk ek
      unfold s_shift
      rw [ek, nI_clamp (by omega), t, if_neg Bool.false_ne_true]
    · rfl
  subst ep
  obtain ⟨p0, p3⟩ := of_decide_eq_true (b2i_n0.mp q0)
  have H12 := ok.1.2
  have P6 := ok.2.1
  have hv : ∀ hh, ax_same md_F h hh → Ret (some (.int (shA x3 (DD k) p (shS (DD k) p (12 * dH (DD k)))))) hh := fun hh s => by
    have hv := hq hh s
    rw [qv_yes z2 hk ex] at hv
    unfold s_shift at hv
    rw [sp_in_nI (by omega) hp, if_pos rfl, if_neg (Int32.not_lt.mpr p0), if_pos p3, nI_clamp (by omega)] at hv
    exact hv
  have M0 : shM h h' k (DD k) p (dde (DD k) p) := ⟨sm_tr hs1 hs, hm.1.1, hm.2, fun q hq => hm.1.2.2.1 p q hp hq, fun q hq => by rw [swr_self]; exact hm.1.2.2.2 p q hp hq⟩
  have wi := (we_int ok (vl := sp_vl (DD k)) (x := rul (DD k)) hp (fun q _ => vl_bd ok p q)).2
  have cmp : ∀ {r m : Int64}, bL 1782 r → 0 ≤ m.toInt → m.toInt ≤ 1782 → ∀ by' : Int64, by'.toInt = (sp_we (dP (DD k)) (dH (DD k)) (sp_vl (DD k)) (sp_w (DD k) (rul (DD k))) (nI p)).toInt + r.toInt → ((lg_cmp by' (sp_we (dP (DD k)) (dH (DD k)) (sp_vl (DD k)) (sp_w (DD k) (rul (DD k))) (nI p) + m) ≤ 0 ↔ lg_cmp r m ≤ 0) ∧ by' = sp_we (dP (DD k)) (dH (DD k)) (sp_vl (DD k)) (sp_w (DD k) (rul (DD k))) (nI p) + r) := fun {r m} br m0 m1 by' eb => by
    unfold bL at br
    constructor
    · rw [cmp_le0, cmp_le0, i64_add (by omega) (by omega), eb]; omega
    · exact Int64.toInt_inj.mp (by rw [i64_add (by omega) (by omega), eb])
  refine c_mmeanOf hm.1 hm.2 hp ⟨_, rfl, ?_⟩
  have key : ∀ n i : Nat, i + n = 12 * dH (DD k) → ∀ h3, shM h h3 k (DD k) p (dde (DD k) p) → ∀ (o8 o9 o10 o11 : Option Value), A (40, [some (.ref 77), some (.int x1), some (.int (nI p)), some (.int x3), some (.int (bsO (shS (DD k) p i).1)), some (.long (sp_we (dP (DD k)) (dH (DD k)) (sp_vl (DD k)) (sp_w (DD k) (rul (DD k))) (nI p) + (shS (DD k) p i).2)), none, some (.int (nI i)), o8, o9, o10, o11], [], h3, 0, 0) := by
    intro n
    induction n with
    | zero =>
      intro i hi h3 M o8 o9 o10 o11
      have hw := hv h3 M.1
      have e : i = 12 * dH (DD k) := by omega
      rw [← e] at hw
      have mb := M.2.1
      have mw := M.2.2.1
      have s0 := mb.1.1
      have e12 : (12 : Int32) * ax_i h3 77 26 = nI (12 * dH (DD k)) := by rw [mb.2.2.2.2.1]; exact ni_mul
      have bd := shS_bd ok p i
      have big : -9223372036854775808 < (sp_we (dP (DD k)) (dH (DD k)) (sp_vl (DD k)) (sp_w (DD k) (rul (DD k))) (nI p) + (shS (DD k) p i).2).toInt := by rw [i64_add (by omega) (by omega)]; omega
      unfold shA at hw
      have sb : ∀ j, j ≤ 144 → ∀ t, (shS (DD k) p j).1 = some t → t < 144 := by
        intro j
        induction j with
        | zero => intro _ t e; cases e
        | succ j ihj =>
          intro hj t
          unfold shS
          split
          · intro e; cases e; omega
          · exact ihj (by omega) t
      have sbi := sb i (by omega)
      refine vX10_shift_40 hA ⟨s0, fun _ => ⟨fun c1 => ⟨fun nb => ⟨fun n0 => ⟨by decide, ?_⟩, fun e0 => ⟨by decide, ?_⟩⟩, fun eb => ?_⟩, fun c1 => ⟨s0, fun n3 => ?_, fun e3 => ?_⟩⟩, fun q => ?_⟩
      · rw [if_neg (fun w => absurd (Int32.le_trans w c1) (by decide)), if_neg n0] at hw
        cases es : (shS (DD k) p i).1 with
        | none => rw [es] at nb; exact absurd rfl nb
        | some t =>
          rw [es] at hw
          show Ret (some (.int (nI t - nI t / 12 * 12))) h3
          rw [show (12 : Int32) = nI 12 from rfl, pk_rem (by have := sbi t es; omega) (by decide) (by decide)]
          exact hw
      · rw [if_neg (fun w => absurd (Int32.le_trans w c1) (by decide)), if_pos e0] at hw
        cases es : (shS (DD k) p i).1 with
        | none => rw [es] at nb; exact absurd rfl nb
        | some t =>
          rw [es] at hw
          show Ret (some (.int (nI t / 12))) h3
          rw [show (12 : Int32) = nI 12 from rfl, pk_div (by have := sbi t es; omega) (by decide) (by decide)]
          exact hw
      · rw [if_neg (fun w => absurd (Int32.le_trans w c1) (by decide))] at hw
        cases es : (shS (DD k) p i).1 with
        | none =>
          rw [es] at hw
          have : (if x3 = 0 then frm none else tto none) = -1 := by split <;> rfl
          rw [this] at hw
          exact hw
        | some t =>
          rw [es] at eb
          exact absurd eb (nI_nm1 (by have := sbi t es; omega))
      · have c2 : (2 : Int32) ≤ x3 := by
          have z1 : (1 : Int32).toInt = 1 := rfl
          have z2 : (2 : Int32).toInt = 2 := rfl
          rw [i_le] at c1 ⊢
          omega
        rw [if_pos c2, if_neg n3] at hw
        rw [mw.2.1]; exact c_part big (t_pos ok) ⟨_, rfl, hw⟩
      · rw [if_pos (by rw [e3]; decide), if_pos e3] at hw
        rw [mw.2.1]; exact c_part big (t_pos ok) ⟨_, rfl, hw⟩
      · rw [e12] at q; exact absurd (nI_le (by omega) (by omega)) q
    | succ n ih =>
      intro i hi h3 M o8 o9 o10 o11
      have mb := M.2.1
      have mw := M.2.2.1
      have s0 := mb.1.1
      obtain ⟨e1, e2⟩ := mo_de mb.1
      have e12 : (12 : Int32) * ax_i h3 77 26 = nI (12 * dH (DD k)) := by rw [mb.2.2.2.2.1]; exact ni_mul
      have ed : nI i / (12 : Int32) = nI (i / 12) := pk_div (d := 12) (by omega) (by decide) (by decide)
      have er : nI i - nI i / (12 : Int32) * 12 = nI (i % 12) := pk_rem (d := 12) (by omega) (by decide) (by decide)
      have di : i / 12 < dH (DD k) := by omega
      have un : shS (DD k) p (i + 1) = (if i % 12 < dH (DD k) ∧ dde (DD k) p (i % 12) = -1 ∧ ¬ lg_cmp (shR (DD k) p (i / 12) (i % 12)) (shS (DD k) p i).2 ≤ 0 then (some i, shR (DD k) p (i / 12) (i % 12)) else shS (DD k) p i) := rfl
      have bd := shS_bd ok p i
      have rb := shR_bd ok p (i / 12) (i % 12)
      have K0 : (¬ (i % 12 < dH (DD k) ∧ dde (DD k) p (i % 12) = -1 ∧ ¬ lg_cmp (shR (DD k) p (i / 12) (i % 12)) (shS (DD k) p i).2 ≤ 0)) → ∀ h4, shM h h4 k (DD k) p (dde (DD k) p) → ∀ (o8 o9 o10 o11 : Option Value), A (40, [some (.ref 77), some (.int x1), some (.int (nI p)), some (.int x3), some (.int (bsO (shS (DD k) p i).1)), some (.long (sp_we (dP (DD k)) (dH (DD k)) (sp_vl (DD k)) (sp_w (DD k) (rul (DD k))) (nI p) + (shS (DD k) p i).2)), none, some (.int (nI i + 1)), o8, o9, o10, o11], [], h4, 0, 0) := fun no h4 M4 o8 o9 o10 o11 => by
        have st := ih (i + 1) (by omega) h4 M4 o8 o9 o10 o11
        rw [un, if_neg no, nI_succ] at st
        exact st
      have eq : (12 : Int32) * nI p + nI (i / 12) = nI (12 * p + i / 12) := ni_21
      have eq2 : (12 : Int32) * nI p + nI (i % 12) = nI (12 * p + i % 12) := ni_21
      have da : ax_i h3 (77 + 14) ((12 : Int32) * nI p + nI i / 12).toNatClampNeg = dde (DD k) p (i / 12) := by rw [ed, eq, nI_clamp (by omega)]; exact M.2.2.2.1 _ di
      refine vX10_shift_40 hA ⟨s0, fun q => ?_, fun _ => ⟨by decide, by decide, s0, fun qr => ?_, fun qr => ⟨s0, _, e1, by rw [e2], ?_, fun qa => ?_, fun qa => ⟨s0, _, e1, by rw [e2], ?_, ?_⟩⟩⟩⟩
      · rw [e12] at q; exact absurd q (nI_ge (by omega) (by omega))
      · rw [er, mb.2.2.2.2.1, nI_leI (by omega) (by omega)] at qr
        exact K0 (fun w => by have := w.1; omega) h3 M _ _ _ _
      · rw [ed, eq, e2]; exact vp_in_nI (by omega) (by decide)
      · rw [da] at qa
        refine K0 (fun w => w.2.2 ?_) h3 M _ _ _ _
        rw [cmp_le0, rb.1, qa, ex_no, show (0 : Int32).toInt = 0 from rfl, Int.zero_mul]
        exact bd.1
      · rw [er, eq2, e2]; exact vp_in_nI (by omega) (by decide)
      · have rH : i % 12 < dH (DD k) := by
          rw [er, mb.2.2.2.2.1] at qr
          exact Nat.lt_of_not_le (fun w => qr (nI_le w (by omega)))
        intro z19
        have ez : z19 = dde (DD k) p (i % 12) := by
          show ax_i h3 (77 + 14) ((12 : Int32) * nI p + (nI i - nI i / 12 * 12)).toNatClampNeg = _
          rw [er, eq2, nI_clamp (by omega)]; exact M.2.2.2.1 _ rH
        rw [ez]
        rw [da] at qa
        refine ⟨fun c => K0 (fun w => c w.2.1) h3 M _ _ _ _, fun c => ⟨s0, ?_⟩⟩
        have ab : i / 12 ≠ i % 12 := fun w => qa (by rw [w]; exact c)
        rw [er, ed]
        refine c_swapE ok M (fun q hq => rd_de_of ok p q hp hq) hp di rH (fun h4 M4 => ⟨rfl, M4.2.1.1.1, x_mmeanOf M4.2.1 (vl := sp_vl (swr (DD k) p (exd (dde (DD k) p) (i / 12) (i % 12)))) M4.2.2.2.2 M4.2.2.1 hp ⟨_, rfl, M4.2.1.1.1, c_swapE ok M4 (fun q hq => ?_) hp di rH (fun h5 M5 => ⟨rfl, ?_⟩)⟩⟩)
        · unfold exd
          split
          · exact rd_de_of ok p _ hp di
          · split
            · exact rd_de_of ok p _ hp rH
            · exact rd_de_of ok p q hp hq
        · have M6 : shM h h5 k (DD k) p (dde (DD k) p) := shM_congr ok hp M5 (fun q => exd_exd ab)
          obtain ⟨cc, ce⟩ := cmp rb.2 bd.1 bd.2 (sp_we (dP (DD k)) (dH (DD k)) (sp_vl (swr (DD k) p (exd (dde (DD k) p) (i / 12) (i % 12)))) (sp_w (DD k) (rul (DD k))) (nI p)) (by rw [we_sw ok hp di rH ab c, rb.1])
          have st := fun o8 o9 o10 o11 => ih (i + 1) (by omega) h5 M6 o8 o9 o10 o11
          refine ⟨fun u => ⟨fun _ => K0 (fun w => w.2.2 (cc.mp u)) h5 M6 _ _ _ _, fun v => absurd u v⟩, fun u => ⟨fun v => absurd v u, fun _ => ?_⟩⟩
          have st := st (some (.int (nI (i / 12)))) (some (.int (nI (i % 12)))) (some (.long (sp_we (dP (DD k)) (dH (DD k)) (sp_vl (swr (DD k) p (exd (dde (DD k) p) (i / 12) (i % 12)))) (sp_w (DD k) (rul (DD k))) (nI p)))) none
          rw [un, if_pos ⟨rH, c, fun w => u (cc.mpr w)⟩, nI_succ] at st
          rw [ce] at st ⊢
          exact st
  have k0 := key (12 * dH (DD k)) 0 (by omega) h' M0 none none none none
  rw [show (shS (DD k) p 0).2 = 0 from rfl, Int64.add_zero] at k0
  exact k0
theorem g_shift (a : IV h S Im tp) (b : 103 ≤ h.1 ∧ h.1 ≤ B) (x1 x2 x3 : Int32) : prI (mX9_shift g) (mX10_shift g) [.ref 0, .int x1, .int x2, .int x3] [.ref 77, .int x1, .int x2, .int x3] h (inv B) := pr_q _ a b (fun Ret k => q9_shift (iv_tc a) k) (fun h1 Ret a1 k => q10_shift (iv_tc a1) k)
end
end

section
section
variable {g : ax_G} {Ret : Option Value → ax_H → Prop} {h : ax_H} {z : Nat → Nat} {DD : Nat → rD} {N : Nat → Nat → Nat} {C : Nat → Nat → Nat → Nat → Int32} {S : sT} {Im : Nat → Option sT} {tp : Nat → Nat} {B : Nat}
/-! a republic with another mode of a kind -/
def swm (D : rD) (κ : Nat) (μ : Int32) : rD := (dH D, dP D, dpu D, dwo D, fun k => if k = κ then μ else dmo D k, dde D, dlo D)
theorem swm_ok {D : rD} {κ : Nat} {μ : Int32} (ok : rd_ok D) (hm : μ = 0 ∨ μ = 1 ∨ μ = 2) : rd_ok (swm D κ μ) := by
  refine ⟨ok.1, ok.2.1, ok.2.2.1, fun k hk => ?_, ok.2.2.2.2.1, ok.2.2.2.2.2.1, ok.2.2.2.2.2.2⟩
  show (if k = κ then μ else dmo D k) = 0 ∨ (if k = κ then μ else dmo D k) = 1 ∨ (if k = κ then μ else dmo D k) = 2
  by_cases c : k = κ
  · rw [if_pos c]; exact hm
  · rw [if_neg c]; exact ok.2.2.2.1 k hk
theorem sumI_add {f k : Nat → Int} : ∀ n, sumI (fun i => f i + k i) n = sumI f n + sumI k n
  | 0 => rfl
  | n + 1 => by
    show sumI (fun i => f i + k i) n + (f n + k n) = (sumI f n + f n) + (sumI k n + k n)
    rw [sumI_add n]; omega
/-! what a mode of a kind changes -/
def cwR (D : rD) (x : Int32) (p : Nat) (b : Int64) : Nat → Int64
  | 0 => b
  | j + 1 => if dde D p j = x then cwR D x p b j + (sp_w D (rul D) j).toInt64 else cwR D x p b j
def cwT (D : rD) (x : Int32) : Nat → Int64
  | 0 => 0
  | p + 1 => cwR D x p (cwT D x p) (dH D)
def cI (D : rD) (x : Int32) (p q : Nat) : Int := if dde D p q = x then (sp_w D (rul D) q).toInt else 0
theorem cI_bd {D : rD} (ok : rd_ok D) (x : Int32) (p q : Nat) : 0 ≤ cI D x p q ∧ cI D x p q ≤ 9 := by
  have := sp_w_bd ok (rul D) q
  unfold cI
  split <;> omega
theorem sumI_bd {f : Nat → Int} {b : Int} (hb : 0 ≤ b) : ∀ n, (∀ i, i < n → 0 ≤ f i ∧ f i ≤ b) → 0 ≤ sumI f n ∧ sumI f n ≤ b * n
  | 0, _ => by
    show (0 : Int) ≤ 0 ∧ (0 : Int) ≤ b * ((0 : Nat) : Int)
    simp
  | n + 1, h => by
    have ih := sumI_bd hb n (fun i hi => h i (by omega))
    have hl := h n (by omega)
    have e1 : b * ((n + 1 : Nat) : Int) = b * (n : Int) + b := by
      rw [show ((n + 1 : Nat) : Int) = (n : Int) + 1 from rfl, Int.mul_add, Int.mul_one]
    show 0 ≤ sumI f n + f n ∧ sumI f n + f n ≤ b * ((n + 1 : Nat) : Int)
    rw [e1]; omega
theorem cwR_int {D : rD} (ok : rd_ok D) {x : Int32} {p : Nat} {b : Int64} (b0 : 0 ≤ b.toInt) (b1 : b.toInt ≤ 1000) : ∀ j, j ≤ 12 → (cwR D x p b j).toInt = b.toInt + sumI (cI D x p) j
  | 0, _ => (Int.add_zero _).symm
  | j + 1, hj => by
    have ih := cwR_int ok (x := x) (p := p) b0 b1 j (by omega)
    have bd := sumI_bd (f := cI D x p) (b := 9) (by decide) j (fun i _ => cI_bd ok x p i)
    have w := sp_w_bd ok (rul D) j
    show (if dde D p j = x then cwR D x p b j + (sp_w D (rul D) j).toInt64 else cwR D x p b j).toInt = b.toInt + (sumI (cI D x p) j + cI D x p j)
    by_cases c : dde D p j = x
    · rw [if_pos c, i64_add (by rw [i_64]; omega) (by rw [i_64]; omega), i_64, ih, show cI D x p j = (sp_w D (rul D) j).toInt from if_pos c]; omega
    · rw [if_neg c, ih, show cI D x p j = 0 from if_neg c]; omega
theorem cwT_int {D : rD} (ok : rd_ok D) {x : Int32} : ∀ p, p ≤ 6 → (cwT D x p).toInt = sumI (fun i => sumI (cI D x i) (dH D)) p ∧ 0 ≤ (cwT D x p).toInt ∧ (cwT D x p).toInt ≤ 108 * p
  | 0, _ => ⟨rfl, by show (0 : Int) ≤ (0 : Int64).toInt; decide, by show (0 : Int64).toInt ≤ 108 * ((0 : Nat) : Int); decide⟩
  | p + 1, hp => by
    have H12 := ok.1.2
    obtain ⟨i1, i2, i3⟩ := cwT_int ok (x := x) p (by omega)
    have t := cwR_int ok (x := x) (p := p) (b := cwT D x p) i2 (by omega) (dH D) H12
    have bd := sumI_bd (f := cI D x p) (b := 9) (by decide) (dH D) (fun i _ => cI_bd ok x p i)
    have e : (cwT D x (p + 1)).toInt = (cwT D x p).toInt + sumI (cI D x p) (dH D) := t
    refine ⟨?_, by omega, by omega⟩
    rw [e, i1]
    rfl
def chB (D : rD) (x y : Int32) : Int64 := cwT D x (dP D) * (sp_xb D x y - sp_ex D x).toInt64
theorem chB_int {D : rD} (ok : rd_ok D) (x y : Int32) : (chB D x y).toInt = (cwT D x (dP D)).toInt * ((sp_xb D x y).toInt - (sp_ex D x).toInt) ∧ bL 128304 (chB D x y) := by
  have e1 := ex_bd ok x y
  have e2 := ex_bd ok x (sp_mo D x)
  have P6 := ok.2.1
  have c := (cwT_int ok (x := x) (dP D) P6).2
  have es : (sp_xb D x y - sp_ex D x).toInt = (sp_xb D x y).toInt - (sp_ex D x).toInt := by unfold sp_ex; exact i32_sub (by omega) (by omega)
  have t := abs_mul (a := 648) (b := 198) (by decide) (by decide) (x := (cwT D x (dP D)).toInt) (y := (sp_xb D x y).toInt - (sp_ex D x).toInt) (by omega) (by unfold sp_ex; omega)
  have e : (chB D x y).toInt = (cwT D x (dP D)).toInt * ((sp_xb D x y).toInt - (sp_ex D x).toInt) := by
    unfold chB
    rw [i64_mul (by rw [i_64, es]; omega) (by rw [i_64, es]; omega), i_64, es]
  exact ⟨e, by unfold bL; rw [e]; omega⟩
theorem c_changeByE {k : Nat} {D : rD} {x y : Int32} (ok : rd_ok D) (xs : xs_st h) (hc : hc_at h k D) (hq : Ret (some (.long (chB D x y))) h) : mX9_changeBy g [.ref 0, .ref (6 + 14 * k), .int x, .int y] h Ret := by
  have H12 := ok.1.2
  have P6 := ok.2.1
  have od := hc.2.2
  refine uX9_changeBy (fun A hA => vX9_changeBy_0 hA ?_)
  have key : ∀ m i : Nat, i + m = dP D → ∀ (o7 : Option Value), A (6, [some (.ref 0), some (.ref (6 + 14 * k)), some (.int x), some (.int y), some (.long (cwT D x i)), none, some (.int (nI i)), o7], [], h, 0, 0) := by
    intro m
    induction m with
    | zero =>
      intro i hi o7
      refine vX9_changeBy_6 hA ⟨hc.1.1.1, fun _ => ⟨hc.1.1.1, c_extraBy hc.1 ⟨_, rfl, hc.1.1.1, c_extraOf hc.1 ⟨_, rfl, by rw [show i = dP D by omega]; exact hq⟩⟩⟩, fun q => ?_⟩
      rw [hc.1.2.2.1.2] at q; exact absurd (nI_le (by omega) (by omega)) q
    | succ m ih =>
      intro i hi o7
      have nx := ih (i + 1) (by omega)
      have inn : ∀ f j : Nat, j + f = dH D → A (18, [some (.ref 0), some (.ref (6 + 14 * k)), some (.int x), some (.int y), some (.long (cwR D x i (cwT D x i) j)), none, some (.int (nI i)), some (.int (nI j))], [], h, 0, 0) := by
        intro f
        induction f with
        | zero =>
          intro j hj
          refine vX9_changeBy_18 hA ⟨hc.1.1.1, fun _ => ?_, fun q => ?_⟩
          · rw [← nI_succ, show j = dH D by omega]; exact nx _
          · rw [hc.1.2.2.1.1] at q; exact absurd (nI_le (by omega) (by omega)) q
        | succ f ihf =>
          intro j hj
          have st := ihf (j + 1) (by omega)
          refine vX9_changeBy_18 hA ⟨hc.1.1.1, fun q => ?_, fun _ => ⟨hc.1.1.1, c_deedAt hc.1 ⟨_, rfl, ?_⟩⟩⟩
          · rw [hc.1.2.2.1.1] at q; exact absurd q (nI_ge (by omega) (by omega))
          · rw [de_in (show i < dP D by omega) (show j < dH D by omega) P6 H12]
            refine ⟨fun c => ?_, fun c => ⟨xs.1, _, xs.2.1.2.2.2.2.1, od.1.1, _, od.1.2.1, by rw [od.1.2.2], by rw [od.1.2.2]; exact vp_in_nI (by omega) (by decide), ?_⟩⟩
            · rw [show cwR D x i (cwT D x i) (j + 1) = cwR D x i (cwT D x i) j from if_neg c] at st
              rw [← nI_succ, Int64.add_zero]; exact st
            · rw [show cwR D x i (cwT D x i) (j + 1) = cwR D x i (cwT D x i) j + (sp_w D (rul D) j).toInt64 from if_pos c] at st
              rw [nI_clamp (by omega), od.2.2.2.2 j (by omega), ← nI_succ]
              exact st
      refine vX9_changeBy_6 hA ⟨hc.1.1.1, fun q => ?_, fun _ => inn (dH D) 0 (by omega)⟩
      rw [hc.1.2.2.1.2] at q; exact absurd q (nI_ge (by omega) (by omega))
  exact key (dP D) 0 (by omega) _
/-! all means -/
def aM (D D' : rD) (p : Nat) : Int64 := sumL (fun i => sp_we (dP D) (dH D) (sp_vl D') (sp_w D (rul D)) (nI i)) p
theorem aM_int {D D' : rD} (ok : rd_ok D) (ok' : rd_ok D') : ∀ p, p ≤ dP D → (aM D D' p).toInt = sumI (fun i => (sp_we (dP D) (dH D) (sp_vl D') (sp_w D (rul D)) (nI i)).toInt) p ∧ bL (138996 * p) (aM D D' p) := fun p hp => by
  have P6 := ok.2.1
  have t := sumL_int (f := fun i => sp_we (dP D) (dH D) (sp_vl D') (sp_w D (rul D)) (nI i)) (b := 138996) (n := p) (by decide) (fun i hi => (we_int ok (vl := sp_vl D') (x := rul D) (show i < dP D by omega) (fun q _ => vl_bd ok' i q)).2) (by omega)
  exact ⟨t.1, t.2.1, t.2.2⟩
theorem ex_sw {D : rD} (ok : rd_ok D) {κ : Nat} {μ : Int32} {p q : Nat} (hκ : κ < 6) (hp : p < dP D) (hq : q < dH D) : (sp_ex (swm D κ μ) (dde D p q)).toInt = (sp_ex D (dde D p q)).toInt + (if dde D p q = nI κ then (sp_xb D (nI κ) μ).toInt - (sp_ex D (nI κ)).toInt else 0) := by
  rcases rd_de_of ok p q hp hq with e | ⟨j, hj, e⟩
  · rw [e, if_neg (fun w => nI_nm1 (k := κ) (by omega) w.symm), ex_no, ex_no]; rfl
  · rw [e]
    have m1 : sp_mo (swm D κ μ) (nI j) = (if j = κ then μ else dmo D j) := by
      unfold sp_mo
      rw [if_neg (by rintro (w | w); exact nI_pos (by omega) w; exact nI_ge (a := j) (b := 6) hj (by decide) w), nI_clamp (by omega)]; rfl
    have m2 : sp_mo D (nI j) = dmo D j := by
      unfold sp_mo
      rw [if_neg (by rintro (w | w); exact nI_pos (by omega) w; exact nI_ge (a := j) (b := 6) hj (by decide) w), nI_clamp (by omega)]
    by_cases c : j = κ
    · rw [if_pos (congrArg nI c)]
      have e1 : sp_ex (swm D κ μ) (nI j) = sp_xb D (nI κ) μ := by
        unfold sp_ex
        rw [m1, if_pos c, c]; rfl
      rw [e1, c]; omega
    · rw [if_neg (fun w => c ((nI_eq (by omega) (by omega)).mp w))]
      have e1 : sp_ex (swm D κ μ) (nI j) = sp_ex D (nI j) := by
        unfold sp_ex
        rw [m1, if_neg c, m2]; rfl
      rw [e1]; omega
theorem aM_sw {D : rD} (ok : rd_ok D) {κ : Nat} {μ : Int32} (hκ : κ < 6) (hm : μ = 0 ∨ μ = 1 ∨ μ = 2) : aM D (swm D κ μ) (dP D) = aM D D (dP D) + chB D (nI κ) μ := by
  have ok' : rd_ok (swm D κ μ) := swm_ok ok hm
  have H12 := ok.1.2
  have P6 := ok.2.1
  have b1 := (aM_int ok ok (dP D) (Nat.le_refl _)).2
  have b2 := chB_int ok (nI κ) μ
  have bb := b2.2
  unfold bL at b1 bb
  refine Int64.toInt_inj.mp ?_
  rw [i64_add (by omega) (by omega), (aM_int ok ok' (dP D) (Nat.le_refl _)).1, (aM_int ok ok (dP D) (Nat.le_refl _)).1, b2.1, (cwT_int ok (x := nI κ) (dP D) P6).1]
  rw [Int.mul_comm, ← sumI_mul, ← sumI_add]
  refine sumI_congr (fun p hp => ?_)
  rw [(we_int ok (vl := sp_vl (swm D κ μ)) (x := rul D) hp (fun q _ => vl_bd ok' p q)).1, (we_int ok (vl := sp_vl D) (x := rul D) hp (fun q _ => vl_bd ok p q)).1]
  rw [← sumI_mul, ← sumI_add]
  refine sumI_congr (fun q hq => ?_)
  have v1 : (sp_vl (swm D κ μ) p q).toInt = (sp_wd D (nI p)).toInt + (sp_ex (swm D κ μ) (dde D p q)).toInt := vl_int ok' (p := p) (q := q) hp hq
  rw [v1, vl_int ok hp hq, ex_sw ok hκ hp hq]
  unfold cI
  generalize (sp_w D (rul D) q).toInt = w
  generalize (sp_wd D (nI p)).toInt = t
  generalize (sp_ex D (dde D p q)).toInt = y
  generalize (sp_xb D (nI κ) μ).toInt - (sp_ex D (nI κ)).toInt = d
  split
  · rw [← Int.add_assoc, Int.mul_add w (t + y) d, Int.mul_comm w d]
  · rw [Int.add_zero, Int.mul_zero, Int.add_zero]
/-! RULING: the same answer -/
def rlT (D : rD) (t : Nat) : Int64 := aM D D (dP D) + chB D (nI (t / 3)) (nI (t % 3))
def rlS (D : rD) : Nat → Nat × Int64
  | 0 => (0, rlT D 0)
  | t + 1 => if lg_cmp (rlT D t) (rlS D t).2 ≤ 0 then rlS D t else (t, rlT D t)
theorem rlT_bd {D : rD} (ok : rd_ok D) (t : Nat) : bL 962280 (rlT D t) := by
  have P6 := ok.2.1
  have b1 := (aM_int ok ok (dP D) (Nat.le_refl _)).2
  have b2 := (chB_int ok (nI (t / 3)) (nI (t % 3))).2
  exact bL_mono (bL_add b1 b2 (by omega)) (by omega)
theorem rlS_bd {D : rD} (ok : rd_ok D) : ∀ t, bL 962280 (rlS D t).2 ∧ (rlS D t).1 ≤ t ∧ (0 < t → (rlS D t).1 < t)
  | 0 => ⟨rlT_bd ok 0, Nat.le_refl _, fun q => absurd q (Nat.lt_irrefl _)⟩
  | t + 1 => by
    obtain ⟨i1, i2, i3⟩ := rlS_bd ok t
    unfold rlS
    split
    · exact ⟨i1, by omega, fun _ => by omega⟩
    · exact ⟨rlT_bd ok t, by show t ≤ t + 1; omega, fun _ => by show t < t + 1; omega⟩
def rlA (x2 : Int32) (D : rD) (s : Nat × Int64) : Int32 := if 2 ≤ x2 then (sp_sd s.2 (sp_t D (rul D)).toInt64 (if x2 = 3 then 1 else 0)).toInt32 else if x2 = 0 then nI (s.1 / 3) else nI (s.1 % 3)
def s_ruling (x2 : Int32) (D : rD) : Int32 := if x2 < 0 then -1000000 else if x2 ≤ 3 then rlA x2 D (rlS D 18) else -1000000
theorem q9_ruling {x1 x2 : Int32} (a : tc h z DD N C) (hq : ∀ h', ax_same cl_F h h' → Ret (some (.int (qv (z 0) DD x1 (-1000000) (s_ruling x2)))) h') : mX9_ruling g [.ref 0, .int x1, .int x2] h Ret := by
  have z2 := a.2.2.2.2.1 0 (by decide)
  refine uX9_ruling (fun A hA => vX9_ruling_0 hA ⟨a.1.1, q_begun a (fun q => Or.inr ⟨rfl, ?_⟩) (fun k hk ex ok h' hs xs hc => Or.inl ⟨_, rfl, fun q0 => ?_, fun q0 => ⟨fun q3 => ?_, fun q3 => ?_⟩⟩)⟩)
  · have := hq h sm_rf; rwa [qv_no q] at this
  all_goals
    have hv := hq h' hs
    rw [qv_yes z2 hk ex] at hv
    unfold s_ruling at hv
  · rw [if_pos q0] at hv; exact hv
  · rw [if_neg q0, if_pos q3] at hv
    have H12 := ok.1.2
    have P6 := ok.2.1
    have od := hc.2.2
    have k2 : ∀ m i : Nat, i + m = 6 → ∀ (o11 o12 o13 : Option Value), A (82, [some (.ref 0), some (.int x1), some (.int x2), some (.ref (6 + 14 * k)), some (.long (aM (DD k) (DD k) (dP (DD k)))), none, some (.int (nI ((rlS (DD k) (3 * i)).1 / 3))), some (.int (nI ((rlS (DD k) (3 * i)).1 % 3))), some (.long (rlS (DD k) (3 * i)).2), none, some (.int (nI i)), o11, o12, o13], [], h', 0, 0) := by
      intro m
      induction m with
      | zero =>
        intro i hi o11 o12 o13
        rw [show i = 6 by omega]
        have bd : bL 962280 (rlS (DD k) (3 * 6)).2 := (rlS_bd ok 18).1
        have big : -9223372036854775808 < (rlS (DD k) (3 * 6)).2.toInt := by unfold bL at bd; omega
        unfold rlA at hv
        refine vX9_ruling_82 hA ⟨fun _ => ⟨fun c2 => ⟨xs.1, _, xs.2.1.2.2.2.2.1, od.1.1, fun n3 => ?_, fun e3 => ?_⟩, fun c2 => ⟨fun n0 => ?_, fun e0 => ?_⟩⟩, fun q => absurd (nI_le (a := 6) (b := 6) (by omega) (by omega)) q⟩
        · rw [if_pos c2, if_neg n3] at hv
          rw [od.2.2.2.1]; exact c_side big (t_pos ok) ⟨_, rfl, hv⟩
        · rw [if_pos c2, if_pos e3] at hv
          rw [od.2.2.2.1]; exact c_side big (t_pos ok) ⟨_, rfl, hv⟩
        · rw [if_neg c2, if_neg n0] at hv; exact hv
        · rw [if_neg c2, if_pos e0] at hv; exact hv
      | succ m ih =>
        intro i hi o11 o12 o13
        have nx := ih (i + 1) (by omega)
        have inn : ∀ f j : Nat, j + f = 3 → ∀ (o12 o13 : Option Value), A (92, [some (.ref 0), some (.int x1), some (.int x2), some (.ref (6 + 14 * k)), some (.long (aM (DD k) (DD k) (dP (DD k)))), none, some (.int (nI ((rlS (DD k) (3 * i + j)).1 / 3))), some (.int (nI ((rlS (DD k) (3 * i + j)).1 % 3))), some (.long (rlS (DD k) (3 * i + j)).2), none, some (.int (nI i)), some (.int (nI j)), o12, o13], [], h', 0, 0) := by
          intro f
          induction f with
          | zero =>
            intro j hj o12 o13
            refine vX9_ruling_92 hA ⟨fun _ => ?_, fun q => absurd (nI_le (a := 3) (b := j) (by omega) (by omega)) q⟩
            rw [← nI_succ, show 3 * i + j = 3 * (i + 1) by omega]; exact nx _ _ _
          | succ f ihf =>
            intro j hj o12 o13
            have st := ihf (j + 1) (by omega)
            have m1 : (3 * i + j) / 3 = i := by omega
            have m2 : (3 * i + j) % 3 = j := by omega
            have eT : rlT (DD k) (3 * i + j) = aM (DD k) (DD k) (dP (DD k)) + chB (DD k) (nI i) (nI j) := by unfold rlT; rw [m1, m2]
            have un : rlS (DD k) (3 * i + (j + 1)) = (if lg_cmp (aM (DD k) (DD k) (dP (DD k)) + chB (DD k) (nI i) (nI j)) (rlS (DD k) (3 * i + j)).2 ≤ 0 then rlS (DD k) (3 * i + j) else (3 * i + j, aM (DD k) (DD k) (dP (DD k)) + chB (DD k) (nI i) (nI j))) := by
              rw [← eT]; rfl
            refine vX9_ruling_92 hA ⟨fun q => absurd q (nI_ge (a := j) (b := 3) (by omega) (by decide)), fun _ => ⟨xs.1, c_changeByE ok xs hc ⟨_, rfl, fun c => ?_, fun c => ?_⟩⟩⟩
            · rw [un, if_pos c] at st
              rw [← nI_succ]; exact st _ _
            · rw [un, if_neg c] at st
              have st := st (some (.long (aM (DD k) (DD k) (dP (DD k)) + chB (DD k) (nI i) (nI j)))) none
              rw [show ((3 * i + j, aM (DD k) (DD k) (dP (DD k)) + chB (DD k) (nI i) (nI j)) : Nat × Int64).1 = 3 * i + j from rfl, m1, m2] at st
              rw [← nI_succ]; exact st
        exact vX9_ruling_82 hA ⟨fun q => absurd q (nI_ge (a := i) (b := 6) (by omega) (by decide)), fun _ => inn 3 0 (by decide) _ _⟩
    have k1 : ∀ m i : Nat, i + m = dP (DD k) → ∀ (o7 o8 o9 o10 o11 o12 o13 : Option Value), A (28, [some (.ref 0), some (.int x1), some (.int x2), some (.ref (6 + 14 * k)), some (.long (aM (DD k) (DD k) i)), none, some (.int (nI i)), o7, o8, o9, o10, o11, o12, o13], [], h', 0, 0) := by
      intro m
      induction m with
      | zero =>
        intro i hi o7 o8 o9 o10 o11 o12 o13
        rw [show i = dP (DD k) by omega]
        have t := k2 6 0 (by decide) o11 o12 o13
        rw [show rlS (DD k) (3 * 0) = (0, rlT (DD k) 0) from rfl, show ((0, rlT (DD k) 0) : Nat × Int64).1 = 0 from rfl, show ((0, rlT (DD k) 0) : Nat × Int64).2 = rlT (DD k) 0 from rfl] at t
        have t0 : rlT (DD k) 0 = aM (DD k) (DD k) (dP (DD k)) + chB (DD k) 0 0 := rfl
        rw [t0] at t
        refine vX9_ruling_28 hA ⟨hc.1.1.1, fun _ => ⟨xs.1, c_changeByE ok xs hc ⟨_, rfl, t⟩⟩, fun q => ?_⟩
        rw [hc.1.2.2.1.2] at q; exact absurd (nI_le (by omega) (by omega)) q
      | succ m ih =>
        intro i hi o7 o8 o9 o10 o11 o12 o13
        refine vX9_ruling_28 hA ⟨hc.1.1.1, fun q => ?_, fun _ => ⟨xs.1, _, xs.2.1.2.2.2.1, xs.1, _, xs.2.1.2.2.2.2.1, hc.2.1.1.1, c_weighed hc.2.1 od (Nat.le_refl _) ⟨_, rfl, ?_⟩⟩⟩
        · rw [hc.1.2.2.1.2] at q; exact absurd q (nI_ge (by omega) (by omega))
        · rw [← nI_succ]
          exact ih (i + 1) (by omega) _ _ _ _ _ _ _
    exact k1 (dP (DD k)) 0 (by omega) _ _ _ _ _ _ _
  · rw [if_neg q0, if_neg q3] at hv; exact hv
/-- what RULING keeps in the reference -/
def ruM (h hh : ax_H) (k : Nat) (D : rD) : Prop := ax_same md_F h hh ∧ (∃ mo, mb_at hh 77 k D mo) ∧ mw_at hh 77 (dH D) (sp_w D (rul D)) (sp_t D (rul D)) (rul D) ∧ ∀ p q, p < dP D → q < dH D → ax_i hh 91 (12 * p + q) = dde D p q
theorem c_allMeansE {hh : ax_H} {k κ : Nat} {μ : Int32} {D : rD} (ok : rd_ok D) (hm : μ = 0 ∨ μ = 1 ∨ μ = 2) (mb : mb_at hh 77 k D (dmo (swm D κ μ))) (M : ruM h hh k D) (K : ∀ h2, ruM h h2 k D → Ret (some (.long (aM D (swm D κ μ) (dP D)))) h2) : mX10_allMeans g [.ref 77] hh Ret := by
  have P6 := ok.2.1
  have H12 := ok.1.2
  have ok' : rd_ok (swm D κ μ) := swm_ok ok hm
  refine uX10_allMeans (fun A hA => vX10_allMeans_0 hA ?_)
  have key : ∀ n i : Nat, i + n = dP D → ∀ h3, mb_at h3 77 k D (dmo (swm D κ μ)) → ruM h h3 k D → A (4, [some (.ref 77), some (.long (aM D (swm D κ μ) i)), none, some (.int (nI i))], [], h3, 0, 0) := by
    intro n
    induction n with
    | zero =>
      intro i hi h3 mb M
      refine vX10_allMeans_4 hA ⟨mb.1.1, fun _ => by rw [show i = dP D by omega]; exact K _ M, fun q => ?_⟩
      rw [mb.2.2.2.2.2.1] at q; exact absurd (nI_le (by omega) (by omega)) q
    | succ n ih =>
      intro i hi h3 mb M
      refine vX10_allMeans_4 hA ⟨mb.1.1, fun q => ?_, fun _ => ⟨mb.1.1, c_mlayValues mb (rd_de_of ok) (show i < dP D by omega) (fun q hq => M.2.2.2 i q (by omega) hq) (fun h4 r4 v4 => ⟨rfl, ?_⟩)⟩⟩
      · rw [mb.2.2.2.2.2.1] at q; exact absurd q (nI_ge (by omega) (by omega))
      · have mb4 : mb_at h4 77 k D (dmo (swm D κ μ)) := mb_at_mr r4 (by unfold noJ; decide) (by decide) mb
        have mw4 := mw_mr r4 (by unfold noJ; decide) (by decide) M.2.2.1
        have M4 : ruM h h4 k D := ⟨sm_tr M.1 (sm_mono r4.1 (fun x e => by unfold md_F; omega)), ⟨_, mb4⟩, mw4, fun p q hp hq => by rw [mr_e r4 (by decide) (by decide)]; exact M.2.2.2 p q hp hq⟩
        refine ⟨mb4.1.1, x_mmeanOf mb4 (vl := sp_vl (swm D κ μ)) (fun q hq => ?_) mw4 (by omega) ⟨_, rfl, ?_⟩⟩
        · rw [show ax_i h4 (77 + 15) (12 * i + q) = _ from v4 (12 * i + q), if_pos ⟨by omega, by omega⟩, Nat.add_sub_cancel_left]
          exact vb_vl (D := swm D κ μ) (rd_de_of ok') (show i < dP D by omega) hq H12 P6 ok'.2.2.2.1
        · rw [← nI_succ]
          exact ih (i + 1) (by omega) h4 mb4 M4
  exact key (dP D) 0 (by omega) hh mb M
theorem ruM_f {hh : ax_H} {k j : Nat} {v : Int32} {D : rD} (M : ruM h hh k D) (hj : j = 34 ∨ j = 35) : ruM h (ax_pi hh 77 j v) k D := by
  obtain ⟨s, ⟨mo, b⟩, w, d⟩ := M
  have r : mr (fun i => i = j) (fun _ => False) 77 hh (ax_pi hh 77 j v) := mr_f rfl
  refine ⟨sm_tr s (sm_pi (Or.inl rfl)), ⟨fun κ => if nI κ = ax_i (ax_pi hh 77 j v) 77 34 then ax_i (ax_pi hh 77 j v) 77 35 else dmo D κ, mr_st r b.1, b.2.1, ?_, ?_, ?_, ?_, fun _ _ => rfl⟩, mw_mr r (by rcases hj with rfl | rfl <;> decide) id w, fun p q hp hq => by rw [mr_e r (by decide) id]; exact d p q hp hq⟩
  · exact rm_at_same r.1 (by rintro (q | q); exact absurd q (by decide); exact q) b.2.2.1
  · rw [(r.2 25 (by rcases hj with rfl | rfl <;> decide)).1]; exact b.2.2.2.1
  · rw [(r.2 26 (by rcases hj with rfl | rfl <;> decide)).1]; exact b.2.2.2.2.1
  · rw [(r.2 27 (by rcases hj with rfl | rfl <;> decide)).1]; exact b.2.2.2.2.2.1
theorem mb_mode {hh : ax_H} {k κ : Nat} {μ : Int32} {D : rD} (hκ : κ < 6) (M : ruM h hh k D) (e1 : ax_i hh 77 34 = nI κ) (e2 : ax_i hh 77 35 = μ) : mb_at hh 77 k D (dmo (swm D κ μ)) := by
  obtain ⟨mo, b⟩ := M.2.1
  refine ⟨b.1, b.2.1, b.2.2.1, b.2.2.2.1, b.2.2.2.2.1, b.2.2.2.2.2.1, fun j hj => ?_⟩
  show (if nI j = ax_i hh 77 34 then ax_i hh 77 35 else dmo D j) = (if j = κ then μ else dmo D j)
  rw [e1, e2]
  by_cases c : j = κ
  · rw [if_pos (congrArg nI c), if_pos c]
  · rw [if_neg (fun w => c ((nI_eq (by omega) (by omega)).mp w)), if_neg c]
theorem m_012 {t : Nat} : nI (t % 3) = 0 ∨ nI (t % 3) = 1 ∨ nI (t % 3) = 2 := by
  rcases (by omega : t % 3 = 0 ∨ t % 3 = 1 ∨ t % 3 = 2) with e | e | e <;> rw [e]
  · exact Or.inl rfl
  · exact Or.inr (Or.inl rfl)
  · exact Or.inr (Or.inr rfl)
theorem q10_ruling {x1 x2 : Int32} (a : tc h z DD N C) (hq : ∀ h', ax_same md_F h h' → Ret (some (.int (qv (z 0) DD x1 (-1000000) (s_ruling x2)))) h') : mX10_ruling g [.ref 77, .int x1, .int x2] h Ret := by
  have z2 := a.2.2.2.2.1 0 (by decide)
  obtain ⟨a1, T1, hs1⟩ := q_code (v := 0) a.2.1 a.2.2.2.1
  have bad : ∀ h', ax_same md_F h h' → ¬ (0 ≤ x2 ∧ x2 ≤ 3) → Ret (some (.int (-1000000))) h' := fun h' hs n => by
    have hv := hq h' hs
    have e : qv (z 0) DD x1 (-1000000) (s_ruling x2) = -1000000 := by
      unfold qv
      split
      · unfold s_ruling
        split
        · rfl
        · rename_i c
          split
          · rename_i d
            exact absurd ⟨Int32.not_lt.mp c, d⟩ n
          · rfl
      · rfl
    rw [e] at hv
    exact hv
  refine uX10_ruling (fun A hA => vX10_ruling_0 hA ⟨a.2.1.1, ?_⟩)
  intro h1
  refine c_min ⟨_, rfl, fun q0 => bad _ hs1 (of_decide_eq_false (b2i_0.mp q0)), fun q0 => ⟨a1.1, q_hand a1 T1 a.2.2.2.2 (fun q => ⟨_, rfl, fun q => absurd rfl q, fun _ => ?_⟩) (fun k hk ex ok h' hs hm => ⟨_, rfl, fun _ => ?_, fun q => absurd q (by decide)⟩)⟩⟩
  · have := hq _ hs1; rwa [qv_no q] at this
  obtain ⟨p0, p3⟩ := of_decide_eq_true (b2i_n0.mp q0)
  have hv : ∀ hh, ax_same md_F h hh → Ret (some (.int (rlA x2 (DD k) (rlS (DD k) 18)))) hh := fun hh s => by
    have hv := hq hh s
    rw [qv_yes z2 hk ex] at hv
    unfold s_ruling at hv
    rw [if_neg (Int32.not_lt.mpr p0), if_pos p3] at hv
    exact hv
  have M0 : ruM h h' k (DD k) := ⟨sm_tr hs1 hs, ⟨_, hm.1.1⟩, hm.2, fun p q hp hq => hm.1.2.2.1 p q hp hq⟩
  have stp : ∀ (i : Nat), i < 18 → ∀ h3, ruM h h3 k (DD k) → ∀ {R : Option Value → ax_H → Prop}, (∀ h5, ruM h h5 k (DD k) → R (some (.long (rlT (DD k) i))) h5) → mX10_allMeans g [.ref 77] (ax_pi (ax_pi h3 77 34 (nI i / 3)) 77 35 (nI i - nI i / 3 * 3)) R := fun i hi h3 M {R} K => by
    have ed : nI i / (3 : Int32) = nI (i / 3) := pk_div (d := 3) (by omega) (by decide) (by decide)
    have er : nI i - nI i / (3 : Int32) * 3 = nI (i % 3) := pk_rem (d := 3) (by omega) (by decide) (by decide)
    rw [er, ed]
    have M16 : ruM h (ax_pi (ax_pi h3 77 34 (nI (i / 3))) 77 35 (nI (i % 3))) k (DD k) := ruM_f (ruM_f M (Or.inl rfl)) (Or.inr rfl)
    have mb := mb_mode (κ := i / 3) (μ := nI (i % 3)) (by omega) M16 (by rw [ai_pi, if_neg (by omega)]; exact ai_eq) ai_eq
    refine c_allMeansE ok m_012 mb M16 (fun h2 M2 => ?_)
    rw [aM_sw ok (by omega) m_012]
    exact K h2 M2
  have fin : ∀ h3, ruM h h3 k (DD k) → ∀ (o7 o8 : Option Value), A (34, [some (.ref 77), some (.int x1), some (.int x2), some (.int (nI (rlS (DD k) 18).1)), some (.long (rlS (DD k) 18).2), none, some (.int (nI 18)), o7, o8], [], h3, 0, 0) := by
    intro h3 M o7 o8
    have bd := rlS_bd ok 18
    have big : -9223372036854775808 < (rlS (DD k) 18).2.toInt := by have := bd.1; unfold bL at this; omega
    obtain ⟨mo, mb⟩ := M.2.1
    refine vX10_ruling_34 hA ⟨fun _ => ⟨mb.1.1, ?_⟩, fun q => absurd (nI_le (a := 18) (b := 18) (by omega) (by omega)) q⟩
    intro u8
    have M8 : ruM h u8 k (DD k) := ruM_f M (Or.inl rfl)
    have mw := M8.2.2.1
    have hw := hv u8 M8.1
    unfold rlA at hw
    refine ⟨fun n0 => ⟨fun n1 => ⟨mb.1.1, fun n3 => ?_, fun e3 => ?_⟩, fun e1 => ⟨by decide, ?_⟩⟩, fun e0 => ⟨by decide, ?_⟩⟩
    · have c2 : (2 : Int32) ≤ x2 := by
        have z0 : (0 : Int32).toInt = 0 := rfl
        have z1 : (1 : Int32).toInt = 1 := rfl
        have z2 : (2 : Int32).toInt = 2 := rfl
        have a0 : ¬ x2.toInt = 0 := fun q => n0 (i_inj (q.trans z0.symm))
        have a1 : ¬ x2.toInt = 1 := fun q => n1 (i_inj (q.trans z1.symm))
        rw [i_le] at p0 ⊢
        omega
      rw [if_pos c2, if_neg n3] at hw
      rw [mw.2.1]; exact c_part big (t_pos ok) ⟨_, rfl, hw⟩
    · rw [if_pos (by rw [e3]; decide), if_pos e3] at hw
      rw [mw.2.1]; exact c_part big (t_pos ok) ⟨_, rfl, hw⟩
    · rw [if_neg (by rw [e1]; decide), if_neg n0] at hw
      rw [show (3 : Int32) = nI 3 from rfl, pk_rem (by have := bd.2.1; omega) (by decide) (by decide)]
      exact hw
    · rw [if_neg (by rw [e0]; decide), if_pos e0] at hw
      rw [show (3 : Int32) = nI 3 from rfl, pk_div (by have := bd.2.1; omega) (by decide) (by decide)]
      exact hw
  have key : ∀ n i : Nat, i + n = 18 → 0 < i → ∀ h3, ruM h h3 k (DD k) → ∀ (o7 o8 : Option Value), A (34, [some (.ref 77), some (.int x1), some (.int x2), some (.int (nI (rlS (DD k) i).1)), some (.long (rlS (DD k) i).2), none, some (.int (nI i)), o7, o8], [], h3, 0, 0) := by
    intro n
    induction n with
    | zero =>
      intro i hi i0 h3 M o7 o8
      rw [show i = 18 by omega]
      exact fin h3 M o7 o8
    | succ n ih =>
      intro i hi i0 h3 M o7 o8
      obtain ⟨mo, mb⟩ := M.2.1
      have bd := rlS_bd ok i
      have lt := bd.2.2 i0
      refine vX10_ruling_34 hA ⟨fun q => absurd q (nI_ge (a := i) (b := 18) (by omega) (by decide)), fun _ => ⟨by decide, mb.1.1, ?_⟩⟩
      intro u15
      refine ⟨by decide, mb.1.1, ?_⟩
      intro u16
      refine ⟨mb.1.1, stp i (by omega) h3 M (fun h5 M5 => ⟨_, rfl, fun e => absurd e (nI_nm1 (by omega)), fun _ => ⟨fun c => ⟨fun _ => ?_, fun e => absurd ((nI_eq (by omega) (by omega)).mp e) (by omega)⟩, fun c => ⟨fun e => absurd rfl e, fun _ => ?_⟩⟩⟩)⟩
      · have st := ih (i + 1) (by omega) (by omega) h5 M5
        rw [show rlS (DD k) (i + 1) = rlS (DD k) i from if_pos c] at st
        rw [← nI_succ]; exact st _ _
      · have st := ih (i + 1) (by omega) (by omega) h5 M5
        rw [show rlS (DD k) (i + 1) = (i, rlT (DD k) i) from if_neg c] at st
        rw [← nI_succ]; exact st _ _
  obtain ⟨mo, mb⟩ := M0.2.1
  refine vX10_ruling_34 hA ⟨fun q => absurd q (by decide), fun _ => ⟨by decide, mb.1.1, ?_⟩⟩
  intro u15
  refine ⟨by decide, mb.1.1, ?_⟩
  intro u16
  refine ⟨mb.1.1, stp 0 (by decide) h' M0 (fun h5 M5 => ⟨_, rfl, fun _ => ⟨fun e => absurd rfl e, fun _ => ?_⟩, fun e => absurd rfl e⟩)⟩
  have st := key 17 1 (by decide) (by decide) h5 M5
  rw [show rlS (DD k) 1 = (0, rlT (DD k) 0) from by
    show (if lg_cmp (rlT (DD k) 0) (rlT (DD k) 0) ≤ 0 then (0, rlT (DD k) 0) else (0, rlT (DD k) 0)) = (0, rlT (DD k) 0)
    split <;> rfl] at st
  exact st _ _
theorem g_ruling (a : IV h S Im tp) (b : 103 ≤ h.1 ∧ h.1 ≤ B) (x1 x2 : Int32) : prI (mX9_ruling g) (mX10_ruling g) [.ref 0, .int x1, .int x2] [.ref 77, .int x1, .int x2] h (inv B) := pr_q _ a b (fun Ret k => q9_ruling (iv_tc a) k) (fun h1 Ret a1 k => q10_ruling (iv_tc a1) k)
end
end

section
section
variable {g : ax_G} {Ret : Option Value → ax_H → Prop} {h : ax_H} {z : Nat → Nat} {DD : Nat → rD} {N : Nat → Nat → Nat} {C : Nat → Nat → Nat → Nat → Int32} {S : sT} {Im : Nat → Option sT} {tp : Nat → Nat} {B : Nat}
/-! sums and sets by digits -/
def orN (f : Nat → Nat) : Nat → Nat
  | 0 => 0
  | n + 1 => orN f n ||| f n
theorem sNn_congr {f k : Nat → Nat} : ∀ {n : Nat}, (∀ i, i < n → f i = k i) → sNn f n = sNn k n
  | 0, _ => rfl
  | n + 1, h => by
    show sNn f n + f n = sNn k n + k n
    rw [sNn_congr (n := n) (fun i hi => h i (by omega)), h n (by omega)]
theorem sNn_split {f : Nat → Nat} {a : Nat} : ∀ b, sNn f (a + b) = sNn f a + sNn (fun i => f (a + i)) b
  | 0 => rfl
  | b + 1 => by
    show sNn f (a + b) + f (a + b) = sNn f a + (sNn (fun i => f (a + i)) b + f (a + b))
    rw [sNn_split b]; omega
theorem sNn_add {f k : Nat → Nat} : ∀ n, sNn (fun i => f i + k i) n = sNn f n + sNn k n
  | 0 => rfl
  | n + 1 => by
    show sNn (fun i => f i + k i) n + (f n + k n) = (sNn f n + f n) + (sNn k n + k n)
    rw [sNn_add n]; omega
theorem sNn_dig {H : Nat} (hH : 0 < H) (G : Nat → Nat → Nat) : ∀ M, sNn (fun x => G (x % H) (x / H)) (H * M) = sNn (fun i => sNn (G i) M) H
  | 0 => by
    have e : ∀ n, sNn (fun i => sNn (G i) 0) n = 0 := fun n => by
      induction n with
      | zero => rfl
      | succ n ih => show sNn (fun i => sNn (G i) 0) n + 0 = 0; rw [ih]
    rw [e, Nat.mul_zero]; rfl
  | M + 1 => by
    rw [Nat.mul_succ, sNn_split, sNn_dig hH G M]
    have e : sNn (fun i => G ((H * M + i) % H) ((H * M + i) / H)) H = sNn (fun i => G i M) H := sNn_congr (fun i hi => by
      rw [Nat.mul_add_mod, Nat.mod_eq_of_lt hi, Nat.mul_add_div hH, Nat.div_eq_of_lt hi, Nat.add_zero])
    rw [e, ← sNn_add]
    rfl
theorem orN_congr {f k : Nat → Nat} : ∀ {n : Nat}, (∀ i, i < n → f i = k i) → orN f n = orN k n
  | 0, _ => rfl
  | n + 1, h => by
    show orN f n ||| f n = orN k n ||| k n
    rw [orN_congr (n := n) (fun i hi => h i (by omega)), h n (by omega)]
theorem orN_split {f : Nat → Nat} {a : Nat} : ∀ b, orN f (a + b) = orN f a ||| orN (fun i => f (a + i)) b
  | 0 => (Nat.or_zero _).symm
  | b + 1 => by
    show orN f (a + b) ||| f (a + b) = orN f a ||| (orN (fun i => f (a + i)) b ||| f (a + b))
    rw [orN_split b, Nat.or_assoc]
theorem or_4 (a b c d : Nat) : (a ||| b) ||| (c ||| d) = (a ||| c) ||| (b ||| d) := by
  rw [Nat.or_assoc, Nat.or_assoc, ← Nat.or_assoc b c d, Nat.or_comm b c, Nat.or_assoc c b d]
theorem orN_or {f k : Nat → Nat} : ∀ n, orN (fun i => f i ||| k i) n = orN f n ||| orN k n
  | 0 => (Nat.or_zero _).symm
  | n + 1 => by
    show orN (fun i => f i ||| k i) n ||| (f n ||| k n) = (orN f n ||| f n) ||| (orN k n ||| k n)
    rw [orN_or n, or_4]
theorem orN_dig {H : Nat} (hH : 0 < H) (G : Nat → Nat → Nat) : ∀ M, orN (fun x => G (x % H) (x / H)) (H * M) = orN (fun i => orN (G i) M) H
  | 0 => by
    have e : ∀ n, orN (fun i => orN (G i) 0) n = 0 := fun n => by
      induction n with
      | zero => rfl
      | succ n ih => show orN (fun i => orN (G i) 0) n ||| 0 = 0; rw [ih]; rfl
    rw [e, Nat.mul_zero]; rfl
  | M + 1 => by
    rw [Nat.mul_succ, orN_split, orN_dig hH G M]
    have e : orN (fun i => G ((H * M + i) % H) ((H * M + i) / H)) H = orN (fun i => G i M) H := orN_congr (fun i hi => by
      rw [Nat.mul_add_mod, Nat.mod_eq_of_lt hi, Nat.mul_add_div hH, Nat.div_eq_of_lt hi, Nat.add_zero])
    rw [e, ← orN_or]
    rfl
theorem orN_lt {f : Nat → Nat} {b : Nat} : ∀ n, (∀ i, i < n → f i < 2 ^ b) → orN f n < 2 ^ b
  | 0, _ => Nat.two_pow_pos b
  | n + 1, h => Nat.or_lt_two_pow (orN_lt n (fun i hi => h i (by omega))) (h n (by omega))
/-! what is seen -/
def seenB (D : rD) (C1 : Nat → Nat → Int32) (hv : Nat → Int32) (gone : Nat) : Nat → Bool
  | 0 => true
  | i + 1 => seenB D C1 hv gone i && (if C1 i 0 = nI gone then sp_in (C1 i 1) (dP D) && decide (hv (C1 i 1).toNatClampNeg = C1 i 2) else true)
theorem seen_mono {D : rD} {C1 : Nat → Nat → Int32} {hv : Nat → Int32} {gone i : Nat} : ∀ m, seenB D C1 hv gone i = false → seenB D C1 hv gone (i + m) = false
  | 0, h => h
  | m + 1, h => by
    show (seenB D C1 hv gone (i + m) && _) = false
    rw [seen_mono m h]; rfl
def okB (D : rD) (n : Nat) (C1 : Nat → Nat → Int32) (hv : Nat → Int32) (gone q : Nat) : Bool := !decide (sp_w D (sp_po (dP D) hv) q = 0) && seenB D C1 (fun p => hv p + sp_vl D p q) (gone + 1) n
def updN (ρ : Nat → Nat) (d q : Nat) : Nat → Nat := fun t => if t = d then q else ρ t
def cnt (D : rD) (n : Nat) (C1 : Nat → Nat → Int32) : Nat → Nat → (Nat → Int32) → Nat
  | 0, _, _ => 1
  | m + 1, gone, hv => sNn (fun q => if okB D n C1 hv gone q then cnt D n C1 m (gone + 1) (fun p => hv p + sp_vl D p q) else 0) (dH D)
def bF (D : rD) (n : Nat) (C1 : Nat → Nat → Int32) (t : Nat) : Nat → Nat → (Nat → Int32) → (Nat → Nat) → Nat
  | 0, _, _, ρ => 2 ^ ρ t
  | m + 1, gone, hv, ρ => orN (fun q => if okB D n C1 hv gone q then bF D n C1 t m (gone + 1) (fun p => hv p + sp_vl D p q) (updN ρ gone q) else 0) (dH D)
def rB (D : rD) (n : Nat) (C1 : Nat → Nat → Int32) : Nat → Nat → (Nat → Int32) → Nat → Bool
  | 0, _, _, _ => true
  | m + 1, gone, hv, c => okB D n C1 hv gone (c % dH D) && rB D n C1 m (gone + 1) (fun p => hv p + sp_vl D p (c % dH D)) (c / dH D)
def rF (H : Nat) : Nat → Nat → (Nat → Nat) → Nat → Nat → Nat
  | 0, _, ρ, _ => ρ
  | m + 1, gone, ρ, c => rF H m (gone + 1) (updN ρ gone (c % H)) (c / H)
theorem cnt_eq {D : rD} {n : Nat} {C1 : Nat → Nat → Int32} (hH : 0 < dH D) : ∀ m gone hv, sNn (fun c => if rB D n C1 m gone hv c then 1 else 0) (dH D ^ m) = cnt D n C1 m gone hv
  | 0, _, _ => rfl
  | m + 1, gone, hv => by
    rw [Nat.pow_succ, Nat.mul_comm]
    have e := sNn_dig hH (fun q c => if okB D n C1 hv gone q && rB D n C1 m (gone + 1) (fun p => hv p + sp_vl D p q) c then 1 else 0) (dH D ^ m)
    have e2 : sNn (fun c => if rB D n C1 (m + 1) gone hv c then 1 else 0) (dH D * dH D ^ m) = sNn (fun i => sNn ((fun q c => if okB D n C1 hv gone q && rB D n C1 m (gone + 1) (fun p => hv p + sp_vl D p q) c then 1 else 0) i) (dH D ^ m)) (dH D) := e
    rw [e2]
    show _ = sNn (fun q => if okB D n C1 hv gone q then cnt D n C1 m (gone + 1) (fun p => hv p + sp_vl D p q) else 0) (dH D)
    refine sNn_congr (fun q hq => ?_)
    show sNn (fun c => if okB D n C1 hv gone q && rB D n C1 m (gone + 1) (fun p => hv p + sp_vl D p q) c then 1 else 0) (dH D ^ m) = (if okB D n C1 hv gone q then cnt D n C1 m (gone + 1) (fun p => hv p + sp_vl D p q) else 0)
    rw [← cnt_eq hH m (gone + 1) (fun p => hv p + sp_vl D p q)]
    cases okB D n C1 hv gone q
    · have z : ∀ M, sNn (fun c => if (false && rB D n C1 m (gone + 1) (fun p => hv p + sp_vl D p q) c) = true then 1 else 0) M = 0 := fun M => by
        induction M with
        | zero => rfl
        | succ M ih => show sNn _ M + 0 = 0; rw [ih]
      rw [z]; rfl
    · exact sNn_congr (fun c _ => by rw [Bool.true_and])
theorem bF_eq {D : rD} {n : Nat} {C1 : Nat → Nat → Int32} {t : Nat} (hH : 0 < dH D) : ∀ m gone hv ρ, orN (fun c => if rB D n C1 m gone hv c then 2 ^ rF (dH D) m gone ρ c t else 0) (dH D ^ m) = bF D n C1 t m gone hv ρ
  | 0, _, _, ρ => by
    show 0 ||| 2 ^ ρ t = 2 ^ ρ t
    exact Nat.zero_or _
  | m + 1, gone, hv, ρ => by
    rw [Nat.pow_succ, Nat.mul_comm]
    have e := orN_dig hH (fun q c => if okB D n C1 hv gone q && rB D n C1 m (gone + 1) (fun p => hv p + sp_vl D p q) c then 2 ^ rF (dH D) m (gone + 1) (updN ρ gone q) c t else 0) (dH D ^ m)
    have e2 : orN (fun c => if rB D n C1 (m + 1) gone hv c then 2 ^ rF (dH D) (m + 1) gone ρ c t else 0) (dH D * dH D ^ m) = orN (fun i => orN ((fun q c => if okB D n C1 hv gone q && rB D n C1 m (gone + 1) (fun p => hv p + sp_vl D p q) c then 2 ^ rF (dH D) m (gone + 1) (updN ρ gone q) c t else 0) i) (dH D ^ m)) (dH D) := e
    rw [e2]
    show _ = orN (fun q => if okB D n C1 hv gone q then bF D n C1 t m (gone + 1) (fun p => hv p + sp_vl D p q) (updN ρ gone q) else 0) (dH D)
    refine orN_congr (fun q hq => ?_)
    show orN (fun c => if okB D n C1 hv gone q && rB D n C1 m (gone + 1) (fun p => hv p + sp_vl D p q) c then 2 ^ rF (dH D) m (gone + 1) (updN ρ gone q) c t else 0) (dH D ^ m) = (if okB D n C1 hv gone q then bF D n C1 t m (gone + 1) (fun p => hv p + sp_vl D p q) (updN ρ gone q) else 0)
    rw [← bF_eq hH m (gone + 1) (fun p => hv p + sp_vl D p q) (updN ρ gone q)]
    cases okB D n C1 hv gone q
    · have z : ∀ M, orN (fun c => if (false && rB D n C1 m (gone + 1) (fun p => hv p + sp_vl D p q) c) = true then 2 ^ rF (dH D) m (gone + 1) (updN ρ gone q) c t else 0) M = 0 := fun M => by
        induction M with
        | zero => rfl
        | succ M ih => show orN _ M ||| 0 = 0; rw [ih]; rfl
      rw [z]; rfl
    · exact orN_congr (fun c _ => by rw [Bool.true_and])
theorem bF_lt {D : rD} {n : Nat} {C1 : Nat → Nat → Int32} {t : Nat} : ∀ m gone hv ρ, (t < gone → ρ t < dH D) → t < gone + m → bF D n C1 t m gone hv ρ < 2 ^ dH D
  | 0, gone, _, ρ, h, ht => Nat.pow_lt_pow_right (by decide) (h (by omega))
  | m + 1, gone, hv, ρ, h, ht => orN_lt (dH D) (fun q hq => by
    show (if okB D n C1 hv gone q then bF D n C1 t m (gone + 1) (fun p => hv p + sp_vl D p q) (updN ρ gone q) else 0) < _
    split
    · refine bF_lt m (gone + 1) _ _ (fun ht2 => ?_) (by omega)
      unfold updN
      by_cases c : t = gone
      · rw [if_pos c]; exact hq
      · rw [if_neg c]; exact h (by omega)
    · exact Nat.two_pow_pos _)
def dN (C1 : Nat → Nat → Int32) : Nat → Nat
  | 0 => 0
  | i + 1 => if dN C1 i < (C1 i 0).toNatClampNeg then (C1 i 0).toNatClampNeg else dN C1 i
theorem dN_le {C1 : Nat → Nat → Int32} {n : Nat} (lo : ln_ok 4 n C1) : ∀ i, i ≤ n → dN C1 i ≤ 3
  | 0, _ => Nat.zero_le _
  | i + 1, hi => by
    obtain ⟨a, b, a1, a4, b6, ea, eb, -⟩ := lo.2 i (by omega)
    have := dN_le lo i (by omega)
    unfold dN
    rw [ea, nI_clamp (by omega)]
    split <;> omega
/-! FITS, of the class, exactly -/
def fG (k : Nat) : Nat → Prop := fun a => a = 53 ∨ a = 66 ∨ a = 67 ∨ a = 68 ∨ (70 + 2 * k ≤ a ∧ a ≤ 75)
def fX (h hh : ax_H) (dd : Nat) (D : rD) (hv : Nat → Int32) (c : Nat) (mb ρ : Nat → Nat) (gone : Nat) : Prop := ax_same fF h hh ∧ co_at hh 52 (dP D) (dH D) hv (sp_vl D) ∧ ax_i hh 66 1 = nI dd ∧ ax_i hh 66 2 = nI c ∧ (∀ t, t < dd → ax_i hh 67 t = nI (mb t)) ∧ ∀ t, t < gone → ax_i hh 68 t = nI (ρ t)
section
variable {r l n dd : Nat} {D : rD} {C1 : Nat → Nat → Int32} {hh : ax_H} {hv : Nat → Int32}
theorem sh_or {a q : Nat} (hq : q ≤ 12) : nI a ||| (1 : Int32) <<< (nI q &&& 31) = nI (a ||| 2 ^ q) := by rw [sh_12 q hq, or_nI]
def mbU (mb ρ : Nat → Nat) (i t : Nat) : Nat := if t < i then mb t ||| 2 ^ ρ t else mb t
theorem mbU_1 {mb ρ : Nat → Nat} {i t : Nat} (h : t < i) : mbU mb ρ i t = mb t ||| 2 ^ ρ t := if_pos h
theorem mbU_0 {mb ρ : Nat → Nat} {i t : Nat} (h : ¬ t < i) : mbU mb ρ i t = mb t := if_neg h
theorem c_keepRowE {c : Nat} {mb ρ : Nat → Nat} (se : se_st h 66) (hd : dd ≤ 3) (hρ : ∀ t, t < dd → ρ t ≤ 12) (F : fX h hh dd D hv c mb ρ dd) (hq : ∀ h', ax_same (fun a => a = 66 ∨ a = 67) hh h' → fX h h' dd D hv (c + 1) (fun t => mb t ||| 2 ^ ρ t) ρ dd → Ret none h') : mX7_keepRow g [.ref 66] hh Ret := by
  have se1 := se_st_same F.1 se
  refine uX7_keepRow (fun A hA => vX7_keepRow_0 hA ⟨rfl, se1.1, se1.1, ?_⟩)
  intro u1
  have key : ∀ m i : Nat, i + m = dd → ∀ h3, ax_same (fun a => a = 66 ∨ a = 67) hh h3 → fX h h3 dd D hv (c + 1) (mbU mb ρ i) ρ dd → A (12, [some (.ref 66), some (.int (nI i))], [], h3, 0, 0) := by
    intro m
    induction m with
    | zero =>
      intro i hi h3 fr F3
      have s3 := se_st_same F3.1 se
      refine vX7_keepRow_12 hA ⟨s3.1, fun _ => hq h3 fr ⟨F3.1, F3.2.1, F3.2.2.1, F3.2.2.2.1, fun t ht => ?_, F3.2.2.2.2.2⟩, fun q => ?_⟩
      · rw [F3.2.2.2.2.1 t ht, mbU_1 (by omega)]
      · rw [F3.2.2.1] at q; exact absurd (nI_le (by omega) (by omega)) q
    | succ m ih =>
      intro i hi h3 fr F3
      have s3 := se_st_same F3.1 se
      have a1 : (ax_s h3 (66 + 1)).1 = 11 := by rw [s3.2.2.1.1]
      have a2 : vp_in (nI i) (ax_s h3 (66 + 1)).2 := by rw [s3.2.2.1.1]; exact vp_in_nI (by omega) (by decide)
      refine vX7_keepRow_12 hA ⟨s3.1, fun q => ?_, fun _ => ⟨s3.1, _, s3.2.1.1, ⟨rfl, rfl⟩, a1, a2, s3.1, _, s3.2.1.2.1, by rw [s3.2.2.1.2.1], by rw [s3.2.2.1.2.1]; exact vp_in_nI (by omega) (by decide), ?_⟩⟩
      · rw [F3.2.2.1] at q; exact absurd q (nI_ge (by omega) (by omega))
      · intro z4
        have ez : z4 = nI (mb i ||| 2 ^ ρ i) := by
          show ax_i h3 67 (nI i).toNatClampNeg ||| (1 : Int32) <<< (ax_i h3 68 (nI i).toNatClampNeg &&& 31) = _
          rw [nI_clamp (by omega), F3.2.2.2.2.1 i (by omega), mbU_0 (by omega), F3.2.2.2.2.2 i (by omega), sh_or (hρ i (by omega))]
        refine ⟨a1, a2, ?_⟩
        intro u5
        rw [← nI_succ]
        refine ih (i + 1) (by omega) u5 (sm_tr fr (sm_pi (Or.inr rfl))) ⟨sm_tr F3.1 (sm_pi (by unfold fF; omega)), co_at_same (F := fun x => x = 67) (sm_pi rfl) (by decide) F3.2.1, ?_, ?_, fun t ht => ?_, fun t ht => ?_⟩
        · show ax_i (ax_pi h3 67 _ _) 66 1 = _
          rw [ai_pi, if_neg (by omega)]; exact F3.2.2.1
        · show ax_i (ax_pi h3 67 _ _) 66 2 = _
          rw [ai_pi, if_neg (by omega)]; exact F3.2.2.2.1
        · show ax_i (ax_pi h3 67 (nI i).toNatClampNeg z4) 67 t = _
          rw [nI_clamp (by omega), ai_pi]
          by_cases e : t = i
          · rw [if_pos ⟨rfl, e⟩, ez, mbU_1 (by omega), e]
          · rw [if_neg (fun w => e w.2), F3.2.2.2.2.1 t ht]
            by_cases e2 : t < i
            · rw [mbU_1 e2, mbU_1 (by omega)]
            · rw [mbU_0 e2, mbU_0 (by omega)]
        · show ax_i (ax_pi h3 67 _ _) 68 t = _
          rw [ai_pi, if_neg (by omega)]; exact F3.2.2.2.2.2 t ht
  refine key dd 0 (by omega) u1 (sm_pi (Or.inl rfl)) ⟨sm_tr F.1 (sm_pi (by unfold fF; omega)), co_at_same (F := fun x => x = 66) (sm_pi rfl) (by decide) F.2.1, ?_, ?_, fun t ht => ?_, fun t ht => ?_⟩
  · show ax_i (ax_pi hh 66 2 _) 66 1 = _
    rw [ai_pi, if_neg (by omega)]; exact F.2.2.1
  · show ax_i (ax_pi hh 66 2 (ax_i hh 66 2 + 1)) 66 2 = _
    rw [ai_pi, if_pos ⟨rfl, rfl⟩, F.2.2.2.1, ← nI_succ]
  · show ax_i (ax_pi hh 66 2 _) 67 t = _
    rw [ai_pi, if_neg (by omega), mbU_0 (by omega)]; exact F.2.2.2.2.1 t ht
  · show ax_i (ax_pi hh 66 2 _) 68 t = _
    rw [ai_pi, if_neg (by omega)]; exact F.2.2.2.2.2 t ht
theorem c_isAsSeenE {gone : Nat} (rc : rc_at hh r D) (co : co_at hh 52 (dP D) (dH D) hv (sp_vl D)) (L : li_at hh l 4 n C1) (hq : Ret (some (.int (b2i (seenB D C1 hv gone n)))) hh) : mX7_isAsSeen g [.ref r, .ref 52, .ref l, .int (nI gone)] hh Ret := by
  have n6 : n ≤ 6 := L.2.1
  have P6 := rc.2.1.2
  refine uX7_isAsSeen (fun A hA => vX7_isAsSeen_0 hA ?_)
  have key : ∀ m i : Nat, i + m = n → seenB D C1 hv gone i = true → ∀ o5 : Option Value, A (3, [some (.ref r), some (.ref 52), some (.ref l), some (.int (nI gone)), some (.int (nI i)), o5], [], hh, 0, 0) := by
    intro m
    induction m with
    | zero =>
      intro i hi al o5
      refine vX7_isAsSeen_3 hA ⟨L.1.1, fun _ => ⟨Or.inr rfl, ?_⟩, fun q => ?_⟩
      · rw [show n = i by omega, al] at hq; exact hq
      · rw [L.2.2.1] at q; exact absurd (nI_le (by omega) (by omega)) q
    | succ m ih =>
      intro i hi al o5
      have un : seenB D C1 hv gone (i + 1) = (if C1 i 0 = nI gone then sp_in (C1 i 1) (dP D) && decide (hv (C1 i 1).toNatClampNeg = C1 i 2) else true) := by
        show (seenB D C1 hv gone i && _) = _
        rw [al, Bool.true_and]
      have K : seenB D C1 hv gone (i + 1) = true → ∀ o5 : Option Value, A (3, [some (.ref r), some (.ref 52), some (.ref l), some (.int (nI gone)), some (.int (nI i + 1)), o5], [], hh, 0, 0) := fun e o5 => by rw [← nI_succ]; exact ih (i + 1) (by omega) e _
      have bad : seenB D C1 hv gone (i + 1) = false → Ret (some (.int 0)) hh := fun e => by
        have t := seen_mono m e
        rw [show i + 1 + m = n by omega] at t
        rw [t] at hq
        exact hq
      have e0 : sp_lc n (lw 4) C1 (nI i) 0 = C1 i 0 := lc_in (j := 0) (by omega) (by decide) (by omega) (by decide)
      have e1 : sp_lc n (lw 4) C1 (nI i) 1 = C1 i 1 := lc_in (j := 1) (by omega) (by decide) (by omega) (by decide)
      have e2 : sp_lc n (lw 4) C1 (nI i) 2 = C1 i 2 := lc_in (j := 2) (by omega) (by decide) (by omega) (by decide)
      refine vX7_isAsSeen_3 hA ⟨L.1.1, fun q => ?_, fun _ => ⟨L.1.1, c_lcell (by decide) (by decide) L ⟨_, rfl, L.1.1, c_lcell (by decide) (by decide) L ⟨_, rfl, ?_⟩⟩⟩⟩
      · rw [L.2.2.1] at q; exact absurd q (nI_ge (by omega) (by omega))
      · rw [e0, e1]
        refine ⟨fun c => K (by rw [un, if_neg c]) _, fun c => ⟨rc.1.1, c_hasPerson rc ⟨_, rfl, fun q => ⟨Or.inl rfl, bad ?_⟩, fun q => ⟨co.1.1, _, co.1.2.1, by rw [co.1.2.2.2.1], ?_, L.1.1, c_lcell (by decide) (by decide) L ⟨_, rfl, ?_⟩⟩⟩⟩⟩
        · rw [un, if_pos c, b2i_0.mp q, Bool.false_and]
        · obtain ⟨p, hp, ep⟩ := sp_in_ix (by omega) (b2i_n0.mp q)
          rw [ep, co.1.2.2.2.1]; exact vp_in_nI (by omega) (by decide)
        · rw [e2]
          obtain ⟨p, hp, ep⟩ := sp_in_ix (by omega) (b2i_n0.mp q)
          have ev : ax_i hh (52 + 1) (C1 i 1).toNatClampNeg = hv (C1 i 1).toNatClampNeg := by rw [ep, nI_clamp (by omega)]; exact co.2.2.2.2.1 p hp
          refine ⟨fun d => K ?_ _, fun d => ⟨Or.inl rfl, bad ?_⟩⟩
          · have d : ax_i hh (52 + 1) (C1 i 1).toNatClampNeg = C1 i 2 := d
            rw [ev] at d
            rw [un, if_pos c, b2i_n0.mp q, Bool.true_and]; exact decide_eq_true d
          · have d : ¬ ax_i hh (52 + 1) (C1 i 1).toNatClampNeg = C1 i 2 := d
            rw [ev] at d
            rw [un, if_pos c, b2i_n0.mp q, Bool.true_and]; exact decide_eq_false d
  exact key n 0 (by omega) rfl _
theorem c_followE (ok : rd_ok D) (se : se_st h 66) (rc : rc_at h r D) (hr : r + 6 ≤ 52) (L : li_at h l 4 n C1) (hl : l + 2 ≤ 52) (hd : dd ≤ 3) : ∀ (e gone d : Nat) (hh : ax_H) (hv : Nat → Int32) (c : Nat) (mb ρ : Nat → Nat) (Ret : Option Value → ax_H → Prop), gone + e = dd → e ≤ d → (∀ t, t < gone → ρ t ≤ 12) → fX h hh dd D hv c mb ρ gone → (∀ h', ax_same (fG gone) hh h' → fX h h' dd D hv (c + cnt D n C1 e gone hv) (fun t => mb t ||| bF D n C1 t e gone hv ρ) ρ gone → Ret none h') → mX7_follow g d [.ref 66, .ref r, .ref 52, .ref l, .int (nI gone)] hh Ret := by
  have H12 := rc.2.1.1
  have P6 := rc.2.1.2
  have kp : ∀ h3, ax_same fF h h3 → se_st h3 66 ∧ rc_at h3 r D ∧ li_at h3 l 4 n C1 := fun h3 F => ⟨se_st_same F se, rc_at_same F (fun j hj q => by unfold fF at q; omega) rc, li_at_same F (by refine ⟨?_, ?_⟩ <;> (intro q; unfold fF at q; omega)) L⟩
  intro e
  induction e with
  | zero =>
    intro gone d hh hv c mb ρ Ret hg he hρ F hq
    obtain ⟨s, rc1, L1⟩ := kp hh F.1
    have eg : gone = dd := by omega
    subst eg
    refine uX7_follow (fun A hA => vX7_follow_0 hA ⟨s.1, fun _ => ⟨s.1, c_keepRowE se hd hρ F (fun h2 f2 F2 => ⟨rfl, hq h2 (sm_mono f2 (fun x e => by unfold fG; omega)) F2⟩)⟩, fun q => ?_⟩)
    rw [F.2.2.1] at q; exact absurd (nI_le (by omega) (by omega)) q
  | succ e ihe =>
    intro gone d hh hv c mb ρ Ret hg he hρ F hq
    obtain ⟨s, rc1, L1⟩ := kp hh F.1
    have co := F.2.1
    obtain ⟨d, rfl⟩ : ∃ d', d = d' + 1 := ⟨d - 1, by omega⟩
    have od := (s.2.2.2 gone (by omega)).2
    refine uX7_follow (fun A hA => vX7_follow_0 hA ⟨s.1, fun q => ?_, fun q => ⟨fun _ => ⟨s.1, _, s.2.1.2.2, by rw [s.2.2.1.2.2], by rw [s.2.2.1.2.2]; exact vp_in_nI (by omega) (by decide), 66 + 4 + 2 * gone, by rw [nI_clamp (by omega)]; exact (s.2.2.2 gone (by omega)).1, co.1.1, c_poorest co ⟨_, rfl, od.1, c_weigh od rc1 (fun j hj q => by unfold od_F at q; omega) (fun h2 s2 o2 => ⟨rfl, ?_⟩)⟩⟩, fun q3 => absurd (nI_lt (a := gone) (b := 3) (by omega) (by decide)) q3⟩⟩)
    · rw [F.2.2.1] at q; exact absurd q (nI_ge (by omega) (by omega))
    have n66 : ∀ x j, (x = 66 ∨ x = 67 ∨ x = 68) → ax_i h2 x j = ax_i hh x j := fun x j hx => (s2.2.2.2 x (by unfold od_F; omega)).1 j
    have F2 : fX h h2 dd D hv c mb ρ gone := ⟨sm_tr F.1 (sm_mono s2 (fun x e => by unfold od_F at e; unfold fF; omega)), co_at_same s2 (by refine ⟨?_, ?_, ?_⟩ <;> (intro q; unfold od_F at q; omega)) co, by rw [n66 _ _ (Or.inl rfl)]; exact F.2.2.1, by rw [n66 _ _ (Or.inl rfl)]; exact F.2.2.2.1, fun t ht => by rw [n66 _ _ (Or.inr (Or.inl rfl))]; exact F.2.2.2.2.1 t ht, fun t ht => by rw [n66 _ _ (Or.inr (Or.inr rfl))]; exact F.2.2.2.2.2 t ht⟩
    have key : ∀ m i : Nat, i + m = dH D → ∀ h3, ax_same (fG gone) hh h3 → od_at h3 (66 + 4 + 2 * gone) (dH D) (sp_w D (sp_po (dP D) hv)) (sp_t D (sp_po (dP D) hv)) → fX h h3 dd D hv (c + sNn (fun q => if okB D n C1 hv gone q then cnt D n C1 e (gone + 1) (fun p => hv p + sp_vl D p q) else 0) i) (fun t => mb t ||| orN (fun q => if okB D n C1 hv gone q then bF D n C1 t e (gone + 1) (fun p => hv p + sp_vl D p q) (updN ρ gone q) else 0) i) ρ gone → A (48, [some (.ref 66), some (.ref r), some (.ref 52), some (.ref l), some (.int (nI gone)), some (.ref (66 + 4 + 2 * gone)), some (.int (nI i))], [], h3, 0, 0) := by
      intro m
      induction m with
      | zero =>
        intro i hi h3 fr o3 F3
        obtain ⟨s3, rc3, L3⟩ := kp h3 F3.1
        refine vX7_follow_48 hA ⟨rc3.1.1, fun _ => hq h3 fr (by rw [show i = dH D by omega] at F3; exact F3), fun q => ?_⟩
        rw [rc3.2.2.1.1] at q; exact absurd (nI_le (by omega) (by omega)) q
      | succ m ih =>
        intro i hi h3 fr o3 F3
        obtain ⟨s3, rc3, L3⟩ := kp h3 F3.1
        have co3 := F3.2.1
        have ew : ax_i h3 (66 + 4 + 2 * gone + 1) (nI i).toNatClampNeg = sp_w D (sp_po (dP D) hv) i := by rw [nI_clamp (by omega)]; exact o3.2.2.2.2 i (by omega)
        have no : okB D n C1 hv gone i = false → ∀ h4, ax_same (fG gone) hh h4 → od_at h4 (66 + 4 + 2 * gone) (dH D) (sp_w D (sp_po (dP D) hv)) (sp_t D (sp_po (dP D) hv)) → fX h h4 dd D hv (c + sNn (fun q => if okB D n C1 hv gone q then cnt D n C1 e (gone + 1) (fun p => hv p + sp_vl D p q) else 0) i) (fun t => mb t ||| orN (fun q => if okB D n C1 hv gone q then bF D n C1 t e (gone + 1) (fun p => hv p + sp_vl D p q) (updN ρ gone q) else 0) i) ρ gone → A (48, [some (.ref 66), some (.ref r), some (.ref 52), some (.ref l), some (.int (nI gone)), some (.ref (66 + 4 + 2 * gone)), some (.int (nI i + 1))], [], h4, 0, 0) := fun eo h4 f4 o4 F4 => by
          rw [← nI_succ]
          refine ih (i + 1) (by omega) h4 f4 o4 ⟨F4.1, F4.2.1, F4.2.2.1, ?_, fun t ht => ?_, F4.2.2.2.2.2⟩
          · rw [F4.2.2.2.1]
            show nI (c + sNn _ i) = nI (c + (sNn _ i + (if okB D n C1 hv gone i = true then _ else 0)))
            rw [eo, if_neg Bool.false_ne_true]
            rfl
          · rw [F4.2.2.2.2.1 t ht]
            show nI (mb t ||| orN _ i) = nI (mb t ||| (orN _ i ||| (if okB D n C1 hv gone i = true then _ else 0)))
            rw [eo, if_neg Bool.false_ne_true, Nat.or_zero]
        have un : ∀ (h4 : ax_H) (c4 : Nat) (mb4 ρ4 : Nat → Nat) (g4 : Nat), fX h h4 dd D (fun p => hv p + sp_vl D p i) c4 mb4 ρ4 g4 → ∀ {R : Option Value → ax_H → Prop}, (∀ h5, ax_same (fun a => a = 53) h4 h5 → fX h h5 dd D hv c4 mb4 ρ4 g4 → R none h5) → (ax_s h4 52).1 = 0 ∧ mX0_unlive g [.ref 52, .int (nI i)] h4 R := fun h4 c4 mb4 ρ4 g4 F4 {R} K => by
          refine ⟨F4.2.1.1.1, c_unlive F4.2.1 (fun h5 s5 c5 => K h5 s5 ⟨sm_tr F4.1 (sm_mono s5 (fun x e => by unfold fF; omega)), co_congr c5 (fun p hp => ?_), by rw [(s5.2.2.2 66 (by decide)).1]; exact F4.2.2.1, by rw [(s5.2.2.2 66 (by decide)).1]; exact F4.2.2.2.1, fun t ht => by rw [(s5.2.2.2 67 (by decide)).1]; exact F4.2.2.2.2.1 t ht, fun t ht => by rw [(s5.2.2.2 68 (by decide)).1]; exact F4.2.2.2.2.2 t ht⟩)⟩
          show (hv p + sp_vl D p i) - sp_br (dP D) (dH D) (sp_vl D) (nI p) (nI i) = hv p
          rw [sp_br_in hp (by omega) P6 H12, Int32.add_sub_cancel]
        refine vX7_follow_48 hA ⟨rc3.1.1, fun q => ?_, fun _ => ⟨o3.1.1, _, o3.1.2.1, by rw [o3.1.2.2], by rw [o3.1.2.2]; exact vp_in_nI (by omega) (by decide), fun w0 => ⟨co3.1.1, c_live co3 (fun h4 s4 c4 => ⟨rfl, ?_⟩)⟩, fun w0 => ?_⟩⟩
        · rw [rc3.2.2.1.1] at q; exact absurd q (nI_ge (by omega) (by omega))
        · have w0 : ¬ ax_i h3 (66 + 4 + 2 * gone + 1) (nI i).toNatClampNeg = 0 := w0
          rw [ew] at w0
          have c4' : co_at h4 52 (dP D) (dH D) (fun p => hv p + sp_vl D p i) (sp_vl D) := co_congr c4 (fun p hp => by rw [sp_br_in hp (by omega) P6 H12])
          have s5 := (kp h4 (sm_tr F3.1 (sm_mono s4 (fun x e => by unfold fF; omega)))).1
          refine ⟨s5.1, _, s5.2.1.2.1, by rw [s5.2.2.1.2.1], by rw [s5.2.2.1.2.1]; exact vp_in_nI (by omega) (by decide), ?_⟩
          intro u16
          have su : ax_same (fun a => a = 53 ∨ a = 68) h3 u16 := sm_tr (sm_mono s4 (fun x e => Or.inl e)) (sm_pi (Or.inr rfl))
          have fu : ax_same fF h u16 := sm_tr F3.1 (sm_mono su (fun x e => by unfold fF; omega))
          obtain ⟨s6, rc6, L6⟩ := kp u16 fu
          have cu : co_at u16 52 (dP D) (dH D) (fun p => hv p + sp_vl D p i) (sp_vl D) := co_at_same (F := fun x => x = 68) (sm_pi rfl) (by decide) c4'
          have ou : od_at u16 (66 + 4 + 2 * gone) (dH D) (sp_w D (sp_po (dP D) hv)) (sp_t D (sp_po (dP D) hv)) := od_at_same su (by refine ⟨?_, ?_⟩ <;> (intro q; omega)) o3
          have k66 : ∀ x j, (x = 66 ∨ x = 67) → ax_i u16 x j = ax_i h3 x j := fun x j hx => (su.2.2.2 x (by omega)).1 j
          have r68 : ∀ t, t < gone + 1 → ax_i u16 68 t = nI (updN ρ gone i t) := fun t ht => by
            show ax_i (ax_pi h4 68 (nI gone).toNatClampNeg (nI i)) 68 t = _
            rw [nI_clamp (by omega), ai_pi]
            unfold updN
            by_cases e1 : t = gone
            · rw [if_pos ⟨rfl, e1⟩, if_pos e1]
            · rw [if_neg (fun w => e1 w.2), if_neg e1, (s4.2.2.2 68 (by decide)).1]; exact F3.2.2.2.2.2 t (by omega)
          have Fu : fX h u16 dd D (fun p => hv p + sp_vl D p i) (c + sNn (fun q => if okB D n C1 hv gone q then cnt D n C1 e (gone + 1) (fun p => hv p + sp_vl D p q) else 0) i) (fun t => mb t ||| orN (fun q => if okB D n C1 hv gone q then bF D n C1 t e (gone + 1) (fun p => hv p + sp_vl D p q) (updN ρ gone q) else 0) i) (updN ρ gone i) (gone + 1) := ⟨fu, cu, by rw [k66 _ _ (Or.inl rfl)]; exact F3.2.2.1, by rw [k66 _ _ (Or.inl rfl)]; exact F3.2.2.2.1, fun t ht => by rw [k66 _ _ (Or.inr rfl)]; exact F3.2.2.2.2.1 t ht, r68⟩
          have back : ∀ {h5 : ax_H} {c5 : Nat} {mb5 : Nat → Nat}, fX h h5 dd D hv c5 mb5 (updN ρ gone i) (gone + 1) → fX h h5 dd D hv c5 mb5 ρ gone := fun {h5 c5 mb5} F5 => ⟨F5.1, F5.2.1, F5.2.2.1, F5.2.2.2.1, F5.2.2.2.2.1, fun t ht => by rw [F5.2.2.2.2.2 t (by omega), show updN ρ gone i t = ρ t from if_neg (by omega)]⟩
          rw [← nI_succ]
          refine c_isAsSeenE rc6 cu L6 ⟨_, rfl, fun q0 => un u16 _ _ _ _ Fu (fun h5 s5 F5 => ⟨rfl, no ?_ h5 (sm_tr fr (sm_mono (sm_tr (sm_mono su (fun x e => e)) (sm_mono s5 (fun x e => Or.inl e))) (fun x e => by unfold fG; omega))) (od_at_same s5 (by refine ⟨?_, ?_⟩ <;> (intro q; omega)) ou) (back F5)⟩), fun q0 => ⟨s6.1, ?_⟩⟩
          · unfold okB
            rw [b2i_0.mp q0, Bool.and_false]
          · have yes : okB D n C1 hv gone i = true := by
              unfold okB
              rw [b2i_n0.mp q0, decide_eq_false w0]; rfl
            refine ihe (gone + 1) d u16 _ _ _ _ _ (by omega) (by omega) (fun t ht => ?_) Fu (fun h7 f7 F7 => ⟨rfl, un h7 _ _ _ _ F7 (fun h5 s5 F5 => ⟨rfl, ?_⟩)⟩)
            · unfold updN
              by_cases e1 : t = gone
              · rw [if_pos e1]; omega
              · rw [if_neg e1]; exact hρ t (by omega)
            · rw [← nI_succ]
              have f5 : ax_same (fG gone) hh h5 := sm_tr fr (sm_tr (sm_mono su (fun x e => by unfold fG; omega)) (sm_tr (sm_mono f7 (fun x e => by unfold fG at e ⊢; omega)) (sm_mono s5 (fun x e => by unfold fG; omega))))
              have o7 : od_at h7 (66 + 4 + 2 * gone) (dH D) (sp_w D (sp_po (dP D) hv)) (sp_t D (sp_po (dP D) hv)) := od_at_same f7 (by refine ⟨?_, ?_⟩ <;> (intro q; unfold fG at q; omega)) ou
              refine ih (i + 1) (by omega) h5 f5 (od_at_same s5 (by refine ⟨?_, ?_⟩ <;> (intro q; omega)) o7) ?_
              have B5 := back F5
              refine ⟨B5.1, B5.2.1, B5.2.2.1, ?_, fun t ht => ?_, B5.2.2.2.2.2⟩
              · rw [B5.2.2.2.1]
                show _ = nI (c + (sNn _ i + (if okB D n C1 hv gone i = true then cnt D n C1 e (gone + 1) (fun p => hv p + sp_vl D p i) else 0)))
                rw [yes, if_pos rfl, Nat.add_assoc]
              · rw [B5.2.2.2.2.1 t ht]
                show nI ((mb t ||| orN (fun q => if okB D n C1 hv gone q then bF D n C1 t e (gone + 1) (fun p => hv p + sp_vl D p q) (updN ρ gone q) else 0) i) ||| bF D n C1 t e (gone + 1) (fun p => hv p + sp_vl D p i) (updN ρ gone i)) = nI (mb t ||| (orN (fun q => if okB D n C1 hv gone q then bF D n C1 t e (gone + 1) (fun p => hv p + sp_vl D p q) (updN ρ gone q) else 0) i ||| (if okB D n C1 hv gone i = true then bF D n C1 t e (gone + 1) (fun p => hv p + sp_vl D p i) (updN ρ gone i) else 0)))
                rw [yes, if_pos rfl, Nat.or_assoc]
        · have w0 : ax_i h3 (66 + 4 + 2 * gone + 1) (nI i).toNatClampNeg = 0 := w0
          rw [ew] at w0
          refine no ?_ h3 fr o3 F3
          unfold okB
          rw [decide_eq_true w0]; rfl
    refine key (dH D) 0 (by omega) h2 (sm_mono s2 (fun x e => by unfold od_F at e; unfold fG; omega)) o2 ⟨F2.1, F2.2.1, F2.2.2.1, F2.2.2.2.1, fun t ht => ?_, F2.2.2.2.2.2⟩
    rw [F2.2.2.2.2.1 t ht]
    show nI (mb t) = nI (mb t ||| 0)
    rw [Nat.or_zero]
theorem c_runE (ok : rd_ok D) (se : se_st h 66) (rc : rc_at h r D) (hr : r + 6 ≤ 52) (co : co_at h 52 (dP D) (dH D) (dpu D) (sp_vl D)) (L : li_at h l 4 n C1) (lo : ln_ok 4 n C1) (hl : l + 2 ≤ 52) (hq : ∀ h', fX h h' (dN C1 n) D (dpu D) (cnt D n C1 (dN C1 n) 0 (dpu D)) (fun t => bF D n C1 t (dN C1 n) 0 (dpu D) (fun _ => 0)) (fun _ => 0) 0 → Ret none h') : mX7_run g [.ref 66, .ref r, .ref 52, .ref l] h Ret := by
  have n6 : n ≤ 6 := L.2.1
  refine uX7_run (fun A hA => vX7_run_0 hA ⟨se.1, ?_⟩)
  intro u1
  refine ⟨se.1, ?_⟩
  intro u2
  have dle := dN_le lo n (Nat.le_refl _)
  have k53 : ∀ m i : Nat, i + m = 3 → ∀ h3, fX h h3 (dN C1 n) D (dpu D) 0 (fun _ => 0) (fun _ => 0) 0 ∨ (ax_same fF h h3 ∧ co_at h3 52 (dP D) (dH D) (dpu D) (sp_vl D) ∧ ax_i h3 66 1 = nI (dN C1 n) ∧ ax_i h3 66 2 = nI 0 ∧ ∀ t, t < i → ax_i h3 67 t = nI 0) → A (53, [some (.ref 66), some (.ref r), some (.ref 52), some (.ref l), some (.int (nI i))], [], h3, 0, 0) := by
    intro m
    induction m with
    | zero =>
      intro i hi h3 F
      have F : fX h h3 (dN C1 n) D (dpu D) 0 (fun _ => 0) (fun _ => 0) 0 := by
        rcases F with F | ⟨a1, a2, a3, a4, a5⟩
        · exact F
        · exact ⟨a1, a2, a3, a4, fun t ht => a5 t (by omega), fun t ht => absurd ht (Nat.not_lt_zero t)⟩
      have s3 := se_st_same F.1 se
      refine vX7_run_53 hA ⟨fun _ => ⟨s3.1, c_followE ok se rc hr L hl dle (dN C1 n) 0 7 h3 _ _ _ _ _ (by omega) (by omega) (fun t ht => absurd ht (Nat.not_lt_zero t)) F (fun h4 _ F4 => ⟨rfl, hq h4 ⟨F4.1, F4.2.1, F4.2.2.1, ?_, fun t ht => ?_, F4.2.2.2.2.2⟩⟩)⟩, fun q => absurd (nI_le (a := 3) (b := i) (by omega) (by omega)) q⟩
      · rw [F4.2.2.2.1, Nat.zero_add]
      · rw [F4.2.2.2.2.1 t ht]
        show nI (0 ||| bF D n C1 t (dN C1 n) 0 (dpu D) (fun _ => 0)) = nI (bF D n C1 t (dN C1 n) 0 (dpu D) (fun _ => 0))
        rw [Nat.zero_or]
    | succ m ih =>
      intro i hi h3 F
      have G : ax_same fF h h3 ∧ co_at h3 52 (dP D) (dH D) (dpu D) (sp_vl D) ∧ ax_i h3 66 1 = nI (dN C1 n) ∧ ax_i h3 66 2 = nI 0 ∧ ((∀ t, t < i → ax_i h3 67 t = nI 0) ∨ ∀ t, t < dN C1 n → ax_i h3 67 t = nI 0) := by
        rcases F with F | ⟨a1, a2, a3, a4, a5⟩
        · exact ⟨F.1, F.2.1, F.2.2.1, F.2.2.2.1, Or.inr F.2.2.2.2.1⟩
        · exact ⟨a1, a2, a3, a4, Or.inl a5⟩
      obtain ⟨a1, a2, a3, a4, a5⟩ := G
      have s3 := se_st_same a1 se
      refine vX7_run_53 hA ⟨fun q => absurd q (nI_ge (a := i) (b := 3) (by omega) (by decide)), fun _ => ⟨s3.1, _, s3.2.1.1, by rw [s3.2.2.1.1], by rw [s3.2.2.1.1]; exact vp_in_nI (by omega) (by decide), ?_⟩⟩
      intro u11
      rw [← nI_succ]
      have b1 : ax_same fF h u11 := sm_tr a1 (sm_pi (by unfold fF; omega))
      have b2 : co_at u11 52 (dP D) (dH D) (dpu D) (sp_vl D) := co_at_same (F := fun x => x = 67) (sm_pi rfl) (by decide) a2
      have b3 : ax_i u11 66 1 = nI (dN C1 n) := by
        show ax_i (ax_pi h3 67 _ _) 66 1 = _
        rw [ai_pi, if_neg (by omega)]; exact a3
      have b4 : ax_i u11 66 2 = nI 0 := by
        show ax_i (ax_pi h3 67 _ _) 66 2 = _
        rw [ai_pi, if_neg (by omega)]; exact a4
      have b5 : ∀ t, ax_i u11 67 t = if t = i then nI 0 else ax_i h3 67 t := fun t => by
        show ax_i (ax_pi h3 67 (nI i).toNatClampNeg 0) 67 t = _
        rw [nI_clamp (by omega), ai_pi]
        by_cases w : t = i
        · rw [if_pos ⟨rfl, w⟩, if_pos w]; rfl
        · rw [if_neg (fun v => w v.2), if_neg w]
      refine ih (i + 1) (by omega) u11 ?_
      rcases a5 with a5 | a5
      · refine Or.inr ⟨b1, b2, b3, b4, fun t ht => ?_⟩
        rw [b5]
        split
        · rfl
        · exact a5 t (by omega)
      · refine Or.inl ⟨b1, b2, b3, b4, fun t ht => ?_, fun t ht => absurd ht (Nat.not_lt_zero t)⟩
        rw [b5]
        split
        · rfl
        · exact a5 t ht
  have k13 : ∀ m i : Nat, i + m = n → ∀ h3, ax_same fF h h3 → co_at h3 52 (dP D) (dH D) (dpu D) (sp_vl D) → ax_i h3 66 1 = nI (dN C1 i) → ax_i h3 66 2 = nI 0 → A (13, [some (.ref 66), some (.ref r), some (.ref 52), some (.ref l), some (.int (nI i))], [], h3, 0, 0) := by
    intro m
    induction m with
    | zero =>
      intro i hi h3 a1 a2 a3 a4
      have L3 := li_at_same a1 (by refine ⟨?_, ?_⟩ <;> (intro q; unfold fF at q; omega)) L
      have e : i = n := by omega
      subst e
      refine vX7_run_13 hA ⟨L3.1.1, fun _ => k53 3 0 (by decide) h3 (Or.inr ⟨a1, a2, a3, a4, fun t ht => absurd ht (Nat.not_lt_zero t)⟩), fun q => ?_⟩
      rw [L3.2.2.1] at q; exact absurd (nI_le (by omega) (by omega)) q
    | succ m ih =>
      intro i hi h3 a1 a2 a3 a4
      have s3 := se_st_same a1 se
      have L3 := li_at_same a1 (by refine ⟨?_, ?_⟩ <;> (intro q; unfold fF at q; omega)) L
      obtain ⟨a, b, h1, h4, b6, ea, eb, -⟩ := lo.2 i (by omega)
      have di := dN_le lo i (by omega)
      refine vX7_run_13 hA ⟨L3.1.1, fun q => ?_, fun _ => ⟨s3.1, L3.1.1, c_lcell (by decide) (by decide) L3 ⟨_, rfl, ?_⟩⟩⟩
      · rw [L3.2.2.1] at q; exact absurd q (nI_ge (by omega) (by omega))
      · intro z6
        have ez : z6 = nI (dN C1 (i + 1)) := by
          show (if ax_i h3 66 1 < (if 3 < sp_lc n (lw 4) C1 (nI i) 0 then 3 else sp_lc n (lw 4) C1 (nI i) 0) then (if 3 < sp_lc n (lw 4) C1 (nI i) 0 then 3 else sp_lc n (lw 4) C1 (nI i) 0) else ax_i h3 66 1) = nI (if dN C1 i < (C1 i 0).toNatClampNeg then (C1 i 0).toNatClampNeg else dN C1 i)
          rw [show sp_lc n (lw 4) C1 (nI i) 0 = C1 i 0 from lc_in (j := 0) (by omega) (by decide) (by omega) (by decide), ea, if_neg (show ¬ (3 : Int32) < nI a from nI_nlt (a := 3) (b := a) (by omega) (by decide)), a3, nI_clamp (by omega)]
          by_cases w : dN C1 i < a
          · rw [if_pos w, if_pos (nI_lt w (by omega))]
          · rw [if_neg w, if_neg (nI_nlt (by omega) (by omega))]
        refine ⟨s3.1, ?_⟩
        intro u7
        rw [← nI_succ]
        refine ih (i + 1) (by omega) u7 (sm_tr a1 (sm_pi (by unfold fF; omega))) (co_at_same (F := fun x => x = 66) (sm_pi rfl) (by decide) a2) ?_ ?_
        · show ax_i (ax_pi h3 66 1 z6) 66 1 = _
          rw [ai_pi, if_pos ⟨rfl, rfl⟩, ez]
        · show ax_i (ax_pi h3 66 1 z6) 66 2 = _
          rw [ai_pi, if_neg (by omega)]; exact a4
  refine k13 n 0 (by omega) u2 (sm_tr (sm_pi (by unfold fF; omega)) (sm_pi (by unfold fF; omega))) (co_at_same (F := fun x => x = 66) (sm_tr (sm_pi rfl) (sm_pi rfl)) (by decide) co) ?_ ?_
  · show ax_i (ax_pi (ax_pi h 66 1 0) 66 2 0) 66 1 = _
    rw [ai_pi, if_neg (by omega), ai_pi, if_pos ⟨rfl, rfl⟩]; rfl
  · show ax_i (ax_pi (ax_pi h 66 1 0) 66 2 0) 66 2 = _
    rw [ai_pi, if_pos ⟨rfl, rfl⟩]; rfl
end
/-- the hour that a set is, from i on, of those below L -/
def srF (m : Nat) : Nat → Nat → Int32
  | 0, _ => -1
  | f + 1, i => if m = 2 ^ i then nI i else srF m f (i + 1)
theorem srF_none {m b : Nat} (hm : m < 2 ^ b) : ∀ f i, b ≤ i → srF m f i = -1
  | 0, _, _ => rfl
  | f + 1, i, hi => by
    unfold srF
    rw [if_neg (fun e => by
      have := Nat.pow_le_pow_right (n := 2) (by decide) hi
      omega)]
    exact srF_none hm f (i + 1) (by omega)
theorem srF_cut {m b : Nat} (hm : m < 2 ^ b) : ∀ f i, i ≤ b → b ≤ i + f → srF m f i = srF m (b - i) i
  | 0, i, h1, h2 => by rw [show b - i = 0 by omega]
  | f + 1, i, h1, h2 => by
    rcases Nat.lt_or_ge i b with c | c
    · obtain ⟨e, he⟩ : ∃ e, b - i = e + 1 := ⟨b - i - 1, by omega⟩
      rw [he]
      show (if m = 2 ^ i then nI i else srF m f (i + 1)) = (if m = 2 ^ i then nI i else srF m e (i + 1))
      rw [srF_cut hm f (i + 1) (by omega) (by omega), show b - (i + 1) = e by omega]
    · rw [srF_none hm (f + 1) i c, show b - i = 0 by omega]; rfl
theorem pow_nI {m i : Nat} (hm : m < 2 ^ 12) (hi : i ≤ 12) : nI m = (1 : Int32) <<< (nI i &&& 31) ↔ m = 2 ^ i := by
  rw [sh_12 i hi]
  have := p_12 i hi
  exact nI_eq (by have : (2 : Nat) ^ 12 = 4096 := rfl; omega) (by omega)
theorem c_sureHourE {d m : Nat} (se : se_st h 66) (hd : d < 3) (e : ax_i h 67 d = nI m) (hm : m < 2 ^ 12) (hq : Ret (some (.int (srF m 12 0))) h) : mX7_sureHour g [.ref 66, .int (nI d)] h Ret := by
  refine uX7_sureHour (fun A hA => vX7_sureHour_0 hA ⟨fun q => absurd q (nI_pos (by omega)), fun _ => ⟨fun _ => ?_, fun q => absurd (nI_lt (b := 3) hd (by decide)) q⟩⟩)
  have key : ∀ f i : Nat, i + f = 12 → Ret (some (.int (srF m f i))) h → A (13, [some (.ref 66), some (.int (nI d)), some (.int (nI i))], [], h, 0, 0) := by
    intro f
    induction f with
    | zero =>
      intro i hi r
      exact vX7_sureHour_13 hA ⟨fun _ => r, fun q => absurd (nI_le (a := 12) (b := i) (by omega) (by omega)) q⟩
    | succ f ih =>
      intro i hi r
      unfold srF at r
      refine vX7_sureHour_13 hA ⟨fun q => absurd q (nI_ge (a := i) (b := 12) (by omega) (by decide)), fun _ => ⟨se.1, _, se.2.1.1, by rw [se.2.2.1.1], by rw [se.2.2.1.1]; exact vp_in_nI (by omega) (by decide), fun c => ?_, fun c => ?_⟩⟩
      · have c : ¬ ax_i h 67 (nI d).toNatClampNeg = (1 : Int32) <<< (nI i &&& 31) := c
        rw [nI_clamp (by omega), e, pow_nI hm (by omega)] at c
        rw [if_neg c] at r
        rw [← nI_succ]; exact ih (i + 1) (by omega) r
      · have c : ax_i h 67 (nI d).toNatClampNeg = (1 : Int32) <<< (nI i &&& 31) := c
        rw [nI_clamp (by omega), e, pow_nI hm (by omega)] at c
        rw [if_pos c] at r
        exact r
  exact key 12 0 (by decide) hq
def s_fits (DD : Nat → rD) (N : Nat → Nat → Nat) (C : Nat → Nat → Nat → Nat → Int32) (x3 : Int32) (k w : Nat) : Int32 := if x3 = 0 then nI (cnt (DD k) (N 4 w) (C 4 w) (dN (C 4 w) (N 4 w)) 0 (dpu (DD k))) else if 10 ≤ x3 ∧ x3 < nI (10 + dN (C 4 w) (N 4 w)) then srF (bF (DD k) (N 4 w) (C 4 w) (x3 - 10).toNatClampNeg (dN (C 4 w) (N 4 w)) 0 (dpu (DD k)) (fun _ => 0)) (dH (DD k)) 0 else if 20 ≤ x3 ∧ x3 < nI (20 + dN (C 4 w) (N 4 w)) then nI (bF (DD k) (N 4 w) (C 4 w) (x3 - 20).toNatClampNeg (dN (C 4 w) (N 4 w)) 0 (dpu (DD k)) (fun _ => 0)) else -2
theorem rng_ix {b d : Nat} {x : Int32} (hb : b ≤ 50) (hd : d ≤ 3) (h1 : nI b ≤ x) (h2 : x < nI (b + d)) : ∃ i, i < d ∧ x = nI (b + i) := by
  have q3 := i_lt.mp h2
  have q4 := i_le.mp h1
  rw [nI_toInt (by omega)] at q3 q4
  obtain ⟨m, m1, m2, rfl⟩ := i_rng (a := b) (b := b + d) (by omega) (by omega) h1 (by rw [i_le, nI_toInt (by omega)]; omega)
  obtain ⟨i, rfl⟩ := Nat.exists_eq_add_of_le m1
  rw [nI_toInt (by omega)] at q3
  exact ⟨i, by omega, rfl⟩
theorem q9_fits {x1 x2 x3 : Int32} (a : tc h z DD N C) (se : se_st h 66) (hq : ∀ h', ax_same cl_F h h' → Ret (some (.int (qw (z 0) (z 4) x1 x2 (-2) (s_fits DD N C x3)))) h') : mX9_fits g [.ref 0, .int x1, .int x2, .int x3] h Ret := by
  have z0 := a.2.2.2.2.1 0 (by decide)
  have z4 := a.2.2.2.2.1 4 (by decide)
  have b1 : ∀ h', ax_same cl_F h h' → sp_in x1 (z 0) = false → Ret (some (.int (-2))) h' := fun h' s e => by have hv := hq h' s; rw [qw_n1 e] at hv; exact hv
  have b2 : ∀ h', ax_same cl_F h h' → sp_in x2 (z 4) = false → Ret (some (.int (-2))) h' := fun h' s e => by have hv := hq h' s; rw [qw_n2 e] at hv; exact hv
  refine eX9_fits ⟨a.1.1, q_begun a (fun q => Or.inr ⟨rfl, a.1.1, _, a.1.2.1.1, a.2.2.1.1.1, c_linesAt (s0 := 4) a.2.2.1 (by decide) (by decide) (fun _ => Or.inr ⟨rfl, b1 h sm_rf q⟩) (fun k hk ex => Or.inl ⟨_, rfl, b1 h sm_rf q⟩)⟩) (fun k hk ex ok h' hs xs hc => Or.inl ⟨_, rfl, ?_⟩)⟩
  have b := tc_cl hs a
  refine ⟨b.1.1, _, b.1.2.1.1, b.2.2.1.1.1, c_linesAt (s0 := 4) b.2.2.1 (by decide) (by decide) (fun q => Or.inr ⟨rfl, b2 h' hs q⟩) (fun w hw ew => Or.inl ⟨_, rfl, ?_⟩)⟩
  have L := b.2.2.1.2.2.2 4 w (by decide) (by decide) hw
  have lo := a.2.2.2.2.2.2 4 w (by decide) (by decide) hw
  have s := se_st_same hs se
  have H12 := ok.1.2
  have dle := dN_le lo (N 4 w) (Nat.le_refl _)
  refine ⟨b.1.1, _, b.1.2.1.2.2.2.2.2.2.2.1, b.1.1, _, b.1.2.1.2.2.2.1, s.1, c_runE ok s hc.1 (by omega) hc.2.1 L lo (by unfold lnp; omega) (fun h2 F => ⟨rfl, ?_⟩)⟩
  have s2 := se_st_same F.1 s
  have x2' := xs_st_same F.1 xs
  have hv := hq h2 (sm_tr hs (sm_mono F.1 (fun x e => by unfold fF at e; unfold cl_F; omega)))
  rw [qw_y z0 z4 hk ex hw ew] at hv
  unfold s_fits at hv
  have r0 := x2'.1
  have r7 := x2'.2.1.2.2.2.2.2.2.2.1
  have e20 : (20 : Int32) + ax_i h2 66 1 = nI (20 + dN (C 4 w) (N 4 w)) := by rw [F.2.2.1]; exact ni_c 20 _
  have e10 : (10 : Int32) + ax_i h2 66 1 = nI (10 + dN (C 4 w) (N 4 w)) := by rw [F.2.2.1]; exact ni_c 10 _
  have late : (¬ x3 = 0) → ¬ (10 ≤ x3 ∧ x3 < nI (10 + dN (C 4 w) (N 4 w))) → ¬ x3 < 20 → ¬ 20 + ax_i h2 66 1 ≤ x3 → vp_in (x3 - 20) (ax_s h2 (66 + 1)).2 ∧ Ret (some (.int (ax_i h2 (66 + 1) (x3 - 20).toNatClampNeg))) h2 := fun n0 n10 q1 q2 => by
    rw [e20] at q2
    rw [if_neg n0, if_neg n10, if_pos ⟨nt_lt.mp q1, nt_le.mp q2⟩] at hv
    obtain ⟨i, hi, rfl⟩ := rng_ix (b := 20) (by decide) dle (nt_lt.mp q1) (nt_le.mp q2)
    have es : nI (20 + i) - 20 = nI i := ni_sb
    rw [es, nI_clamp (by omega)] at hv
    rw [es, s2.2.2.1.1, nI_clamp (by omega), show ax_i h2 (66 + 1) i = _ from F.2.2.2.2.1 i hi]
    exact ⟨vp_in_nI (by omega) (by decide), hv⟩
  have none2 : (¬ x3 = 0) → ¬ (10 ≤ x3 ∧ x3 < nI (10 + dN (C 4 w) (N 4 w))) → ¬ (20 ≤ x3 ∧ x3 < nI (20 + dN (C 4 w) (N 4 w))) → Ret (some (.int (-2))) h2 := fun n0 n10 n20 => by
    rw [if_neg n0, if_neg n10, if_neg n20] at hv; exact hv
  refine ⟨fun n0 => ⟨fun q10 => ⟨fun q20 => none2 n0 (fun w => absurd q10 (Int32.not_lt.mpr w.1)) (fun w => absurd q20 (Int32.not_lt.mpr w.1)), fun q => ⟨r0, _, r7, s2.1, fun q2 => ?_, fun q2 => ⟨r0, _, r7, s2.1, _, s2.2.1.1, by rw [s2.2.2.1.1], late n0 (fun w => absurd q10 (Int32.not_lt.mpr w.1)) q q2⟩⟩⟩, fun q10 => ⟨r0, _, r7, s2.1, fun q11 => ⟨fun q20 => ?_, fun q => ⟨r0, _, r7, s2.1, fun q2 => ?_, fun q2 => ⟨r0, _, r7, s2.1, _, s2.2.1.1, by rw [s2.2.2.1.1], late n0 ?_ q q2⟩⟩⟩, fun q11 => ⟨r0, _, r7, s2.1, ?_⟩⟩⟩, fun e0 => ⟨r0, _, r7, s2.1, ?_⟩⟩
  · rw [e20] at q2
    exact none2 n0 (fun w => absurd q10 (Int32.not_lt.mpr w.1)) (fun w => absurd q2 (nt_le.mpr w.2))
  · rw [e10] at q11
    exact none2 n0 (fun w => absurd q11 (nt_le.mpr w.2)) (fun w => absurd q20 (Int32.not_lt.mpr w.1))
  · rw [e10] at q11
    rw [e20] at q2
    exact none2 n0 (fun w => absurd q11 (nt_le.mpr w.2)) (fun w => absurd q2 (nt_le.mpr w.2))
  · rw [e10] at q11
    exact fun w => absurd q11 (nt_le.mpr w.2)
  · rw [e10] at q11
    rw [if_neg n0, if_pos ⟨nt_lt.mp q10, nt_le.mp q11⟩] at hv
    obtain ⟨i, hi, rfl⟩ := rng_ix (b := 10) (by decide) dle (nt_lt.mp q10) (nt_le.mp q11)
    have es : nI (10 + i) - 10 = nI i := ni_sb
    rw [es, nI_clamp (by omega)] at hv
    rw [es]
    have bl := bF_lt (D := DD k) (n := N 4 w) (C1 := C 4 w) (t := i) (dN (C 4 w) (N 4 w)) 0 (dpu (DD k)) (fun _ => 0) (fun q => absurd q (Nat.not_lt_zero i)) (by omega)
    have bl12 : bF (DD k) (N 4 w) (C 4 w) i (dN (C 4 w) (N 4 w)) 0 (dpu (DD k)) (fun _ => 0) < 2 ^ 12 := Nat.lt_of_lt_of_le bl (Nat.pow_le_pow_right (by decide) H12)
    refine c_sureHourE s2 (by omega) (F.2.2.2.2.1 i hi) bl12 ⟨_, rfl, ?_⟩
    rw [srF_cut bl 12 0 (Nat.zero_le _) (by omega), Nat.sub_zero]
    exact hv
  · rw [if_pos e0] at hv
    rw [F.2.2.2.1]; exact hv
end
end

section
section
variable {g : ax_G} {Ret : Option Value → ax_H → Prop} {h : ax_H} {z : Nat → Nat} {DD : Nat → rD} {N : Nat → Nat → Nat} {C : Nat → Nat → Nat → Nat → Int32} {S : sT} {Im : Nat → Option sT} {tp : Nat → Nat} {B : Nat}
/-! FITS, of the reference, exactly -/
section
variable {hh : ax_H} {k w dd : Nat}
def rwJ : Nat → Prop := fun j => j = 32 ∨ j = 33
def rwF : Nat → Prop := fun a => a = 90 ∨ a = 93 ∨ a = 99
theorem c_misAsSeenE {gone : Nat} {pu : Nat → Int32} (a : tc h z DD N C) (ok : rd_ok (DD k)) (M : cmS h hh k (DD k) w dd) (mc : mc_at hh 77 k (DD k) (dmo (DD k)) pu (sp_vl (DD k))) (hw : w < z 4) (hq : Ret (some (.int (b2i (seenB (DD k) (C 4 w) pu gone (N 4 w))))) hh) : mX10_isAsSeen g [.ref 77, .int (nI gone)] hh Ret := by
  have c := tc_md M.1.1 a
  have n6 : N 4 w ≤ 6 := (a.2.2.2.2.2.2 4 w (by decide) (by decide) hw).1
  have P6 := ok.2.1
  have s0 := c.2.1.1
  obtain ⟨e1, e2, e3, e4⟩ := si_at a M hw
  obtain ⟨f1, f2⟩ := mo_pu c.2.1
  refine uX10_isAsSeen (fun A hA => vX10_isAsSeen_0 hA ?_)
  have key : ∀ m i : Nat, i + m = N 4 w → seenB (DD k) (C 4 w) pu gone i = true → A (2, [some (.ref 77), some (.int (nI gone)), some (.int (nI i))], [], hh, 0, 0) := by
    intro m
    induction m with
    | zero =>
      intro i hi al
      refine vX10_isAsSeen_2 hA ⟨s0, _, e1, s0, e2, e3, fun _ => ⟨Or.inr rfl, ?_⟩, fun q => ?_⟩
      · rw [show N 4 w = i by omega, al] at hq; exact hq
      · rw [e4] at q; exact absurd (nI_le (by omega) (by omega)) q
    | succ m ih =>
      intro i hi al
      have un : seenB (DD k) (C 4 w) pu gone (i + 1) = (if C 4 w i 0 = nI gone then sp_in (C 4 w i 1) (dP (DD k)) && decide (pu (C 4 w i 1).toNatClampNeg = C 4 w i 2) else true) := by
        show (seenB (DD k) (C 4 w) pu gone i && _) = _
        rw [al, Bool.true_and]
      have K : seenB (DD k) (C 4 w) pu gone (i + 1) = true → A (2, [some (.ref 77), some (.int (nI gone)), some (.int (nI i + 1))], [], hh, 0, 0) := fun e => by rw [← nI_succ]; exact ih (i + 1) (by omega) e
      have bad : seenB (DD k) (C 4 w) pu gone (i + 1) = false → Ret (some (.int 0)) hh := fun e => by
        have t := seen_mono m e
        rw [show i + 1 + m = N 4 w by omega] at t
        rw [t] at hq
        exact hq
      refine vX10_isAsSeen_2 hA ⟨s0, _, e1, s0, e2, e3, fun q => ?_, fun _ => ⟨s0, c_msightOf (j := 0) c.2.1 c.2.2.2.1 c.2.2.2.2 hw M.2.1 (by omega) (by decide) ⟨_, rfl, fun d => K (by rw [un, if_neg d]), fun d => ⟨s0, c_msightOf (j := 1) c.2.1 c.2.2.2.1 c.2.2.2.2 hw M.2.1 (by omega) (by decide) ⟨_, rfl, s0, c_misOne mc.1 ⟨_, rfl, fun q => ⟨Or.inl rfl, bad ?_⟩, fun q => ⟨s0, _, f1, s0, c_msightOf (j := 1) c.2.1 c.2.2.2.1 c.2.2.2.2 hw M.2.1 (by omega) (by decide) ⟨_, rfl, by rw [f2], ?_, s0, c_msightOf (j := 2) c.2.1 c.2.2.2.1 c.2.2.2.2 hw M.2.1 (by omega) (by decide) ⟨_, rfl, fun v => K ?_, fun v => ⟨Or.inl rfl, bad ?_⟩⟩⟩⟩⟩⟩⟩⟩⟩⟩
      · rw [e4] at q; exact absurd q (nI_ge (by omega) (by omega))
      · rw [un, if_pos d, b2i_0.mp q, Bool.false_and]
      · obtain ⟨p, hp, ep⟩ := sp_in_ix (by omega) (b2i_n0.mp q)
        rw [ep, f2]; exact vp_in_nI (by omega) (by decide)
      · obtain ⟨p, hp, ep⟩ := sp_in_ix (by omega) (b2i_n0.mp q)
        have v : ax_i hh (77 + 13) (C 4 w i 1).toNatClampNeg = C 4 w i 2 := v
        rw [ep, nI_clamp (by omega), mc.2.1 p hp] at v
        rw [un, if_pos d, b2i_n0.mp q, Bool.true_and, ep, nI_clamp (by omega)]; exact decide_eq_true v
      · obtain ⟨p, hp, ep⟩ := sp_in_ix (by omega) (b2i_n0.mp q)
        have v : ¬ ax_i hh (77 + 13) (C 4 w i 1).toNatClampNeg = C 4 w i 2 := v
        rw [ep, nI_clamp (by omega), mc.2.1 p hp] at v
        rw [un, if_pos d, b2i_n0.mp q, Bool.true_and, ep, nI_clamp (by omega)]; exact decide_eq_false v
  exact key (N 4 w) 0 (by omega) rfl
theorem c_misRowE {c : Nat} (a : tc h z DD N C) (ok : rd_ok (DD k)) (M : cmS h hh k (DD k) w dd) (hw : w < z 4) (hd : dd ≤ 3) (hc : c < 100000) (h1 : rB (DD k) (N 4 w) (C 4 w) dd 0 (dpu (DD k)) c = true → ∀ h2, cmS h h2 k (DD k) w dd → mr rwJ rwF 77 hh h2 → (∀ t, t < dd → ax_i h2 99 t = nI (rF (dH (DD k)) dd 0 (fun _ => 0) c t)) → Ret (some (.int 1)) h2) (h0 : rB (DD k) (N 4 w) (C 4 w) dd 0 (dpu (DD k)) c = false → ∀ h2, cmS h h2 k (DD k) w dd → mr rwJ rwF 77 hh h2 → Ret (some (.int 0)) h2) : mX10_isRow g [.ref 77, .int (nI c)] hh Ret := by
  have H12 := ok.1.2
  have H2 := ok.1.1
  have P6 := ok.2.1
  refine uX10_isRow (fun A hA => vX10_isRow_0 hA ?_)
  have k37 : ∀ m i c : Nat, ∀ (pu : Nat → Int32) (ρ : Nat → Nat), i + m = dd → c < 100000 → ∀ h3, cmS h h3 k (DD k) w dd → mr rwJ rwF 77 hh h3 → mc_at h3 77 k (DD k) (dmo (DD k)) pu (sp_vl (DD k)) → mw_at h3 77 (dH (DD k)) (sp_w (DD k) (sp_po (dP (DD k)) pu)) (sp_t (DD k) (sp_po (dP (DD k)) pu)) (sp_po (dP (DD k)) pu) → (∀ t, t < i → ax_i h3 99 t = nI (ρ t)) → (rB (DD k) (N 4 w) (C 4 w) m i pu c = true → ∀ h2, cmS h h2 k (DD k) w dd → mr rwJ rwF 77 hh h2 → (∀ t, t < dd → ax_i h2 99 t = nI (rF (dH (DD k)) m i ρ c t)) → Ret (some (.int 1)) h2) → (rB (DD k) (N 4 w) (C 4 w) m i pu c = false → ∀ h2, cmS h h2 k (DD k) w dd → mr rwJ rwF 77 hh h2 → Ret (some (.int 0)) h2) → ∀ o1 : Option Value, A (37, [some (.ref 77), o1, some (.int (nI c)), some (.int (nI i))], [], h3, 0, 0) := by
    intro m
    induction m with
    | zero =>
      intro i c pu ρ hi hc h3 M3 r3 mc mw row y1 y0 o1
      refine vX10_isRow_37 hA ⟨mc.1.1.1, fun _ => ⟨Or.inr rfl, y1 rfl h3 M3 r3 (fun t ht => row t (by omega))⟩, fun q => ?_⟩
      rw [M3.2.2] at q; exact absurd (nI_le (by omega) (by omega)) q
    | succ m ih =>
      intro i c pu ρ hi hc h3 M3 r3 mc mw row y1 y0 o1
      have s0 := mc.1.1.1
      obtain ⟨e1, e2⟩ := mo_rw mc.1.1
      obtain ⟨f1, f2⟩ := mo_we mc.1.1
      have e26 := mc.1.2.2.2.2.1
      have ne : ¬ ax_i h3 77 26 = 0 := by rw [e26]; exact nI_ne0 (by omega) (by omega)
      have v3 : vp_in (nI i) (ax_s h3 (77 + 22)).2 := by rw [e2]; exact vp_in_nI (by omega) (by decide)
      have s11 : (ax_s h3 (77 + 22)).1 = 11 := by rw [e2]
      have un : rB (DD k) (N 4 w) (C 4 w) (m + 1) i pu c = (okB (DD k) (N 4 w) (C 4 w) pu i (c % dH (DD k)) && rB (DD k) (N 4 w) (C 4 w) m (i + 1) (fun p => pu p + sp_vl (DD k) p (c % dH (DD k))) (c / dH (DD k))) := rfl
      refine vX10_isRow_37 hA ⟨s0, fun q => ?_, fun _ => ⟨s0, _, e1, s0, ne, s11, v3, ?_⟩⟩
      · rw [M3.2.2] at q; exact absurd q (nI_ge (by omega) (by omega))
      · intro u9
        have r9' : mr (fun _ => False) (fun a => a = 99) 77 h3 u9 := mr_c rfl (by decide)
        have r9 : mr rwJ rwF 77 hh u9 := mr_tr r3 (mr_mono r9' (fun _ e => e.elim) (fun _ e => by unfold rwF; omega))
        have M9 : cmS h u9 k (DD k) w dd := cmS_a M3 (Or.inr rfl)
        have mc9 := mc_at_mr r9' (by decide) (by decide) mc
        have mw9 := mw_mr r9' (by decide) (by decide) mw
        have cm : c % dH (DD k) < dH (DD k) := Nat.mod_lt _ (by omega)
        have ev : ax_i u9 (77 + 22) (nI i).toNatClampNeg = nI (c % dH (DD k)) := by
          show ax_i (ax_pi h3 99 (nI i).toNatClampNeg (nI c - nI c / ax_i h3 77 26 * ax_i h3 77 26)) 99 (nI i).toNatClampNeg = _
          rw [ai_pi, if_pos ⟨rfl, rfl⟩, e26, pk_rem (by omega) (by omega) (by omega)]
        have row9 : ∀ t, t < i + 1 → ax_i u9 99 t = nI (updN ρ i (c % dH (DD k)) t) := fun t ht => by
          unfold updN
          by_cases e : t = i
          · rw [if_pos e, e]
            have := ev
            rw [nI_clamp (by omega)] at this
            exact this
          · rw [if_neg e]
            show ax_i (ax_pi h3 99 (nI i).toNatClampNeg _) 99 t = _
            rw [nI_clamp (by omega), ai_pi, if_neg (fun w => e w.2)]
            exact row t (by omega)
        have wq : ax_i u9 (77 + 16) (ax_i u9 (77 + 22) (nI i).toNatClampNeg).toNatClampNeg = sp_w (DD k) (sp_po (dP (DD k)) pu) (c % dH (DD k)) := by
          rw [ev, nI_clamp (by omega)]; exact mw9.1 _ cm
        refine ⟨s0, by rw [show ax_i u9 77 26 = nI (dH (DD k)) from mc9.1.2.2.2.2.1]; exact nI_ne0 (by omega) (by omega), s0, _, f1, s0, _, e1, s11, v3, by show (ax_s h3 (77 + 16)).1 = 11; rw [f2], ?_, fun w0 => ⟨s0, _, e1, s11, v3, s0, ?_⟩, fun w0 => ⟨Or.inl rfl, y0 ?_ u9 M9 r9⟩⟩
        · show vp_in (ax_i u9 (77 + 22) (nI i).toNatClampNeg) (ax_s h3 (77 + 16)).2
          rw [ev, f2]; exact vp_in_nI (by omega) (by decide)
        · have w0 : ¬ ax_i u9 (77 + 16) (ax_i u9 (77 + 22) (nI i).toNatClampNeg).toNatClampNeg = 0 := w0
          rw [wq] at w0
          rw [ev]
          refine c_mlive mc9 cm (fun h4 r4 c4 w4 => ⟨rfl, ?_⟩)
          have M4 : cmS h h4 k (DD k) w dd := ⟨⟨sm_tr M9.1.1 (sm_mono r4.1 (fun x e => by unfold md_F; omega)), _, c4⟩, by rw [(r4.2 49 (by decide)).1]; exact M9.2.1, by rw [(r4.2 51 (by decide)).1]; exact M9.2.2⟩
          have r4' : mr rwJ rwF 77 hh h4 := mr_tr r9 (mr_mono r4 (fun _ e => e) (fun _ e => by unfold rwF; omega))
          refine ⟨c4.1.1.1, ?_⟩
          rw [← nI_succ]
          refine c_misAsSeenE a ok M4 c4 hw ⟨_, rfl, fun q0 => ?_, fun q0 => ⟨Or.inl rfl, y0 ?_ h4 M4 r4'⟩⟩
          · have yes : okB (DD k) (N 4 w) (C 4 w) pu i (c % dH (DD k)) = true := by
              unfold okB
              rw [b2i_n0.mp q0, decide_eq_false w0]; rfl
            rw [yes, Bool.true_and] at un
            rw [show ax_i u9 77 26 = nI (dH (DD k)) from mc9.1.2.2.2.2.1, pk_div (by omega) (by omega) (by omega)]
            refine ih (i + 1) (c / dH (DD k)) _ (updN ρ i (c % dH (DD k))) (by omega) (Nat.lt_of_le_of_lt (Nat.div_le_self _ _) hc) h4 M4 r4' c4 w4 (fun t ht => ?_) (fun e => y1 (by rw [un]; exact e)) (fun e => y0 (by rw [un]; exact e)) _
            rw [mr_e r4 (by decide) (by decide)]; exact row9 t ht
          · rw [un]
            unfold okB
            rw [b2i_0.mp q0, Bool.and_false, Bool.false_and]
        · have w0 : ax_i u9 (77 + 16) (ax_i u9 (77 + 22) (nI i).toNatClampNeg).toNatClampNeg = 0 := w0
          rw [wq] at w0
          rw [un]
          unfold okB
          rw [decide_eq_true w0]; rfl
  have k4 : ∀ m i : Nat, i + m = dP (DD k) → ∀ h3, cmS h h3 k (DD k) w dd → mr rwJ rwF 77 hh h3 → (∀ p, p < i → ax_i h3 90 p = dpu (DD k) p) → ∀ o1 : Option Value, A (4, [some (.ref 77), o1, some (.int (nI c)), some (.int (nI i))], [], h3, 0, 0) := by
    intro m
    induction m with
    | zero =>
      intro i hi h3 M3 r3 pe o1
      obtain ⟨pu, mc⟩ := M3.1.2
      have mc' : mc_at h3 77 k (DD k) (dmo (DD k)) (dpu (DD k)) (sp_vl (DD k)) := ⟨mc.1, fun p hp => pe p (by omega), mc.2.2⟩
      refine vX10_isRow_4 hA ⟨mc.1.1.1, fun _ => ⟨mc.1.1.1, c_mlayOdds mc'.1 mc'.2.1 (fun h4 r4 w4 => ⟨rfl, ?_⟩)⟩, fun q => ?_⟩
      · have c4 := mc_at_mr r4 (by decide) (by decide) mc'
        have M4 : cmS h h4 k (DD k) w dd := ⟨⟨sm_tr M3.1.1 (sm_mono r4.1 (fun x e => by unfold md_F; omega)), _, c4⟩, by rw [(r4.2 49 (by decide)).1]; exact M3.2.1, by rw [(r4.2 51 (by decide)).1]; exact M3.2.2⟩
        exact k37 dd 0 c _ (fun _ => 0) (by omega) hc h4 M4 (mr_tr r3 (mr_mono r4 (fun _ e => e) (fun _ e => by unfold rwF; omega))) c4 w4 (fun t ht => absurd ht (Nat.not_lt_zero t)) h1 h0 _
      · rw [mc.1.2.2.2.2.2.1] at q; exact absurd (nI_le (by omega) (by omega)) q
    | succ m ih =>
      intro i hi h3 M3 r3 pe o1
      obtain ⟨pu, mc⟩ := M3.1.2
      obtain ⟨e1, e2⟩ := mo_pu mc.1.1
      refine vX10_isRow_4 hA ⟨mc.1.1.1, fun q => ?_, fun _ => ⟨mc.1.1.1, _, e1, mc.1.1.1, c_mof (i := 2 + i) mc.1.1 mc.1.2.1 mc.1.2.2.2.1 (by omega) (ni_c 2 i) ⟨_, rfl, by rw [e2], by rw [e2]; exact vp_in_nI (by omega) (by decide), ?_⟩⟩⟩
      · rw [mc.1.2.2.2.2.2.1] at q; exact absurd q (nI_ge (by omega) (by omega))
      · intro u7
        rw [← nI_succ]
        refine ih (i + 1) (by omega) u7 (cmS_90 M3) (mr_tr r3 (mr_c (Or.inl rfl) (by decide))) (fun p hp => ?_) _
        show ax_i (ax_pi h3 90 (nI i).toNatClampNeg (ax_i h3 (77 + 6) (164 * k + (2 + i)))) 90 p = _
        rw [nI_clamp (by omega), ai_pi]
        by_cases e : p = i
        · rw [if_pos ⟨rfl, e⟩, e]
          have := mc.1.2.2.1.2.2.2.1 i (by omega)
          rw [← Nat.add_assoc]; exact this
        · rw [if_neg (fun w => e w.2)]; exact pe p (by omega)
  exact k4 (dP (DD k)) 0 (by omega) hh M mr_rf (fun p hp => absurd hp (Nat.not_lt_zero p)) _
theorem c_monlyOneE {D : rD} {m : Nat} (M : cmS h hh k D w dd) (hm : m < 2 ^ 12) (hq : Ret (some (.int (srF m (dH D) 0))) hh) : mX10_onlyOne g [.ref 77, .int (nI m)] hh Ret := by
  obtain ⟨pu, mc⟩ := M.1.2
  have H12 := mc.1.2.2.1.1.1
  refine uX10_onlyOne (fun A hA => vX10_onlyOne_0 hA ?_)
  have key : ∀ f i : Nat, i + f = dH D → Ret (some (.int (srF m f i))) hh → A (2, [some (.ref 77), some (.int (nI m)), some (.int (nI i))], [], hh, 0, 0) := by
    intro f
    induction f with
    | zero =>
      intro i hi r
      refine vX10_onlyOne_2 hA ⟨mc.1.1.1, fun _ => r, fun q => ?_⟩
      rw [mc.1.2.2.2.2.1] at q; exact absurd (nI_le (by omega) (by omega)) q
    | succ f ih =>
      intro i hi r
      unfold srF at r
      refine vX10_onlyOne_2 hA ⟨mc.1.1.1, fun q => ?_, fun _ => ⟨fun c => ?_, fun c => ?_⟩⟩
      · rw [mc.1.2.2.2.2.1] at q; exact absurd q (nI_ge (by omega) (by omega))
      · rw [pow_nI hm (by omega)] at c
        rw [if_neg c] at r
        rw [← nI_succ]; exact ih (i + 1) (by omega) r
      · rw [pow_nI hm (by omega)] at c
        rw [if_pos c] at r
        exact r
  exact key (dH D) 0 (by omega) hq
/-- the rows found so far -/
def cmR (h hh : ax_H) (k : Nat) (D : rD) (w dd n : Nat) (C1 : Nat → Nat → Int32) (i : Nat) : Prop := cmS h hh k D w dd ∧ ax_i hh 77 50 = nI (sNn (fun c => if rB D n C1 dd 0 (dpu D) c then 1 else 0) i) ∧ ∀ t, t < dd → ax_i hh 98 t = nI (orN (fun c => if rB D n C1 dd 0 (dpu D) c then 2 ^ rF (dH D) dd 0 (fun _ => 0) c t else 0) i)
theorem rF_lt {H : Nat} (hH : 0 < H) {t : Nat} : ∀ m gone ρ c, (t < gone → ρ t < H) → t < gone + m → rF H m gone ρ c t < H
  | 0, gone, ρ, c, h1, h2 => h1 (by omega)
  | m + 1, gone, ρ, c, h1, h2 => rF_lt hH m (gone + 1) _ _ (fun ht => by
    unfold updN
    by_cases e : t = gone
    · rw [if_pos e]; exact Nat.mod_lt _ hH
    · rw [if_neg e]; exact h1 (by omega)) (by omega)
theorem c_findFitsE (a : tc h z DD N C) (ok : rd_ok (DD k)) (M : (ax_same md_F h hh ∧ ∃ pu, mc_at hh 77 k (DD k) (dmo (DD k)) pu (sp_vl (DD k))) ∧ ax_i hh 77 49 = nI w) (hw : w < z 4) (hq : ∀ h2, cmR h h2 k (DD k) w (dN (C 4 w) (N 4 w)) (N 4 w) (C 4 w) (dH (DD k) ^ dN (C 4 w) (N 4 w)) → Ret none h2) : mX10_findFits g [.ref 77] hh Ret := by
  have H12 := ok.1.2
  have H2 := ok.1.1
  have lo := a.2.2.2.2.2.2 4 w (by decide) (by decide) hw
  have n6 : N 4 w ≤ 6 := lo.1
  have s00 := (tc_md M.1.1 a).2.1.1
  have dle := dN_le lo (N 4 w) (Nat.le_refl _)
  have p12 : ∀ i, i ≤ 3 → 12 ^ i ≤ 1728 := by decide
  have pH : dH (DD k) ^ dN (C 4 w) (N 4 w) ≤ 1728 := Nat.le_trans (Nat.pow_le_pow_left H12 _) (p12 _ dle)
  refine uX10_findFits (fun A hA => vX10_findFits_0 hA ⟨s00, ?_⟩)
  intro u1
  have M1 : cmS h u1 k (DD k) w 0 := by
    obtain ⟨⟨s, pu, mc⟩, e1⟩ := M
    exact ⟨⟨sm_tr s (sm_pi (Or.inl rfl)), pu, mc_at_mr (mr_f (J := fun j => j = 51) (F := fun _ => False) rfl) (by decide) (by decide) mc⟩, by show ax_i (ax_pi hh 77 51 0) 77 49 = _; rw [ai_pi, if_neg (by decide)]; exact e1, by show ax_i (ax_pi hh 77 51 0) 77 51 = _; rw [ai_pi, if_pos ⟨rfl, rfl⟩]; rfl⟩
  have k85 : ∀ m i : Nat, i + m = dH (DD k) ^ dN (C 4 w) (N 4 w) → ∀ h3, cmR h h3 k (DD k) w (dN (C 4 w) (N 4 w)) (N 4 w) (C 4 w) i → ∀ o3 : Option Value, A (85, [some (.ref 77), some (.int (nI (dH (DD k) ^ dN (C 4 w) (N 4 w)))), some (.int (nI i)), o3], [], h3, 0, 0) := by
    intro m
    induction m with
    | zero =>
      intro i hi h3 R3 o3
      exact vX10_findFits_85 hA ⟨fun _ => hq h3 (by rw [← show i = dH (DD k) ^ dN (C 4 w) (N 4 w) by omega]; exact R3), fun q => absurd (nI_le (by omega) (by omega)) q⟩
    | succ m ih =>
      intro i hi h3 R3 o3
      obtain ⟨M3, e50, e98⟩ := R3
      obtain ⟨pu, mc⟩ := M3.1.2
      have fr : ∀ h4, mr rwJ rwF 77 h3 h4 → ax_i h4 77 50 = ax_i h3 77 50 ∧ ∀ t, ax_i h4 98 t = ax_i h3 98 t := fun h4 r4 => ⟨(r4.2 50 (by unfold rwJ; decide)).1, fun t => mr_e r4 (by decide) (by unfold rwF; decide) t⟩
      refine vX10_findFits_85 hA ⟨fun q => absurd q (nI_ge (by omega) (by omega)), fun _ => ⟨mc.1.1.1, c_misRowE a ok M3 hw dle (by omega) (fun yes h4 M4 r4 rw4 => ⟨_, rfl, fun q => absurd q (by decide), fun _ => ?_⟩) (fun no h4 M4 r4 => ⟨_, rfl, fun _ => ?_, fun q => absurd rfl q⟩)⟩⟩
      · obtain ⟨pu4, mc4⟩ := M4.1.2
        refine ⟨rfl, mc4.1.1.1, mc4.1.1.1, ?_⟩
        intro u16
        have e16 : ax_i u16 77 50 = nI (sNn (fun c => if rB (DD k) (N 4 w) (C 4 w) (dN (C 4 w) (N 4 w)) 0 (dpu (DD k)) c then 1 else 0) (i + 1)) := by
          show ax_i (ax_pi h4 77 50 (ax_i h4 77 50 + 1)) 77 50 = nI (sNn _ i + (if rB (DD k) (N 4 w) (C 4 w) (dN (C 4 w) (N 4 w)) 0 (dpu (DD k)) i = true then 1 else 0))
          rw [ai_pi, if_pos ⟨rfl, rfl⟩, (fr h4 r4).1, e50, yes, if_pos rfl, nI_succ]
        have k110 : ∀ f j : Nat, j + f = dN (C 4 w) (N 4 w) → ∀ h5, cmS h h5 k (DD k) w (dN (C 4 w) (N 4 w)) → ax_i h5 77 50 = nI (sNn (fun c => if rB (DD k) (N 4 w) (C 4 w) (dN (C 4 w) (N 4 w)) 0 (dpu (DD k)) c then 1 else 0) (i + 1)) → (∀ t, t < dN (C 4 w) (N 4 w) → ax_i h5 99 t = nI (rF (dH (DD k)) (dN (C 4 w) (N 4 w)) 0 (fun _ => 0) i t)) → (∀ t, t < dN (C 4 w) (N 4 w) → ax_i h5 98 t = nI (orN (fun c => if rB (DD k) (N 4 w) (C 4 w) (dN (C 4 w) (N 4 w)) 0 (dpu (DD k)) c then 2 ^ rF (dH (DD k)) (dN (C 4 w) (N 4 w)) 0 (fun _ => 0) c t else 0) (if t < j then i + 1 else i))) → A (110, [some (.ref 77), some (.int (nI (dH (DD k) ^ dN (C 4 w) (N 4 w)))), some (.int (nI i)), some (.int (nI j))], [], h5, 0, 0) := by
          intro f
          induction f with
          | zero =>
            intro j hj h5 M5 c50 c99 c98
            obtain ⟨pu5, mc5⟩ := M5.1.2
            refine vX10_findFits_110 hA ⟨mc5.1.1.1, fun _ => ?_, fun q => ?_⟩
            · rw [← nI_succ]
              exact ih (i + 1) (by omega) h5 ⟨M5, c50, fun t ht => by rw [c98 t ht, if_pos (by omega)]⟩ _
            · rw [M5.2.2] at q; exact absurd (nI_le (by omega) (by omega)) q
          | succ f ihf =>
            intro j hj h5 M5 c50 c99 c98
            obtain ⟨pu5, mc5⟩ := M5.1.2
            obtain ⟨e1, e2⟩ := mo_mb mc5.1.1
            obtain ⟨f1, f2⟩ := mo_rw mc5.1.1
            have s11 : (ax_s h5 (77 + 21)).1 = 11 := by rw [e2]
            have v3 : vp_in (nI j) (ax_s h5 (77 + 21)).2 := by rw [e2]; exact vp_in_nI (by omega) (by decide)
            refine vX10_findFits_110 hA ⟨mc5.1.1.1, fun q => ?_, fun _ => ⟨mc5.1.1.1, _, e1, ⟨rfl, rfl⟩, s11, v3, mc5.1.1.1, _, f1, by rw [f2], by rw [f2]; exact vp_in_nI (by omega) (by decide), ?_⟩⟩
            · rw [M5.2.2] at q; exact absurd q (nI_ge (by omega) (by omega))
            · intro z19
              have rl := rF_lt (H := dH (DD k)) (by omega) (t := j) (dN (C 4 w) (N 4 w)) 0 (fun _ => 0) i (fun q => absurd q (Nat.not_lt_zero j)) (by omega)
              have ez : z19 = nI (orN (fun c => if rB (DD k) (N 4 w) (C 4 w) (dN (C 4 w) (N 4 w)) 0 (dpu (DD k)) c then 2 ^ rF (dH (DD k)) (dN (C 4 w) (N 4 w)) 0 (fun _ => 0) c j else 0) (i + 1)) := by
                show ax_i h5 98 (nI j).toNatClampNeg ||| (1 : Int32) <<< (ax_i h5 99 (nI j).toNatClampNeg &&& 31) = nI (orN _ i ||| (if rB (DD k) (N 4 w) (C 4 w) (dN (C 4 w) (N 4 w)) 0 (dpu (DD k)) i = true then 2 ^ rF (dH (DD k)) (dN (C 4 w) (N 4 w)) 0 (fun _ => 0) i j else 0))
                rw [nI_clamp (by omega), c98 j (by omega), if_neg (by omega), c99 j (by omega), sh_or (by omega), yes, if_pos rfl]
              refine ⟨s11, v3, ?_⟩
              intro u20
              rw [← nI_succ]
              refine ihf (j + 1) (by omega) u20 (cmS_a M5 (Or.inl rfl)) ?_ (fun t ht => ?_) (fun t ht => ?_)
              · show ax_i (ax_pi h5 98 _ _) 77 50 = _
                rw [ai_pi, if_neg (by omega)]; exact c50
              · show ax_i (ax_pi h5 98 _ _) 99 t = _
                rw [ai_pi, if_neg (by omega)]; exact c99 t ht
              · show ax_i (ax_pi h5 98 (nI j).toNatClampNeg z19) 98 t = _
                rw [nI_clamp (by omega), ai_pi]
                by_cases e : t = j
                · rw [if_pos ⟨rfl, e⟩, ez, if_pos (by omega), e]
                · rw [if_neg (fun w => e w.2), c98 t ht]
                  by_cases e2 : t < j
                  · rw [if_pos e2, if_pos (by omega)]
                  · rw [if_neg e2, if_neg (by omega)]
        refine k110 (dN (C 4 w) (N 4 w)) 0 (by omega) u16 (cmS_f M4 rfl) e16 (fun t ht => ?_) (fun t ht => ?_)
        · show ax_i (ax_pi h4 77 50 _) 99 t = _
          rw [ai_pi, if_neg (by omega)]; exact rw4 t ht
        · show ax_i (ax_pi h4 77 50 _) 98 t = _
          rw [ai_pi, if_neg (by omega), (fr h4 r4).2, if_neg (by omega)]; exact e98 t ht
      · rw [← nI_succ]
        refine ih (i + 1) (by omega) h4 ⟨M4, ?_, fun t ht => ?_⟩ _
        · rw [(fr h4 r4).1, e50]
          show _ = nI (sNn _ i + (if rB (DD k) (N 4 w) (C 4 w) (dN (C 4 w) (N 4 w)) 0 (dpu (DD k)) i = true then 1 else 0))
          rw [no, if_neg Bool.false_ne_true, Nat.add_zero]
        · rw [(fr h4 r4).2, e98 t ht]
          show _ = nI (orN _ i ||| (if rB (DD k) (N 4 w) (C 4 w) (dN (C 4 w) (N 4 w)) 0 (dpu (DD k)) i = true then _ else 0))
          rw [no, if_neg Bool.false_ne_true, Nat.or_zero]
  have k55 : ∀ m i : Nat, i + m = dN (C 4 w) (N 4 w) → ∀ h3, cmS h h3 k (DD k) w (dN (C 4 w) (N 4 w)) → ax_i h3 77 50 = nI 0 → (∀ t, t < i → ax_i h3 98 t = nI 0) → ∀ o3 : Option Value, A (55, [some (.ref 77), some (.int (nI (dH (DD k) ^ i))), some (.int (nI i)), o3], [], h3, 0, 0) := by
    intro m
    induction m with
    | zero =>
      intro i hi h3 M3 c50 c98 o3
      obtain ⟨pu, mc⟩ := M3.1.2
      have e : i = dN (C 4 w) (N 4 w) := by omega
      rw [e] at c98 ⊢
      refine vX10_findFits_55 hA ⟨mc.1.1.1, fun _ => k85 (dH (DD k) ^ dN (C 4 w) (N 4 w)) 0 (by omega) h3 ⟨M3, c50, c98⟩ _, fun q => ?_⟩
      rw [M3.2.2] at q; exact absurd (nI_le (by omega) (by omega)) q
    | succ m ih =>
      intro i hi h3 M3 c50 c98 o3
      obtain ⟨pu, mc⟩ := M3.1.2
      obtain ⟨e1, e2⟩ := mo_mb mc.1.1
      refine vX10_findFits_55 hA ⟨mc.1.1.1, fun q => ?_, fun _ => ⟨mc.1.1.1, _, e1, by rw [e2], by rw [e2]; exact vp_in_nI (by omega) (by decide), ?_⟩⟩
      · rw [M3.2.2] at q; exact absurd q (nI_ge (by omega) (by omega))
      · intro u12
        have M12 : cmS h u12 k (DD k) w (dN (C 4 w) (N 4 w)) := cmS_a M3 (Or.inl rfl)
        obtain ⟨pu12, mc12⟩ := M12.1.2
        refine ⟨mc.1.1.1, ?_⟩
        rw [show ax_i u12 77 26 = nI (dH (DD k)) from mc12.1.2.2.2.2.1, pk_mul (dH (DD k) ^ i) (dH (DD k)), ← nI_succ, ← Nat.pow_succ]
        refine ih (i + 1) (by omega) u12 M12 ?_ (fun t ht => ?_) _
        · show ax_i (ax_pi h3 98 _ _) 77 50 = _
          rw [ai_pi, if_neg (by omega)]; exact c50
        · show ax_i (ax_pi h3 98 (nI i).toNatClampNeg 0) 98 t = _
          rw [nI_clamp (by omega), ai_pi]
          by_cases e : t = i
          · rw [if_pos ⟨rfl, e⟩]; rfl
          · rw [if_neg (fun w => e w.2)]; exact c98 t (by omega)
  have k7 : ∀ m i : Nat, i + m = N 4 w → ∀ h3, cmS h h3 k (DD k) w (dN (C 4 w) i) → ∀ o2 o3 : Option Value, A (7, [some (.ref 77), some (.int (nI i)), o2, o3], [], h3, 0, 0) := by
    intro m
    induction m with
    | zero =>
      intro i hi h3 M3 o2 o3
      obtain ⟨e1, e2, e3, e4⟩ := si_at a M3 hw
      have s0 := (tc_md M3.1.1 a).2.1.1
      have e : i = N 4 w := by omega
      rw [e] at M3
      refine vX10_findFits_7 hA ⟨s0, _, e1, s0, e2, e3, fun _ => ⟨s0, ?_⟩, fun q => ?_⟩
      · intro u3
        have t := k55 (dN (C 4 w) (N 4 w)) 0 (by omega) u3 (cmS_f M3 rfl) (by show ax_i (ax_pi h3 77 50 0) 77 50 = nI 0; rw [ai_pi, if_pos ⟨rfl, rfl⟩]; rfl) (fun t ht => absurd ht (Nat.not_lt_zero t))
        exact t _
      · rw [e4] at q; exact absurd (nI_le (by omega) (by omega)) q
    | succ m ih =>
      intro i hi h3 M3 o2 o3
      have c := tc_md M3.1.1 a
      obtain ⟨e1, e2, e3, e4⟩ := si_at a M3 hw
      have s0 := c.2.1.1
      obtain ⟨α, β, a1, a4, b6, ea, eb, -⟩ := lo.2 i (by omega)
      have di := dN_le lo i (by omega)
      have un : dN (C 4 w) (i + 1) = if dN (C 4 w) i < α then α else dN (C 4 w) i := by
        show (if dN (C 4 w) i < (C 4 w i 0).toNatClampNeg then (C 4 w i 0).toNatClampNeg else dN (C 4 w) i) = _
        rw [ea, nI_clamp (by omega)]
      refine vX10_findFits_7 hA ⟨s0, _, e1, s0, e2, e3, fun q => ?_, fun _ => ⟨s0, s0, c_msightOf (j := 0) c.2.1 c.2.2.2.1 c.2.2.2.2 hw M3.2.1 (by omega) (by decide) ⟨_, rfl, eX10_greater ⟨fun q1 => ⟨_, rfl, s0, ?_⟩, fun q1 => ⟨_, rfl, s0, ?_⟩⟩⟩⟩⟩
      · rw [e4] at q; exact absurd q (nI_ge (by omega) (by omega))
      · intro u10
        rw [← nI_succ]
        refine ih (i + 1) (by omega) u10 ?_ _ _
        show cmS h (ax_pi h3 77 51 (C 4 w i 0)) k (DD k) w (dN (C 4 w) (i + 1))
        rw [M3.2.2, ea, nI_leI (by omega) (by omega)] at q1
        have : dN (C 4 w) (i + 1) = α := by
          rw [un]
          by_cases v : dN (C 4 w) i < α
          · rw [if_pos v]
          · rw [if_neg v]; omega
        rw [ea, this]; exact cmS_51 M3
      · intro u10
        rw [← nI_succ]
        refine ih (i + 1) (by omega) u10 ?_ _ _
        show cmS h (ax_pi h3 77 51 (ax_i h3 77 51)) k (DD k) w (dN (C 4 w) (i + 1))
        rw [M3.2.2, ea, nI_leI (by omega) (by omega)] at q1
        rw [M3.2.2, un, if_neg (by omega)]; exact cmS_51 M3
  exact k7 (N 4 w) 0 (by omega) u1 M1 _ _
end
theorem q10_fits {x1 x2 x3 : Int32} (a : tc h z DD N C) (hq : ∀ h', ax_same md_F h h' → Ret (some (.int (qw (z 0) (z 4) x1 x2 (-2) (s_fits DD N C x3)))) h') : mX10_fits g [.ref 77, .int x1, .int x2, .int x3] h Ret := by
  have z0 := a.2.2.2.2.1 0 (by decide)
  have z4 := a.2.2.2.2.1 4 (by decide)
  obtain ⟨a1, T1, hs1⟩ := q_code (v := 0) a.2.1 a.2.2.2.1
  obtain ⟨a2, T2, hs2⟩ := mf_keep (k := 49) (v := x2) a1 T1
  refine eX10_fits ⟨a.2.1.1, ?_⟩
  intro u1
  refine ⟨a.2.1.1, c_mhasSights a1 T1 a.2.2.2.2 ⟨_, rfl, fun q => ?_, fun q => ⟨a2.1, q_handR a2 T2 a.2.2.2.2 (fun e => ⟨_, rfl, fun q => absurd rfl q, fun _ => ?_⟩) (fun k hk ex ok h' hs hm => ⟨_, rfl, fun _ => ⟨hm.1.1.1.1, ?_⟩, fun q => absurd q (by decide)⟩)⟩⟩⟩
  · have hv := hq _ (sm_tr hs1 hs2); rw [qw_n2 (b2i_0.mp q)] at hv; exact hv
  · have hv := hq _ (sm_tr hs1 hs2); rw [qw_n1 e] at hv; exact hv
  obtain ⟨w, hw, ew⟩ := sp_in_ix (by omega) (b2i_n0.mp q)
  have e49 : ax_i h' 77 49 = nI w := by rw [(hs.2 49 (by unfold hd_J; decide)).1, ← ew]; exact ai_eq
  have H12 := ok.1.2
  have H2 := ok.1.1
  have lo := a.2.2.2.2.2.2 4 w (by decide) (by decide) hw
  have dle := dN_le lo (N 4 w) (Nat.le_refl _)
  refine c_findFitsE a ok ⟨⟨sm_tr hs1 (sm_tr hs2 (hd_md hs)), _, hm.1⟩, e49⟩ hw (fun h2 R => ⟨rfl, ?_⟩)
  obtain ⟨M, e50, e98⟩ := R
  rw [cnt_eq (by omega)] at e50
  obtain ⟨pu, mc⟩ := M.1.2
  have s0 := mc.1.1.1
  have hv := hq h2 M.1.1
  rw [qw_y z0 z4 hk ex hw ew] at hv
  unfold s_fits at hv
  obtain ⟨e1, e2⟩ := mo_mb mc.1.1
  have ix : ∀ (b : Nat), b ≤ 50 → nI (b + 1) ≤ x3 → x3 ≤ nI (b + dN (C 4 w) (N 4 w)) → nI (b + 1) ≤ x3 ∧ x3 < nI (b + 1 + dN (C 4 w) (N 4 w)) := fun b hb y1 y2 => ⟨y1, by
    rw [i_le, nI_toInt (by omega)] at y2
    rw [i_lt, nI_toInt (by omega)]; omega⟩
  have xi : ∀ (b : Nat), b ≤ 50 → ¬ (nI (b + 1) ≤ x3 ∧ x3 ≤ nI (b + dN (C 4 w) (N 4 w))) → ¬ (nI (b + 1) ≤ x3 ∧ x3 < nI (b + 1 + dN (C 4 w) (N 4 w))) := fun b hb n w => n ⟨w.1, by
    have := w.2
    rw [i_lt, nI_toInt (by omega)] at this
    rw [i_le, nI_toInt (by omega)]; omega⟩
  refine ⟨s0, ?_⟩
  rw [M.2.2, show (9 : Int32) + nI (dN (C 4 w) (N 4 w)) = nI (9 + dN (C 4 w) (N 4 w)) from ni_c 9 _]
  refine c_min ⟨_, rfl, fun q1 => ⟨fun n0 => ⟨s0, ?_⟩, fun e0 => ⟨s0, ?_⟩⟩, fun q1 => ?_⟩
  · have n10 : ¬ (10 ≤ x3 ∧ x3 < nI (10 + dN (C 4 w) (N 4 w))) := xi 9 (by decide) (of_decide_eq_false (b2i_0.mp q1))
    rw [M.2.2, show (19 : Int32) + nI (dN (C 4 w) (N 4 w)) = nI (19 + dN (C 4 w) (N 4 w)) from ni_c 19 _]
    refine c_min ⟨_, rfl, fun q2 => ?_, fun q2 => ?_⟩
    · have n20 : ¬ (20 ≤ x3 ∧ x3 < nI (20 + dN (C 4 w) (N 4 w))) := xi 19 (by decide) (of_decide_eq_false (b2i_0.mp q2))
      rw [if_neg n0, if_neg n10, if_neg n20] at hv; exact hv
    · have y := of_decide_eq_true (b2i_n0.mp q2)
      have y20 : 20 ≤ x3 ∧ x3 < nI (20 + dN (C 4 w) (N 4 w)) := ix 19 (by decide) y.1 y.2
      rw [if_neg n0, if_neg n10, if_pos y20] at hv
      obtain ⟨i, hi, ei⟩ := rng_ix (b := 20) (by decide) dle y20.1 y20.2
      have es : x3 - 20 = nI i := by rw [ei]; exact ni_sb
      rw [es, nI_clamp (by omega)] at hv
      have t := e98 i hi
      rw [bF_eq (by omega)] at t
      refine ⟨s0, _, e1, by rw [e2], ?_, ?_⟩
      · rw [es, e2]; exact vp_in_nI (by omega) (by decide)
      · rw [es, nI_clamp (by omega), show ax_i h2 (77 + 21) i = _ from t]; exact hv
  · rw [if_pos e0] at hv
    rw [e50]; exact hv
  · have y := of_decide_eq_true (b2i_n0.mp q1)
    have y10 : 10 ≤ x3 ∧ x3 < nI (10 + dN (C 4 w) (N 4 w)) := ix 9 (by decide) y.1 y.2
    have n0 : ¬ x3 = 0 := fun e => by
      have := y10.1
      rw [e, i_le, show (10 : Int32).toInt = 10 from rfl, show (0 : Int32).toInt = 0 from rfl] at this
      omega
    rw [if_neg n0, if_pos y10] at hv
    obtain ⟨i, hi, ei⟩ := rng_ix (b := 10) (by decide) dle y10.1 y10.2
    have es : x3 - 10 = nI i := by rw [ei]; exact ni_sb
    rw [es, nI_clamp (by omega)] at hv
    have t := e98 i hi
    rw [bF_eq (by omega)] at t
    have bl := bF_lt (D := DD k) (n := N 4 w) (C1 := C 4 w) (t := i) (dN (C 4 w) (N 4 w)) 0 (dpu (DD k)) (fun _ => 0) (fun q => absurd q (Nat.not_lt_zero i)) (by omega)
    refine ⟨s0, _, e1, by rw [e2], ?_, s0, ?_⟩
    · rw [es, e2]; exact vp_in_nI (by omega) (by decide)
    · rw [es, nI_clamp (by omega), show ax_i h2 (77 + 21) i = _ from t]
      exact c_monlyOneE M (Nat.lt_of_lt_of_le bl (Nat.pow_le_pow_right (by decide) H12)) ⟨_, rfl, hv⟩
theorem g_fits (a : IV h S Im tp) (b : 103 ≤ h.1 ∧ h.1 ≤ B) (x1 x2 x3 : Int32) : prI (mX9_fits g) (mX10_fits g) [.ref 0, .int x1, .int x2, .int x3] [.ref 77, .int x1, .int x2, .int x3] h (inv B) := pr_q _ a b (fun Ret k => q9_fits (iv_tc a) a.1.1.2.2.2.2.1 k) (fun h1 Ret a1 k => q10_fits (iv_tc a1) k)
end
end

