section
variable {g : ax_G} {Ret : Option Value → ax_H → Prop} {h : ax_H} {z : Nat → Nat} {DD : Nat → rD} {N : Nat → Nat → Nat} {C : Nat → Nat → Nat → Nat → Int32} {S : sT} {Im : Nat → Option sT} {tp : Nat → Nat} {B : Nat}
/-! the planner -/
def chF : Nat → Prop := fun a => a = 59 ∨ a = 61 ∨ a = 62 ∨ a = 63
def chR (h h' : ax_H) : Prop := ax_same chF h h' ∧ ∀ j, j ≠ 4 → ax_l h' 59 j = ax_l h 59 j
theorem chR_rf : chR h h := ⟨sm_rf, fun _ _ => rfl⟩
theorem chR_tr {h1 h2 : ax_H} (a : chR h h1) (b : chR h1 h2) : chR h h2 := ⟨sm_tr a.1 b.1, fun j hj => (b.2 j hj).trans (a.2 j hj)⟩
theorem chR_l {a k : Nat} {v : Int64} (ha : a = 62 ∨ a = 63) : chR h (ax_pl h a k v) := ⟨sm_pl (by unfold chF; omega), fun j _ => by rw [al_pl, if_neg (by omega)]⟩
theorem chR_4 {v : Int64} : chR h (ax_pl h 59 4 v) := ⟨sm_pl (Or.inl rfl), fun j hj => by rw [al_pl, if_neg (by omega)]⟩
theorem chR_61 {k : Nat} {v : Int32} : chR h (ax_pi h 61 k v) := ⟨sm_pi (Or.inr (Or.inl rfl)), fun _ _ => rfl⟩
theorem sh_1 : ∀ n, n ≤ 6 → (1 : Int32) <<< (nI n &&& 31) = nI (2 ^ n) := by decide +kernel
theorem xo_1 : ∀ s, s < 64 → ∀ i, i < 6 → (nI s ^^^ ((1 : Int32) <<< (nI i &&& 31))) = nI (s ^^^ 2 ^ i) ∧ s ^^^ 2 ^ i < 64 := by decide +kernel
theorem shr24 (x : Int64) : bL 549755813888 (x >>> ((24 : Int32).toInt64 &&& 63)) := by
  have e : (x >>> ((24 : Int32).toInt64 &&& 63)).toInt = x.toInt >>> 24 := by
    show (x >>> ((24 : Int32).toInt64 &&& 63)).toBitVec.toInt = _
    rw [Int64.toBitVec_shiftRight, show (((24 : Int32).toInt64 &&& 63).toBitVec.smod 64) = 24#64 from by decide +kernel]
    show (x.toBitVec.sshiftRight 24).toInt = _
    rw [BitVec.toInt_sshiftRight]; rfl
  have b := l_bd x
  unfold bL
  rw [e, Int.shiftRight_eq_div_pow]
  omega
theorem c_keep4 {x : Int64} (pl : pl_st h 59) (hq : ∀ h', chR h h' → bL 549755813888 (ax_l h' 59 4) → Ret none h') : mX4_keep g [.ref 59, .long x] h Ret := by
  refine uX4_keep (fun A hA => vX4_keep_0 hA ?_)
  intro z1
  refine ⟨pl.1, ?_⟩
  intro u2
  refine ⟨pl.1, ?_⟩
  have key : ∀ n i : Nat, i + n = 6 → ∀ hh, chR h hh → bL 549755813888 (ax_l hh 59 4) → ∀ (x3 : Int64) (o1 o2 : Option Value), A (27, [some (.ref 59), o1, o2, some (.long x3), none, some (.int (nI i))], [], hh, 0, 0) := by
    intro n
    induction n with
    | zero =>
      intro i hi hh r b x3 o1 o2
      exact vX4_keep_27 hA ⟨fun _ => hq hh r b, fun q => absurd (nI_le (a := 6) (b := i) (by omega) (by omega)) q⟩
    | succ n ih =>
      intro i hi hh r b x3 o1 o2
      have p := pl_st_same r.1 pl
      refine vX4_keep_27 hA ⟨fun q => absurd q (nI_ge (a := i) (b := 6) (by omega) (by decide)), fun _ => ⟨p.1, _, p.2.1.2.1, eX4_rowShift ⟨_, rfl, by rw [p.2.2.2.1], by rw [p.2.2.2.1]; exact vp_in_nI (by omega) (by decide), ?_⟩⟩⟩
      intro u7
      rw [← nI_succ]
      exact ih (i + 1) (by omega) u7 (chR_tr r chR_61) b _ _ _
  exact key 6 0 (by decide) u2 chR_4 (by show bL _ (ax_l (ax_pl h 59 4 z1) 59 4); rw [al_pl, if_pos ⟨rfl, rfl⟩]; exact shr24 _) _ _ _
theorem c_bestOf {s n : Nat} (pl : pl_st h 59) (hs : s < 64) (hn : n ≤ 6) (hq : ∀ v : Int64, Ret (some (.long v)) h) : mX4_bestOf g [.ref 59, .int (nI s), .int (nI n)] h Ret := by
  have v64 : ∀ {a : Nat}, a < 64 → vp_in (nI a) (ax_s h (59 + 3)).2 := fun ha => by rw [pl.2.2.2.2.1]; exact vp_in_nI ha (by decide)
  have s62 : (ax_s h (59 + 3)).1 = 14 := by rw [pl.2.2.2.2.1]
  have s63 : (ax_s h (59 + 4)).1 = 14 := by rw [pl.2.2.2.2.2.1]
  refine uX4_bestOf (fun A hA => vX4_bestOf_0 hA ⟨pl.1, _, pl.2.1.2.2.1, s62, v64 hs, ?_⟩)
  have key : ∀ m i : Nat, i + m = n → ∀ (x3 : Int64) (o6 : Option Value), A (10, [some (.ref 59), some (.int (nI s)), some (.int (nI n)), some (.long x3), none, some (.int (nI i)), o6], [], h, 0, 0) := by
    intro m
    induction m with
    | zero =>
      intro i hi x3 o6
      exact vX4_bestOf_10 hA ⟨fun _ => hq _, fun q => absurd (nI_le (by omega) (by omega)) q⟩
    | succ m ih =>
      intro i hi x3 o6
      have v6 : vp_in (nI i) (ax_s h (59 + 4)).2 := by rw [pl.2.2.2.2.2.1]; exact vp_in_nI (by omega) (by decide)
      have vx : vp_in (nI s ^^^ ((1 : Int32) <<< (nI i &&& 31))) (ax_s h (59 + 3)).2 := by rw [(xo_1 s hs i (by omega)).1]; exact v64 (xo_1 s hs i (by omega)).2
      have K : ∀ (x3 : Int64) (o6 : Option Value), A (10, [some (.ref 59), some (.int (nI s)), some (.int (nI n)), some (.long x3), none, some (.int (nI i + 1)), o6], [], h, 0, 0) := fun x3 o6 => by rw [← nI_succ]; exact ih (i + 1) (by omega) _ _
      exact vX4_bestOf_10 hA ⟨fun q => absurd q (nI_ge (by omega) (by omega)), fun _ => ⟨fun _ => K _ _, fun _ => ⟨pl.1, _, pl.2.1.2.2.2.1, s63, v6, fun _ => K _ _, fun _ => ⟨pl.1, _, pl.2.1.2.2.1, s62, vx, fun _ => K _ _, fun _ => ⟨pl.1, _, pl.2.1.2.2.1, s62, vx, pl.1, _, pl.2.1.2.2.2.1, s63, v6, K _ _⟩⟩⟩⟩⟩
  exact key n 0 (by omega) _ _
section
variable {r l n o H2 : Nat} {D : rD} {C1 : Nat → Nat → Int32} {w : Nat → Int32} {t : Int32}
theorem c_scoreOf {q : Nat} {x y : Int32} (rc : rc_at h r D) (od : od_at h o H2 w t) (hq0 : q < 12) (hq : ∀ v : Int64, Ret (some (.long v)) h) : mX4_scoreOf g [.ref r, .ref o, .int x, .int y, .int (nI q)] h Ret := eX4_scoreOf ⟨rc.1.1, c_worthOf rc ⟨_, rfl, od.1.1, rc.1.1, c_extraOf rc ⟨_, rfl, od.1.1, _, od.1.2.1, by rw [od.1.2.2], by rw [od.1.2.2]; exact vp_in_nI hq0 (by decide), eX4_rowShift ⟨_, rfl, hq _⟩⟩⟩⟩
theorem c_choose {x : Int32} (pl : pl_st h 59) (rc : rc_at h r D) (hr : r + 6 ≤ 59) (od : od_at h o H2 w t) (ho : o = 55 ∨ o = 64) (L : li_at h l 2 n C1) (hl : l + 2 ≤ 59) (h0 : ∀ h', chR h h' → Ret (some (.int 0)) h') (h1 : ∀ h', chR h h' → bL 549755813888 (ax_l h' 59 4) → Ret (some (.int 1)) h') : mX4_choose g [.ref 59, .ref r, .ref o, .ref l, .int x] h Ret := by
  have n6 : n ≤ 6 := L.2.1
  have H12 := rc.2.1.1
  have p2 : ∀ m, m ≤ 6 → 1 ≤ 2 ^ m ∧ 2 ^ m ≤ 64 := by decide
  have pn := p2 n n6
  have kp : ∀ hh, chR h hh → pl_st hh 59 ∧ rc_at hh r D ∧ od_at hh o H2 w t ∧ li_at hh l 2 n C1 := fun hh c => ⟨pl_st_same c.1 pl, rc_at_same c.1 (fun j hj q => by unfold chF at q; omega) rc, od_at_same c.1 (by refine ⟨?_, ?_⟩ <;> (intro q; unfold chF at q; omega)) od, li_at_same c.1 (by refine ⟨?_, ?_⟩ <;> (intro q; unfold chF at q; omega)) L⟩
  refine uX4_choose (fun A hA => vX4_choose_0 hA ⟨L.1.1, ?_⟩)
  rw [L.2.2.1, if_neg (show ¬ (6 : Int32) < nI n from nI_nlt (a := 6) (b := n) n6 (by decide)), sh_1 n n6]
  have ea : nI (2 ^ n) - 1 = nI (2 ^ n - 1) := by
    obtain ⟨j, hj⟩ : ∃ j, 2 ^ n = j + 1 := ⟨2 ^ n - 1, by omega⟩
    rw [hj]; exact nI_pred j
  intro z1
  rw [show z1 - 1 = nI (2 ^ n - 1) from ea]
  have k55 : ∀ m i : Nat, i + m = dH D → ∀ hh, chR h hh → ∀ o8 o9 : Option Value, A (55, [some (.ref 59), some (.ref r), some (.ref o), some (.ref l), some (.int x), some (.int (nI n)), some (.int (nI (2 ^ n - 1))), some (.int (nI i)), o8, o9], [], hh, 0, 0) := by
    intro m
    induction m with
    | zero =>
      intro i hi hh c o8 o9
      obtain ⟨p, rc, od, L⟩ := kp hh c
      have s62 : (ax_s hh (59 + 3)).1 = 14 := by rw [p.2.2.2.2.1]
      have v64 : vp_in (nI (2 ^ n - 1)) (ax_s hh (59 + 3)).2 := by rw [p.2.2.2.2.1]; exact vp_in_nI (by omega) (by decide)
      refine vX4_choose_55 hA ⟨rc.1.1, fun _ => ⟨p.1, _, p.2.1.2.2.1, s62, v64, fun _ => ⟨p.1, _, p.2.1.2.2.1, s62, v64, p.1, c_keep4 p (fun h2 c2 b2 => ⟨rfl, Or.inr rfl, h1 h2 (chR_tr c c2) b2⟩)⟩, fun _ => ⟨Or.inl rfl, h0 hh c⟩⟩, fun q => ?_⟩
      rw [rc.2.2.1.1] at q; exact absurd (nI_le (by omega) (by omega)) q
    | succ m ih =>
      intro i hi hh c o8 o9
      obtain ⟨p, rc, od, L⟩ := kp hh c
      have k154 : ∀ f h3, f ≤ 2 ^ n - 1 → chR h h3 → ∀ o9 : Option Value, A (154, [some (.ref 59), some (.ref r), some (.ref o), some (.ref l), some (.int x), some (.int (nI n)), some (.int (nI (2 ^ n - 1))), some (.int (nI i)), some (.int (nI f)), o9], [], h3, 0, 0) := by
        intro f
        induction f with
        | zero =>
          intro h3 hf c3 o9
          refine vX4_choose_154 hA ⟨fun _ => ?_, fun q => absurd (by rw [nI_0]; decide) q⟩
          rw [← nI_succ]; exact ih (i + 1) (by omega) h3 c3 _ _
        | succ f ihf =>
          intro h3 hf c3 o9
          have p3 := (kp h3 c3).1
          refine vX4_choose_154 hA ⟨fun q => absurd q (nI_nle (by omega) (by omega)), fun _ => ⟨p3.1, _, p3.2.1.2.2.1, p3.1, c_bestOf p3 (by omega) n6 (fun v => ⟨_, rfl, by rw [p3.2.2.2.2.1], by rw [p3.2.2.2.2.1]; exact vp_in_nI (by omega) (by decide), ?_⟩)⟩⟩
          intro u56
          rw [show nI (f + 1) + (-1) = nI f from by rw [nI_succ, Int32.add_assoc, show (1 : Int32) + (-1) = 0 from by decide, Int32.add_zero]]
          exact ihf u56 (by omega) (chR_tr c3 (chR_l (Or.inl rfl))) _
      have k67 : ∀ f j : Nat, j + f = n → ∀ h3, chR h h3 → ∀ o9 : Option Value, A (67, [some (.ref 59), some (.ref r), some (.ref o), some (.ref l), some (.int x), some (.int (nI n)), some (.int (nI (2 ^ n - 1))), some (.int (nI i)), some (.int (nI j)), o9], [], h3, 0, 0) := by
        intro f
        induction f with
        | zero =>
          intro j hj h3 c3 o9
          exact vX4_choose_67 hA ⟨fun _ => k154 _ h3 (Nat.le_refl _) c3 _, fun q => absurd (nI_le (by omega) (by omega)) q⟩
        | succ f ihf =>
          intro j hj h3 c3 o9
          obtain ⟨p3, rc3, od3, L3⟩ := kp h3 c3
          have s63 : (ax_s h3 (59 + 4)).1 = 14 := by rw [p3.2.2.2.2.2.1]
          have v6 : vp_in (nI j) (ax_s h3 (59 + 4)).2 := by rw [p3.2.2.2.2.2.1]; exact vp_in_nI (by omega) (by decide)
          have K : ∀ (v : Int64) (o9 : Option Value), A (67, [some (.ref 59), some (.ref r), some (.ref o), some (.ref l), some (.int x), some (.int (nI n)), some (.int (nI (2 ^ n - 1))), some (.int (nI i)), some (.int (nI j + 1)), o9], [], ax_pl h3 63 (nI j).toNatClampNeg v, 0, 0) := fun v o9 => by rw [← nI_succ]; exact ihf (j + 1) (by omega) _ (chR_tr c3 (chR_l (Or.inr rfl))) _
          refine vX4_choose_67 hA ⟨fun q => absurd q (nI_ge (by omega) (by omega)), fun _ => ⟨fun _ => ⟨p3.1, _, p3.2.1.2.2.2.1, fun _ => ⟨s63, v6, K _ _⟩, fun _ => ⟨L3.1.1, c_lcell (by decide) (by decide) L3 ⟨_, rfl, c_scoreOf rc3 od3 (by omega) (fun v => ⟨_, rfl, s63, v6, K _ _⟩)⟩⟩⟩, fun _ => ⟨L3.1.1, c_lcell (by decide) (by decide) L3 ⟨_, rfl, fun _ => ⟨p3.1, _, p3.2.1.2.2.2.1, fun _ => ⟨s63, v6, K _ _⟩, fun _ => ⟨L3.1.1, c_lcell (by decide) (by decide) L3 ⟨_, rfl, c_scoreOf rc3 od3 (by omega) (fun v => ⟨_, rfl, s63, v6, K _ _⟩)⟩⟩⟩, fun _ => ⟨L3.1.1, c_lcell (by decide) (by decide) L3 ⟨_, rfl, fun _ => ⟨p3.1, _, p3.2.1.2.2.2.1, fun _ => ⟨s63, v6, K _ _⟩, fun _ => ⟨L3.1.1, c_lcell (by decide) (by decide) L3 ⟨_, rfl, c_scoreOf rc3 od3 (by omega) (fun v => ⟨_, rfl, s63, v6, K _ _⟩)⟩⟩⟩, fun _ => ⟨p3.1, _, p3.2.1.2.2.2.1, fun _ => ⟨s63, v6, K _ _⟩, fun _ => ⟨L3.1.1, c_lcell (by decide) (by decide) L3 ⟨_, rfl, c_scoreOf rc3 od3 (by omega) (fun v => ⟨_, rfl, s63, v6, K _ _⟩)⟩⟩⟩⟩⟩⟩⟩⟩⟩
      refine vX4_choose_55 hA ⟨rc.1.1, fun q => ?_, fun _ => k67 n 0 (by omega) hh c _⟩
      rw [rc.2.2.1.1] at q; exact absurd q (nI_ge (by omega) (by omega))
  have k22 : ∀ f j : Nat, j + f = 2 ^ n → ∀ hh, chR h hh → ∀ o8 o9 : Option Value, A (22, [some (.ref 59), some (.ref r), some (.ref o), some (.ref l), some (.int x), some (.int (nI n)), some (.int (nI (2 ^ n - 1))), some (.int (nI j)), o8, o9], [], hh, 0, 0) := by
    intro f
    induction f with
    | zero =>
      intro j hj hh c o8 o9
      have p := (kp hh c).1
      refine vX4_choose_22 hA ⟨fun _ => ⟨p.1, _, p.2.1.2.2.1, by rw [p.2.2.2.2.1], by rw [p.2.2.2.2.1]; exact vp_in_nI (n := 0) (by decide) (by decide), ?_⟩, fun q => absurd (nI_lt (by omega) (by omega)) q⟩
      intro u3
      exact k55 (dH D) 0 (by omega) u3 (chR_tr c (chR_l (Or.inl rfl))) _ _
    | succ f ih =>
      intro j hj hh c o8 o9
      have p := (kp hh c).1
      refine vX4_choose_22 hA ⟨fun q => absurd q (nI_nlt (by omega) (by omega)), fun _ => ⟨p.1, _, p.2.1.2.2.1, by rw [p.2.2.2.2.1], by rw [p.2.2.2.2.1]; exact vp_in_nI (by omega) (by decide), ?_⟩⟩
      intro u5
      rw [← nI_succ]
      exact ih (j + 1) (by omega) u5 (chR_tr c (chR_l (Or.inl rfl))) _ _
  exact k22 (2 ^ n - 1) 1 (by omega) h chR_rf _ _
end
end
