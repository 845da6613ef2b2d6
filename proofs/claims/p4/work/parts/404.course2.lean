section
variable {g : ax_G} {Ret : Option Value → ax_H → Prop} {h : ax_H} {c P H : Nat} {hv : Nat → Int32} {vl : Nat → Nat → Int32}
/-- the first hour that brings most -/
def sp_bh (P H : Nat) (vl : Nat → Nat → Int32) (x : Int32) : Int32 := nI (bst (fun q => sp_br P H vl x (nI q)) (H - 1))
theorem c_bestHour {x : Int32} (hH1 : 1 ≤ H) (hC : co_at h c P H hv vl) (hq : Ret (some (.int (sp_bh P H vl x))) h) : mX0_bestHour g [.ref c, .int x] h Ret := by
  have hH := hC.2.1.2
  have s0 := hC.1.1
  have e3 := hC.2.2.2.1
  refine uX0_bestHour (fun A hA => vX0_bestHour_0 hA ⟨s0, c_brings hC ⟨_, rfl, ?_⟩⟩)
  have key : ∀ n i : Nat, ∀ o5 : Option Value, i + 1 + n = H → A (12, [some (.ref c), some (.int x), some (.int (nI (bst (fun q => sp_br P H vl x (nI q)) i))), some (.int (sp_br P H vl x (nI (bst (fun q => sp_br P H vl x (nI q)) i)))), some (.int (nI (i + 1))), o5], [], h, 0, 0) := by
    intro n
    induction n with
    | zero =>
      intro i o5 hi
      refine vX0_bestHour_12 hA ⟨s0, fun _ => ?_, fun q => ?_⟩
      · unfold sp_bh at hq; rw [show H - 1 = i by omega] at hq; exact hq
      · rw [e3] at q; exact absurd (nI_le (by omega) (by omega)) q
    | succ n ih =>
      intro i o5 hi
      refine vX0_bestHour_12 hA ⟨s0, fun q => ?_, fun _ => ⟨s0, c_brings hC ⟨_, rfl, fun q => ?_, fun q => ?_⟩⟩⟩
      · rw [e3] at q; exact absurd q (nI_ge (by omega) (by omega))
      · have := ih (i + 1) (some (.int (sp_br P H vl x (nI (i + 1))))) (by omega)
        rw [show bst (fun q => sp_br P H vl x (nI q)) (i + 1) = bst (fun q => sp_br P H vl x (nI q)) i from if_neg (nt_lt.mpr q)] at this
        rw [← nI_succ]
        exact this
      · have := ih (i + 1) (some (.int (sp_br P H vl x (nI (i + 1))))) (by omega)
        rw [show bst (fun q => sp_br P H vl x (nI q)) (i + 1) = i + 1 from if_pos (nt_le.mp q)] at this
        rw [← nI_succ]
        exact this
  exact key (H - 1) 0 _ (by omega)
/-- what a day is to bring, times all weights -/
def sp_we (P H : Nat) (vl : Nat → Nat → Int32) (w : Nat → Int32) (x : Int32) : Int64 := sumL (fun q => (w q).toInt64 * (sp_br P H vl x (nI q)).toInt64) H
theorem c_weighed {o H2 : Nat} {w : Nat → Int32} {t x : Int32} (hC : co_at h c P H hv vl) (hO : od_at h o H2 w t) (hH2 : H ≤ H2) (hq : Ret (some (.long (sp_we P H vl w x))) h) : mX0_weighed g [.ref c, .int x, .ref o] h Ret := by
  have hH := hC.2.1.2
  have s0 := hC.1.1
  have e3 := hC.2.2.2.1
  obtain ⟨⟨so, ro, sw⟩, hH3, -, -, ew⟩ := hO
  refine uX0_weighed (fun A hA => vX0_weighed_0 hA ?_)
  have key : ∀ n i : Nat, i + n = H → A (5, [some (.ref c), some (.int x), some (.ref o), some (.long (sumL (fun q => (w q).toInt64 * (sp_br P H vl x (nI q)).toInt64) i)), none, some (.int (nI i))], [], h, 0, 0) := by
    intro n
    induction n with
    | zero =>
      intro i hi
      refine vX0_weighed_5 hA ⟨s0, fun _ => ?_, fun q => ?_⟩
      · rw [show i = H by omega]; exact hq
      · rw [e3] at q; exact absurd (nI_le (by omega) (by omega)) q
    | succ n ih =>
      intro i hi
      refine vX0_weighed_5 hA ⟨s0, fun q => ?_, fun _ => ⟨so, _, ro, by rw [sw], by rw [sw]; exact vp_in_nI (by omega) (by decide), s0, c_brings hC ⟨_, rfl, ?_⟩⟩⟩
      · rw [e3] at q; exact absurd q (nI_ge (by omega) (by omega))
      · rw [nI_clamp (by omega), ew i (by omega), ← nI_succ]
        exact ih (i + 1) (by omega)
  exact key H 0 (by omega)
/-- how far two hours lie apart -/
def sp_ap (P H : Nat) (vl : Nat → Nat → Int32) (x y : Int32) : Int32 := sumN (fun p => iabs (sp_br P H vl (nI p) x - sp_br P H vl (nI p) y)) P
theorem c_apart {x y : Int32} (hC : co_at h c P H hv vl) (hq : Ret (some (.int (sp_ap P H vl x y))) h) : mX0_apart g [.ref c, .int x, .int y] h Ret := by
  have hP := hC.2.1.1
  have s0 := hC.1.1
  have e2 := hC.2.2.1
  refine uX0_apart (fun A hA => vX0_apart_0 hA ?_)
  have key : ∀ n i : Nat, i + n = P → A (5, [some (.ref c), some (.int x), some (.int y), some (.int (sumN (fun p => iabs (sp_br P H vl (nI p) x - sp_br P H vl (nI p) y)) i)), some (.int (nI i))], [], h, 0, 0) := by
    intro n
    induction n with
    | zero =>
      intro i hi
      refine vX0_apart_5 hA ⟨s0, fun _ => ?_, fun q => ?_⟩
      · rw [show i = P by omega]; exact hq
      · rw [e2] at q; exact absurd (nI_le (by omega) (by omega)) q
    | succ n ih =>
      intro i hi
      refine vX0_apart_5 hA ⟨s0, fun q => ?_, fun _ => ⟨s0, c_brings hC ⟨_, rfl, s0, c_brings hC ⟨_, rfl, ?_⟩⟩⟩⟩
      · rw [e2] at q; exact absurd q (nI_ge (by omega) (by omega))
      · rw [← nI_succ]
        exact ih (i + 1) (by omega)
  exact key P 0 (by omega)
/-- a purse, or whether one is the poorest -/
def sp_me (P : Nat) (hv : Nat → Int32) (x : Int32) (b : Int32) : Int32 := if b = 0 then (if x < 0 ∨ nI P ≤ x then 0 else hv x.toNatClampNeg) else if sp_po P hv = x then 1 else 0
theorem c_measure {x b : Int32} (hC : co_at h c P H hv vl) (hq : Ret (some (.int (sp_me P hv x b))) h) : mX0_measure g [.ref c, .int x, .int b] h Ret := by
  have hP := hC.2.1.1
  obtain ⟨s0, r0, -, s1, -⟩ := hC.1
  have e2 := hC.2.2.1
  unfold sp_me at hq
  refine eX0_measure ⟨fun h1 => ⟨fun h2 => ?_, fun h2 => ⟨s0, fun h3 => ?_, fun h3 => ?_⟩⟩, fun h1 => ⟨s0, c_poorest hC ⟨_, rfl, fun h2 => ?_, fun h2 => ?_⟩⟩⟩
  · rw [if_pos h1, if_pos (Or.inl h2)] at hq; exact hq
  · rw [e2] at h3
    obtain ⟨i, hi, rfl⟩ := (ni_ix (n := P) (by omega)).mp ⟨h2, nt_le.mpr h3⟩
    rw [if_pos h1, if_neg (by rintro (z | z); exact h2 z; exact absurd h3 (nt_lt.mpr z)), nI_clamp (by omega)] at hq
    refine ⟨s0, _, r0, by rw [s1], by rw [s1]; exact vp_in_nI (by omega) (by decide), ?_⟩
    rw [nI_clamp (by omega), hC.2.2.2.2.1 i hi]
    exact hq
  · rw [e2] at h3
    rw [if_pos h1, if_pos (Or.inr (nt_lt.mp h3))] at hq; exact hq
  · rw [if_neg h1, if_neg h2] at hq; exact hq
  · rw [if_neg h1, if_pos h2] at hq; exact hq
/-- the values of a republic's hours -/
def sp_vl (D : rD) (p q : Nat) : Int32 := sp_wd D (nI p) + sp_ex D (sp_de D (nI p) (nI q))
theorem c_begin {r : Nat} {D : rD} (hO : co_st h c) (hD : rc_at h r D) (hne : ∀ j, j < 6 → ¬ co_F c (r + j)) (hq : ∀ h', ax_same (co_F c) h h' → co_at h' c (dP D) (dH D) (dpu D) (sp_vl D) → Ret none h') : mX0_begin g [.ref c, .ref r] h Ret := by
  obtain ⟨hH, hP⟩ := hD.2.1
  have f0 : co_F c c := Or.inl rfl
  have f1 : co_F c (c + 1) := Or.inr (Or.inl rfl)
  have f2 : co_F c (c + 2) := Or.inr (Or.inr rfl)
  refine uX0_begin (fun A hA => vX0_begin_0 hA ⟨hD.1.1, hO.1, ?_⟩)
  intro h1
  have hs1 : ax_same (co_F c) h h1 := sm_pi f0
  have hD1 := rc_at_same hs1 hne hD
  refine ⟨hD1.1.1, (co_st_same hs1 hO).1, ?_⟩
  intro h2
  have hs2 : ax_same (co_F c) h h2 := sm_tr hs1 (sm_pi f0)
  -- an inner row, then the outer loop
  have key : ∀ n i : Nat, ∀ (hh : ax_H) (o3 o4 : Option Value), i + n = dP D → ax_same (co_F c) h hh → ax_i hh c 2 = nI (dP D) → ax_i hh c 3 = nI (dH D) → (∀ p, p < i → ax_i hh (c + 1) p = dpu D p) → (∀ p q, p < i → q < dH D → ax_i hh (c + 2) (p * 12 + q) = sp_vl D p q) → A (18, [some (.ref c), some (.ref r), some (.int (nI i)), o3, o4], [], hh, 0, 0) := by
    intro n
    induction n with
    | zero =>
      intro i hh o3 o4 hi hs e2 e3 eh ev
      have hO' := co_st_same hs hO
      obtain rfl : i = dP D := by omega
      refine vX0_begin_18 hA ⟨hO'.1, fun _ => hq hh hs ⟨hO', ⟨hP, hH⟩, e2, e3, eh, ev⟩, fun q => ?_⟩
      rw [e2] at q; exact absurd (nI_le (Nat.le_refl _) (by omega)) q
    | succ n ih =>
      intro i hh o3 o4 hi hs e2 e3 eh ev
      have hO' := co_st_same hs hO
      have hD' := rc_at_same hs hne hD
      obtain ⟨s0, r0, r1, s1, s2⟩ := id hO'
      obtain ⟨t0, ⟨-, -, q2, -, -⟩, -, -, t3, -, -⟩ := hD'.1
      refine vX0_begin_18 hA ⟨s0, fun q => ?_, fun _ => ⟨s0, _, r0, t0, _, q2, by rw [t3], by rw [t3]; exact vp_in_nI (by omega) (by decide), by rw [s1], by rw [s1]; exact vp_in_nI (by omega) (by decide), ?_⟩⟩
      · rw [e2] at q; exact absurd q (nI_ge (by omega) (by omega))
      · intro h5
        have hs5 : ax_same (co_F c) hh h5 := sm_pi f1
        have hD5 := rc_at_same hs5 hne hD'
        refine ⟨hD5.1.1, c_worthOfDeeds hD5 ⟨_, rfl, ?_⟩⟩
        have inner : ∀ k j : Nat, ∀ hj : ax_H, j + k = dH D → ax_same (co_F c) h hj → ax_i hj c 2 = nI (dP D) → ax_i hj c 3 = nI (dH D) → (∀ p, p < i + 1 → ax_i hj (c + 1) p = dpu D p) → (∀ p q, (p < i ∧ q < dH D) ∨ (p = i ∧ q < j) → ax_i hj (c + 2) (p * 12 + q) = sp_vl D p q) → A (47, [some (.ref c), some (.ref r), some (.int (nI i)), some (.int (sp_wd D (nI i))), some (.int (nI j))], [], hj, 0, 0) := by
          intro k
          induction k with
          | zero =>
            intro j hj hjk hsj e2j e3j ehj evj
            have hOj := co_st_same hsj hO
            refine vX0_begin_47 hA ⟨hOj.1, fun _ => ?_, fun q => ?_⟩
            · rw [← nI_succ]
              exact ih (i + 1) hj _ _ (by omega) hsj e2j e3j ehj (fun p q hp hq' => evj p q (by omega))
            · rw [e3j] at q; exact absurd (nI_le (by omega) (by omega)) q
          | succ k ihk =>
            intro j hj hjk hsj e2j e3j ehj evj
            have hOj := co_st_same hsj hO
            have hDj := rc_at_same hsj hne hD
            have s2j := hOj.2.2.2.2
            refine vX0_begin_47 hA ⟨hOj.1, fun q => ?_, fun _ => ⟨hOj.1, _, hOj.2.2.1, hDj.1.1, c_deedAt hDj ⟨_, rfl, hDj.1.1, c_extraOf hDj ⟨_, rfl, by rw [s2j], ?_, ?_⟩⟩⟩⟩
            · rw [e3j] at q; exact absurd q (nI_ge (by omega) (by omega))
            · rw [s2j, ni_12]; exact vp_in_nI (by omega) (by decide)
            · intro h16
              have hs16 : ax_same (co_F c) hj h16 := sm_pi f2
              have := ihk (j + 1) h16 (by omega) (sm_tr hsj hs16) (by
                  show ax_i (ax_pi hj (c + 2) _ _) c 2 = _
                  rw [ai_pi, if_neg (by omega)]; exact e2j) (by
                  show ax_i (ax_pi hj (c + 2) _ _) c 3 = _
                  rw [ai_pi, if_neg (by omega)]; exact e3j) (fun p hp => by
                  show ax_i (ax_pi hj (c + 2) _ _) (c + 1) p = _
                  rw [ai_pi, if_neg (by omega)]; exact ehj p hp) (fun p q hpq => by
                  show ax_i (ax_pi hj (c + 2) (nI i * 12 + nI j).toNatClampNeg _) (c + 2) (p * 12 + q) = _
                  rw [ai_pi, ni_12, nI_clamp (by omega)]
                  by_cases e : p = i ∧ q = j
                  · rw [if_pos ⟨rfl, by rw [e.1, e.2]⟩, e.1, e.2]; rfl
                  · rw [if_neg (by rintro ⟨-, z⟩; omega)]
                    exact evj p q (by omega))
              rw [nI_succ] at this
              exact this
        refine inner (dH D) 0 h5 (by omega) (sm_tr hs hs5) ?_ ?_ (fun p hp => ?_) (fun p q hpq => ?_)
        · show ax_i (ax_pi hh (c + 1) _ _) c 2 = _
          rw [ai_pi, if_neg (by omega)]; exact e2
        · show ax_i (ax_pi hh (c + 1) _ _) c 3 = _
          rw [ai_pi, if_neg (by omega)]; exact e3
        · show ax_i (ax_pi hh (c + 1) (nI i).toNatClampNeg _) (c + 1) p = _
          rw [ai_pi, nI_clamp (by omega)]
          by_cases e : p = i
          · rw [if_pos ⟨rfl, e⟩, e, hD'.2.2.2.2.2.1 i (by omega)]
          · rw [if_neg (fun z => e z.2)]; exact eh p (by omega)
        · show ax_i (ax_pi hh (c + 1) _ _) (c + 2) _ = _
          rw [ai_pi, if_neg (by omega)]; exact ev p q (by omega) (by omega)
  refine key (dP D) 0 h2 _ _ (by omega) hs2 ?_ ?_ (fun p hp => absurd hp (Nat.not_lt_zero p)) (fun p q hp => absurd hp (Nat.not_lt_zero p))
  · show ax_i (ax_pi h1 c 3 _) c 2 = _
    rw [ai_pi, if_neg (by omega)]
    show ax_i (ax_pi h c 2 _) c 2 = _
    rw [ai_pi, if_pos ⟨rfl, rfl⟩]; exact hD.2.2.1.2
  · show ax_i (ax_pi h1 c 3 _) c 3 = _
    rw [ai_pi, if_pos ⟨rfl, rfl⟩]; exact hD1.2.2.1.1
end
