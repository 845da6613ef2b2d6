section
variable {g : ax_G} {Ret : Option Value → ax_H → Prop} {h : ax_H} {z : Nat → Nat} {DD : Nat → rD} {N : Nat → Nat → Nat} {C : Nat → Nat → Nat → Nat → Int32} {S : sT} {Im : Nat → Option sT} {tp : Nat → Nat} {B : Nat}
/-! an answer told by what must hold for it -/
def ansE {α β : Type} (G : α → Prop) (val : α → β) (d V : β) : Prop := (∃ t, G t ∧ V = val t) ∨ ((∀ t, ¬ G t) ∧ V = d)
theorem ans_ex {α β : Type} (G : α → Prop) (val : α → β) (d : β) : ∃ V, ansE G val d V := by
  rcases Classical.em (∃ t, G t) with ⟨t, ht⟩ | n
  · exact ⟨_, Or.inl ⟨t, ht, rfl⟩⟩
  · exact ⟨_, Or.inr ⟨fun t ht => n ⟨t, ht⟩, rfl⟩⟩
theorem ans_no {α β : Type} {G : α → Prop} {val : α → β} {d V : β} (a : ansE G val d V) (n : ∀ t, ¬ G t) : V = d := by
  rcases a with ⟨t, ht, _⟩ | ⟨_, e⟩
  · exact absurd ht (n t)
  · exact e
theorem ans_yes {α β : Type} {G : α → Prop} {val : α → β} {d V : β} {t : α} (a : ansE G val d V) (ht : G t) (u : ∀ t', G t' → t' = t) : V = val t := by
  rcases a with ⟨t', ht', e⟩ | ⟨n, _⟩
  · rw [e, u t' ht']
  · exact absurd ht (n t)
theorem in_no {x : Int32} {n k : Nat} (q : sp_in x n = false) (hn : n ≤ 2) (hk : k < n) (e : x = nI k) : False := by
  rw [e, sp_in_nI (by omega) hk] at q; cases q
/-! a course over the days of a week -/
def lvW (D : rD) (y : Nat → Nat) : Nat → Nat → Int32
  | 0 => dpu D
  | n + 1 => fun p => lvW D y n p + sp_vl D p (y n)
def lkU (D : rD) (y : Nat → Nat) : Nat → Int64
  | 0 => 1
  | n + 1 => lkU D y n * (sp_w D (sp_po (dP D) (lvW D y n)) (y n)).toInt64
def lkD (D : rD) (y : Nat → Nat) : Nat → Int64
  | 0 => 1
  | n + 1 => lkD D y n * (sp_t D (sp_po (dP D) (lvW D y n))).toInt64
theorem lk_bd {D : rD} (ok : rd_ok D) (y : Nat → Nat) : ∀ i, i ≤ 6 → (0 ≤ (lkU D y i).toInt ∧ (lkU D y i).toInt ≤ 108 ^ i) ∧ 0 < (lkD D y i).toInt ∧ (lkD D y i).toInt ≤ 108 ^ i
  | 0, _ => ⟨by show 0 ≤ (1 : Int64).toInt ∧ (1 : Int64).toInt ≤ 108 ^ 0; decide, by show 0 < (1 : Int64).toInt ∧ (1 : Int64).toInt ≤ 108 ^ 0; decide⟩
  | i + 1, hi => by
    obtain ⟨⟨b1, b2⟩, b3, b4⟩ := lk_bd ok y i (by omega)
    have bw := sp_w_bd ok (sp_po (dP D) (lvW D y i)) (y i)
    have bt := sp_t_bd ok (sp_po (dP D) (lvW D y i))
    have m1 := mulB (x := lkU D y i) (y := (sp_w D (sp_po (dP D) (lvW D y i)) (y i)).toInt64) (i := i) (by omega) b1 b2 (by rw [i_64]; omega) (by rw [i_64]; omega)
    have m2 := mulB (x := lkD D y i) (y := (sp_t D (sp_po (dP D) (lvW D y i))).toInt64) (i := i) (by omega) (by omega) b4 (by rw [i_64]; omega) (by rw [i_64]; omega)
    have pos : 0 < (lkD D y i).toInt * (sp_t D (sp_po (dP D) (lvW D y i))).toInt64.toInt := Int.mul_pos b3 (by rw [i_64]; omega)
    show (0 ≤ (lkU D y i * (sp_w D (sp_po (dP D) (lvW D y i)) (y i)).toInt64).toInt ∧ (lkU D y i * (sp_w D (sp_po (dP D) (lvW D y i)) (y i)).toInt64).toInt ≤ 108 ^ (i + 1)) ∧ 0 < (lkD D y i * (sp_t D (sp_po (dP D) (lvW D y i))).toInt64).toInt ∧ (lkD D y i * (sp_t D (sp_po (dP D) (lvW D y i))).toInt64).toInt ≤ 108 ^ (i + 1)
    rw [m1.1, m2.1]
    exact ⟨⟨m1.2.1, m1.2.2⟩, pos, m2.2.2⟩
theorem co_congr {c P H : Nat} {hv hw : Nat → Int32} {vl : Nat → Nat → Int32} (co : co_at h c P H hv vl) (e : ∀ p, p < P → hv p = hw p) : co_at h c P H hw vl := ⟨co.1, co.2.1, co.2.2.1, co.2.2.2.1, fun p hp => (co.2.2.2.2.1 p hp).trans (e p hp), co.2.2.2.2.2⟩
def lgE (h hh : ax_H) (D : rD) (hv : Nat → Int32) : Prop := ax_same cl_F h hh ∧ co_at hh 52 (dP D) (dH D) hv (sp_vl D)
theorem lg_live {hh : ax_H} {D : rD} {q : Nat} {hv : Nat → Int32} (ok : rd_ok D) (L : lgE h hh D hv) (hq : q < dH D) (k : ∀ h2, lgE h h2 D (fun p => hv p + sp_vl D p q) → ax_same (fun a => a = 53) hh h2 → Ret none h2) : mX0_live g [.ref 52, .int (nI q)] hh Ret := c_live L.2 (fun h2 s2 c2 => k h2 ⟨sm_tr L.1 (sm_mono s2 (fun x q => by unfold cl_F; omega)), co_congr c2 (fun p hp => by rw [sp_br_in hp hq ok.2.1 ok.1.2])⟩ s2)
def lmE (h hh : ax_H) (k : Nat) (D : rD) (pu : Nat → Int32) : Prop := ax_same md_F h hh ∧ mc_at hh 77 k D (dmo D) pu (sp_vl D) ∧ mw_at hh 77 (dH D) (sp_w D (sp_po (dP D) pu)) (sp_t D (sp_po (dP D) pu)) (sp_po (dP D) pu)
theorem lm_live {hh : ax_H} {k q : Nat} {D : rD} {pu : Nat → Int32} (L : lmE h hh k D pu) (hq : q < dH D) (K : ∀ h2, lmE h h2 k D (fun p => pu p + sp_vl D p q) → lvR hh h2 → Ret none h2) : mX10_live g [.ref 77, .int (nI q)] hh Ret := c_mlive L.2.1 hq (fun h2 m2 c2 w2 => K h2 ⟨sm_tr L.1 (sm_mono m2.1 (fun x e => by unfold md_F; omega)), c2, w2⟩ m2)
theorem lm_mr {J F : Nat → Prop} {hh h2 : ax_H} {k : Nat} {D : rD} {pu : Nat → Int32} (L : lmE h hh k D pu) (s : mr J F 77 hh h2) (hJ : ∀ j, J j → j < 25 ∨ (27 < j ∧ j < 32) ∨ 35 < j) (hF : ∀ a, F a → 94 ≤ a ∧ a ≤ 101) : lmE h h2 k D pu := by
  obtain ⟨s0, c, w⟩ := L
  refine ⟨sm_tr s0 (sm_mono s.1 (fun x e => ?_)), mc_at_mr s ⟨fun q => ?_, fun q => ?_, fun q => ?_, fun q => ?_, fun q => ?_⟩ ⟨fun q => ?_, fun q => ?_, fun q => ?_, fun q => ?_⟩ c, mw_mr s ⟨fun q => ?_, fun q => ?_⟩ (fun q => ?_) w⟩
  · unfold md_F
    rcases e with e | e
    · exact Or.inl e
    · have := hF x e; omega
  all_goals first | (have := hJ _ q; omega) | (have := hF _ q; omega)
theorem lm_hm {h' : ax_H} {k : Nat} {D : rD} (s : ax_same md_F h h') (hm : hm_at h' k D) : lmE h h' k D (dpu D) := ⟨s, hm.1, hm.2⟩
/-- the republic, the week, the days -/
def wkG (z : Nat → Nat) (DD : Nat → rD) (N : Nat → Nat → Nat) (C : Nat → Nat → Nat → Nat → Int32) (x1 x2 x3 : Int32) (t : Nat × Nat × Nat) : Prop := t.1 < z 0 ∧ x1 = nI t.1 ∧ t.2.1 < z 1 ∧ x2 = nI t.2.1 ∧ x3 = nI t.2.2 ∧ t.2.2 ≤ N 1 t.2.1 ∧ ∀ d, d < t.2.2 → sp_in (C 1 t.2.1 d 0) (dH (DD t.1)) = true
def wkY (C : Nat → Nat → Nat → Nat → Int32) (w d : Nat) : Nat := (C 1 w d 0).toNatClampNeg
theorem wkG_u {x1 x2 x3 : Int32} {t t' : Nat × Nat × Nat} (K : tk z DD N C) (a : wkG z DD N C x1 x2 x3 t) (b : wkG z DD N C x1 x2 x3 t') : t' = t := by
  obtain ⟨k, w, m⟩ := t
  obtain ⟨k', w', m'⟩ := t'
  obtain ⟨a1, a2, a3, a4, a5, a6, _⟩ := a
  obtain ⟨b1, b2, b3, b4, b5, b6, _⟩ := b
  have a1 : k < z 0 := a1
  have a3 : w < z 1 := a3
  have a6 : m ≤ N 1 w := a6
  have b1 : k' < z 0 := b1
  have b3 : w' < z 1 := b3
  have b6 : m' ≤ N 1 w' := b6
  have z0 := K.1 0 (by decide)
  have z1 := K.1 1 (by decide)
  have n1 : N 1 w ≤ 14 := (K.2.2 1 w (by decide) (by decide) a3).1
  have n2 : N 1 w' ≤ 14 := (K.2.2 1 w' (by decide) (by decide) b3).1
  have e1 : k' = k := (nI_eq (by omega) (by omega)).mp (b2.symm.trans a2)
  have e2 : w' = w := (nI_eq (by omega) (by omega)).mp (b4.symm.trans a4)
  have e3 : m' = m := (nI_eq (by omega) (by omega)).mp (b5.symm.trans a5)
  rw [e1, e2, e3]
theorem c_stopsE {r l n : Nat} {D : rD} {C1 : Nat → Nat → Int32} {x : Int32} (rc : rc_at h r D) (L : li_at h l 1 n C1) (h1 : (∀ m, x = nI m → m ≤ n → ¬ ∀ d, d < m → sp_in (C1 d 0) (dH D) = true) → Ret (some (.int 1)) h) (h0 : ∀ m, x = nI m → m ≤ n → (∀ d, d < m → sp_in (C1 d 0) (dH D) = true) → Ret (some (.int 0)) h) : mX9_stops g [.ref r, .ref l, .int x] h Ret := by
  have n14 : n ≤ 14 := L.2.1
  have e3 := L.2.2.1
  refine uX9_stops (fun A hA => vX9_stops_0 hA ⟨fun q => ⟨Or.inr rfl, h1 (fun m e hm _ => by rw [e] at q; exact nI_pos (by omega) q)⟩, fun q => ⟨L.1.1, fun q1 => ?_, fun q1 => ⟨Or.inr rfl, h1 (fun m e hm _ => by rw [e, e3] at q1; exact q1 (nI_le hm (by omega)))⟩⟩⟩)
  rw [e3] at q1
  obtain ⟨m, _, hm, rfl⟩ := i_rng (a := 0) (b := n) (by omega) (by omega) (nt_lt.mp q) q1
  have key : ∀ j i : Nat, i + j = m → (∀ d, d < i → sp_in (C1 d 0) (dH D) = true) → A (20, [some (.ref r), some (.ref l), some (.int (nI m)), some (.int (nI i))], [], h, 0, 0) := by
    intro j
    induction j with
    | zero =>
      intro i hi hd
      refine vX9_stops_20 hA ⟨fun _ => ⟨Or.inl rfl, h0 m rfl hm (by rw [show m = i by omega]; exact hd)⟩, fun q => ?_⟩
      exact absurd (nI_le (by omega) (by omega)) q
    | succ j ih =>
      intro i hi hd
      have ec : sp_lc n (lw 1) C1 (nI i) 0 = C1 i 0 := lc_in n14 (by decide) (by omega) (by decide)
      refine vX9_stops_20 hA ⟨fun q => ?_, fun _ => ⟨L.1.1, c_lcell (by decide) (by decide) L ⟨_, rfl, rc.1.1, c_hasHour rc ⟨_, rfl, fun q2 => ?_, fun q2 => ⟨Or.inr rfl, h1 (fun m2 e2 hm2 all => ?_)⟩⟩⟩⟩⟩
      · exact absurd q (nI_ge (by omega) (by omega))
      · rw [← nI_succ]
        rw [ec] at q2
        refine ih (i + 1) (by omega) (fun d hd2 => ?_)
        by_cases e : d = i
        · rw [e]; exact b2i_n0.mp q2
        · exact hd d (by omega)
      · rw [ec] at q2
        have e4 : m2 = m := (nI_eq (by omega) (by omega)).mp e2.symm
        have t := all i (by omega)
        rw [b2i_0.mp q2] at t
        cases t
  exact key m 0 (by omega) (fun d hd => absurd hd (Nat.not_lt_zero d))
theorem c_liveDaysE {hh : ax_H} {k w : Nat} {x : Int32} (a : tc h z DD N C) (ok : rd_ok (DD k)) (L : lmE h hh k (DD k) (dpu (DD k))) (hw : w < z 1) (e36 : ax_i hh 77 36 = nI w) (h0 : ∀ h2, ax_same md_F h h2 → (∀ m, x = nI m → m ≤ N 1 w → ¬ ∀ d, d < m → sp_in (C 1 w d 0) (dH (DD k)) = true) → Ret (some (.int 0)) h2) (h1 : ∀ m, x = nI m → m ≤ N 1 w → (∀ d, d < m → sp_in (C 1 w d 0) (dH (DD k)) = true) → ∀ h2, lmE h h2 k (DD k) (lvW (DD k) (wkY C w) m) → (m ≤ 6 → ax_l h2 77 37 = lkU (DD k) (wkY C w) m ∧ ax_l h2 77 38 = lkD (DD k) (wkY C w) m) → Ret (some (.int 1)) h2) : mX10_liveDays g [.ref 77, .int x] hh Ret := by
  have w2 : w < 2 := by have := a.2.2.2.2.1 1 (by decide); omega
  have b := tc_md L.1 a
  have H12 := ok.1.2
  refine uX10_liveDays (fun A hA => vX10_liveDays_0 hA ⟨b.2.1.1, ?_⟩)
  intro u1
  refine ⟨b.2.1.1, ?_⟩
  intro u2
  have ur : mr (fun j => j = 37 ∨ j = 38) (fun _ => False) 77 hh u2 := mr_tr (mr_l (Or.inl rfl)) (mr_l (Or.inr rfl))
  have Lu : lmE h u2 k (DD k) (dpu (DD k)) := lm_mr L ur (fun j hj => by omega) (fun a ha => ha.elim)
  have bu := tc_md Lu.1 a
  have eu : ax_i u2 77 36 = nI w := e36
  obtain ⟨e1, e2⟩ := mo_wk bu.2.1
  have tl := tm_ln bu.2.2.2.1 (show 1 ≤ 1 by decide) (by decide) hw
  have n14 : N 1 w ≤ 14 := (a.2.2.2.2.2.2 1 w (by decide) (by decide) hw).1
  refine ⟨bu.2.1.1, _, e1, bu.2.1.1, by rw [e2], ?_, ?_⟩
  · rw [eu, e2, show (15 : Int32) * nI w = nI (15 * w) from ni_mul]; exact vp_in_nI (by omega) (by decide)
  · rw [eu, show (15 : Int32) * nI w = nI (15 * w) from ni_mul, nI_clamp (by omega), show ax_i u2 (77 + 7) (15 * w) = nI (N 1 w) from tl.1]
    refine c_min ⟨_, rfl, fun q => ?_, fun q => ⟨Or.inl rfl, h0 u2 Lu.1 (fun m e hm _ => ?_)⟩⟩
    · obtain ⟨m, _, hm, rfl⟩ := i_rng (a := 0) (b := N 1 w) (by omega) (by omega) (of_decide_eq_true (b2i_n0.mp q)).1 (of_decide_eq_true (b2i_n0.mp q)).2
      have key : ∀ n i : Nat, i + n = m → (∀ d, d < i → sp_in (C 1 w d 0) (dH (DD k)) = true) → ∀ h3, lmE h h3 k (DD k) (lvW (DD k) (wkY C w) i) → ax_i h3 77 36 = nI w → ∀ (o3 : Option Value), (i ≤ 6 → ax_l h3 77 37 = lkU (DD k) (wkY C w) i ∧ ax_l h3 77 38 = lkD (DD k) (wkY C w) i) → A (34, [some (.ref 77), some (.int (nI m)), some (.int (nI i)), o3], [], h3, 0, 0) := by
        intro n
        induction n with
        | zero =>
          intro i hi hd h3 L3 e3 o3 lk
          have e : i = m := by omega
          subst e
          exact vX10_liveDays_34 hA ⟨fun _ => ⟨Or.inr rfl, h1 i rfl hm hd h3 L3 lk⟩, fun q => absurd (nI_le (by omega) (by omega)) q⟩
        | succ n ih =>
          intro i hi hd h3 L3 e3 o3 lk
          have c := tc_md L3.1 a
          have mc := L3.2.1
          have mw := L3.2.2
          have s0 := mc.1.1.1
          refine vX10_liveDays_34 hA ⟨fun q => absurd q (nI_ge (by omega) (by omega)), fun _ => ⟨s0, c_mhourOf c.2.1 c.2.2.2.1 c.2.2.2.2 hw e3 (by omega) ⟨_, rfl, s0, c_misHour mc.1 ⟨_, rfl, fun q => ?_, fun q => ⟨Or.inl rfl, h0 h3 L3.1 (fun m2 em hm2 all => ?_)⟩⟩⟩⟩⟩
          · have hd' : ∀ d, d < i + 1 → sp_in (C 1 w d 0) (dH (DD k)) = true := fun d hd2 => by
              by_cases e : d = i
              · rw [e]; exact b2i_n0.mp q
              · exact hd d (by omega)
            obtain ⟨y, hy, ey⟩ := sp_in_ix (by omega) (b2i_n0.mp q)
            have ey2 : wkY C w i = y := by unfold wkY; rw [ey, nI_clamp (by omega)]
            have ev : lvW (DD k) (wkY C w) (i + 1) = (fun p => lvW (DD k) (wkY C w) i p + sp_vl (DD k) p y) := by rw [← ey2]; rfl
            rw [ey]
            refine ⟨fun q6 => ⟨s0, lm_live L3 hy (fun h4 L4 r4 => ⟨rfl, ?_⟩)⟩, fun q6 => ⟨rfl, s0, s0, ?_⟩⟩
            · rw [← nI_succ]
              have i6 : 6 ≤ i := Nat.le_of_not_lt (fun e => absurd (show (6 : Int32) ≤ nI i from q6) (nI_ge (a := i) (b := 6) e (by decide)))
              exact ih (i + 1) (by omega) hd' h4 (by rw [ev]; exact L4) (by rw [(r4.2 36 (by decide)).1]; exact e3) _ (fun q => by omega)
            · have i6 : i < 6 := Nat.lt_of_not_le (fun e => q6 (nI_le (a := 6) e (by omega)))
              obtain ⟨f1, f2⟩ := mo_we mc.1.1
              refine ⟨_, f1, by rw [f2], by rw [f2]; exact vp_in_nI (by omega) (by decide), s0, ?_⟩
              intro u3
              refine ⟨rfl, s0, s0, s0, ?_⟩
              intro u4
              have r4 : mr (fun j => j = 37 ∨ j = 38) (fun _ => False) 77 h3 u4 := mr_tr (mr_l (Or.inl rfl)) (mr_l (Or.inr rfl))
              have L4 := lm_mr L3 r4 (fun j hj => by omega) (fun a ha => ha.elim)
              refine ⟨s0, lm_live L4 hy (fun h5 L5 r5 => ⟨rfl, ?_⟩)⟩
              rw [← nI_succ]
              obtain ⟨k1, k2⟩ := lk (by omega)
              have l1 : ax_l h5 77 37 = ax_l h3 77 37 * (sp_w (DD k) (sp_po (dP (DD k)) (lvW (DD k) (wkY C w) i)) y).toInt64 := by
                rw [(r5.2 37 (by decide)).2]
                show ax_l (ax_pl (ax_pl h3 77 37 _) 77 38 _) 77 37 = _
                rw [al_pl, if_neg (by decide), al_pl, if_pos ⟨rfl, rfl⟩, nI_clamp (by omega), mw.1 y hy]
              have l2 : ax_l h5 77 38 = ax_l h3 77 38 * (sp_t (DD k) (sp_po (dP (DD k)) (lvW (DD k) (wkY C w) i))).toInt64 := by
                rw [(r5.2 38 (by decide)).2]
                show ax_l (ax_pl (ax_pl h3 77 37 _) 77 38 (ax_l (ax_pl h3 77 37 _) 77 38 * (ax_i h3 77 32).toInt64)) 77 38 = _
                rw [al_pl, if_pos ⟨rfl, rfl⟩, al_pl, if_neg (by decide), mw.2.1]
              refine ih (i + 1) (by omega) hd' h5 (by rw [ev]; exact L5) (by rw [(r5.2 36 (by decide)).1]; exact e3) _ (fun _ => ⟨?_, ?_⟩)
              · rw [l1, k1, ← ey2]; rfl
              · rw [l2, k2]; rfl
          · have e4 : m2 = m := (nI_eq (by omega) (by omega)).mp em.symm
            have t := all i (by omega)
            rw [b2i_0.mp q] at t
            cases t
      have p37 : ax_l u2 77 37 = 1 := by
        show ax_l (ax_pl (ax_pl hh 77 37 1) 77 38 1) 77 37 = 1
        rw [al_pl, if_neg (by decide), al_pl, if_pos ⟨rfl, rfl⟩]
      have p38 : ax_l u2 77 38 = 1 := by
        show ax_l (ax_pl (ax_pl hh 77 37 1) 77 38 1) 77 38 = 1
        rw [al_pl, if_pos ⟨rfl, rfl⟩]
      exact key m 0 (by omega) (fun d hd => absurd hd (Nat.not_lt_zero d)) u2 Lu eu _ (fun _ => ⟨p37, p38⟩)
    · have f := of_decide_eq_false (b2i_0.mp q)
      rw [e] at f
      exact f ⟨nI_pos' (by omega), nI_le hm (by omega)⟩
/-! PURSE: the same answer -/
def pG (z : Nat → Nat) (DD : Nat → rD) (N : Nat → Nat → Nat) (C : Nat → Nat → Nat → Nat → Int32) (x1 x2 x3 x4 : Int32) (t : Nat × Nat × Nat) : Prop := wkG z DD N C x1 x2 x3 t ∧ (x4 = -1 ∨ sp_in x4 (dP (DD t.1)) = true)
def pV (DD : Nat → rD) (C : Nat → Nat → Nat → Nat → Int32) (x4 : Int32) (t : Nat × Nat × Nat) : Int32 := if x4 = -1 then sp_po (dP (DD t.1)) (lvW (DD t.1) (wkY C t.2.1) t.2.2) else lvW (DD t.1) (wkY C t.2.1) t.2.2 x4.toNatClampNeg
theorem or_no {x4 : Int32} {n : Nat} (q : (decide (x4 = -1) || sp_in x4 n) = false) : ¬ (x4 = -1 ∨ sp_in x4 n = true) := by
  rw [Bool.or_eq_false_iff] at q
  rintro (e | e)
  · exact absurd e (of_decide_eq_false q.1)
  · rw [q.2] at e; cases e
theorem or_yes {x4 : Int32} {n : Nat} (q : (decide (x4 = -1) || sp_in x4 n) = true) : x4 = -1 ∨ sp_in x4 n = true := by
  rw [Bool.or_eq_true] at q
  exact q.imp of_decide_eq_true id
theorem q9_purse {x1 x2 x3 x4 V : Int32} (a : tc h z DD N C) (hV : ansE (pG z DD N C x1 x2 x3 x4) (pV DD C x4) (-1000000) V) (hq : ∀ h', ax_same cl_F h h' → Ret (some (.int V)) h') : mX9_purse g [.ref 0, .int x1, .int x2, .int x3, .int x4] h Ret := by
  have z0 := a.2.2.2.2.1 0 (by decide)
  have z1 := a.2.2.2.2.1 1 (by decide)
  have bad : ∀ h', ax_same cl_F h h' → (∀ t, ¬ pG z DD N C x1 x2 x3 x4 t) → Ret (some (.int (-1000000))) h' := fun h' hs n => by
    have hv := hq h' hs
    rw [ans_no hV n] at hv
    exact hv
  refine uX9_purse (fun A hA => vX9_purse_0 hA ⟨a.1.1, q_begun a (fun q => Or.inr ⟨rfl, a.1.1, _, a.1.2.1.1, a.2.2.1.1.1, c_linesAt (s0 := 1) a.2.2.1 (by decide) (by decide) (fun _ => Or.inr ⟨rfl, bad h sm_rf (fun t G => in_no q z0 G.1.1 G.1.2.1)⟩) (fun k hk ex => Or.inl ⟨_, rfl, bad h sm_rf (fun t G => in_no q z0 G.1.1 G.1.2.1)⟩)⟩) (fun k hk ex ok h' hs xs hc => Or.inl ⟨_, rfl, ?_⟩)⟩)
  have b := tc_cl hs a
  have kk : ∀ t, pG z DD N C x1 x2 x3 x4 t → t.1 = k := fun t G => (nI_eq (by have := G.1.1; omega) (by omega)).mp (G.1.2.1.symm.trans ex)
  refine ⟨b.1.1, _, b.1.2.1.1, b.2.2.1.1.1, c_linesAt (s0 := 1) b.2.2.1 (by decide) (by decide) (fun q => Or.inr ⟨rfl, hc.1.1.1, c_hasPersonOrAll hc.1 ⟨_, rfl, fun _ => bad h' hs (fun t G => in_no q z1 G.1.2.2.1 G.1.2.2.2.1), fun _ => c_stopsN ⟨_, rfl, fun q => absurd q (by decide), fun _ => bad h' hs (fun t G => in_no q z1 G.1.2.2.1 G.1.2.2.2.1)⟩⟩⟩) (fun w hw ew => Or.inl ⟨_, rfl, hc.1.1.1, c_hasPersonOrAll hc.1 ⟨_, rfl, fun q4 => bad h' hs (fun t G => or_no (b2i_0.mp q4) (by have := G.2; rw [kk t G] at this; exact this)), fun q4 => c_stopsE hc.1 (b.2.2.1.2.2.2 1 w (by decide) (by decide) hw) (fun no => ⟨_, rfl, fun q => absurd q (by decide), fun _ => bad h' hs (fun t G => ?_)⟩) (fun m em hm hd => ⟨_, rfl, fun _ => ?_, fun q => absurd rfl q⟩)⟩⟩)⟩
  · have ww : t.2.1 = w := (nI_eq (by have := G.1.2.2.1; omega) (by omega)).mp (G.1.2.2.2.1.symm.trans ew)
    have e := G.1.2.2.2.2
    rw [kk t G, ww] at e
    exact no t.2.2 e.1 e.2.1 e.2.2
  · subst em
    have n14 : N 1 w ≤ 14 := (b.2.2.1.2.2.2 1 w (by decide) (by decide) hw).2.1
    have q5 := or_yes (b2i_n0.mp q4)
    have Gt : pG z DD N C x1 x2 (nI m) x4 (k, w, m) := ⟨⟨hk, ex, hw, ew, rfl, hm, hd⟩, q5⟩
    have eV := ans_yes hV Gt (fun t' G' => wkG_u a.2.2.2.2 Gt.1 G'.1)
    have H12 := ok.1.2
    have key : ∀ n i : Nat, i + n = m → ∀ hh, lgE h hh (DD k) (lvW (DD k) (wkY C w) i) → A (50, [some (.ref 0), some (.int x1), some (.int x2), some (.int (nI m)), some (.int x4), some (.ref (6 + 14 * k)), some (.ref (lnp 1 1 w)), some (.int (nI i))], [], hh, 0, 0) := by
      intro n
      induction n with
      | zero =>
        intro i hi hh L
        have e : i = m := by omega
        subst e
        have c := tc_cl L.1 a
        have co := L.2
        have hv := hq hh L.1
        rw [eV] at hv
        unfold pV at hv
        refine vX9_purse_50 hA ⟨fun _ => ⟨fun q => ⟨c.1.1, _, c.1.2.1.2.2.2.1, co.1.1, ?_⟩, fun q => ⟨c.1.1, _, c.1.2.1.2.2.2.1, co.1.1, c_poorest co ⟨_, rfl, ?_⟩⟩⟩, fun q => absurd (nI_le (by omega) (by omega)) q⟩
        · rw [if_neg q] at hv
          obtain ⟨p, hp, rfl⟩ := sp_in_ix (by have := ok.2.1; omega) (q5.resolve_left q)
          obtain ⟨e1, e2, e3⟩ := have_at co hp
          refine ⟨_, e1, e2, e3, ?_⟩
          rw [nI_clamp (by have := ok.2.1; omega)] at hv ⊢
          rw [show ax_i hh 53 p = _ from co.2.2.2.2.1 p hp]
          exact hv
        · rw [if_pos q] at hv; exact hv
      | succ n ih =>
        intro i hi hh L
        have c := tc_cl L.1 a
        have co := L.2
        obtain ⟨y, hy, ey⟩ := sp_in_ix (by omega) (hd i (by omega))
        have ey2 : wkY C w i = y := by unfold wkY; rw [ey, nI_clamp (by omega)]
        have ev : lvW (DD k) (wkY C w) (i + 1) = (fun p => lvW (DD k) (wkY C w) i p + sp_vl (DD k) p y) := by rw [← ey2]; rfl
        refine vX9_purse_50 hA ⟨fun q => absurd q (nI_ge (by omega) (by omega)), fun _ => ⟨c.1.1, _, c.1.2.1.2.2.2.1, (c.2.2.1.2.2.2 1 w (by decide) (by decide) hw).1.1, c_lcell (by decide) (by decide) (c.2.2.1.2.2.2 1 w (by decide) (by decide) hw) ⟨_, rfl, co.1.1, ?_⟩⟩⟩
        rw [show sp_lc (N 1 w) (lw 1) (C 1 w) (nI i) 0 = C 1 w i 0 from lc_in n14 (by decide) (by omega) (by decide), ey]
        refine lg_live ok L hy (fun h2 L2 _ => ⟨rfl, ?_⟩)
        rw [← nI_succ]; exact ih (i + 1) (by omega) h2 (by rw [ev]; exact L2)
    exact key m 0 (by omega) h' ⟨hs, hc.2.1⟩
theorem q10_purse {x1 x2 x3 x4 V : Int32} (a : tc h z DD N C) (hV : ansE (pG z DD N C x1 x2 x3 x4) (pV DD C x4) (-1000000) V) (hq : ∀ h', ax_same md_F h h' → Ret (some (.int V)) h') : mX10_purse g [.ref 77, .int x1, .int x2, .int x3, .int x4] h Ret := by
  have z0 := a.2.2.2.2.1 0 (by decide)
  have z1 := a.2.2.2.2.1 1 (by decide)
  have bad : ∀ h', ax_same md_F h h' → (∀ t, ¬ pG z DD N C x1 x2 x3 x4 t) → Ret (some (.int (-1000000))) h' := fun h' hs n => by
    have hv := hq h' hs
    rw [ans_no hV n] at hv
    exact hv
  obtain ⟨a1, T1, hs1⟩ := q_code (v := 0) a.2.1 a.2.2.2.1
  refine eX10_purse ⟨a.2.1.1, ?_⟩
  intro h1
  refine ⟨a1.1, q_hand a1 T1 a.2.2.2.2 (fun q => ⟨_, rfl, fun _ => bad _ hs1 (fun t G => in_no q z0 G.1.1 G.1.2.1), fun q => absurd rfl q⟩) (fun k hk ex ok h' hs hm => ⟨_, rfl, fun q => absurd q (by decide), fun _ => ⟨hm.1.1.1.1, ?_⟩⟩)⟩
  have L := lm_hm (sm_tr hs1 hs) hm
  have b := tc_md L.1 a
  have kk : ∀ t, pG z DD N C x1 x2 x3 x4 t → t.1 = k := fun t G => (nI_eq (by have := G.1.1; omega) (by omega)).mp (G.1.2.1.symm.trans ex)
  have Lu : lmE h (ax_pi h' 77 36 x2) k (DD k) (dpu (DD k)) := lm_mr L (mr_f (J := fun j => j = 36) (F := fun _ => False) rfl) (fun j hj => by omega) (fun a ha => ha.elim)
  have s0 : (ax_s (ax_pi h' 77 36 x2) 77).1 = 10 := b.2.1.1
  refine c_mhasWeek b.2.1 b.2.2.2.1 b.2.2.2.2 ⟨_, rfl, fun q => bad _ Lu.1 (fun t G => in_no (b2i_0.mp q) z1 G.1.2.2.1 G.1.2.2.2.1), fun q => ?_⟩
  obtain ⟨w, hw, ew⟩ := sp_in_ix (by omega) (b2i_n0.mp q)
  have stop : ∀ h2, ax_same md_F h h2 → (∀ m, x3 = nI m → m ≤ N 1 w → ¬ ∀ d, d < m → sp_in (C 1 w d 0) (dH (DD k)) = true) → Ret (some (.int (-1000000))) h2 := fun h2 s2 no => bad h2 s2 (fun t G => by
    have ww : t.2.1 = w := (nI_eq (by have := G.1.2.2.1; omega) (by omega)).mp (G.1.2.2.2.1.symm.trans ew)
    have e := G.1.2.2.2.2
    rw [kk t G, ww] at e
    exact no t.2.2 e.1 e.2.1 e.2.2)
  have e36 : ax_i (ax_pi h' 77 36 x2) 77 36 = nI w := by rw [← ew]; exact ai_eq
  have good : ∀ m, x3 = nI m → m ≤ N 1 w → (∀ d, d < m → sp_in (C 1 w d 0) (dH (DD k)) = true) → (x4 = -1 ∨ sp_in x4 (dP (DD k)) = true) → V = pV DD C x4 (k, w, m) := fun m em hm hd q5 => by
    have Gt : pG z DD N C x1 x2 x3 x4 (k, w, m) := ⟨⟨hk, ex, hw, ew, em, hm, hd⟩, q5⟩
    exact ans_yes hV Gt (fun t' G' => wkG_u a.2.2.2.2 Gt.1 G'.1)
  refine ⟨fun e => ⟨s0, c_liveDaysE a ok Lu hw e36 (fun h2 s2 no => ⟨_, rfl, fun q => absurd rfl q, fun _ => stop h2 s2 no⟩) (fun m em hm hd h2 L2 _ => ?_)⟩, fun e => ⟨s0, ?_⟩⟩
  · have hv := hq h2 L2.1
    rw [good m em hm hd (Or.inl e)] at hv
    unfold pV at hv
    rw [if_pos e] at hv
    refine ⟨_, rfl, fun _ => ⟨fun q => absurd e q, fun _ => ⟨L2.2.1.1.1.1, ?_⟩⟩, fun q => absurd q (by decide)⟩
    rw [L2.2.2.2.2]
    exact hv
  · have mc := Lu.2.1
    refine c_misOne mc.1 ⟨_, rfl, fun q1 => bad _ Lu.1 (fun t G => ?_), fun q1 => ⟨s0, c_liveDaysE a ok Lu hw e36 (fun h2 s2 no => ⟨_, rfl, fun q => absurd rfl q, fun _ => stop h2 s2 no⟩) (fun m em hm hd h2 L2 _ => ?_)⟩⟩
    · have t2 := G.2
      rw [kk t G] at t2
      rcases t2 with e2 | e2
      · exact e e2
      · rw [b2i_0.mp q1] at e2; cases e2
    · have hv := hq h2 L2.1
      rw [good m em hm hd (Or.inr (b2i_n0.mp q1))] at hv
      unfold pV at hv
      rw [if_neg e] at hv
      obtain ⟨p, hp, rfl⟩ := sp_in_ix (by have := ok.2.1; omega) (b2i_n0.mp q1)
      obtain ⟨e1, e2⟩ := mo_pu L2.2.1.1.1
      refine ⟨_, rfl, fun _ => ⟨fun _ => ⟨L2.2.1.1.1.1, _, e1, by rw [e2], by rw [e2]; exact vp_in_nI (by have := ok.2.1; omega) (by decide), ?_⟩, fun q => absurd q e⟩, fun q => absurd q (by decide)⟩
      rw [nI_clamp (by have := ok.2.1; omega)] at hv ⊢
      rw [show ax_i h2 (77 + 13) p = _ from L2.2.1.2.1 p hp]
      exact hv
theorem g_purse (a : IV h S Im tp) (b : 103 ≤ h.1 ∧ h.1 ≤ B) (x1 x2 x3 x4 : Int32) : prI (mX9_purse g) (mX10_purse g) [.ref 0, .int x1, .int x2, .int x3, .int x4] [.ref 77, .int x1, .int x2, .int x3, .int x4] h (inv B) := by
  obtain ⟨V, hV⟩ := ans_ex (pG (s_z S) (s_D S) (s_N S) (s_C S) x1 x2 x3 x4) (pV (s_D S) (s_C S) x4) (-1000000)
  exact pr_q V a b (fun Ret k => q9_purse (iv_tc a) hV k) (fun h1 Ret a1 k => q10_purse (iv_tc a1) hV k)
/-! LIKELY: the same answer -/
def lG (z : Nat → Nat) (DD : Nat → rD) (N : Nat → Nat → Nat) (C : Nat → Nat → Nat → Nat → Int32) (x1 x2 x3 : Int32) (t : Nat × Nat × Nat) : Prop := wkG z DD N C x1 x2 x3 t ∧ t.2.2 ≤ 6
def lV (DD : Nat → rD) (C : Nat → Nat → Nat → Nat → Int32) (x4 : Int32) (t : Nat × Nat × Nat) : Int64 := sp_sd (lkU (DD t.1) (wkY C t.2.1) t.2.2) (lkD (DD t.1) (wkY C t.2.1) t.2.2) x4
theorem q9_likely {x1 x2 x3 x4 : Int32} {V : Int64} (a : tc h z DD N C) (hV : ansE (lG z DD N C x1 x2 x3) (lV DD C x4) (-1) V) (hq : ∀ h', ax_same cl_F h h' → Ret (some (.long V)) h') : mX9_likely g [.ref 0, .int x1, .int x2, .int x3, .int x4] h Ret := by
  have z0 := a.2.2.2.2.1 0 (by decide)
  have z1 := a.2.2.2.2.1 1 (by decide)
  have bad : ∀ h', ax_same cl_F h h' → (∀ t, ¬ lG z DD N C x1 x2 x3 t) → Ret (some (.long (-1))) h' := fun h' hs n => by
    have hv := hq h' hs
    rw [ans_no hV n] at hv
    exact hv
  have big : ∀ t, (6 : Int32) < x3 → ¬ lG z DD N C x1 x2 x3 t := fun t q G => by
    rw [G.1.2.2.2.2.1] at q
    exact nI_nlt (a := 6) (b := t.2.2) G.2 (by decide) q
  refine uX9_likely (fun A hA => vX9_likely_0 hA ⟨a.1.1, q_begun a (fun q => Or.inr ⟨rfl, a.1.1, _, a.1.2.1.1, a.2.2.1.1.1, c_linesAt (s0 := 1) a.2.2.1 (by decide) (by decide) (fun _ => Or.inr ⟨rfl, bad h sm_rf (fun t G => in_no q z0 G.1.1 G.1.2.1)⟩) (fun k hk ex => Or.inl ⟨_, rfl, bad h sm_rf (fun t G => in_no q z0 G.1.1 G.1.2.1)⟩)⟩) (fun k hk ex ok h' hs xs hc => Or.inl ⟨_, rfl, ?_⟩)⟩)
  have b := tc_cl hs a
  have kk : ∀ t, lG z DD N C x1 x2 x3 t → t.1 = k := fun t G => (nI_eq (by have := G.1.1; omega) (by omega)).mp (G.1.2.1.symm.trans ex)
  refine ⟨b.1.1, _, b.1.2.1.1, b.2.2.1.1.1, c_linesAt (s0 := 1) b.2.2.1 (by decide) (by decide) (fun q => Or.inr ⟨rfl, fun _ => bad h' hs (fun t G => in_no q z1 G.1.2.2.1 G.1.2.2.2.1), fun _ => c_stopsN ⟨_, rfl, fun q => absurd q (by decide), fun _ => bad h' hs (fun t G => in_no q z1 G.1.2.2.1 G.1.2.2.2.1)⟩⟩) (fun w hw ew => Or.inl ⟨_, rfl, fun q6 => bad h' hs (fun t => big t q6), fun q6 => c_stopsE hc.1 (b.2.2.1.2.2.2 1 w (by decide) (by decide) hw) (fun no => ⟨_, rfl, fun q => absurd q (by decide), fun _ => bad h' hs (fun t G => ?_)⟩) (fun m em hm hd => ⟨_, rfl, fun _ => ?_, fun q => absurd rfl q⟩)⟩)⟩
  · have ww : t.2.1 = w := (nI_eq (by have := G.1.2.2.1; omega) (by omega)).mp (G.1.2.2.2.1.symm.trans ew)
    have e := G.1.2.2.2.2
    rw [kk t G, ww] at e
    exact no t.2.2 e.1 e.2.1 e.2.2
  · subst em
    have n14 : N 1 w ≤ 14 := (b.2.2.1.2.2.2 1 w (by decide) (by decide) hw).2.1
    have m6 : m ≤ 6 := Nat.le_of_not_lt (fun q => q6 (nI_lt (a := 6) q (by omega)))
    have Gt : lG z DD N C x1 x2 (nI m) (k, w, m) := ⟨⟨hk, ex, hw, ew, rfl, hm, hd⟩, m6⟩
    have eV := ans_yes hV Gt (fun t' G' => wkG_u a.2.2.2.2 Gt.1 G'.1)
    have H12 := ok.1.2
    have key : ∀ n i : Nat, i + n = m → ∀ hh, lgE h hh (DD k) (lvW (DD k) (wkY C w) i) → ∀ (o12 : Option Value), A (53, [some (.ref 0), some (.int x1), some (.int x2), some (.int (nI m)), some (.int x4), some (.ref (6 + 14 * k)), some (.ref (lnp 1 1 w)), some (.long (lkU (DD k) (wkY C w) i)), none, some (.long (lkD (DD k) (wkY C w) i)), none, some (.int (nI i)), o12], [], hh, 0, 0) := by
      intro n
      induction n with
      | zero =>
        intro i hi hh L o12
        have e : i = m := by omega
        subst e
        have bd := lk_bd ok (wkY C w) i m6
        have hv := hq hh L.1
        rw [eV] at hv
        exact vX9_likely_53 hA ⟨fun _ => c_side (by omega) bd.2.1 ⟨_, rfl, hv⟩, fun q => absurd (nI_le (by omega) (by omega)) q⟩
      | succ n ih =>
        intro i hi hh L o12
        have c := tc_cl L.1 a
        have co := L.2
        have li := c.2.2.1.2.2.2 1 w (by decide) (by decide) hw
        obtain ⟨y, hy, ey⟩ := sp_in_ix (by omega) (hd i (by omega))
        have ey2 : wkY C w i = y := by unfold wkY; rw [ey, nI_clamp (by omega)]
        have ev : lvW (DD k) (wkY C w) (i + 1) = (fun p => lvW (DD k) (wkY C w) i p + sp_vl (DD k) p y) := by rw [← ey2]; rfl
        refine vX9_likely_53 hA ⟨fun q => absurd q (nI_ge (by omega) (by omega)), fun _ => ⟨li.1.1, c_lcell (by decide) (by decide) li ⟨_, rfl, c.1.1, _, c.1.2.1.2.2.2.2.1, c.1.1, _, c.1.2.1.2.2.2.1, co.1.1, c_poorest co ⟨_, rfl, c.1.2.2.2.1.1, c_weigh c.1.2.2.2.1 (c.2.2.1.2.2.1 k hk) (fun j hj q => by unfold od_F at q; have := a.2.2.2.2.1 0 (by decide); omega) (fun h2 s2 od => ⟨rfl, ?_⟩)⟩⟩⟩⟩
        rw [show sp_lc (N 1 w) (lw 1) (C 1 w) (nI i) 0 = C 1 w i 0 from lc_in n14 (by decide) (by omega) (by decide)]
        rw [ey]
        have s3 : ax_same cl_F h h2 := sm_tr L.1 (sm_mono s2 (fun x q => by unfold od_F at q; unfold cl_F; omega))
        have c2 := tc_cl s3 a
        have co2 := co_at_same s2 (by refine ⟨?_, ?_, ?_⟩ <;> (intro q; unfold od_F at q; omega)) co
        refine ⟨c2.1.1, _, c2.1.2.1.2.2.2.2.1, od.1.1, _, od.1.2.1, by rw [od.1.2.2], by rw [od.1.2.2]; exact vp_in_nI (by omega) (by decide), c2.1.1, _, c2.1.2.1.2.2.2.2.1, od.1.1, c2.1.1, _, c2.1.2.1.2.2.2.1, co2.1.1, lg_live ok ⟨s3, co2⟩ hy (fun h4 L4 s4 => ⟨rfl, ?_⟩)⟩
        rw [nI_clamp (by omega), od.2.2.2.2 y hy, od.2.2.2.1, ← nI_succ]
        have st := ih (i + 1) (by omega) h4 (by rw [ev]; exact L4) (some (.int (nI y)))
        rw [show lkU (DD k) (wkY C w) (i + 1) = lkU (DD k) (wkY C w) i * (sp_w (DD k) (sp_po (dP (DD k)) (lvW (DD k) (wkY C w) i)) (wkY C w i)).toInt64 from rfl, ey2] at st
        exact st
    exact key m 0 (by omega) h' ⟨hs, hc.2.1⟩ _
theorem q10_likely {x1 x2 x3 x4 : Int32} {V : Int64} (a : tc h z DD N C) (hV : ansE (lG z DD N C x1 x2 x3) (lV DD C x4) (-1) V) (hq : ∀ h', ax_same md_F h h' → Ret (some (.long V)) h') : mX10_likely g [.ref 77, .int x1, .int x2, .int x3, .int x4] h Ret := by
  have z0 := a.2.2.2.2.1 0 (by decide)
  have z1 := a.2.2.2.2.1 1 (by decide)
  have bad : ∀ h', ax_same md_F h h' → (∀ t, ¬ lG z DD N C x1 x2 x3 t) → Ret (some (.long (-1))) h' := fun h' hs n => by
    have hv := hq h' hs
    rw [ans_no hV n] at hv
    exact hv
  obtain ⟨a1, T1, hs1⟩ := q_code (v := 0) a.2.1 a.2.2.2.1
  refine eX10_likely ⟨a.2.1.1, ?_⟩
  intro h1
  refine c_min ⟨_, rfl, fun q => bad _ hs1 (fun t G => ?_), fun q6 => ⟨a1.1, q_hand a1 T1 a.2.2.2.2 (fun q => ⟨_, rfl, fun _ => bad _ hs1 (fun t G => in_no q z0 G.1.1 G.1.2.1), fun q => absurd rfl q⟩) (fun k hk ex ok h' hs hm => ⟨_, rfl, fun q => absurd q (by decide), fun _ => ⟨hm.1.1.1.1, ?_⟩⟩)⟩⟩
  · have f := of_decide_eq_false (b2i_0.mp q)
    have g2 := G.2
    rw [G.1.2.2.2.2.1] at f
    exact f ⟨nI_pos' (by omega), nI_le (b := 6) g2 (by decide)⟩
  have L := lm_hm (sm_tr hs1 hs) hm
  have b := tc_md L.1 a
  have kk : ∀ t, lG z DD N C x1 x2 x3 t → t.1 = k := fun t G => (nI_eq (by have := G.1.1; omega) (by omega)).mp (G.1.2.1.symm.trans ex)
  have Lu : lmE h (ax_pi h' 77 36 x2) k (DD k) (dpu (DD k)) := lm_mr L (mr_f (J := fun j => j = 36) (F := fun _ => False) rfl) (fun j hj => by omega) (fun a ha => ha.elim)
  have s0 : (ax_s (ax_pi h' 77 36 x2) 77).1 = 10 := b.2.1.1
  refine c_mhasWeek b.2.1 b.2.2.2.1 b.2.2.2.2 ⟨_, rfl, fun q => bad _ Lu.1 (fun t G => in_no (b2i_0.mp q) z1 G.1.2.2.1 G.1.2.2.2.1), fun q => ?_⟩
  obtain ⟨w, hw, ew⟩ := sp_in_ix (by omega) (b2i_n0.mp q)
  have e36 : ax_i (ax_pi h' 77 36 x2) 77 36 = nI w := by rw [← ew]; exact ai_eq
  refine ⟨s0, c_liveDaysE a ok Lu hw e36 (fun h2 s2 no => ⟨_, rfl, fun q => absurd rfl q, fun _ => bad h2 s2 (fun t G => ?_)⟩) (fun m em hm hd h2 L2 lk => ?_)⟩
  · have ww : t.2.1 = w := (nI_eq (by have := G.1.2.2.1; omega) (by omega)).mp (G.1.2.2.2.1.symm.trans ew)
    have e := G.1.2.2.2.2
    rw [kk t G, ww] at e
    exact no t.2.2 e.1 e.2.1 e.2.2
  · have n14 : N 1 w ≤ 14 := (a.2.2.2.2.2.2 1 w (by decide) (by decide) hw).1
    have m6 : m ≤ 6 := by
      have := (of_decide_eq_true (b2i_n0.mp q6)).2
      rw [em] at this
      exact (nI_leI (b := 6) (by omega) (by decide)).mp this
    have Gt : lG z DD N C x1 x2 x3 (k, w, m) := ⟨⟨hk, ex, hw, ew, em, hm, hd⟩, m6⟩
    have hv := hq h2 L2.1
    rw [ans_yes hV Gt (fun t' G' => wkG_u a.2.2.2.2 Gt.1 G'.1)] at hv
    have bd := lk_bd ok (wkY C w) m m6
    obtain ⟨l1, l2⟩ := lk m6
    have s2 := L2.2.1.1.1.1
    refine ⟨_, rfl, fun _ => ⟨s2, s2, ?_⟩, fun q => absurd q (by decide)⟩
    rw [l1, l2]
    exact c_part (by omega) bd.2.1 ⟨_, rfl, hv⟩
theorem g_likely (a : IV h S Im tp) (b : 103 ≤ h.1 ∧ h.1 ≤ B) (x1 x2 x3 x4 : Int32) : prL (mX9_likely g) (mX10_likely g) [.ref 0, .int x1, .int x2, .int x3, .int x4] [.ref 77, .int x1, .int x2, .int x3, .int x4] h (inv B) := by
  obtain ⟨V, hV⟩ := ans_ex (lG (s_z S) (s_D S) (s_N S) (s_C S) x1 x2 x3) (lV (s_D S) (s_C S) x4) (-1)
  exact pr_ql V a b (fun Ret k => q9_likely (iv_tc a) hV k) (fun h1 Ret a1 k => q10_likely (iv_tc a1) hV k)
end
