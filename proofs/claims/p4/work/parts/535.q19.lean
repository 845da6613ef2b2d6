section
variable {g : ax_G} {Ret : Option Value → ax_H → Prop} {h : ax_H} {z : Nat → Nat} {DD : Nat → rD} {N : Nat → Nat → Nat} {C : Nat → Nat → Nat → Nat → Int32} {S : sT} {Im : Nat → Option sT} {tp : Nat → Nat} {B : Nat}
/-! PLAN and FREE, of the class -/
def plF : Nat → Prop := fun a => 59 ≤ a ∧ a ≤ 65
theorem ch_pl {h' : ax_H} (c : chR h h') : ax_same plF h h' := sm_mono c.1 (fun x e => by unfold chF at e; unfold plF; omega)
theorem pl_cl {h' : ax_H} (s : ax_same plF h h') : ax_same cl_F h h' := sm_mono s (fun x e => by unfold plF at e; unfold cl_F; omega)
section
variable {r l n H2 : Nat} {D : rD} {C1 : Nat → Nat → Int32} {w : Nat → Int32} {t : Int32}
theorem pl_kp {h' : ax_H} (s : ax_same plF h h') (pl : pl_st h 59) (rc : rc_at h r D) (hr : r + 6 ≤ 59) (od : od_at h 55 H2 w t) (L : li_at h l 2 n C1) (hl : l + 2 ≤ 59) : pl_st h' 59 ∧ rc_at h' r D ∧ od_at h' 55 H2 w t ∧ li_at h' l 2 n C1 := ⟨pl_st_same s pl, rc_at_same s (fun j hj q => by unfold plF at q; omega) rc, od_at_same s (by refine ⟨?_, ?_⟩ <;> (intro q; unfold plF at q; omega)) od, li_at_same s (by refine ⟨?_, ?_⟩ <;> (intro q; unfold plF at q; omega)) L⟩
theorem c_planBlind (pl : pl_st h 59) (rc : rc_at h r D) (hr : r + 6 ≤ 59) (od : od_at h 55 H2 w t) (L : li_at h l 2 n C1) (hl : l + 2 ≤ 59) (h0 : ∀ h', ax_same plF h h' → Ret (some (.int 0)) h') (h1 : ∀ h', ax_same plF h h' → bL 549755813888 (ax_l h' 59 1) → Ret (some (.int 1)) h') : mX4_planBlind g [.ref 59, .ref r, .ref 55, .ref l] h Ret := by
  refine eX4_planBlind ⟨pl.1, c_choose pl rc hr od (Or.inl rfl) L hl (fun h2 c2 => ⟨_, rfl, fun q => absurd rfl q, fun _ => ⟨Or.inl rfl, h0 h2 (ch_pl c2)⟩⟩) (fun h2 c2 b2 => ⟨_, rfl, fun _ => ?_, fun q => absurd q (by decide)⟩)⟩
  have p := pl_st_same c2.1 pl
  refine ⟨p.1, p.1, ?_⟩
  intro u4
  have p4 : pl_st u4 59 := p
  refine ⟨p4.1, _, p4.2.1.2.1, p4.1, _, p4.2.1.1, by rw [p4.2.2.1], by rw [p4.2.2.2.1], ⟨by decide, by decide, by decide, by rw [p4.2.2.2.1]; decide, by rw [p4.2.2.1]; decide⟩, Or.inl rfl, by decide, ?_⟩
  intro u7
  refine ⟨Or.inr rfl, h1 u7 (sm_tr (ch_pl c2) (sm_tr (sm_pl ⟨Nat.le_refl _, by decide⟩) (sm_row ⟨by decide, by decide⟩))) ?_⟩
  show bL _ (ax_l (ax_pl h2 59 1 (ax_l h2 59 4)) 59 1)
  rw [al_pl, if_pos ⟨rfl, rfl⟩]; exact b2
theorem c_blindBy {x : Int32} (pl : pl_st h 59) (rc : rc_at h r D) (L : li_at h l 2 n C1) (hq : ∀ v : Int64, Ret (some (.long v)) h) : mX4_blindBy g [.ref 59, .ref r, .ref l, .int x] h Ret := by
  have n6 : n ≤ 6 := L.2.1
  refine uX4_blindBy (fun A hA => vX4_blindBy_0 hA ?_)
  have key : ∀ m i : Nat, i + m = n → ∀ (x4 : Int64) (o7 : Option Value), A (6, [some (.ref 59), some (.ref r), some (.ref l), some (.int x), some (.long x4), none, some (.int (nI i)), o7], [], h, 0, 0) := by
    intro m
    induction m with
    | zero =>
      intro i hi x4 o7
      refine vX4_blindBy_6 hA ⟨L.1.1, fun _ => hq _, fun q => ?_⟩
      rw [L.2.2.1] at q; exact absurd (nI_le (by omega) (by omega)) q
    | succ m ih =>
      intro i hi x4 o7
      have K : ∀ (x4 : Int64) (o7 : Option Value), A (6, [some (.ref 59), some (.ref r), some (.ref l), some (.int x), some (.long x4), none, some (.int (nI i + 1)), o7], [], h, 0, 0) := fun x4 o7 => by rw [← nI_succ]; exact ih (i + 1) (by omega) _ _
      exact vX4_blindBy_6 hA ⟨L.1.1, fun _ => hq _, fun _ => ⟨fun _ => hq _, fun _ => ⟨L.1.1, c_lcell (by decide) (by decide) L ⟨_, rfl, rc.1.1, c_worthOf rc ⟨_, rfl, pl.1, _, pl.2.1.1, by rw [pl.2.2.1], by rw [pl.2.2.1]; exact vp_in_nI (by omega) (by decide), fun _ => K _ _, fun _ => ⟨rc.1.1, c_extraOf rc ⟨_, rfl, K _ _⟩⟩⟩⟩⟩⟩⟩
  exact key n 0 (by omega) _ _
theorem c_know {H : Nat} {x : Int32} (od : od_st h 64) (hH : H ≤ 12) (hq : ∀ h', ax_same (od_F 64) h h' → od_at h' 64 H (fun q => ax_i h' 65 q) 1 → Ret none h') : mX3_know g [.ref 64, .int (nI H), .int x] h Ret := by
  refine uX3_know (fun A hA => vX3_know_0 hA ⟨od.1, ?_⟩)
  intro u1
  refine ⟨od.1, ?_⟩
  intro u2
  have key : ∀ m i : Nat, i + m = H → ∀ hh, ax_same (od_F 64) h hh → ax_i hh 64 1 = nI H → ax_i hh 64 2 = 1 → ∀ o1 : Option Value, A (12, [some (.ref 64), o1, some (.int x), some (.int (nI i))], [], hh, 0, 0) := by
    intro m
    induction m with
    | zero =>
      intro i hi hh s e1 e2 o1
      have o := od_st_same s od
      refine vX3_know_12 hA ⟨o.1, fun _ => hq hh s ⟨o, hH, e1, e2, fun q _ => rfl⟩, fun q => ?_⟩
      rw [e1] at q; exact absurd (nI_le (by omega) (by omega)) q
    | succ m ih =>
      intro i hi hh s e1 e2 o1
      have o := od_st_same s od
      have v12 : vp_in (nI i) (ax_s hh (64 + 1)).2 := by rw [o.2.2]; exact vp_in_nI (by omega) (by decide)
      have s11 : (ax_s hh (64 + 1)).1 = 11 := by rw [o.2.2]
      have K : ∀ v : Int32, A (12, [some (.ref 64), o1, some (.int x), some (.int (nI i + 1))], [], ax_pi hh 65 (nI i).toNatClampNeg v, 0, 0) := fun v => by
        rw [← nI_succ]
        exact ih (i + 1) (by omega) _ (sm_tr s (sm_pi (Or.inr rfl))) (by rw [ai_pi, if_neg (by omega)]; exact e1) (by rw [ai_pi, if_neg (by omega)]; exact e2) _
      refine vX3_know_12 hA ⟨o.1, fun q => ?_, fun _ => ⟨o.1, _, o.2.1, fun _ => ⟨s11, v12, K _⟩, fun _ => ⟨s11, v12, K _⟩⟩⟩
      rw [e1] at q; exact absurd q (nI_ge (by omega) (by omega))
  refine key H 0 (by omega) u2 (sm_tr (sm_pi (Or.inl rfl)) (sm_pi (Or.inl rfl))) ?_ ?_ _
  · show ax_i (ax_pi (ax_pi h 64 1 (nI H)) 64 2 1) 64 1 = nI H
    rw [ai_pi, if_neg (by decide), ai_pi, if_pos ⟨rfl, rfl⟩]
  · show ax_i (ax_pi (ax_pi h 64 1 (nI H)) 64 2 1) 64 2 = 1
    rw [ai_pi, if_pos ⟨rfl, rfl⟩]
theorem c_planKnowing (pl : pl_st h 59) (rc : rc_at h r D) (hr : r + 6 ≤ 59) (od : od_at h 55 (dH D) w t) (hw : ∀ q, 0 ≤ (w q).toInt ∧ (w q).toInt ≤ 9) (L : li_at h l 2 n C1) (hl : l + 2 ≤ 59) (b1 : bL 549755813888 (ax_l h 59 1)) (hq : ∀ h', ax_same plF h h' → bL 549755813888 (ax_l h' 59 1) → bL 59373627899904 (ax_l h' 59 2) → Ret none h') : mX4_planKnowing g [.ref 59, .ref r, .ref 55, .ref l] h Ret := by
  have H12 := rc.2.1.1
  refine uX4_planKnowing (fun A hA => vX4_planKnowing_0 hA ⟨pl.1, ?_⟩)
  intro u1
  refine ⟨pl.1, ?_⟩
  intro u2
  have key : ∀ m i : Nat, i + m = dH D → ∀ hh, ax_same plF h hh → bL 549755813888 (ax_l hh 59 1) → bL (4947802324992 * i) (ax_l hh 59 2) → ∀ (x4 : Int64) (o7 o8 : Option Value), A (16, [some (.ref 59), some (.ref r), some (.ref 55), some (.ref l), some (.long x4), none, some (.int (nI i)), o7, o8], [], hh, 0, 0) := by
    intro m
    induction m with
    | zero =>
      intro i hi hh s c1 c2 x4 o7 o8
      obtain ⟨p, rc, od, L⟩ := pl_kp s pl rc hr od L hl
      refine vX4_planKnowing_16 hA ⟨rc.1.1, fun _ => hq hh s c1 (bL_mono c2 (by omega)), fun q => ?_⟩
      rw [rc.2.2.1.1] at q; exact absurd (nI_le (by omega) (by omega)) q
    | succ m ih =>
      intro i hi hh s c1 c2 x4 o7 o8
      obtain ⟨p, rc1, od1, L1⟩ := pl_kp s pl rc hr od L hl
      refine vX4_planKnowing_16 hA ⟨rc1.1.1, fun q => ?_, fun _ => ⟨p.1, _, p.2.1.2.2.2.2, rc1.1.1, p.2.2.2.2.2.2.1, ?_⟩⟩
      · rw [rc1.2.2.1.1] at q; exact absurd q (nI_ge (by omega) (by omega))
      · rw [rc1.2.2.1.1]
        refine c_know p.2.2.2.2.2.2 H12 (fun h2 s2 kn => ⟨rfl, ?_⟩)
        have sp2 : ax_same plF hh h2 := sm_mono s2 (fun x e => by unfold od_F at e; unfold plF; omega)
        have k1 : ∀ j, ax_l h2 59 j = ax_l hh 59 j := fun j => (s2.2.2.2 59 (by unfold od_F; decide)).2 j
        obtain ⟨p2, rc2, od2, L2⟩ := pl_kp (sm_tr s sp2) pl rc hr od L hl
        have s11 : (ax_s h2 (55 + 1)).1 = 11 := by rw [od2.1.2.2]
        have v12 : vp_in (nI i) (ax_s h2 (55 + 1)).2 := by rw [od2.1.2.2]; exact vp_in_nI (by omega) (by decide)
        refine ⟨od2.1.1, _, od2.1.2.1, s11, v12, fun _ => ?_, fun _ => ⟨p2.1, _, p2.2.1.2.2.2.2, p2.1, c_choose p2 rc2 hr kn (Or.inr rfl) L2 hl (fun h3 c3 => ⟨_, rfl, fun q => absurd rfl q, fun _ => ?_⟩) (fun h3 c3 b3 => ⟨_, rfl, fun _ => ?_, fun q => absurd q (by decide)⟩)⟩⟩
        · rw [← nI_succ]
          exact ih (i + 1) (by omega) h2 (sm_tr s sp2) (by rw [k1]; exact c1) (by rw [k1]; exact bL_mono c2 (by omega)) _ _ _
        · rw [← nI_succ]
          exact ih (i + 1) (by omega) h3 (sm_tr (sm_tr s sp2) (ch_pl c3)) (by rw [c3.2 1 (by decide), k1]; exact c1) (by rw [c3.2 2 (by decide), k1]; exact bL_mono c2 (by omega)) _ _ _
        · obtain ⟨p3, rc3, od3, L3⟩ := pl_kp (sm_tr (sm_tr s sp2) (ch_pl c3)) pl rc hr od L hl
          have t11 : (ax_s h3 (55 + 1)).1 = 11 := by rw [od3.1.2.2]
          have w12 : vp_in (nI i) (ax_s h3 (55 + 1)).2 := by rw [od3.1.2.2]; exact vp_in_nI (by omega) (by decide)
          refine ⟨rfl, p3.1, od3.1.1, _, od3.1.2.1, t11, w12, p3.1, ?_⟩
          intro z12
          have bz : bL (4947802324992 * (i + 1)) z12 := by
            show bL _ (ax_l h3 59 2 + (ax_i h3 (55 + 1) (nI i).toNatClampNeg).toInt64 * ax_l h3 59 4)
            rw [nI_clamp (by omega), od3.2.2.2.2 i (by omega), c3.2 2 (by decide), k1]
            have bw := hw i
            exact bL_mono (bL_add c2 (bL_mul (a := 9) (b := 549755813888) (by decide) (by decide) (bL_32 (x := w i) (by omega)) b3 (by decide)) (by omega)) (by omega)
          refine ⟨p3.1, ?_⟩
          intro u13
          have s13 : ax_same plF h u13 := sm_tr (sm_tr (sm_tr s sp2) (ch_pl c3)) (sm_pl ⟨Nat.le_refl _, by decide⟩)
          obtain ⟨p4, rc4, od4, L4⟩ := pl_kp s13 pl rc hr od L hl
          have d1 : bL 549755813888 (ax_l u13 59 1) := by
            show bL _ (ax_l (ax_pl h3 59 2 z12) 59 1)
            rw [al_pl, if_neg (by decide), c3.2 1 (by decide), k1]; exact c1
          have d2 : bL (4947802324992 * (i + 1)) (ax_l u13 59 2) := by
            show bL _ (ax_l (ax_pl h3 59 2 z12) 59 2)
            rw [al_pl, if_pos ⟨rfl, rfl⟩]; exact bz
          refine ⟨p4.1, p4.1, c_blindBy p4 rc4 L4 (fun v => ⟨_, rfl, fun _ => ?_, fun _ => ⟨p4.1, ?_⟩⟩)⟩
          · rw [← nI_succ]
            exact ih (i + 1) (by omega) u13 s13 d1 (bL_mono d2 (by omega)) _ _ _
          · intro u17
            rw [← nI_succ]
            exact ih (i + 1) (by omega) u17 (sm_tr s13 (sm_pi ⟨Nat.le_refl _, by decide⟩)) d1 (bL_mono d2 (by omega)) _ _ _
  exact key (dH D) 0 (by omega) u2 (sm_tr (sm_pl ⟨Nat.le_refl _, by decide⟩) (sm_pi ⟨Nat.le_refl _, by decide⟩)) (by show bL _ (ax_l (ax_pl h 59 2 0) 59 1); rw [al_pl, if_neg (by decide)]; exact b1) (by show bL _ (ax_l (ax_pl h 59 2 0) 59 2); rw [al_pl, if_pos ⟨rfl, rfl⟩]; unfold bL; decide) _ _ _
end
theorem t9_plan {x1 x2 x3 : Int32} (a : tc h z DD N C) (pl : pl_st h 59) (hq : ∀ (v : Int32) h', ax_same cl_F h h' → Ret (some (.int v)) h') : mX9_plan g [.ref 0, .int x1, .int x2, .int x3] h Ret := by
  refine eX9_plan ⟨a.1.1, q_begun a (fun q => Or.inr ⟨rfl, a.1.1, _, a.1.2.1.1, a.2.2.1.1.1, c_linesAt (s0 := 2) a.2.2.1 (by decide) (by decide) (fun _ => Or.inr ⟨rfl, hq _ h sm_rf⟩) (fun k hk ex => Or.inl ⟨_, rfl, hq _ h sm_rf⟩)⟩) (fun k hk ex ok h' hs xs hc => Or.inl ⟨_, rfl, ?_⟩)⟩
  have b := tc_cl hs a
  have k2 : k < 2 := by have := a.2.2.2.2.1 0 (by decide); omega
  refine ⟨b.1.1, _, b.1.2.1.1, b.2.2.1.1.1, c_linesAt (s0 := 2) b.2.2.1 (by decide) (by decide) (fun _ => Or.inr ⟨rfl, hq _ h' hs⟩) (fun w hw ew => Or.inl ⟨_, rfl, ?_⟩)⟩
  have w2 : w < 2 := by have := a.2.2.2.2.1 2 (by decide); omega
  have L := b.2.2.1.2.2.2 2 w (by decide) (by decide) hw
  have p := pl_st_same hs pl
  have hr : 6 + 14 * k + 6 ≤ 59 := by omega
  have hl : lnp 1 2 w + 2 ≤ 59 := by unfold lnp; omega
  refine ⟨b.1.1, _, b.1.2.1.2.2.2.2.2.2.1, b.1.1, _, b.1.2.1.2.2.2.2.1, p.1, c_planBlind p hc.1 hr hc.2.2 L hl (fun h2 s2 => ⟨_, rfl, fun q => absurd rfl q, fun _ => hq _ h2 (sm_tr hs (pl_cl s2))⟩) (fun h2 s2 b2 => ⟨_, rfl, fun _ => ?_, fun q => absurd q (by decide)⟩)⟩
  obtain ⟨p2, rc2, od2, L2⟩ := pl_kp s2 p hc.1 hr hc.2.2 L hl
  have x2' := xs_st_same s2 xs
  have fin : ∀ (v : Int32) h3, ax_same plF h2 h3 → Ret (some (.int v)) h3 := fun v h3 s3 => hq v h3 (sm_tr hs (pl_cl (sm_tr s2 s3)))
  have r0 := x2'.1
  have r6 := x2'.2.1.2.2.2.2.2.2.1
  have r4 := x2'.2.1.2.2.2.2.1
  have side : ∀ (u : Int32) (v : Int64) h3, ax_same plF h2 h3 → bL 59923383713792 v → mX1_side g [.long v, .long (sp_t (DD k) (rul (DD k))).toInt64, .int u] h3 (fun v16 h15 => ∃ r17 : Int64, v16 = some (.long r17) ∧ Ret (some (.int r17.toInt32)) h15) := fun u v h3 s3 bv => c_side (by unfold bL at bv; omega) (t_pos ok) ⟨_, rfl, fin _ h3 s3⟩
  have kn : ∀ K : Option Value → ax_H → Prop, (∀ h3, ax_same plF h2 h3 → xs_st h3 → pl_st h3 59 → od_at h3 55 (dH (DD k)) (sp_w (DD k) (rul (DD k))) (sp_t (DD k) (rul (DD k))) → bL 549755813888 (ax_l h3 59 1) → bL 59373627899904 (ax_l h3 59 2) → K none h3) → mX4_planKnowing g [.ref 59, .ref (6 + 14 * k), .ref 55, .ref (lnp 1 2 w)] h2 K := fun K hK => c_planKnowing p2 rc2 hr od2 (fun q => sp_w_bd ok _ q) L2 hl b2 (fun h3 s3 c1 c2 => hK h3 s3 (xs_st_same s3 x2') (pl_st_same s3 p2) (od_at_same s3 (by refine ⟨?_, ?_⟩ <;> (intro q; unfold plF at q; omega)) od2) c1 c2)
  refine ⟨fun _ => ⟨fun _ => ⟨r0, _, r6, p2.1, r0, _, r4, od2.1.1, ?_⟩, fun _ => ⟨fun _ => ⟨r0, _, r6, p2.1, r0, _, r4, od2.1.1, ?_⟩, fun _ => ⟨fun _ => ⟨r0, _, r6, r0, _, r4, p2.1, kn _ (fun h3 s3 x3 p3 o3 c1 c2 => ⟨rfl, x3.1, _, x3.2.1.2.2.2.2.2.2.1, p3.1, x3.1, _, x3.2.1.2.2.2.2.1, o3.1.1, ?_⟩)⟩, fun _ => ⟨fun _ => ⟨r0, _, r6, r0, _, r4, p2.1, kn _ (fun h3 s3 x3 p3 o3 c1 c2 => ⟨rfl, x3.1, _, x3.2.1.2.2.2.2.2.2.1, p3.1, x3.1, _, x3.2.1.2.2.2.2.1, o3.1.1, ?_⟩)⟩, fun _ => ⟨fun _ => ⟨r0, _, r6, r0, _, r4, p2.1, kn _ (fun h3 s3 x3 p3 o3 c1 c2 => ⟨rfl, x3.1, _, x3.2.1.2.2.2.2.2.2.1, p3.1, x3.1, _, x3.2.1.2.2.2.2.2.2.1, p3.1, x3.1, _, x3.2.1.2.2.2.2.1, o3.1.1, ?_⟩)⟩, fun _ => ⟨fun _ => ⟨r0, _, r6, r0, _, r4, p2.1, kn _ (fun h3 s3 x3 p3 o3 c1 c2 => ⟨rfl, x3.1, _, x3.2.1.2.2.2.2.2.2.1, p3.1, x3.1, _, x3.2.1.2.2.2.2.2.2.1, p3.1, x3.1, _, x3.2.1.2.2.2.2.1, o3.1.1, ?_⟩)⟩, fun _ => ⟨fun _ => ⟨r0, _, r6, r0, _, r4, p2.1, kn _ (fun h3 s3 x3 p3 o3 c1 c2 => ⟨rfl, x3.1, _, x3.2.1.2.2.2.2.2.2.1, p3.1, fin _ h3 s3⟩)⟩, fun _ => fin _ h2 sm_rf⟩⟩⟩⟩⟩⟩⟩, fun _ => ⟨L2.1.1, c_lhas L2 ⟨_, rfl, fun _ => fin _ h2 sm_rf, fun q => ⟨r0, _, r6, p2.1, _, p2.2.1.1, by rw [p2.2.2.1], ?_, fin _ h2 sm_rf⟩⟩⟩⟩
  · rw [od2.2.2.2.1]; exact ⟨fun _ => side _ _ h2 sm_rf (bL_mono b2 (by decide)), fun _ => side _ _ h2 sm_rf (bL_mono b2 (by decide))⟩
  · rw [od2.2.2.2.1]; exact ⟨fun _ => side _ _ h2 sm_rf (bL_mono b2 (by decide)), fun _ => side _ _ h2 sm_rf (bL_mono b2 (by decide))⟩
  · rw [o3.2.2.2.1]; exact ⟨fun _ => side _ _ h3 s3 (bL_mono c2 (by decide)), fun _ => side _ _ h3 s3 (bL_mono c2 (by decide))⟩
  · rw [o3.2.2.2.1]; exact ⟨fun _ => side _ _ h3 s3 (bL_mono c2 (by decide)), fun _ => side _ _ h3 s3 (bL_mono c2 (by decide))⟩
  · have bd : bL 59923383713792 (ax_l h3 59 2 - ax_l h3 59 1) := by unfold bL at *; rw [i64_sub (by omega) (by omega)]; omega
    rw [o3.2.2.2.1]; exact ⟨fun _ => side _ _ h3 s3 bd, fun _ => side _ _ h3 s3 bd⟩
  · have bd : bL 59923383713792 (ax_l h3 59 2 - ax_l h3 59 1) := by unfold bL at *; rw [i64_sub (by omega) (by omega)]; omega
    rw [o3.2.2.2.1]; exact ⟨fun _ => side _ _ h3 s3 bd, fun _ => side _ _ h3 s3 bd⟩
  · have n6 : N 2 w ≤ 6 := L2.2.1
    obtain ⟨j, hj, ej⟩ := sp_in_ix (by omega) (b2i_n0.mp q)
    rw [ej, p2.2.2.1]; exact vp_in_nI (by omega) (by decide)
theorem t9_free {x1 x2 x3 : Int32} (a : tc h z DD N C) (pl : pl_st h 59) (hq : ∀ (v : Int32) h', ax_same cl_F h h' → Ret (some (.int v)) h') : mX9_free g [.ref 0, .int x1, .int x2, .int x3] h Ret := by
  refine eX9_free ⟨a.1.1, q_begun a (fun q => Or.inr ⟨rfl, a.1.1, _, a.1.2.1.1, a.2.2.1.1.1, c_linesAt (s0 := 2) a.2.2.1 (by decide) (by decide) (fun _ => Or.inr ⟨rfl, hq _ h sm_rf⟩) (fun k hk ex => Or.inl ⟨_, rfl, hq _ h sm_rf⟩)⟩) (fun k hk ex ok h' hs xs hc => Or.inl ⟨_, rfl, ?_⟩)⟩
  have b := tc_cl hs a
  have k2 : k < 2 := by have := a.2.2.2.2.1 0 (by decide); omega
  refine ⟨b.1.1, _, b.1.2.1.1, b.2.2.1.1.1, c_linesAt (s0 := 2) b.2.2.1 (by decide) (by decide) (fun _ => Or.inr ⟨rfl, hq _ h' hs⟩) (fun w hw ew => Or.inl ⟨_, rfl, ?_⟩)⟩
  have w2 : w < 2 := by have := a.2.2.2.2.1 2 (by decide); omega
  have L := b.2.2.1.2.2.2 2 w (by decide) (by decide) hw
  have p := pl_st_same hs pl
  have hr : 6 + 14 * k + 6 ≤ 59 := by omega
  have hl : lnp 1 2 w + 2 ≤ 59 := by unfold lnp; omega
  refine ⟨b.1.1, _, b.1.2.1.2.2.2.2.2.2.1, b.1.1, _, b.1.2.1.2.2.2.2.1, p.1, c_planBlind p hc.1 hr hc.2.2 L hl (fun h2 s2 => ⟨_, rfl, fun q => absurd rfl q, fun _ => hq _ h2 (sm_tr hs (pl_cl s2))⟩) (fun h2 s2 b2 => ⟨_, rfl, fun _ => ?_, fun q => absurd q (by decide)⟩)⟩
  obtain ⟨p2, rc2, od2, L2⟩ := pl_kp s2 p hc.1 hr hc.2.2 L hl
  have x2' := xs_st_same s2 xs
  have fin : ∀ (v : Int32) h3, ax_same plF h2 h3 → Ret (some (.int v)) h3 := fun v h3 s3 => hq v h3 (sm_tr hs (pl_cl (sm_tr s2 s3)))
  refine ⟨x2'.1, _, x2'.2.1.2.2.2.2.2.2.1, x2'.1, _, x2'.2.1.2.2.2.2.1, p2.1, c_choose p2 rc2 hr od2 (Or.inl rfl) L2 hl (fun h3 c3 => ⟨_, rfl, fun q => absurd rfl q, fun _ => fin _ h3 (ch_pl c3)⟩) (fun h3 c3 b3 => ⟨_, rfl, fun _ => ?_, fun q => absurd q (by decide)⟩)⟩
  have x3' := xs_st_same c3.1 x2'
  have p3 := pl_st_same c3.1 p2
  have o3 := od_at_same (ch_pl c3) (by refine ⟨?_, ?_⟩ <;> (intro q; unfold plF at q; omega)) od2
  refine ⟨x3'.1, _, x3'.2.1.2.2.2.2.2.2.1, p3.1, x3'.1, _, x3'.2.1.2.2.2.2.2.2.1, p3.1, x3'.1, _, x3'.2.1.2.2.2.2.1, o3.1.1, ?_⟩
  rw [o3.2.2.2.1, c3.2 1 (by decide)]
  exact c_side (by unfold bL at *; rw [i64_sub (by omega) (by omega)]; omega) (t_pos ok) ⟨_, rfl, fin _ h3 (ch_pl c3)⟩
end
