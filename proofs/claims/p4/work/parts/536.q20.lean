section
variable {g : ax_G} {Ret : Option Value → ax_H → Prop} {h : ax_H} {z : Nat → Nat} {DD : Nat → rD} {N : Nat → Nat → Nat} {C : Nat → Nat → Nat → Nat → Int32} {S : sT} {Im : Nat → Option sT} {tp : Nat → Nat} {B : Nat}
/-! FITS, of the class -/
def fF : Nat → Prop := fun a => a = 53 ∨ (66 ≤ a ∧ a ≤ 75)
def fS (h hh : ax_H) (dd : Nat) (D : rD) : Prop := ax_same fF h hh ∧ (∃ hv, co_at hh 52 (dP D) (dH D) hv (sp_vl D)) ∧ ax_i hh 66 1 = nI dd
section
variable {r l n dd : Nat} {D : rD} {C1 : Nat → Nat → Int32} {hh : ax_H}
theorem fS_pi {a j : Nat} {v : Int32} (F : fS h hh dd D) (ha : a = 67 ∨ a = 68 ∨ (a = 66 ∧ j = 2)) : fS h (ax_pi hh a j v) dd D := by
  obtain ⟨s, ⟨hv, co⟩, e⟩ := F
  have s1 : ax_same fF hh (ax_pi hh a j v) := sm_pi (by unfold fF; omega)
  refine ⟨sm_tr s s1, ⟨hv, co_at_same (F := fun x => x = a) (sm_pi rfl) (by refine ⟨?_, ?_, ?_⟩ <;> (intro q; omega)) co⟩, ?_⟩
  rw [ai_pi, if_neg (by omega)]; exact e
theorem c_keepRow7 (se : se_st h 66) (hd : dd ≤ 3) (F : fS h hh dd D) (hq : ∀ h', fS h h' dd D → Ret none h') : mX7_keepRow g [.ref 66] hh Ret := by
  have se1 := se_st_same F.1 se
  refine uX7_keepRow (fun A hA => vX7_keepRow_0 hA ⟨rfl, se1.1, se1.1, ?_⟩)
  intro u1
  have key : ∀ m i : Nat, i + m = dd → ∀ h3, fS h h3 dd D → A (12, [some (.ref 66), some (.int (nI i))], [], h3, 0, 0) := by
    intro m
    induction m with
    | zero =>
      intro i hi h3 F3
      have s3 := se_st_same F3.1 se
      refine vX7_keepRow_12 hA ⟨s3.1, fun _ => hq h3 F3, fun q => ?_⟩
      rw [F3.2.2] at q; exact absurd (nI_le (by omega) (by omega)) q
    | succ m ih =>
      intro i hi h3 F3
      have s3 := se_st_same F3.1 se
      have a1 : (ax_s h3 (66 + 1)).1 = 11 := by rw [s3.2.2.1.1]
      have a2 : vp_in (nI i) (ax_s h3 (66 + 1)).2 := by rw [s3.2.2.1.1]; exact vp_in_nI (by omega) (by decide)
      refine vX7_keepRow_12 hA ⟨s3.1, fun q => ?_, fun _ => ⟨s3.1, _, s3.2.1.1, ⟨rfl, rfl⟩, a1, a2, s3.1, _, s3.2.1.2.1, by rw [s3.2.2.1.2.1], by rw [s3.2.2.1.2.1]; exact vp_in_nI (by omega) (by decide), ?_⟩⟩
      · rw [F3.2.2] at q; exact absurd q (nI_ge (by omega) (by omega))
      · intro z4
        refine ⟨a1, a2, ?_⟩
        intro u5
        rw [← nI_succ]
        exact ih (i + 1) (by omega) u5 (fS_pi F3 (Or.inl rfl))
  exact key dd 0 (by omega) u1 (fS_pi F (Or.inr (Or.inr ⟨rfl, rfl⟩)))
theorem c_isAsSeen7 {x : Int32} (rc : rc_at hh r D) (co : ∃ hv, co_at hh 52 (dP D) (dH D) hv (sp_vl D)) (L : li_at hh l 4 n C1) (hq : ∀ v : Int32, Ret (some (.int v)) hh) : mX7_isAsSeen g [.ref r, .ref 52, .ref l, .int x] hh Ret := by
  have n6 : n ≤ 6 := L.2.1
  obtain ⟨hv, co⟩ := co
  refine uX7_isAsSeen (fun A hA => vX7_isAsSeen_0 hA ?_)
  have key : ∀ m i : Nat, i + m = n → ∀ o5 : Option Value, A (3, [some (.ref r), some (.ref 52), some (.ref l), some (.int x), some (.int (nI i)), o5], [], hh, 0, 0) := by
    intro m
    induction m with
    | zero =>
      intro i hi o5
      refine vX7_isAsSeen_3 hA ⟨L.1.1, fun _ => ⟨Or.inr rfl, hq _⟩, fun q => ?_⟩
      rw [L.2.2.1] at q; exact absurd (nI_le (by omega) (by omega)) q
    | succ m ih =>
      intro i hi o5
      have K : ∀ o5 : Option Value, A (3, [some (.ref r), some (.ref 52), some (.ref l), some (.int x), some (.int (nI i + 1)), o5], [], hh, 0, 0) := fun o5 => by rw [← nI_succ]; exact ih (i + 1) (by omega) _
      refine vX7_isAsSeen_3 hA ⟨L.1.1, fun q => ?_, fun _ => ⟨L.1.1, c_lcell (by decide) (by decide) L ⟨_, rfl, L.1.1, c_lcell (by decide) (by decide) L ⟨_, rfl, fun _ => K _, fun _ => ⟨rc.1.1, c_hasPerson rc ⟨_, rfl, fun _ => ⟨Or.inl rfl, hq _⟩, fun q => ⟨co.1.1, _, co.1.2.1, by rw [co.1.2.2.2.1], ?_, L.1.1, c_lcell (by decide) (by decide) L ⟨_, rfl, fun _ => K _, fun _ => ⟨Or.inl rfl, hq _⟩⟩⟩⟩⟩⟩⟩⟩⟩
      · rw [L.2.2.1] at q; exact absurd q (nI_ge (by omega) (by omega))
      · obtain ⟨p, hp, ep⟩ := sp_in_ix (by have := rc.2.1.2; omega) (b2i_n0.mp q)
        rw [ep, co.1.2.2.2.1]; exact vp_in_nI (by have := rc.2.1.2; omega) (by decide)
  exact key n 0 (by omega) _
theorem c_follow (se : se_st h 66) (rc : rc_at h r D) (hr : r + 6 ≤ 52) (L : li_at h l 4 n C1) (hl : l + 2 ≤ 52) (hd : dd ≤ 3) : ∀ (e gone d : Nat) (hh : ax_H) (Ret : Option Value → ax_H → Prop), gone + e = 3 → e ≤ d → fS h hh dd D → (∀ h', fS h h' dd D → Ret none h') → mX7_follow g d [.ref 66, .ref r, .ref 52, .ref l, .int (nI gone)] hh Ret := by
  have H12 := rc.2.1.1
  have kp : ∀ h3, fS h h3 dd D → se_st h3 66 ∧ rc_at h3 r D ∧ li_at h3 l 4 n C1 := fun h3 F => ⟨se_st_same F.1 se, rc_at_same F.1 (fun j hj q => by unfold fF at q; omega) rc, li_at_same F.1 (by refine ⟨?_, ?_⟩ <;> (intro q; unfold fF at q; omega)) L⟩
  intro e
  induction e with
  | zero =>
    intro gone d hh Ret hg he F hq
    obtain ⟨s, rc1, L1⟩ := kp hh F
    refine uX7_follow (fun A hA => vX7_follow_0 hA ⟨s.1, fun _ => ⟨s.1, c_keepRow7 se hd F (fun h2 F2 => ⟨rfl, hq h2 F2⟩)⟩, fun q => ⟨fun q3 => absurd q3 (nI_nlt (a := gone) (b := 3) (by omega) (by omega)), fun _ => ⟨s.1, c_keepRow7 se hd F (fun h2 F2 => ⟨rfl, hq h2 F2⟩)⟩⟩⟩)
  | succ e ihe =>
    intro gone d hh Ret hg he F hq
    obtain ⟨s, rc1, L1⟩ := kp hh F
    obtain ⟨hv, co⟩ := F.2.1
    obtain ⟨d, rfl⟩ : ∃ d', d = d' + 1 := ⟨d - 1, by omega⟩
    have od := (s.2.2.2 gone (by omega)).2
    refine uX7_follow (fun A hA => vX7_follow_0 hA ⟨s.1, fun _ => ⟨s.1, c_keepRow7 se hd F (fun h2 F2 => ⟨rfl, hq h2 F2⟩)⟩, fun q => ⟨fun _ => ⟨s.1, _, s.2.1.2.2, by rw [s.2.2.1.2.2], by rw [s.2.2.1.2.2]; exact vp_in_nI (by omega) (by decide), 66 + 4 + 2 * gone, by rw [nI_clamp (by omega)]; exact (s.2.2.2 gone (by omega)).1, co.1.1, c_poorest co ⟨_, rfl, od.1, c_weigh od rc1 (fun j hj q => by unfold od_F at q; omega) (fun h2 s2 o2 => ⟨rfl, ?_⟩)⟩⟩, fun _ => ⟨s.1, c_keepRow7 se hd F (fun h2 F2 => ⟨rfl, hq h2 F2⟩)⟩⟩⟩)
    have F2 : fS h h2 dd D := ⟨sm_tr F.1 (sm_mono s2 (fun x e => by unfold od_F at e; unfold fF; omega)), ⟨hv, co_at_same s2 (by refine ⟨?_, ?_, ?_⟩ <;> (intro q; unfold od_F at q; omega)) co⟩, by rw [(s2.2.2.2 66 (by unfold od_F; omega)).1]; exact F.2.2⟩
    have key : ∀ m i : Nat, i + m = dH D → ∀ h3, fS h h3 dd D → A (48, [some (.ref 66), some (.ref r), some (.ref 52), some (.ref l), some (.int (nI gone)), some (.ref (66 + 4 + 2 * gone)), some (.int (nI i))], [], h3, 0, 0) := by
      intro m
      induction m with
      | zero =>
        intro i hi h3 F3
        obtain ⟨s3, rc3, L3⟩ := kp h3 F3
        refine vX7_follow_48 hA ⟨rc3.1.1, fun _ => hq h3 F3, fun q => ?_⟩
        rw [rc3.2.2.1.1] at q; exact absurd (nI_le (by omega) (by omega)) q
      | succ m ih =>
        intro i hi h3 F3
        obtain ⟨s3, rc3, L3⟩ := kp h3 F3
        obtain ⟨hv3, co3⟩ := F3.2.1
        have od3 := (s3.2.2.2 gone (by omega)).2
        have K : ∀ h4, fS h h4 dd D → A (48, [some (.ref 66), some (.ref r), some (.ref 52), some (.ref l), some (.int (nI gone)), some (.ref (66 + 4 + 2 * gone)), some (.int (nI i + 1))], [], h4, 0, 0) := fun h4 F4 => by rw [← nI_succ]; exact ih (i + 1) (by omega) h4 F4
        have un : ∀ h4, fS h h4 dd D → (ax_s h4 52).1 = 0 ∧ mX0_unlive g [.ref 52, .int (nI i)] h4 (fun v21 h20 => v21 = none ∧ A (48, [some (.ref 66), some (.ref r), some (.ref 52), some (.ref l), some (.int (nI gone)), some (.ref (66 + 4 + 2 * gone)), some (.int (nI i + 1))], [], h20, 0, 0)) := fun h4 F4 => by
          obtain ⟨hv4, co4⟩ := F4.2.1
          exact ⟨co4.1.1, c_unlive co4 (fun h5 s5 c5 => ⟨rfl, K h5 ⟨sm_tr F4.1 (sm_mono s5 (fun x e => by unfold fF; omega)), ⟨_, c5⟩, by rw [(s5.2.2.2 66 (by decide)).1]; exact F4.2.2⟩⟩)⟩
        refine vX7_follow_48 hA ⟨rc3.1.1, fun q => ?_, fun _ => ⟨od3.1, _, od3.2.1, by rw [od3.2.2], by rw [od3.2.2]; exact vp_in_nI (by omega) (by decide), fun _ => ⟨co3.1.1, c_live co3 (fun h4 s4 c4 => ⟨rfl, ?_⟩)⟩, fun _ => K h3 F3⟩⟩
        · rw [rc3.2.2.1.1] at q; exact absurd q (nI_ge (by omega) (by omega))
        · have F4 : fS h h4 dd D := ⟨sm_tr F3.1 (sm_mono s4 (fun x e => by unfold fF; omega)), ⟨_, c4⟩, by rw [(s4.2.2.2 66 (by decide)).1]; exact F3.2.2⟩
          have s5 := (kp h4 F4).1
          refine ⟨s5.1, _, s5.2.1.2.1, by rw [s5.2.2.1.2.1], by rw [s5.2.2.1.2.1]; exact vp_in_nI (by omega) (by decide), ?_⟩
          intro u16
          have F6 : fS h u16 dd D := fS_pi F4 (Or.inr (Or.inl rfl))
          obtain ⟨s6, rc6, L6⟩ := kp u16 F6
          refine c_isAsSeen7 rc6 F6.2.1 L6 (fun v => ⟨_, rfl, fun _ => un u16 F6, fun _ => ⟨s6.1, ?_⟩⟩)
          rw [← nI_succ]
          exact ihe (gone + 1) d u16 _ (by omega) (by omega) F6 (fun h7 F7 => ⟨rfl, un h7 F7⟩)
    exact key (dH D) 0 (by omega) h2 F2
theorem c_run7 (se : se_st h 66) (rc : rc_at h r D) (hr : r + 6 ≤ 52) (co : co_at h 52 (dP D) (dH D) (dpu D) (sp_vl D)) (L : li_at h l 4 n C1) (lo : ln_ok 4 n C1) (hl : l + 2 ≤ 52) (hq : ∀ h' dd, dd ≤ 3 → fS h h' dd D → Ret none h') : mX7_run g [.ref 66, .ref r, .ref 52, .ref l] h Ret := by
  have n6 : n ≤ 6 := L.2.1
  refine uX7_run (fun A hA => vX7_run_0 hA ⟨se.1, ?_⟩)
  intro u1
  refine ⟨se.1, ?_⟩
  intro u2
  have e1 : ∀ h3, ax_same fF h h3 → (∃ hv, co_at h3 52 (dP D) (dH D) hv (sp_vl D)) → ∀ d2, fS h (ax_pi h3 66 1 (nI d2)) d2 D := fun h3 s3 c3 d2 => by
    obtain ⟨hv, co⟩ := c3
    exact ⟨sm_tr s3 (sm_pi (Or.inr ⟨Nat.le_refl _, by decide⟩)), ⟨hv, co_at_same (F := fun x => x = 66) (sm_pi rfl) (by decide) co⟩, by rw [ai_pi, if_pos ⟨rfl, rfl⟩]⟩
  have F2 : fS h u2 0 D := fS_pi (e1 h sm_rf ⟨_, co⟩ 0) (Or.inr (Or.inr ⟨rfl, rfl⟩))
  have k53 : ∀ m i : Nat, i + m = 3 → ∀ h3 dd, dd ≤ 3 → fS h h3 dd D → A (53, [some (.ref 66), some (.ref r), some (.ref 52), some (.ref l), some (.int (nI i))], [], h3, 0, 0) := by
    intro m
    induction m with
    | zero =>
      intro i hi h3 dd hd F
      have s3 := se_st_same F.1 se
      exact vX7_run_53 hA ⟨fun _ => ⟨s3.1, c_follow se rc hr L hl hd 3 0 7 h3 _ (by decide) (by decide) F (fun h4 F4 => ⟨rfl, hq h4 dd hd F4⟩)⟩, fun q => absurd (nI_le (a := 3) (b := i) (by omega) (by omega)) q⟩
    | succ m ih =>
      intro i hi h3 dd hd F
      have s3 := se_st_same F.1 se
      refine vX7_run_53 hA ⟨fun q => absurd q (nI_ge (a := i) (b := 3) (by omega) (by decide)), fun _ => ⟨s3.1, _, s3.2.1.1, by rw [s3.2.2.1.1], by rw [s3.2.2.1.1]; exact vp_in_nI (by omega) (by decide), ?_⟩⟩
      intro u11
      rw [← nI_succ]
      exact ih (i + 1) (by omega) u11 dd hd (fS_pi F (Or.inl rfl))
  have k13 : ∀ m i : Nat, i + m = n → ∀ h3 dd, dd ≤ 3 → fS h h3 dd D → A (13, [some (.ref 66), some (.ref r), some (.ref 52), some (.ref l), some (.int (nI i))], [], h3, 0, 0) := by
    intro m
    induction m with
    | zero =>
      intro i hi h3 dd hd F
      have L3 := li_at_same F.1 (by refine ⟨?_, ?_⟩ <;> (intro q; unfold fF at q; omega)) L
      refine vX7_run_13 hA ⟨L3.1.1, fun _ => k53 3 0 (by decide) h3 dd hd F, fun q => ?_⟩
      rw [L3.2.2.1] at q; exact absurd (nI_le (by omega) (by omega)) q
    | succ m ih =>
      intro i hi h3 dd hd F
      have s3 := se_st_same F.1 se
      have L3 := li_at_same F.1 (by refine ⟨?_, ?_⟩ <;> (intro q; unfold fF at q; omega)) L
      obtain ⟨a, b, a1, a4, b6, ea, eb, -⟩ := lo.2 i (by omega)
      refine vX7_run_13 hA ⟨L3.1.1, fun q => ?_, fun _ => ⟨s3.1, L3.1.1, c_lcell (by decide) (by decide) L3 ⟨_, rfl, ?_⟩⟩⟩
      · rw [L3.2.2.1] at q; exact absurd q (nI_ge (by omega) (by omega))
      · intro z6
        have ez : ∃ d2, d2 ≤ 3 ∧ z6 = nI d2 := by
          have e0 : z6 = if nI dd < nI a then nI a else nI dd := by
            show (if ax_i h3 66 1 < (if 3 < sp_lc n (lw 4) C1 (nI i) 0 then 3 else sp_lc n (lw 4) C1 (nI i) 0) then (if 3 < sp_lc n (lw 4) C1 (nI i) 0 then 3 else sp_lc n (lw 4) C1 (nI i) 0) else ax_i h3 66 1) = _
            rw [show sp_lc n (lw 4) C1 (nI i) 0 = C1 i 0 from lc_in (j := 0) (by omega) (by decide) (by omega) (by decide), ea, if_neg (show ¬ (3 : Int32) < nI a from nI_nlt (a := 3) (b := a) (by omega) (by decide)), F.2.2]
          rw [e0]
          split
          · exact ⟨a, by omega, rfl⟩
          · exact ⟨dd, hd, rfl⟩
        obtain ⟨d2, hd2, rfl'⟩ := ez
        refine ⟨s3.1, ?_⟩
        intro u7
        rw [← nI_succ]
        refine ih (i + 1) (by omega) u7 d2 hd2 ?_
        show fS h (ax_pi h3 66 1 z6) d2 D
        rw [rfl']
        exact e1 h3 F.1 F.2.1 d2
  exact k13 n 0 (by omega) u2 0 (by decide) F2
end
theorem c_sureHour {x : Int32} (se : se_st h 66) (hq : ∀ v : Int32, Ret (some (.int v)) h) : mX7_sureHour g [.ref 66, .int x] h Ret := by
  refine uX7_sureHour (fun A hA => vX7_sureHour_0 hA ⟨fun _ => hq _, fun q => ⟨fun q3 => ?_, fun _ => hq _⟩⟩)
  obtain ⟨d, hd, rfl⟩ := (ni_ix (x := x) (n := 3) (by decide)).mp ⟨q, nt_le.mpr q3⟩
  have key : ∀ m i : Nat, i + m = 12 → A (13, [some (.ref 66), some (.int (nI d)), some (.int (nI i))], [], h, 0, 0) := by
    intro m
    induction m with
    | zero =>
      intro i hi
      exact vX7_sureHour_13 hA ⟨fun _ => hq _, fun q => absurd (nI_le (a := 12) (b := i) (by omega) (by omega)) q⟩
    | succ m ih =>
      intro i hi
      refine vX7_sureHour_13 hA ⟨fun q => absurd q (nI_ge (a := i) (b := 12) (by omega) (by decide)), fun _ => ⟨se.1, _, se.2.1.1, by rw [se.2.2.1.1], by rw [se.2.2.1.1]; exact vp_in_nI (by omega) (by decide), fun _ => ?_, fun _ => hq _⟩⟩
      rw [← nI_succ]; exact ih (i + 1) (by omega)
  exact key 12 0 (by decide)
theorem t9_fits {x1 x2 x3 : Int32} (a : tc h z DD N C) (se : se_st h 66) (hq : ∀ (v : Int32) h', ax_same cl_F h h' → Ret (some (.int v)) h') : mX9_fits g [.ref 0, .int x1, .int x2, .int x3] h Ret := by
  refine eX9_fits ⟨a.1.1, q_begun a (fun q => Or.inr ⟨rfl, a.1.1, _, a.1.2.1.1, a.2.2.1.1.1, c_linesAt (s0 := 4) a.2.2.1 (by decide) (by decide) (fun _ => Or.inr ⟨rfl, hq _ h sm_rf⟩) (fun k hk ex => Or.inl ⟨_, rfl, hq _ h sm_rf⟩)⟩) (fun k hk ex ok h' hs xs hc => Or.inl ⟨_, rfl, ?_⟩)⟩
  have b := tc_cl hs a
  have k2 : k < 2 := by have := a.2.2.2.2.1 0 (by decide); omega
  refine ⟨b.1.1, _, b.1.2.1.1, b.2.2.1.1.1, c_linesAt (s0 := 4) b.2.2.1 (by decide) (by decide) (fun _ => Or.inr ⟨rfl, hq _ h' hs⟩) (fun w hw ew => Or.inl ⟨_, rfl, ?_⟩)⟩
  have w2 : w < 2 := by have := a.2.2.2.2.1 4 (by decide); omega
  have L := b.2.2.1.2.2.2 4 w (by decide) (by decide) hw
  have s := se_st_same hs se
  refine ⟨b.1.1, _, b.1.2.1.2.2.2.2.2.2.2.1, b.1.1, _, b.1.2.1.2.2.2.1, s.1, c_run7 s hc.1 (by omega) hc.2.1 L (a.2.2.2.2.2.2 4 w (by decide) (by decide) hw) (by unfold lnp; omega) (fun h2 dd hd F => ⟨rfl, ?_⟩)⟩
  have s2 := se_st_same F.1 s
  have x2' := xs_st_same F.1 xs
  have fin : ∀ v : Int32, Ret (some (.int v)) h2 := fun v => hq v h2 (sm_tr hs (sm_mono F.1 (fun x e => by unfold fF at e; unfold cl_F; omega)))
  have r0 := x2'.1
  have r7 := x2'.2.1.2.2.2.2.2.2.2.1
  have late : ∀ y : Int32, ¬ y < 20 → ¬ 20 + ax_i h2 66 1 ≤ y → vp_in (y - 20) (ax_s h2 (66 + 1)).2 := fun y q1 q2 => by
    rw [F.2.2, show (20 : Int32) + nI dd = nI (20 + dd) from ni_c 20 _] at q2
    have q3 := nt_le.mp q2
    have q4 := nt_lt.mp q1
    obtain ⟨m, m1, m2, rfl⟩ := i_rng (a := 20) (b := 20 + dd) (by omega) (by omega) q4 (by rw [i_lt] at q3; rw [i_le]; omega)
    obtain ⟨i, rfl⟩ := Nat.exists_eq_add_of_le m1
    have : i < dd := by rw [nI_ltI (by omega) (by omega)] at q3; omega
    rw [show nI (20 + i) - 20 = nI i from ni_sb, s2.2.2.1.1]
    exact vp_in_nI (by omega) (by decide)
  refine ⟨fun _ => ⟨fun _ => ⟨fun _ => fin _, fun q => ⟨r0, _, r7, s2.1, fun _ => fin _, fun q2 => ⟨r0, _, r7, s2.1, _, s2.2.1.1, by rw [s2.2.2.1.1], late _ q q2, fin _⟩⟩⟩, fun _ => ⟨r0, _, r7, s2.1, fun _ => ⟨fun _ => fin _, fun q => ⟨r0, _, r7, s2.1, fun _ => fin _, fun q2 => ⟨r0, _, r7, s2.1, _, s2.2.1.1, by rw [s2.2.2.1.1], late _ q q2, fin _⟩⟩⟩, fun _ => ⟨r0, _, r7, s2.1, c_sureHour s2 (fun v => ⟨_, rfl, fin _⟩)⟩⟩⟩, fun _ => ⟨r0, _, r7, s2.1, fin _⟩⟩
end
