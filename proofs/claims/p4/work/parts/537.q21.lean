section
variable {g : ax_G} {Ret : Option Value → ax_H → Prop} {h : ax_H} {z : Nat → Nat} {DD : Nat → rD} {N : Nat → Nat → Nat} {C : Nat → Nat → Nat → Nat → Int32} {S : sT} {Im : Nat → Option sT} {tp : Nat → Nat} {B : Nat}
/-! FITS, of the reference -/
theorem mo_mb {h : ax_H} {m : Nat} (a : mo_st h m) : ax_r h m 52 = some (m + 21) ∧ ax_s h (m + 21) = (11, 3) := a.2 20 _ rfl
theorem mo_rw {h : ax_H} {m : Nat} (a : mo_st h m) : ax_r h m 53 = some (m + 22) ∧ ax_s h (m + 22) = (11, 3) := a.2 21 _ rfl
/-- purses of any size, sights and days -/
def cmS (h hh : ax_H) (k : Nat) (D : rD) (w dd : Nat) : Prop := (ax_same md_F h hh ∧ ∃ pu, mc_at hh 77 k D (dmo D) pu (sp_vl D)) ∧ ax_i hh 77 49 = nI w ∧ ax_i hh 77 51 = nI dd
section
variable {hh : ax_H} {k w dd : Nat} {D : rD}
theorem cmS_f {j : Nat} {v : Int32} (M : cmS h hh k D w dd) (hj : j = 50) : cmS h (ax_pi hh 77 j v) k D w dd := by
  obtain ⟨⟨s, pu, mc⟩, e1, e2⟩ := M
  subst hj
  exact ⟨⟨sm_tr s (sm_pi (Or.inl rfl)), pu, mc_at_mr (mr_f (J := fun j => j = 50) (F := fun _ => False) rfl) (by decide) (by decide) mc⟩, by rw [ai_pi, if_neg (by decide)]; exact e1, by rw [ai_pi, if_neg (by decide)]; exact e2⟩
theorem cmS_51 {d2 : Nat} (M : cmS h hh k D w dd) : cmS h (ax_pi hh 77 51 (nI d2)) k D w d2 := by
  obtain ⟨⟨s, pu, mc⟩, e1, e2⟩ := M
  exact ⟨⟨sm_tr s (sm_pi (Or.inl rfl)), pu, mc_at_mr (mr_f (J := fun j => j = 51) (F := fun _ => False) rfl) (by decide) (by decide) mc⟩, by rw [ai_pi, if_neg (by decide)]; exact e1, by rw [ai_pi, if_pos ⟨rfl, rfl⟩]⟩
theorem cmS_a {a j : Nat} {v : Int32} (M : cmS h hh k D w dd) (ha : a = 98 ∨ a = 99) : cmS h (ax_pi hh a j v) k D w dd := by
  obtain ⟨⟨s, pu, mc⟩, e1, e2⟩ := M
  have r : mr (fun _ => False) (fun x => x = a) 77 hh (ax_pi hh a j v) := mr_c rfl (by omega)
  exact ⟨⟨sm_tr s (sm_pi (by unfold md_F; omega)), pu, mc_at_mr r (by decide) (by omega) mc⟩, by rw [ai_pi, if_neg (by omega)]; exact e1, by rw [ai_pi, if_neg (by omega)]; exact e2⟩
theorem cmS_90 {j : Nat} {v : Int32} (M : cmS h hh k D w dd) : cmS h (ax_pi hh 90 j v) k D w dd := by
  obtain ⟨⟨s, pu, mc⟩, e1, e2⟩ := M
  have r : mr (fun _ => False) (fun x => x = 90) 77 hh (ax_pi hh 90 j v) := mr_c rfl (by decide)
  exact ⟨⟨sm_tr s (sm_pi (by unfold md_F; omega)), fun p => ax_i (ax_pi hh 90 j v) 90 p, ⟨mb_at_mr r (by decide) (by decide) mc.1, fun p _ => rfl, fun p q hp hq => by rw [mr_e r (by decide) (by decide)]; exact mc.2.2.1 p q hp hq, fun p q hp hq => by rw [mr_e r (by decide) (by decide)]; exact mc.2.2.2 p q hp hq⟩⟩, by rw [ai_pi, if_neg (by omega)]; exact e1, by rw [ai_pi, if_neg (by omega)]; exact e2⟩
theorem si_at (a : tc h z DD N C) (M : cmS h hh k D w dd) (hw : w < z 4) : ax_r hh 77 10 = some 87 ∧ (ax_s hh 87).1 = 11 ∧ vp_in ((19 : Int32) * ax_i hh 77 49) (ax_s hh 87).2 ∧ ax_i hh 87 ((19 : Int32) * ax_i hh 77 49).toNatClampNeg = nI (N 4 w) := by
  have c := tc_md M.1.1 a
  have w2 : w < 2 := by have := a.2.2.2.2.1 4 (by decide); omega
  obtain ⟨e1, e2⟩ := mo_si c.2.1
  have tl := (tm_ln c.2.2.2.1 (show 1 ≤ 4 by decide) (by decide) hw).1
  rw [M.2.1, show (19 : Int32) * nI w = nI (19 * w) from ni_mul, nI_clamp (by omega)]
  exact ⟨e1, by rw [e2], by rw [e2]; exact vp_in_nI (by omega) (by decide), tl⟩
theorem c_misAsSeen {x : Int32} (a : tc h z DD N C) (ok : rd_ok (DD k)) (M : cmS h hh k (DD k) w dd) (hw : w < z 4) (hq : ∀ v : Int32, Ret (some (.int v)) hh) : mX10_isAsSeen g [.ref 77, .int x] hh Ret := by
  have c := tc_md M.1.1 a
  have n6 : N 4 w ≤ 6 := (a.2.2.2.2.2.2 4 w (by decide) (by decide) hw).1
  obtain ⟨pu, mc⟩ := M.1.2
  have s0 := c.2.1.1
  obtain ⟨e1, e2, e3, e4⟩ := si_at a M hw
  obtain ⟨f1, f2⟩ := mo_pu c.2.1
  refine uX10_isAsSeen (fun A hA => vX10_isAsSeen_0 hA ?_)
  have key : ∀ m i : Nat, i + m = N 4 w → A (2, [some (.ref 77), some (.int x), some (.int (nI i))], [], hh, 0, 0) := by
    intro m
    induction m with
    | zero =>
      intro i hi
      refine vX10_isAsSeen_2 hA ⟨s0, _, e1, s0, e2, e3, fun _ => ⟨Or.inr rfl, hq _⟩, fun q => ?_⟩
      rw [e4] at q; exact absurd (nI_le (by omega) (by omega)) q
    | succ m ih =>
      intro i hi
      have K : A (2, [some (.ref 77), some (.int x), some (.int (nI i + 1))], [], hh, 0, 0) := by rw [← nI_succ]; exact ih (i + 1) (by omega)
      refine vX10_isAsSeen_2 hA ⟨s0, _, e1, s0, e2, e3, fun q => ?_, fun _ => ⟨s0, c_msightOf (j := 0) c.2.1 c.2.2.2.1 c.2.2.2.2 hw M.2.1 (by omega) (by decide) ⟨_, rfl, fun _ => K, fun _ => ⟨s0, c_msightOf (j := 1) c.2.1 c.2.2.2.1 c.2.2.2.2 hw M.2.1 (by omega) (by decide) ⟨_, rfl, s0, c_misOne mc.1 ⟨_, rfl, fun _ => ⟨Or.inl rfl, hq _⟩, fun q => ⟨s0, _, f1, s0, c_msightOf (j := 1) c.2.1 c.2.2.2.1 c.2.2.2.2 hw M.2.1 (by omega) (by decide) ⟨_, rfl, by rw [f2], ?_, s0, c_msightOf (j := 2) c.2.1 c.2.2.2.1 c.2.2.2.2 hw M.2.1 (by omega) (by decide) ⟨_, rfl, fun _ => K, fun _ => ⟨Or.inl rfl, hq _⟩⟩⟩⟩⟩⟩⟩⟩⟩⟩
      · rw [e4] at q; exact absurd q (nI_ge (by omega) (by omega))
      · obtain ⟨p, hp, ep⟩ := sp_in_ix (by have := ok.2.1; omega) (b2i_n0.mp q)
        rw [ep, f2]; exact vp_in_nI (by have := ok.2.1; omega) (by decide)
  exact key (N 4 w) 0 (by omega)
theorem c_misRow {c : Nat} (a : tc h z DD N C) (ok : rd_ok (DD k)) (M : cmS h hh k (DD k) w dd) (hw : w < z 4) (hd : dd ≤ 3) (hc : c < 100000) (hq : ∀ (v : Int32) h2, cmS h h2 k (DD k) w dd → Ret (some (.int v)) h2) : mX10_isRow g [.ref 77, .int (nI c)] hh Ret := by
  have H12 := ok.1.2
  have H2 := ok.1.1
  have P6 := ok.2.1
  refine uX10_isRow (fun A hA => vX10_isRow_0 hA ?_)
  have k37 : ∀ m i c : Nat, i + m = dd → c < 100000 → ∀ h3, cmS h h3 k (DD k) w dd → (∃ x, mw_at h3 77 (dH (DD k)) (sp_w (DD k) x) (sp_t (DD k) x) x) → ∀ o1 : Option Value, A (37, [some (.ref 77), o1, some (.int (nI c)), some (.int (nI i))], [], h3, 0, 0) := by
    intro m
    induction m with
    | zero =>
      intro i c hi hc h3 M3 W o1
      obtain ⟨pu, mc⟩ := M3.1.2
      refine vX10_isRow_37 hA ⟨mc.1.1.1, fun _ => ⟨Or.inr rfl, hq _ h3 M3⟩, fun q => ?_⟩
      rw [M3.2.2] at q; exact absurd (nI_le (by omega) (by omega)) q
    | succ m ih =>
      intro i c hi hc h3 M3 W o1
      obtain ⟨pu, mc⟩ := M3.1.2
      have s0 := mc.1.1.1
      obtain ⟨e1, e2⟩ := mo_rw mc.1.1
      obtain ⟨f1, f2⟩ := mo_we mc.1.1
      have e26 := mc.1.2.2.2.2.1
      have ne : ¬ ax_i h3 77 26 = 0 := by rw [e26]; exact nI_ne0 (by omega) (by omega)
      have v3 : vp_in (nI i) (ax_s h3 (77 + 22)).2 := by rw [e2]; exact vp_in_nI (by omega) (by decide)
      have s11 : (ax_s h3 (77 + 22)).1 = 11 := by rw [e2]
      refine vX10_isRow_37 hA ⟨s0, fun q => ?_, fun _ => ⟨s0, _, e1, s0, ne, s11, v3, ?_⟩⟩
      · rw [M3.2.2] at q; exact absurd q (nI_ge (by omega) (by omega))
      · intro u9
        have M9 : cmS h u9 k (DD k) w dd := cmS_a M3 (Or.inr rfl)
        obtain ⟨pu9, mc9⟩ := M9.1.2
        have ev : ax_i u9 (77 + 22) (nI i).toNatClampNeg = nI (c % dH (DD k)) := by
          show ax_i (ax_pi h3 99 (nI i).toNatClampNeg (nI c - nI c / ax_i h3 77 26 * ax_i h3 77 26)) 99 (nI i).toNatClampNeg = _
          rw [ai_pi, if_pos ⟨rfl, rfl⟩, e26, pk_rem (by omega) (by omega) (by omega)]
        have cm : c % dH (DD k) < dH (DD k) := Nat.mod_lt _ (by omega)
        refine ⟨s0, by rw [show ax_i u9 77 26 = nI (dH (DD k)) from mc9.1.2.2.2.2.1]; exact nI_ne0 (by omega) (by omega), s0, _, f1, s0, _, e1, s11, v3, by show (ax_s h3 (77 + 16)).1 = 11; rw [f2], ?_, fun _ => ⟨s0, _, e1, s11, v3, s0, ?_⟩, fun _ => ⟨Or.inl rfl, hq _ u9 M9⟩⟩
        · show vp_in (ax_i u9 (77 + 22) (nI i).toNatClampNeg) (ax_s h3 (77 + 16)).2
          rw [ev, f2]; exact vp_in_nI (by omega) (by decide)
        · rw [ev]
          refine c_mlive mc9 cm (fun h4 r4 c4 w4 => ⟨rfl, ?_⟩)
          have M4 : cmS h h4 k (DD k) w dd := ⟨⟨sm_tr M9.1.1 (sm_mono r4.1 (fun x e => by unfold md_F; omega)), _, c4⟩, by rw [(r4.2 49 (by decide)).1]; exact M9.2.1, by rw [(r4.2 51 (by decide)).1]; exact M9.2.2⟩
          refine ⟨c4.1.1.1, c_misAsSeen a ok M4 hw (fun v => ⟨_, rfl, fun _ => ?_, fun _ => ⟨Or.inl rfl, hq _ h4 M4⟩⟩)⟩
          rw [show ax_i u9 77 26 = nI (dH (DD k)) from mc9.1.2.2.2.2.1, pk_div (by omega) (by omega) (by omega), ← nI_succ]
          exact ih (i + 1) (c / dH (DD k)) (by omega) (Nat.lt_of_le_of_lt (Nat.div_le_self _ _) hc) h4 M4 ⟨_, w4⟩ _
  have k4 : ∀ m i : Nat, i + m = dP (DD k) → ∀ h3, cmS h h3 k (DD k) w dd → ∀ o1 : Option Value, A (4, [some (.ref 77), o1, some (.int (nI c)), some (.int (nI i))], [], h3, 0, 0) := by
    intro m
    induction m with
    | zero =>
      intro i hi h3 M3 o1
      obtain ⟨pu, mc⟩ := M3.1.2
      refine vX10_isRow_4 hA ⟨mc.1.1.1, fun _ => ⟨mc.1.1.1, c_mlayOdds mc.1 mc.2.1 (fun h4 r4 w4 => ⟨rfl, ?_⟩)⟩, fun q => ?_⟩
      · have M4 : cmS h h4 k (DD k) w dd := ⟨⟨sm_tr M3.1.1 (sm_mono r4.1 (fun x e => by unfold md_F; omega)), pu, mc_at_mr r4 (by decide) (by decide) mc⟩, by rw [(r4.2 49 (by decide)).1]; exact M3.2.1, by rw [(r4.2 51 (by decide)).1]; exact M3.2.2⟩
        exact k37 dd 0 c (by omega) hc h4 M4 ⟨_, w4⟩ _
      · rw [mc.1.2.2.2.2.2.1] at q; exact absurd (nI_le (by omega) (by omega)) q
    | succ m ih =>
      intro i hi h3 M3 o1
      obtain ⟨pu, mc⟩ := M3.1.2
      obtain ⟨e1, e2⟩ := mo_pu mc.1.1
      refine vX10_isRow_4 hA ⟨mc.1.1.1, fun q => ?_, fun _ => ⟨mc.1.1.1, _, e1, mc.1.1.1, c_mof (i := 2 + i) mc.1.1 mc.1.2.1 mc.1.2.2.2.1 (by omega) (ni_c 2 i) ⟨_, rfl, by rw [e2], by rw [e2]; exact vp_in_nI (by omega) (by decide), ?_⟩⟩⟩
      · rw [mc.1.2.2.2.2.2.1] at q; exact absurd q (nI_ge (by omega) (by omega))
      · intro u7
        rw [← nI_succ]
        exact ih (i + 1) (by omega) u7 (cmS_90 M3) _
  exact k4 (dP (DD k)) 0 (by omega) hh M _
theorem c_monlyOne {x : Int32} (M : cmS h hh k D w dd) (hq : ∀ v : Int32, Ret (some (.int v)) hh) : mX10_onlyOne g [.ref 77, .int x] hh Ret := by
  obtain ⟨pu, mc⟩ := M.1.2
  have H12 := mc.1.2.2.1.1.1
  refine uX10_onlyOne (fun A hA => vX10_onlyOne_0 hA ?_)
  have key : ∀ m i : Nat, i + m = dH D → A (2, [some (.ref 77), some (.int x), some (.int (nI i))], [], hh, 0, 0) := by
    intro m
    induction m with
    | zero =>
      intro i hi
      refine vX10_onlyOne_2 hA ⟨mc.1.1.1, fun _ => hq _, fun q => ?_⟩
      rw [mc.1.2.2.2.2.1] at q; exact absurd (nI_le (by omega) (by omega)) q
    | succ m ih =>
      intro i hi
      refine vX10_onlyOne_2 hA ⟨mc.1.1.1, fun q => ?_, fun _ => ⟨fun _ => ?_, fun _ => hq _⟩⟩
      · rw [mc.1.2.2.2.2.1] at q; exact absurd q (nI_ge (by omega) (by omega))
      · rw [← nI_succ]; exact ih (i + 1) (by omega)
  exact key (dH D) 0 (by omega)
theorem c_findFits (a : tc h z DD N C) (ok : rd_ok (DD k)) (M : (ax_same md_F h hh ∧ ∃ pu, mc_at hh 77 k (DD k) (dmo (DD k)) pu (sp_vl (DD k))) ∧ ax_i hh 77 49 = nI w) (hw : w < z 4) (hq : ∀ h2 dd, dd ≤ 3 → cmS h h2 k (DD k) w dd → Ret none h2) : mX10_findFits g [.ref 77] hh Ret := by
  have H12 := ok.1.2
  have lo := a.2.2.2.2.2.2 4 w (by decide) (by decide) hw
  have n6 : N 4 w ≤ 6 := lo.1
  have s00 := (tc_md M.1.1 a).2.1.1
  refine uX10_findFits (fun A hA => vX10_findFits_0 hA ⟨s00, ?_⟩)
  intro u1
  have M1 : cmS h u1 k (DD k) w 0 := by
    obtain ⟨⟨s, pu, mc⟩, e1⟩ := M
    exact ⟨⟨sm_tr s (sm_pi (Or.inl rfl)), pu, mc_at_mr (mr_f (J := fun j => j = 51) (F := fun _ => False) rfl) (by decide) (by decide) mc⟩, by show ax_i (ax_pi hh 77 51 0) 77 49 = _; rw [ai_pi, if_neg (by decide)]; exact e1, by show ax_i (ax_pi hh 77 51 0) 77 51 = _; rw [ai_pi, if_pos ⟨rfl, rfl⟩]; rfl⟩
  have k85 : ∀ dd, dd ≤ 3 → ∀ t, t ≤ 1728 → ∀ m i : Nat, i + m = t → ∀ h3, cmS h h3 k (DD k) w dd → ∀ o3 : Option Value, A (85, [some (.ref 77), some (.int (nI t)), some (.int (nI i)), o3], [], h3, 0, 0) := by
    intro dd hd t ht m
    induction m with
    | zero =>
      intro i hi h3 M3 o3
      exact vX10_findFits_85 hA ⟨fun _ => hq h3 dd hd M3, fun q => absurd (nI_le (by omega) (by omega)) q⟩
    | succ m ih =>
      intro i hi h3 M3 o3
      obtain ⟨pu, mc⟩ := M3.1.2
      refine vX10_findFits_85 hA ⟨fun q => absurd q (nI_ge (by omega) (by omega)), fun _ => ⟨mc.1.1.1, c_misRow a ok M3 hw hd (by omega) (fun v h4 M4 => ⟨_, rfl, fun _ => ?_, fun _ => ?_⟩)⟩⟩
      · rw [← nI_succ]; exact ih (i + 1) (by omega) h4 M4 _
      · obtain ⟨pu4, mc4⟩ := M4.1.2
        refine ⟨rfl, mc4.1.1.1, mc4.1.1.1, ?_⟩
        intro u16
        have k110 : ∀ f j : Nat, j + f = dd → ∀ h5, cmS h h5 k (DD k) w dd → A (110, [some (.ref 77), some (.int (nI t)), some (.int (nI i)), some (.int (nI j))], [], h5, 0, 0) := by
          intro f
          induction f with
          | zero =>
            intro j hj h5 M5
            obtain ⟨pu5, mc5⟩ := M5.1.2
            refine vX10_findFits_110 hA ⟨mc5.1.1.1, fun _ => ?_, fun q => ?_⟩
            · rw [← nI_succ]; exact ih (i + 1) (by omega) h5 M5 _
            · rw [M5.2.2] at q; exact absurd (nI_le (by omega) (by omega)) q
          | succ f ihf =>
            intro j hj h5 M5
            obtain ⟨pu5, mc5⟩ := M5.1.2
            obtain ⟨e1, e2⟩ := mo_mb mc5.1.1
            obtain ⟨f1, f2⟩ := mo_rw mc5.1.1
            have s11 : (ax_s h5 (77 + 21)).1 = 11 := by rw [e2]
            have v3 : vp_in (nI j) (ax_s h5 (77 + 21)).2 := by rw [e2]; exact vp_in_nI (by omega) (by decide)
            refine vX10_findFits_110 hA ⟨mc5.1.1.1, fun q => ?_, fun _ => ⟨mc5.1.1.1, _, e1, ⟨rfl, rfl⟩, s11, v3, mc5.1.1.1, _, f1, by rw [f2], by rw [f2]; exact vp_in_nI (by omega) (by decide), ?_⟩⟩
            · rw [M5.2.2] at q; exact absurd q (nI_ge (by omega) (by omega))
            · intro z19
              refine ⟨s11, v3, ?_⟩
              intro u20
              rw [← nI_succ]
              exact ihf (j + 1) (by omega) u20 (cmS_a M5 (Or.inl rfl))
        exact k110 dd 0 (by omega) u16 (cmS_f M4 rfl)
  have k55 : ∀ dd, dd ≤ 3 → ∀ m i : Nat, i + m = dd → ∀ t, t ≤ 12 ^ i → ∀ h3, cmS h h3 k (DD k) w dd → ∀ o3 : Option Value, A (55, [some (.ref 77), some (.int (nI t)), some (.int (nI i)), o3], [], h3, 0, 0) := by
    intro dd hd m
    induction m with
    | zero =>
      intro i hi t ht h3 M3 o3
      obtain ⟨pu, mc⟩ := M3.1.2
      have p12 : ∀ i, i ≤ 3 → 12 ^ i ≤ 1728 := by decide
      refine vX10_findFits_55 hA ⟨mc.1.1.1, fun _ => k85 dd hd t (Nat.le_trans ht (p12 i (by omega))) t 0 (by omega) h3 M3 _, fun q => ?_⟩
      rw [M3.2.2] at q; exact absurd (nI_le (by omega) (by omega)) q
    | succ m ih =>
      intro i hi t ht h3 M3 o3
      obtain ⟨pu, mc⟩ := M3.1.2
      obtain ⟨e1, e2⟩ := mo_mb mc.1.1
      refine vX10_findFits_55 hA ⟨mc.1.1.1, fun q => ?_, fun _ => ⟨mc.1.1.1, _, e1, by rw [e2], by rw [e2]; exact vp_in_nI (by omega) (by decide), ?_⟩⟩
      · rw [M3.2.2] at q; exact absurd q (nI_ge (by omega) (by omega))
      · intro u12
        have M12 : cmS h u12 k (DD k) w dd := cmS_a M3 (Or.inl rfl)
        obtain ⟨pu12, mc12⟩ := M12.1.2
        refine ⟨mc.1.1.1, ?_⟩
        rw [show ax_i u12 77 26 = nI (dH (DD k)) from mc12.1.2.2.2.2.1, pk_mul t (dH (DD k)), ← nI_succ]
        exact ih (i + 1) (by omega) (t * dH (DD k)) (by rw [Nat.pow_succ]; exact Nat.mul_le_mul ht H12) u12 M12 _
  have k7 : ∀ m i : Nat, i + m = N 4 w → ∀ h3 dd, dd ≤ 3 → cmS h h3 k (DD k) w dd → ∀ o2 o3 : Option Value, A (7, [some (.ref 77), some (.int (nI i)), o2, o3], [], h3, 0, 0) := by
    intro m
    induction m with
    | zero =>
      intro i hi h3 dd hd M3 o2 o3
      obtain ⟨e1, e2, e3, e4⟩ := si_at a M3 hw
      have s0 := (tc_md M3.1.1 a).2.1.1
      refine vX10_findFits_7 hA ⟨s0, _, e1, s0, e2, e3, fun _ => ⟨s0, ?_⟩, fun q => ?_⟩
      · intro u3
        exact k55 dd hd dd 0 (by omega) 1 (by decide) u3 (cmS_f M3 rfl) _
      · rw [e4] at q; exact absurd (nI_le (by omega) (by omega)) q
    | succ m ih =>
      intro i hi h3 dd hd M3 o2 o3
      have c := tc_md M3.1.1 a
      obtain ⟨e1, e2, e3, e4⟩ := si_at a M3 hw
      have s0 := c.2.1.1
      obtain ⟨α, β, a1, a4, b6, ea, eb, -⟩ := lo.2 i (by omega)
      refine vX10_findFits_7 hA ⟨s0, _, e1, s0, e2, e3, fun q => ?_, fun _ => ⟨s0, s0, c_msightOf (j := 0) c.2.1 c.2.2.2.1 c.2.2.2.2 hw M3.2.1 (by omega) (by decide) ⟨_, rfl, eX10_greater ⟨fun _ => ⟨_, rfl, s0, ?_⟩, fun _ => ⟨_, rfl, s0, ?_⟩⟩⟩⟩⟩
      · rw [e4] at q; exact absurd q (nI_ge (by omega) (by omega))
      · intro u10
        rw [← nI_succ]
        refine ih (i + 1) (by omega) u10 α (by omega) ?_ _ _
        show cmS h (ax_pi h3 77 51 (C 4 w i 0)) k (DD k) w α
        rw [ea]; exact cmS_51 M3
      · intro u10
        rw [← nI_succ]
        refine ih (i + 1) (by omega) u10 dd hd ?_ _ _
        show cmS h (ax_pi h3 77 51 (ax_i h3 77 51)) k (DD k) w dd
        rw [M3.2.2]; exact cmS_51 M3
  exact k7 (N 4 w) 0 (by omega) u1 0 (by decide) M1 _ _
end
theorem t10_fits {x1 x2 x3 : Int32} (a : tc h z DD N C) (hq : ∀ (v : Int32) h', ax_same md_F h h' → Ret (some (.int v)) h') : mX10_fits g [.ref 77, .int x1, .int x2, .int x3] h Ret := by
  obtain ⟨a1, T1, hs1⟩ := q_code (v := 0) a.2.1 a.2.2.2.1
  obtain ⟨a2, T2, hs2⟩ := mf_keep (k := 49) (v := x2) a1 T1
  refine eX10_fits ⟨a.2.1.1, ?_⟩
  intro u1
  refine ⟨a.2.1.1, c_mhasSights a1 T1 a.2.2.2.2 ⟨_, rfl, fun _ => hq _ _ (sm_tr hs1 hs2), fun q => ⟨a2.1, q_handR a2 T2 a.2.2.2.2 (fun _ => ⟨_, rfl, fun q => absurd rfl q, fun _ => hq _ _ (sm_tr hs1 hs2)⟩) (fun k hk ex ok h' hs hm => ⟨_, rfl, fun _ => ⟨hm.1.1.1.1, ?_⟩, fun q => absurd q (by decide)⟩)⟩⟩⟩
  obtain ⟨w, hw, rfl⟩ := sp_in_ix (by have := a.2.2.2.2.1 4 (by decide); omega) (b2i_n0.mp q)
  have e49 : ax_i h' 77 49 = nI w := by rw [(hs.2 49 (by unfold hd_J; decide)).1]; exact ai_eq
  refine c_findFits a ok ⟨⟨sm_tr hs1 (sm_tr hs2 (hd_md hs)), _, hm.1⟩, e49⟩ hw (fun h2 dd hd M => ⟨rfl, ?_⟩)
  obtain ⟨pu, mc⟩ := M.1.2
  have s0 := mc.1.1.1
  have fin : ∀ v : Int32, Ret (some (.int v)) h2 := fun v => hq v h2 M.1.1
  obtain ⟨e1, e2⟩ := mo_mb mc.1.1
  have rg : ∀ (b : Nat) (y : Int32), b ≤ 50 → (nI (b + 1) ≤ y ∧ y ≤ nI (b + dd)) → ∃ i, i < 3 ∧ y = nI (b + 1 + i) := fun b y hb q => by
    have y1 := i_le.mp q.1
    have y2 := i_le.mp q.2
    rw [nI_toInt (by omega)] at y1 y2
    obtain ⟨m, m1, m2, rfl⟩ := i_rng (a := b + 1) (b := b + dd) (by omega) (by omega) q.1 q.2
    obtain ⟨i, rfl⟩ := Nat.exists_eq_add_of_le m1
    exact ⟨i, by omega, rfl⟩
  refine ⟨s0, ?_⟩
  rw [M.2.2, show (9 : Int32) + nI dd = nI (9 + dd) from ni_c 9 _]
  refine c_min ⟨_, rfl, fun _ => ⟨fun _ => ⟨s0, ?_⟩, fun _ => ⟨s0, fin _⟩⟩, fun q => ⟨s0, _, e1, by rw [e2], ?_, s0, c_monlyOne M (fun v => ⟨_, rfl, fin _⟩)⟩⟩
  · rw [M.2.2, show (19 : Int32) + nI dd = nI (19 + dd) from ni_c 19 _]
    refine c_min ⟨_, rfl, fun _ => fin _, fun q => ⟨s0, _, e1, by rw [e2], ?_, fin _⟩⟩
    obtain ⟨i, hi, rfl⟩ := rg 19 _ (by decide) (of_decide_eq_true (b2i_n0.mp q))
    rw [e2, show nI (19 + 1 + i) - 20 = nI i from ni_sb (b := 20)]; exact vp_in_nI (by omega) (by decide)
  · obtain ⟨i, hi, rfl⟩ := rg 9 _ (by decide) (of_decide_eq_true (b2i_n0.mp q))
    rw [e2, show nI (9 + 1 + i) - 10 = nI i from ni_sb (b := 10)]; exact vp_in_nI (by omega) (by decide)
theorem n_fits (a : IV h S Im tp) (b : 103 ≤ h.1 ∧ h.1 ≤ B) (x1 x2 x3 : Int32) : prN (mX9_fits g) (mX10_fits g) [.ref 0, .int x1, .int x2, .int x3] [.ref 77, .int x1, .int x2, .int x3] h (inv B) := pr_n a b (fun Ret k => t9_fits (iv_tc a) a.1.1.2.2.2.2.1 k) (fun h1 Ret a1 k => t10_fits (iv_tc a1) k)
end
