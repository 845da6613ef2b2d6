section
variable {g : ax_G} {Ret : Option Value → ax_H → Prop} {h : ax_H} {z : Nat → Nat} {DD : Nat → rD} {N : Nat → Nat → Nat} {C : Nat → Nat → Nat → Nat → Int32} {S : sT} {Im : Nat → Option sT} {tp : Nat → Nat} {B : Nat}
section
variable {hh : ax_H} {k w : Nat} {y : Int32}
theorem pM_96 {n j : Nat} {D : rD} {v : Int32} (M : pM h hh k D w n y) : pM h (ax_pi hh 96 j v) k D w n y := ⟨sm_tr M.1 (sm_pi (by unfold md_F; omega)), hm_mr M.2.1 (mr_c (J := fun _ => False) (F := fun a => a = 96) rfl (by decide)) (fun j hj => hj.elim) (fun a ha => by omega), by rw [ai_pi, if_neg (by omega)]; exact M.2.2.1, by rw [ai_pi, if_neg (by omega)]; exact M.2.2.2.1, by rw [ai_pi, if_neg (by omega)]; exact M.2.2.2.2⟩
theorem att_96 {i m j : Nat} {s v : Int32} {v2 : Int64} {D : rD} (a : att hh C D w y s i m v2) : att (ax_pi hh 96 j v) C D w y s i m v2 := a
theorem c_choose10 {s : Int32} (a : tc h z DD N C) (ok : rd_ok (DD k)) (M : pM h hh k (DD k) w (N 2 w) 0) (hw : w < z 2) (G : goodT hh C (DD k) w (N 2 w) 0 s) (n0 : tb hh 0 0 ≠ cN) (hq : ∀ h2, pM h h2 k (DD k) w (N 2 w) 0 → (∀ j, ax_l h2 77 j = ax_l hh 77 j) → Ret none h2) : mX10_choose g [.ref 77, .int s] hh Ret := by
  have H12 := ok.1.2
  have pH := p_12 (dH (DD k)) H12
  have n6 : N 2 w ≤ 6 := (a.2.2.2.2.2.2 2 w (by decide) (by decide) hw).1
  have ix : ∀ i m : Nat, (4096 : Int32) * nI i + nI m = nI (4096 * i + m) := fun i m => by rw [show (4096 : Int32) * nI i = nI (4096 * i) from ni_mul, nI_add]
  refine uX10_choose (fun A hA => vX10_choose_0 hA ?_)
  have key : ∀ f i m : Nat, i + f = N 2 w → m < 2 ^ dH (DD k) → ∀ h3, pM h h3 k (DD k) w (N 2 w) 0 → (∀ j, ax_l h3 77 j = ax_l hh 77 j) → goodT h3 C (DD k) w (N 2 w) 0 s → tb h3 i m ≠ cN → ∀ o4 : Option Value, A (4, [some (.ref 77), some (.int s), some (.int (nI m)), some (.int (nI i)), o4], [], h3, 0, 0) := by
    intro f
    induction f with
    | zero =>
      intro i m hi hm h3 M3 l3 G3 n3 o4
      refine vX10_choose_4 hA ⟨M3.2.1.1.1.1.1, fun _ => hq h3 M3 l3, fun q => ?_⟩
      rw [M3.2.2.2.1] at q; exact absurd (nI_le (by omega) (by omega)) q
    | succ f ih =>
      intro i m hi hm h3 M3 l3 G3 n3 o4
      have t := tc_md M3.1 a
      have s0 := M3.2.1.1.1.1.1
      obtain ⟨e1, e2⟩ := mo_tl M3.2.1.1.1.1
      obtain ⟨f1, f2⟩ := mo_ch M3.2.1.1.1.1
      obtain ⟨κ, b, c, E⟩ := er_at a hw (show i < N 2 w by omega)
      obtain ⟨qs, κ2, g1, g2, g3, g4, g5, g6, g7⟩ := (G3 i m (by omega) hm).resolve_left n3
      have eκ : κ2 = κ := (nI_eq (by have := E.1; omega) (by have := E.1; omega)).mp (g2.symm.trans E.2.2.2.1)
      subst eκ
      have bq : b ≤ qs := g3 rfl b E.2.2.2.2.1 (by have := E.2.1; have := E.2.2.1; omega)
      have k20 : ∀ d q : Nat, q + d = qs → A (20, [some (.ref 77), some (.int s), some (.int (nI m)), some (.int (nI i)), some (.int (nI q))], [], h3, 0, 0) := by
        intro d
        induction d with
        | zero =>
          intro q hd
          have eq : q = qs := by omega
          subst eq
          have ml := or_lt hm g4
          have ez : (4096 : Int32) * (nI i + 1) + (nI m ||| ((1 : Int32) <<< (nI q &&& 31))) = nI (4096 * (i + 1) + (m ||| 2 ^ q)) := by rw [← nI_succ, sh_12 q (by omega), or_nI, ix]
          have vz : vp_in ((4096 : Int32) * (nI i + 1) + (nI m ||| ((1 : Int32) <<< (nI q &&& 31)))) (ax_s h3 (77 + 18)).2 := by rw [ez, e2]; exact vp_in_nI (by omega) (by decide)
          have et : ax_l h3 (77 + 18) ((4096 : Int32) * (nI i + 1) + (nI m ||| ((1 : Int32) <<< (nI q &&& 31)))).toNatClampNeg = tb h3 (i + 1) (m ||| 2 ^ q) := by rw [ez, nI_clamp (by omega)]; rfl
          have s14 : (ax_s h3 (77 + 18)).1 = 14 := by rw [e2]
          refine vX10_choose_20 hA (c_mhas (fun nh => ⟨_, rfl, fun q0 => absurd rfl q0, fun _ => ⟨s0, _, e1, s14, vz, fun qc => ?_, fun qc => ⟨s0, _, e1, s14, vz, s0, c_worthAt a M3 hw (by omega) E g4 ⟨_, rfl, s0, _, e1, s14, by rw [ix, e2]; exact vp_in_nI (by omega) (by decide), fun z0 => ⟨s0, _, f1, by rw [f2], by rw [f2]; exact vp_in_nI (by omega) (by decide), ?_⟩, fun z0 => ?_⟩⟩⟩⟩) (fun hb => absurd hb g5))
          · rw [et] at qc; exact absurd (cmp_eq.mp qc) g6
          · intro u17
            rw [← nI_succ, sh_12 q (by omega), or_nI]
            exact ih (i + 1) (m ||| 2 ^ q) (by omega) ml u17 (pM_96 M3) l3 G3 g6 _
          · refine absurd (cmp_eq.mpr ?_) z0
            rw [et, ix, nI_clamp (by omega)]
            exact g7
        | succ d ihd =>
          intro q hd
          have qH : q < dH (DD k) := by omega
          have ml := or_lt hm qH
          have ez : (4096 : Int32) * (nI i + 1) + (nI m ||| ((1 : Int32) <<< (nI q &&& 31))) = nI (4096 * (i + 1) + (m ||| 2 ^ q)) := by rw [← nI_succ, sh_12 q (by omega), or_nI, ix]
          have vz : vp_in ((4096 : Int32) * (nI i + 1) + (nI m ||| ((1 : Int32) <<< (nI q &&& 31)))) (ax_s h3 (77 + 18)).2 := by rw [ez, e2]; exact vp_in_nI (by omega) (by decide)
          have et : ax_l h3 (77 + 18) ((4096 : Int32) * (nI i + 1) + (nI m ||| ((1 : Int32) <<< (nI q &&& 31)))).toNatClampNeg = tb h3 (i + 1) (m ||| 2 ^ q) := by rw [ez, nI_clamp (by omega)]; rfl
          have s14 : (ax_s h3 (77 + 18)).1 = 14 := by rw [e2]
          have K : A (20, [some (.ref 77), some (.int s), some (.int (nI m)), some (.int (nI i)), some (.int (nI q + 1))], [], h3, 0, 0) := by rw [← nI_succ]; exact ihd (q + 1) (by omega)
          refine vX10_choose_20 hA (c_mhas (fun nh => ⟨_, rfl, fun q0 => absurd rfl q0, fun _ => ⟨s0, _, e1, s14, vz, fun qc => K, fun qc => ⟨s0, _, e1, s14, vz, s0, c_worthAt a M3 hw (by omega) E qH ⟨_, rfl, s0, _, e1, s14, by rw [ix, e2]; exact vp_in_nI (by omega) (by decide), fun z0 => ⟨s0, _, f1, by rw [f2], by rw [f2]; exact vp_in_nI (by omega) (by decide), ?_⟩, fun z0 => K⟩⟩⟩⟩) (fun hb => ⟨_, rfl, fun _ => K, fun q0 => absurd q0 (by decide)⟩))
          intro u17
          rw [← nI_succ, sh_12 q (by omega), or_nI]
          refine ih (i + 1) (m ||| 2 ^ q) (by omega) ml u17 (pM_96 M3) l3 G3 ?_ _
          rw [et] at qc
          exact fun e => qc (cmp_eq.mpr e)
      refine vX10_choose_4 hA ⟨s0, fun q => ?_, fun _ => ⟨s0, c_merrandOf (j := 1) t.2.1 t.2.2.2.1 t.2.2.2.2 hw M3.2.2.1 (by omega) (by decide) ⟨_, rfl, ?_⟩⟩⟩
      · rw [M3.2.2.2.1] at q; exact absurd q (nI_ge (by omega) (by omega))
      · rw [E.2.2.2.2.1]
        exact k20 (qs - b) b (by omega)
  exact key (N 2 w) 0 0 (by omega) (by omega) hh M (fun _ => rfl) G n0 _
theorem t_worthAt {i : Nat} {x s : Int32} (a : tc h z DD N C) (M : pM h hh k (DD k) w (N 2 w) y) (hw : w < z 2) (hi : i < N 2 w) (hs : ¬ s = -1) (hq : ∀ v : Int64, Ret (some (.long v)) hh) : mX10_worthAt g [.ref 77, .int (nI i), .int x, .int s] hh Ret := by
  have t := tc_md M.1 a
  have mb := M.2.1.1.1
  have s0 := mb.1.1
  obtain ⟨κ, b, c, E⟩ := er_at a hw hi
  have e0 := E.2.2.2.1
  exact eX10_worthAt ⟨s0, c_merrandOf (j := 0) t.2.1 t.2.2.2.1 t.2.2.2.2 hw M.2.2.1 hi (by decide) ⟨_, rfl, s0, c_mof (i := 8 + κ) mb.1 mb.2.1 mb.2.2.2.1 (by have := E.1; omega) (by rw [e0]; exact ni_c 8 κ) ⟨_, rfl, s0, c_merrandOf (j := 0) t.2.1 t.2.2.2.1 t.2.2.2.2 hw M.2.2.1 hi (by decide) ⟨_, rfl, s0, c_mof (i := 14 + κ) mb.1 mb.2.1 mb.2.2.2.1 (by have := E.1; omega) (by rw [e0]; exact ni_c 14 κ) ⟨_, rfl, c_mtimes ⟨_, rfl, fun q1 => ⟨s0, fun q2 => hq _, fun q2 => hq _⟩, fun q1 => absurd q1 hs⟩⟩⟩⟩⟩⟩
theorem c_chosenBy {s : Int32} (a : tc h z DD N C) (M : pM h hh k (DD k) w (N 2 w) y) (hw : w < z 2) (hs : ¬ s = -1) (hq : ∀ v : Int64, Ret (some (.long v)) hh) : mX10_chosenBy g [.ref 77, .int s] hh Ret := by
  have n6 : N 2 w ≤ 6 := (a.2.2.2.2.2.2 2 w (by decide) (by decide) hw).1
  have s0 := M.2.1.1.1.1.1
  obtain ⟨f1, f2⟩ := mo_ch M.2.1.1.1.1
  refine uX10_chosenBy (fun A hA => vX10_chosenBy_0 hA ?_)
  have key : ∀ f i : Nat, i + f = N 2 w → ∀ x2 : Int64, A (5, [some (.ref 77), some (.int s), some (.long x2), none, some (.int (nI i))], [], hh, 0, 0) := by
    intro f
    induction f with
    | zero =>
      intro i hi x2
      refine vX10_chosenBy_5 hA ⟨s0, fun _ => hq _, fun q => ?_⟩
      rw [M.2.2.2.1] at q; exact absurd (nI_le (by omega) (by omega)) q
    | succ f ih =>
      intro i hi x2
      refine vX10_chosenBy_5 hA ⟨s0, fun q => ?_, fun _ => ⟨s0, _, f1, by rw [f2], by rw [f2]; exact vp_in_nI (by omega) (by decide), s0, t_worthAt a M hw (by omega) hs (fun v => ⟨_, rfl, ?_⟩)⟩⟩
      · rw [M.2.2.2.1] at q; exact absurd q (nI_ge (by omega) (by omega))
      · rw [← nI_succ]; exact ih (i + 1) (by omega) _
  exact key (N 2 w) 0 (by omega) _
theorem pM_46 {n : Nat} {D : rD} {v : Int64} (M : pM h hh k D w n y) : pM h (ax_pl hh 77 46 v) k D w n y := ⟨sm_tr M.1 (sm_pl (Or.inl rfl)), hm_mr M.2.1 (mr_l (J := fun j => j = 46) (F := fun _ => False) rfl) (fun j hj => by omega) (fun a ha => ha.elim), M.2.2.1, M.2.2.2.1, M.2.2.2.2⟩
theorem c_rued (a : tc h z DD N C) (ok : rd_ok (DD k)) (M : pM h hh k (DD k) w (N 2 w) y) (hw : w < z 2) (hq : ∀ (v : Int32) h2, pM h h2 k (DD k) w (N 2 w) y → bL 108000013856832 (ax_l h2 77 46) → Ret (some (.int v)) h2) : mX10_rued g [.ref 77] hh Ret := by
  have H12 := ok.1.2
  have n6 : N 2 w ≤ 6 := (a.2.2.2.2.2.2 2 w (by decide) (by decide) hw).1
  refine uX10_rued (fun A hA => vX10_rued_0 hA ⟨M.2.1.1.1.1.1, ?_⟩)
  intro u1
  have key : ∀ f i : Nat, i + f = dH (DD k) → ∀ h3, pM h h3 k (DD k) w (N 2 w) y → bL (9000001154736 * i) (ax_l h3 77 46) → ∀ (x1 : Int32) (x2 : Int64) (o5 o6 o7 o8 : Option Value), A (12, [some (.ref 77), some (.int x1), some (.long x2), none, some (.int (nI i)), o5, o6, o7, o8], [], h3, 0, 0) := by
    intro f
    induction f with
    | zero =>
      intro i hi h3 M3 b3 x1 x2 o5 o6 o7 o8
      refine vX10_rued_12 hA ⟨M3.2.1.1.1.1.1, fun _ => hq _ h3 M3 (bL_mono b3 (by omega)), fun q => ?_⟩
      rw [M3.2.1.1.1.2.2.2.2.1] at q; exact absurd (nI_le (by omega) (by omega)) q
    | succ f ih =>
      intro i hi h3 M3 b3 x1 x2 o5 o6 o7 o8
      refine vX10_rued_12 hA ⟨M3.2.1.1.1.1.1, fun q => ?_, fun _ => ⟨M3.2.1.1.1.1.1, c_findBest a ok M3 hw (fun h4 M4 r4 b4 _ => ⟨_, rfl, rfl, M4.2.1.1.1.1.1, M4.2.1.1.1.1.1, ?_⟩)⟩⟩
      · rw [M3.2.1.1.1.2.2.2.2.1] at q; exact absurd q (nI_ge (by omega) (by omega))
      · obtain ⟨e1, e2⟩ := mo_we M4.2.1.1.1.1
        have s11 : (ax_s h4 (77 + 16)).1 = 11 := by rw [e2]
        have v12 : vp_in (nI i) (ax_s h4 (77 + 16)).2 := by rw [e2]; exact vp_in_nI (by omega) (by decide)
        refine ⟨_, e1, s11, v12, M4.2.1.1.1.1.1, ?_⟩
        intro u6
        have M6 : pM h u6 k (DD k) w (N 2 w) y := pM_46 M4
        have b6 : bL (9000001154736 * ((i + 1 : Nat) : Int)) (ax_l u6 77 46) := by
          show bL _ (ax_l (ax_pl h4 77 46 (ax_l h4 77 46 + (ax_i h4 (77 + 16) (nI i).toNatClampNeg).toInt64 * tb h4 0 0)) 77 46)
          rw [al_pl, if_pos ⟨rfl, rfl⟩, nI_clamp (by omega), M4.2.1.2.1 i (by omega), (r4.2 46 id).2]
          have bw := sp_w_bd ok (rul (DD k)) i
          unfold bQ at b4
          exact bL_mono (bL_add b3 (bL_mul (a := 9) (b := 1000000128304) (by decide) (by decide) (bL_32 (x := sp_w (DD k) (rul (DD k)) i) (by omega)) (bL_mono b4 (by omega)) (by decide)) (by omega)) (by omega)
        have K : ∀ (x1 : Int32) (x2 : Int64) (o5 o6 o7 o8 : Option Value), A (12, [some (.ref 77), some (.int x1), some (.long x2), none, some (.int (nI i + 1)), o5, o6, o7, o8], [], u6, 0, 0) := fun x1 x2 o5 o6 o7 o8 => by rw [← nI_succ]; exact ih (i + 1) (by omega) u6 M6 b6 _ _ _ _ _ _
        exact ⟨M6.2.1.1.1.1.1, _, e1, s11, v12, fun _ => ⟨M6.2.1.1.1.1.1, c_chosenBy a M6 hw (nI_nm1 (by omega)) (fun v => ⟨_, rfl, fun _ => ⟨fun _ => K _ _ _ _ _ _, fun _ => K _ _ _ _ _ _⟩, fun _ => ⟨fun _ => K _ _ _ _ _ _, fun _ => K _ _ _ _ _ _⟩⟩)⟩, fun _ => ⟨fun _ => ⟨fun _ => K _ _ _ _ _ _, fun _ => K _ _ _ _ _ _⟩, fun _ => ⟨fun _ => K _ _ _ _ _ _, fun _ => K _ _ _ _ _ _⟩⟩⟩
  exact key (dH (DD k)) 0 (by omega) u1 (pM_46 M) (by show bL _ (ax_l (ax_pl hh 77 46 0) 77 46); rw [al_pl, if_pos ⟨rfl, rfl⟩]; unfold bL; decide) _ _ _ _ _ _
end
end
