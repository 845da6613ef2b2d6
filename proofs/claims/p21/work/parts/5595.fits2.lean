section
variable {g : ax_G} {Ret : Option Value → ax_H → Prop} {h : ax_H} {z : Nat → Nat} {DD : Nat → rD} {N : Nat → Nat → Nat} {C : Nat → Nat → Nat → Nat → Int32} {S : sT} {Im : Nat → Option sT} {tp : Nat → Nat} {B : Nat}
/-! FITS, of the reference, exactly -/
section
variable {hh : ax_H} {k w dd : Nat}
def rwJ : Nat → Prop := fun j => j = 32 ∨ j = 33
def rwF : Nat → Prop := fun a => a = 90 ∨ a = 93 ∨ a = 99
theorem c_misAsSeenE {gone : Nat} {pu : Nat → Int32} (a : tc h z DD N C) (ok : rd_ok (DD k)) (M : cmS h hh k (DD k) w dd) (mc : mc_at hh 77 k (DD k) (dmo (DD k)) pu (sp_vl (DD k))) (hw : w < z 4) (hq : Ret (some (.int (b2i (seenB (DD k) (C 4 w) pu gone (N 4 w))))) hh) : mX10_isAsSeen g [.ref 77, .int (nI gone)] hh Ret := by
  have c := tc_md M.1.1 a
  have n6 : N 4 w ≤ 6 := (a.2.2.2.2.2.2 4 w (by decide) (by decide) hw).1
  have P6 := ok.2.1
  have s0 := c.2.1.1
  obtain ⟨e1, e2, e3, e4⟩ := si_at a M hw
  obtain ⟨f1, f2⟩ := mo_pu c.2.1
  refine uX10_isAsSeen (fun A hA => vX10_isAsSeen_0 hA ?_)
  have key : ∀ m i : Nat, i + m = N 4 w → seenB (DD k) (C 4 w) pu gone i = true → A (2, [some (.ref 77), some (.int (nI gone)), some (.int (nI i))], [], hh, 0, 0) := by
    intro m
    induction m with
    | zero =>
      intro i hi al
      refine vX10_isAsSeen_2 hA ⟨s0, _, e1, s0, e2, e3, fun _ => ⟨Or.inr rfl, ?_⟩, fun q => ?_⟩
      · rw [show N 4 w = i by omega, al] at hq; exact hq
      · rw [e4] at q; exact absurd (nI_le (by omega) (by omega)) q
    | succ m ih =>
      intro i hi al
      have un : seenB (DD k) (C 4 w) pu gone (i + 1) = (if C 4 w i 0 = nI gone then sp_in (C 4 w i 1) (dP (DD k)) && decide (pu (C 4 w i 1).toNatClampNeg = C 4 w i 2) else true) := by
        show (seenB (DD k) (C 4 w) pu gone i && _) = _
        rw [al, Bool.true_and]
      have K : seenB (DD k) (C 4 w) pu gone (i + 1) = true → A (2, [some (.ref 77), some (.int (nI gone)), some (.int (nI i + 1))], [], hh, 0, 0) := fun e => by rw [← nI_succ]; exact ih (i + 1) (by omega) e
      have bad : seenB (DD k) (C 4 w) pu gone (i + 1) = false → Ret (some (.int 0)) hh := fun e => by
        have t := seen_mono m e
        rw [show i + 1 + m = N 4 w by omega] at t
        rw [t] at hq
        exact hq
      refine vX10_isAsSeen_2 hA ⟨s0, _, e1, s0, e2, e3, fun q => ?_, fun _ => ⟨s0, c_msightOf (j := 0) c.2.1 c.2.2.2.1 c.2.2.2.2 hw M.2.1 (by omega) (by decide) ⟨_, rfl, fun d => K (by rw [un, if_neg d]), fun d => ⟨s0, c_msightOf (j := 1) c.2.1 c.2.2.2.1 c.2.2.2.2 hw M.2.1 (by omega) (by decide) ⟨_, rfl, s0, c_misOne mc.1 ⟨_, rfl, fun q => ⟨Or.inl rfl, bad ?_⟩, fun q => ⟨s0, _, f1, s0, c_msightOf (j := 1) c.2.1 c.2.2.2.1 c.2.2.2.2 hw M.2.1 (by omega) (by decide) ⟨_, rfl, by rw [f2], ?_, s0, c_msightOf (j := 2) c.2.1 c.2.2.2.1 c.2.2.2.2 hw M.2.1 (by omega) (by decide) ⟨_, rfl, fun v => K ?_, fun v => ⟨Or.inl rfl, bad ?_⟩⟩⟩⟩⟩⟩⟩⟩⟩⟩
      · rw [e4] at q; exact absurd q (nI_ge (by omega) (by omega))
      · rw [un, if_pos d, b2i_0.mp q, Bool.false_and]
      · obtain ⟨p, hp, ep⟩ := sp_in_ix (by omega) (b2i_n0.mp q)
        rw [ep, f2]; exact vp_in_nI (by omega) (by decide)
      · obtain ⟨p, hp, ep⟩ := sp_in_ix (by omega) (b2i_n0.mp q)
        have v : ax_i hh (77 + 13) (C 4 w i 1).toNatClampNeg = C 4 w i 2 := v
        rw [ep, nI_clamp (by omega), mc.2.1 p hp] at v
        rw [un, if_pos d, b2i_n0.mp q, Bool.true_and, ep, nI_clamp (by omega)]; exact decide_eq_true v
      · obtain ⟨p, hp, ep⟩ := sp_in_ix (by omega) (b2i_n0.mp q)
        have v : ¬ ax_i hh (77 + 13) (C 4 w i 1).toNatClampNeg = C 4 w i 2 := v
        rw [ep, nI_clamp (by omega), mc.2.1 p hp] at v
        rw [un, if_pos d, b2i_n0.mp q, Bool.true_and, ep, nI_clamp (by omega)]; exact decide_eq_false v
  exact key (N 4 w) 0 (by omega) rfl
theorem c_misRowE {c : Nat} (a : tc h z DD N C) (ok : rd_ok (DD k)) (M : cmS h hh k (DD k) w dd) (hw : w < z 4) (hd : dd ≤ 3) (hc : c < 100000) (h1 : rB (DD k) (N 4 w) (C 4 w) dd 0 (dpu (DD k)) c = true → ∀ h2, cmS h h2 k (DD k) w dd → mr rwJ rwF 77 hh h2 → (∀ t, t < dd → ax_i h2 99 t = nI (rF (dH (DD k)) dd 0 (fun _ => 0) c t)) → Ret (some (.int 1)) h2) (h0 : rB (DD k) (N 4 w) (C 4 w) dd 0 (dpu (DD k)) c = false → ∀ h2, cmS h h2 k (DD k) w dd → mr rwJ rwF 77 hh h2 → Ret (some (.int 0)) h2) : mX10_isRow g [.ref 77, .int (nI c)] hh Ret := by
  have H12 := ok.1.2
  have H2 := ok.1.1
  have P6 := ok.2.1
  refine uX10_isRow (fun A hA => vX10_isRow_0 hA ?_)
  have k37 : ∀ m i c : Nat, ∀ (pu : Nat → Int32) (ρ : Nat → Nat), i + m = dd → c < 100000 → ∀ h3, cmS h h3 k (DD k) w dd → mr rwJ rwF 77 hh h3 → mc_at h3 77 k (DD k) (dmo (DD k)) pu (sp_vl (DD k)) → mw_at h3 77 (dH (DD k)) (sp_w (DD k) (sp_po (dP (DD k)) pu)) (sp_t (DD k) (sp_po (dP (DD k)) pu)) (sp_po (dP (DD k)) pu) → (∀ t, t < i → ax_i h3 99 t = nI (ρ t)) → (rB (DD k) (N 4 w) (C 4 w) m i pu c = true → ∀ h2, cmS h h2 k (DD k) w dd → mr rwJ rwF 77 hh h2 → (∀ t, t < dd → ax_i h2 99 t = nI (rF (dH (DD k)) m i ρ c t)) → Ret (some (.int 1)) h2) → (rB (DD k) (N 4 w) (C 4 w) m i pu c = false → ∀ h2, cmS h h2 k (DD k) w dd → mr rwJ rwF 77 hh h2 → Ret (some (.int 0)) h2) → ∀ o1 : Option Value, A (37, [some (.ref 77), o1, some (.int (nI c)), some (.int (nI i))], [], h3, 0, 0) := by
    intro m
    induction m with
    | zero =>
      intro i c pu ρ hi hc h3 M3 r3 mc mw row y1 y0 o1
      refine vX10_isRow_37 hA ⟨mc.1.1.1, fun _ => ⟨Or.inr rfl, y1 rfl h3 M3 r3 (fun t ht => row t (by omega))⟩, fun q => ?_⟩
      rw [M3.2.2] at q; exact absurd (nI_le (by omega) (by omega)) q
    | succ m ih =>
      intro i c pu ρ hi hc h3 M3 r3 mc mw row y1 y0 o1
      have s0 := mc.1.1.1
      obtain ⟨e1, e2⟩ := mo_rw mc.1.1
      obtain ⟨f1, f2⟩ := mo_we mc.1.1
      have e26 := mc.1.2.2.2.2.1
      have ne : ¬ ax_i h3 77 26 = 0 := by rw [e26]; exact nI_ne0 (by omega) (by omega)
      have v3 : vp_in (nI i) (ax_s h3 (77 + 22)).2 := by rw [e2]; exact vp_in_nI (by omega) (by decide)
      have s11 : (ax_s h3 (77 + 22)).1 = 11 := by rw [e2]
      have un : rB (DD k) (N 4 w) (C 4 w) (m + 1) i pu c = (okB (DD k) (N 4 w) (C 4 w) pu i (c % dH (DD k)) && rB (DD k) (N 4 w) (C 4 w) m (i + 1) (fun p => pu p + sp_vl (DD k) p (c % dH (DD k))) (c / dH (DD k))) := rfl
      refine vX10_isRow_37 hA ⟨s0, fun q => ?_, fun _ => ⟨s0, _, e1, s0, ne, s11, v3, ?_⟩⟩
      · rw [M3.2.2] at q; exact absurd q (nI_ge (by omega) (by omega))
      · intro u9
        have r9' : mr (fun _ => False) (fun a => a = 99) 77 h3 u9 := mr_c rfl (by decide)
        have r9 : mr rwJ rwF 77 hh u9 := mr_tr r3 (mr_mono r9' (fun _ e => e.elim) (fun _ e => by unfold rwF; omega))
        have M9 : cmS h u9 k (DD k) w dd := cmS_a M3 (Or.inr rfl)
        have mc9 := mc_at_mr r9' (by decide) (by decide) mc
        have mw9 := mw_mr r9' (by decide) (by decide) mw
        have cm : c % dH (DD k) < dH (DD k) := Nat.mod_lt _ (by omega)
        have ev : ax_i u9 (77 + 22) (nI i).toNatClampNeg = nI (c % dH (DD k)) := by
          show ax_i (ax_pi h3 99 (nI i).toNatClampNeg (nI c - nI c / ax_i h3 77 26 * ax_i h3 77 26)) 99 (nI i).toNatClampNeg = _
          rw [ai_pi, if_pos ⟨rfl, rfl⟩, e26, pk_rem (by omega) (by omega) (by omega)]
        have row9 : ∀ t, t < i + 1 → ax_i u9 99 t = nI (updN ρ i (c % dH (DD k)) t) := fun t ht => by
          unfold updN
          by_cases e : t = i
          · rw [if_pos e, e]
            have := ev
            rw [nI_clamp (by omega)] at this
            exact this
          · rw [if_neg e]
            show ax_i (ax_pi h3 99 (nI i).toNatClampNeg _) 99 t = _
            rw [nI_clamp (by omega), ai_pi, if_neg (fun w => e w.2)]
            exact row t (by omega)
        have wq : ax_i u9 (77 + 16) (ax_i u9 (77 + 22) (nI i).toNatClampNeg).toNatClampNeg = sp_w (DD k) (sp_po (dP (DD k)) pu) (c % dH (DD k)) := by
          rw [ev, nI_clamp (by omega)]; exact mw9.1 _ cm
        refine ⟨s0, by rw [show ax_i u9 77 26 = nI (dH (DD k)) from mc9.1.2.2.2.2.1]; exact nI_ne0 (by omega) (by omega), s0, _, f1, s0, _, e1, s11, v3, by show (ax_s h3 (77 + 16)).1 = 11; rw [f2], ?_, fun w0 => ⟨s0, _, e1, s11, v3, s0, ?_⟩, fun w0 => ⟨Or.inl rfl, y0 ?_ u9 M9 r9⟩⟩
        · show vp_in (ax_i u9 (77 + 22) (nI i).toNatClampNeg) (ax_s h3 (77 + 16)).2
          rw [ev, f2]; exact vp_in_nI (by omega) (by decide)
        · have w0 : ¬ ax_i u9 (77 + 16) (ax_i u9 (77 + 22) (nI i).toNatClampNeg).toNatClampNeg = 0 := w0
          rw [wq] at w0
          rw [ev]
          refine c_mlive mc9 cm (fun h4 r4 c4 w4 => ⟨rfl, ?_⟩)
          have M4 : cmS h h4 k (DD k) w dd := ⟨⟨sm_tr M9.1.1 (sm_mono r4.1 (fun x e => by unfold md_F; omega)), _, c4⟩, by rw [(r4.2 49 (by decide)).1]; exact M9.2.1, by rw [(r4.2 51 (by decide)).1]; exact M9.2.2⟩
          have r4' : mr rwJ rwF 77 hh h4 := mr_tr r9 (mr_mono r4 (fun _ e => e) (fun _ e => by unfold rwF; omega))
          refine ⟨c4.1.1.1, ?_⟩
          rw [← nI_succ]
          refine c_misAsSeenE a ok M4 c4 hw ⟨_, rfl, fun q0 => ?_, fun q0 => ⟨Or.inl rfl, y0 ?_ h4 M4 r4'⟩⟩
          · have yes : okB (DD k) (N 4 w) (C 4 w) pu i (c % dH (DD k)) = true := by
              unfold okB
              rw [b2i_n0.mp q0, decide_eq_false w0]; rfl
            rw [yes, Bool.true_and] at un
            rw [show ax_i u9 77 26 = nI (dH (DD k)) from mc9.1.2.2.2.2.1, pk_div (by omega) (by omega) (by omega)]
            refine ih (i + 1) (c / dH (DD k)) _ (updN ρ i (c % dH (DD k))) (by omega) (Nat.lt_of_le_of_lt (Nat.div_le_self _ _) hc) h4 M4 r4' c4 w4 (fun t ht => ?_) (fun e => y1 (by rw [un]; exact e)) (fun e => y0 (by rw [un]; exact e)) _
            rw [mr_e r4 (by decide) (by decide)]; exact row9 t ht
          · rw [un]
            unfold okB
            rw [b2i_0.mp q0, Bool.and_false, Bool.false_and]
        · have w0 : ax_i u9 (77 + 16) (ax_i u9 (77 + 22) (nI i).toNatClampNeg).toNatClampNeg = 0 := w0
          rw [wq] at w0
          rw [un]
          unfold okB
          rw [decide_eq_true w0]; rfl
  have k4 : ∀ m i : Nat, i + m = dP (DD k) → ∀ h3, cmS h h3 k (DD k) w dd → mr rwJ rwF 77 hh h3 → (∀ p, p < i → ax_i h3 90 p = dpu (DD k) p) → ∀ o1 : Option Value, A (4, [some (.ref 77), o1, some (.int (nI c)), some (.int (nI i))], [], h3, 0, 0) := by
    intro m
    induction m with
    | zero =>
      intro i hi h3 M3 r3 pe o1
      obtain ⟨pu, mc⟩ := M3.1.2
      have mc' : mc_at h3 77 k (DD k) (dmo (DD k)) (dpu (DD k)) (sp_vl (DD k)) := ⟨mc.1, fun p hp => pe p (by omega), mc.2.2⟩
      refine vX10_isRow_4 hA ⟨mc.1.1.1, fun _ => ⟨mc.1.1.1, c_mlayOdds mc'.1 mc'.2.1 (fun h4 r4 w4 => ⟨rfl, ?_⟩)⟩, fun q => ?_⟩
      · have c4 := mc_at_mr r4 (by decide) (by decide) mc'
        have M4 : cmS h h4 k (DD k) w dd := ⟨⟨sm_tr M3.1.1 (sm_mono r4.1 (fun x e => by unfold md_F; omega)), _, c4⟩, by rw [(r4.2 49 (by decide)).1]; exact M3.2.1, by rw [(r4.2 51 (by decide)).1]; exact M3.2.2⟩
        exact k37 dd 0 c _ (fun _ => 0) (by omega) hc h4 M4 (mr_tr r3 (mr_mono r4 (fun _ e => e) (fun _ e => by unfold rwF; omega))) c4 w4 (fun t ht => absurd ht (Nat.not_lt_zero t)) h1 h0 _
      · rw [mc.1.2.2.2.2.2.1] at q; exact absurd (nI_le (by omega) (by omega)) q
    | succ m ih =>
      intro i hi h3 M3 r3 pe o1
      obtain ⟨pu, mc⟩ := M3.1.2
      obtain ⟨e1, e2⟩ := mo_pu mc.1.1
      refine vX10_isRow_4 hA ⟨mc.1.1.1, fun q => ?_, fun _ => ⟨mc.1.1.1, _, e1, mc.1.1.1, c_mof (i := 2 + i) mc.1.1 mc.1.2.1 mc.1.2.2.2.1 (by omega) (ni_c 2 i) ⟨_, rfl, by rw [e2], by rw [e2]; exact vp_in_nI (by omega) (by decide), ?_⟩⟩⟩
      · rw [mc.1.2.2.2.2.2.1] at q; exact absurd q (nI_ge (by omega) (by omega))
      · intro u7
        rw [← nI_succ]
        refine ih (i + 1) (by omega) u7 (cmS_90 M3) (mr_tr r3 (mr_c (Or.inl rfl) (by decide))) (fun p hp => ?_) _
        show ax_i (ax_pi h3 90 (nI i).toNatClampNeg (ax_i h3 (77 + 6) (164 * k + (2 + i)))) 90 p = _
        rw [nI_clamp (by omega), ai_pi]
        by_cases e : p = i
        · rw [if_pos ⟨rfl, e⟩, e]
          have := mc.1.2.2.1.2.2.2.1 i (by omega)
          rw [← Nat.add_assoc]; exact this
        · rw [if_neg (fun w => e w.2)]; exact pe p (by omega)
  exact k4 (dP (DD k)) 0 (by omega) hh M mr_rf (fun p hp => absurd hp (Nat.not_lt_zero p)) _
theorem c_monlyOneE {D : rD} {m : Nat} (M : cmS h hh k D w dd) (hm : m < 2 ^ 12) (hq : Ret (some (.int (srF m (dH D) 0))) hh) : mX10_onlyOne g [.ref 77, .int (nI m)] hh Ret := by
  obtain ⟨pu, mc⟩ := M.1.2
  have H12 := mc.1.2.2.1.1.1
  refine uX10_onlyOne (fun A hA => vX10_onlyOne_0 hA ?_)
  have key : ∀ f i : Nat, i + f = dH D → Ret (some (.int (srF m f i))) hh → A (2, [some (.ref 77), some (.int (nI m)), some (.int (nI i))], [], hh, 0, 0) := by
    intro f
    induction f with
    | zero =>
      intro i hi r
      refine vX10_onlyOne_2 hA ⟨mc.1.1.1, fun _ => r, fun q => ?_⟩
      rw [mc.1.2.2.2.2.1] at q; exact absurd (nI_le (by omega) (by omega)) q
    | succ f ih =>
      intro i hi r
      unfold srF at r
      refine vX10_onlyOne_2 hA ⟨mc.1.1.1, fun q => ?_, fun _ => ⟨fun c => ?_, fun c => ?_⟩⟩
      · rw [mc.1.2.2.2.2.1] at q; exact absurd q (nI_ge (by omega) (by omega))
      · rw [pow_nI hm (by omega)] at c
        rw [if_neg c] at r
        rw [← nI_succ]; exact ih (i + 1) (by omega) r
      · rw [pow_nI hm (by omega)] at c
        rw [if_pos c] at r
        exact r
  exact key (dH D) 0 (by omega) hq
/-- the rows found so far -/
def cmR (h hh : ax_H) (k : Nat) (D : rD) (w dd n : Nat) (C1 : Nat → Nat → Int32) (i : Nat) : Prop := cmS h hh k D w dd ∧ ax_i hh 77 50 = nI (sNn (fun c => if rB D n C1 dd 0 (dpu D) c then 1 else 0) i) ∧ ∀ t, t < dd → ax_i hh 98 t = nI (orN (fun c => if rB D n C1 dd 0 (dpu D) c then 2 ^ rF (dH D) dd 0 (fun _ => 0) c t else 0) i)
theorem rF_lt {H : Nat} (hH : 0 < H) {t : Nat} : ∀ m gone ρ c, (t < gone → ρ t < H) → t < gone + m → rF H m gone ρ c t < H
  | 0, gone, ρ, c, h1, h2 => h1 (by omega)
  | m + 1, gone, ρ, c, h1, h2 => rF_lt hH m (gone + 1) _ _ (fun ht => by
    unfold updN
    by_cases e : t = gone
    · rw [if_pos e]; exact Nat.mod_lt _ hH
    · rw [if_neg e]; exact h1 (by omega)) (by omega)
theorem c_findFitsE (a : tc h z DD N C) (ok : rd_ok (DD k)) (M : (ax_same md_F h hh ∧ ∃ pu, mc_at hh 77 k (DD k) (dmo (DD k)) pu (sp_vl (DD k))) ∧ ax_i hh 77 49 = nI w) (hw : w < z 4) (hq : ∀ h2, cmR h h2 k (DD k) w (dN (C 4 w) (N 4 w)) (N 4 w) (C 4 w) (dH (DD k) ^ dN (C 4 w) (N 4 w)) → Ret none h2) : mX10_findFits g [.ref 77] hh Ret := by
  have H12 := ok.1.2
  have H2 := ok.1.1
  have lo := a.2.2.2.2.2.2 4 w (by decide) (by decide) hw
  have n6 : N 4 w ≤ 6 := lo.1
  have s00 := (tc_md M.1.1 a).2.1.1
  have dle := dN_le lo (N 4 w) (Nat.le_refl _)
  have p12 : ∀ i, i ≤ 3 → 12 ^ i ≤ 1728 := by decide
  have pH : dH (DD k) ^ dN (C 4 w) (N 4 w) ≤ 1728 := Nat.le_trans (Nat.pow_le_pow_left H12 _) (p12 _ dle)
  refine uX10_findFits (fun A hA => vX10_findFits_0 hA ⟨s00, ?_⟩)
  intro u1
  have M1 : cmS h u1 k (DD k) w 0 := by
    obtain ⟨⟨s, pu, mc⟩, e1⟩ := M
    exact ⟨⟨sm_tr s (sm_pi (Or.inl rfl)), pu, mc_at_mr (mr_f (J := fun j => j = 51) (F := fun _ => False) rfl) (by decide) (by decide) mc⟩, by show ax_i (ax_pi hh 77 51 0) 77 49 = _; rw [ai_pi, if_neg (by decide)]; exact e1, by show ax_i (ax_pi hh 77 51 0) 77 51 = _; rw [ai_pi, if_pos ⟨rfl, rfl⟩]; rfl⟩
  have k85 : ∀ m i : Nat, i + m = dH (DD k) ^ dN (C 4 w) (N 4 w) → ∀ h3, cmR h h3 k (DD k) w (dN (C 4 w) (N 4 w)) (N 4 w) (C 4 w) i → ∀ o3 : Option Value, A (85, [some (.ref 77), some (.int (nI (dH (DD k) ^ dN (C 4 w) (N 4 w)))), some (.int (nI i)), o3], [], h3, 0, 0) := by
    intro m
    induction m with
    | zero =>
      intro i hi h3 R3 o3
      exact vX10_findFits_85 hA ⟨fun _ => hq h3 (by rw [← show i = dH (DD k) ^ dN (C 4 w) (N 4 w) by omega]; exact R3), fun q => absurd (nI_le (by omega) (by omega)) q⟩
    | succ m ih =>
      intro i hi h3 R3 o3
      obtain ⟨M3, e50, e98⟩ := R3
      obtain ⟨pu, mc⟩ := M3.1.2
      have fr : ∀ h4, mr rwJ rwF 77 h3 h4 → ax_i h4 77 50 = ax_i h3 77 50 ∧ ∀ t, ax_i h4 98 t = ax_i h3 98 t := fun h4 r4 => ⟨(r4.2 50 (by unfold rwJ; decide)).1, fun t => mr_e r4 (by decide) (by unfold rwF; decide) t⟩
      refine vX10_findFits_85 hA ⟨fun q => absurd q (nI_ge (by omega) (by omega)), fun _ => ⟨mc.1.1.1, c_misRowE a ok M3 hw dle (by omega) (fun yes h4 M4 r4 rw4 => ⟨_, rfl, fun q => absurd q (by decide), fun _ => ?_⟩) (fun no h4 M4 r4 => ⟨_, rfl, fun _ => ?_, fun q => absurd rfl q⟩)⟩⟩
      · obtain ⟨pu4, mc4⟩ := M4.1.2
        refine ⟨rfl, mc4.1.1.1, mc4.1.1.1, ?_⟩
        intro u16
        have e16 : ax_i u16 77 50 = nI (sNn (fun c => if rB (DD k) (N 4 w) (C 4 w) (dN (C 4 w) (N 4 w)) 0 (dpu (DD k)) c then 1 else 0) (i + 1)) := by
          show ax_i (ax_pi h4 77 50 (ax_i h4 77 50 + 1)) 77 50 = nI (sNn _ i + (if rB (DD k) (N 4 w) (C 4 w) (dN (C 4 w) (N 4 w)) 0 (dpu (DD k)) i = true then 1 else 0))
          rw [ai_pi, if_pos ⟨rfl, rfl⟩, (fr h4 r4).1, e50, yes, if_pos rfl, nI_succ]
        have k110 : ∀ f j : Nat, j + f = dN (C 4 w) (N 4 w) → ∀ h5, cmS h h5 k (DD k) w (dN (C 4 w) (N 4 w)) → ax_i h5 77 50 = nI (sNn (fun c => if rB (DD k) (N 4 w) (C 4 w) (dN (C 4 w) (N 4 w)) 0 (dpu (DD k)) c then 1 else 0) (i + 1)) → (∀ t, t < dN (C 4 w) (N 4 w) → ax_i h5 99 t = nI (rF (dH (DD k)) (dN (C 4 w) (N 4 w)) 0 (fun _ => 0) i t)) → (∀ t, t < dN (C 4 w) (N 4 w) → ax_i h5 98 t = nI (orN (fun c => if rB (DD k) (N 4 w) (C 4 w) (dN (C 4 w) (N 4 w)) 0 (dpu (DD k)) c then 2 ^ rF (dH (DD k)) (dN (C 4 w) (N 4 w)) 0 (fun _ => 0) c t else 0) (if t < j then i + 1 else i))) → A (110, [some (.ref 77), some (.int (nI (dH (DD k) ^ dN (C 4 w) (N 4 w)))), some (.int (nI i)), some (.int (nI j))], [], h5, 0, 0) := by
          intro f
          induction f with
          | zero =>
            intro j hj h5 M5 c50 c99 c98
            obtain ⟨pu5, mc5⟩ := M5.1.2
            refine vX10_findFits_110 hA ⟨mc5.1.1.1, fun _ => ?_, fun q => ?_⟩
            · rw [← nI_succ]
              exact ih (i + 1) (by omega) h5 ⟨M5, c50, fun t ht => by rw [c98 t ht, if_pos (by omega)]⟩ _
            · rw [M5.2.2] at q; exact absurd (nI_le (by omega) (by omega)) q
          | succ f ihf =>
            intro j hj h5 M5 c50 c99 c98
            obtain ⟨pu5, mc5⟩ := M5.1.2
            obtain ⟨e1, e2⟩ := mo_mb mc5.1.1
            obtain ⟨f1, f2⟩ := mo_rw mc5.1.1
            have s11 : (ax_s h5 (77 + 21)).1 = 11 := by rw [e2]
            have v3 : vp_in (nI j) (ax_s h5 (77 + 21)).2 := by rw [e2]; exact vp_in_nI (by omega) (by decide)
            refine vX10_findFits_110 hA ⟨mc5.1.1.1, fun q => ?_, fun _ => ⟨mc5.1.1.1, _, e1, ⟨rfl, rfl⟩, s11, v3, mc5.1.1.1, _, f1, by rw [f2], by rw [f2]; exact vp_in_nI (by omega) (by decide), ?_⟩⟩
            · rw [M5.2.2] at q; exact absurd q (nI_ge (by omega) (by omega))
            · intro z19
              have rl := rF_lt (H := dH (DD k)) (by omega) (t := j) (dN (C 4 w) (N 4 w)) 0 (fun _ => 0) i (fun q => absurd q (Nat.not_lt_zero j)) (by omega)
              have ez : z19 = nI (orN (fun c => if rB (DD k) (N 4 w) (C 4 w) (dN (C 4 w) (N 4 w)) 0 (dpu (DD k)) c then 2 ^ rF (dH (DD k)) (dN (C 4 w) (N 4 w)) 0 (fun _ => 0) c j else 0) (i + 1)) := by
                show ax_i h5 98 (nI j).toNatClampNeg ||| (1 : Int32) <<< (ax_i h5 99 (nI j).toNatClampNeg &&& 31) = nI (orN _ i ||| (if rB (DD k) (N 4 w) (C 4 w) (dN (C 4 w) (N 4 w)) 0 (dpu (DD k)) i = true then 2 ^ rF (dH (DD k)) (dN (C 4 w) (N 4 w)) 0 (fun _ => 0) i j else 0))
                rw [nI_clamp (by omega), c98 j (by omega), if_neg (by omega), c99 j (by omega), sh_or (by omega), yes, if_pos rfl]
              refine ⟨s11, v3, ?_⟩
              intro u20
              rw [← nI_succ]
              refine ihf (j + 1) (by omega) u20 (cmS_a M5 (Or.inl rfl)) ?_ (fun t ht => ?_) (fun t ht => ?_)
              · show ax_i (ax_pi h5 98 _ _) 77 50 = _
                rw [ai_pi, if_neg (by omega)]; exact c50
              · show ax_i (ax_pi h5 98 _ _) 99 t = _
                rw [ai_pi, if_neg (by omega)]; exact c99 t ht
              · show ax_i (ax_pi h5 98 (nI j).toNatClampNeg z19) 98 t = _
                rw [nI_clamp (by omega), ai_pi]
                by_cases e : t = j
                · rw [if_pos ⟨rfl, e⟩, ez, if_pos (by omega), e]
                · rw [if_neg (fun w => e w.2), c98 t ht]
                  by_cases e2 : t < j
                  · rw [if_pos e2, if_pos (by omega)]
                  · rw [if_neg e2, if_neg (by omega)]
        refine k110 (dN (C 4 w) (N 4 w)) 0 (by omega) u16 (cmS_f M4 rfl) e16 (fun t ht => ?_) (fun t ht => ?_)
        · show ax_i (ax_pi h4 77 50 _) 99 t = _
          rw [ai_pi, if_neg (by omega)]; exact rw4 t ht
        · show ax_i (ax_pi h4 77 50 _) 98 t = _
          rw [ai_pi, if_neg (by omega), (fr h4 r4).2, if_neg (by omega)]; exact e98 t ht
      · rw [← nI_succ]
        refine ih (i + 1) (by omega) h4 ⟨M4, ?_, fun t ht => ?_⟩ _
        · rw [(fr h4 r4).1, e50]
          show _ = nI (sNn _ i + (if rB (DD k) (N 4 w) (C 4 w) (dN (C 4 w) (N 4 w)) 0 (dpu (DD k)) i = true then 1 else 0))
          rw [no, if_neg Bool.false_ne_true, Nat.add_zero]
        · rw [(fr h4 r4).2, e98 t ht]
          show _ = nI (orN _ i ||| (if rB (DD k) (N 4 w) (C 4 w) (dN (C 4 w) (N 4 w)) 0 (dpu (DD k)) i = true then _ else 0))
          rw [no, if_neg Bool.false_ne_true, Nat.or_zero]
  have k55 : ∀ m i : Nat, i + m = dN (C 4 w) (N 4 w) → ∀ h3, cmS h h3 k (DD k) w (dN (C 4 w) (N 4 w)) → ax_i h3 77 50 = nI 0 → (∀ t, t < i → ax_i h3 98 t = nI 0) → ∀ o3 : Option Value, A (55, [some (.ref 77), some (.int (nI (dH (DD k) ^ i))), some (.int (nI i)), o3], [], h3, 0, 0) := by
    intro m
    induction m with
    | zero =>
      intro i hi h3 M3 c50 c98 o3
      obtain ⟨pu, mc⟩ := M3.1.2
      have e : i = dN (C 4 w) (N 4 w) := by omega
      rw [e] at c98 ⊢
      refine vX10_findFits_55 hA ⟨mc.1.1.1, fun _ => k85 (dH (DD k) ^ dN (C 4 w) (N 4 w)) 0 (by omega) h3 ⟨M3, c50, c98⟩ _, fun q => ?_⟩
      rw [M3.2.2] at q; exact absurd (nI_le (by omega) (by omega)) q
    | succ m ih =>
      intro i hi h3 M3 c50 c98 o3
      obtain ⟨pu, mc⟩ := M3.1.2
      obtain ⟨e1, e2⟩ := mo_mb mc.1.1
      refine vX10_findFits_55 hA ⟨mc.1.1.1, fun q => ?_, fun _ => ⟨mc.1.1.1, _, e1, by rw [e2], by rw [e2]; exact vp_in_nI (by omega) (by decide), ?_⟩⟩
      · rw [M3.2.2] at q; exact absurd q (nI_ge (by omega) (by omega))
      · intro u12
        have M12 : cmS h u12 k (DD k) w (dN (C 4 w) (N 4 w)) := cmS_a M3 (Or.inl rfl)
        obtain ⟨pu12, mc12⟩ := M12.1.2
        refine ⟨mc.1.1.1, ?_⟩
        rw [show ax_i u12 77 26 = nI (dH (DD k)) from mc12.1.2.2.2.2.1, pk_mul (dH (DD k) ^ i) (dH (DD k)), ← nI_succ, ← Nat.pow_succ]
        refine ih (i + 1) (by omega) u12 M12 ?_ (fun t ht => ?_) _
        · show ax_i (ax_pi h3 98 _ _) 77 50 = _
          rw [ai_pi, if_neg (by omega)]; exact c50
        · show ax_i (ax_pi h3 98 (nI i).toNatClampNeg 0) 98 t = _
          rw [nI_clamp (by omega), ai_pi]
          by_cases e : t = i
          · rw [if_pos ⟨rfl, e⟩]; rfl
          · rw [if_neg (fun w => e w.2)]; exact c98 t (by omega)
  have k7 : ∀ m i : Nat, i + m = N 4 w → ∀ h3, cmS h h3 k (DD k) w (dN (C 4 w) i) → ∀ o2 o3 : Option Value, A (7, [some (.ref 77), some (.int (nI i)), o2, o3], [], h3, 0, 0) := by
    intro m
    induction m with
    | zero =>
      intro i hi h3 M3 o2 o3
      obtain ⟨e1, e2, e3, e4⟩ := si_at a M3 hw
      have s0 := (tc_md M3.1.1 a).2.1.1
      have e : i = N 4 w := by omega
      rw [e] at M3
      refine vX10_findFits_7 hA ⟨s0, _, e1, s0, e2, e3, fun _ => ⟨s0, ?_⟩, fun q => ?_⟩
      · intro u3
        have t := k55 (dN (C 4 w) (N 4 w)) 0 (by omega) u3 (cmS_f M3 rfl) (by show ax_i (ax_pi h3 77 50 0) 77 50 = nI 0; rw [ai_pi, if_pos ⟨rfl, rfl⟩]; rfl) (fun t ht => absurd ht (Nat.not_lt_zero t))
        exact t _
      · rw [e4] at q; exact absurd (nI_le (by omega) (by omega)) q
    | succ m ih =>
      intro i hi h3 M3 o2 o3
      have c := tc_md M3.1.1 a
      obtain ⟨e1, e2, e3, e4⟩ := si_at a M3 hw
      have s0 := c.2.1.1
      obtain ⟨α, β, a1, a4, b6, ea, eb, -⟩ := lo.2 i (by omega)
      have di := dN_le lo i (by omega)
      have un : dN (C 4 w) (i + 1) = if dN (C 4 w) i < α then α else dN (C 4 w) i := by
        show (if dN (C 4 w) i < (C 4 w i 0).toNatClampNeg then (C 4 w i 0).toNatClampNeg else dN (C 4 w) i) = _
        rw [ea, nI_clamp (by omega)]
      refine vX10_findFits_7 hA ⟨s0, _, e1, s0, e2, e3, fun q => ?_, fun _ => ⟨s0, s0, c_msightOf (j := 0) c.2.1 c.2.2.2.1 c.2.2.2.2 hw M3.2.1 (by omega) (by decide) ⟨_, rfl, eX10_greater ⟨fun q1 => ⟨_, rfl, s0, ?_⟩, fun q1 => ⟨_, rfl, s0, ?_⟩⟩⟩⟩⟩
      · rw [e4] at q; exact absurd q (nI_ge (by omega) (by omega))
      · intro u10
        rw [← nI_succ]
        refine ih (i + 1) (by omega) u10 ?_ _ _
        show cmS h (ax_pi h3 77 51 (C 4 w i 0)) k (DD k) w (dN (C 4 w) (i + 1))
        rw [M3.2.2, ea, nI_leI (by omega) (by omega)] at q1
        have : dN (C 4 w) (i + 1) = α := by
          rw [un]
          by_cases v : dN (C 4 w) i < α
          · rw [if_pos v]
          · rw [if_neg v]; omega
        rw [ea, this]; exact cmS_51 M3
      · intro u10
        rw [← nI_succ]
        refine ih (i + 1) (by omega) u10 ?_ _ _
        show cmS h (ax_pi h3 77 51 (ax_i h3 77 51)) k (DD k) w (dN (C 4 w) (i + 1))
        rw [M3.2.2, ea, nI_leI (by omega) (by omega)] at q1
        rw [M3.2.2, un, if_neg (by omega)]; exact cmS_51 M3
  exact k7 (N 4 w) 0 (by omega) u1 M1 _ _
end
theorem q10_fits {x1 x2 x3 : Int32} (a : tc h z DD N C) (hq : ∀ h', ax_same md_F h h' → Ret (some (.int (qw (z 0) (z 4) x1 x2 (-2) (s_fits DD N C x3)))) h') : mX10_fits g [.ref 77, .int x1, .int x2, .int x3] h Ret := by
  have z0 := a.2.2.2.2.1 0 (by decide)
  have z4 := a.2.2.2.2.1 4 (by decide)
  obtain ⟨a1, T1, hs1⟩ := q_code (v := 0) a.2.1 a.2.2.2.1
  obtain ⟨a2, T2, hs2⟩ := mf_keep (k := 49) (v := x2) a1 T1
  refine eX10_fits ⟨a.2.1.1, ?_⟩
  intro u1
  refine ⟨a.2.1.1, c_mhasSights a1 T1 a.2.2.2.2 ⟨_, rfl, fun q => ?_, fun q => ⟨a2.1, q_handR a2 T2 a.2.2.2.2 (fun e => ⟨_, rfl, fun q => absurd rfl q, fun _ => ?_⟩) (fun k hk ex ok h' hs hm => ⟨_, rfl, fun _ => ⟨hm.1.1.1.1, ?_⟩, fun q => absurd q (by decide)⟩)⟩⟩⟩
  · have hv := hq _ (sm_tr hs1 hs2); rw [qw_n2 (b2i_0.mp q)] at hv; exact hv
  · have hv := hq _ (sm_tr hs1 hs2); rw [qw_n1 e] at hv; exact hv
  obtain ⟨w, hw, ew⟩ := sp_in_ix (by omega) (b2i_n0.mp q)
  have e49 : ax_i h' 77 49 = nI w := by rw [(hs.2 49 (by unfold hd_J; decide)).1, ← ew]; exact ai_eq
  have H12 := ok.1.2
  have H2 := ok.1.1
  have lo := a.2.2.2.2.2.2 4 w (by decide) (by decide) hw
  have dle := dN_le lo (N 4 w) (Nat.le_refl _)
  refine c_findFitsE a ok ⟨⟨sm_tr hs1 (sm_tr hs2 (hd_md hs)), _, hm.1⟩, e49⟩ hw (fun h2 R => ⟨rfl, ?_⟩)
  obtain ⟨M, e50, e98⟩ := R
  rw [cnt_eq (by omega)] at e50
  obtain ⟨pu, mc⟩ := M.1.2
  have s0 := mc.1.1.1
  have hv := hq h2 M.1.1
  rw [qw_y z0 z4 hk ex hw ew] at hv
  unfold s_fits at hv
  obtain ⟨e1, e2⟩ := mo_mb mc.1.1
  have ix : ∀ (b : Nat), b ≤ 50 → nI (b + 1) ≤ x3 → x3 ≤ nI (b + dN (C 4 w) (N 4 w)) → nI (b + 1) ≤ x3 ∧ x3 < nI (b + 1 + dN (C 4 w) (N 4 w)) := fun b hb y1 y2 => ⟨y1, by
    rw [i_le, nI_toInt (by omega)] at y2
    rw [i_lt, nI_toInt (by omega)]; omega⟩
  have xi : ∀ (b : Nat), b ≤ 50 → ¬ (nI (b + 1) ≤ x3 ∧ x3 ≤ nI (b + dN (C 4 w) (N 4 w))) → ¬ (nI (b + 1) ≤ x3 ∧ x3 < nI (b + 1 + dN (C 4 w) (N 4 w))) := fun b hb n w => n ⟨w.1, by
    have := w.2
    rw [i_lt, nI_toInt (by omega)] at this
    rw [i_le, nI_toInt (by omega)]; omega⟩
  refine ⟨s0, ?_⟩
  rw [M.2.2, show (9 : Int32) + nI (dN (C 4 w) (N 4 w)) = nI (9 + dN (C 4 w) (N 4 w)) from ni_c 9 _]
  refine c_min ⟨_, rfl, fun q1 => ⟨fun n0 => ⟨s0, ?_⟩, fun e0 => ⟨s0, ?_⟩⟩, fun q1 => ?_⟩
  · have n10 : ¬ (10 ≤ x3 ∧ x3 < nI (10 + dN (C 4 w) (N 4 w))) := xi 9 (by decide) (of_decide_eq_false (b2i_0.mp q1))
    rw [M.2.2, show (19 : Int32) + nI (dN (C 4 w) (N 4 w)) = nI (19 + dN (C 4 w) (N 4 w)) from ni_c 19 _]
    refine c_min ⟨_, rfl, fun q2 => ?_, fun q2 => ?_⟩
    · have n20 : ¬ (20 ≤ x3 ∧ x3 < nI (20 + dN (C 4 w) (N 4 w))) := xi 19 (by decide) (of_decide_eq_false (b2i_0.mp q2))
      rw [if_neg n0, if_neg n10, if_neg n20] at hv; exact hv
    · have y := of_decide_eq_true (b2i_n0.mp q2)
      have y20 : 20 ≤ x3 ∧ x3 < nI (20 + dN (C 4 w) (N 4 w)) := ix 19 (by decide) y.1 y.2
      rw [if_neg n0, if_neg n10, if_pos y20] at hv
      obtain ⟨i, hi, ei⟩ := rng_ix (b := 20) (by decide) dle y20.1 y20.2
      have es : x3 - 20 = nI i := by rw [ei]; exact ni_sb
      rw [es, nI_clamp (by omega)] at hv
      have t := e98 i hi
      rw [bF_eq (by omega)] at t
      refine ⟨s0, _, e1, by rw [e2], ?_, ?_⟩
      · rw [es, e2]; exact vp_in_nI (by omega) (by decide)
      · rw [es, nI_clamp (by omega), show ax_i h2 (77 + 21) i = _ from t]; exact hv
  · rw [if_pos e0] at hv
    rw [e50]; exact hv
  · have y := of_decide_eq_true (b2i_n0.mp q1)
    have y10 : 10 ≤ x3 ∧ x3 < nI (10 + dN (C 4 w) (N 4 w)) := ix 9 (by decide) y.1 y.2
    have n0 : ¬ x3 = 0 := fun e => by
      have := y10.1
      rw [e, i_le, show (10 : Int32).toInt = 10 from rfl, show (0 : Int32).toInt = 0 from rfl] at this
      omega
    rw [if_neg n0, if_pos y10] at hv
    obtain ⟨i, hi, ei⟩ := rng_ix (b := 10) (by decide) dle y10.1 y10.2
    have es : x3 - 10 = nI i := by rw [ei]; exact ni_sb
    rw [es, nI_clamp (by omega)] at hv
    have t := e98 i hi
    rw [bF_eq (by omega)] at t
    have bl := bF_lt (D := DD k) (n := N 4 w) (C1 := C 4 w) (t := i) (dN (C 4 w) (N 4 w)) 0 (dpu (DD k)) (fun _ => 0) (fun q => absurd q (Nat.not_lt_zero i)) (by omega)
    refine ⟨s0, _, e1, by rw [e2], ?_, s0, ?_⟩
    · rw [es, e2]; exact vp_in_nI (by omega) (by decide)
    · rw [es, nI_clamp (by omega), show ax_i h2 (77 + 21) i = _ from t]
      exact c_monlyOneE M (Nat.lt_of_lt_of_le bl (Nat.pow_le_pow_right (by decide) H12)) ⟨_, rfl, hv⟩
theorem g_fits (a : IV h S Im tp) (b : 103 ≤ h.1 ∧ h.1 ≤ B) (x1 x2 x3 : Int32) : prI (mX9_fits g) (mX10_fits g) [.ref 0, .int x1, .int x2, .int x3] [.ref 77, .int x1, .int x2, .int x3] h (inv B) := pr_q _ a b (fun Ret k => q9_fits (iv_tc a) a.1.1.2.2.2.2.1 k) (fun h1 Ret a1 k => q10_fits (iv_tc a1) k)
end
