section
variable {g : ax_G} {Ret : Option Value → ax_H → Prop} {h : ax_H} {z : Nat → Nat} {DD : Nat → rD} {N : Nat → Nat → Nat} {C : Nat → Nat → Nat → Nat → Int32} {S : sT} {Im : Nat → Option sT} {tp : Nat → Nat} {B : Nat}
/-! SHIFT and RULING, of the reference: deeds of any kind, values of any size -/
def dOk (d : Int32) : Prop := d = -1 ∨ ∃ k : Nat, k < 6 ∧ d = nI k
section
variable {hh : ax_H} {ρ : Nat} {D : rD} {mo : Nat → Int32}
def deA (hh : ax_H) (D : rD) : Prop := ∀ p q, p < dP D → q < dH D → dOk (ax_i hh 91 (12 * p + q))
theorem t_mworth {p q : Nat} {l : Int32} (a : mb_at hh 77 ρ D mo) (d : deA hh D) (hp : p < dP D) (hq0 : q < dH D) (hq : ∀ v : Int32, Ret (some (.int v)) hh) : mX10_worthOf g [.ref 77, .int (nI p), .int (nI q), .int l] hh Ret := by
  obtain ⟨a1, a2, a3, a4, -, -, -⟩ := id a
  obtain ⟨e1, e2⟩ := mo_de a1
  have hb := a3.1
  have ei : (12 : Int32) * nI p + nI q = nI (12 * p + q) := ni_21
  refine eX10_worthOf ⟨a1.1, _, e1, by rw [e2], ?_, fun h1 => ?_, fun h1 => hq _⟩
  · rw [ei, e2]; exact vp_in_nI (by omega) (by decide)
  · rw [ei, nI_clamp (by omega)] at h1 ⊢
    obtain ⟨k, hk, hd⟩ := (d p q hp hq0).resolve_left h1
    rw [show ax_i hh (77 + 14) (12 * p + q) = nI k from hd]
    exact ⟨a1.1, c_mof (i := 8 + k) a1 a2 a4 (by omega) (ni_c 8 k) ⟨_, rfl, fun h2 => ⟨a1.1, c_mmode a hk ⟨_, rfl, c_mtimes ⟨_, rfl, hq _⟩⟩⟩, fun h2 => hq _⟩⟩
theorem t_mvalueBy {p : Nat} {x y : Int32} (a : mb_at hh 77 ρ D mo) (d : deA hh D) (hp : p < dP D) (hq : ∀ v : Int32, Ret (some (.int v)) hh) : mX10_valueBy g [.ref 77, .int (nI p), .int x, .int y] hh Ret := by
  have H12 := a.2.2.1.1.1
  refine uX10_valueBy (fun A hA => vX10_valueBy_0 hA ?_)
  have key : ∀ n i : Nat, i + n = dH D → ∀ (x4 : Int32) (o6 : Option Value), A (6, [some (.ref 77), some (.int (nI p)), some (.int x), some (.int y), some (.int x4), some (.int (nI i)), o6], [], hh, 0, 0) := by
    intro n
    induction n with
    | zero =>
      intro i hi x4 o6
      refine vX10_valueBy_6 hA ⟨a.1.1, fun _ => hq _, fun q => ?_⟩
      rw [a.2.2.2.2.1] at q; exact absurd (nI_le (by omega) (by omega)) q
    | succ n ih =>
      intro i hi x4 o6
      refine vX10_valueBy_6 hA ⟨a.1.1, fun q => ?_, fun _ => ⟨fun _ => ⟨fun _ => ⟨a.1.1, t_mworth a d hp (by omega) (fun v => ⟨_, rfl, ?_⟩)⟩, fun _ => ⟨a.1.1, t_mworth a d hp (by omega) (fun v => ⟨_, rfl, ?_⟩)⟩⟩, fun _ => ⟨fun _ => ⟨a.1.1, t_mworth a d hp (by omega) (fun v => ⟨_, rfl, ?_⟩)⟩, fun _ => ⟨a.1.1, t_mworth a d hp (by omega) (fun v => ⟨_, rfl, ?_⟩)⟩⟩⟩⟩
      · rw [a.2.2.2.2.1] at q; exact absurd q (nI_ge (by omega) (by omega))
      all_goals (rw [← nI_succ]; exact ih (i + 1) (by omega) _ _)
  exact key (dH D) 0 (by omega) _ _
theorem t_mlayValues {p : Nat} (a : mb_at hh 77 ρ D mo) (d : deA hh D) (hp : p < dP D) (hq : ∀ h', mr noJ (fun a => a = 92) 77 hh h' → Ret none h') : mX10_layValues g [.ref 77, .int (nI p)] hh Ret := by
  have H12 := a.2.2.1.1.1
  have P6 := a.2.2.1.1.2
  refine uX10_layValues (fun A hA => vX10_layValues_0 hA ?_)
  have key : ∀ n i : Nat, i + n = dH D → ∀ h3, mr noJ (fun a => a = 92) 77 hh h3 → A (2, [some (.ref 77), some (.int (nI p)), some (.int (nI i))], [], h3, 0, 0) := by
    intro n
    induction n with
    | zero =>
      intro i hi h3 r3
      have b := mb_at_mr r3 (by unfold noJ; decide) (by decide) a
      refine vX10_layValues_2 hA ⟨b.1.1, fun _ => hq h3 r3, fun q => ?_⟩
      rw [b.2.2.2.2.1] at q; exact absurd (nI_le (by omega) (by omega)) q
    | succ n ih =>
      intro i hi h3 r3
      have b := mb_at_mr r3 (by unfold noJ; decide) (by decide) a
      have d3 : deA h3 D := fun p q hp hq => by rw [mr_e r3 (by decide) (by decide)]; exact d p q hp hq
      obtain ⟨e1, e2⟩ := mo_va b.1
      have ei : (12 : Int32) * nI p + nI i = nI (12 * p + i) := ni_21
      refine vX10_layValues_2 hA ⟨b.1.1, fun q => ?_, fun _ => ⟨b.1.1, _, e1, b.1.1, t_mvalueBy b d3 hp (fun v => ⟨_, rfl, by rw [e2], by rw [ei, e2]; exact vp_in_nI (by omega) (by decide), ?_⟩)⟩⟩
      · rw [b.2.2.2.2.1] at q; exact absurd q (nI_ge (by omega) (by omega))
      · intro u5
        rw [← nI_succ]
        exact ih (i + 1) (by omega) u5 (mr_tr r3 (mr_c rfl (by decide)))
  exact key (dH D) 0 (by omega) hh mr_rf
theorem t_mmeanOf {p : Nat} {x : Int32} (ok : rd_ok D) (a : mb_at hh 77 ρ D mo) (b : mw_at hh 77 (dH D) (sp_w D x) (sp_t D x) x) (hp : p < dP D) (hq : ∀ v, bL 231928233984 v → Ret (some (.long v)) hh) : mX10_meanOf g [.ref 77, .int (nI p)] hh Ret := by
  obtain ⟨hH, hP⟩ := a.2.2.1.1
  have s0 := a.1.1
  obtain ⟨e1, e2⟩ := mo_we a.1
  obtain ⟨f1, f2⟩ := mo_va a.1
  refine uX10_meanOf (fun A hA => vX10_meanOf_0 hA ?_)
  have key : ∀ n i : Nat, i + n = dH D → ∀ x2 : Int64, bL (19327352832 * i) x2 → A (5, [some (.ref 77), some (.int (nI p)), some (.long x2), none, some (.int (nI i))], [], hh, 0, 0) := by
    intro n
    induction n with
    | zero =>
      intro i hi x2 b2
      refine vX10_meanOf_5 hA ⟨s0, fun _ => hq _ (bL_mono b2 (by omega)), fun q => ?_⟩
      rw [a.2.2.2.2.1] at q; exact absurd (nI_le (by omega) (by omega)) q
    | succ n ih =>
      intro i hi x2 b2
      have ei : (12 : Int32) * nI p + nI i = nI (12 * p + i) := ni_21
      refine vX10_meanOf_5 hA ⟨s0, fun q => ?_, fun _ => ⟨s0, _, e1, by rw [e2], by rw [e2]; exact vp_in_nI (by omega) (by decide), s0, _, f1, by rw [f2], by rw [ei, f2]; exact vp_in_nI (by omega) (by decide), ?_⟩⟩
      · rw [a.2.2.2.2.1] at q; exact absurd q (nI_ge (by omega) (by omega))
      · intro z3
        have bz : bL 19327352832 z3 := by
          show bL 19327352832 ((ax_i hh (77 + 16) (nI i).toNatClampNeg).toInt64 * (ax_i hh (77 + 15) ((12 : Int32) * nI p + nI i).toNatClampNeg).toInt64)
          rw [nI_clamp (by omega), b.1 i (by omega)]
          have bw := sp_w_bd ok x i
          exact bL_mono (bL_mul (a := 9) (b := 2147483648) (by decide) (by decide) (bL_32 (by omega)) (bL_32 (by have := i_bd (ax_i hh (77 + 15) ((12 : Int32) * nI p + nI i).toNatClampNeg); omega)) (by decide)) (by decide)
        rw [← nI_succ]
        exact ih (i + 1) (by omega) _ (bL_mono (bL_add b2 bz (by omega)) (by omega))
  exact key (dH D) 0 (by omega) _ (by unfold bL; decide)
end
/-- what SHIFT and RULING keep while they try -/
def sM (h hh : ax_H) (k : Nat) (D : rD) : Prop := ax_same md_F h hh ∧ (∃ mo, mb_at hh 77 k D mo) ∧ (∃ x, mw_at hh 77 (dH D) (sp_w D x) (sp_t D x) x) ∧ deA hh D
theorem sM_hm {h' : ax_H} {k : Nat} {D : rD} (ok : rd_ok D) (s : ax_same md_F h h') (hm : hm_at h' k D) : sM h h' k D := ⟨s, ⟨_, hm.1.1⟩, ⟨_, hm.2⟩, fun p q hp hq => by rw [hm.1.2.2.1 p q hp hq]; exact rd_de_of ok p q hp hq⟩
theorem sM_92 {hh h2 : ax_H} {k : Nat} {D : rD} (M : sM h hh k D) (r : mr noJ (fun a => a = 92) 77 hh h2) : sM h h2 k D := by
  obtain ⟨s, ⟨mo, b⟩, ⟨x, w⟩, d⟩ := M
  exact ⟨sm_tr s (sm_mono r.1 (fun x e => by unfold md_F; omega)), ⟨mo, mb_at_mr r (by unfold noJ; decide) (by decide) b⟩, ⟨x, mw_mr r (by unfold noJ; decide) (by decide) w⟩, fun p q hp hq => by rw [mr_e r (by decide) (by decide)]; exact d p q hp hq⟩
theorem sM_91 {hh : ax_H} {k j : Nat} {v : Int32} {D : rD} (M : sM h hh k D) (hv : dOk v) : sM h (ax_pi hh 91 j v) k D := by
  obtain ⟨s, ⟨mo, b⟩, ⟨x, w⟩, d⟩ := M
  have r : mr noJ (fun a => a = 91) 77 hh (ax_pi hh 91 j v) := mr_c rfl (by decide)
  refine ⟨sm_tr s (sm_mono r.1 (fun x e => by unfold md_F; omega)), ⟨mo, mb_at_mr r (by unfold noJ; decide) (by decide) b⟩, ⟨x, mw_mr r (by unfold noJ; decide) (by decide) w⟩, fun p q hp hq => ?_⟩
  rw [ai_pi]
  split
  · exact hv
  · exact d p q hp hq
theorem t_swap {hh : ax_H} {k p q r : Nat} {D : rD} (M : sM h hh k D) (hp : p < dP D) (hq0 : q < dH D) (hr : r < dH D) (K : ∀ h2, sM h h2 k D → Ret none h2) : mX10_swapDeed g [.ref 77, .int (nI p), .int (nI q), .int (nI r)] hh Ret := by
  obtain ⟨mo, b⟩ := M.2.1
  have d := M.2.2.2
  obtain ⟨hH, hP⟩ := b.2.2.1.1
  obtain ⟨e1, e2⟩ := mo_de b.1
  have eq : (12 : Int32) * nI p + nI q = nI (12 * p + q) := ni_21
  have er : (12 : Int32) * nI p + nI r = nI (12 * p + r) := ni_21
  have vq : vp_in ((12 : Int32) * nI p + nI q) (ax_s hh (77 + 14)).2 := by rw [eq, e2]; exact vp_in_nI (by omega) (by decide)
  have vr : vp_in ((12 : Int32) * nI p + nI r) (ax_s hh (77 + 14)).2 := by rw [er, e2]; exact vp_in_nI (by omega) (by decide)
  have s11 : (ax_s hh (77 + 14)).1 = 11 := by rw [e2]
  refine eX10_swapDeed ⟨b.1.1, _, e1, s11, vq, b.1.1, _, e1, b.1.1, _, e1, s11, vr, s11, vq, ?_⟩
  intro u4
  have M4 : sM h u4 k D := sM_91 M (by rw [er, nI_clamp (by omega)]; exact d p r hp hr)
  refine ⟨b.1.1, _, e1, s11, vr, ?_⟩
  intro u6
  have M6 : sM h u6 k D := sM_91 M4 (by rw [eq, nI_clamp (by omega)]; exact d p q hp hq0)
  obtain ⟨mo6, b6⟩ := M6.2.1
  exact ⟨b6.1.1, t_mlayValues b6 M6.2.2.2 hp (fun h2 r2 => ⟨rfl, K h2 (sM_92 M6 r2)⟩)⟩
theorem t10_shift {x1 x2 x3 : Int32} (a : tc h z DD N C) (hq : ∀ (v : Int32) h', ax_same md_F h h' → Ret (some (.int v)) h') : mX10_shift g [.ref 77, .int x1, .int x2, .int x3] h Ret := by
  obtain ⟨a1, T1, hs1⟩ := q_code (v := 0) a.2.1 a.2.2.2.1
  refine uX10_shift (fun A hA => vX10_shift_0 hA ⟨a.2.1.1, ?_⟩)
  intro h1
  refine c_min ⟨_, rfl, fun _ => hq _ _ hs1, fun _ => ⟨a1.1, q_handOne a1 T1 a.2.2.2.2 (fun h' hs _ => ⟨_, rfl, fun q => absurd rfl q, fun _ => hq _ _ (sm_tr hs1 hs)⟩) (fun k p hk ex ok hp ep h' hs hm => ⟨_, rfl, fun _ => ⟨hm.1.1.1.1, ?_⟩, fun q => absurd q (by decide)⟩)⟩⟩
  subst ep
  have H12 := ok.1.2
  have P6 := ok.2.1
  have M0 := sM_hm ok (sm_tr hs1 hs) hm
  refine t_mmeanOf ok hm.1.1 hm.2 hp (fun v bv => ⟨_, rfl, ?_⟩)
  have key : ∀ n i : Nat, i + n = 12 * dH (DD k) → ∀ h3, sM h h3 k (DD k) → ∀ (x4 : Int32) (x5 : Int64) (o8 o9 o10 o11 : Option Value), bL 231928233984 x5 → A (40, [some (.ref 77), some (.int x1), some (.int (nI p)), some (.int x3), some (.int x4), some (.long x5), none, some (.int (nI i)), o8, o9, o10, o11], [], h3, 0, 0) := by
    intro n
    induction n with
    | zero =>
      intro i hi h3 M x4 x5 o8 o9 o10 o11 b5
      obtain ⟨mo, mb⟩ := M.2.1
      obtain ⟨x, mw⟩ := M.2.2.1
      have fin : ∀ v : Int32, Ret (some (.int v)) h3 := fun v => hq v h3 M.1
      have s0 := mb.1.1
      have e12 : (12 : Int32) * ax_i h3 77 26 = nI (12 * dH (DD k)) := by rw [mb.2.2.2.2.1]; exact ni_mul
      have big : -9223372036854775808 < x5.toInt := by unfold bL at b5; omega
      have tp : 0 < (sp_t (DD k) x).toInt64.toInt := by rw [i_64]; exact (sp_t_bd ok x).1
      refine vX10_shift_40 hA ⟨s0, fun _ => ⟨fun _ => ⟨fun _ => ⟨fun _ => ⟨by decide, fin _⟩, fun _ => ⟨by decide, fin _⟩⟩, fun _ => fin _⟩, fun _ => ⟨s0, fun _ => ?_, fun _ => ?_⟩⟩, fun q => ?_⟩
      · rw [mw.2.1]; exact c_part big tp ⟨_, rfl, fin _⟩
      · rw [mw.2.1]; exact c_part big tp ⟨_, rfl, fin _⟩
      · rw [e12] at q; exact absurd (nI_le (by omega) (by omega)) q
    | succ n ih =>
      intro i hi h3 M x4 x5 o8 o9 o10 o11 b5
      obtain ⟨mo, mb⟩ := M.2.1
      obtain ⟨x, mw⟩ := M.2.2.1
      have s0 := mb.1.1
      obtain ⟨e1, e2⟩ := mo_de mb.1
      have e12 : (12 : Int32) * ax_i h3 77 26 = nI (12 * dH (DD k)) := by rw [mb.2.2.2.2.1]; exact ni_mul
      have ed : nI i / (12 : Int32) = nI (i / 12) := pk_div (d := 12) (by omega) (by decide) (by decide)
      have er : nI i - nI i / (12 : Int32) * 12 = nI (i % 12) := pk_rem (d := 12) (by omega) (by decide) (by decide)
      have di : i / 12 < dH (DD k) := by omega
      have K : ∀ h4, sM h h4 k (DD k) → ∀ (x4 : Int32) (x5 : Int64) (o8 o9 o10 o11 : Option Value), bL 231928233984 x5 → A (40, [some (.ref 77), some (.int x1), some (.int (nI p)), some (.int x3), some (.int x4), some (.long x5), none, some (.int (nI i + 1)), o8, o9, o10, o11], [], h4, 0, 0) := fun h4 M4 x4 x5 o8 o9 o10 o11 b => by rw [← nI_succ]; exact ih (i + 1) (by omega) h4 M4 _ _ _ _ _ _ b
      have eq : (12 : Int32) * nI p + nI (i / 12) = nI (12 * p + i / 12) := ni_21
      have eq2 : (12 : Int32) * nI p + nI (i % 12) = nI (12 * p + i % 12) := ni_21
      refine vX10_shift_40 hA ⟨s0, fun q => ?_, fun _ => ⟨by decide, by decide, s0, fun _ => K h3 M _ _ _ _ _ _ b5, fun qr => ⟨s0, _, e1, by rw [e2], ?_, fun _ => K h3 M _ _ _ _ _ _ b5, fun _ => ⟨s0, _, e1, by rw [e2], ?_, ?_⟩⟩⟩⟩
      · rw [e12] at q; exact absurd q (nI_ge (by omega) (by omega))
      · rw [ed, eq, e2]; exact vp_in_nI (by omega) (by decide)
      · rw [er, eq2, e2]; exact vp_in_nI (by omega) (by decide)
      · intro z19
        have rH : i % 12 < dH (DD k) := by
          rw [er, mb.2.2.2.2.1] at qr
          exact Nat.lt_of_not_le (fun w => qr (nI_le w (by omega)))
        refine ⟨fun _ => K h3 M _ _ _ _ _ _ b5, fun _ => ⟨s0, ?_⟩⟩
        rw [er, ed]
        refine t_swap M hp di rH (fun h4 M4 => ⟨rfl, ?_⟩)
        obtain ⟨mo4, mb4⟩ := M4.2.1
        obtain ⟨x4', mw4⟩ := M4.2.2.1
        refine ⟨mb4.1.1, t_mmeanOf ok mb4 mw4 hp (fun v bv => ⟨_, rfl, mb4.1.1, t_swap M4 hp di rH (fun h5 M5 => ⟨rfl, fun _ => ⟨fun _ => K h5 M5 _ _ _ _ _ _ b5, fun _ => K h5 M5 _ _ _ _ _ _ bv⟩, fun _ => ⟨fun _ => K h5 M5 _ _ _ _ _ _ b5, fun _ => K h5 M5 _ _ _ _ _ _ bv⟩⟩)⟩)⟩
  exact key (12 * dH (DD k)) 0 (by omega) h' M0 _ _ _ _ _ _ bv
theorem n_shift (a : IV h S Im tp) (b : 103 ≤ h.1 ∧ h.1 ≤ B) (x1 x2 x3 : Int32) : prN (mX9_shift g) (mX10_shift g) [.ref 0, .int x1, .int x2, .int x3] [.ref 77, .int x1, .int x2, .int x3] h (inv B) := pr_n a b (fun Ret k => t9_shift (iv_tc a) k) (fun h1 Ret a1 k => t10_shift (iv_tc a1) k)
/-! RULING -/
theorem t_allMeans {hh : ax_H} {k : Nat} {D : rD} (ok : rd_ok D) (M : sM h hh k D) (K : ∀ v h2, bL 1391569403904 v → sM h h2 k D → Ret (some (.long v)) h2) : mX10_allMeans g [.ref 77] hh Ret := by
  have P6 := ok.2.1
  refine uX10_allMeans (fun A hA => vX10_allMeans_0 hA ?_)
  have key : ∀ n i : Nat, i + n = dP D → ∀ h3, sM h h3 k D → ∀ x1 : Int64, bL (231928233984 * i) x1 → A (4, [some (.ref 77), some (.long x1), none, some (.int (nI i))], [], h3, 0, 0) := by
    intro n
    induction n with
    | zero =>
      intro i hi h3 M x1 b1
      obtain ⟨mo, mb⟩ := M.2.1
      refine vX10_allMeans_4 hA ⟨mb.1.1, fun _ => K _ _ (bL_mono b1 (by omega)) M, fun q => ?_⟩
      rw [mb.2.2.2.2.2.1] at q; exact absurd (nI_le (by omega) (by omega)) q
    | succ n ih =>
      intro i hi h3 M x1 b1
      obtain ⟨mo, mb⟩ := M.2.1
      refine vX10_allMeans_4 hA ⟨mb.1.1, fun q => ?_, fun _ => ⟨mb.1.1, t_mlayValues mb M.2.2.2 (by omega) (fun h4 r4 => ⟨rfl, ?_⟩)⟩⟩
      · rw [mb.2.2.2.2.2.1] at q; exact absurd q (nI_ge (by omega) (by omega))
      · have M4 := sM_92 M r4
        obtain ⟨mo4, mb4⟩ := M4.2.1
        obtain ⟨x4, mw4⟩ := M4.2.2.1
        refine ⟨mb4.1.1, t_mmeanOf ok mb4 mw4 (by omega) (fun v bv => ⟨_, rfl, ?_⟩)⟩
        rw [← nI_succ]
        exact ih (i + 1) (by omega) h4 M4 _ (bL_mono (bL_add b1 bv (by omega)) (by omega))
  exact key (dP D) 0 (by omega) hh M _ (by unfold bL; decide)
theorem sM_f {hh : ax_H} {k j : Nat} {v : Int32} {D : rD} (M : sM h hh k D) (hj : j = 34 ∨ j = 35) : sM h (ax_pi hh 77 j v) k D := by
  obtain ⟨s, ⟨mo, b⟩, ⟨x, w⟩, d⟩ := M
  have r : mr (fun i => i = j) (fun _ => False) 77 hh (ax_pi hh 77 j v) := mr_f rfl
  refine ⟨sm_tr s (sm_pi (Or.inl rfl)), ⟨fun κ => if nI κ = ax_i (ax_pi hh 77 j v) 77 34 then ax_i (ax_pi hh 77 j v) 77 35 else dmo D κ, mr_st r b.1, b.2.1, ?_, ?_, ?_, ?_, fun _ _ => rfl⟩, ⟨x, mw_mr r (by rcases hj with rfl | rfl <;> decide) id w⟩, fun p q hp hq => by rw [mr_e r (by decide) id]; exact d p q hp hq⟩
  · exact rm_at_same r.1 (by rintro (q | q); exact absurd q (by decide); exact q) b.2.2.1
  · rw [(r.2 25 (by rcases hj with rfl | rfl <;> decide)).1]; exact b.2.2.2.1
  · rw [(r.2 26 (by rcases hj with rfl | rfl <;> decide)).1]; exact b.2.2.2.2.1
  · rw [(r.2 27 (by rcases hj with rfl | rfl <;> decide)).1]; exact b.2.2.2.2.2.1
theorem t10_ruling {x1 x2 : Int32} (a : tc h z DD N C) (hq : ∀ (v : Int32) h', ax_same md_F h h' → Ret (some (.int v)) h') : mX10_ruling g [.ref 77, .int x1, .int x2] h Ret := by
  obtain ⟨a1, T1, hs1⟩ := q_code (v := 0) a.2.1 a.2.2.2.1
  refine uX10_ruling (fun A hA => vX10_ruling_0 hA ⟨a.2.1.1, ?_⟩)
  intro h1
  refine c_min ⟨_, rfl, fun _ => hq _ _ hs1, fun _ => ⟨a1.1, q_hand a1 T1 a.2.2.2.2 (fun _ => ⟨_, rfl, fun q => absurd rfl q, fun _ => hq _ _ hs1⟩) (fun k hk ex ok h' hs hm => ⟨_, rfl, fun _ => ?_, fun q => absurd q (by decide)⟩)⟩⟩
  have M0 := sM_hm ok (sm_tr hs1 hs) hm
  have key : ∀ n i : Nat, i + n = 18 → ∀ h3, sM h h3 k (DD k) → ∀ (x3 : Int32) (x4 : Int64) (o7 o8 : Option Value), bL 1391569403904 x4 → A (34, [some (.ref 77), some (.int x1), some (.int x2), some (.int x3), some (.long x4), none, some (.int (nI i)), o7, o8], [], h3, 0, 0) := by
    intro n
    induction n with
    | zero =>
      intro i hi h3 M x3 x4 o7 o8 b4
      have big : -9223372036854775808 < x4.toInt := by unfold bL at b4; omega
      obtain ⟨mo, mb⟩ := M.2.1
      refine vX10_ruling_34 hA ⟨fun _ => ⟨mb.1.1, ?_⟩, fun q => absurd (nI_le (a := 18) (b := i) (by omega) (by omega)) q⟩
      intro u8
      have M8 : sM h u8 k (DD k) := sM_f M (Or.inl rfl)
      obtain ⟨x, mw⟩ := M8.2.2.1
      have fin : ∀ v : Int32, Ret (some (.int v)) u8 := fun v => hq v u8 M8.1
      have tp : 0 < (sp_t (DD k) x).toInt64.toInt := by rw [i_64]; exact (sp_t_bd ok x).1
      refine ⟨fun _ => ⟨fun _ => ⟨mb.1.1, fun _ => ?_, fun _ => ?_⟩, fun _ => ⟨by decide, fin _⟩⟩, fun _ => ⟨by decide, fin _⟩⟩
      · rw [mw.2.1]; exact c_part big tp ⟨_, rfl, fin _⟩
      · rw [mw.2.1]; exact c_part big tp ⟨_, rfl, fin _⟩
    | succ n ih =>
      intro i hi h3 M x3 x4 o7 o8 b4
      obtain ⟨mo, mb⟩ := M.2.1
      refine vX10_ruling_34 hA ⟨fun q => absurd q (nI_ge (a := i) (b := 18) (by omega) (by decide)), fun _ => ⟨by decide, mb.1.1, ?_⟩⟩
      intro u15
      refine ⟨by decide, mb.1.1, ?_⟩
      intro u16
      have M16 : sM h u16 k (DD k) := sM_f (sM_f M (Or.inl rfl)) (Or.inr rfl)
      refine ⟨mb.1.1, t_allMeans ok M16 (fun v h5 bv M5 => ⟨_, rfl, ?_⟩)⟩
      have K : ∀ (x3 : Int32) (x4 : Int64) (o7 o8 : Option Value), bL 1391569403904 x4 → A (34, [some (.ref 77), some (.int x1), some (.int x2), some (.int x3), some (.long x4), none, some (.int (nI i + 1)), o7, o8], [], h5, 0, 0) := fun x3 x4 o7 o8 b => by rw [← nI_succ]; exact ih (i + 1) (by omega) h5 M5 _ _ _ _ b
      exact ⟨fun _ => ⟨fun _ => K _ _ _ _ b4, fun _ => K _ _ _ _ bv⟩, fun _ => ⟨fun _ => ⟨fun _ => K _ _ _ _ b4, fun _ => K _ _ _ _ bv⟩, fun _ => ⟨fun _ => K _ _ _ _ b4, fun _ => K _ _ _ _ bv⟩⟩⟩
  exact key 18 0 (by decide) h' M0 _ _ _ _ (by unfold bL; decide)
theorem n_ruling (a : IV h S Im tp) (b : 103 ≤ h.1 ∧ h.1 ≤ B) (x1 x2 : Int32) : prN (mX9_ruling g) (mX10_ruling g) [.ref 0, .int x1, .int x2] [.ref 77, .int x1, .int x2] h (inv B) := pr_n a b (fun Ret k => t9_ruling (iv_tc a) k) (fun h1 Ret a1 k => t10_ruling (iv_tc a1) k)
end
