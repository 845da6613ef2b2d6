section
variable {g : ax_G} {Ret : Option Value → ax_H → Prop} {h : ax_H} {z : Nat → Nat} {DD : Nat → rD} {N : Nat → Nat → Nat} {C : Nat → Nat → Nat → Nat → Int32} {S : sT} {Im : Nat → Option sT} {tp : Nat → Nat} {B : Nat}
/-! a course under way, of the reference -/
theorem c_mlive {m ρ q : Nat} {D : rD} {mo pu : Nat → Int32} {vl : Nat → Nat → Int32} (a : mc_at h m ρ D mo pu vl) (hq0 : q < dH D) (hq : ∀ h', mr (fun j => j = 32 ∨ j = 33) (fun a => a = m + 13 ∨ a = m + 16) m h h' → mc_at h' m ρ D mo (fun p => pu p + vl p q) vl → mw_at h' m (dH D) (sp_w D (sp_po (dP D) (fun p => pu p + vl p q))) (sp_t D (sp_po (dP D) (fun p => pu p + vl p q))) (sp_po (dP D) (fun p => pu p + vl p q)) → Ret none h') : mX10_live g [.ref m, .int (nI q)] h Ret := by
  obtain ⟨hH, hP⟩ := a.1.2.2.1.1
  have e27 := a.1.2.2.2.2.2.1
  refine uX10_live (fun A hA => vX10_live_0 hA ?_)
  have key : ∀ n i : Nat, ∀ hh : ax_H, i + n = dP D → mr noJ (fun a => a = m + 13) m h hh → (∀ p, p < dP D → ax_i hh (m + 13) p = if p < i then pu p + vl p q else pu p) → A (2, [some (.ref m), some (.int (nI q)), some (.int (nI i))], [], hh, 0, 0) := by
    intro n
    induction n with
    | zero =>
      intro i hh hi hs hp
      have b := mb_at_mr hs (by unfold noJ; decide) (by omega) a.1
      refine vX10_live_2 hA ⟨b.1.1, fun _ => ⟨b.1.1, c_mlayOdds (pu := fun p => pu p + vl p q) b (fun p hp' => by rw [hp p hp', if_pos (by omega)]) (fun h' s' w => ⟨rfl, ?_⟩)⟩, fun q => ?_⟩
      · have t : mr (fun j => j = 32 ∨ j = 33) (fun a => a = m + 13 ∨ a = m + 16) m h h' := mr_tr (mr_mono hs (fun _ x => x.elim) (fun _ x => Or.inl x)) (mr_mono s' (fun _ x => x) (fun _ x => Or.inr x))
        refine hq h' t ⟨mb_at_mr t (by decide) (by omega) a.1, fun p hp' => ?_, fun p r hp' hr => ?_, fun p r hp' hr => ?_⟩ w
        · rw [mr_e s' (by omega) (by omega), hp p hp', if_pos (by omega)]
        · rw [mr_e t (by omega) (by omega)]; exact a.2.2.1 p r hp' hr
        · rw [mr_e t (by omega) (by omega)]; exact a.2.2.2 p r hp' hr
      · rw [b.2.2.2.2.2.1] at q; exact absurd (nI_le (by omega) (by omega)) q
    | succ n ih =>
      intro i hh hi hs hp
      have b := mb_at_mr hs (by unfold noJ; decide) (by omega) a.1
      obtain ⟨e1, e2⟩ := mo_pu b.1
      obtain ⟨f1, f2⟩ := mo_va b.1
      have ei : (12 : Int32) * nI i + nI q = nI (12 * i + q) := ni_21
      refine vX10_live_2 hA ⟨b.1.1, fun q => ?_, fun _ => ⟨b.1.1, _, e1, ⟨rfl, rfl⟩, by rw [e2], by rw [e2]; exact vp_in_nI (by omega) (by decide), b.1.1, _, f1, by rw [f2], by rw [ei, f2]; exact vp_in_nI (by omega) (by decide), ?_⟩⟩
      · rw [b.2.2.2.2.2.1] at q; exact absurd q (nI_ge (by omega) (by omega))
      · intro z5
        have ez : z5 = pu i + vl i q := by
          show ax_i hh (m + 13) (nI i).toNatClampNeg + ax_i hh (m + 15) ((12 : Int32) * nI i + nI q).toNatClampNeg = _
          rw [ei, nI_clamp (by omega), nI_clamp (by omega), hp i (by omega), if_neg (by omega), mr_e hs (by omega) (by omega), a.2.2.2 i q (by omega) hq0]
        refine ⟨by rw [e2], by rw [e2]; exact vp_in_nI (by omega) (by decide), ?_⟩
        intro h6
        rw [← nI_succ]
        refine ih (i + 1) h6 (by omega) (mr_tr hs (mr_c rfl (by omega))) (fun p hp' => ?_)
        show ax_i (ax_pi hh (m + 13) (nI i).toNatClampNeg z5) (m + 13) p = _
        rw [nI_clamp (by omega), ai_pi]
        by_cases e : p = i
        · rw [if_pos ⟨rfl, e⟩, if_pos (by omega), ez, e]
        · rw [if_neg (fun w => e w.2), hp p hp']
          by_cases e3 : p < i
          · rw [if_pos e3, if_pos (by omega)]
          · rw [if_neg e3, if_neg (by omega)]
  exact key (dP D) 0 h (by omega) mr_rf (fun p hp => by rw [if_neg (by omega)]; exact a.2.1 p hp)
def lvm (h hh : ax_H) (k : Nat) (D : rD) : Prop := ax_same md_F h hh ∧ ∃ pu, mc_at hh 77 k D (dmo D) pu (sp_vl D) ∧ mw_at hh 77 (dH D) (sp_w D (sp_po (dP D) pu)) (sp_t D (sp_po (dP D) pu)) (sp_po (dP D) pu)
theorem tc_md {h' : ax_H} (s : ax_same md_F h h') (a : tc h z DD N C) : tc h' z DD N C := tc_same (sm_mono s (fun x q => Or.inr q)) a
def lvR (hh h2 : ax_H) : Prop := mr (fun j => j = 32 ∨ j = 33) (fun a => a = 90 ∨ a = 93) 77 hh h2
theorem lv_mlive {hh : ax_H} {k q : Nat} {D : rD} (L : lvm h hh k D) (hq : q < dH D) (K : ∀ h2, lvm h h2 k D → lvR hh h2 → Ret none h2) : mX10_live g [.ref 77, .int (nI q)] hh Ret := by
  obtain ⟨s, pu, c, w⟩ := L
  exact c_mlive c hq (fun h2 m2 c2 w2 => K h2 ⟨sm_tr s (sm_mono m2.1 (fun x e => by unfold md_F; omega)), _, c2, w2⟩ m2)
theorem mw_mr {J F : Nat → Prop} {h' : ax_H} {m H : Nat} {w : Nat → Int32} {t po : Int32} (s : mr J F m h h') (hJ : ¬ J 32 ∧ ¬ J 33) (hF : ¬ F (m + 16)) (a : mw_at h m H w t po) : mw_at h' m H w t po := ⟨fun q hq => by rw [mr_e s (by omega) hF]; exact a.1 q hq, by rw [(s.2 _ hJ.1).1]; exact a.2.1, by rw [(s.2 _ hJ.2).1]; exact a.2.2⟩
/-- a field or a scratch array that the course does not reach -/
theorem lvm_mr {J F : Nat → Prop} {hh h2 : ax_H} {k : Nat} {D : rD} (L : lvm h hh k D) (s : mr J F 77 hh h2) (hJ : ∀ j, J j → j < 25 ∨ (27 < j ∧ j < 32) ∨ 35 < j) (hF : ∀ a, F a → 94 ≤ a ∧ a ≤ 101) : lvm h h2 k D := by
  obtain ⟨s0, pu, c, w⟩ := L
  refine ⟨sm_tr s0 (sm_mono s.1 (fun x e => ?_)), pu, mc_at_mr s ⟨fun q => ?_, fun q => ?_, fun q => ?_, fun q => ?_, fun q => ?_⟩ ⟨fun q => ?_, fun q => ?_, fun q => ?_, fun q => ?_⟩ c, mw_mr s ⟨fun q => ?_, fun q => ?_⟩ (fun q => ?_) w⟩
  · unfold md_F
    rcases e with e | e
    · exact Or.inl e
    · have := hF x e; omega
  all_goals first | (have := hJ _ q; omega) | (have := hF _ q; omega)
theorem lvm_hm {h' : ax_H} {k : Nat} {D : rD} (s : ax_same md_F h h') (hm : hm_at h' k D) : lvm h h' k D := ⟨s, _, hm.1, hm.2⟩
theorem ni_mul {c w : Nat} : (OfNat.ofNat c : Int32) * nI w = nI (c * w) := by
  rw [show (OfNat.ofNat c : Int32) = nI c from by have := ni_c c 0; rw [nI_0, Int32.add_zero, Nat.add_zero] at this; exact this]
  exact pk_mul c w
theorem t_liveDays {hh : ax_H} {k w : Nat} {x : Int32} (a : tc h z DD N C) (ok : rd_ok (DD k)) (L : lvm h hh k (DD k)) (hw : w < z 1) (e36 : ax_i hh 77 36 = nI w) (h0 : ∀ h2, lvm h h2 k (DD k) → Ret (some (.int 0)) h2) (h1 : ∀ h2, lvm h h2 k (DD k) → -9223372036854775808 < (ax_l h2 77 37).toInt → 0 < (ax_l h2 77 38).toInt → Ret (some (.int 1)) h2) : mX10_liveDays g [.ref 77, .int x] hh Ret := by
  have w2 : w < 2 := by have := a.2.2.2.2.1 1 (by decide); omega
  have b := tc_md L.1 a
  have H12 := ok.1.2
  refine uX10_liveDays (fun A hA => vX10_liveDays_0 hA ⟨b.2.1.1, ?_⟩)
  intro u1
  refine ⟨b.2.1.1, ?_⟩
  intro u2
  have ur : mr (fun j => j = 37 ∨ j = 38) (fun _ => False) 77 hh u2 := mr_tr (mr_l (Or.inl rfl)) (mr_l (Or.inr rfl))
  have Lu : lvm h u2 k (DD k) := lvm_mr L ur (fun j hj => by omega) (fun a ha => ha.elim)
  have bu := tc_md Lu.1 a
  have eu : ax_i u2 77 36 = nI w := e36
  obtain ⟨e1, e2⟩ := mo_wk bu.2.1
  have tl := tm_ln bu.2.2.2.1 (show 1 ≤ 1 by decide) (by decide) hw
  have n14 : N 1 w ≤ 14 := (a.2.2.2.2.2.2 1 w (by decide) (by decide) hw).1
  refine ⟨bu.2.1.1, _, e1, bu.2.1.1, by rw [e2], ?_, ?_⟩
  · rw [eu, e2, show (15 : Int32) * nI w = nI (15 * w) from ni_mul]; exact vp_in_nI (by omega) (by decide)
  · rw [eu, show (15 : Int32) * nI w = nI (15 * w) from ni_mul, nI_clamp (by omega), show ax_i u2 (77 + 7) (15 * w) = nI (N 1 w) from tl.1]
    refine c_min ⟨_, rfl, fun q => ?_, fun _ => ⟨Or.inl rfl, h0 u2 Lu⟩⟩
    obtain ⟨m, _, hm, rfl⟩ := i_rng (a := 0) (b := N 1 w) (by omega) (by omega) (of_decide_eq_true (b2i_n0.mp q)).1 (of_decide_eq_true (b2i_n0.mp q)).2
    have key : ∀ n i : Nat, i + n = m → ∀ h3, lvm h h3 k (DD k) → ax_i h3 77 36 = nI w → ∀ (j : Nat) (o3 : Option Value), j ≤ 6 → (i < 6 → j ≤ i) → 0 ≤ (ax_l h3 77 37).toInt → (ax_l h3 77 37).toInt ≤ 108 ^ j → 0 < (ax_l h3 77 38).toInt → (ax_l h3 77 38).toInt ≤ 108 ^ j → A (34, [some (.ref 77), some (.int (nI m)), some (.int (nI i)), o3], [], h3, 0, 0) := by
      intro n
      induction n with
      | zero =>
        intro i hi h3 L3 e3 j o3 hj hij b1 b2 b3 b4
        exact vX10_liveDays_34 hA ⟨fun _ => ⟨Or.inr rfl, h1 h3 L3 (by omega) b3⟩, fun q => absurd (nI_le (by omega) (by omega)) q⟩
      | succ n ih =>
        intro i hi h3 L3 e3 j o3 hj hij b1 b2 b3 b4
        have c := tc_md L3.1 a
        obtain ⟨pu, mc, mw⟩ := L3.2
        have s0 := mc.1.1.1
        refine vX10_liveDays_34 hA ⟨fun q => absurd q (nI_ge (by omega) (by omega)), fun _ => ⟨s0, c_mhourOf c.2.1 c.2.2.2.1 c.2.2.2.2 hw e3 (by omega) ⟨_, rfl, s0, c_misHour mc.1 ⟨_, rfl, fun q => ?_, fun _ => ⟨Or.inl rfl, h0 h3 L3⟩⟩⟩⟩⟩
        obtain ⟨y, hy, ey⟩ := sp_in_ix (by omega) (b2i_n0.mp q)
        rw [ey]
        refine ⟨fun q6 => ⟨s0, lv_mlive L3 hy (fun h4 L4 r4 => ⟨rfl, ?_⟩)⟩, fun q6 => ⟨rfl, s0, s0, ?_⟩⟩
        · rw [← nI_succ]
          have l1 := (r4.2 37 (by decide)).2
          have l2 := (r4.2 38 (by decide)).2
          exact ih (i + 1) (by omega) h4 L4 (by rw [(r4.2 36 (by decide)).1]; exact e3) j _ hj (fun i6 => absurd (show (6 : Int32) ≤ nI i from q6) (nI_ge (a := i) (b := 6) (by omega) (by decide))) (by rw [l1]; exact b1) (by rw [l1]; exact b2) (by rw [l2]; exact b3) (by rw [l2]; exact b4)
        · have i6 : i < 6 := Nat.lt_of_not_le (fun e => q6 (nI_le (a := 6) e (by omega)))
          obtain ⟨f1, f2⟩ := mo_we mc.1.1
          refine ⟨_, f1, by rw [f2], by rw [f2]; exact vp_in_nI (by omega) (by decide), s0, ?_⟩
          intro u3
          refine ⟨rfl, s0, s0, s0, ?_⟩
          intro u4
          have r4 : mr (fun j => j = 37 ∨ j = 38) (fun _ => False) 77 h3 u4 := mr_tr (mr_l (Or.inl rfl)) (mr_l (Or.inr rfl))
          have L4 : lvm h u4 k (DD k) := lvm_mr L3 r4 (fun j hj => by omega) (fun a ha => ha.elim)
          refine ⟨s0, lv_mlive L4 hy (fun h5 L5 r5 => ⟨rfl, ?_⟩)⟩
          rw [← nI_succ]
          have bw := sp_w_bd ok (sp_po (dP (DD k)) pu) y
          have bt := sp_t_bd ok (sp_po (dP (DD k)) pu)
          have m1 := mulB (x := ax_l h3 77 37) (y := (sp_w (DD k) (sp_po (dP (DD k)) pu) y).toInt64) (i := j) (by have := hij i6; omega) b1 b2 (by rw [i_64]; omega) (by rw [i_64]; omega)
          have m2 := mulB (x := ax_l h3 77 38) (y := (sp_t (DD k) (sp_po (dP (DD k)) pu)).toInt64) (i := j) (by have := hij i6; omega) (by omega) b4 (by rw [i_64]; omega) (by rw [i_64]; omega)
          have pos : 0 < (ax_l h3 77 38).toInt * (sp_t (DD k) (sp_po (dP (DD k)) pu)).toInt64.toInt := Int.mul_pos b3 (by rw [i_64]; omega)
          have l1 : ax_l h5 77 37 = ax_l h3 77 37 * (sp_w (DD k) (sp_po (dP (DD k)) pu) y).toInt64 := by
            rw [(r5.2 37 (by decide)).2]
            show ax_l (ax_pl (ax_pl h3 77 37 _) 77 38 _) 77 37 = _
            rw [al_pl, if_neg (by decide), al_pl, if_pos ⟨rfl, rfl⟩, nI_clamp (by omega), mw.1 y hy]
          have l2 : ax_l h5 77 38 = ax_l h3 77 38 * (sp_t (DD k) (sp_po (dP (DD k)) pu)).toInt64 := by
            rw [(r5.2 38 (by decide)).2]
            show ax_l (ax_pl (ax_pl h3 77 37 _) 77 38 (ax_l (ax_pl h3 77 37 _) 77 38 * (ax_i h3 77 32).toInt64)) 77 38 = _
            rw [al_pl, if_pos ⟨rfl, rfl⟩, al_pl, if_neg (by decide), mw.2.1]
          refine ih (i + 1) (by omega) h5 L5 (by rw [(r5.2 36 (by decide)).1]; exact e3) (j + 1) _ (by have := hij i6; omega) (fun _ => by have := hij i6; omega) (by rw [l1, m1.1]; exact m1.2.1) (by rw [l1, m1.1]; exact m1.2.2) (by rw [l2, m2.1]; exact pos) (by rw [l2, m2.1]; exact m2.2.2)
    have p37 : ax_l u2 77 37 = 1 := by
      show ax_l (ax_pl (ax_pl hh 77 37 1) 77 38 1) 77 37 = 1
      rw [al_pl, if_neg (by decide), al_pl, if_pos ⟨rfl, rfl⟩]
    have p38 : ax_l u2 77 38 = 1 := by
      show ax_l (ax_pl (ax_pl hh 77 37 1) 77 38 1) 77 38 = 1
      rw [al_pl, if_pos ⟨rfl, rfl⟩]
    exact key m 0 (by omega) u2 Lu eu 0 _ (by decide) (fun _ => Nat.le_refl _) (by rw [p37]; decide) (by rw [p37]; decide) (by rw [p38]; decide) (by rw [p38]; decide)
end
