section
variable {g : ax_G} {Ret : Option Value → ax_H → Prop} {h : ax_H} {m ρ : Nat} {D : rD} {mo pu : Nat → Int32} {vl : Nat → Nat → Int32}
/-- how often an hour is lived -/
def sp_lv (a b : Int32) (q : Nat) : Int32 := (1 + (if nI q = a then 1 else 0)) + (if nI q = b then 1 else 0)
def sp_vb (D : rD) (mo : Nat → Int32) (p : Nat) (a b : Int32) : Int32 := sumN (fun q => sp_mw D mo p q (sp_lv a b q)) (dH D)
def rd_de (D : rD) : Prop := ∀ p q, p < dP D → q < dH D → dde D p q = -1 ∨ ∃ k : Nat, k < 6 ∧ dde D p q = nI k
theorem c_mvalueBy {p : Nat} {x y : Int32} (a : mb_at h m ρ D mo) (hd : rd_de D) (hp : p < dP D) (a9 : ∀ q, q < dH D → ax_i h (m + 14) (12 * p + q) = dde D p q) (hq : Ret (some (.int (sp_vb D mo p x y))) h) : mX10_valueBy g [.ref m, .int (nI p), .int x, .int y] h Ret := by
  have s0 := a.1.1
  have e26 := a.2.2.2.2.1
  have hH := a.2.2.1.1.1
  refine uX10_valueBy (fun A hA => vX10_valueBy_0 hA ?_)
  have key : ∀ n i : Nat, ∀ o6 : Option Value, i + n = dH D → A (6, [some (.ref m), some (.int (nI p)), some (.int x), some (.int y), some (.int (sumN (fun q => sp_mw D mo p q (sp_lv x y q)) i)), some (.int (nI i)), o6], [], h, 0, 0) := by
    intro n
    induction n with
    | zero =>
      intro i o6 hi
      refine vX10_valueBy_6 hA ⟨s0, fun _ => ?_, fun q => ?_⟩
      · rw [show i = dH D by omega]; exact hq
      · rw [e26] at q; exact absurd (nI_le (by omega) (by omega)) q
    | succ n ih =>
      intro i o6 hi
      have nx : ∀ l : Int32, l = sp_lv x y i → A (6, [some (.ref m), some (.int (nI p)), some (.int x), some (.int y), some (.int (sumN (fun q => sp_mw D mo p q (sp_lv x y q)) i + sp_mw D mo p i l)), some (.int (nI i + 1)), some (.int l)], [], h, 0, 0) := by
        rintro l rfl
        have := ih (i + 1) (some (.int (sp_lv x y i))) (by omega)
        rw [nI_succ] at this
        exact this
      refine vX10_valueBy_6 hA ⟨s0, fun q => ?_, fun _ => ⟨fun h1 => ⟨fun h2 => ⟨s0, c_mworth a (a9 i (by omega)) (hd p i hp (by omega)) hp (by omega) ⟨_, rfl, nx _ ?_⟩⟩, fun h2 => ⟨s0, c_mworth a (a9 i (by omega)) (hd p i hp (by omega)) hp (by omega) ⟨_, rfl, nx _ ?_⟩⟩⟩, fun h1 => ⟨fun h2 => ⟨s0, c_mworth a (a9 i (by omega)) (hd p i hp (by omega)) hp (by omega) ⟨_, rfl, nx _ ?_⟩⟩, fun h2 => ⟨s0, c_mworth a (a9 i (by omega)) (hd p i hp (by omega)) hp (by omega) ⟨_, rfl, nx _ ?_⟩⟩⟩⟩⟩
      · rw [e26] at q; exact absurd q (nI_ge (by omega) (by omega))
      · unfold sp_lv; rw [if_neg h1, if_neg h2]
      · unfold sp_lv; rw [if_neg h1, if_pos h2]
      · unfold sp_lv; rw [if_pos h1, if_neg h2]
      · unfold sp_lv; rw [if_pos h1, if_pos h2]
  exact key (dH D) 0 _ (by omega)
def noJ : Nat → Prop := fun _ => False
theorem c_mlayValues {p : Nat} (a : mb_at h m ρ D mo) (hd : rd_de D) (hp : p < dP D) (a9 : ∀ q, q < dH D → ax_i h (m + 14) (12 * p + q) = dde D p q) (hq : ∀ h', mr noJ (fun a => a = m + 15) m h h' → (∀ j, ax_i h' (m + 15) j = if 12 * p ≤ j ∧ j < 12 * p + dH D then sp_vb D mo p (nI (j - 12 * p)) (-1) else ax_i h (m + 15) j) → Ret none h') : mX10_layValues g [.ref m, .int (nI p)] h Ret := by
  have hb := a.2.2.1.1
  refine uX10_layValues (fun A hA => vX10_layValues_0 hA ?_)
  have key : ∀ n i : Nat, ∀ hh : ax_H, i + n = dH D → mr noJ (fun a => a = m + 15) m h hh → (∀ j, ax_i hh (m + 15) j = if 12 * p ≤ j ∧ j < 12 * p + i then sp_vb D mo p (nI (j - 12 * p)) (-1) else ax_i h (m + 15) j) → A (2, [some (.ref m), some (.int (nI p)), some (.int (nI i))], [], hh, 0, 0) := by
    intro n
    induction n with
    | zero =>
      intro i hh hi hs hv
      have a' : mb_at hh m ρ D mo := mb_at_mr hs ⟨id, id, id, id, id⟩ (by omega) a
      refine vX10_layValues_2 hA ⟨a'.1.1, fun _ => hq hh hs (by rw [← show i = dH D by omega]; exact hv), fun q => ?_⟩
      rw [a'.2.2.2.2.1] at q; exact absurd (nI_le (by omega) (by omega)) q
    | succ n ih =>
      intro i hh hi hs hv
      have a' : mb_at hh m ρ D mo := mb_at_mr hs ⟨id, id, id, id, id⟩ (by omega) a
      obtain ⟨e1, e2⟩ := mo_va a'.1
      have s0 := a'.1.1
      have ei : (12 : Int32) * nI p + nI i = nI (12 * p + i) := ni_21
      refine vX10_layValues_2 hA ⟨s0, fun q => ?_, fun _ => ⟨s0, _, e1, s0, c_mvalueBy a' hd hp (fun q hq' => by rw [mr_e hs (by omega) (by omega)]; exact a9 q hq') ⟨_, rfl, by rw [e2], by rw [ei, e2]; exact vp_in_nI (by omega) (by decide), ?_⟩⟩⟩
      · rw [a'.2.2.2.2.1] at q; exact absurd q (nI_ge (by omega) (by omega))
      · intro h5
        have := ih (i + 1) h5 (by omega) (mr_tr hs (mr_c rfl (by omega))) (fun j => by
          show ax_i (ax_pi hh (m + 15) (12 * nI p + nI i).toNatClampNeg _) (m + 15) j = _
          rw [ai_pi, ei, nI_clamp (by omega)]
          by_cases e : j = 12 * p + i
          · rw [if_pos ⟨rfl, e⟩, if_pos (by omega), e, Nat.add_sub_cancel_left]
          · rw [if_neg (fun z => e z.2), hv j]
            by_cases e2 : 12 * p ≤ j ∧ j < 12 * p + i
            · rw [if_pos e2, if_pos (by omega)]
            · rw [if_neg e2, if_neg (by omega)])
        rw [nI_succ] at this
        exact this
  exact key (dH D) 0 h (by omega) mr_rf (fun j => by rw [if_neg (by omega)])
/-- the odds as the reference has them -/
def mw_at (h : ax_H) (m H : Nat) (w : Nat → Int32) (t po : Int32) : Prop := (∀ q, q < H → ax_i h (m + 16) q = w q) ∧ ax_i h m 32 = t ∧ ax_i h m 33 = po
theorem c_mlayOdds (a : mb_at h m ρ D mo) (hpu : ∀ p, p < dP D → ax_i h (m + 13) p = pu p) (hq : ∀ h', mr (fun j => j = 32 ∨ j = 33) (fun a => a = m + 16) m h h' → mw_at h' m (dH D) (sp_w D (sp_po (dP D) pu)) (sp_t D (sp_po (dP D) pu)) (sp_po (dP D) pu) → Ret none h') : mX10_layOdds g [.ref m] h Ret := by
  obtain ⟨hH, hP⟩ := a.2.2.1.1
  have J32 : (fun j : Nat => j = 32 ∨ j = 33) 32 := Or.inl rfl
  have J33 : (fun j : Nat => j = 32 ∨ j = 33) 33 := Or.inr rfl
  have am : ∀ hh : ax_H, mr (fun j => j = 32 ∨ j = 33) (fun a => a = m + 16) m h hh → mb_at hh m ρ D mo := fun hh hs => mb_at_mr hs (by decide) (by omega) a
  refine uX10_layOdds (fun A hA => vX10_layOdds_0 hA ⟨a.1.1, ?_⟩)
  intro h1
  -- the third loop: all weights one
  have loop3 : ∀ n i : Nat, ∀ hh : ax_H, i + n = dH D → mr (fun j => j = 32 ∨ j = 33) (fun a => a = m + 16) m h hh → sp_ws D (sp_po (dP D) pu) = 0 → ax_i hh m 33 = sp_po (dP D) pu → (∀ q, q < i → ax_i hh (m + 16) q = 1) → A (138, [some (.ref m), some (.int (nI i))], [], hh, 0, 0) := by
    intro n
    induction n with
    | zero =>
      intro i hh hi hs h0 e33 ew
      have a' := am hh hs
      refine vX10_layOdds_138 hA ⟨a'.1.1, fun _ => ⟨a'.1.1, a'.1.1, ?_⟩, fun q => ?_⟩
      · intro h18
        refine hq h18 (mr_tr hs (mr_f J32)) ⟨fun q hq' => ?_, ?_, ?_⟩
        · show ax_i (ax_pi hh m 32 _) (m + 16) q = _
          rw [ai_pi, if_neg (by omega), ew q (by omega)]; unfold sp_w; rw [if_pos h0]
        · show ax_i (ax_pi hh m 32 _) m 32 = _
          rw [ai_pi, if_pos ⟨rfl, rfl⟩, a'.2.2.2.2.1]; unfold sp_t; rw [if_pos h0]
        · show ax_i (ax_pi hh m 32 _) m 33 = _
          rw [ai_pi, if_neg (by omega)]; exact e33
      · rw [a'.2.2.2.2.1] at q; exact absurd (nI_le (by omega) (by omega)) q
    | succ n ih =>
      intro i hh hi hs h0 e33 ew
      have a' := am hh hs
      obtain ⟨e1, e2⟩ := mo_we a'.1
      refine vX10_layOdds_138 hA ⟨a'.1.1, fun q => ?_, fun _ => ⟨a'.1.1, _, e1, by rw [e2], by rw [e2]; exact vp_in_nI (by omega) (by decide), ?_⟩⟩
      · rw [a'.2.2.2.2.1] at q; exact absurd q (nI_ge (by omega) (by omega))
      · intro h20
        have := ih (i + 1) h20 (by omega) (mr_tr hs (mr_c rfl (by omega))) h0 (by
          show ax_i (ax_pi hh (m + 16) _ _) m 33 = _
          rw [ai_pi, if_neg (by omega)]; exact e33) (fun q hq' => by
          show ax_i (ax_pi hh (m + 16) (nI i).toNatClampNeg 1) (m + 16) q = _
          rw [ai_pi, nI_clamp (by omega)]
          by_cases e : q = i
          · rw [if_pos ⟨rfl, e⟩]
          · rw [if_neg (fun z => e z.2)]; exact ew q (by omega))
        rw [nI_succ] at this
        exact this
  -- the second: the lots, or ones where nobody is
  have nobody : sp_po (dP D) pu = -1 → sp_ws D (sp_po (dP D) pu) = 0 := by
    intro hz
    unfold sp_ws
    rw [hz]
    have : ∀ n, sumN (fun q => sp_lo D (-1) (nI q)) n = 0 := by
      intro n
      induction n with
      | zero => rfl
      | succ n ih =>
        show sumN (fun q => sp_lo D (-1) (nI q)) n + sp_lo D (-1) (nI n) = 0
        rw [ih]
        unfold sp_lo sp_in
        rw [show decide ((0 : Int32) ≤ -1 ∧ -1 < nI (dP D)) = false from decide_eq_false (fun q => absurd q.1 (by decide))]
        rfl
    exact this _
  have loop2 : ∀ n i : Nat, ∀ hh : ax_H, i + n = dH D → mr (fun j => j = 32 ∨ j = 33) (fun a => a = m + 16) m h hh → ax_i hh m 33 = sp_po (dP D) pu → (sp_po (dP D) pu = -1 → ax_i hh m 32 = nI i ∧ ∀ q, q < i → ax_i hh (m + 16) q = 1) → (¬ sp_po (dP D) pu = -1 → ax_i hh m 32 = sumN (fun q => sp_lo D (sp_po (dP D) pu) (nI q)) i ∧ ∀ q, q < i → ax_i hh (m + 16) q = sp_lo D (sp_po (dP D) pu) (nI q)) → A (66, [some (.ref m), some (.int (nI i))], [], hh, 0, 0) := by
    intro n
    induction n with
    | zero =>
      intro i hh hi hs e33 c1 c2
      have a' := am hh hs
      obtain rfl : i = dH D := by omega
      refine vX10_layOdds_66 hA ⟨a'.1.1, fun _ => ⟨a'.1.1, fun q => ?_, fun q => ?_⟩, fun q => ?_⟩
      · by_cases hz : sp_po (dP D) pu = -1
        · obtain ⟨d1, d2⟩ := c1 hz
          have h0 := nobody hz
          exact hq hh hs ⟨fun k hk => by rw [d2 k hk]; unfold sp_w; rw [if_pos h0], by rw [d1]; unfold sp_t; rw [if_pos h0], e33⟩
        · obtain ⟨d1, d2⟩ := c2 hz
          rw [d1] at q
          have q : ¬ sp_ws D (sp_po (dP D) pu) = 0 := q
          exact hq hh hs ⟨fun k hk => by rw [d2 k hk]; unfold sp_w; rw [if_neg q], by rw [d1]; unfold sp_t; rw [if_neg q]; rfl, e33⟩
      · refine loop3 (dH D) 0 hh (by omega) hs ?_ e33 (fun k hk => absurd hk (Nat.not_lt_zero k))
        by_cases hz : sp_po (dP D) pu = -1
        · exact nobody hz
        · rw [(c2 hz).1] at q; exact q
      · rw [a'.2.2.2.2.1] at q; exact absurd (nI_le (Nat.le_refl _) (by omega)) q
    | succ n ih =>
      intro i hh hi hs e33 c1 c2
      have a' := am hh hs
      obtain ⟨e1, e2⟩ := mo_we a'.1
      have s0 := a'.1.1
      have nx : ∀ v : Int32, (sp_po (dP D) pu = -1 → v = 1) → (¬ sp_po (dP D) pu = -1 → v = sp_lo D (sp_po (dP D) pu) (nI i)) → ∀ h12 : ax_H, h12 = ax_pi hh (m + 16) (nI i).toNatClampNeg v → (Value.category (.ref m) = 1 ∧ ((ax_s h12 m).1 = 10 ∧ ((ax_s h12 m).1 = 10 ∧ (∃ b13 : Nat, ax_r h12 m 31 = some b13 ∧ ((ax_s h12 b13).1 = 11 ∧ (vp_in (nI i) (ax_s h12 b13).2 ∧ ((ax_s h12 m).1 = 10 ∧ (let h14 : ax_H := (ax_pi h12 m 32 ((ax_i h12 m 32) + (ax_i h12 b13 (nI i).toNatClampNeg))); A (66, [some (.ref m), some (.int (nI i + (1 : Int32)))], [], h14, 0, 0))))))))) := by
        intro v v1 v2 h12 e12
        have hs12 : mr (fun j => j = 32 ∨ j = 33) (fun a => a = m + 16) m h h12 := by rw [e12]; exact mr_tr hs (mr_c rfl (by omega))
        have a12 := am h12 hs12
        obtain ⟨f1, f2⟩ := mo_we a12.1
        refine ⟨rfl, a12.1.1, a12.1.1, _, f1, by rw [f2], by rw [f2]; exact vp_in_nI (by omega) (by decide), a12.1.1, ?_⟩
        intro h14
        have r1 : ax_i h12 m 32 = ax_i hh m 32 := by rw [e12, ai_pi, if_neg (by omega)]
        have r2 : ax_i h12 (m + 16) (nI i).toNatClampNeg = v := by rw [e12, ai_pi, if_pos ⟨rfl, rfl⟩]
        have r3 : ∀ q, ax_i h14 (m + 16) q = if q = i then v else ax_i hh (m + 16) q := by
          intro q
          show ax_i (ax_pi h12 m 32 _) (m + 16) q = _
          rw [ai_pi, if_neg (by omega), e12, ai_pi, nI_clamp (by omega)]
          by_cases e : q = i
          · rw [if_pos ⟨rfl, e⟩, if_pos e]
          · rw [if_neg (fun z => e z.2), if_neg e]
        have r4 : ax_i h14 m 32 = ax_i hh m 32 + v := by
          show ax_i (ax_pi h12 m 32 (ax_i h12 m 32 + ax_i h12 (m + 16) (nI i).toNatClampNeg)) m 32 = _
          rw [ai_pi, if_pos ⟨rfl, rfl⟩, r1, r2]
        have := ih (i + 1) h14 (by omega) (mr_tr hs12 (mr_f J32)) (by
          show ax_i (ax_pi h12 m 32 _) m 33 = _
          rw [ai_pi, if_neg (by omega), e12, ai_pi, if_neg (by omega)]; exact e33) (fun hz => ⟨by rw [r4, (c1 hz).1, v1 hz, nI_1], fun q hq' => by
            rw [r3]
            by_cases e : q = i
            · rw [if_pos e, v1 hz]
            · rw [if_neg e]; exact (c1 hz).2 q (by omega)⟩) (fun hz => ⟨by rw [r4, (c2 hz).1, v2 hz]; rfl, fun q hq' => by
            rw [r3]
            by_cases e : q = i
            · rw [if_pos e, v2 hz, e]
            · rw [if_neg e]; exact (c2 hz).2 q (by omega)⟩)
        rw [nI_succ] at this
        exact this
      refine vX10_layOdds_66 hA ⟨s0, fun q => ?_, fun _ => ⟨s0, _, e1, s0, fun h3 => ⟨s0, s0, ?_⟩, fun h3 => ⟨by rw [e2], by rw [e2]; exact vp_in_nI (by omega) (by decide), ?_⟩⟩⟩
      · rw [a'.2.2.2.2.1] at q; exact absurd q (nI_ge (by omega) (by omega))
      · rw [e33] at h3 ⊢
        have hpo : ∃ p, p < dP D ∧ sp_po (dP D) pu = nI p := by
          unfold sp_po at h3 ⊢
          by_cases z : dP D = 0
          · rw [if_pos z] at h3; exact absurd rfl h3
          · rw [if_neg z]; exact ⟨_, by have := poo_le pu (dP D - 1); omega, rfl⟩
        obtain ⟨p, hp, ep⟩ := hpo
        have v2 : sp_lo D (sp_po (dP D) pu) (nI i) = dlo D p i := by
          rw [ep]
          unfold sp_lo
          rw [sp_in_nI (by omega) hp, sp_in_nI (by omega) (by omega), nI_clamp (by omega), nI_clamp (by omega)]; rfl
        refine c_mof (i := 92 + 12 * p + i) a'.1 a'.2.1 a'.2.2.2.1 (by omega) (by rw [ep, show (12 : Int32) = nI 12 from rfl, show (92 : Int32) = nI 92 from rfl, pk_mul, nI_add, nI_add]) ⟨_, rfl, by rw [e2], by rw [e2]; exact vp_in_nI (by omega) (by decide), ?_⟩
        intro h12
        refine nx _ (fun hz => absurd hz h3) (fun _ => ?_) h12 rfl
        rw [v2, show 164 * ρ + (92 + 12 * p + i) = 164 * ρ + 92 + 12 * p + i by omega]
        exact a'.2.2.1.2.2.2.2.2.2.2 p i hp (by omega)
      · rw [e33] at h3
        intro h15
        exact nx 1 (fun _ => rfl) (fun hz => absurd h3 hz) h15 rfl
  -- the first: the poorest
  have loop1 : ∀ n i : Nat, ∀ hh : ax_H, i + n = dP D → mr (fun j => j = 32 ∨ j = 33) (fun a => a = m + 16) m h hh → ax_i hh m 33 = sp_po i pu → A (7, [some (.ref m), some (.int (nI i))], [], hh, 0, 0) := by
    intro n
    induction n with
    | zero =>
      intro i hh hi hs e33
      have a' := am hh hs
      obtain rfl : i = dP D := by omega
      refine vX10_layOdds_7 hA ⟨a'.1.1, fun _ => ⟨a'.1.1, ?_⟩, fun q => ?_⟩
      · intro h2
        refine loop2 (dH D) 0 h2 (by omega) (mr_tr hs (mr_f J32)) ?_ (fun _ => ⟨?_, fun q hq' => absurd hq' (Nat.not_lt_zero q)⟩) (fun _ => ⟨?_, fun q hq' => absurd hq' (Nat.not_lt_zero q)⟩)
        · show ax_i (ax_pi hh m 32 0) m 33 = _
          rw [ai_pi, if_neg (by omega)]; exact e33
        · show ax_i (ax_pi hh m 32 0) m 32 = _
          rw [ai_pi, if_pos ⟨rfl, rfl⟩]; rfl
        · show ax_i (ax_pi hh m 32 0) m 32 = _
          rw [ai_pi, if_pos ⟨rfl, rfl⟩]; rfl
      · rw [a'.2.2.2.2.2.1] at q; exact absurd (nI_le (Nat.le_refl _) (by omega)) q
    | succ n ih =>
      intro i hh hi hs e33
      have a' := am hh hs
      obtain ⟨e1, e2⟩ := mo_pu a'.1
      have s0 := a'.1.1
      have hpu' : ∀ p, p < dP D → ax_i hh (m + 13) p = pu p := fun p hp => by rw [mr_e hs (by omega) (by omega)]; exact hpu p hp
      have nx : ∀ (h3 : ax_H) (v : Int32), h3 = ax_pi hh m 33 v → v = sp_po (i + 1) pu → A (7, [some (.ref m), some (.int (nI i + 1))], [], h3, 0, 0) := by
        rintro h3 v e3 ev
        have := ih (i + 1) h3 (by omega) (by rw [e3]; exact mr_tr hs (mr_f J33)) (by rw [e3, ai_pi, if_pos ⟨rfl, rfl⟩]; exact ev)
        rw [nI_succ] at this
        exact this
      refine vX10_layOdds_7 hA ⟨s0, fun q => ?_, fun _ => ⟨s0, fun q => ⟨s0, ?_⟩, fun q => ?_⟩⟩
      · rw [a'.2.2.2.2.2.1] at q; exact absurd q (nI_ge (by omega) (by omega))
      · intro h3
        refine nx h3 _ rfl ?_
        rw [e33] at q
        unfold sp_po at q ⊢
        by_cases z : i = 0
        · subst z; rfl
        · rw [if_neg z] at q
          have := congrArg Int32.toInt q
          rw [nI_toInt (by have := poo_le pu (i - 1); omega)] at this
          exact absurd this (by show ¬ ((_ : Int) = -1); omega)
      · rw [e33] at q
        have hi0 : ¬ i = 0 := fun z => q (by unfold sp_po; rw [if_pos z])
        obtain ⟨k, rfl⟩ : ∃ k, i = k + 1 := ⟨i - 1, by omega⟩
        have hk := poo_le pu k
        have ek : sp_po (k + 1) pu = nI (poo pu k) := by unfold sp_po; rw [if_neg hi0]; rfl
        have ek2 : sp_po (k + 1 + 1) pu = nI (poo pu (k + 1)) := by unfold sp_po; rw [if_neg (by omega)]; rfl
        refine ⟨s0, _, e1, by rw [e2], by rw [e2]; exact vp_in_nI (by omega) (by decide), s0, _, e1, s0, by rw [e2], by rw [e2, e33, ek]; exact vp_in_nI (by omega) (by decide), fun z => ⟨s0, s0, ?_⟩, fun z => ⟨s0, ?_⟩⟩
        · intro h6
          refine nx h6 _ rfl ?_
          rw [e33, ek, nI_clamp (by omega), nI_clamp (by omega), hpu' _ (by omega), hpu' _ (by omega)] at z
          rw [e33, ek, ek2, show poo pu (k + 1) = poo pu k from if_neg (nt_lt.mpr z)]
        · intro h7
          refine nx h7 _ rfl ?_
          rw [e33, ek, nI_clamp (by omega), nI_clamp (by omega), hpu' _ (by omega), hpu' _ (by omega)] at z
          rw [ek2, show poo pu (k + 1) = k + 1 from if_pos (nt_le.mp z)]
  refine loop1 (dP D) 0 h1 (by omega) (mr_f J33) ?_
  show ax_i (ax_pi h m 33 (-1)) m 33 = _
  rw [ai_pi, if_pos ⟨rfl, rfl⟩]; rfl
end
