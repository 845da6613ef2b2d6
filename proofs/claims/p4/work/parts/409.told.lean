section
/-! lines: how many at most, how wide, by sort -/
def lm : Nat → Nat := fun s => [0, 14, 6, 8, 6].getD s 0
def lw : Nat → Nat := fun s => [0, 1, 3, 2, 3].getD s 0
theorem lm_lw {s : Nat} (h1 : 1 ≤ s) (h5 : s < 5) : 1 ≤ lw s ∧ lw s ≤ 3 ∧ lm s ≤ 14 ∧ lm s * lw s ≤ 18 := by
  match s, h1, h5 with
  | 1, _, _ => decide
  | 2, _, _ => decide
  | 3, _, _ => decide
  | 4, _, _ => decide
def li_st (h : ax_H) (l s : Nat) : Prop := (ax_s h l).1 = 2 ∧ ax_r h l 2 = some (l + 1) ∧ ax_i h l 0 = nI (lm s) ∧ ax_i h l 1 = nI (lw s) ∧ ax_s h (l + 1) = (11, lm s * lw s)
def li_at (h : ax_H) (l s n : Nat) (C : Nat → Nat → Int32) : Prop := li_st h l s ∧ n ≤ lm s ∧ ax_i h l 3 = nI n ∧ ∀ i j, i < n → j < lw s → ax_i h (l + 1) (i * lw s + j) = C i j
theorem li_st_same {F : Nat → Prop} {h h' : ax_H} {l s : Nat} (hs : ax_same F h h') (hF : ¬ F l) (a : li_st h l s) : li_st h' l s := ⟨by rw [hs.2.1]; exact a.1, by rw [hs.2.2.1]; exact a.2.1, by rw [(hs.2.2.2 _ hF).1]; exact a.2.2.1, by rw [(hs.2.2.2 _ hF).1]; exact a.2.2.2.1, by rw [hs.2.1]; exact a.2.2.2.2⟩
theorem li_at_same {F : Nat → Prop} {h h' : ax_H} {l s n : Nat} {C : Nat → Nat → Int32} (hs : ax_same F h h') (hF : ¬ F l ∧ ¬ F (l + 1)) (a : li_at h l s n C) : li_at h' l s n C := ⟨li_st_same hs hF.1 a.1, a.2.1, by rw [(hs.2.2.2 _ hF.1).1]; exact a.2.2.1, fun i j hi hj => by rw [(hs.2.2.2 _ hF.2).1]; exact a.2.2.2 i j hi hj⟩
def sp_lc (n w : Nat) (C : Nat → Nat → Int32) (x y : Int32) : Int32 := if sp_in x n && sp_in y w then C x.toNatClampNeg y.toNatClampNeg else 0
/-- where the lines of a sort lie in what is told at t -/
def lnp (t s k : Nat) : Nat := t + 9 + 14 * k + 2 * s
def to_st (h : ax_H) (t : Nat) : Prop := (ax_s h t).1 = 8 ∧ (ax_r h t 0 = some (t + 1) ∧ ax_r h t 1 = some (t + 2) ∧ ax_r h t 2 = some (t + 3) ∧ ax_r h t 3 = some (t + 4)) ∧ (ax_s h (t + 1) = (12, 600) ∧ ax_s h (t + 2) = (11, 5) ∧ ax_s h (t + 3) = (17, 2) ∧ ax_s h (t + 4) = (15, 10)) ∧ (∀ k, k < 2 → ax_r h (t + 3) k = some (t + 5 + 14 * k) ∧ rc_st h (t + 5 + 14 * k)) ∧ ∀ s k, 1 ≤ s → s < 5 → k < 2 → ax_r h (t + 4) (s * 2 + k) = some (lnp t s k) ∧ li_st h (lnp t s k) s
/-- what is told at t: how many of each sort, the republics, the lines -/
def to_at (h : ax_H) (t : Nat) (z : Nat → Nat) (DD : Nat → rD) (N : Nat → Nat → Nat) (C : Nat → Nat → Nat → Nat → Int32) : Prop := to_st h t ∧ (∀ s, s < 5 → z s ≤ 2 ∧ ax_i h (t + 2) s = nI (z s)) ∧ (∀ k, k < z 0 → rc_at h (t + 5 + 14 * k) (DD k)) ∧ ∀ s k, 1 ≤ s → s < 5 → k < z s → li_at h (lnp t s k) s (N s k) (C s k)
def to_F (t : Nat) : Nat → Prop := fun a => t ≤ a ∧ a ≤ t + 32
theorem to_st_same {F : Nat → Prop} {h h' : ax_H} {t : Nat} (hs : ax_same F h h') (hF : ∀ a, F a → ¬ to_F t a) (a : to_st h t) : to_st h' t := by
  obtain ⟨a1, ⟨a2, a3, a4, a5⟩, ⟨b1, b2, b3, b4⟩, c1, c2⟩ := a
  refine ⟨by rw [hs.2.1]; exact a1, ⟨by rw [hs.2.2.1]; exact a2, by rw [hs.2.2.1]; exact a3, by rw [hs.2.2.1]; exact a4, by rw [hs.2.2.1]; exact a5⟩, ⟨by rw [hs.2.1]; exact b1, by rw [hs.2.1]; exact b2, by rw [hs.2.1]; exact b3, by rw [hs.2.1]; exact b4⟩, fun k hk => ⟨by rw [hs.2.2.1]; exact (c1 k hk).1, rc_st_same hs (c1 k hk).2⟩, fun s k h1 h5 hk => ⟨by rw [hs.2.2.1]; exact (c2 s k h1 h5 hk).1, li_st_same hs (fun q => hF _ q ?_) (c2 s k h1 h5 hk).2⟩⟩
  unfold to_F lnp
  omega
theorem to_at_same {F : Nat → Prop} {h h' : ax_H} {t : Nat} {z : Nat → Nat} {DD : Nat → rD} {N : Nat → Nat → Nat} {C : Nat → Nat → Nat → Nat → Int32} (hs : ax_same F h h') (hF : ∀ a, F a → ¬ to_F t a) (a : to_at h t z DD N C) : to_at h' t z DD N C := by
  obtain ⟨a1, a2, a3, a4⟩ := a
  have hn : ∀ x, to_F t x → ¬ F x := fun x hx q => hF x q hx
  refine ⟨to_st_same hs hF a1, fun s h5 => ⟨(a2 s h5).1, by rw [(hs.2.2.2 _ (hn _ (by unfold to_F; omega))).1]; exact (a2 s h5).2⟩, fun k hk => rc_at_same hs (fun j hj => hn _ ?_) (a3 k hk), fun s k h1 h5 hk => li_at_same hs ⟨hn _ ?_, hn _ ?_⟩ (a4 s k h1 h5 hk)⟩
  · have := (a2 0 (by decide)).1
    unfold to_F; omega
  · have := (a2 s h5).1
    unfold to_F lnp; omega
  · have := (a2 s h5).1
    unfold to_F lnp; omega
variable {g : ax_G} {Ret : Option Value → ax_H → Prop} {h : ax_H} {l s n t : Nat} {C1 : Nat → Nat → Int32} {z : Nat → Nat} {DD : Nat → rD} {N : Nat → Nat → Nat} {C : Nat → Nat → Nat → Nat → Int32}
theorem dec_f {x : Int32} {k : Nat} (h1 : x < 0 ∨ nI k ≤ x) : sp_in x k = false := decide_eq_false (by rintro ⟨a, b⟩; rcases h1 with c | c; exact absurd c (nt_lt.mpr a); exact absurd b (nt_lt.mpr c))
theorem dec_t {x : Int32} {k : Nat} (h1 : ¬ x < 0) (h2 : ¬ nI k ≤ x) : sp_in x k = true := decide_eq_true ⟨nt_lt.mp h1, nt_le.mp h2⟩
theorem c_lhas {x : Int32} (hL : li_at h l s n C1) (hq : Ret (some (.int (b2i (sp_in x n)))) h) : mX2_has g [.ref l, .int x] h Ret := by
  have e := hL.2.2.1
  refine eX2_has ⟨fun h1 => ⟨Or.inl rfl, ?_⟩, fun h1 => ⟨hL.1.1, fun h2 => ⟨Or.inl rfl, ?_⟩, fun h2 => ⟨Or.inr rfl, ?_⟩⟩⟩
  · rw [dec_f (Or.inl h1)] at hq; exact hq
  · rw [e] at h2; rw [dec_f (Or.inr h2)] at hq; exact hq
  · rw [e] at h2; rw [dec_t h1 h2] at hq; exact hq
theorem c_lcell {x y : Int32} (h1s : 1 ≤ s) (h5s : s < 5) (hL : li_at h l s n C1) (hq : Ret (some (.int (sp_lc n (lw s) C1 x y))) h) : mX2_cell g [.ref l, .int x, .int y] h Ret := by
  unfold sp_lc at hq
  obtain ⟨⟨s0, r2, -, e1, sc⟩, hn, e3, ec⟩ := id hL
  have hb := lm_lw h1s h5s
  refine eX2_cell ⟨s0, c_lhas hL ⟨_, rfl, fun h1 => ?_, fun h1 => ⟨fun h2 => ?_, fun h2 => ⟨s0, fun h3 => ?_, fun h3 => ?_⟩⟩⟩⟩
  · rw [b2i_0.mp h1] at hq; exact hq
  · rw [dec_f (Or.inl h2), Bool.and_false] at hq; exact hq
  · rw [e1] at h3; rw [dec_f (Or.inr h3), Bool.and_false] at hq; exact hq
  · rw [e1] at h3
    have hx := b2i_n0.mp h1
    rw [hx, dec_t h2 h3] at hq
    obtain ⟨i, hi, rfl⟩ := sp_in_ix (by omega) hx
    obtain ⟨j, hj, rfl⟩ := (ni_ix (n := lw s) (by omega)).mp ⟨h2, h3⟩
    rw [nI_clamp (by omega), nI_clamp (by omega)] at hq
    have hlt : i * lw s + j < lm s * lw s := by
      have : (i + 1) * lw s ≤ lm s * lw s := Nat.mul_le_mul_right _ (by omega)
      rw [Nat.succ_mul] at this
      omega
    have ei : nI i * ax_i h l 1 + nI j = nI (i * lw s + j) := by rw [e1, pk_mul, nI_add]
    refine ⟨s0, _, r2, s0, by rw [sc], by rw [ei, sc]; exact vp_in_nI hlt (by omega), ?_⟩
    rw [ei, nI_clamp (by omega), ec i j hi hj]
    exact hq
theorem c_republicAt {x : Int32} (hT : to_at h t z DD N C) (h0 : sp_in x (z 0) = false → Ret (some .null) h) (h1 : ∀ k, k < z 0 → x = nI k → Ret (some (.ref (t + 5 + 14 * k))) h) : mX8_republicAt g [.ref t, .int x] h Ret := by
  obtain ⟨⟨s0, ⟨-, r1, r2, -⟩, ⟨-, s1, s2, -⟩, c1, -⟩, ez, -, -⟩ := hT
  obtain ⟨z2, e0⟩ := ez 0 (by decide)
  refine eX8_republicAt ⟨fun q => h0 (dec_f (Or.inl q)), fun q => ⟨s0, _, r1, by rw [s1], by rw [s1]; exact vp_in_nI (n := 0) (N := 5) (by decide) (by decide), fun q2 => ?_, fun q2 => ?_⟩⟩
  · rw [e0] at q2; exact h0 (dec_f (Or.inr q2))
  · rw [e0] at q2
    obtain ⟨k, hk, rfl⟩ := (ni_ix (n := z 0) (by omega)).mp ⟨q, q2⟩
    refine ⟨fun _ => ⟨s0, _, r2, by rw [s2], by rw [s2]; exact vp_in_nI (by omega) (by decide), _, by rw [nI_clamp (by omega)]; exact (c1 k (by omega)).1, h1 k hk rfl⟩, fun q3 => ?_⟩
    exact absurd (nI_lt (a := k) (b := 2) (by omega) (by decide)) q3
theorem c_linesAt {s0 : Nat} {x : Int32} (hT : to_at h t z DD N C) (hs1 : 1 ≤ s0) (hs5 : s0 < 5) (h0 : sp_in x (z s0) = false → Ret (some .null) h) (h1 : ∀ k, k < z s0 → x = nI k → Ret (some (.ref (lnp t s0 k))) h) : mX8_linesAt g [.ref t, .int (nI s0), .int x] h Ret := by
  obtain ⟨⟨s8, ⟨-, r1, -, r3⟩, ⟨-, s1, -, s3⟩, -, c2⟩, ez, -, -⟩ := hT
  obtain ⟨z2, e0⟩ := ez s0 hs5
  refine eX8_linesAt ⟨fun q => absurd q (nI_nlt (a := s0) (b := 1) hs1 (by omega)), fun _ => ⟨fun q => absurd q (nI_ge (a := s0) (b := 5) hs5 (by decide)), fun _ => ⟨fun q => h0 (dec_f (Or.inl q)), fun q => ⟨s8, _, r1, by rw [s1], by rw [s1]; exact vp_in_nI hs5 (by decide), fun q2 => ?_, fun q2 => ?_⟩⟩⟩⟩
  · rw [nI_clamp (by omega), e0] at q2; exact h0 (dec_f (Or.inr q2))
  · rw [nI_clamp (by omega), e0] at q2
    obtain ⟨k, hk, rfl⟩ := (ni_ix (n := z s0) (by omega)).mp ⟨q, q2⟩
    have ei : nI s0 * 2 + nI k = nI (s0 * 2 + k) := by rw [show (2 : Int32) = nI 2 from rfl, pk_mul, nI_add]
    refine ⟨fun _ => ⟨s8, _, r3, by rw [s3], by rw [ei, s3]; exact vp_in_nI (by omega) (by decide), _, by rw [ei, nI_clamp (by omega)]; exact (c2 s0 k hs1 hs5 (by omega)).1, h1 k hk rfl⟩, fun q3 => ?_⟩
    exact absurd (nI_lt (a := k) (b := 2) (by omega) (by decide)) q3
/-- a number of a line, or how many lines there are -/
def sp_ll (z : Nat → Nat) (N : Nat → Nat → Nat) (C : Nat → Nat → Nat → Nat → Int32) (s : Nat) (x y w v : Int32) : Int32 := if sp_in x (z s) then (if y = -1 ∧ w = 0 then nI (N s x.toNatClampNeg) else if sp_in y (N s x.toNatClampNeg) && sp_in w (lw s) then C s x.toNatClampNeg y.toNatClampNeg w.toNatClampNeg else v) else v
theorem c_lineCell {s0 : Nat} {x y w v : Int32} (hT : to_at h t z DD N C) (hs1 : 1 ≤ s0) (hs5 : s0 < 5) (hq : Ret (some (.int (sp_ll z N C s0 x y w v))) h) : mX8_lineCell g [.ref t, .int (nI s0), .int x, .int y, .int w, .int v] h Ret := by
  unfold sp_ll at hq
  refine eX8_lineCell ⟨hT.1.1, c_linesAt hT hs1 hs5 (fun q => Or.inr ⟨rfl, ?_⟩) (fun k hk ex => Or.inl ⟨_, rfl, ?_⟩)⟩
  · rw [q] at hq; exact hq
  · subst ex
    have z2 := (hT.2.1 s0 hs5).1
    have hL := hT.2.2.2 s0 k hs1 hs5 hk
    have hb := lm_lw hs1 hs5
    rw [sp_in_nI (by omega) hk, nI_clamp (by omega)] at hq
    have hq : Ret (some (.int (if y = -1 ∧ w = 0 then nI (N s0 k) else if sp_in y (N s0 k) && sp_in w (lw s0) then C s0 k y.toNatClampNeg w.toNatClampNeg else v))) h := hq
    have rest : ¬ (y = -1 ∧ w = 0) → ((ax_s h (lnp t s0 k)).1 = 2 ∧ mX2_has g [.ref (lnp t s0 k), .int y] h (fun v5 h4 => (∃ r6 : Int32, v5 = some (.int r6) ∧ ((r6 = 0 → Ret (some (.int v)) h4) ∧ (¬ (r6 = 0) → ((w < 0 → Ret (some (.int v)) h4) ∧ (¬ (w < 0) → ((ax_s h4 (lnp t s0 k)).1 = 2 ∧ (((ax_i h4 (lnp t s0 k) 1) ≤ w → Ret (some (.int v)) h4) ∧ (¬ ((ax_i h4 (lnp t s0 k) 1) ≤ w) → ((ax_s h4 (lnp t s0 k)).1 = 2 ∧ mX2_cell g [.ref (lnp t s0 k), .int y, .int w] h4 (fun v8 h7 => (∃ r9 : Int32, v8 = some (.int r9) ∧ Ret (some (.int r9)) h7))))))))))))) := by
      intro hne
      rw [if_neg hne] at hq
      refine ⟨hL.1.1, c_lhas hL ⟨_, rfl, fun q => ?_, fun q => ⟨fun q2 => ?_, fun q2 => ⟨hL.1.1, fun q3 => ?_, fun q3 => ⟨hL.1.1, c_lcell hs1 hs5 hL ⟨_, rfl, ?_⟩⟩⟩⟩⟩⟩
      · rw [b2i_0.mp q] at hq; exact hq
      · rw [dec_f (Or.inl q2), Bool.and_false] at hq; exact hq
      · rw [hL.1.2.2.2.1] at q3; rw [dec_f (Or.inr q3), Bool.and_false] at hq; exact hq
      · rw [hL.1.2.2.2.1] at q3
        unfold sp_lc
        rw [b2i_n0.mp q, dec_t q2 q3] at hq ⊢
        exact hq
    refine ⟨fun q => rest (fun e => q e.1), fun q => ⟨fun q2 => rest (fun e => q2 e.2), fun q2 => ⟨hL.1.1, ?_⟩⟩⟩
    rw [if_pos ⟨q, q2⟩] at hq
    rw [hL.2.2.1]; exact hq
/-! the class's object at place 0 -/
def xs_st (h : ax_H) : Prop := (ax_s h 0).1 = 9 ∧ (ax_r h 0 0 = some 1 ∧ ax_r h 0 1 = some 34 ∧ ax_r h 0 2 = some 35 ∧ ax_r h 0 3 = some 52 ∧ ax_r h 0 4 = some 55 ∧ ax_r h 0 5 = some 57 ∧ ax_r h 0 6 = some 59 ∧ ax_r h 0 7 = some 66 ∧ ax_r h 0 8 = some 76) ∧ co_st h 52 ∧ od_st h 55 ∧ od_st h 57 ∧ (ax_s h 76).1 = 1
theorem xs_st_same {F : Nat → Prop} {h h' : ax_H} (hs : ax_same F h h') (a : xs_st h) : xs_st h' := by
  obtain ⟨a1, ⟨b0, b1, b2, b3, b4, b5, b6, b7, b8⟩, c1, c2, c3, c4⟩ := a
  exact ⟨by rw [hs.2.1]; exact a1, ⟨by rw [hs.2.2.1]; exact b0, by rw [hs.2.2.1]; exact b1, by rw [hs.2.2.1]; exact b2, by rw [hs.2.2.1]; exact b3, by rw [hs.2.2.1]; exact b4, by rw [hs.2.2.1]; exact b5, by rw [hs.2.2.1]; exact b6, by rw [hs.2.2.1]; exact b7, by rw [hs.2.2.1]; exact b8⟩, co_st_same hs c1, od_st_same hs c2, od_st_same hs c3, by rw [hs.2.1]; exact c4⟩
/-- the class's scratch: course, today's odds -/
def bg_F : Nat → Prop := fun a => (52 ≤ a ∧ a ≤ 54) ∨ (55 ≤ a ∧ a ≤ 56)
/-- the class takes a republic in hand -/
theorem c_begun {x : Int32} (hX : xs_st h) (hT : to_at h 1 z DD N C) (h0 : sp_in x (z 0) = false → Ret (some .null) h)
    (h1 : ∀ k, k < z 0 → x = nI k → ∀ h', ax_same bg_F h h' → rc_at h' (6 + 14 * k) (DD k) → co_at h' 52 (dP (DD k)) (dH (DD k)) (dpu (DD k)) (sp_vl (DD k)) → od_at h' 55 (dH (DD k)) (sp_w (DD k) (sp_po (dP (DD k)) (dpu (DD k)))) (sp_t (DD k) (sp_po (dP (DD k)) (dpu (DD k)))) → Ret (some (.ref (6 + 14 * k))) h') : mX9_begun g [.ref 0, .int x] h Ret := by
  obtain ⟨x1, ⟨b0, -, -, b3, b4, -, -, -, -⟩, c1, c2, -, -⟩ := id hX
  refine eX9_begun ⟨x1, _, b0, hT.1.1, c_republicAt hT (fun q => Or.inr ⟨rfl, h0 q⟩) (fun k hk ex => Or.inl ⟨_, rfl, x1, _, b3, c1.1, ?_⟩)⟩
  have z2 := (hT.2.1 0 (by decide)).1
  have hD := hT.2.2.1 k hk
  rw [show 1 + 5 + 14 * k = 6 + 14 * k by omega] at hD ⊢
  refine c_begin c1 hD (fun j hj => by unfold co_F; omega) (fun h' hs hc => ⟨rfl, ?_⟩)
  have hX' := xs_st_same hs hX
  have hD' := rc_at_same hs (fun j hj => by unfold co_F; omega) hD
  obtain ⟨y1, ⟨-, -, -, d3, d4, -, -, -, -⟩, e1, e2, -, -⟩ := id hX'
  refine ⟨y1, _, d4, y1, _, d3, e1.1, c_poorest hc ⟨_, rfl, e2.1, c_weigh e2 hD' (fun j hj => by unfold od_F; omega) (fun h2 hs2 ho => ⟨rfl, ?_⟩)⟩⟩
  refine h1 k hk ex h2 (sm_tr (sm_mono hs (fun a ha => by unfold co_F at ha; unfold bg_F; omega)) (sm_mono hs2 (fun a ha => by unfold od_F at ha; unfold bg_F; omega))) (rc_at_same hs2 (fun j hj => by unfold od_F; omega) hD') (co_at_same hs2 (by unfold od_F; omega) hc) ho
end
