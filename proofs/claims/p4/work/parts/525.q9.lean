section
variable {g : ax_G} {Ret : Option Value → ax_H → Prop} {h : ax_H} {z : Nat → Nat} {DD : Nat → rD} {N : Nat → Nat → Nat} {C : Nat → Nat → Nat → Nat → Int32} {S : sT} {Im : Nat → Option sT} {tp : Nat → Nat} {B : Nat}
theorem c_stopsN {r : Nat} {x : Int32} (hq : Ret (some (.int 1)) h) : mX9_stops g [.ref r, .null, .int x] h Ret := ax_meth (tbl := tX9_stops g) (by decide +kernel) (Nat.le_of_ble_eq_true rfl) (oX9_stops g) (fun A hA => ax_go1 hA (fun p => Nat.beq p 20) 900 _ ⟨Or.inr rfl, hq⟩)
theorem lc_in {n w i j : Nat} {C1 : Nat → Nat → Int32} (hn : n ≤ 14) (hw : w ≤ 3) (hi : i < n) (hj : j < w) : sp_lc n w C1 (nI i) (nI j) = C1 i j := by
  unfold sp_lc
  rw [sp_in_nI (by omega) hi, sp_in_nI (by omega) hj, nI_clamp (by omega), nI_clamp (by omega)]; rfl
theorem c_stops {r l n : Nat} {D : rD} {C1 : Nat → Nat → Int32} {x : Int32} (rc : rc_at h r D) (L : li_at h l 1 n C1) (h1 : Ret (some (.int 1)) h) (h0 : ∀ m, x = nI m → m ≤ n → (∀ d, d < m → sp_in (C1 d 0) (dH D) = true) → Ret (some (.int 0)) h) : mX9_stops g [.ref r, .ref l, .int x] h Ret := by
  have n14 : n ≤ 14 := L.2.1
  have e3 := L.2.2.1
  refine uX9_stops (fun A hA => vX9_stops_0 hA ⟨fun _ => ⟨Or.inr rfl, h1⟩, fun q => ⟨L.1.1, fun q1 => ?_, fun _ => ⟨Or.inr rfl, h1⟩⟩⟩)
  rw [e3] at q1
  obtain ⟨m, _, hm, rfl⟩ := i_rng (a := 0) (b := n) (by omega) (by omega) (nt_lt.mp q) q1
  have key : ∀ j i : Nat, i + j = m → (∀ d, d < i → sp_in (C1 d 0) (dH D) = true) → A (20, [some (.ref r), some (.ref l), some (.int (nI m)), some (.int (nI i))], [], h, 0, 0) := by
    intro j
    induction j with
    | zero =>
      intro i hi hd
      refine vX9_stops_20 hA ⟨fun _ => ⟨Or.inl rfl, h0 m rfl hm (by rw [show m = i by omega]; exact hd)⟩, fun q => ?_⟩
      exact absurd (nI_le (by omega) (by omega)) q
    | succ j ih =>
      intro i hi hd
      refine vX9_stops_20 hA ⟨fun q => ?_, fun _ => ⟨L.1.1, c_lcell (by decide) (by decide) L ⟨_, rfl, rc.1.1, c_hasHour rc ⟨_, rfl, fun q2 => ?_, fun _ => ⟨Or.inr rfl, h1⟩⟩⟩⟩⟩
      · exact absurd q (nI_ge (by omega) (by omega))
      · rw [← nI_succ]
        rw [show sp_lc n (lw 1) C1 (nI i) 0 = C1 i 0 from lc_in n14 (by decide) (by omega) (by decide)] at q2
        refine ih (i + 1) (by omega) (fun d hd2 => ?_)
        by_cases e : d = i
        · rw [e]; exact b2i_n0.mp q2
        · exact hd d (by omega)
  exact key m 0 (by omega) (fun d hd => absurd hd (Nat.not_lt_zero d))
/-- a course under way -/
def lvg (h hh : ax_H) (D : rD) : Prop := ax_same cl_F h hh ∧ ∃ hv, co_at hh 52 (dP D) (dH D) hv (sp_vl D)
theorem tc_cl {h' : ax_H} (s : ax_same cl_F h h') (a : tc h z DD N C) : tc h' z DD N C := tc_same (sm_mono s (fun x q => Or.inl q)) a
theorem lv_live {hh : ax_H} {D : rD} {y : Int32} (L : lvg h hh D) (k : ∀ h2, lvg h h2 D → ax_same (fun a => a = 53) hh h2 → Ret none h2) : mX0_live g [.ref 52, .int y] hh Ret := by
  obtain ⟨hs, hv, co⟩ := L
  exact c_live co (fun h2 s2 c2 => k h2 ⟨sm_tr hs (sm_mono s2 (fun x q => by unfold cl_F; omega)), _, c2⟩ s2)
theorem have_at {hh : ax_H} {p P H : Nat} {hv : Nat → Int32} {vl : Nat → Nat → Int32} (co : co_at hh 52 P H hv vl) (hp : p < P) : ax_r hh 52 0 = some 53 ∧ (ax_s hh 53).1 = 11 ∧ vp_in (nI p) (ax_s hh 53).2 := ⟨co.1.2.1, by rw [co.1.2.2.2.1], by rw [co.1.2.2.2.1]; exact vp_in_nI (by have := co.2.1.1; omega) (by decide)⟩
theorem t9_purse {x1 x2 x3 x4 : Int32} (a : tc h z DD N C) (hq : ∀ (v : Int32) h', ax_same cl_F h h' → Ret (some (.int v)) h') : mX9_purse g [.ref 0, .int x1, .int x2, .int x3, .int x4] h Ret := by
  refine uX9_purse (fun A hA => vX9_purse_0 hA ⟨a.1.1, q_begun a (fun q => Or.inr ⟨rfl, a.1.1, _, a.1.2.1.1, a.2.2.1.1.1, c_linesAt (s0 := 1) a.2.2.1 (by decide) (by decide) (fun _ => Or.inr ⟨rfl, hq _ h sm_rf⟩) (fun k hk ex => Or.inl ⟨_, rfl, hq _ h sm_rf⟩)⟩) (fun k hk ex ok h' hs xs hc => Or.inl ⟨_, rfl, ?_⟩)⟩)
  have b := tc_cl hs a
  have fin : ∀ v : Int32, Ret (some (.int v)) h' := fun v => hq v h' hs
  refine ⟨b.1.1, _, b.1.2.1.1, b.2.2.1.1.1, c_linesAt (s0 := 1) b.2.2.1 (by decide) (by decide) (fun _ => Or.inr ⟨rfl, hc.1.1.1, c_hasPersonOrAll hc.1 ⟨_, rfl, fun _ => fin _, fun _ => c_stopsN ⟨_, rfl, fun q => absurd q (by decide), fun _ => fin _⟩⟩⟩) (fun w hw ew => Or.inl ⟨_, rfl, hc.1.1.1, c_hasPersonOrAll hc.1 ⟨_, rfl, fun _ => fin _, fun q4 => c_stops hc.1 (b.2.2.1.2.2.2 1 w (by decide) (by decide) hw) ⟨_, rfl, fun q => absurd q (by decide), fun _ => fin _⟩ (fun m em hm hd => ⟨_, rfl, fun _ => ?_, fun q => absurd rfl q⟩)⟩⟩)⟩
  subst em
  have n14 : N 1 w ≤ 14 := (b.2.2.1.2.2.2 1 w (by decide) (by decide) hw).2.1
  have key : ∀ n i : Nat, i + n = m → ∀ hh, lvg h hh (DD k) → A (50, [some (.ref 0), some (.int x1), some (.int x2), some (.int (nI m)), some (.int x4), some (.ref (6 + 14 * k)), some (.ref (lnp 1 1 w)), some (.int (nI i))], [], hh, 0, 0) := by
    intro n
    induction n with
    | zero =>
      intro i hi hh L
      have c := tc_cl L.1 a
      obtain ⟨hv, co⟩ := L.2
      refine vX9_purse_50 hA ⟨fun _ => ⟨fun q => ⟨c.1.1, _, c.1.2.1.2.2.2.1, co.1.1, ?_⟩, fun _ => ⟨c.1.1, _, c.1.2.1.2.2.2.1, co.1.1, c_poorest co ⟨_, rfl, hq _ hh L.1⟩⟩⟩, fun q => absurd (nI_le (by omega) (by omega)) q⟩
      have q5 := b2i_n0.mp q4
      rw [decide_eq_false q, Bool.false_or] at q5
      obtain ⟨p, hp, rfl⟩ := sp_in_ix (by have := ok.2.1; omega) q5
      obtain ⟨e1, e2, e3⟩ := have_at co hp
      exact ⟨_, e1, e2, e3, hq _ hh L.1⟩
    | succ n ih =>
      intro i hi hh L
      have c := tc_cl L.1 a
      obtain ⟨hv, co⟩ := L.2
      refine vX9_purse_50 hA ⟨fun q => absurd q (nI_ge (by omega) (by omega)), fun _ => ⟨c.1.1, _, c.1.2.1.2.2.2.1, (c.2.2.1.2.2.2 1 w (by decide) (by decide) hw).1.1, c_lcell (by decide) (by decide) (c.2.2.1.2.2.2 1 w (by decide) (by decide) hw) ⟨_, rfl, co.1.1, lv_live L (fun h2 L2 _ => ⟨rfl, ?_⟩)⟩⟩⟩
      rw [← nI_succ]; exact ih (i + 1) (by omega) h2 L2
  exact key m 0 (by omega) h' ⟨hs, _, hc.2.1⟩
/-! LIKELY -/
theorem p108 : ∀ i, i ≤ 6 → (108 : Int) ^ i ≤ 1586874322944 := by decide +kernel
theorem mulB {x y : Int64} {i : Nat} (hi : i < 6) (h1 : 0 ≤ x.toInt) (h2 : x.toInt ≤ 108 ^ i) (h3 : 0 ≤ y.toInt) (h4 : y.toInt ≤ 108) : (x * y).toInt = x.toInt * y.toInt ∧ 0 ≤ x.toInt * y.toInt ∧ x.toInt * y.toInt ≤ 108 ^ (i + 1) := by
  have a : 0 ≤ x.toInt * y.toInt := Int.mul_nonneg h1 h3
  have b : x.toInt * y.toInt ≤ 108 ^ (i + 1) := by
    rw [Int.pow_succ]
    exact Int.mul_le_mul h2 h4 h3 (Int.le_trans h1 h2)
  have c := p108 (i + 1) (by omega)
  exact ⟨i64_mul (by omega) (by omega), a, b⟩
theorem t9_likely {x1 x2 x3 x4 : Int32} (a : tc h z DD N C) (hq : ∀ (v : Int64) h', ax_same cl_F h h' → Ret (some (.long v)) h') : mX9_likely g [.ref 0, .int x1, .int x2, .int x3, .int x4] h Ret := by
  refine uX9_likely (fun A hA => vX9_likely_0 hA ⟨a.1.1, q_begun a (fun q => Or.inr ⟨rfl, a.1.1, _, a.1.2.1.1, a.2.2.1.1.1, c_linesAt (s0 := 1) a.2.2.1 (by decide) (by decide) (fun _ => Or.inr ⟨rfl, hq _ h sm_rf⟩) (fun k hk ex => Or.inl ⟨_, rfl, hq _ h sm_rf⟩)⟩) (fun k hk ex ok h' hs xs hc => Or.inl ⟨_, rfl, ?_⟩)⟩)
  have b := tc_cl hs a
  have fin : ∀ v : Int64, Ret (some (.long v)) h' := fun v => hq v h' hs
  refine ⟨b.1.1, _, b.1.2.1.1, b.2.2.1.1.1, c_linesAt (s0 := 1) b.2.2.1 (by decide) (by decide) (fun _ => Or.inr ⟨rfl, fun _ => fin _, fun _ => c_stopsN ⟨_, rfl, fun q => absurd q (by decide), fun _ => fin _⟩⟩) (fun w hw ew => Or.inl ⟨_, rfl, fun _ => fin _, fun q6 => c_stops hc.1 (b.2.2.1.2.2.2 1 w (by decide) (by decide) hw) ⟨_, rfl, fun q => absurd q (by decide), fun _ => fin _⟩ (fun m em hm hd => ⟨_, rfl, fun _ => ?_, fun q => absurd rfl q⟩)⟩)⟩
  subst em
  have n14 : N 1 w ≤ 14 := (b.2.2.1.2.2.2 1 w (by decide) (by decide) hw).2.1
  have m6 : m ≤ 6 := Nat.le_of_not_lt (fun q => q6 (nI_lt (a := 6) q (by omega)))
  have H12 := ok.1.2
  have key : ∀ n i : Nat, i + n = m → ∀ hh, lvg h hh (DD k) → ∀ (x7 x9 : Int64) (o12 : Option Value), 0 ≤ x7.toInt → x7.toInt ≤ 108 ^ i → 0 < x9.toInt → x9.toInt ≤ 108 ^ i → A (53, [some (.ref 0), some (.int x1), some (.int x2), some (.int (nI m)), some (.int x4), some (.ref (6 + 14 * k)), some (.ref (lnp 1 1 w)), some (.long x7), none, some (.long x9), none, some (.int (nI i)), o12], [], hh, 0, 0) := by
    intro n
    induction n with
    | zero =>
      intro i hi hh L x7 x9 o12 b1 b2 b3 b4
      exact vX9_likely_53 hA ⟨fun _ => c_side (by omega) b3 ⟨_, rfl, hq _ hh L.1⟩, fun q => absurd (nI_le (by omega) (by omega)) q⟩
    | succ n ih =>
      intro i hi hh L x7 x9 o12 b1 b2 b3 b4
      have c := tc_cl L.1 a
      obtain ⟨hv, co⟩ := L.2
      have li := c.2.2.1.2.2.2 1 w (by decide) (by decide) hw
      refine vX9_likely_53 hA ⟨fun q => absurd q (nI_ge (by omega) (by omega)), fun _ => ⟨li.1.1, c_lcell (by decide) (by decide) li ⟨_, rfl, c.1.1, _, c.1.2.1.2.2.2.2.1, c.1.1, _, c.1.2.1.2.2.2.1, co.1.1, c_poorest co ⟨_, rfl, c.1.2.2.2.1.1, c_weigh c.1.2.2.2.1 (c.2.2.1.2.2.1 k hk) (fun j hj q => by unfold od_F at q; have := a.2.2.2.2.1 0 (by decide); omega) (fun h2 s2 od => ⟨rfl, ?_⟩)⟩⟩⟩⟩
      rw [show sp_lc (N 1 w) (lw 1) (C 1 w) (nI i) 0 = C 1 w i 0 from lc_in n14 (by decide) (by omega) (by decide)]
      obtain ⟨y, hy, ey⟩ := sp_in_ix (by omega) (hd i (by omega))
      rw [ey]
      have s3 : ax_same cl_F h h2 := sm_tr L.1 (sm_mono s2 (fun x q => by unfold od_F at q; unfold cl_F; omega))
      have c2 := tc_cl s3 a
      have co2 := co_at_same s2 (by refine ⟨?_, ?_, ?_⟩ <;> (intro q; unfold od_F at q; omega)) co
      refine ⟨c2.1.1, _, c2.1.2.1.2.2.2.2.1, od.1.1, _, od.1.2.1, by rw [od.1.2.2], by rw [od.1.2.2]; exact vp_in_nI (by omega) (by decide), c2.1.1, _, c2.1.2.1.2.2.2.2.1, od.1.1, c2.1.1, _, c2.1.2.1.2.2.2.1, co2.1.1, lv_live ⟨s3, _, co2⟩ (fun h4 L4 s4 => ⟨rfl, ?_⟩)⟩
      rw [nI_clamp (by omega), od.2.2.2.2 y hy, od.2.2.2.1, ← nI_succ]
      have bw := sp_w_bd ok (sp_po (dP (DD k)) hv) y
      have bt := sp_t_bd ok (sp_po (dP (DD k)) hv)
      have m1 := mulB (x := x7) (y := (sp_w (DD k) (sp_po (dP (DD k)) hv) y).toInt64) (i := i) (by omega) b1 b2 (by rw [i_64]; omega) (by rw [i_64]; omega)
      have m2 := mulB (x := x9) (y := (sp_t (DD k) (sp_po (dP (DD k)) hv)).toInt64) (i := i) (by omega) (by omega) b4 (by rw [i_64]; omega) (by rw [i_64]; omega)
      have pos : 0 < x9.toInt * (sp_t (DD k) (sp_po (dP (DD k)) hv)).toInt64.toInt := Int.mul_pos b3 (by rw [i_64]; omega)
      exact ih (i + 1) (by omega) h4 L4 _ _ _ (by rw [m1.1]; exact m1.2.1) (by rw [m1.1]; exact m1.2.2) (by rw [m2.1]; exact pos) (by rw [m2.1]; exact m2.2.2)
  exact key m 0 (by omega) h' ⟨hs, _, hc.2.1⟩ _ _ _ (by decide) (by decide) (by decide) (by decide)
end
