section
variable {g : ax_G} {h : ax_H}
/-! a new object -/
def S0 : sT := (0, fun _ => 0, 0, -1, fun _ => 0, fun _ => D0, fun _ _ => 0, fun _ _ _ _ => 0)
def Im0 : Nat → Option sT := fun _ => none
theorem S0_ok : s_ok S0 := ⟨⟨fun s _ => Nat.zero_le _, fun k hk => absurd hk (Nat.not_lt_zero k), fun s k _ _ hk => absurd hk (Nat.not_lt_zero k)⟩, Nat.zero_le _, fun i _ => rfl⟩
theorem Im0_ok : im_ok Im0 := fun k S' _ e => by cases e
def st0 (h : ax_H) : Prop := ci_at h S0 Im0 (fun _ => 0) ∧ mi_at h S0 Im0 ∧ h.1 = 103
theorem st0_tc (a : st0 h) : tc h (s_z S0) (s_D S0) (s_N S0) (s_C S0) := tc_of a.1 a.2.1 S0_ok
theorem no0 (x : Int32) : sp_in x (s_z S0 0) = false := by
  apply dec_f
  rcases Int32.lt_or_le x 0 with q | q
  · exact Or.inl q
  · exact Or.inr q
abbrev tt : ax_H → Prop := fun _ => True
theorem mi_c {h1 : ax_H} {S : sT} {Im : Nat → Option sT} {F : Nat → Prop} (s : ax_same F h h1) (i : ∀ x, 77 ≤ x → x ≤ 102 → ¬ F x) (a : mi_at h S Im) : mi_at h1 S Im := mi_ag (P := fun b => 77 ≤ b ∧ b ≤ 102) (ag_same s (fun x hx => i x hx.1 hx.2)) (fun b h1 h2 => ⟨h1, h2⟩) a
theorem p1_feed (a : st0 h) (x1 x2 x3 x4 x5 : Int32) : prI (mX9_feed g) (mX10_feed g) [.ref 0, .int x1, .int x2, .int x3, .int x4, .int x5] [.ref 77, .int x1, .int x2, .int x3, .int x4, .int x5] h tt := fun Ret K => q9_feed a.1.1.1 a.1.2.1 S0_ok.2.1 (fun q => absurd (by decide) q) (fun _ h1 hs1 _ => have m := mi_c hs1 (fun x _ _ => by omega) a.2.1; K _ h1 m.1.1 (fun Ret2 k2 => q10_feed m S0_ok.2.1 (fun q => absurd (by decide) q) (fun _ h2 _ _ => k2 h2 trivial)))
theorem p1_end (a : st0 h) (x1 : Int32) : prI (mX9_end g) (mX10_end g) [.ref 0, .int x1] [.ref 77, .int x1] h tt := fun Ret K => q9_end a.1.1.1 a.1.2.1 S0_ok.2.1 (fun no => K _ h a.2.1.1.1 (fun Ret2 k2 => q10_end a.2.1 S0_ok.2.1 (fun _ h2 _ => k2 h2 trivial) (fun n h1 e => absurd ⟨n, h1, e⟩ no))) (fun n hn e h1 hs1 _ => have m := mi_c hs1 (fun x _ _ => by omega) a.2.1; K _ h1 m.1.1 (fun Ret2 k2 => q10_end m S0_ok.2.1 (fun no => absurd ⟨n, hn, e⟩ no) (fun _ _ _ h2 _ _ => k2 h2 trivial)))
theorem p1_fault (a : st0 h) (x1 : Int32) : prI (mX9_fault g) (mX10_fault g) [.ref 0, .int x1] [.ref 77, .int x1] h tt := fun Ret K => q9_fault a.1.1.1 a.1.2.1 (K _ h a.2.1.1.1 (fun Ret2 k2 => q10_fault a.2.1 (fun h2 _ => k2 h2 trivial)))
theorem p1_count (a : st0 h) (x1 : Int32) : prI (mX9_count g) (mX10_count g) [.ref 0, .int x1] [.ref 77, .int x1] h tt := fun Ret K => q9_count a.1.1.1 a.1.2.1 (K _ h a.2.1.1.1 (fun Ret2 k2 => q10_count a.2.1 (fun h2 _ => k2 h2 trivial)))
theorem p1_day (a : st0 h) (x1 x2 : Int32) : prI (mX9_day g) (mX10_day g) [.ref 0, .int x1, .int x2] [.ref 77, .int x1, .int x2] h tt := fun Ret K => q9_day (st0_tc a) (K _ h a.2.1.1.1 (fun Ret2 k2 => q10_day (st0_tc a) (fun h2 _ => k2 h2 trivial)))
theorem p1_errand (a : st0 h) (x1 x2 x3 : Int32) : prI (mX9_errand g) (mX10_errand g) [.ref 0, .int x1, .int x2, .int x3] [.ref 77, .int x1, .int x2, .int x3] h tt := fun Ret K => q9_errand (st0_tc a) (K _ h a.2.1.1.1 (fun Ret2 k2 => q10_errand (st0_tc a) (fun h2 _ => k2 h2 trivial)))
theorem p1_train (a : st0 h) (x1 x2 x3 : Int32) : prI (mX9_train g) (mX10_train g) [.ref 0, .int x1, .int x2, .int x3] [.ref 77, .int x1, .int x2, .int x3] h tt := fun Ret K => q9_train (st0_tc a) (K _ h a.2.1.1.1 (fun Ret2 k2 => q10_train (st0_tc a) (fun h2 _ => k2 h2 trivial)))
theorem p1_sight (a : st0 h) (x1 x2 x3 : Int32) : prI (mX9_sight g) (mX10_sight g) [.ref 0, .int x1, .int x2, .int x3] [.ref 77, .int x1, .int x2, .int x3] h tt := fun Ret K => q9_sight (st0_tc a) (K _ h a.2.1.1.1 (fun Ret2 k2 => q10_sight (st0_tc a) (fun h2 _ => k2 h2 trivial)))
theorem ix_no {x : Int32} {k : Nat} (no : x < 0 ∨ 3 ≤ x) (hk : k < 3) (e : x = nI k) : False := by
  rw [e] at no
  rcases no with q | q
  · exact nI_pos (by omega) q
  · exact nI_ge (a := k) (b := 3) hk (by decide) q
theorem p1_image (a : st0 h) (x1 : Int32) : prI (mX9_image g) (mX10_image g) [.ref 0, .int x1] [.ref 77, .int x1] h tt := fun Ret K => q9_image a.1 S0_ok (by rw [a.2.2]; decide) (by rw [a.2.2]; decide) (fun no => K _ h a.2.1.1.1 (fun Ret2 k2 => q10_image a.2.1 S0_ok Im0_ok (fun _ h2 _ => k2 h2 trivial) (fun k hk e => (ix_no no hk e).elim))) (fun k hk e h1 tp1 _ _ g1 _ => have m := mi_ag g1 (fun b h1 h2 => ⟨h1, h2⟩) a.2.1; K _ h1 m.1.1 (fun Ret2 k2 => q10_image m S0_ok Im0_ok (fun no => (ix_no no hk e).elim) (fun _ _ _ h2 _ _ => k2 h2 trivial)))
theorem p1_again (a : st0 h) (x1 : Int32) : prI (mX9_again g) (mX10_again g) [.ref 0, .int x1] [.ref 77, .int x1] h tt := fun Ret K => q9_again a.1 Im0_ok (fun _ => K _ h a.2.1.1.1 (fun Ret2 k2 => q10_again a.2.1 S0_ok Im0_ok (fun _ h2 _ => k2 h2 trivial) (fun k S' hk e im => by cases im))) (fun k S' hk e im => by cases im)
theorem tx_no {x1 x2 : Int32} {S : sT} {s k : Nat} (no : sp_in x1 5 = false ∨ ∃ s, s < 5 ∧ x1 = nI s ∧ s_at S s x2 = none) (hs : s < 5) (e : x1 = nI s) (f : s_at S s x2 = some k) : False := by
  rcases no with q | ⟨s2, h2, e2, f2⟩
  · rw [e, sp_in_nI (by decide) hs] at q; cases q
  · have : s2 = s := (nI_eq (by omega) (by omega)).mp (e2.symm.trans e)
    subst this
    rw [f] at f2; cases f2
theorem p1_rd10 {h0 : ax_H} {Im : Nat → Option sT} {S : sT} (s : Nat) (Ret' : Option Value → ax_H → Prop) (hs5 : s < 5) (m : mi_at h0 S Im) (e : ax_i h0 77 12 = nI (s_n S0)) (hq : ∀ h', ax_same mr_F h0 h' → (∀ i, 1 ≤ i → ax_i h' 80 i = ax_i h0 80 i ∧ ax_i h' 81 i = ax_i h0 81 i) → mr_at h' s R0 → Ret' (some (.int (b2i (decide (r_f R0 = 0))))) h') : mX10_readText g [.ref 77, .int (nI s)] h0 Ret' := c_mread0 m.1 hs5 (e.trans rfl) (fun h' a b c => hq h' a b c)
theorem p1_text (a : st0 h) (x1 x2 : Int32) : prI (mX9_text g) (mX10_text g) [.ref 0, .int x1, .int x2] [.ref 77, .int x1, .int x2] h tt := fun Ret K => q9_text (PR := fun _ => R0) a.1 S0_ok (fun s h0 Ret' hs5 re s2 _ hq => c_read0 re s2 hs5 hq)
  (fun no h1 fr _ => have m := mi_ag fr.2 (fun b h1 h2 => ⟨h1, h2⟩) a.2.1; K _ h1 m.1.1 (fun Ret2 k2 => q10_text (PR := fun _ => R0) m S0_ok Im0_ok (fun s h0 Ret' hs5 m0 e hq => p1_rd10 s Ret' hs5 m0 e hq) (fun _ h2 _ _ => k2 h2 trivial) (fun _ _ _ _ _ z => absurd rfl z) (fun s k hs e f => (tx_no no hs e f).elim)))
  (fun _ _ _ _ _ z => absurd rfl z)
  (fun s k hs e f _ h1 fr _ => have m := mi_ag fr.2 (fun b h1 h2 => ⟨h1, h2⟩) a.2.1; K _ h1 m.1.1 (fun Ret2 k2 => q10_text (PR := fun _ => R0) m S0_ok Im0_ok (fun s h0 Ret' hs5 m0 e hq => p1_rd10 s Ret' hs5 m0 e hq) (fun no => (tx_no no hs e f).elim) (fun _ _ _ _ _ z => absurd rfl z) (fun s2 k3 hs2 e2 f2 _ h2 _ _ => by
    have : s2 = s := (nI_eq (by omega) (by omega)).mp (e2.symm.trans e)
    subst this
    rw [f] at f2; cases f2
    exact k2 h2 trivial)))
theorem p1_republic (a : st0 h) (x1 x2 : Int32) : prI (mX9_republic g) (mX10_republic g) [.ref 0, .int x1, .int x2] [.ref 77, .int x1, .int x2] h tt := fun Ret K => no9_republic (st0_tc a) (no0 x1) (K _ h a.2.1.1.1 (fun Ret2 k2 => no10_republic (st0_tc a) (no0 x1) (fun h2 _ => k2 h2 trivial)))
theorem p1_person (a : st0 h) (x1 x2 x3 : Int32) : prI (mX9_person g) (mX10_person g) [.ref 0, .int x1, .int x2, .int x3] [.ref 77, .int x1, .int x2, .int x3] h tt := fun Ret K => no9_person (st0_tc a) (no0 x1) (K _ h a.2.1.1.1 (fun Ret2 k2 => no10_person (st0_tc a) (no0 x1) (fun h2 _ => k2 h2 trivial)))
theorem p1_value (a : st0 h) (x1 x2 x3 : Int32) : prI (mX9_value g) (mX10_value g) [.ref 0, .int x1, .int x2, .int x3] [.ref 77, .int x1, .int x2, .int x3] h tt := fun Ret K => no9_value (st0_tc a) (no0 x1) (K _ h a.2.1.1.1 (fun Ret2 k2 => no10_value (st0_tc a) (no0 x1) (fun h2 _ => k2 h2 trivial)))
theorem p1_odds (a : st0 h) (x1 x2 x3 : Int32) : prI (mX9_odds g) (mX10_odds g) [.ref 0, .int x1, .int x2, .int x3] [.ref 77, .int x1, .int x2, .int x3] h tt := fun Ret K => no9_odds (st0_tc a) (no0 x1) (K _ h a.2.1.1.1 (fun Ret2 k2 => no10_odds (st0_tc a) (no0 x1) (fun h2 _ => k2 h2 trivial)))
theorem p1_purse (a : st0 h) (x1 x2 x3 x4 : Int32) : prI (mX9_purse g) (mX10_purse g) [.ref 0, .int x1, .int x2, .int x3, .int x4] [.ref 77, .int x1, .int x2, .int x3, .int x4] h tt := fun Ret K => no9_purse (st0_tc a) (no0 x1) (K _ h a.2.1.1.1 (fun Ret2 k2 => no10_purse (st0_tc a) (no0 x1) (fun h2 _ => k2 h2 trivial)))
theorem p1_likely (a : st0 h) (x1 x2 x3 x4 : Int32) : prL (mX9_likely g) (mX10_likely g) [.ref 0, .int x1, .int x2, .int x3, .int x4] [.ref 77, .int x1, .int x2, .int x3, .int x4] h tt := fun Ret K => no9_likely (st0_tc a) (no0 x1) (K _ h a.2.1.1.1 (fun Ret2 k2 => no10_likely (st0_tc a) (no0 x1) (fun h2 _ => k2 h2 trivial)))
theorem p1_drawn (a : st0 h) (x1 x2 x3 x4 : Int32) : prI (mX9_drawn g) (mX10_drawn g) [.ref 0, .int x1, .int x2, .int x3, .int x4] [.ref 77, .int x1, .int x2, .int x3, .int x4] h tt := fun Ret K => no9_drawn (st0_tc a) (no0 x1) (K _ h a.2.1.1.1 (fun Ret2 k2 => no10_drawn (st0_tc a) (no0 x1) (fun h2 _ => k2 h2 trivial)))
theorem p1_mean (a : st0 h) (x1 x2 x3 : Int32) : prI (mX9_mean g) (mX10_mean g) [.ref 0, .int x1, .int x2, .int x3] [.ref 77, .int x1, .int x2, .int x3] h tt := fun Ret K => no9_mean (st0_tc a) (no0 x1) (K _ h a.2.1.1.1 (fun Ret2 k2 => no10_mean (st0_tc a) (no0 x1) (fun h2 _ => k2 h2 trivial)))
theorem p1_gain (a : st0 h) (x1 x2 x3 x4 : Int32) : prI (mX9_gain g) (mX10_gain g) [.ref 0, .int x1, .int x2, .int x3, .int x4] [.ref 77, .int x1, .int x2, .int x3, .int x4] h tt := fun Ret K => no9_gain (st0_tc a) (no0 x1) (K _ h a.2.1.1.1 (fun Ret2 k2 => no10_gain (st0_tc a) (no0 x1) (fun h2 _ => k2 h2 trivial)))
theorem p1_wish (a : st0 h) (x1 x2 : Int32) : prI (mX9_wish g) (mX10_wish g) [.ref 0, .int x1, .int x2] [.ref 77, .int x1, .int x2] h tt := fun Ret K => no9_wish (st0_tc a) (no0 x1) (K _ h a.2.1.1.1 (fun Ret2 k2 => no10_wish (st0_tc a) (no0 x1) (fun h2 _ => k2 h2 trivial)))
theorem p1_buyer (a : st0 h) (x1 x2 : Int32) : prI (mX9_buyer g) (mX10_buyer g) [.ref 0, .int x1, .int x2] [.ref 77, .int x1, .int x2] h tt := fun Ret K => no9_buyer (st0_tc a) (no0 x1) (K _ h a.2.1.1.1 (fun Ret2 k2 => no10_buyer (st0_tc a) (no0 x1) (fun h2 _ => k2 h2 trivial)))
theorem p1_promise (a : st0 h) (x1 x2 x3 x4 : Int32) : prI (mX9_promise g) (mX10_promise g) [.ref 0, .int x1, .int x2, .int x3, .int x4] [.ref 77, .int x1, .int x2, .int x3, .int x4] h tt := fun Ret K => no9_promise (st0_tc a) (no0 x1) (K _ h a.2.1.1.1 (fun Ret2 k2 => no10_promise (st0_tc a) (no0 x1) (fun h2 _ => k2 h2 trivial)))
theorem p1_two (a : st0 h) (x1 x2 x3 x4 : Int32) : prI (mX9_two g) (mX10_two g) [.ref 0, .int x1, .int x2, .int x3, .int x4] [.ref 77, .int x1, .int x2, .int x3, .int x4] h tt := fun Ret K => no9_two (st0_tc a) (no0 x1) (K _ h a.2.1.1.1 (fun Ret2 k2 => no10_two (st0_tc a) (no0 x1) (fun h2 _ => k2 h2 trivial)))
theorem p1_shift (a : st0 h) (x1 x2 x3 : Int32) : prI (mX9_shift g) (mX10_shift g) [.ref 0, .int x1, .int x2, .int x3] [.ref 77, .int x1, .int x2, .int x3] h tt := fun Ret K => no9_shift (st0_tc a) (no0 x1) (K _ h a.2.1.1.1 (fun Ret2 k2 => no10_shift (st0_tc a) (no0 x1) (fun h2 _ => k2 h2 trivial)))
theorem p1_feud (a : st0 h) (x1 x2 : Int32) : prI (mX9_feud g) (mX10_feud g) [.ref 0, .int x1, .int x2] [.ref 77, .int x1, .int x2] h tt := fun Ret K => no9_feud (st0_tc a) (no0 x1) (K _ h a.2.1.1.1 (fun Ret2 k2 => no10_feud (st0_tc a) (no0 x1) (fun h2 _ => k2 h2 trivial)))
theorem p1_plan (a : st0 h) (x1 x2 x3 : Int32) : prI (mX9_plan g) (mX10_plan g) [.ref 0, .int x1, .int x2, .int x3] [.ref 77, .int x1, .int x2, .int x3] h tt := fun Ret K => no9_plan (st0_tc a) (no0 x1) (K _ h a.2.1.1.1 (fun Ret2 k2 => no10_plan (st0_tc a) (no0 x1) (fun h2 _ => k2 h2 trivial)))
theorem p1_holds (a : st0 h) (x1 x2 x3 : Int32) : prI (mX9_holds g) (mX10_holds g) [.ref 0, .int x1, .int x2, .int x3] [.ref 77, .int x1, .int x2, .int x3] h tt := fun Ret K => no9_holds (st0_tc a) (no0 x1) (K _ h a.2.1.1.1 (fun Ret2 k2 => no10_holds (st0_tc a) (no0 x1) (fun h2 _ => k2 h2 trivial)))
theorem p1_clock (a : st0 h) (x1 x2 x3 x4 : Int32) : prI (mX9_clock g) (mX10_clock g) [.ref 0, .int x1, .int x2, .int x3, .int x4] [.ref 77, .int x1, .int x2, .int x3, .int x4] h tt := fun Ret K => no9_clock (st0_tc a) (no0 x1) (K _ h a.2.1.1.1 (fun Ret2 k2 => no10_clock (st0_tc a) (no0 x1) (fun h2 _ => k2 h2 trivial)))
theorem p1_fits (a : st0 h) (x1 x2 x3 : Int32) : prI (mX9_fits g) (mX10_fits g) [.ref 0, .int x1, .int x2, .int x3] [.ref 77, .int x1, .int x2, .int x3] h tt := fun Ret K => no9_fits (st0_tc a) (no0 x1) (K _ h a.2.1.1.1 (fun Ret2 k2 => no10_fits (st0_tc a) (no0 x1) (fun h2 _ => k2 h2 trivial)))
theorem p1_reign (a : st0 h) (x1 x2 x3 : Int32) : prI (mX9_reign g) (mX10_reign g) [.ref 0, .int x1, .int x2, .int x3] [.ref 77, .int x1, .int x2, .int x3] h tt := fun Ret K => no9_reign (st0_tc a) (no0 x1) (K _ h a.2.1.1.1 (fun Ret2 k2 => no10_reign (st0_tc a) (no0 x1) (fun h2 _ => k2 h2 trivial)))
theorem p1_hope (a : st0 h) (x1 x2 x3 x4 : Int32) : prL (mX9_hope g) (mX10_hope g) [.ref 0, .int x1, .int x2, .int x3, .int x4] [.ref 77, .int x1, .int x2, .int x3, .int x4] h tt := fun Ret K => no9_hope (st0_tc a) (no0 x1) (K _ h a.2.1.1.1 (fun Ret2 k2 => no10_hope (st0_tc a) (no0 x1) (fun h2 _ => k2 h2 trivial)))
theorem p1_doom (a : st0 h) (x1 x2 x3 x4 : Int32) : prL (mX9_doom g) (mX10_doom g) [.ref 0, .int x1, .int x2, .int x3, .int x4] [.ref 77, .int x1, .int x2, .int x3, .int x4] h tt := fun Ret K => no9_doom (st0_tc a) (no0 x1) (K _ h a.2.1.1.1 (fun Ret2 k2 => no10_doom (st0_tc a) (no0 x1) (fun h2 _ => k2 h2 trivial)))
theorem p1_ruling (a : st0 h) (x1 x2 : Int32) : prI (mX9_ruling g) (mX10_ruling g) [.ref 0, .int x1, .int x2] [.ref 77, .int x1, .int x2] h tt := fun Ret K => no9_ruling (st0_tc a) (no0 x1) (K _ h a.2.1.1.1 (fun Ret2 k2 => no10_ruling (st0_tc a) (no0 x1) (fun h2 _ => k2 h2 trivial)))
theorem p1_trust (a : st0 h) (x1 x2 x3 : Int32) : prI (mX9_trust g) (mX10_trust g) [.ref 0, .int x1, .int x2, .int x3] [.ref 77, .int x1, .int x2, .int x3] h tt := fun Ret K => no9_trust (st0_tc a) (no0 x1) (K _ h a.2.1.1.1 (fun Ret2 k2 => no10_trust (st0_tc a) (no0 x1) (fun h2 _ => k2 h2 trivial)))
theorem p1_tight (a : st0 h) (x1 x2 : Int32) : prI (mX9_tight g) (mX10_tight g) [.ref 0, .int x1, .int x2] [.ref 77, .int x1, .int x2] h tt := fun Ret K => no9_tight (st0_tc a) (no0 x1) (K _ h a.2.1.1.1 (fun Ret2 k2 => no10_tight (st0_tc a) (no0 x1) (fun h2 _ => k2 h2 trivial)))
theorem p1_free (a : st0 h) (x1 x2 x3 : Int32) : prI (mX9_free g) (mX10_free g) [.ref 0, .int x1, .int x2, .int x3] [.ref 77, .int x1, .int x2, .int x3] h tt := fun Ret K => no9_free (st0_tc a) (no0 x1) (K _ h a.2.1.1.1 (fun Ret2 k2 => no10_free (st0_tc a) (no0 x1) (fun h2 _ => k2 h2 trivial)))
end
