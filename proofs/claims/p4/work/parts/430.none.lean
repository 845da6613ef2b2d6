section
variable {g : ax_G} {Ret : Option Value → ax_H → Prop} {h : ax_H} {z : Nat → Nat} {DD : Nat → rD} {N : Nat → Nat → Nat} {C : Nat → Nat → Nat → Nat → Int32} {x1 x2 x3 x4 : Int32}
/-! no such republic: the class -/
theorem no_abs {k n : Nat} {x : Int32} (hn : n ≤ 2) (hx : sp_in x n = false) (hk : k < n) (ex : x = nI k) : False := by
  rw [ex, sp_in_nI (by omega) hk] at hx; cases hx
theorem no_begun {x : Int32} (a : tc h z DD N C) (hx : sp_in x (z 0) = false) (hq : Ret (some .null) h) : mX9_begun g [.ref 0, .int x] h Ret := q_begun a (fun _ => hq) (fun k hk ex => (no_abs (a.2.2.2.2.1 0 (by decide)) hx hk ex).elim)
theorem no_rep {x : Int32} (a : tc h z DD N C) (hx : sp_in x (z 0) = false) (hq : Ret (some .null) h) : mX8_republicAt g [.ref 1, .int x] h Ret := c_republicAt a.2.2.1 (fun _ => hq) (fun k hk ex => (no_abs (a.2.2.2.2.1 0 (by decide)) hx hk ex).elim)
theorem no_hand {x : Int32} (a : mo_st h 77) (T : tm_at h 77 0 z DD N C) (K : tk z DD N C) (hx : sp_in x (z 0) = false) (hq : Ret (some (.int 0)) h) : mX10_hand g [.ref 77, .int x] h Ret := q_hand a T K (fun _ => hq) (fun k hk ex => (no_abs (K.1 0 (by decide)) hx hk ex).elim)
theorem no_handOne {x y : Int32} (a : mo_st h 77) (T : tm_at h 77 0 z DD N C) (K : tk z DD N C) (hx : sp_in x (z 0) = false) (hq : ∀ h', ax_same md_F h h' → Ret (some (.int 0)) h') : mX10_handOne g [.ref 77, .int x, .int y] h Ret := q_handOne a T K (fun h' hs _ => hq h' hs) (fun k p hk ex => (no_abs (K.1 0 (by decide)) hx hk ex).elim)
theorem br0 {P Q : Prop} (h : P) : ((0 : Int32) = 0 → P) ∧ (¬ ((0 : Int32) = 0) → Q) := ⟨fun _ => h, fun q => absurd rfl q⟩
theorem br0' {P Q : Prop} (h : P) : (¬ ((0 : Int32) = 0) → Q) ∧ ((0 : Int32) = 0 → P) := ⟨fun q => absurd rfl q, fun _ => h⟩
theorem br2 {r : Int32} {P Q : Prop} (h : P) (k : Q) : (r = 0 → P) ∧ (¬ (r = 0) → Q) := ⟨fun _ => h, fun _ => k⟩
theorem br2' {r : Int32} {P Q : Prop} (h : P) (k : Q) : (¬ (r = 0) → Q) ∧ (r = 0 → P) := ⟨fun _ => k, fun _ => h⟩
theorem no9_republic (a : tc h z DD N C) (hx : sp_in x1 (z 0) = false) (hq : Ret (some (.int (-1000))) h) : mX9_republic g [.ref 0, .int x1, .int x2] h Ret := eX9_republic ⟨a.1.1, no_begun a hx (Or.inr ⟨rfl, hq⟩)⟩
theorem no9_person (a : tc h z DD N C) (hx : sp_in x1 (z 0) = false) (hq : Ret (some (.int (-2))) h) : mX9_person g [.ref 0, .int x1, .int x2, .int x3] h Ret := eX9_person ⟨a.1.1, _, a.1.2.1.1, a.2.2.1.1.1, no_rep a hx (Or.inr ⟨rfl, hq⟩)⟩
theorem no9_odds (a : tc h z DD N C) (hx : sp_in x1 (z 0) = false) (hq : Ret (some (.int (-1))) h) : mX9_odds g [.ref 0, .int x1, .int x2, .int x3] h Ret := eX9_odds ⟨a.1.1, no_begun a hx (Or.inr ⟨rfl, hq⟩)⟩
theorem no9_value (a : tc h z DD N C) (hx : sp_in x1 (z 0) = false) (hq : Ret (some (.int (-1000000))) h) : mX9_value g [.ref 0, .int x1, .int x2, .int x3] h Ret := eX9_value ⟨a.1.1, no_begun a hx (Or.inr ⟨rfl, hq⟩)⟩
theorem no9_purse (a : tc h z DD N C) (hx : sp_in x1 (z 0) = false) (hq : Ret (some (.int (-1000000))) h) : mX9_purse g [.ref 0, .int x1, .int x2, .int x3, .int x4] h Ret := uX9_purse (fun A hA => vX9_purse_0 hA ⟨a.1.1, no_begun a hx (Or.inr ⟨rfl, a.1.1, _, a.1.2.1.1, a.2.2.1.1.1, c_linesAt (s0 := 1) a.2.2.1 (by decide) (by decide) (fun _ => Or.inr ⟨rfl, hq⟩) (fun k hk ex => Or.inl ⟨_, rfl, hq⟩)⟩)⟩)
theorem no9_likely (a : tc h z DD N C) (hx : sp_in x1 (z 0) = false) (hq : Ret (some (.long (-1))) h) : mX9_likely g [.ref 0, .int x1, .int x2, .int x3, .int x4] h Ret := uX9_likely (fun A hA => vX9_likely_0 hA ⟨a.1.1, no_begun a hx (Or.inr ⟨rfl, a.1.1, _, a.1.2.1.1, a.2.2.1.1.1, c_linesAt (s0 := 1) a.2.2.1 (by decide) (by decide) (fun _ => Or.inr ⟨rfl, hq⟩) (fun k hk ex => Or.inl ⟨_, rfl, hq⟩)⟩)⟩)
theorem no9_drawn (a : tc h z DD N C) (hx : sp_in x1 (z 0) = false) (hq : Ret (some (.int (-1000000))) h) : mX9_drawn g [.ref 0, .int x1, .int x2, .int x3, .int x4] h Ret := uX9_drawn (fun A hA => vX9_drawn_0 hA ⟨a.1.1, no_begun a hx (Or.inr ⟨rfl, hq⟩)⟩)
theorem no9_mean (a : tc h z DD N C) (hx : sp_in x1 (z 0) = false) (hq : Ret (some (.int (-1000000))) h) : mX9_mean g [.ref 0, .int x1, .int x2, .int x3] h Ret := eX9_mean ⟨a.1.1, no_begun a hx (Or.inr ⟨rfl, hq⟩)⟩
theorem no9_gain (a : tc h z DD N C) (hx : sp_in x1 (z 0) = false) (hq : Ret (some (.int (-1000000))) h) : mX9_gain g [.ref 0, .int x1, .int x2, .int x3, .int x4] h Ret := eX9_gain ⟨a.1.1, no_begun a hx (Or.inr ⟨rfl, hq⟩)⟩
theorem no9_wish (a : tc h z DD N C) (hx : sp_in x1 (z 0) = false) (hq : Ret (some (.int (-1))) h) : mX9_wish g [.ref 0, .int x1, .int x2] h Ret := eX9_wish ⟨a.1.1, no_begun a hx (Or.inr ⟨rfl, hq⟩)⟩
theorem no9_buyer (a : tc h z DD N C) (hx : sp_in x1 (z 0) = false) (hq : Ret (some (.int (-1000000))) h) : mX9_buyer g [.ref 0, .int x1, .int x2] h Ret := uX9_buyer (fun A hA => vX9_buyer_0 hA ⟨a.1.1, no_begun a hx (Or.inr ⟨rfl, hq⟩)⟩)
theorem no9_promise (a : tc h z DD N C) (hx : sp_in x1 (z 0) = false) (hq : Ret (some (.int (-1000000))) h) : mX9_promise g [.ref 0, .int x1, .int x2, .int x3, .int x4] h Ret := uX9_promise (fun A hA => vX9_promise_0 hA ⟨a.1.1, no_begun a hx (Or.inr ⟨rfl, hq⟩)⟩)
theorem no9_two (a : tc h z DD N C) (hx : sp_in x1 (z 0) = false) (hq : Ret (some (.int (-1000000))) h) : mX9_two g [.ref 0, .int x1, .int x2, .int x3, .int x4] h Ret := eX9_two ⟨a.1.1, _, a.1.2.1.1, a.2.2.1.1.1, no_rep a hx (Or.inr ⟨rfl, hq⟩)⟩
theorem no9_shift (a : tc h z DD N C) (hx : sp_in x1 (z 0) = false) (hq : Ret (some (.int (-1000000))) h) : mX9_shift g [.ref 0, .int x1, .int x2, .int x3] h Ret := uX9_shift (fun A hA => vX9_shift_0 hA ⟨a.1.1, no_begun a hx (Or.inr ⟨rfl, hq⟩)⟩)
theorem no9_feud (a : tc h z DD N C) (hx : sp_in x1 (z 0) = false) (hq : Ret (some (.int (-1))) h) : mX9_feud g [.ref 0, .int x1, .int x2] h Ret := uX9_feud (fun A hA => vX9_feud_0 hA ⟨a.1.1, no_begun a hx (Or.inr ⟨rfl, hq⟩)⟩)
theorem no9_plan (a : tc h z DD N C) (hx : sp_in x1 (z 0) = false) (hq : Ret (some (.int (-1000000))) h) : mX9_plan g [.ref 0, .int x1, .int x2, .int x3] h Ret := eX9_plan ⟨a.1.1, no_begun a hx (Or.inr ⟨rfl, a.1.1, _, a.1.2.1.1, a.2.2.1.1.1, c_linesAt (s0 := 2) a.2.2.1 (by decide) (by decide) (fun _ => Or.inr ⟨rfl, hq⟩) (fun k hk ex => Or.inl ⟨_, rfl, hq⟩)⟩)⟩
theorem no9_holds (a : tc h z DD N C) (hx : sp_in x1 (z 0) = false) (hq : Ret (some (.int (-1000))) h) : mX9_holds g [.ref 0, .int x1, .int x2, .int x3] h Ret := uX9_holds (fun A hA => vX9_holds_0 hA ⟨a.1.1, _, a.1.2.1.1, a.2.2.1.1.1, no_rep a hx (Or.inr ⟨rfl, a.1.1, _, a.1.2.1.1, a.2.2.1.1.1, c_linesAt (s0 := 3) a.2.2.1 (by decide) (by decide) (fun _ => Or.inr ⟨rfl, hq⟩) (fun k hk ex => Or.inl ⟨_, rfl, hq⟩)⟩)⟩)
theorem no9_clock (a : tc h z DD N C) (hx : sp_in x1 (z 0) = false) (hq : Ret (some (.int (-1))) h) : mX9_clock g [.ref 0, .int x1, .int x2, .int x3, .int x4] h Ret := eX9_clock ⟨a.1.1, _, a.1.2.1.1, a.2.2.1.1.1, no_rep a hx (Or.inr ⟨rfl, a.1.1, _, a.1.2.1.1, a.2.2.1.1.1, c_linesAt (s0 := 3) a.2.2.1 (by decide) (by decide) (fun _ => Or.inr ⟨rfl, hq⟩) (fun k hk ex => Or.inl ⟨_, rfl, hq⟩)⟩)⟩
theorem no9_fits (a : tc h z DD N C) (hx : sp_in x1 (z 0) = false) (hq : Ret (some (.int (-2))) h) : mX9_fits g [.ref 0, .int x1, .int x2, .int x3] h Ret := eX9_fits ⟨a.1.1, no_begun a hx (Or.inr ⟨rfl, a.1.1, _, a.1.2.1.1, a.2.2.1.1.1, c_linesAt (s0 := 4) a.2.2.1 (by decide) (by decide) (fun _ => Or.inr ⟨rfl, hq⟩) (fun k hk ex => Or.inl ⟨_, rfl, hq⟩)⟩)⟩
theorem no9_reign (a : tc h z DD N C) (hx : sp_in x1 (z 0) = false) (hq : Ret (some (.int (-1000000))) h) : mX9_reign g [.ref 0, .int x1, .int x2, .int x3] h Ret := uX9_reign (fun A hA => vX9_reign_0 hA ⟨a.1.1, no_begun a hx (Or.inr ⟨rfl, hq⟩)⟩)
theorem no9_ruling (a : tc h z DD N C) (hx : sp_in x1 (z 0) = false) (hq : Ret (some (.int (-1000000))) h) : mX9_ruling g [.ref 0, .int x1, .int x2] h Ret := uX9_ruling (fun A hA => vX9_ruling_0 hA ⟨a.1.1, no_begun a hx (Or.inr ⟨rfl, hq⟩)⟩)
theorem no9_trust (a : tc h z DD N C) (hx : sp_in x1 (z 0) = false) (hq : Ret (some (.int (-1))) h) : mX9_trust g [.ref 0, .int x1, .int x2, .int x3] h Ret := uX9_trust (fun A hA => vX9_trust_0 hA ⟨a.1.1, no_begun a hx (Or.inr ⟨rfl, a.1.1, _, a.1.2.1.1, a.2.2.1.1.1, c_linesAt (s0 := 3) a.2.2.1 (by decide) (by decide) (fun _ => Or.inr ⟨rfl, hq⟩) (fun k hk ex => Or.inl ⟨_, rfl, hq⟩)⟩)⟩)
theorem no9_tight (a : tc h z DD N C) (hx : sp_in x1 (z 0) = false) (hq : Ret (some (.int (-1))) h) : mX9_tight g [.ref 0, .int x1, .int x2] h Ret := uX9_tight (fun A hA => vX9_tight_0 hA ⟨a.1.1, _, a.1.2.1.1, a.2.2.1.1.1, no_rep a hx (Or.inr ⟨rfl, a.1.1, _, a.1.2.1.1, a.2.2.1.1.1, c_linesAt (s0 := 3) a.2.2.1 (by decide) (by decide) (fun _ => Or.inr ⟨rfl, hq⟩) (fun k hk ex => Or.inl ⟨_, rfl, hq⟩)⟩)⟩)
theorem no9_free (a : tc h z DD N C) (hx : sp_in x1 (z 0) = false) (hq : Ret (some (.int (-1000000))) h) : mX9_free g [.ref 0, .int x1, .int x2, .int x3] h Ret := eX9_free ⟨a.1.1, no_begun a hx (Or.inr ⟨rfl, a.1.1, _, a.1.2.1.1, a.2.2.1.1.1, c_linesAt (s0 := 2) a.2.2.1 (by decide) (by decide) (fun _ => Or.inr ⟨rfl, hq⟩) (fun k hk ex => Or.inl ⟨_, rfl, hq⟩)⟩)⟩
theorem no9_expected {x5 : Int32} (a : tc h z DD N C) (hx : sp_in x1 (z 0) = false) (hq : Ret (some (.int 0)) h) : mX9_expected g [.ref 0, .int x1, .int x2, .int x3, .int x5] h Ret := uX9_expected (fun A hA => vX9_expected_0 hA ⟨a.1.1, no_begun a hx (Or.inr ⟨rfl, Or.inl rfl, hq⟩)⟩)
theorem no9_hope (a : tc h z DD N C) (hx : sp_in x1 (z 0) = false) (hq : Ret (some (.long (-1000000))) h) : mX9_hope g [.ref 0, .int x1, .int x2, .int x3, .int x4] h Ret := by
  refine eX9_hope ⟨a.1.1, no9_expected a hx ⟨_, rfl, ?_⟩⟩
  first | exact br0 hq | exact br0' hq
theorem no9_doom (a : tc h z DD N C) (hx : sp_in x1 (z 0) = false) (hq : Ret (some (.long (-1))) h) : mX9_doom g [.ref 0, .int x1, .int x2, .int x3, .int x4] h Ret := by
  refine eX9_doom ⟨a.1.1, no9_expected a hx ⟨_, rfl, ?_⟩⟩
  first | exact br0 hq | exact br0' hq
/-! no such republic: the reference -/
theorem no10_republic (a : tc h z DD N C) (hx : sp_in x1 (z 0) = false) (hq : ∀ h', ax_same md_F h h' → Ret (some (.int (-1000))) h') : mX10_republic g [.ref 77, .int x1, .int x2] h Ret := by
  have K := a.2.2.2.2
  obtain ⟨a1, T1, hs1⟩ := q_code (v := 0) a.2.1 a.2.2.2.1
  refine eX10_republic ⟨a.2.1.1, ?_⟩
  refine ⟨a1.1, no_hand a1 T1 K hx ⟨_, rfl, ?_⟩⟩
  first | exact br0 (hq _ hs1) | exact br0' (hq _ hs1)
theorem no10_person (a : tc h z DD N C) (hx : sp_in x1 (z 0) = false) (hq : ∀ h', ax_same md_F h h' → Ret (some (.int (-2))) h') : mX10_person g [.ref 77, .int x1, .int x2, .int x3] h Ret := by
  have K := a.2.2.2.2
  obtain ⟨a1, T1, hs1⟩ := q_code (v := 0) a.2.1 a.2.2.2.1
  refine eX10_person ⟨a.2.1.1, ?_⟩
  refine ⟨a1.1, no_handOne a1 T1 K hx (fun h' hs => ⟨_, rfl, ?_⟩)⟩
  first | exact br0 (hq _ (sm_tr hs1 hs)) | exact br0' (hq _ (sm_tr hs1 hs))
theorem no10_odds (a : tc h z DD N C) (hx : sp_in x1 (z 0) = false) (hq : ∀ h', ax_same md_F h h' → Ret (some (.int (-1))) h') : mX10_odds g [.ref 77, .int x1, .int x2, .int x3] h Ret := by
  have K := a.2.2.2.2
  obtain ⟨a1, T1, hs1⟩ := q_code (v := 0) a.2.1 a.2.2.2.1
  refine eX10_odds ⟨a.2.1.1, ?_⟩
  refine ⟨a1.1, no_hand a1 T1 K hx ⟨_, rfl, ?_⟩⟩
  first | exact br0 (hq _ hs1) | exact br0' (hq _ hs1)
theorem no10_value (a : tc h z DD N C) (hx : sp_in x1 (z 0) = false) (hq : ∀ h', ax_same md_F h h' → Ret (some (.int (-1000000))) h') : mX10_value g [.ref 77, .int x1, .int x2, .int x3] h Ret := by
  have K := a.2.2.2.2
  obtain ⟨a1, T1, hs1⟩ := q_code (v := 0) a.2.1 a.2.2.2.1
  refine eX10_value ⟨a.2.1.1, ?_⟩
  refine ⟨a1.1, no_hand a1 T1 K hx ⟨_, rfl, ?_⟩⟩
  first | exact br0 (hq _ hs1) | exact br0' (hq _ hs1)
theorem no10_purse (a : tc h z DD N C) (hx : sp_in x1 (z 0) = false) (hq : ∀ h', ax_same md_F h h' → Ret (some (.int (-1000000))) h') : mX10_purse g [.ref 77, .int x1, .int x2, .int x3, .int x4] h Ret := by
  have K := a.2.2.2.2
  obtain ⟨a1, T1, hs1⟩ := q_code (v := 0) a.2.1 a.2.2.2.1
  refine eX10_purse ⟨a.2.1.1, ?_⟩
  refine ⟨a1.1, no_hand a1 T1 K hx ⟨_, rfl, ?_⟩⟩
  first | exact br0 (hq _ hs1) | exact br0' (hq _ hs1)
theorem no10_likely (a : tc h z DD N C) (hx : sp_in x1 (z 0) = false) (hq : ∀ h', ax_same md_F h h' → Ret (some (.long (-1))) h') : mX10_likely g [.ref 77, .int x1, .int x2, .int x3, .int x4] h Ret := by
  have K := a.2.2.2.2
  obtain ⟨a1, T1, hs1⟩ := q_code (v := 0) a.2.1 a.2.2.2.1
  refine eX10_likely ⟨a.2.1.1, ?_⟩
  refine c_min ⟨_, rfl, ?_⟩
  first | refine br2 (hq _ hs1) ⟨a1.1, no_hand a1 T1 K hx ⟨_, rfl, ?_⟩⟩ | refine br2' (hq _ hs1) ⟨a1.1, no_hand a1 T1 K hx ⟨_, rfl, ?_⟩⟩
  first | exact br0 (hq _ hs1) | exact br0' (hq _ hs1)
theorem no10_drawn (a : tc h z DD N C) (hx : sp_in x1 (z 0) = false) (hq : ∀ h', ax_same md_F h h' → Ret (some (.int (-1000000))) h') : mX10_drawn g [.ref 77, .int x1, .int x2, .int x3, .int x4] h Ret := by
  have K := a.2.2.2.2
  obtain ⟨a1, T1, hs1⟩ := q_code (v := 0) a.2.1 a.2.2.2.1
  refine uX10_drawn (fun A hA => vX10_drawn_0 hA ⟨a.2.1.1, ?_⟩)
  refine c_min ⟨_, rfl, ?_⟩
  first | refine br2 (hq _ hs1) ⟨a1.1, no_hand a1 T1 K hx ⟨_, rfl, ?_⟩⟩ | refine br2' (hq _ hs1) ⟨a1.1, no_hand a1 T1 K hx ⟨_, rfl, ?_⟩⟩
  first | exact br0 (hq _ hs1) | exact br0' (hq _ hs1)
theorem no10_mean (a : tc h z DD N C) (hx : sp_in x1 (z 0) = false) (hq : ∀ h', ax_same md_F h h' → Ret (some (.int (-1000000))) h') : mX10_mean g [.ref 77, .int x1, .int x2, .int x3] h Ret := by
  have K := a.2.2.2.2
  obtain ⟨a1, T1, hs1⟩ := q_code (v := 0) a.2.1 a.2.2.2.1
  refine eX10_mean ⟨a.2.1.1, ?_⟩
  refine ⟨a1.1, no_handOne a1 T1 K hx (fun h' hs => ⟨_, rfl, ?_⟩)⟩
  first | exact br0 (hq _ (sm_tr hs1 hs)) | exact br0' (hq _ (sm_tr hs1 hs))
theorem no10_gain (a : tc h z DD N C) (hx : sp_in x1 (z 0) = false) (hq : ∀ h', ax_same md_F h h' → Ret (some (.int (-1000000))) h') : mX10_gain g [.ref 77, .int x1, .int x2, .int x3, .int x4] h Ret := by
  have K := a.2.2.2.2
  obtain ⟨a1, T1, hs1⟩ := q_code (v := 0) a.2.1 a.2.2.2.1
  refine eX10_gain ⟨a.2.1.1, ?_⟩
  refine ⟨a1.1, no_handOne a1 T1 K hx (fun h' hs => ⟨_, rfl, ?_⟩)⟩
  first | exact br0 (hq _ (sm_tr hs1 hs)) | exact br0' (hq _ (sm_tr hs1 hs))
theorem no10_wish (a : tc h z DD N C) (hx : sp_in x1 (z 0) = false) (hq : ∀ h', ax_same md_F h h' → Ret (some (.int (-1))) h') : mX10_wish g [.ref 77, .int x1, .int x2] h Ret := by
  have K := a.2.2.2.2
  obtain ⟨a1, T1, hs1⟩ := q_code (v := 0) a.2.1 a.2.2.2.1
  refine eX10_wish ⟨a.2.1.1, ?_⟩
  refine ⟨a1.1, no_hand a1 T1 K hx ⟨_, rfl, ?_⟩⟩
  first | exact br0 (hq _ hs1) | exact br0' (hq _ hs1)
theorem no10_buyer (a : tc h z DD N C) (hx : sp_in x1 (z 0) = false) (hq : ∀ h', ax_same md_F h h' → Ret (some (.int (-1000000))) h') : mX10_buyer g [.ref 77, .int x1, .int x2] h Ret := by
  have K := a.2.2.2.2
  obtain ⟨a1, T1, hs1⟩ := q_code (v := 0) a.2.1 a.2.2.2.1
  refine uX10_buyer (fun A hA => vX10_buyer_0 hA ⟨a.2.1.1, ?_⟩)
  refine c_min ⟨_, rfl, ?_⟩
  first | refine br2 (hq _ hs1) ⟨a1.1, no_hand a1 T1 K hx ⟨_, rfl, ?_⟩⟩ | refine br2' (hq _ hs1) ⟨a1.1, no_hand a1 T1 K hx ⟨_, rfl, ?_⟩⟩
  first | exact br0 (hq _ hs1) | exact br0' (hq _ hs1)
theorem no10_promise (a : tc h z DD N C) (hx : sp_in x1 (z 0) = false) (hq : ∀ h', ax_same md_F h h' → Ret (some (.int (-1000000))) h') : mX10_promise g [.ref 77, .int x1, .int x2, .int x3, .int x4] h Ret := by
  have K := a.2.2.2.2
  obtain ⟨a1, T1, hs1⟩ := q_code (v := 0) a.2.1 a.2.2.2.1
  refine uX10_promise (fun A hA => vX10_promise_0 hA ⟨a.2.1.1, ?_⟩)
  refine ⟨a1.1, no_handOne a1 T1 K hx (fun h' hs => ⟨_, rfl, ?_⟩)⟩
  first | exact br0 (hq _ (sm_tr hs1 hs)) | exact br0' (hq _ (sm_tr hs1 hs))
theorem no10_two (a : tc h z DD N C) (hx : sp_in x1 (z 0) = false) (hq : ∀ h', ax_same md_F h h' → Ret (some (.int (-1000000))) h') : mX10_two g [.ref 77, .int x1, .int x2, .int x3, .int x4] h Ret := by
  have K := a.2.2.2.2
  obtain ⟨a1, T1, hs1⟩ := q_code (v := 0) a.2.1 a.2.2.2.1
  refine eX10_two ⟨a.2.1.1, ?_⟩
  refine ⟨a1.1, no_handOne a1 T1 K hx (fun h' hs => ⟨_, rfl, ?_⟩)⟩
  first | exact br0 (hq _ (sm_tr hs1 hs)) | exact br0' (hq _ (sm_tr hs1 hs))
theorem no10_shift (a : tc h z DD N C) (hx : sp_in x1 (z 0) = false) (hq : ∀ h', ax_same md_F h h' → Ret (some (.int (-1000000))) h') : mX10_shift g [.ref 77, .int x1, .int x2, .int x3] h Ret := by
  have K := a.2.2.2.2
  obtain ⟨a1, T1, hs1⟩ := q_code (v := 0) a.2.1 a.2.2.2.1
  refine uX10_shift (fun A hA => vX10_shift_0 hA ⟨a.2.1.1, ?_⟩)
  refine c_min ⟨_, rfl, ?_⟩
  first | refine br2 (hq _ hs1) ⟨a1.1, no_handOne a1 T1 K hx (fun h' hs => ⟨_, rfl, ?_⟩)⟩ | refine br2' (hq _ hs1) ⟨a1.1, no_handOne a1 T1 K hx (fun h' hs => ⟨_, rfl, ?_⟩)⟩
  first | exact br0 (hq _ (sm_tr hs1 hs)) | exact br0' (hq _ (sm_tr hs1 hs))
theorem no10_feud (a : tc h z DD N C) (hx : sp_in x1 (z 0) = false) (hq : ∀ h', ax_same md_F h h' → Ret (some (.int (-1))) h') : mX10_feud g [.ref 77, .int x1, .int x2] h Ret := by
  have K := a.2.2.2.2
  obtain ⟨a1, T1, hs1⟩ := q_code (v := 0) a.2.1 a.2.2.2.1
  refine uX10_feud (fun A hA => vX10_feud_0 hA ⟨a.2.1.1, ?_⟩)
  refine c_min ⟨_, rfl, ?_⟩
  first | refine br2 (hq _ hs1) ⟨a1.1, no_hand a1 T1 K hx ⟨_, rfl, ?_⟩⟩ | refine br2' (hq _ hs1) ⟨a1.1, no_hand a1 T1 K hx ⟨_, rfl, ?_⟩⟩
  first | exact br0 (hq _ hs1) | exact br0' (hq _ hs1)
theorem no10_plan (a : tc h z DD N C) (hx : sp_in x1 (z 0) = false) (hq : ∀ h', ax_same md_F h h' → Ret (some (.int (-1000000))) h') : mX10_plan g [.ref 77, .int x1, .int x2, .int x3] h Ret := by
  have K := a.2.2.2.2
  obtain ⟨a1, T1, hs1⟩ := q_code (v := 0) a.2.1 a.2.2.2.1
  refine eX10_plan ⟨a.2.1.1, ?_⟩
  refine ⟨a1.1, c_mhasErrands a1 T1 K (fun h2 hs2 _ _ _ => ⟨_, rfl, ?_⟩)⟩
  have hs3 : ax_same md_F (ax_pi h 77 0 0) h2 := sm_mono hs2.1 (fun x q => q.elim (fun e => Or.inl e) False.elim)
  have a2 := mo_st_same hs3 a1
  have T2 : tm_at h2 77 0 z DD N C := tm_at_same hs3 (fun j hj q => by unfold md_F at q; omega) T1
  first | refine br2 (hq _ (sm_tr hs1 hs3)) ⟨a2.1, no_hand a2 T2 K hx ⟨_, rfl, ?_⟩⟩ | refine br2' (hq _ (sm_tr hs1 hs3)) ⟨a2.1, no_hand a2 T2 K hx ⟨_, rfl, ?_⟩⟩
  first | exact br0 (hq _ (sm_tr hs1 hs3)) | exact br0' (hq _ (sm_tr hs1 hs3))
theorem no10_holds (a : tc h z DD N C) (hx : sp_in x1 (z 0) = false) (hq : ∀ h', ax_same md_F h h' → Ret (some (.int (-1000))) h') : mX10_holds g [.ref 77, .int x1, .int x2, .int x3] h Ret := by
  have K := a.2.2.2.2
  obtain ⟨a1, T1, hs1⟩ := q_code (v := 0) a.2.1 a.2.2.2.1
  refine uX10_holds (fun A hA => vX10_holds_0 hA ⟨a.2.1.1, ?_⟩)
  obtain ⟨a2, T2, hs2⟩ := mf_keep (k := 47) (v := x2) a1 T1
  refine ⟨a1.1, c_mhasTable a1 T1 K ⟨_, rfl, ?_⟩⟩
  first | refine br2 (hq _ (sm_tr hs1 hs2)) ⟨a2.1, no_hand a2 T2 K hx ⟨_, rfl, ?_⟩⟩ | refine br2' (hq _ (sm_tr hs1 hs2)) ⟨a2.1, no_hand a2 T2 K hx ⟨_, rfl, ?_⟩⟩
  first | exact br0 (hq _ (sm_tr hs1 hs2)) | exact br0' (hq _ (sm_tr hs1 hs2))
theorem no10_clock (a : tc h z DD N C) (hx : sp_in x1 (z 0) = false) (hq : ∀ h', ax_same md_F h h' → Ret (some (.int (-1))) h') : mX10_clock g [.ref 77, .int x1, .int x2, .int x3, .int x4] h Ret := by
  have K := a.2.2.2.2
  obtain ⟨a1, T1, hs1⟩ := q_code (v := 0) a.2.1 a.2.2.2.1
  refine eX10_clock ⟨a.2.1.1, ?_⟩
  obtain ⟨a2, T2, hs2⟩ := mf_keep (k := 47) (v := x2) a1 T1
  refine ⟨a1.1, c_mhasTable a1 T1 K ⟨_, rfl, ?_⟩⟩
  first | refine br2 (hq _ (sm_tr hs1 hs2)) ⟨a2.1, no_hand a2 T2 K hx ⟨_, rfl, ?_⟩⟩ | refine br2' (hq _ (sm_tr hs1 hs2)) ⟨a2.1, no_hand a2 T2 K hx ⟨_, rfl, ?_⟩⟩
  first | exact br0 (hq _ (sm_tr hs1 hs2)) | exact br0' (hq _ (sm_tr hs1 hs2))
theorem no10_fits (a : tc h z DD N C) (hx : sp_in x1 (z 0) = false) (hq : ∀ h', ax_same md_F h h' → Ret (some (.int (-2))) h') : mX10_fits g [.ref 77, .int x1, .int x2, .int x3] h Ret := by
  have K := a.2.2.2.2
  obtain ⟨a1, T1, hs1⟩ := q_code (v := 0) a.2.1 a.2.2.2.1
  refine eX10_fits ⟨a.2.1.1, ?_⟩
  obtain ⟨a2, T2, hs2⟩ := mf_keep (k := 49) (v := x2) a1 T1
  refine ⟨a1.1, c_mhasSights a1 T1 K ⟨_, rfl, ?_⟩⟩
  first | refine br2 (hq _ (sm_tr hs1 hs2)) ⟨a2.1, no_hand a2 T2 K hx ⟨_, rfl, ?_⟩⟩ | refine br2' (hq _ (sm_tr hs1 hs2)) ⟨a2.1, no_hand a2 T2 K hx ⟨_, rfl, ?_⟩⟩
  first | exact br0 (hq _ (sm_tr hs1 hs2)) | exact br0' (hq _ (sm_tr hs1 hs2))
theorem no10_reign (a : tc h z DD N C) (hx : sp_in x1 (z 0) = false) (hq : ∀ h', ax_same md_F h h' → Ret (some (.int (-1000000))) h') : mX10_reign g [.ref 77, .int x1, .int x2, .int x3] h Ret := by
  have K := a.2.2.2.2
  obtain ⟨a1, T1, hs1⟩ := q_code (v := 0) a.2.1 a.2.2.2.1
  refine eX10_reign ⟨a.2.1.1, ?_⟩
  refine c_min ⟨_, rfl, ?_⟩
  first | refine br2 (hq _ hs1) ⟨a1.1, no_hand a1 T1 K hx ⟨_, rfl, ?_⟩⟩ | refine br2' (hq _ hs1) ⟨a1.1, no_hand a1 T1 K hx ⟨_, rfl, ?_⟩⟩
  first | exact br0 (hq _ hs1) | exact br0' (hq _ hs1)
theorem no10_hope (a : tc h z DD N C) (hx : sp_in x1 (z 0) = false) (hq : ∀ h', ax_same md_F h h' → Ret (some (.long (-1000000))) h') : mX10_hope g [.ref 77, .int x1, .int x2, .int x3, .int x4] h Ret := by
  have K := a.2.2.2.2
  obtain ⟨a1, T1, hs1⟩ := q_code (v := 0) a.2.1 a.2.2.2.1
  refine eX10_hope ⟨a.2.1.1, ?_⟩
  refine c_min ⟨_, rfl, ?_⟩
  first | refine br2 (hq _ hs1) ⟨a1.1, no_handOne a1 T1 K hx (fun h' hs => ⟨_, rfl, ?_⟩)⟩ | refine br2' (hq _ hs1) ⟨a1.1, no_handOne a1 T1 K hx (fun h' hs => ⟨_, rfl, ?_⟩)⟩
  first | exact br0 (hq _ (sm_tr hs1 hs)) | exact br0' (hq _ (sm_tr hs1 hs))
theorem no10_doom (a : tc h z DD N C) (hx : sp_in x1 (z 0) = false) (hq : ∀ h', ax_same md_F h h' → Ret (some (.long (-1))) h') : mX10_doom g [.ref 77, .int x1, .int x2, .int x3, .int x4] h Ret := by
  have K := a.2.2.2.2
  obtain ⟨a1, T1, hs1⟩ := q_code (v := 0) a.2.1 a.2.2.2.1
  refine eX10_doom ⟨a.2.1.1, ?_⟩
  refine c_min ⟨_, rfl, ?_⟩
  first | refine br2 (hq _ hs1) ⟨a1.1, no_handOne a1 T1 K hx (fun h' hs => ⟨_, rfl, ?_⟩)⟩ | refine br2' (hq _ hs1) ⟨a1.1, no_handOne a1 T1 K hx (fun h' hs => ⟨_, rfl, ?_⟩)⟩
  first | exact br0 (hq _ (sm_tr hs1 hs)) | exact br0' (hq _ (sm_tr hs1 hs))
theorem no10_ruling (a : tc h z DD N C) (hx : sp_in x1 (z 0) = false) (hq : ∀ h', ax_same md_F h h' → Ret (some (.int (-1000000))) h') : mX10_ruling g [.ref 77, .int x1, .int x2] h Ret := by
  have K := a.2.2.2.2
  obtain ⟨a1, T1, hs1⟩ := q_code (v := 0) a.2.1 a.2.2.2.1
  refine uX10_ruling (fun A hA => vX10_ruling_0 hA ⟨a.2.1.1, ?_⟩)
  refine c_min ⟨_, rfl, ?_⟩
  first | refine br2 (hq _ hs1) ⟨a1.1, no_hand a1 T1 K hx ⟨_, rfl, ?_⟩⟩ | refine br2' (hq _ hs1) ⟨a1.1, no_hand a1 T1 K hx ⟨_, rfl, ?_⟩⟩
  first | exact br0 (hq _ hs1) | exact br0' (hq _ hs1)
theorem no10_trust (a : tc h z DD N C) (hx : sp_in x1 (z 0) = false) (hq : ∀ h', ax_same md_F h h' → Ret (some (.int (-1))) h') : mX10_trust g [.ref 77, .int x1, .int x2, .int x3] h Ret := by
  have K := a.2.2.2.2
  obtain ⟨a1, T1, hs1⟩ := q_code (v := 0) a.2.1 a.2.2.2.1
  refine uX10_trust (fun A hA => vX10_trust_0 hA ⟨a.2.1.1, ?_⟩)
  obtain ⟨a2, T2, hs2⟩ := mf_keep (k := 47) (v := x2) a1 T1
  refine ⟨a1.1, c_mhasTable a1 T1 K ⟨_, rfl, ?_⟩⟩
  first | refine br2 (hq _ (sm_tr hs1 hs2)) ⟨a2.1, no_hand a2 T2 K hx ⟨_, rfl, ?_⟩⟩ | refine br2' (hq _ (sm_tr hs1 hs2)) ⟨a2.1, no_hand a2 T2 K hx ⟨_, rfl, ?_⟩⟩
  first | exact br0 (hq _ (sm_tr hs1 hs2)) | exact br0' (hq _ (sm_tr hs1 hs2))
theorem no10_tight (a : tc h z DD N C) (hx : sp_in x1 (z 0) = false) (hq : ∀ h', ax_same md_F h h' → Ret (some (.int (-1))) h') : mX10_tight g [.ref 77, .int x1, .int x2] h Ret := by
  have K := a.2.2.2.2
  obtain ⟨a1, T1, hs1⟩ := q_code (v := 0) a.2.1 a.2.2.2.1
  refine uX10_tight (fun A hA => vX10_tight_0 hA ⟨a.2.1.1, ?_⟩)
  obtain ⟨a2, T2, hs2⟩ := mf_keep (k := 47) (v := x2) a1 T1
  refine ⟨a1.1, c_mhasTable a1 T1 K ⟨_, rfl, ?_⟩⟩
  first | refine br2 (hq _ (sm_tr hs1 hs2)) ⟨a2.1, no_hand a2 T2 K hx ⟨_, rfl, ?_⟩⟩ | refine br2' (hq _ (sm_tr hs1 hs2)) ⟨a2.1, no_hand a2 T2 K hx ⟨_, rfl, ?_⟩⟩
  first | exact br0 (hq _ (sm_tr hs1 hs2)) | exact br0' (hq _ (sm_tr hs1 hs2))
theorem no10_free (a : tc h z DD N C) (hx : sp_in x1 (z 0) = false) (hq : ∀ h', ax_same md_F h h' → Ret (some (.int (-1000000))) h') : mX10_free g [.ref 77, .int x1, .int x2, .int x3] h Ret := by
  have K := a.2.2.2.2
  obtain ⟨a1, T1, hs1⟩ := q_code (v := 0) a.2.1 a.2.2.2.1
  refine eX10_free ⟨a.2.1.1, ?_⟩
  refine ⟨a1.1, c_mhasErrands a1 T1 K (fun h2 hs2 _ _ _ => ⟨_, rfl, ?_⟩)⟩
  have hs3 : ax_same md_F (ax_pi h 77 0 0) h2 := sm_mono hs2.1 (fun x q => q.elim (fun e => Or.inl e) False.elim)
  have a2 := mo_st_same hs3 a1
  have T2 : tm_at h2 77 0 z DD N C := tm_at_same hs3 (fun j hj q => by unfold md_F at q; omega) T1
  first | refine br2 (hq _ (sm_tr hs1 hs3)) ⟨a2.1, no_hand a2 T2 K hx ⟨_, rfl, ?_⟩⟩ | refine br2' (hq _ (sm_tr hs1 hs3)) ⟨a2.1, no_hand a2 T2 K hx ⟨_, rfl, ?_⟩⟩
  first | exact br0 (hq _ (sm_tr hs1 hs3)) | exact br0' (hq _ (sm_tr hs1 hs3))
end
