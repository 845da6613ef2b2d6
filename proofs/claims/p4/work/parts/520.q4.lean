section
variable {g : ax_G} {Ret : Option Value → ax_H → Prop} {h : ax_H} {z : Nat → Nat} {DD : Nat → rD} {N : Nat → Nat → Nat} {C : Nat → Nat → Nat → Nat → Int32} {S : sT} {Im : Nat → Option sT} {tp : Nat → Nat} {B : Nat}
theorem g_value (a : IV h S Im tp) (b : 103 ≤ h.1 ∧ h.1 ≤ B) (x1 x2 x3 : Int32) : prI (mX9_value g) (mX10_value g) [.ref 0, .int x1, .int x2, .int x3] [.ref 77, .int x1, .int x2, .int x3] h (inv B) := pr_q _ a b (fun Ret k => q9_value (iv_tc a) k) (fun h1 Ret a1 k => q10_value (iv_tc a1) k)
theorem g_odds (a : IV h S Im tp) (b : 103 ≤ h.1 ∧ h.1 ≤ B) (x1 x2 x3 : Int32) : prI (mX9_odds g) (mX10_odds g) [.ref 0, .int x1, .int x2, .int x3] [.ref 77, .int x1, .int x2, .int x3] h (inv B) := pr_q _ a b (fun Ret k => q9_odds (iv_tc a) k) (fun h1 Ret a1 k => q10_odds (iv_tc a1) k)
theorem g_mean (a : IV h S Im tp) (b : 103 ≤ h.1 ∧ h.1 ≤ B) (x1 x2 x3 : Int32) : prI (mX9_mean g) (mX10_mean g) [.ref 0, .int x1, .int x2, .int x3] [.ref 77, .int x1, .int x2, .int x3] h (inv B) := pr_q _ a b (fun Ret k => q9_mean (iv_tc a) k) (fun h1 Ret a1 k => q10_mean (iv_tc a1) k)
theorem g_gain (a : IV h S Im tp) (b : 103 ≤ h.1 ∧ h.1 ≤ B) (x1 x2 x3 x4 : Int32) : prI (mX9_gain g) (mX10_gain g) [.ref 0, .int x1, .int x2, .int x3, .int x4] [.ref 77, .int x1, .int x2, .int x3, .int x4] h (inv B) := pr_q _ a b (fun Ret k => q9_gain (iv_tc a) k) (fun h1 Ret a1 k => q10_gain (iv_tc a1) k)
theorem g_wish (a : IV h S Im tp) (b : 103 ≤ h.1 ∧ h.1 ≤ B) (x1 x2 : Int32) : prI (mX9_wish g) (mX10_wish g) [.ref 0, .int x1, .int x2] [.ref 77, .int x1, .int x2] h (inv B) := pr_q _ a b (fun Ret k => q9_wish (iv_tc a) k) (fun h1 Ret a1 k => q10_wish (iv_tc a1) k)
/-! REPUBLIC -/
def s_rb (x : Int32) (D : rD) : Int32 := if x = 0 then nI (dH D) else if x = 1 then nI (dP D) else if x = 2 then rul D else -1000
def s_rep (x : Int32) (D : rD) : Int32 := if ¬ x < 10 ∧ ¬ 16 ≤ x then sp_wo D (x - 10) else if ¬ x < 20 ∧ ¬ 26 ≤ x then sp_mo D (x - 20) else s_rb x D
theorem rep_b {x : Int32} {P0 P1 P2 P3 : Prop} (h0 : x = 0 → P0) (h1 : x = 1 → P1) (h2 : x = 2 → P2) (h3 : ¬ x = 0 → ¬ x = 1 → ¬ x = 2 → P3) : (x = 0 → P0) ∧ (¬ x = 0 → ((x = 1 → P1) ∧ (¬ x = 1 → ((x = 2 → P2) ∧ (¬ x = 2 → P3))))) := ⟨h0, fun a => ⟨h1, fun b => ⟨h2, fun c => h3 a b c⟩⟩⟩
theorem s_rb0 {D : rD} : s_rb 0 D = nI (dH D) := by unfold s_rb; rw [if_pos rfl]
theorem s_rb1 {D : rD} : s_rb 1 D = nI (dP D) := by unfold s_rb; rw [if_neg (by decide), if_pos rfl]
theorem s_rb2 {D : rD} : s_rb 2 D = rul D := by unfold s_rb; rw [if_neg (by decide), if_neg (by decide), if_pos rfl]
theorem s_rb3 {D : rD} {x : Int32} (a : ¬ x = 0) (b : ¬ x = 1) (c : ¬ x = 2) : s_rb x D = -1000 := by unfold s_rb; rw [if_neg a, if_neg b, if_neg c]
theorem q9_republic {x1 x2 : Int32} (a : tc h z DD N C) (hq : ∀ h', ax_same cl_F h h' → Ret (some (.int (qv (z 0) DD x1 (-1000) (s_rep x2)))) h') : mX9_republic g [.ref 0, .int x1, .int x2] h Ret := by
  have z2 := a.2.2.2.2.1 0 (by decide)
  refine eX9_republic ⟨a.1.1, q_begun a (fun q => Or.inr ⟨rfl, ?_⟩) (fun k hk ex ok h' hs xs hc => Or.inl ⟨_, rfl, ?_⟩)⟩
  · have := hq h sm_rf; rwa [qv_no q] at this
  · have hv := hq h' hs
    rw [qv_yes z2 hk ex] at hv
    unfold s_rep at hv
    refine ⟨fun q => ⟨fun q2 => ?_, fun q2 => ⟨fun q3 => ?_, fun q3 => ⟨hc.1.1.1, c_modeOf hc.1 ⟨_, rfl, ?_⟩⟩⟩⟩, fun q => ⟨fun q1 => ⟨fun q2 => ?_, fun q2 => ⟨fun q3 => ?_, fun q3 => ⟨hc.1.1.1, c_modeOf hc.1 ⟨_, rfl, ?_⟩⟩⟩⟩, fun q1 => ⟨hc.1.1.1, c_worthOf hc.1 ⟨_, rfl, ?_⟩⟩⟩⟩
    · rw [if_neg (fun z => z.1 q), if_neg (fun z => z.1 q2)] at hv
      exact rep_b (fun e => ⟨hc.1.1.1, by rw [hc.1.2.2.1.1]; rw [e, s_rb0] at hv; exact hv⟩) (fun e => ⟨hc.1.1.1, by rw [hc.1.2.2.1.2]; rw [e, s_rb1] at hv; exact hv⟩) (fun e => ⟨xs.1, _, xs.2.1.2.2.2.1, hc.2.1.1.1, c_poorest hc.2.1 ⟨_, rfl, by rw [e, s_rb2] at hv; exact hv⟩⟩) (fun e0 e1 e2 => by rw [s_rb3 e0 e1 e2] at hv; exact hv)
    · rw [if_neg (fun z => z.1 q), if_neg (fun z => z.2 q3)] at hv
      exact rep_b (fun e => ⟨hc.1.1.1, by rw [hc.1.2.2.1.1]; rw [e, s_rb0] at hv; exact hv⟩) (fun e => ⟨hc.1.1.1, by rw [hc.1.2.2.1.2]; rw [e, s_rb1] at hv; exact hv⟩) (fun e => ⟨xs.1, _, xs.2.1.2.2.2.1, hc.2.1.1.1, c_poorest hc.2.1 ⟨_, rfl, by rw [e, s_rb2] at hv; exact hv⟩⟩) (fun e0 e1 e2 => by rw [s_rb3 e0 e1 e2] at hv; exact hv)
    · rw [if_neg (fun z => z.1 q), if_pos ⟨q2, q3⟩] at hv; exact hv
    · rw [if_neg (fun z => z.2 q1), if_neg (fun z => z.1 q2)] at hv
      exact rep_b (fun e => ⟨hc.1.1.1, by rw [hc.1.2.2.1.1]; rw [e, s_rb0] at hv; exact hv⟩) (fun e => ⟨hc.1.1.1, by rw [hc.1.2.2.1.2]; rw [e, s_rb1] at hv; exact hv⟩) (fun e => ⟨xs.1, _, xs.2.1.2.2.2.1, hc.2.1.1.1, c_poorest hc.2.1 ⟨_, rfl, by rw [e, s_rb2] at hv; exact hv⟩⟩) (fun e0 e1 e2 => by rw [s_rb3 e0 e1 e2] at hv; exact hv)
    · rw [if_neg (fun z => z.2 q1), if_neg (fun z => z.2 q3)] at hv
      exact rep_b (fun e => ⟨hc.1.1.1, by rw [hc.1.2.2.1.1]; rw [e, s_rb0] at hv; exact hv⟩) (fun e => ⟨hc.1.1.1, by rw [hc.1.2.2.1.2]; rw [e, s_rb1] at hv; exact hv⟩) (fun e => ⟨xs.1, _, xs.2.1.2.2.2.1, hc.2.1.1.1, c_poorest hc.2.1 ⟨_, rfl, by rw [e, s_rb2] at hv; exact hv⟩⟩) (fun e0 e1 e2 => by rw [s_rb3 e0 e1 e2] at hv; exact hv)
    · rw [if_neg (fun z => z.2 q1), if_pos ⟨q2, q3⟩] at hv; exact hv
    · rw [if_pos ⟨q, q1⟩] at hv; exact hv
/-- a number between two -/
theorem i_rng {x : Int32} {a b : Nat} (hb : b < 2 ^ 31) (ha : a ≤ b) (h1 : nI a ≤ x) (h2 : x ≤ nI b) : ∃ n, a ≤ n ∧ n ≤ b ∧ x = nI n := by
  rw [i_le, nI_toInt (by omega)] at h1
  rw [i_le, nI_toInt (by omega)] at h2
  refine ⟨x.toInt.toNat, by omega, by omega, i_inj ?_⟩
  rw [nI_toInt (by omega)]; omega
theorem ni_cs {a b n : Nat} : (OfNat.ofNat a : Int32) + nI (b + n) - OfNat.ofNat b = nI (a + n) := by
  have e1 := ni_c a (b + n)
  have e2 := ni_c b (a + n)
  rw [e1, show a + (b + n) = b + (a + n) by omega, ← e2]
  rw [Int32.sub_eq_add_neg, Int32.add_comm, ← Int32.add_assoc, Int32.add_left_neg, Int32.zero_add]
theorem ni_sb {b n : Nat} : nI (b + n) - OfNat.ofNat b = nI n := by
  rw [← ni_c b n]
  rw [Int32.sub_eq_add_neg, Int32.add_comm, ← Int32.add_assoc, Int32.add_left_neg, Int32.zero_add]
theorem wo_nI {D : rD} {k : Nat} (hk : k < 6) : sp_wo D (nI k) = dwo D k := by
  unfold sp_wo; rw [if_neg (by rintro (q | q); exact nI_pos (by omega) q; exact nI_ge (a := k) (b := 6) hk (by decide) q), nI_clamp (by omega)]
theorem mo_nI {D : rD} {k : Nat} (hk : k < 6) : sp_mo D (nI k) = dmo D k := by
  unfold sp_mo; rw [if_neg (by rintro (q | q); exact nI_pos (by omega) q; exact nI_ge (a := k) (b := 6) hk (by decide) q), nI_clamp (by omega)]
theorem q10_republic {x1 x2 : Int32} (a : tc h z DD N C) (hq : ∀ h', ax_same md_F h h' → Ret (some (.int (qv (z 0) DD x1 (-1000) (s_rep x2)))) h') : mX10_republic g [.ref 77, .int x1, .int x2] h Ret := by
  have z2 := a.2.2.2.2.1 0 (by decide)
  refine eX10_republic ⟨a.2.1.1, ?_⟩
  intro h1
  obtain ⟨a1, T1, hs1⟩ := q_code (v := 0) a.2.1 a.2.2.2.1
  refine ⟨a1.1, q_hand a1 T1 a.2.2.2.2 (fun q => ⟨_, rfl, fun q2 => absurd rfl q2, fun _ => ?_⟩) (fun k hk ex ok h' hs hm => ⟨_, rfl, fun _ => c_min ⟨_, rfl, ?_⟩, fun q => absurd q (by decide)⟩)⟩
  · have := hq _ hs1; rwa [qv_no q] at this
  · have hv := hq h' (sm_tr hs1 hs)
    rw [qv_yes z2 hk ex] at hv
    have mb := hm.1.1
    refine ⟨fun q => ?_, fun q => c_min ⟨_, rfl, fun q2 => c_min ⟨_, rfl, fun q3 => ?_, fun q3 => ?_⟩, fun q2 => ?_⟩⟩
    · obtain ⟨n, n1, n2, rfl⟩ := i_rng (a := 10) (b := 15) (by decide) (by decide) (of_decide_eq_true (b2i_n0.mp q)).1 (of_decide_eq_true (b2i_n0.mp q)).2
      obtain ⟨i, rfl⟩ := Nat.exists_eq_add_of_le n1
      refine ⟨fun q9 => absurd q9 (nI_ge (a := 10 + i) (b := 20) (by omega) (by decide)), fun _ => ⟨mb.1.1, c_mof (i := 8 + i) mb.1 mb.2.1 mb.2.2.2.1 (by omega) ni_cs ⟨_, rfl, ?_⟩⟩⟩
      rw [← Nat.add_assoc, mb.2.2.1.2.2.2.2.1 i (by omega)]
      unfold s_rep at hv
      rw [if_pos ⟨nI_nlt (b := 10) (by omega) (by omega), nI_ge (a := 10 + i) (b := 16) (by omega) (by decide)⟩, show nI (10 + i) - 10 = nI i from ni_sb, wo_nI (by omega)] at hv
      exact hv
    · have nb : ¬ (¬ x2 < 10 ∧ ¬ 16 ≤ x2) := fun w => of_decide_eq_false (b2i_0.mp q) ⟨nt_lt.mp w.1, by have := nt_le.mp w.2; rw [i_lt] at this; rw [i_le]; change x2.toInt < 16 at this; change x2.toInt ≤ 15; omega⟩
      have nc : ¬ (¬ x2 < 20 ∧ ¬ 26 ≤ x2) := fun w => of_decide_eq_false (b2i_0.mp q2) ⟨nt_lt.mp w.1, by have := nt_le.mp w.2; rw [i_lt] at this; rw [i_le]; change x2.toInt < 26 at this; change x2.toInt ≤ 25; omega⟩
      have n01 : ¬ x2 = 0 ∧ ¬ x2 = 1 := ⟨fun e => of_decide_eq_false (b2i_0.mp q3) (by rw [e]; decide), fun e => of_decide_eq_false (b2i_0.mp q3) (by rw [e]; decide)⟩
      unfold s_rep at hv
      rw [if_neg nb, if_neg nc] at hv
      refine ⟨fun q4 => ?_, fun q4 => ⟨mb.1.1, ?_⟩⟩
      · rw [s_rb3 n01.1 n01.2 q4] at hv; exact hv
      · rw [hm.2.2.2]; rw [q4, s_rb2] at hv; exact hv
    · obtain ⟨n, n1, n2, rfl⟩ := i_rng (a := 0) (b := 1) (by decide) (by decide) (of_decide_eq_true (b2i_n0.mp q3)).1 (of_decide_eq_true (b2i_n0.mp q3)).2
      refine ⟨mb.1.1, c_mof (i := n) mb.1 mb.2.1 mb.2.2.2.1 (by omega) rfl ⟨_, rfl, ?_⟩⟩
      unfold s_rep at hv
      rw [if_neg (fun w => w.1 (nI_lt (b := 10) (by omega) (by decide))), if_neg (fun w => w.1 (nI_lt (b := 20) (by omega) (by decide)))] at hv
      match n, n2 with
      | 0, _ => show Ret (some (.int (ax_i h' (77 + 6) (164 * k)))) h'; rw [mb.2.2.1.2.1, ← s_rb0]; exact hv
      | 1, _ => rw [mb.2.2.1.2.2.1, ← s_rb1]; exact hv
    · obtain ⟨n, n1, n2, rfl⟩ := i_rng (a := 20) (b := 25) (by decide) (by decide) (of_decide_eq_true (b2i_n0.mp q2)).1 (of_decide_eq_true (b2i_n0.mp q2)).2
      obtain ⟨i, rfl⟩ := Nat.exists_eq_add_of_le n1
      refine ⟨fun _ => ⟨mb.1.1, c_mof (i := 14 + i) mb.1 mb.2.1 mb.2.2.2.1 (by omega) ni_cs ⟨_, rfl, ?_⟩⟩, fun q9 => absurd (nI_le (a := 20) (b := 20 + i) (by omega) (by omega)) q9⟩
      rw [← Nat.add_assoc, mb.2.2.1.2.2.2.2.2.1 i (by omega)]
      unfold s_rep at hv
      rw [if_neg (fun w => w.2 (nI_le (a := 16) (by omega) (by omega))), if_pos ⟨nI_nlt (b := 20) (by omega) (by omega), nI_ge (a := 20 + i) (b := 26) (by omega) (by decide)⟩, show nI (20 + i) - 20 = nI i from ni_sb, mo_nI (by omega)] at hv
      exact hv
theorem g_republic (a : IV h S Im tp) (b : 103 ≤ h.1 ∧ h.1 ≤ B) (x1 x2 : Int32) : prI (mX9_republic g) (mX10_republic g) [.ref 0, .int x1, .int x2] [.ref 77, .int x1, .int x2] h (inv B) := pr_q _ a b (fun Ret k => q9_republic (iv_tc a) k) (fun h1 Ret a1 k => q10_republic (iv_tc a1) k)
end
