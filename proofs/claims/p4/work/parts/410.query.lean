section
/-! both sides at once: class at 0, what is told at 1, reference at 77 -/
def lW (s : Nat) : Nat := 1 + lm s * lw s
def tm_at (h : ax_H) (m σ : Nat) (z : Nat → Nat) (DD : Nat → rD) (N : Nat → Nat → Nat) (C : Nat → Nat → Nat → Nat → Int32) : Prop := (∀ s, s < 5 → ax_i h (m + 5) (5 * σ + s) = nI (z s)) ∧ (∀ k, k < z 0 → rm_at h m (328 * σ + 164 * k) (DD k)) ∧ ∀ s k, 1 ≤ s → s < 5 → k < z s → ax_i h (m + 6 + s) (2 * lW s * σ + lW s * k) = nI (N s k) ∧ ∀ i j, i < N s k → j < lw s → ax_i h (m + 6 + s) (2 * lW s * σ + lW s * k + 1 + lw s * i + j) = C s k i j
theorem tm_at_same {F : Nat → Prop} {h h' : ax_H} {m σ : Nat} {z : Nat → Nat} {DD : Nat → rD} {N : Nat → Nat → Nat} {C : Nat → Nat → Nat → Nat → Int32} (hs : ax_same F h h') (hF : ∀ j, j < 6 → ¬ F (m + 5 + j)) (a : tm_at h m σ z DD N C) : tm_at h' m σ z DD N C := by
  refine ⟨fun s h5 => by rw [(hs.2.2.2 _ (hF 0 (by decide))).1]; exact a.1 s h5, fun k hk => rm_at_same hs (hF 1 (by decide)) (a.2.1 k hk), fun s k h1 h5 hk => ?_⟩
  have e : ∀ j, ax_i h' (m + 6 + s) j = ax_i h (m + 6 + s) j := (hs.2.2.2 _ (by have := hF (1 + s) (by omega); rwa [show m + 5 + (1 + s) = m + 6 + s by omega] at this)).1
  exact ⟨by rw [e]; exact (a.2.2 s k h1 h5 hk).1, fun i j hi hj => by rw [e]; exact (a.2.2 s k h1 h5 hk).2 i j hi hj⟩
/-- the numbers of lines are of their ranges -/
def ln_ok (s n : Nat) (C : Nat → Nat → Int32) : Prop := n ≤ lm s ∧ ∀ i, i < n → match s with
  | 1 => ∃ a : Nat, a < 12 ∧ C i 0 = nI a
  | 2 => ∃ a b c : Nat, a < 6 ∧ b ≤ c ∧ c < 12 ∧ C i 0 = nI a ∧ C i 1 = nI b ∧ C i 2 = nI c
  | 3 => ∃ a b : Nat, a < 12 ∧ 1 ≤ b ∧ b < 10 ∧ C i 0 = nI a ∧ C i 1 = nI b
  | _ => ∃ a b : Nat, 1 ≤ a ∧ a < 4 ∧ b < 6 ∧ C i 0 = nI a ∧ C i 1 = nI b ∧ -999 ≤ (C i 2).toInt ∧ (C i 2).toInt ≤ 999
def tk (z : Nat → Nat) (DD : Nat → rD) (N : Nat → Nat → Nat) (C : Nat → Nat → Nat → Nat → Int32) : Prop := (∀ s, s < 5 → z s ≤ 2) ∧ (∀ k, k < z 0 → rd_ok (DD k)) ∧ ∀ s k, 1 ≤ s → s < 5 → k < z s → ln_ok s (N s k) (C s k)
/-- what the queries find -/
def tc (h : ax_H) (z : Nat → Nat) (DD : Nat → rD) (N : Nat → Nat → Nat) (C : Nat → Nat → Nat → Nat → Int32) : Prop := xs_st h ∧ mo_st h 77 ∧ to_at h 1 z DD N C ∧ tm_at h 77 0 z DD N C ∧ tk z DD N C
def cl_F : Nat → Prop := fun a => 52 ≤ a ∧ a ≤ 76
def md_F : Nat → Prop := fun a => a = 77 ∨ (90 ≤ a ∧ a ≤ 101)
def qF : Nat → Prop := fun a => cl_F a ∨ md_F a
theorem tc_same {h h' : ax_H} {z : Nat → Nat} {DD : Nat → rD} {N : Nat → Nat → Nat} {C : Nat → Nat → Nat → Nat → Int32} (hs : ax_same qF h h') (a : tc h z DD N C) : tc h' z DD N C := ⟨xs_st_same hs a.1, mo_st_same hs a.2.1, to_at_same hs (fun x hx q => by unfold qF cl_F md_F at hx; unfold to_F at q; omega) a.2.2.1, tm_at_same hs (fun j hj q => by unfold qF cl_F md_F at q; omega) a.2.2.2.1, a.2.2.2.2⟩
/-- who rules first -/
def rul (D : rD) : Int32 := sp_po (dP D) (dpu D)
/-- the class with a republic in hand -/
def hc_at (h : ax_H) (k : Nat) (D : rD) : Prop := rc_at h (6 + 14 * k) D ∧ co_at h 52 (dP D) (dH D) (dpu D) (sp_vl D) ∧ od_at h 55 (dH D) (sp_w D (rul D)) (sp_t D (rul D))
/-- the reference with a republic in hand -/
def hm_at (h : ax_H) (k : Nat) (D : rD) : Prop := mc_at h 77 k D (dmo D) (dpu D) (sp_vl D) ∧ mw_at h 77 (dH D) (sp_w D (rul D)) (sp_t D (rul D)) (rul D)
variable {g : ax_G} {Ret : Option Value → ax_H → Prop} {h : ax_H} {z : Nat → Nat} {DD : Nat → rD} {N : Nat → Nat → Nat} {C : Nat → Nat → Nat → Nat → Int32}
theorem q_begun {x : Int32} (a : tc h z DD N C) (h0 : sp_in x (z 0) = false → Ret (some .null) h) (h1 : ∀ k, k < z 0 → x = nI k → rd_ok (DD k) → ∀ h', ax_same cl_F h h' → xs_st h' → hc_at h' k (DD k) → Ret (some (.ref (6 + 14 * k))) h') : mX9_begun g [.ref 0, .int x] h Ret :=
  c_begun a.1 a.2.2.1 h0 (fun k hk ex h' hs r c o => h1 k hk ex (a.2.2.2.2.2.1 k hk) h' (sm_mono hs (fun x hx => by unfold bg_F at hx; unfold cl_F; omega)) (xs_st_same hs a.1) ⟨r, c, o⟩)
theorem rd_de_of {D : rD} (a : rd_ok D) : rd_de D := a.2.2.2.2.2.1
theorem q_hand {x : Int32} (a : mo_st h 77) (T : tm_at h 77 0 z DD N C) (K : tk z DD N C) (h0 : sp_in x (z 0) = false → Ret (some (.int 0)) h) (h1 : ∀ k, k < z 0 → x = nI k → rd_ok (DD k) → ∀ h', ax_same md_F h h' → hm_at h' k (DD k) → Ret (some (.int 1)) h') : mX10_hand g [.ref 77, .int x] h Ret := by
  refine c_mhand (n := z 0) (DD := DD) a (K.1 0 (by decide)) (T.1 0 (by decide)) (fun ρ hρ => ⟨by have := T.2.1 ρ hρ; rwa [Nat.mul_zero, Nat.zero_add] at this, rd_de_of (K.2.1 ρ hρ)⟩) h0 (fun ρ hρ ex h' hs c w => ?_)
  have ok := K.2.1 ρ hρ
  refine h1 ρ hρ ex ok h' (sm_mono hs.1 (fun x hx => ?_)) ⟨⟨c.1, c.2.1, c.2.2.1, fun p q hp hq => ?_⟩, w⟩
  · unfold hd_F at hx; unfold md_F; omega
  · rw [c.2.2.2 p q hp hq]
    exact vb_vl (rd_de_of ok) hp hq ok.1.2 ok.2.1 ok.2.2.2.1
/-- the reference's first step in each method -/
theorem q_code {v : Int32} (a : mo_st h 77) (T : tm_at h 77 0 z DD N C) : mo_st (ax_pi h 77 0 v) 77 ∧ tm_at (ax_pi h 77 0 v) 77 0 z DD N C ∧ ax_same md_F h (ax_pi h 77 0 v) := by
  have hs : ax_same md_F h (ax_pi h 77 0 v) := sm_pi (Or.inl rfl)
  exact ⟨mo_st_same hs a, tm_at_same hs (fun j hj q => by unfold md_F at q; omega) T, hs⟩
theorem c_misOne {m ρ : Nat} {D : rD} {mo : Nat → Int32} {x : Int32} (b : mb_at h m ρ D mo) (hq : Ret (some (.int (b2i (sp_in x (dP D))))) h) : mX10_isOne g [.ref m, .int x] h Ret := by
  refine eX10_isOne ⟨b.1.1, ?_⟩
  rw [b.2.2.2.2.2.1]
  exact c_minN (by have := b.2.2.1.1.2; omega) ⟨_, rfl, b01, hq⟩
theorem c_misHour {m ρ : Nat} {D : rD} {mo : Nat → Int32} {x : Int32} (b : mb_at h m ρ D mo) (hq : Ret (some (.int (b2i (sp_in x (dH D))))) h) : mX10_isHour g [.ref m, .int x] h Ret := by
  refine eX10_isHour ⟨b.1.1, ?_⟩
  rw [b.2.2.2.2.1]
  exact c_minN (by have := b.2.2.1.1.1; omega) ⟨_, rfl, b01, hq⟩
theorem q_handOne {x y : Int32} (a : mo_st h 77) (T : tm_at h 77 0 z DD N C) (K : tk z DD N C) (h0 : ∀ h', ax_same md_F h h' → (∀ k, k < z 0 → x = nI k → sp_in y (dP (DD k)) = false) → Ret (some (.int 0)) h') (h1 : ∀ k p, k < z 0 → x = nI k → rd_ok (DD k) → p < dP (DD k) → y = nI p → ∀ h', ax_same md_F h h' → hm_at h' k (DD k) → Ret (some (.int 1)) h') : mX10_handOne g [.ref 77, .int x, .int y] h Ret := by
  refine eX10_handOne ⟨a.1, q_hand a T K (fun q => ⟨_, rfl, fun _ => ⟨Or.inl rfl, h0 h sm_rf (fun k hk ex => ?_)⟩, fun q2 => absurd rfl q2⟩) (fun k hk ex ok h' hs hm => ⟨_, rfl, fun q => absurd q (by decide), fun _ => ⟨hm.1.1.1.1, c_misOne hm.1.1 ⟨_, rfl, fun q => ⟨Or.inl rfl, h0 h' hs (fun k2 hk2 ex2 => ?_)⟩, fun q => ⟨Or.inr rfl, ?_⟩⟩⟩⟩)⟩
  · rw [ex, sp_in_nI (by have := K.1 0 (by decide); omega) hk] at q; cases q
  · have : k2 = k := (nI_eq (by have := K.1 0 (by decide); omega) (by have := K.1 0 (by decide); omega)).mp (ex2.symm.trans ex)
    subst this
    exact b2i_0.mp q
  · obtain ⟨p, hp, ep⟩ := sp_in_ix (by have := ok.2.1; omega) (b2i_n0.mp q)
    exact h1 k p hk ex ok hp ep h' hs hm
end
