section
variable {g : ax_G} {Ret : Option Value → ax_H → Prop} {h : ax_H} {S : sT} {Im : Nat → Option sT}
theorem rm_moved {h' : ax_H} {B B' : Nat} {D : rD} (e : ∀ o, o < 164 → ax_i h' 83 (B' + o) = ax_i h 83 (B + o)) (a : rm_at h 77 B D) : rm_at h' 77 B' D := by
  obtain ⟨⟨b1, b2⟩, a1, a2, a3, a4, a5, a6, a7⟩ := a
  have c : ∀ x y o : Nat, o < 164 → x = B' + o → y = B + o → ax_i h' (77 + 6) x = ax_i h (77 + 6) y := fun x y o ho h1 h2 => by rw [h1, h2]; exact e o ho
  exact ⟨⟨b1, b2⟩, (c _ _ 0 (by omega) rfl rfl).trans a1, (c _ _ 1 (by omega) rfl rfl).trans a2, fun p hp => (c _ (B + 2 + p) (2 + p) (by omega) (by omega) (by omega)).trans (a3 p hp), fun k hk => (c _ (B + 8 + k) (8 + k) (by omega) (by omega) (by omega)).trans (a4 k hk), fun k hk => (c _ (B + 14 + k) (14 + k) (by omega) (by omega) (by omega)).trans (a5 k hk), fun p q hp hq => (c _ (B + 20 + 12 * p + q) (20 + 12 * p + q) (by omega) (by omega) (by omega)).trans (a6 p q hp hq), fun p q hp hq => (c _ (B + 92 + 12 * p + q) (92 + 12 * p + q) (by omega) (by omega) (by omega)).trans (a7 p q hp hq)⟩
theorem lW_rwl {s : Nat} (h1 : 1 ≤ s) (h5 : s < 5) : 2 * lW s = rwl (6 + s) ∧ lm s * lw s + 1 = lW s := by
  match s, h1, h5 with
  | 1, _, _ => decide
  | 2, _, _ => decide
  | 3, _, _ => decide
  | 4, _, _ => decide
/-- part σ of all rows is told anew as part τ -/
theorem ml_moved {σ τ : Nat} {h' : ax_H} (zb : ∀ s, s < 5 → s_z S s ≤ 2) (nb : ∀ s k, 1 ≤ s → s < 5 → k < s_z S s → s_N S s k ≤ lm s) (c : ∀ j, 1 ≤ j → j ≤ 10 → ∀ k, k < rwl j → ax_i h' (77 + j) (rwl j * τ + k) = ax_i h (77 + j) (rwl j * σ + k)) (a : ml_at h 77 σ S) : ml_at h' 77 τ S := by
  obtain ⟨⟨a1, a2, a3⟩, a4, a5, a6, a7⟩ := a
  have c1 : ∀ k, k < 600 → ax_i h' 78 (600 * τ + k) = ax_i h 78 (600 * σ + k) := c 1 (by decide) (by decide)
  have c2 : ax_i h' 79 τ = ax_i h 79 σ := by have := c 2 (by decide) (by decide) 0 (by decide); rwa [show rwl 2 = 1 from rfl, Nat.one_mul, Nat.one_mul] at this
  have c3 : ax_i h' 80 τ = ax_i h 80 σ := by have := c 3 (by decide) (by decide) 0 (by decide); rwa [show rwl 3 = 1 from rfl, Nat.one_mul, Nat.one_mul] at this
  have c4 : ax_i h' 81 τ = ax_i h 81 σ := by have := c 4 (by decide) (by decide) 0 (by decide); rwa [show rwl 4 = 1 from rfl, Nat.one_mul, Nat.one_mul] at this
  have c5 : ∀ k, k < 5 → ax_i h' 82 (5 * τ + k) = ax_i h 82 (5 * σ + k) := c 5 (by decide) (by decide)
  have c6 : ∀ k, k < 328 → ax_i h' 83 (328 * τ + k) = ax_i h 83 (328 * σ + k) := c 6 (by decide) (by decide)
  refine ⟨⟨fun s hs => (c5 s hs).trans (a1 s hs), fun k hk => rm_moved (fun o ho => ?_) (a2 k hk), fun s k h1 h5 hk => ?_⟩, c2.trans a4, c3.trans a5, c4.trans a6, fun i hi => (c1 i hi).trans (a7 i hi)⟩
  · have z0 := zb 0 (by decide)
    rw [Nat.add_assoc, Nat.add_assoc]
    exact c6 (164 * k + o) (by omega)
  · obtain ⟨e1, e2⟩ := lW_rwl h1 h5
    have z := zb s h5
    have hn := nb s k h1 h5 hk
    obtain ⟨b1, b2⟩ := a3 s k h1 h5 hk
    have c7 : ∀ o, o < 2 * lW s → ax_i h' (77 + 6 + s) (2 * lW s * τ + o) = ax_i h (77 + 6 + s) (2 * lW s * σ + o) := by
      intro o ho
      have := c (6 + s) (by omega) (by omega) o (by omega)
      rw [← e1] at this
      rw [show 77 + 6 + s = 77 + (6 + s) by omega]
      exact this
    have hw : lW s * k + lW s ≤ 2 * lW s := by
      have : lW s * (k + 1) ≤ lW s * 2 := Nat.mul_le_mul_left _ (by omega)
      rw [Nat.mul_succ] at this
      omega
    refine ⟨(c7 (lW s * k) (by omega)).trans b1, fun i j hi hj => ?_⟩
    have hlt : lw s * i + j < lm s * lw s := by
      have : lw s * (i + 1) ≤ lw s * lm s := Nat.mul_le_mul_left _ (by omega)
      rw [Nat.mul_succ, Nat.mul_comm (lw s) (lm s)] at this
      omega
    have := c7 (lW s * k + 1 + lw s * i + j) (by omega)
    rw [show 2 * lW s * τ + lW s * k + 1 + lw s * i + j = 2 * lW s * τ + (lW s * k + 1 + lw s * i + j) by omega, this, show 2 * lW s * σ + (lW s * k + 1 + lw s * i + j) = 2 * lW s * σ + lW s * k + 1 + lw s * i + j by omega]
    exact b2 i j hi hj
theorem tk_nb {S : sT} (ok : s_ok S) : (∀ s, s < 5 → s_z S s ≤ 2) ∧ ∀ s k, 1 ≤ s → s < 5 → k < s_z S s → s_N S s k ≤ lm s := ⟨ok.1.1, fun s k h1 h5 hk => (ok.1.2.2 s k h1 h5 hk).1⟩
/-- the other parts stay -/
theorem ml_other {σ τ ρ : Nat} {h' : ax_H} (ok : s_ok S) (c : ∀ j, 1 ≤ j → j ≤ 10 → cpj σ τ h h' j) (hne : ρ ≠ τ) (a : ml_at h 77 ρ S) : ml_at h' 77 ρ S := by
  refine ml_moved (tk_nb ok).1 (tk_nb ok).2 (fun j j1 j2 k hk => (c j j1 j2).2 _ (fun q => ?_)) a
  rcases Nat.lt_or_ge ρ τ with z | z
  · have : rwl j * (ρ + 1) ≤ rwl j * τ := Nat.mul_le_mul_left _ z
    rw [Nat.mul_succ] at this
    omega
  · have : rwl j * (τ + 1) ≤ rwl j * ρ := Nat.mul_le_mul_left _ (by omega)
    rw [Nat.mul_succ] at this
    omega
theorem q10_image {x : Int32} (a : mi_at h S Im) (ok : s_ok S) (iok : im_ok Im) (hno : (x < 0 ∨ 3 ≤ x) → ∀ h', ax_same md_F h h' → Ret (some (.int 0)) h') (hq : ∀ k, k < 3 → x = nI k → ∀ h', ax_same (fun b => 77 ≤ b ∧ b ≤ 102) h h' → mi_at h' S (im_set Im k S) → Ret (some (.int 1)) h') : mX10_image g [.ref 77, .int x] h Ret := by
  have hs1 : ax_same md_F h (ax_pi h 77 0 0) := sm_pi (Or.inl rfl)
  have a1 := mi_md hs1 a
  refine eX10_image ⟨a.1.1, ?_⟩
  revert hs1 a1
  generalize ax_pi h 77 0 0 = h1
  intro hs1 a1
  have hs0 : ax_same (fun b => 77 ≤ b ∧ b ≤ 102) h h1 := sm_mono hs1 (fun x hx => by unfold md_F at hx; omega)
  rw [show (2 : Int32) = nI 3 - 1 from rfl]
  refine c_minN (by decide) ⟨_, rfl, fun q => ?_, fun q => ⟨Or.inl rfl, ?_⟩⟩
  · obtain ⟨k, hk, rfl⟩ := sp_in_ix (by decide) (b2i_n0.mp q)
    obtain ⟨m1, ml, mk⟩ := id a1
    refine ⟨m1.1, ?_⟩
    rw [← nI_succ]
    refine c_mcopyAll (σ := 0) (τ := k + 1) m1 (by decide) (by omega) (by omega) (fun i hi => by rw [show ax_i h1 78 (600 * 0 + i) = s_t S i from ml.2.2.2.2 i hi]; exact ok.2.2 i hi) (fun h5 s5 c5 => ⟨rfl, ?_⟩)
    have m5 := mo_st_same s5 m1
    obtain ⟨r58, s58⟩ : ax_r h5 77 58 = some 102 ∧ ax_s h5 102 = (13, 3) := m5.2 24 _ rfl
    refine ⟨m5.1, _, r58, Or.inr rfl, sh_k s58, by rw [s58]; exact vp_in_nI hk (by decide), Or.inr rfl, ?_⟩
    rw [nI_clamp (by omega)]
    have hp : ax_same (fun b => b = 102) h5 (ax_pi h5 102 k 1) := sm_pi rfl
    have gp : ag (fun b => b ≠ 102) h5 (ax_pi h5 102 k 1) := ag_same hp (fun x hx => hx)
    refine hq k hk rfl _ (sm_tr hs0 (sm_tr (sm_mono s5 (fun x hx => by omega)) (sm_mono hp (fun x hx => by omega)))) ⟨mo_st_same hp m5, ml_at_ag gp (fun j h1 h2 => by omega) (ml_other ok c5 (by omega) ml), fun j hj => ?_⟩
    unfold im_set
    by_cases e : j = k
    · subst e
      rw [if_pos rfl]
      refine ⟨fun z => (by cases z), fun S' z => ?_⟩
      cases z
      exact ⟨ai_eq, ml_at_ag gp (fun j h1 h2 => by omega) (ml_moved (tk_nb ok).1 (tk_nb ok).2 (fun i i1 i2 => (c5 i i1 i2).1) ml)⟩
    · rw [if_neg e]
      have e102 : ax_i (ax_pi h5 102 k 1) 102 j = ax_i h1 102 j := by rw [ai_ne (by omega), (s5.2.2.2 102 (by omega)).1]
      refine ⟨fun z => by rw [e102]; exact (mk j hj).1 z, fun S' z => ?_⟩
      obtain ⟨d1, d2⟩ := (mk j hj).2 S' z
      exact ⟨by rw [e102]; exact d1, ml_at_ag gp (fun j h1 h2 => by omega) (ml_other (iok j S' hj z) c5 (by omega) d2)⟩
  · refine hno ?_ h1 hs1
    have q := of_decide_eq_false (b2i_0.mp q)
    rcases (show x < 0 ∨ ¬ x < 0 from Decidable.em _) with z | z
    · exact Or.inl z
    · exact Or.inr (nt_lt.mp (fun w => q ⟨nt_lt.mp z, w⟩))
theorem q10_again {x : Int32} (a : mi_at h S Im) (ok : s_ok S) (iok : im_ok Im) (hno : ((x < 0 ∨ 3 ≤ x) ∨ ∃ k, k < 3 ∧ x = nI k ∧ Im k = none) → ∀ h', ax_same md_F h h' → Ret (some (.int 0)) h') (hq : ∀ k S', k < 3 → x = nI k → Im k = some S' → ∀ h', ax_same (fun b => 77 ≤ b ∧ b ≤ 102) h h' → mi_at h' S' Im → Ret (some (.int 1)) h') : mX10_again g [.ref 77, .int x] h Ret := by
  have hs1 : ax_same md_F h (ax_pi h 77 0 0) := sm_pi (Or.inl rfl)
  have a1 := mi_md hs1 a
  refine eX10_again ⟨a.1.1, ?_⟩
  revert hs1 a1
  generalize ax_pi h 77 0 0 = h1
  intro hs1 a1
  have hs0 : ax_same (fun b => 77 ≤ b ∧ b ≤ 102) h h1 := sm_mono hs1 (fun x hx => by unfold md_F at hx; omega)
  rw [show (2 : Int32) = nI 3 - 1 from rfl]
  refine c_minN (by decide) ⟨_, rfl, fun q => ⟨Or.inl rfl, ?_⟩, fun q => ?_⟩
  · refine hno (Or.inl ?_) h1 hs1
    have q := of_decide_eq_false (b2i_0.mp q)
    rcases (show x < 0 ∨ ¬ x < 0 from Decidable.em _) with z | z
    · exact Or.inl z
    · exact Or.inr (nt_lt.mp (fun w => q ⟨nt_lt.mp z, w⟩))
  · obtain ⟨k, hk, rfl⟩ := sp_in_ix (by decide) (b2i_n0.mp q)
    obtain ⟨m1, ml, mk⟩ := id a1
    obtain ⟨r58, s58⟩ : ax_r h1 77 58 = some 102 ∧ ax_s h1 102 = (13, 3) := m1.2 24 _ rfl
    refine ⟨m1.1, _, r58, sh_k s58, by rw [s58]; exact vp_in_nI hk (by decide), fun z => ⟨m1.1, ?_⟩, fun z => ⟨Or.inl rfl, ?_⟩⟩
    · rw [nI_clamp (by omega)] at z
      cases hI : Im k with
      | none => exact absurd ((mk k hk).1 hI) z
      | some S' =>
        obtain ⟨d1, d2⟩ := (mk k hk).2 S' hI
        have ok' := iok k S' hk hI
        rw [← nI_succ]
        refine c_mcopyAll (σ := k + 1) (τ := 0) m1 (by omega) (by decide) (by omega) (fun i hi => by rw [show ax_i h1 78 (600 * (k + 1) + i) = s_t S' i from d2.2.2.2.2 i hi]; exact ok'.2.2 i hi) (fun h5 s5 c5 => ⟨rfl, Or.inr rfl, ?_⟩)
        have e102 : ∀ j, ax_i h5 102 j = ax_i h1 102 j := (s5.2.2.2 102 (by omega)).1
        refine hq k S' hk rfl hI h5 (sm_tr hs0 (sm_mono s5 (fun x hx => by omega))) ⟨mo_st_same s5 m1, ml_moved (tk_nb ok').1 (tk_nb ok').2 (fun i i1 i2 => (c5 i i1 i2).1) d2, fun j hj => ⟨fun z => by rw [e102]; exact (mk j hj).1 z, fun S'' z => ?_⟩⟩
        obtain ⟨f1, f2⟩ := (mk j hj).2 S'' z
        exact ⟨by rw [e102]; exact f1, ml_other (iok j S'' hj z) c5 (by omega) f2⟩
    · rw [nI_clamp (by omega)] at z
      refine hno (Or.inr ⟨k, hk, rfl, ?_⟩) h1 hs1
      cases hI : Im k with
      | none => rfl
      | some S' =>
        rw [show ax_i h1 102 k = 1 from ((mk k hk).2 S' hI).1] at z
        exact absurd z (by decide)
end
