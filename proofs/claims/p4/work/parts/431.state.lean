section
/-! what is told, whole: length and bytes of the tape, fault, its place, how many of each sort, republics, lines -/
abbrev sT : Type := Nat × (Nat → Int32) × Int32 × Int32 × (Nat → Nat) × (Nat → rD) × (Nat → Nat → Nat) × (Nat → Nat → Nat → Nat → Int32)
def s_n (S : sT) : Nat := S.1
def s_t (S : sT) : Nat → Int32 := S.2.1
def s_f (S : sT) : Int32 := S.2.2.1
def s_p (S : sT) : Int32 := S.2.2.2.1
def s_z (S : sT) : Nat → Nat := S.2.2.2.2.1
def s_D (S : sT) : Nat → rD := S.2.2.2.2.2.1
def s_N (S : sT) : Nat → Nat → Nat := S.2.2.2.2.2.2.1
def s_C (S : sT) : Nat → Nat → Nat → Nat → Int32 := S.2.2.2.2.2.2.2
def s_ok (S : sT) : Prop := tk (s_z S) (s_D S) (s_N S) (s_C S) ∧ s_n S ≤ 600 ∧ ∀ i, i < 600 → fits .byte (.int (s_t S i)) = true
/-- as the class has it, at t -/
def tl_at (h : ax_H) (t : Nat) (S : sT) : Prop := to_at h t (s_z S) (s_D S) (s_N S) (s_C S) ∧ ax_i h t 4 = nI (s_n S) ∧ ax_i h t 5 = s_f S ∧ ax_i h t 6 = s_p S ∧ (∀ i, i < 600 → ax_i h (t + 1) i = s_t S i) ∧ ax_r h (t + 4) 0 = none ∧ ax_r h (t + 4) 1 = none
/-- as the reference has it, at m, of row σ -/
def ml_at (h : ax_H) (m σ : Nat) (S : sT) : Prop := tm_at h m σ (s_z S) (s_D S) (s_N S) (s_C S) ∧ ax_i h (m + 2) σ = nI (s_n S) ∧ ax_i h (m + 3) σ = s_f S ∧ ax_i h (m + 4) σ = s_p S ∧ ∀ i, i < 600 → ax_i h (m + 1) (600 * σ + i) = s_t S i
theorem to_at_ag {P : Nat → Prop} {h h' : ax_H} {t : Nat} {z : Nat → Nat} {DD : Nat → rD} {N : Nat → Nat → Nat} {C : Nat → Nat → Nat → Nat → Int32} (s : ag P h h') (i : ∀ b, t ≤ b → b < t + 33 → P b) (a : to_at h t z DD N C) : to_at h' t z DD N C := by
  obtain ⟨a1, a2, a3, a4⟩ := a
  refine ⟨to_st_ag s i a1, fun q hq => ⟨(a2 q hq).1, by rw [(s (t + 2) (i _ (by omega) (by omega))).2.1]; exact (a2 q hq).2⟩, fun k hk => rc_at_ag s (fun j hj => i _ (by omega) ?_) (a3 k hk), fun q k h1 h5 hk => li_at_ag s ⟨i _ (by unfold lnp; omega) ?_, i _ (by unfold lnp; omega) ?_⟩ (a4 q k h1 h5 hk)⟩
  · have := (a2 0 (by decide)).1; omega
  · have := (a2 q h5).1; unfold lnp; omega
  · have := (a2 q h5).1; unfold lnp; omega
theorem tl_at_ag {P : Nat → Prop} {h h' : ax_H} {t : Nat} {S : sT} (s : ag P h h') (i : ∀ b, t ≤ b → b < t + 33 → P b) (a : tl_at h t S) : tl_at h' t S := by
  obtain ⟨a1, a2, a3, a4, a5, a6, a7⟩ := a
  have e0 := s t (i t (by omega) (by omega))
  have e4 := s (t + 4) (i _ (by omega) (by omega))
  exact ⟨to_at_ag s i a1, by rw [e0.2.1]; exact a2, by rw [e0.2.1]; exact a3, by rw [e0.2.1]; exact a4, fun q hq => by rw [(s (t + 1) (i _ (by omega) (by omega))).2.1]; exact a5 q hq, by rw [e4.2.2.2]; exact a6, by rw [e4.2.2.2]; exact a7⟩
theorem rm_at_ag {P : Nat → Prop} {h h' : ax_H} {m B : Nat} {D : rD} (s : ag P h h') (i : P (m + 6)) (a : rm_at h m B D) : rm_at h' m B D := by
  have e := (s _ i).2.1
  unfold rm_at
  simp only [e]
  exact a
theorem tm_at_ag {P : Nat → Prop} {h h' : ax_H} {m σ : Nat} {z : Nat → Nat} {DD : Nat → rD} {N : Nat → Nat → Nat} {C : Nat → Nat → Nat → Nat → Int32} (s : ag P h h') (i : ∀ j, j < 6 → P (m + 5 + j)) (a : tm_at h m σ z DD N C) : tm_at h' m σ z DD N C := by
  refine ⟨fun q h5 => by rw [(s _ (i 0 (by decide))).2.1]; exact a.1 q h5, fun k hk => rm_at_ag s (i 1 (by decide)) (a.2.1 k hk), fun q k h1 h5 hk => ?_⟩
  have e : ∀ j, ax_i h' (m + 6 + q) j = ax_i h (m + 6 + q) j := (s _ (by have := i (1 + q) (by omega); rwa [show m + 5 + (1 + q) = m + 6 + q by omega] at this)).2.1
  exact ⟨by rw [e]; exact (a.2.2 q k h1 h5 hk).1, fun x j hi hj => by rw [e]; exact (a.2.2 q k h1 h5 hk).2 x j hi hj⟩
theorem ml_at_ag {P : Nat → Prop} {h h' : ax_H} {m σ : Nat} {S : sT} (s : ag P h h') (i : ∀ j, 1 ≤ j → j ≤ 10 → P (m + j)) (a : ml_at h m σ S) : ml_at h' m σ S := by
  obtain ⟨a1, a2, a3, a4, a5⟩ := a
  exact ⟨tm_at_ag s (fun j hj => by have := i (5 + j) (by omega) (by omega); rwa [← Nat.add_assoc] at this) a1, by rw [(s _ (i 2 (by decide) (by decide))).2.1]; exact a2, by rw [(s _ (i 3 (by decide) (by decide))).2.1]; exact a3, by rw [(s _ (i 4 (by decide) (by decide))).2.1]; exact a4, fun q hq => by rw [(s _ (i 1 (by decide) (by decide))).2.1]; exact a5 q hq⟩
theorem mo_st_ag {P : Nat → Prop} {h h' : ax_H} {m : Nat} (s : ag P h h') (i : ∀ j, j < 26 → P (m + j)) (a : mo_st h m) : mo_st h' m := by
  have e0 := s m (i 0 (by decide))
  exact ⟨by rw [e0.1]; exact a.1, fun j q hj => ⟨by rw [e0.2.2.2]; exact (a.2 j q hj).1, by rw [(s (m + 1 + j) (by have := i (1 + j) (by have := (mo_lt hj).1; omega); rwa [← Nat.add_assoc] at this)).1]; exact (a.2 j q hj).2⟩⟩
theorem xs_st_ag {P : Nat → Prop} {h h' : ax_H} (s : ag P h h') (i : ∀ b, b < 77 → P b) (a : xs_st h) : xs_st h' := by
  obtain ⟨a1, ⟨b0, b1, b2, b3, b4, b5, b6, b7, b8⟩, c1, c2, c3, c4⟩ := a
  have e0 := s 0 (i 0 (by decide))
  exact ⟨by rw [e0.1]; exact a1, ⟨by rw [e0.2.2.2]; exact b0, by rw [e0.2.2.2]; exact b1, by rw [e0.2.2.2]; exact b2, by rw [e0.2.2.2]; exact b3, by rw [e0.2.2.2]; exact b4, by rw [e0.2.2.2]; exact b5, by rw [e0.2.2.2]; exact b6, by rw [e0.2.2.2]; exact b7, by rw [e0.2.2.2]; exact b8⟩, co_st_ag s ⟨i _ (by decide), i _ (by decide), i _ (by decide)⟩ c1, od_st_ag s ⟨i _ (by decide), i _ (by decide)⟩ c2, od_st_ag s ⟨i _ (by decide), i _ (by decide)⟩ c3, by rw [(s 76 (i _ (by decide))).1]; exact c4⟩
theorem cs_st_ag {P : Nat → Prop} {h h' : ax_H} (s : ag P h h') (i : ∀ b, b < 77 → P b) (a : cs_st h) : cs_st h' := by
  obtain ⟨a1, a2, a3, a4, a5, a6, a7, a8⟩ := a
  exact ⟨xs_st_ag s i a1, to_st_ag s (fun b _ hb => i b (by omega)) a2, re_n_ag s (fun j hj => i _ (by omega)) (fun q h1 h2 => ⟨i _ (by omega), i _ (by omega)⟩) a3, pl_st_ag s (fun j hj => i _ (by omega)) a4, se_n_ag s (fun j hj => i _ (by omega)) a5, by rw [(s 34 (i _ (by decide))).1]; exact a6, by rw [(s 5 (i _ (by decide))).2.2.2]; exact a7, by rw [(s 5 (i _ (by decide))).2.2.2]; exact a8⟩
/-- what stays where only ints and longs of cells of F were written -/
theorem re_st_same {F : Nat → Prop} {h h' : ax_H} {r tp : Nat} (s : ax_same F h h') (i : ∀ q, 1 ≤ q → q < 5 → ¬ F (r + 7 + 2 * q)) (a : re_st h r tp) : re_st h' r tp := by
  obtain ⟨a1, ⟨b1, b2, b3, b4⟩, c1, c2, c3, c4, d⟩ := a
  exact ⟨by rw [s.2.1]; exact a1, ⟨by rw [s.2.2.1]; exact b1, by rw [s.2.2.1]; exact b2, by rw [s.2.2.1]; exact b3, by rw [s.2.2.1]; exact b4⟩, rc_st_same s c1, by rw [s.2.1]; exact c2, by rw [s.2.1]; exact c3, by rw [s.2.2.1]; exact c4, fun q h1 hq => ⟨by rw [s.2.2.1]; exact (d q h1 hq).1, li_st_same s (i q h1 hq) (d q h1 hq).2⟩⟩
/-! the whole state: what is told, its images -/
def ci_at (h : ax_H) (S : sT) (Im : Nat → Option sT) (tp : Nat → Nat) : Prop := cs_st h ∧ tl_at h 1 S ∧ (∀ k, k < 3 → (Im k = none → ax_r h 34 k = none) ∧ ∀ S', Im k = some S' → ax_r h 34 k = some (tp k) ∧ 103 ≤ tp k ∧ tp k + 33 ≤ h.1 ∧ tl_at h (tp k) S') ∧ ∀ j k, j < 3 → k < 3 → j ≠ k → Im j ≠ none → Im k ≠ none → tp j + 33 ≤ tp k ∨ tp k + 33 ≤ tp j
def mi_at (h : ax_H) (S : sT) (Im : Nat → Option sT) : Prop := mo_st h 77 ∧ ml_at h 77 0 S ∧ ∀ k, k < 3 → (Im k = none → ax_i h 102 k = 0) ∧ ∀ S', Im k = some S' → ax_i h 102 k = 1 ∧ ml_at h 77 (k + 1) S'
def im_ok (Im : Nat → Option sT) : Prop := ∀ k S', k < 3 → Im k = some S' → s_ok S'
theorem ci_ag {P : Nat → Prop} {h h' : ax_H} {S : sT} {Im : Nat → Option sT} {tp : Nat → Nat} (s : ag P h h') (i : ∀ b, b < 77 ∨ 103 ≤ b → P b) (hn : h.1 ≤ h'.1) (a : ci_at h S Im tp) : ci_at h' S Im tp := by
  obtain ⟨a1, a2, a3, a4⟩ := a
  refine ⟨cs_st_ag s (fun b hb => i b (by omega)) a1, tl_at_ag s (fun b _ hb => i b (by omega)) a2, fun k hk => ⟨fun e => by rw [(s 34 (i _ (by omega))).2.2.2]; exact (a3 k hk).1 e, fun S' e => ?_⟩, a4⟩
  obtain ⟨b1, b2, b3, b4⟩ := (a3 k hk).2 S' e
  exact ⟨by rw [(s 34 (i _ (by omega))).2.2.2]; exact b1, b2, by omega, tl_at_ag s (fun b h1 _ => i b (by omega)) b4⟩
theorem mi_ag {P : Nat → Prop} {h h' : ax_H} {S : sT} {Im : Nat → Option sT} (s : ag P h h') (i : ∀ b, 77 ≤ b → b ≤ 102 → P b) (a : mi_at h S Im) : mi_at h' S Im := by
  obtain ⟨a1, a2, a3⟩ := a
  refine ⟨mo_st_ag s (fun j hj => i _ (by omega) (by omega)) a1, ml_at_ag s (fun j h1 h2 => i _ (by omega) (by omega)) a2, fun k hk => ⟨fun e => by rw [(s 102 (i _ (by omega) (by omega))).2.1]; exact (a3 k hk).1 e, fun S' e => ?_⟩⟩
  obtain ⟨b1, b2⟩ := (a3 k hk).2 S' e
  exact ⟨by rw [(s 102 (i _ (by omega) (by omega))).2.1]; exact b1, ml_at_ag s (fun j h1 h2 => i _ (by omega) (by omega)) b2⟩
/-- a query of the class leaves the class's state -/
theorem ci_cl {h h' : ax_H} {S : sT} {Im : Nat → Option sT} {tp : Nat → Nat} (s : ax_same cl_F h h') (a : ci_at h S Im tp) : ci_at h' S Im tp := by
  obtain ⟨⟨x1, x2, x3, x4, x5, x6, x7, x8⟩, a2, a3, a4⟩ := a
  have g : ag (fun b => b < 52 ∨ 77 ≤ b) h h' := ag_same s (fun x hx q => by unfold cl_F at q; omega)
  refine ⟨⟨xs_st_same s x1, to_st_ag g (fun b _ hb => by omega) x2, re_n_ag g (fun j hj => by omega) (fun q h1 h2 => by omega) x3, pl_st_same s x4, se_st_same s x5, by rw [s.2.1]; exact x6, by rw [s.2.2.1]; exact x7, by rw [s.2.2.1]; exact x8⟩, tl_at_ag g (fun b _ hb => by omega) a2, fun k hk => ⟨fun e => by rw [s.2.2.1]; exact (a3 k hk).1 e, fun S' e => ?_⟩, a4⟩
  obtain ⟨b1, b2, b3, b4⟩ := (a3 k hk).2 S' e
  exact ⟨by rw [s.2.2.1]; exact b1, b2, by rw [s.1]; exact b3, tl_at_ag g (fun b h1 _ => by omega) b4⟩
/-- a query of the reference leaves the reference's state -/
theorem mi_md {h h' : ax_H} {S : sT} {Im : Nat → Option sT} (s : ax_same md_F h h') (a : mi_at h S Im) : mi_at h' S Im := by
  obtain ⟨a1, a2, a3⟩ := a
  have g : ag (fun b => (78 ≤ b ∧ b ≤ 87) ∨ b = 102) h h' := ag_same s (fun x hx q => by unfold md_F at q; omega)
  refine ⟨mo_st_same s a1, ml_at_ag g (fun j h1 h2 => by omega) a2, fun k hk => ⟨fun e => by rw [(g 102 (by omega)).2.1]; exact (a3 k hk).1 e, fun S' e => ?_⟩⟩
  obtain ⟨b1, b2⟩ := (a3 k hk).2 S' e
  exact ⟨by rw [(g 102 (by omega)).2.1]; exact b1, ml_at_ag g (fun j h1 h2 => by omega) b2⟩
/-- what the queries find -/
theorem tc_of {h : ax_H} {S : sT} {Im : Nat → Option sT} {tp : Nat → Nat} (a : ci_at h S Im tp) (b : mi_at h S Im) (ok : s_ok S) : tc h (s_z S) (s_D S) (s_N S) (s_C S) := ⟨a.1.1, b.1, a.2.1.1, b.2.1.1, ok.1⟩
end
