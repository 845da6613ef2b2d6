section
variable {g : ax_G} {Ret : Option Value → ax_H → Prop} {h : ax_H} {S : sT}
/-! END -/
def s_end (S : sT) (n : Nat) : sT := (n, S.2)
theorem q9_end {x : Int32} (hx : xs_st h) (a : tl_at h 1 S) (hn : s_n S ≤ 600) (hno : (¬ ∃ n : Nat, n ≤ s_n S ∧ x = nI n) → Ret (some (.int (-1))) h) (hq : ∀ n : Nat, n ≤ s_n S → x = nI n → ∀ h', ax_same (fun a => a = 1 ∨ a = 2) h h' → tl_at h' 1 (s_end S n) → Ret (some (.int x)) h') : mX9_end g [.ref 0, .int x] h Ret := by
  have t1 := a.1.1.1
  have e4 := a.2.1
  refine eX9_end ⟨fun q => hno (fun ⟨n, h1, h2⟩ => ?_), fun q => ⟨hx.1, _, hx.2.1.1, t1, fun q2 => ⟨hx.1, _, hx.2.1.1, t1, ?_⟩, fun q2 => hno (fun ⟨n, h1, h2⟩ => ?_)⟩⟩
  · rw [h2] at q; exact nI_pos (by omega) q
  · rw [e4] at q2
    obtain ⟨n, h1, rfl⟩ := (ni_ix (n := s_n S + 1) (by omega)).mp ⟨q, fun z => by
      have := i_le.mp q2
      have z := i_le.mp z
      rw [nI_toInt (by omega)] at this z
      omega⟩
    refine hq n (by omega) rfl _ (sm_pi (Or.inl rfl)) (tl_tape (S := S) (T := s_t S) (n := n) (sm_pi (Or.inl rfl)) a ai_eq (ai_ne (by omega)) (ai_ne (by omega)) (fun i hi => ?_))
    rw [ai_ne (by omega)]; exact a.2.2.2.2.1 i hi
  · rw [e4, h2] at q2; exact q2 (nI_le h1 (by omega))
theorem q10_end {x : Int32} {Im : Nat → Option sT} (a : mi_at h S Im) (hn : s_n S ≤ 600) (hno : (¬ ∃ n : Nat, n ≤ s_n S ∧ x = nI n) → ∀ h', ax_same md_F h h' → Ret (some (.int (-1))) h') (hq : ∀ n : Nat, n ≤ s_n S → x = nI n → ∀ h', ax_same (fun a => a = 77 ∨ a = 78 ∨ a = 79) h h' → mi_at h' (s_end S n) Im → Ret (some (.int x)) h') : mX10_end g [.ref 77, .int x] h Ret := by
  have hs1 : ax_same md_F h (ax_pi h 77 0 0) := sm_pi (Or.inl rfl)
  have a1 := mi_md hs1 a
  have hs0 : ax_same (fun a => a = 77 ∨ a = 78 ∨ a = 79) h (ax_pi h 77 0 0) := sm_pi (Or.inl rfl)
  refine eX10_end ⟨a.1.1, ?_⟩
  revert hs1 a1 hs0
  generalize ax_pi h 77 0 0 = h1
  intro hs1 a1 hs0
  obtain ⟨m1, ⟨-, e4, -, -, et⟩, -⟩ := id a1
  simp only [Nat.mul_zero, Nat.zero_add] at et
  obtain ⟨r2, s2⟩ : ax_r h1 77 2 = some 79 ∧ ax_s h1 79 = (11, 4) := m1.2 1 _ rfl
  have in0 : vp_in (0 : Int32) 4 := vp_in_nI (n := 0) (N := 4) (by decide) (by decide)
  refine ⟨m1.1, _, r2, by rw [s2], by rw [s2]; exact in0, c_min ⟨_, rfl, fun q => ⟨m1.1, _, r2, by rw [s2], by rw [s2]; exact in0, ?_⟩, fun q => ?_⟩⟩
  · have q := of_decide_eq_true (b2i_n0.mp q)
    rw [show ax_i h1 79 0 = nI (s_n S) from e4] at q
    obtain ⟨n, h1', rfl⟩ := (ni_ix (n := s_n S + 1) (by omega)).mp ⟨nt_lt.mpr q.1, fun z => by
      have := i_le.mp q.2
      have z := i_le.mp z
      rw [nI_toInt (by omega)] at this z
      omega⟩
    refine hq n (by omega) rfl _ (sm_tr hs0 (sm_pi (Or.inr (Or.inr rfl)))) (ml_tape (T := s_t S) (n := n) (sm_pi (Or.inr (Or.inr rfl))) a1 ai_eq (fun i hi => ?_) (fun i hi => ?_) (fun i hi => ?_))
    · rw [ai_ne (by omega)]; exact et i hi
    · rw [ai_ne (by omega)]
    · rw [ai_ne (by omega)]
  · have q := of_decide_eq_false (b2i_0.mp q)
    rw [show ax_i h1 79 0 = nI (s_n S) from e4] at q
    exact hno (fun ⟨n, h1, h2⟩ => q ⟨by rw [h2]; exact nI_pos' (by omega), by rw [h2]; exact nI_le h1 (by omega)⟩) h1 hs1
/-! FAULT -/
def s_fault (S : sT) (x : Int32) : Int32 := if x = 0 then s_f S else if x = 1 then s_p S else -1
theorem q9_fault {x : Int32} (hx : xs_st h) (a : tl_at h 1 S) (hq : Ret (some (.int (s_fault S x))) h) : mX9_fault g [.ref 0, .int x] h Ret := by
  have t1 := a.1.1.1
  unfold s_fault at hq
  refine eX9_fault ⟨fun q => ⟨fun q2 => ?_, fun q2 => ⟨hx.1, _, hx.2.1.1, t1, ?_⟩⟩, fun q => ⟨hx.1, _, hx.2.1.1, t1, ?_⟩⟩
  · rw [if_neg q, if_neg q2] at hq; exact hq
  · rw [if_neg q, if_pos q2] at hq; rw [a.2.2.2.1]; exact hq
  · rw [if_pos q] at hq; rw [a.2.2.1]; exact hq
theorem q10_fault {x : Int32} {Im : Nat → Option sT} (a : mi_at h S Im) (hq : ∀ h', ax_same md_F h h' → Ret (some (.int (s_fault S x))) h') : mX10_fault g [.ref 77, .int x] h Ret := by
  have hs1 : ax_same md_F h (ax_pi h 77 0 0) := sm_pi (Or.inl rfl)
  have a1 := mi_md hs1 a
  refine eX10_fault ⟨a.1.1, ?_⟩
  revert hs1 a1
  generalize ax_pi h 77 0 0 = h1
  intro hs1 a1
  obtain ⟨m1, ⟨-, -, e3, e4, -⟩, -⟩ := id a1
  have hq := hq h1 hs1
  unfold s_fault at hq
  obtain ⟨r3, s3⟩ : ax_r h1 77 3 = some 80 ∧ ax_s h1 80 = (11, 4) := m1.2 2 _ rfl
  obtain ⟨r4, s4⟩ : ax_r h1 77 4 = some 81 ∧ ax_s h1 81 = (11, 4) := m1.2 3 _ rfl
  have in0 : vp_in (0 : Int32) 4 := vp_in_nI (n := 0) (N := 4) (by decide) (by decide)
  refine ⟨fun q => ⟨fun q2 => ?_, fun q2 => ⟨m1.1, _, r4, by rw [s4], by rw [s4]; exact in0, ?_⟩⟩, fun q => ⟨m1.1, _, r3, by rw [s3], by rw [s3]; exact in0, ?_⟩⟩
  · rw [if_neg q, if_neg q2] at hq; exact hq
  · rw [if_neg q, if_pos q2] at hq; rw [show ax_i h1 81 0 = s_p S from e4]; exact hq
  · rw [if_pos q] at hq; rw [show ax_i h1 80 0 = s_f S from e3]; exact hq
/-! COUNT -/
def s_count (z : Nat → Nat) (x : Int32) : Int32 := if sp_in x 5 then nI (z x.toNatClampNeg) else -2
theorem q9_count {x : Int32} (hx : xs_st h) (a : tl_at h 1 S) (hq : Ret (some (.int (s_count (s_z S) x))) h) : mX9_count g [.ref 0, .int x] h Ret := by
  obtain ⟨⟨t1, ⟨-, t3, -, -⟩, ⟨-, t7, -, -⟩, -, -⟩, ez, -, -⟩ := a.1
  unfold s_count at hq
  refine eX9_count ⟨fun q => ?_, fun q => ⟨fun q2 => ⟨hx.1, _, hx.2.1.1, t1, _, t3, by rw [t7], ?_, ?_⟩, fun q2 => ?_⟩⟩
  · rw [dec_f (Or.inl q)] at hq; exact hq
  · obtain ⟨j, hj, rfl⟩ := (ni_ix (n := 5) (by decide)).mp ⟨q, nt_le.mpr q2⟩
    rw [t7]; exact vp_in_nI hj (by decide)
  · obtain ⟨j, hj, rfl⟩ := (ni_ix (n := 5) (by decide)).mp ⟨q, nt_le.mpr q2⟩
    rw [sp_in_nI (by decide) hj, if_pos rfl, nI_clamp (by omega)] at hq
    rw [nI_clamp (by omega), (ez j hj).2]; exact hq
  · rw [dec_f (Or.inr (nt_lt.mp q2))] at hq; exact hq
theorem q10_count {x : Int32} {Im : Nat → Option sT} (a : mi_at h S Im) (hq : ∀ h', ax_same md_F h h' → Ret (some (.int (s_count (s_z S) x))) h') : mX10_count g [.ref 77, .int x] h Ret := by
  have hs1 : ax_same md_F h (ax_pi h 77 0 0) := sm_pi (Or.inl rfl)
  have a1 := mi_md hs1 a
  refine eX10_count ⟨a.1.1, ?_⟩
  revert hs1 a1
  generalize ax_pi h 77 0 0 = h1
  intro hs1 a1
  have hq := hq h1 hs1
  unfold s_count at hq
  obtain ⟨m1, ⟨⟨ez, -, -⟩, -, -, -, -⟩, -⟩ := id a1
  obtain ⟨r5, s5⟩ : ax_r h1 77 5 = some 82 ∧ ax_s h1 82 = (11, 20) := m1.2 4 _ rfl
  have q5 : mX10_in g [.int x, .int 0, .int (nI 5 - 1)] h1 (fun v3 h2 => (∃ r4 : Int32, v3 = some (.int r4) ∧ ((r4 = 0 → Ret (some (.int (-2))) h2) ∧ (¬ (r4 = 0) → ((ax_s h2 77).1 = 10 ∧ (∃ b5 : Nat, ax_r h2 77 5 = some b5 ∧ ((ax_s h2 b5).1 = 11 ∧ (vp_in x (ax_s h2 b5).2 ∧ Ret (some (.int (ax_i h2 b5 x.toNatClampNeg))) h2))))))))  := by
    refine c_minN (by decide) ⟨_, rfl, fun q => ?_, fun q => ?_⟩
    · rw [b2i_0.mp q] at hq; exact hq
    · rw [b2i_n0.mp q, if_pos rfl] at hq
      obtain ⟨j, hj, rfl⟩ := sp_in_ix (by decide) (b2i_n0.mp q)
      rw [nI_clamp (by omega)] at hq
      refine ⟨m1.1, _, r5, by rw [s5], by rw [s5]; exact vp_in_nI (by omega) (by decide), ?_⟩
      have := ez j hj
      rw [Nat.mul_zero, Nat.zero_add] at this
      rw [nI_clamp (by omega), show ax_i h1 82 j = nI (s_z S j) from this]; exact hq
  exact q5
end
