section
variable {g : ax_G} {Ret : Option Value → ax_H → Prop} {h : ax_H} {S : sT} {Im : Nat → Option sT}
/-! an empty tape, read by the reference -/
def tini (s k : Nat) : Int32 := if s = 0 then (if k < 92 then (if k < 20 then 0 else -1) else 1) else 0
theorem c_msee0 (m : (ax_s h 77).1 = 10) (e : ax_i h 77 12 ≤ ax_i h 77 11) (hq : Ret (some (.int (-1))) h) : mX10_see g [.ref 77] h Ret := eX10_see ⟨m, m, fun _ => hq, fun q => absurd e q⟩
theorem c_mtoken0 (m : (ax_s h 77).1 = 10) (e : ax_i h 77 12 ≤ ax_i h 77 11) (hq : ∀ h', ax_same (fun a => a = 77) h h' → (∀ k, k ≠ 13 → k ≠ 14 → ax_i h' 77 k = ax_i h 77 k) → ax_i h' 77 13 = ax_i h 77 11 → ax_i h' 77 14 = 0 → Ret none h') : mX10_token g [.ref 77] h Ret := by
  refine uX10_token (fun A hA => vX10_token_0 hA ⟨m, c_msee0 m e ⟨_, rfl, fun q => absurd q (by decide), fun _ => ⟨m, c_msee0 m e ⟨_, rfl, fun _ => ⟨m, m, m, ?_⟩, fun q => absurd q (by decide)⟩⟩⟩⟩)
  refine c_msee0 m (by rw [ai_ne (by omega), ai_ne (by omega)]; exact e) ⟨_, rfl, m, fun q => absurd q (by decide), fun _ => ⟨m, ?_⟩⟩
  refine hq _ (sm_tr (sm_tr (sm_pi rfl) (sm_pl rfl)) (sm_pi rfl)) (fun k h1 h2 => ?_) ?_ ai_eq
  · rw [ai_ne (by omega), ai_pl, ai_ne (by omega)]
  · rw [ai_ne (by omega), ai_pl, ai_eq]
theorem c0_0 : (0 : Int32).toNatClampNeg = 0 := rfl
theorem c_mread0 {s : Nat} (m : mo_st h 77) (hs5 : s < 5) (e12 : ax_i h 77 12 = 0) (hq : ∀ h', ax_same mr_F h h' → (∀ i, 1 ≤ i → ax_i h' 80 i = ax_i h 80 i ∧ ax_i h' 81 i = ax_i h 81 i) → mr_at h' s R0 → Ret (some (.int 1)) h') : mX10_readText g [.ref 77, .int (nI s)] h Ret := by
  refine uX10_readText (fun A hA => vX10_readText_0 hA ?_)
  have i0 : vp_in (0 : Int32) 164 := vp_in_nI (n := 0) (N := 164) (by decide) (by decide)
  have i1 : vp_in (1 : Int32) 164 := vp_in_nI (n := 1) (N := 164) (by decide) (by decide)
  have i4 : vp_in (0 : Int32) 4 := vp_in_nI (n := 0) (N := 4) (by decide) (by decide)
  have B : ∀ (hh : ax_H) (v x2 : Int32), ax_same (fun x => x = 88) h hh → (∀ k, k < 164 → ax_i hh 88 k = tini s k) → v = (if s = 0 then 8 else 0) → A (65, [some (.ref 77), some (.int (nI s)), some (.int x2)], [.int v, .int 0, .ref 88], hh, 0, 0) := by
    intro hh v x2 hs row hv
    have m1 := mo_st_same hs m
    obtain ⟨r20, s20⟩ : ax_r hh 77 20 = some 88 ∧ ax_s hh 88 = (11, 164) := m1.2 10 _ rfl
    refine vX10_readText_65 hA ⟨sh_k s20, by rw [s20]; exact i0, m1.1, m1.1, m1.1, m1.1, m1.1, ?_⟩
    rw [c0_0]
    have S8 : ax_same (fun x => x = 77 ∨ x = 88) h (ax_pi (ax_pi (ax_pi (ax_pi (ax_pi hh 88 0 v) 77 22 (-1)) 77 23 (-1)) 77 11 0) 77 18 0) := sm_tr (sm_tr (sm_tr (sm_tr (sm_tr (sm_mono hs (fun x hx => Or.inr hx)) (sm_pi (Or.inr rfl))) (sm_pi (Or.inl rfl))) (sm_pi (Or.inl rfl))) (sm_pi (Or.inl rfl))) (sm_pi (Or.inl rfl))
    have E12 : ax_i (ax_pi (ax_pi (ax_pi (ax_pi (ax_pi hh 88 0 v) 77 22 (-1)) 77 23 (-1)) 77 11 0) 77 18 0) 77 12 = 0 := by rw [ai_ne (by omega), ai_ne (by omega), ai_ne (by omega), ai_ne (by omega), ai_ne (by omega), (hs.2.2.2 77 (by omega)).1]; exact e12
    have E11 : ax_i (ax_pi (ax_pi (ax_pi (ax_pi (ax_pi hh 88 0 v) 77 22 (-1)) 77 23 (-1)) 77 11 0) 77 18 0) 77 11 = 0 := by rw [ai_ne (by omega), ai_eq]
    have E18 : ax_i (ax_pi (ax_pi (ax_pi (ax_pi (ax_pi hh 88 0 v) 77 22 (-1)) 77 23 (-1)) 77 11 0) 77 18 0) 77 18 = 0 := ai_eq
    have E22 : ax_i (ax_pi (ax_pi (ax_pi (ax_pi (ax_pi hh 88 0 v) 77 22 (-1)) 77 23 (-1)) 77 11 0) 77 18 0) 77 22 = -1 := by rw [ai_ne (by omega), ai_ne (by omega), ai_ne (by omega), ai_eq]
    have E23 : ax_i (ax_pi (ax_pi (ax_pi (ax_pi (ax_pi hh 88 0 v) 77 22 (-1)) 77 23 (-1)) 77 11 0) 77 18 0) 77 23 = -1 := by rw [ai_ne (by omega), ai_ne (by omega), ai_eq]
    have E88 : ∀ k, k < 164 → ax_i (ax_pi (ax_pi (ax_pi (ax_pi (ax_pi hh 88 0 v) 77 22 (-1)) 77 23 (-1)) 77 11 0) 77 18 0) 88 k = if k = 0 then v else tini s k := by
      intro k hk
      rw [ai_ne (by omega), ai_ne (by omega), ai_ne (by omega), ai_ne (by omega)]
      by_cases e : k = 0
      · rw [if_pos e, e, ai_eq]
      · rw [if_neg e, ai_ne (by omega)]; exact row k hk
    revert S8 E12 E11 E18 E22 E23 E88
    generalize ax_pi (ax_pi (ax_pi (ax_pi (ax_pi hh 88 0 v) 77 22 (-1)) 77 23 (-1)) 77 11 0) 77 18 0 = h8
    intro S8 E12 E11 E18 E22 E23 E88
    have m8 := mo_st_same S8 m
    refine c_mtoken0 m8.1 (by rw [E12, E11]; decide) (fun h9 s9 k9 _ e14 => ⟨rfl, ?_⟩)
    have m9 := mo_st_same s9 m8
    obtain ⟨r20', s20'⟩ : ax_r h9 77 20 = some 88 ∧ ax_s h9 88 = (11, 164) := m9.2 10 _ rfl
    obtain ⟨r3, s3⟩ : ax_r h9 77 3 = some 80 ∧ ax_s h9 80 = (11, 4) := m9.2 2 _ rfl
    obtain ⟨r4, s4⟩ : ax_r h9 77 4 = some 81 ∧ ax_s h9 81 = (11, 4) := m9.2 3 _ rfl
    have F88 : ∀ k, k < 164 → ax_i h9 88 k = if k = 0 then v else tini s k := fun k hk => by rw [(s9.2.2.2 88 (by omega)).1]; exact E88 k hk
    have F18 : ax_i h9 77 18 = 0 := by rw [k9 18 (by decide) (by decide)]; exact E18
    have F22 : ax_i h9 77 22 = -1 := by rw [k9 22 (by decide) (by decide)]; exact E22
    have F23 : ax_i h9 77 23 = -1 := by rw [k9 23 (by decide) (by decide)]; exact E23
    have S9 : ax_same mr_F h h9 := sm_tr (sm_mono S8 (fun x hx => by unfold mr_F; omega)) (sm_mono s9 (fun x hx => by unfold mr_F; omega))
    have go : ∀ o1 : Option Value, A (146, [some (.ref 77), o1, some (.int 1)], [], h9, 0, 0) := by
      intro o1
      refine vX10_readText_146 hA ⟨m9.1, 80, r3, fun q => absurd q (by decide), fun _ => ⟨m9.1, vX10_readText_163 hA ⟨sh_k s3, by rw [s3]; exact i4, m9.1, 81, r4, fun _ => ⟨m9.1, fun _ => ?_, fun q => ?_⟩, fun q => absurd q (by decide)⟩⟩⟩
      · have i80 : vp_in (0 : Int32) (ax_s h9 80).2 := by rw [s3]; exact i4
        have i81 : vp_in (0 : Int32) (ax_s h9 81).2 := by rw [s4]; exact i4
        refine vX10_readText_195 hA ⟨sh_k s4, i81, m9.1, 80, r3, sh_k s3, i80, fun q => ?_, fun _ => ⟨Or.inr rfl, ?_⟩⟩
        · rw [c0_0, F18] at q
          exact absurd (by rw [ai_ne (by omega), ai_eq]) q
        · rw [c0_0, F18]
          refine hq _ (sm_tr (sm_tr S9 (sm_pi (by unfold mr_F; omega))) (sm_pi (by unfold mr_F; omega))) (fun i hi => ⟨?_, ?_⟩) ⟨by rw [ai_ne (by omega), ai_eq]; rfl, by rw [ai_eq]; rfl, fun _ => ⟨fun z => ?_, fun z => ?_⟩⟩
          · rw [ai_ne (by omega), ai_ne (by omega), (s9.2.2.2 80 (by omega)).1, (S8.2.2.2 80 (by omega)).1]
          · rw [ai_ne (by omega), ai_ne (by omega), (s9.2.2.2 81 (by omega)).1, (S8.2.2.2 81 (by omega)).1]
          · subst z
            have e : ∀ k, k < 164 → ax_i (ax_pi (ax_pi h9 80 0 0) 81 0 (-1)) 88 k = if k = 0 then v else tini 0 k := fun k hk => by rw [ai_ne (by omega), ai_ne (by omega)]; exact F88 k hk
            refine ⟨⟨by decide, by decide⟩, ?_, ?_, fun p hp => absurd hp (Nat.not_lt_zero p), fun k hk => ?_, fun k hk => ?_, fun p q hp => absurd hp (Nat.not_lt_zero p), fun p q hp => absurd hp (Nat.not_lt_zero p)⟩
            · rw [e 0 (by decide), if_pos rfl, hv]; rfl
            · rw [e 1 (by decide)]; rfl
            · rw [e (8 + k) (by omega), if_neg (by omega)]; unfold tini; rw [if_pos rfl, if_pos (by omega), if_pos (by omega)]; rfl
            · rw [e (14 + k) (by omega), if_neg (by omega)]; unfold tini; rw [if_pos rfl, if_pos (by omega), if_pos (by omega)]; rfl
          · refine ⟨Nat.zero_le _, ?_, fun i j hi => absurd hi (Nat.not_lt_zero i)⟩
            rw [ai_ne (by omega), ai_ne (by omega), F88 0 (by decide), if_pos rfl, hv, if_neg (by omega)]; rfl
      · rw [c0_0, F18, ai_ne (by omega), F18] at q; exact absurd (by decide) q
    refine ⟨m9.1, uX10_lines (fun A' hA' => vX10_lines_0 hA' (vX10_lines_2 hA' ⟨fun q => absurd q (by decide), fun _ => ⟨m9.1, fun _ => ⟨Or.inr rfl, ?_⟩, fun q => absurd e14 q⟩⟩))⟩
    refine ⟨_, rfl, fun q => absurd q (by decide), fun _ => ⟨fun hs0 => go _, fun hs0 => ⟨m9.1, fun q => absurd F18 q, fun _ => ⟨m9.1, m9.1, 88, r20', sh_k s20', by rw [s20']; exact i0, fun q => ?_, fun _ => ⟨m9.1, m9.1, 88, r20', sh_k s20', by rw [s20']; exact i1, fun _ => go _, fun q => ?_⟩⟩⟩⟩⟩
    · have z : s = 0 := by
        rcases Nat.eq_zero_or_pos s with z | z
        · exact z
        · exact absurd hs0 (nI_ne0 z (by omega))
      rw [F88 0 (by decide), if_pos rfl, hv, if_pos z, F22] at q
      exact absurd q (by decide)
    · have z : s = 0 := by
        rcases Nat.eq_zero_or_pos s with z | z
        · exact z
        · exact absurd hs0 (nI_ne0 z (by omega))
      rw [F23, F88 1 (by decide), if_neg (by decide), z] at q
      exact absurd (by decide) q
  have key : ∀ n i : Nat, i + n = 164 → ∀ hh : ax_H, ax_same (fun x => x = 88) h hh → (∀ k, k < i → ax_i hh 88 k = tini s k) → A (2, [some (.ref 77), some (.int (nI s)), some (.int (nI i))], [], hh, 0, 0) := by
    intro n
    induction n with
    | zero =>
      intro i hi hh hs row
      obtain rfl : i = 164 := by omega
      have m1 := mo_st_same hs m
      obtain ⟨r20, s20⟩ : ax_r hh 77 20 = some 88 ∧ ax_s hh 88 = (11, 164) := m1.2 10 _ rfl
      refine vX10_readText_2 hA ⟨fun _ => ⟨m1.1, 88, r20, fun q => B hh _ _ hs row ?_, fun q => B hh _ _ hs row ?_⟩, fun q => absurd (by decide) q⟩
      · rw [if_neg]; intro z; exact q (by rw [z]; rfl)
      · rw [if_pos]
        rcases Nat.eq_zero_or_pos s with z | z
        · exact z
        · exact absurd q (nI_ne0 z (by omega))
    | succ n ih =>
      intro i hi hh hs row
      have m1 := mo_st_same hs m
      obtain ⟨r20, s20⟩ : ax_r hh 77 20 = some 88 ∧ ax_s hh 88 = (11, 164) := m1.2 10 _ rfl
      have put : ∀ v : Int32, v = tini s i → A (43, [some (.ref 77), some (.int (nI s)), some (.int (nI i))], [.int v, .int (nI i), .ref 88], hh, 0, 0) := by
        intro v hv
        refine vX10_readText_43 hA ⟨sh_k s20, by rw [s20]; exact vp_in_nI (by omega) (by decide), ?_⟩
        rw [nI_clamp (by omega), ← nI_succ]
        refine ih (i + 1) (by omega) _ (sm_tr hs (sm_pi rfl)) (fun k hk => ?_)
        by_cases e : k = i
        · rw [e, ai_eq]; exact hv
        · rw [ai_ne (by omega)]; exact row k (by omega)
      have l92 : nI i < 92 ↔ i < 92 := nI_ltI (a := i) (b := 92) (by omega) (by decide)
      have l20 : nI i < 20 ↔ i < 20 := nI_ltI (a := i) (b := 20) (by omega) (by decide)
      refine vX10_readText_2 hA ⟨fun q => absurd q (nI_ge (a := i) (b := 164) (by omega) (by decide)), fun _ => ⟨m1.1, 88, r20, fun q => ⟨fun q2 => ⟨fun q3 => put _ ?_, fun q3 => put _ ?_⟩, fun q2 => put _ ?_⟩, fun q => put _ ?_⟩⟩
      all_goals unfold tini
      · rw [if_pos, if_pos (l92.mp q2), if_pos (l20.mp q3)]
        rcases Nat.eq_zero_or_pos s with z | z
        · exact z
        · exact absurd q (nI_ne0 z (by omega))
      · rw [if_pos, if_pos (l92.mp q2), if_neg (fun z => q3 (l20.mpr z))]
        rcases Nat.eq_zero_or_pos s with z | z
        · exact z
        · exact absurd q (nI_ne0 z (by omega))
      · rw [if_pos, if_neg (fun z => q2 (l92.mpr z))]
        rcases Nat.eq_zero_or_pos s with z | z
        · exact z
        · exact absurd q (nI_ne0 z (by omega))
      · rw [if_neg]; intro z; exact q (by rw [z]; rfl)
  exact key 164 0 (by omega) h sm_rf (fun k hk => absurd hk (Nat.not_lt_zero k))
end
