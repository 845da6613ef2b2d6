section
variable {g : ax_G} {Ret : Option Value → ax_H → Prop} {h : ax_H} {T : Nat → Int32} {n : Nat}
theorem c_mreadText {s : Nat} (m : mo_st h 77) (hT : tyb T) (hn : n ≤ 600) (et : ∀ i, i < 600 → ax_i h 78 i = T i) (hs5 : s < 5) (e12 : ax_i h 77 12 = nI n) (hq : ∀ h', ax_same mr_F h h' → (∀ i, 1 ≤ i → ax_i h' 80 i = ax_i h 80 i ∧ ax_i h' 81 i = ax_i h 81 i) → mr_at h' s (rdT T n s) → Ret (some (.int (b2i (decide (r_f (rdT T n s) = 0))))) h') : mX10_readText g [.ref 77, .int (nI s)] h Ret := by
  refine uX10_readText (fun A hA => vX10_readText_0 hA ?_)
  have i0 : vp_in (0 : Int32) 164 := vp_in_nI (n := 0) (N := 164) (by decide) (by decide)
  have i1 : vp_in (1 : Int32) 164 := vp_in_nI (n := 1) (N := 164) (by decide) (by decide)
  have i4 : vp_in (0 : Int32) 4 := vp_in_nI (n := 0) (N := 4) (by decide) (by decide)
  have s0 : nI s = 0 ↔ s = 0 := nI_eq (b := 0) (by omega) (by decide)
  -- the end: fault and place are kept
  have fin : ∀ (h9 : ax_H) (x2 F P : Int32) (o1 : Option Value), ax_same mr_F h h9 → (∀ i, ax_i h9 80 i = ax_i h 80 i ∧ ax_i h9 81 i = ax_i h 81 i) → (x2 = 0 → F = 1 ∧ P = ax_i h9 77 17) → (¬ x2 = 0 → F = ax_i h9 77 18 ∧ (F ≤ 0 → P = -1) ∧ (¬ F ≤ 0 → P = ax_i h9 77 19)) → F = r_f (rdT T n s) → P = r_p (rdT T n s) → (F = 0 → (s = 0 → rq_at h9 (r_D (rdT T n s))) ∧ (1 ≤ s → rl_at h9 s (r_N (rdT T n s)) (r_C (rdT T n s)))) → A (146, [some (.ref 77), o1, some (.int x2)], [], h9, 0, 0) := by
    intro h9 x2 F P o1 S9 e80 c0 c1 eF eP tell
    have m9 := mo_st_same S9 m
    obtain ⟨r3, s3⟩ : ax_r h9 77 3 = some 80 ∧ ax_s h9 80 = (11, 4) := m9.2 2 _ rfl
    obtain ⟨r4, s4⟩ : ax_r h9 77 4 = some 81 ∧ ax_s h9 81 = (11, 4) := m9.2 3 _ rfl
    have i80 : vp_in (0 : Int32) (ax_s h9 80).2 := by rw [s3]; exact i4
    have i81 : vp_in (0 : Int32) (ax_s h9 81).2 := by rw [s4]; exact i4
    have last : ∀ o2 : Option Value, A (195, [some (.ref 77), o1, o2], [.int P, .int 0, .ref 81], ax_pi h9 80 0 F, 0, 0) := by
      intro o2
      have e88 : ∀ k, ax_i (ax_pi (ax_pi h9 80 0 F) 81 0 P) 88 k = ax_i h9 88 k := fun k => by rw [ai_ne (by omega), ai_ne (by omega)]
      have done : Ret (some (.int (b2i (decide (r_f (rdT T n s) = 0))))) (ax_pi (ax_pi h9 80 0 F) 81 0 P) := by
        refine hq _ (sm_tr (sm_tr S9 (sm_pi (by unfold mr_F; omega))) (sm_pi (by unfold mr_F; omega))) (fun i hi => ⟨by rw [ai_ne (by omega), ai_ne (by omega)]; exact (e80 i).1, by rw [ai_ne (by omega), ai_ne (by omega)]; exact (e80 i).2⟩) ⟨by rw [ai_ne (by omega), ai_eq]; exact eF, by rw [ai_eq]; exact eP, fun z => ?_⟩
        obtain ⟨t1, t2⟩ := tell (by rw [eF]; exact z)
        refine ⟨fun y => ?_, fun y => ?_⟩
        · have := t1 y
          unfold rq_at at this ⊢
          simp only [e88]
          exact this
        · have := t2 y
          unfold rl_at at this ⊢
          simp only [e88]
          exact this
      refine vX10_readText_195 hA ⟨sh_k s4, i81, m9.1, 80, r3, sh_k s3, i80, fun q => ⟨Or.inl rfl, ?_⟩, fun q => ⟨Or.inr rfl, ?_⟩⟩
      · rw [c0_0] at q ⊢
        rw [ai_ne (by omega), ai_eq, eF] at q
        rw [decide_eq_false q] at done; exact done
      · rw [c0_0] at q ⊢
        rw [ai_ne (by omega), ai_eq, eF] at q
        rw [decide_eq_true q] at done; exact done
    have e18 : ax_i (ax_pi h9 80 0 F) 77 18 = ax_i h9 77 18 := ai_ne (by omega)
    have e19 : ax_i (ax_pi h9 80 0 F) 77 19 = ax_i h9 77 19 := ai_ne (by omega)
    have e17 : ax_i (ax_pi h9 80 0 F) 77 17 = ax_i h9 77 17 := ai_ne (by omega)
    refine vX10_readText_146 hA ⟨m9.1, 80, r3, fun q => ?_, fun q => ⟨m9.1, ?_⟩⟩
    · obtain ⟨a1, a2⟩ := c0 q
      refine vX10_readText_163 hA ⟨sh_k s3, i80, m9.1, 81, r4, fun z => absurd q z, fun _ => ⟨m9.1, ?_⟩⟩
      rw [c0_0]
      have := last (some (.int x2))
      rw [a2, ← e17, a1] at this
      rw [a1] at e17
      exact this
    · obtain ⟨a1, a2, a3⟩ := c1 q
      rw [← a1]
      refine vX10_readText_163 hA ⟨sh_k s3, i80, m9.1, 81, r4, fun _ => ⟨m9.1, fun y => ?_, fun y => ⟨m9.1, ?_⟩⟩, fun z => absurd z q⟩
      · rw [c0_0] at y ⊢
        rw [e18, ← a1] at y
        have := last (some (.int x2))
        rw [a2 y] at this
        exact this
      · rw [c0_0] at y ⊢
        rw [e18, ← a1] at y
        have := last (some (.int x2))
        rw [a3 y, ← e19] at this
        exact this
  have B : ∀ (hh : ax_H) (v x2 : Int32), ax_same (fun x => x = 88) h hh → (∀ k, k < 164 → ax_i hh 88 k = tini s k) → v = (if s = 0 then 8 else 0) → A (65, [some (.ref 77), some (.int (nI s)), some (.int x2)], [.int v, .int 0, .ref 88], hh, 0, 0) := by
    intro hh v x2 hs row hv
    have m1 := mo_st_same hs m
    obtain ⟨r20, s20⟩ : ax_r hh 77 20 = some 88 ∧ ax_s hh 88 = (11, 164) := m1.2 10 _ rfl
    refine vX10_readText_65 hA ⟨sh_k s20, by rw [s20]; exact i0, m1.1, m1.1, m1.1, m1.1, m1.1, ?_⟩
    rw [c0_0]
    have S8 : ax_same (fun x => x = 77 ∨ x = 88) h (ax_pi (ax_pi (ax_pi (ax_pi (ax_pi hh 88 0 v) 77 22 (-1)) 77 23 (-1)) 77 11 0) 77 18 0) := sm_tr (sm_tr (sm_tr (sm_tr (sm_tr (sm_mono hs (fun x hx => Or.inr hx)) (sm_pi (Or.inr rfl))) (sm_pi (Or.inl rfl))) (sm_pi (Or.inl rfl))) (sm_pi (Or.inl rfl))) (sm_pi (Or.inl rfl))
    have E12 : ax_i (ax_pi (ax_pi (ax_pi (ax_pi (ax_pi hh 88 0 v) 77 22 (-1)) 77 23 (-1)) 77 11 0) 77 18 0) 77 12 = nI n := by rw [ai_ne (by omega), ai_ne (by omega), ai_ne (by omega), ai_ne (by omega), ai_ne (by omega), (hs.2.2.2 77 (by omega)).1]; exact e12
    have E11 : ax_i (ax_pi (ax_pi (ax_pi (ax_pi (ax_pi hh 88 0 v) 77 22 (-1)) 77 23 (-1)) 77 11 0) 77 18 0) 77 11 = nI 0 := by rw [ai_ne (by omega), ai_eq]; rfl
    have E18 : ax_i (ax_pi (ax_pi (ax_pi (ax_pi (ax_pi hh 88 0 v) 77 22 (-1)) 77 23 (-1)) 77 11 0) 77 18 0) 77 18 = 0 := ai_eq
    have E22 : ax_i (ax_pi (ax_pi (ax_pi (ax_pi (ax_pi hh 88 0 v) 77 22 (-1)) 77 23 (-1)) 77 11 0) 77 18 0) 77 22 = -1 := by rw [ai_ne (by omega), ai_ne (by omega), ai_ne (by omega), ai_eq]
    have E23 : ax_i (ax_pi (ax_pi (ax_pi (ax_pi (ax_pi hh 88 0 v) 77 22 (-1)) 77 23 (-1)) 77 11 0) 77 18 0) 77 23 = -1 := by rw [ai_ne (by omega), ai_ne (by omega), ai_eq]
    have E88 : ∀ k, k < 164 → ax_i (ax_pi (ax_pi (ax_pi (ax_pi (ax_pi hh 88 0 v) 77 22 (-1)) 77 23 (-1)) 77 11 0) 77 18 0) 88 k = if k = 0 then v else tini s k := by
      intro k hk
      rw [ai_ne (by omega), ai_ne (by omega), ai_ne (by omega), ai_ne (by omega)]
      by_cases e : k = 0
      · rw [if_pos e, e, ai_eq]
      · rw [if_neg e, ai_ne (by omega)]; exact row k hk
    revert S8 E12 E11 E18 E22 E23 E88
    generalize ax_pi (ax_pi (ax_pi (ax_pi (ax_pi hh 88 0 v) 77 22 (-1)) 77 23 (-1)) 77 11 0) 77 18 0 = h8
    intro S8 E12 E11 E18 E22 E23 E88
    have m8 := mo_st_same S8 m
    have t8 : mt_at h8 T n := ⟨m8, fun i hi => by rw [(S8.2.2.2 78 (by omega)).1]; exact et i hi, E12⟩
    refine c_mtoken (a := 0) t8 hT hn E11 (Nat.zero_le _) (fun h9 r9 k9 => ⟨rfl, ?_⟩)
    have t9 := mf_mt r9 (by omega) t8
    have S9 : ax_same mr_F h h9 := sm_tr (sm_mono S8 (fun x hx => by unfold mr_F; omega)) (sm_mono r9.1 (fun x hx => by unfold mr_F; omega))
    have F88 : ∀ k, k < 164 → ax_i h9 88 k = if k = 0 then v else tini s k := fun k hk => by rw [(r9.1.2.2.2 88 (by omega)).1]; exact E88 k hk
    have tb9 : tb_at h9 s l_st0 := by
      refine ⟨fun _ => ⟨by rw [r9.2 22 (by omega)]; exact E22, by rw [r9.2 23 (by omega)]; exact E23, fun z => ?_, fun z => ⟨Nat.zero_le _, ?_, fun i j hi => absurd hi (Nat.not_lt_zero i)⟩⟩, fun z => absurd rfl z⟩
      · subst z
        refine ⟨by rw [F88 0 (by decide), if_pos rfl, hv]; rfl, by rw [F88 1 (by decide)]; rfl, fun p hp => absurd hp (Nat.not_lt_zero p), fun k hk => ?_, fun k hk => ?_, fun p q hp hq => ?_, fun p q hp hq => ?_⟩
        · rw [F88 (8 + k) (by omega), if_neg (by omega)]; unfold tini; rw [if_pos rfl, if_pos (by omega), if_pos (by omega)]; rfl
        · rw [F88 (14 + k) (by omega), if_neg (by omega)]; unfold tini; rw [if_pos rfl, if_pos (by omega), if_pos (by omega)]; rfl
        · rw [F88 (20 + 12 * p + q) (by omega), if_neg (by omega)]; unfold tini; rw [if_pos rfl, if_pos (by omega), if_neg (by omega)]; rfl
        · rw [F88 (92 + 12 * p + q) (by omega), if_neg (by omega)]; unfold tini; rw [if_pos rfl, if_neg (by omega)]; rfl
      · rw [F88 0 (by decide), if_pos rfl, hv, if_neg (by omega)]; rfl
    have o80 : ∀ i, ax_i h9 80 i = ax_i h 80 i ∧ ax_i h9 81 i = ax_i h 81 i := fun i => ⟨by rw [(r9.1.2.2.2 80 (by omega)).1, (S8.2.2.2 80 (by omega)).1], by rw [(r9.1.2.2.2 81 (by omega)).1, (S8.2.2.2 81 (by omega)).1]⟩
    refine ⟨t9.1.1, c_mlines t9 hT hn hs5 k9 tb9 ⟨by rw [r9.2 18 (by omega)]; exact E18, fun z => absurd rfl z⟩ (fun p ex h' M' e17 => ⟨_, rfl, fun _ => ?_, fun q => absurd rfl q⟩) (fun st ex ok hf h' M' tb' f' pl' e13 => ⟨_, rfl, fun q => absurd q (by decide), fun _ => ?_⟩)⟩
    · have er : rdT T n s = (1, nI p, D0, 0, fun _ _ => 0) := by unfold rdT; rw [ex]
      have S' : ax_same mr_F h h' := sm_tr S9 (sm_mono M'.1 (fun x hx => by unfold mr_F; omega))
      exact fin h' 0 1 (nI p) _ S' (fun i => ⟨by rw [(M'.1.2.2.2 80 (by omega)).1]; exact (o80 i).1, by rw [(M'.1.2.2.2 81 (by omega)).1]; exact (o80 i).2⟩) (fun _ => ⟨rfl, e17.symm⟩) (fun z => absurd rfl z) (by rw [er]; rfl) (by rw [er]; rfl) (fun z => absurd z (by decide))
    · have t' := mF_mt M' t9
      have S' : ax_same mr_F h h' := sm_tr S9 (sm_mono M'.1 (fun x hx => by unfold mr_F; omega))
      have o' : ∀ i, ax_i h' 80 i = ax_i h 80 i ∧ ax_i h' 81 i = ax_i h 81 i := fun i => ⟨by rw [(M'.1.2.2.2 80 (by omega)).1]; exact (o80 i).1, by rw [(M'.1.2.2.2 81 (by omega)).1]; exact (o80 i).2⟩
      obtain ⟨r20', s20'⟩ : ax_r h' 77 20 = some 88 ∧ ax_s h' 88 = (11, 164) := t'.1.2 10 _ rfl
      -- with a fault
      have flt : l_f st ≠ 0 → ∀ o1 : Option Value, A (146, [some (.ref 77), o1, some (.int 1)], [], h', 0, 0) := by
        intro z o1
        have er : rdT T n s = (nI (l_f st), nI (l_p st), D0, 0, fun _ _ => 0) := by unfold rdT; rw [ex]; dsimp only; rw [if_neg z]
        refine fin h' 1 (nI (l_f st)) (nI (l_p st)) o1 S' o' (fun w => absurd w (by decide)) (fun _ => ⟨f'.1.symm, fun w => ?_, fun _ => (f'.2 z).symm⟩) (by rw [er]; rfl) (by rw [er]; rfl) (fun w => absurd w (nI_ne0 (by omega) (by omega)))
        exact absurd w (nI_ge (a := 0) (b := l_f st) (by omega) (by omega))
      -- without
      have good : l_f st = 0 → ¬ (nI (dH (l_D st)) ≤ l_h st ∨ nI (dP (l_D st)) ≤ l_o st) → ∀ o1 : Option Value, A (146, [some (.ref 77), o1, some (.int 1)], [], h', 0, 0) := by
        intro z y o1
        have er : rdT T n s = (0, -1, l_D st, l_N st, l_C st) := by unfold rdT; rw [ex]; dsimp only; rw [if_pos z, if_neg y]
        have e18 : ax_i h' 77 18 = 0 := by rw [f'.1]; show nI (l_f st) = 0; rw [z]; rfl
        obtain ⟨y1, y2, y3, y4⟩ := tb'.1 z
        refine fin h' 1 0 (-1) o1 S' o' (fun w => absurd w (by decide)) (fun _ => ⟨e18.symm, fun _ => rfl, fun w => absurd (by decide) w⟩) (by rw [er]; rfl) (by rw [er]; rfl) (fun _ => ?_)
        rw [er]
        refine ⟨fun w => ?_, fun w => y4 w⟩
        obtain ⟨u1, u2, u3, u4, u5, u6, u7⟩ := y3 w
        have d := ok.1
        exact ⟨⟨d.1.2, d.2.1⟩, u1, u2, u3, u4, u5, fun p q hp hq => u6 p q (Nat.lt_of_lt_of_le hp d.2.1) (Nat.lt_of_lt_of_le hq d.1.2), fun p q hp hq => u7 p q (Nat.lt_of_lt_of_le hp d.2.1) (Nat.lt_of_lt_of_le hq d.1.2)⟩
      -- hours or people wanting
      have want : l_f st = 0 → (nI (dH (l_D st)) ≤ l_h st ∨ nI (dP (l_D st)) ≤ l_o st) → ∀ o1 : Option Value, A (137, [some (.ref 77), o1, some (.int 1)], [], h', 0, 0) := by
        intro z y o1
        have er : rdT T n s = (4, nI n, D0, 0, fun _ _ => 0) := by unfold rdT; rw [ex]; dsimp only; rw [if_pos z, if_pos y]
        refine vX10_readText_137 hA ⟨t'.1.1, t'.1.1, ?_⟩
        rw [e13]
        refine c_later (w := 4) (q := n) t'.1.1 f' hf (by decide) (by omega) (fun w => absurd z w) (fun h6 r6 f6 => ⟨rfl, ?_⟩)
        unfold nt at f6
        rw [if_pos ⟨z, rfl⟩] at f6
        refine fin h6 1 4 (nI n) o1 (sm_tr S' (sm_mono r6.1 (fun x hx => by unfold mr_F; omega))) (fun i => ⟨by rw [(r6.1.2.2.2 80 (by omega)).1]; exact (o' i).1, by rw [(r6.1.2.2.2 81 (by omega)).1]; exact (o' i).2⟩) (fun w => absurd w (by decide)) (fun _ => ⟨f6.1.symm, fun w => absurd w (by decide), fun _ => (f6.2 (show (4 : Nat) ≠ 0 by decide)).symm⟩) (by rw [er]; rfl) (by rw [er]; rfl) (fun w => absurd w (by decide))
      refine ⟨fun q => ?_, fun q => ⟨t'.1.1, fun q2 => flt (fun w => q2 (by rw [f'.1]; show nI (l_f st) = 0; rw [w]; rfl)) _, fun q2 => ?_⟩⟩
      · have hs1 : 1 ≤ s := Nat.one_le_iff_ne_zero.mpr (fun w => q (s0.mpr w))
        obtain ⟨-, o1, o2, o3, o4⟩ := ok.2 hs1
        by_cases z : l_f st = 0
        · refine good z ?_ _
          rw [o1, o2, o3, o4]; decide
        · exact flt z _
      · have z0 : s = 0 := s0.mp q
        have zf : l_f st = 0 := (nI_eq (b := 0) (by omega) (by decide)).mp (by rw [← f'.1]; exact q2)
        obtain ⟨y1, y2, y3, -⟩ := tb'.1 zf
        obtain ⟨u1, u2, -⟩ := y3 z0
        refine ⟨t'.1.1, t'.1.1, 88, r20', sh_k s20', by rw [s20']; exact i0, fun q3 => want zf (Or.inl ?_) _, fun q3 => ⟨t'.1.1, t'.1.1, 88, r20', sh_k s20', by rw [s20']; exact i1, fun q4 => good zf ?_ _, fun q4 => want zf (Or.inr ?_) _⟩⟩
        · rw [u1, y1] at q3; exact q3
        · rw [u1, y1] at q3
          rw [u2, y2] at q4
          exact fun w => w.elim q3 (fun x => absurd q4 (nt_lt.mpr x))
        · rw [u2, y2] at q4; exact nt_lt.mp q4
  have key : ∀ n' i : Nat, i + n' = 164 → ∀ hh : ax_H, ax_same (fun x => x = 88) h hh → (∀ k, k < i → ax_i hh 88 k = tini s k) → A (2, [some (.ref 77), some (.int (nI s)), some (.int (nI i))], [], hh, 0, 0) := by
    intro n'
    induction n' with
    | zero =>
      intro i hi hh hs row
      obtain rfl : i = 164 := by omega
      have m1 := mo_st_same hs m
      obtain ⟨r20, s20⟩ : ax_r hh 77 20 = some 88 ∧ ax_s hh 88 = (11, 164) := m1.2 10 _ rfl
      refine vX10_readText_2 hA ⟨fun _ => ⟨m1.1, 88, r20, fun q => B hh _ _ hs row ?_, fun q => B hh _ _ hs row ?_⟩, fun q => absurd (by decide) q⟩
      · rw [if_neg (fun z => q (s0.mpr z))]
      · rw [if_pos (s0.mp q)]
    | succ n' ih =>
      intro i hi hh hs row
      have m1 := mo_st_same hs m
      obtain ⟨r20, s20⟩ : ax_r hh 77 20 = some 88 ∧ ax_s hh 88 = (11, 164) := m1.2 10 _ rfl
      have put : ∀ v : Int32, v = tini s i → A (43, [some (.ref 77), some (.int (nI s)), some (.int (nI i))], [.int v, .int (nI i), .ref 88], hh, 0, 0) := by
        intro v hv
        refine vX10_readText_43 hA ⟨sh_k s20, by rw [s20]; exact vp_in_nI (by omega) (by decide), ?_⟩
        rw [nI_clamp (by omega), ← nI_succ]
        refine ih (i + 1) (by omega) _ (sm_tr hs (sm_pi rfl)) (fun k hk => ?_)
        by_cases e : k = i
        · rw [e, ai_eq]; exact hv
        · rw [ai_ne (by omega)]; exact row k (by omega)
      have l92 : nI i < 92 ↔ i < 92 := nI_ltI (a := i) (b := 92) (by omega) (by decide)
      have l20 : nI i < 20 ↔ i < 20 := nI_ltI (a := i) (b := 20) (by omega) (by decide)
      refine vX10_readText_2 hA ⟨fun q => absurd q (nI_ge (a := i) (b := 164) (by omega) (by decide)), fun _ => ⟨m1.1, 88, r20, fun q => ⟨fun q2 => ⟨fun q3 => put _ ?_, fun q3 => put _ ?_⟩, fun q2 => put _ ?_⟩, fun q => put _ ?_⟩⟩
      all_goals unfold tini
      · rw [if_pos (s0.mp q), if_pos (l92.mp q2), if_pos (l20.mp q3)]
      · rw [if_pos (s0.mp q), if_pos (l92.mp q2), if_neg (fun z => q3 (l20.mpr z))]
      · rw [if_pos (s0.mp q), if_neg (fun z => q2 (l92.mpr z))]
      · rw [if_neg (fun z => q (s0.mpr z))]
  exact key 164 0 (by omega) h sm_rf (fun k hk => absurd hk (Nat.not_lt_zero k))
end
