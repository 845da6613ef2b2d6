section
variable {g : ax_G} {Ret : Option Value → ax_H → Prop} {h : ax_H} {S : sT} {Im : Nat → Option sT}
theorem q10_text {x1 x2 : Int32} {PR : Nat → rT} (a : mi_at h S Im) (ok : s_ok S) (iok : im_ok Im)
    (rd : ∀ (s : Nat) (h0 : ax_H) (Ret' : Option Value → ax_H → Prop), s < 5 → mi_at h0 (s_flt S 0 (-1)) Im → ax_i h0 77 12 = nI (s_n S) → (∀ h', ax_same mr_F h0 h' → (∀ i, 1 ≤ i → ax_i h' 80 i = ax_i h0 80 i ∧ ax_i h' 81 i = ax_i h0 81 i) → mr_at h' s (PR s) → Ret' (some (.int (b2i (decide (r_f (PR s) = 0))))) h') → mX10_readText g [.ref 77, .int (nI s)] h0 Ret')
    (hno : (sp_in x1 5 = false ∨ ∃ s, s < 5 ∧ x1 = nI s ∧ s_at S s x2 = none) → ∀ h', ax_same (fun b => 77 ≤ b ∧ b ≤ 102) h h' → mi_at h' (s_flt S 0 (-1)) Im → Ret (some (.int (-2))) h')
    (hflt : ∀ s k, s < 5 → x1 = nI s → s_at S s x2 = some k → r_f (PR s) ≠ 0 → ∀ h', ax_same (fun b => 77 ≤ b ∧ b ≤ 102) h h' → mi_at h' (s_flt S (r_f (PR s)) (r_p (PR s))) Im → Ret (some (.int (-1))) h')
    (hput : ∀ s k, s < 5 → x1 = nI s → s_at S s x2 = some k → r_f (PR s) = 0 → ∀ h', ax_same (fun b => 77 ≤ b ∧ b ≤ 102) h h' → mi_at h' (s_put S s k (PR s)) Im → Ret (some (.int (nI k))) h') : mX10_text g [.ref 77, .int x1, .int x2] h Ret := by
  have m := a.1
  obtain ⟨r2, s2⟩ : ax_r h 77 2 = some 79 ∧ ax_s h 79 = (11, 4) := m.2 1 _ rfl
  obtain ⟨r3, s3⟩ : ax_r h 77 3 = some 80 ∧ ax_s h 80 = (11, 4) := m.2 2 _ rfl
  obtain ⟨r4, s4⟩ : ax_r h 77 4 = some 81 ∧ ax_s h 81 = (11, 4) := m.2 3 _ rfl
  have in0 : vp_in (0 : Int32) 4 := vp_in_nI (n := 0) (N := 4) (by decide) (by decide)
  have i2 : vp_in (0 : Int32) (ax_s h 79).2 := by rw [s2]; exact in0
  have i3 : vp_in (0 : Int32) (ax_s h 80).2 := by rw [s3]; exact in0
  have i4 : vp_in (0 : Int32) (ax_s h 81).2 := by rw [s4]; exact in0
  have e4 : ax_i (ax_pi h 77 0 0) 79 0 = nI (s_n S) := by rw [ai_ne (by omega)]; exact a.2.1.2.1
  refine eX10_text ⟨m.1, m.1, 79, r2, sh_k s2, i2, m.1, m.1, 79, r2, sh_k s2, i2, m.1, 80, r3, sh_k s3, i3, m.1, 81, r4, sh_k s4, i4, ?_⟩
  rw [e4]
  have S9 : ax_same (fun b => b = 77 ∨ (79 ≤ b ∧ b ≤ 81)) h (ax_pi (ax_pi (ax_pi (ax_pi (ax_pi h 77 0 0) 77 12 (nI (s_n S))) 79 0 0) 80 0 0) 81 0 (-1)) := sm_tr (sm_tr (sm_tr (sm_tr (sm_pi (Or.inl rfl)) (sm_pi (Or.inl rfl))) (sm_pi (Or.inr ⟨by decide, by decide⟩))) (sm_pi (Or.inr ⟨by decide, by decide⟩))) (sm_pi (Or.inr ⟨by decide, by decide⟩))
  have E12 : ax_i (ax_pi (ax_pi (ax_pi (ax_pi (ax_pi h 77 0 0) 77 12 (nI (s_n S))) 79 0 0) 80 0 0) 81 0 (-1)) 77 12 = nI (s_n S) := by rw [ai_ne (by omega), ai_ne (by omega), ai_ne (by omega), ai_eq]
  have E79 : ax_i (ax_pi (ax_pi (ax_pi (ax_pi (ax_pi h 77 0 0) 77 12 (nI (s_n S))) 79 0 0) 80 0 0) 81 0 (-1)) 79 0 = 0 := by rw [ai_ne (by omega), ai_ne (by omega), ai_eq]
  have E80 : ax_i (ax_pi (ax_pi (ax_pi (ax_pi (ax_pi h 77 0 0) 77 12 (nI (s_n S))) 79 0 0) 80 0 0) 81 0 (-1)) 80 0 = 0 := by rw [ai_ne (by omega), ai_eq]
  have E81 : ax_i (ax_pi (ax_pi (ax_pi (ax_pi (ax_pi h 77 0 0) 77 12 (nI (s_n S))) 79 0 0) 80 0 0) 81 0 (-1)) 81 0 = -1 := ai_eq
  have EC : ∀ j, 1 ≤ j → ∀ i, 1 ≤ i → ax_i (ax_pi (ax_pi (ax_pi (ax_pi (ax_pi h 77 0 0) 77 12 (nI (s_n S))) 79 0 0) 80 0 0) 81 0 (-1)) (77 + j) i = ax_i h (77 + j) i := fun j hj i hi => by rw [ai_ne (by omega), ai_ne (by omega), ai_ne (by omega), ai_ne (by omega), ai_ne (by omega)]
  revert S9 E12 E79 E80 E81 EC
  generalize ax_pi (ax_pi (ax_pi (ax_pi (ax_pi h 77 0 0) 77 12 (nI (s_n S))) 79 0 0) 80 0 0) 81 0 (-1) = h9
  intro S9 E12 E79 E80 E81 EC
  have g9 : ag (fun b => ¬ (b = 77 ∨ (79 ≤ b ∧ b ≤ 81))) h h9 := ag_same S9 (fun x hx => hx)
  have H9 : ax_same (fun b => 77 ≤ b ∧ b ≤ 102) h h9 := sm_mono S9 (fun x hx => by omega)
  have ml9 : ml_at h9 77 0 (s_flt S 0 (-1)) := by
    refine ⟨tm_at_ag (m := 77) g9 (fun j hj => by omega) a.2.1.1, E79, E80, E81, fun i hi => ?_⟩
    rw [(g9 (77 + 1) (by omega)).2.1]; exact a.2.1.2.2.2.2 i hi
  have mi9 : mi_at h9 (s_flt S 0 (-1)) Im := mi_new (sm_mono S9 (fun x hx => by omega)) iok a ml9 (fun j j1 j2 i hi => EC j j1 i (Nat.le_trans (rwl_pos j1 j2) hi))
  have m9 := mi9.1
  have K := ok.1
  have T9 : tm_at h9 77 0 (s_z S) (s_D S) (s_N S) (s_C S) := ml9.1
  show mX10_in g [.int x1, .int 0, .int (nI 5 - 1)] h9 _
  refine c_minN (by decide) ⟨_, rfl, fun q => hno (Or.inl (b2i_0.mp q)) h9 H9 mi9, fun q => ?_⟩
  obtain ⟨s, hs5, rfl⟩ := sp_in_ix (by decide) (b2i_n0.mp q)
  have z2 : s_z S s ≤ 2 := K.1 s hs5
  -- what is read is kept
  have fin : ∀ (k : Nat) (h16 : ax_H) (v : Int32), k < 2 → k ≤ s_z S s → s_at S s x2 = some k → r_f (PR s) = 0 → ax_same mr_F h9 h16 → (∀ i, 1 ≤ i → ax_i h16 80 i = ax_i h9 80 i ∧ ax_i h16 81 i = ax_i h9 81 i) → mr_at h16 s (PR s) → v = nI (if s_z S s < k + 1 then k + 1 else s_z S s) → mX10_storeAll g [.ref 77, .int (nI s), .int (nI k)] (ax_pi h16 82 s v) (fun v22 h21 => v22 = none ∧ Ret (some (.int (nI k))) h21) := by
    intro k h16 v hk hkz hat hz s16 e16 mr16 hv
    have sp : ax_same (fun x => x = 82) h16 (ax_pi h16 82 s v) := sm_pi rfl
    have ep : ∀ i, ax_i (ax_pi h16 82 s v) 82 i = if i = s then v else ax_i h16 82 i := fun i => by
      by_cases e : i = s
      · rw [if_pos e, e, ai_eq]
      · rw [if_neg e, ai_ne (by omega)]
    revert sp ep
    generalize ax_pi h16 82 s v = h20
    intro sp ep
    have m20 : mo_st h20 77 := mo_st_same sp (mo_st_same s16 m9)
    refine c_mstoreAll m20 hs5 hk (fun h21 s21 t1 t2 => ⟨rfl, ?_⟩)
    have H21 : ax_same (fun b => 77 ≤ b ∧ b ≤ 101) h9 h21 := sm_tr (sm_mono s16 (fun x hx => by unfold mr_F at hx; omega)) (sm_tr (sm_mono sp (fun x hx => by omega)) (sm_mono s21 (fun x hx => by omega)))
    have g16 : ag (fun b => ¬ mr_F b) h9 h16 := ag_same s16 (fun x hx => hx)
    have g20 : ag (fun b => b ≠ 82) h16 h20 := ag_same sp (fun x hx => hx)
    have g21 : ag (fun b => b ≠ 83 + s) h20 h21 := ag_same s21 (fun x hx => hx)
    have k1 : ∀ b, b ≠ 82 → b ≠ 83 + s → ∀ i, ax_i h21 b i = ax_i h16 b i := fun b q1 q2 i => ((g21 b q2).2.1 i).trans ((g20 b q1).2.1 i)
    have k2 : ∀ b, ¬ mr_F b → b ≠ 82 → b ≠ 83 + s → ∀ i, ax_i h21 b i = ax_i h9 b i := fun b q0 q1 q2 i => (k1 b q1 q2 i).trans ((g16 b q0).2.1 i)
    obtain ⟨f1, f2, f3⟩ := mr16
    have k88 : ∀ i, ax_i h21 88 i = ax_i h16 88 i := k1 88 (by omega) (by omega)
    have e82 : ∀ i, i ≠ s → ax_i h21 82 i = ax_i h9 82 i := fun i hi => by rw [(g21 82 (by omega)).2.1, ep, if_neg hi, (g16 82 (by unfold mr_F; omega)).2.1]
    refine hput s k hs5 rfl hat hz h21 (sm_tr H9 (sm_mono H21 (fun x hx => by omega))) (mi_new H21 iok mi9 (ml_put ml9 ok hs5 hkz (fun q hq => ?_) (fun q hq hne i => k2 _ (by unfold mr_F; omega) (by omega) (by omega) i) (fun i hi => ?_) (fun i hi => ?_) ((k2 79 (by unfold mr_F; omega) (by omega) (by omega) 0).trans E79) ((k1 80 (by omega) (by omega) 0).trans (f1.trans hz)) ((k1 81 (by omega) (by omega) 0).trans f2) (fun i => k2 78 (by unfold mr_F; omega) (by omega) (by omega) i) ⟨fun z => ?_, fun z => ?_⟩) (fun j j1 j2 i hi => ?_))
    · by_cases e : q = s
      · rw [if_pos e, (g21 82 (by omega)).2.1, ep, if_pos e]; exact hv
      · rw [if_neg e, e82 q e]
        have := T9.1 q hq
        rwa [Nat.mul_zero, Nat.zero_add] at this
    · rw [t2 i hi, (g20 (83 + s) (by omega)).2.1, (g16 (83 + s) (by unfold mr_F; omega)).2.1]
    · rw [t1 i hi, ← (g21 88 (by omega)).2.1]
    · have := (f3 hz).1 z
      unfold rq_at at this ⊢
      simp only [k88]
      exact this
    · have := (f3 hz).2 z
      unfold rl_at at this ⊢
      simp only [k88]
      exact this
    · have i1 : 1 ≤ i := Nat.le_trans (rwl_pos j1 j2) hi
      by_cases e5 : j = 5
      · subst e5
        exact e82 i (by have : 5 ≤ i := hi; omega)
      by_cases e6 : j = 6 + s
      · subst e6
        have w := lX_rwl hs5
        rw [show 77 + (6 + s) = 83 + s by omega, t2 i (fun q => by
          rw [w.1] at hi
          have k01 : k = 0 ∨ k = 1 := by omega
          rcases k01 with rfl | rfl <;> omega), (g20 (83 + s) (by omega)).2.1, (g16 (83 + s) (by unfold mr_F; omega)).2.1]
      by_cases e3 : j = 3
      · subst e3
        exact (k1 80 (by omega) (by omega) i).trans (e16 i i1).1
      by_cases e4 : j = 4
      · subst e4
        exact (k1 81 (by omega) (by omega) i).trans (e16 i i1).2
      exact k2 (77 + j) (by unfold mr_F; omega) (by omega) (by omega) i
  -- what is read has a fault
  have flt : ∀ (k : Nat) (h16 : ax_H), s_at S s x2 = some k → r_f (PR s) ≠ 0 → ax_same mr_F h9 h16 → (∀ i, 1 ≤ i → ax_i h16 80 i = ax_i h9 80 i ∧ ax_i h16 81 i = ax_i h9 81 i) → mr_at h16 s (PR s) → Ret (some (.int (-1))) h16 := by
    intro k h16 hat hz s16 e16 mr16
    have g16 : ag (fun b => ¬ mr_F b) h9 h16 := ag_same s16 (fun x hx => hx)
    refine hflt s k hs5 rfl hat hz h16 (sm_tr H9 (sm_mono s16 (fun x hx => by unfold mr_F at hx; omega))) (mi_new (sm_mono s16 (fun x hx => by unfold mr_F at hx; omega)) iok mi9 ⟨tm_at_ag (m := 77) g16 (fun j hj => by unfold mr_F; omega) T9, ?_, mr16.1, mr16.2.1, fun i hi => ?_⟩ (fun j j1 j2 i hi => ?_))
    · rw [(g16 (77 + 2) (by unfold mr_F; omega)).2.1]; exact E79
    · rw [(g16 (77 + 1) (by unfold mr_F; omega)).2.1]; exact ml9.2.2.2.2 i hi
    · have i1 : 1 ≤ i := Nat.le_trans (rwl_pos j1 j2) hi
      by_cases e3 : j = 3
      · subst e3; exact (e16 i i1).1
      by_cases e4 : j = 4
      · subst e4; exact (e16 i i1).2
      rw [(g16 (77 + j) (by unfold mr_F; omega)).2.1]
  obtain ⟨r5, s5⟩ : ax_r h9 77 5 = some 82 ∧ ax_s h9 82 = (11, 20) := m9.2 4 _ rfl
  have ez : ax_i h9 82 s = nI (s_z S s) := by have := T9.1 s hs5; rwa [Nat.mul_zero, Nat.zero_add] at this
  have in5 : vp_in (nI s) 20 := vp_in_nI (by omega) (by decide)
  have two : ∀ {v : Int32}, Value.category (.int v) = 1 ∧ Value.category (.ref 82) = 1 := ⟨rfl, rfl⟩
  refine ⟨fun hx => ⟨m9.1, mi_is m9 T9 K hs5 ⟨_, rfl, fun q2 => ⟨m9.1, ?_⟩, fun q2 => hno (Or.inr ⟨s, hs5, rfl, ?_⟩) h9 H9 mi9⟩⟩, fun hx => ⟨m9.1, 82, r5, sh_k s5, by rw [s5]; exact in5, fun q2 => ⟨m9.1, ?_⟩, fun q2 => hno (Or.inr ⟨s, hs5, rfl, ?_⟩) h9 H9 mi9⟩⟩
  · obtain ⟨k, hk, rfl⟩ := sp_in_ix (by omega) (b2i_n0.mp q2)
    have hat : s_at S s (nI k) = some k := by unfold s_at; rw [if_neg hx, sp_in_nI (by omega) hk, if_pos rfl, nI_clamp (by omega)]
    refine rd s h9 _ hs5 mi9 E12 (fun h16 s16 e16 mr16 => ⟨_, rfl, fun q3 => ⟨fun _ => ?_, fun z => absurd z hx⟩, fun q3 => flt k h16 hat (of_decide_eq_false (b2i_0.mp q3)) s16 e16 mr16⟩)
    have hz := of_decide_eq_true (b2i_n0.mp q3)
    have m16 := mo_st_same s16 m9
    obtain ⟨r5', s5'⟩ : ax_r h16 77 5 = some 82 ∧ ax_s h16 82 = (11, 20) := m16.2 4 _ rfl
    have ez' : ax_i h16 82 s = nI (s_z S s) := by rw [(s16.2.2.2 82 (by unfold mr_F; omega)).1]; exact ez
    refine ⟨m16.1, 82, r5', two, sh_k s5', by rw [s5']; exact in5, fun _ => ⟨sh_k s5', by rw [s5']; exact in5, m16.1, ?_⟩, fun z => absurd z hx⟩
    rw [nI_clamp (by omega), ez']
    refine fin k h16 _ (by omega) (by omega) hat hz s16 e16 mr16 ?_
    rw [if_neg (by omega)]
    exact Int32.add_zero _
  · unfold s_at; rw [if_neg hx, b2i_0.mp q2]; rfl
  · rw [nI_clamp (by omega), ez] at q2
    have zz : s_z S s < 2 := by
      rcases Nat.lt_or_ge (s_z S s) 2 with z | z
      · exact z
      · exact absurd (by rw [show s_z S s = 2 by omega]; rfl) q2
    have hat : s_at S s x2 = some (s_z S s) := by unfold s_at; rw [if_pos hx, if_pos zz]
    refine rd s h9 _ hs5 mi9 E12 (fun h16 s16 e16 mr16 => ⟨_, rfl, fun q3 => ⟨fun z => absurd hx z, fun _ => ?_⟩, fun q3 => flt (s_z S s) h16 hat (of_decide_eq_false (b2i_0.mp q3)) s16 e16 mr16⟩)
    have hz := of_decide_eq_true (b2i_n0.mp q3)
    have m16 := mo_st_same s16 m9
    obtain ⟨r5', s5'⟩ : ax_r h16 77 5 = some 82 ∧ ax_s h16 82 = (11, 20) := m16.2 4 _ rfl
    have ez' : ax_i h16 82 s = nI (s_z S s) := by rw [(s16.2.2.2 82 (by unfold mr_F; omega)).1]; exact ez
    refine ⟨m16.1, 82, r5', sh_k s5', by rw [s5']; exact in5, m16.1, 82, r5', two, sh_k s5', by rw [s5']; exact in5, fun z => absurd hx z, fun _ => ⟨sh_k s5', by rw [s5']; exact in5, m16.1, ?_⟩⟩
    rw [nI_clamp (by omega), ez']
    refine fin (s_z S s) h16 _ zz (Nat.le_refl _) hat hz s16 e16 mr16 ?_
    rw [if_pos (by omega), nI_succ]
  · rw [nI_clamp (by omega), ez] at q2
    unfold s_at
    rw [if_pos hx, if_neg]
    intro z
    have := (nI_eq (a := s_z S s) (b := 2) (by omega) (by decide)).mp q2
    omega
end
