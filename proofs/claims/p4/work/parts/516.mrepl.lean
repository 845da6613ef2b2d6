section
variable {g : ax_G} {Ret : Option Value → ax_H → Prop} {h hh : ax_H} {T : Nat → Int32} {n a v s : Nat} {st : lS}
theorem c_republicLine (L : lb_at h T n a 0 st) (hbad : lbad_K h T n a 0 Ret) (hok : lok_K h T n a 0 st Ret) : mX10_republicLine g [.ref 77, .long (mw T n a), .int (nI (tks T n a))] h Ret := by
  obtain ⟨t, hT, hn, ha, nz, kk, tb, f, fl, pl, e24, ok⟩ := id L
  obtain ⟨b1, b2, b3, -⟩ := tk_bd (T := T) ha
  refine uX10_republicLine (fun A hA => ?_)
  -- behind the verb
  have go69 : ∀ (v : Nat) (hh : ax_H), vb T n 0 a = some v → mf (fun k => k = 18 ∨ k = 19) h hh → lp_at hh (nt (l_f st, l_p st) (ltoo v st) 3 (tks T n a)) → A (69, [some (.ref 77), some (.long (mw T n a)), none, some (.int (nI (tks T n a)))], [], hh, 0, 0) := by
    intro v hh ev r1 f1
    obtain ⟨hv, hs, ew⟩ := vb_w ev
    have v6 : v < 6 := by
      rcases (by omega : v < 6 ∨ v = 6 ∨ v = 7 ∨ v = 8 ∨ v = 9 ∨ v = 10) with w | rfl | rfl | rfl | rfl | rfl
      · exact w
      · exact absurd hs (by decide)
      · exact absurd hs (by decide)
      · exact absurd hs (by decide)
      · exact absurd hs (by decide)
      · exact absurd hs (by decide)
    have cmp : ∀ i, i < 11 → (lg_cmp (mw T n a) (wL (i + 3)) = 0 ↔ v = i) := fun i hi => by
      rw [lg_0, ew]
      constructor
      · intro e
        rcases Nat.lt_or_ge v i with w | w
        · exact absurd e (wL_ne (v + 3) (by omega) (i + 3) (by omega) (by omega))
        · rcases Nat.lt_or_ge i v with y | y
          · exact absurd e (wL_ne (v + 3) (by omega) (i + 3) (by omega) (by omega))
          · omega
      · intro e; rw [e]
    have c_0 := cmp 0 (by decide); have c_1 := cmp 1 (by decide); have c_2 := cmp 2 (by decide); have c_3 := cmp 3 (by decide); have c_4 := cmp 4 (by decide); have c_5 := cmp 5 (by decide)
    rw [show wL (0 + 3) = 448546566771 from wL_c.2.2.2.1] at c_0
    rw [show wL (1 + 3) = 1734437230 from wL_c.2.2.2.2.1] at c_1
    rw [show wL (2 + 3) = 1819243379 from wL_c.2.2.2.2.2.1] at c_2
    rw [show wL (3 + 3) = 123581014175598 from wL_c.2.2.2.2.2.2.1] at c_3
    rw [show wL (4 + 3) = 1685022067 from wL_c.2.2.2.2.2.2.2.1] at c_4
    rw [show wL (5 + 3) = 7106420 from wL_c.2.2.2.2.2.2.2.2.1] at c_5
    have t1 := mf_mt r1 (by omega) t
    refine vX10_republicLine_69 hA ⟨t1.1.1, c_mtoken (a := tkb T n a) t1 hT hn (by rw [r1.2 11 (by omega)]; exact kk.2.1) b3 (fun h6 r6 k6 => ⟨rfl, ?_⟩)⟩
    have t6 := mf_mt r6 (by omega) t1
    have R6 : mg (fun k => k = 18 ∨ k = 19 ∨ k = 24) h h6 := mg_tr (mg_of r1 (fun x hx => Or.inr (by omega))) (mg_of r6 (fun x hx => Or.inl hx))
    have p6 : (nt (l_f st, l_p st) (ltoo v st) 3 (tks T n a)).1 ≠ 0 → (nt (l_f st, l_p st) (ltoo v st) 3 (tks T n a)).2 ≤ tks T n a := fun z => by
      unfold nt at z ⊢
      split
      · exact Nat.le_refl _
      · rename_i y
        rw [if_neg y] at z
        exact Nat.le_of_lt (pl z)
    have f6 : lp_at h6 (nt (l_f st, l_p st) (ltoo v st) 3 (tks T n a)) := ⟨by rw [r6.2 18 (by omega)]; exact f1.1, fun z => by rw [r6.2 19 (by omega)]; exact f1.2 z⟩
    have g6 : ax_i h6 77 24 = 1 := by rw [r6.2 24 (by omega), r1.2 24 (by omega)]; exact e24
    have k6 : mk_at h6 T n (ps T n a 1) := k6
    have B : rb0 h h6 T n a v st := ⟨R6, k6, f6, p6, g6⟩
    have R01 : ∀ {K : Option Value → ax_H → Prop}, (∀ r h', Ret (some (.int r)) h' → (r = 0 ∨ r = 1) → K (some (.int r)) h') → lbad_K h T n a 0 K ∧ lok_K h T n a 0 st K := fun k => ⟨fun p e h' m' e17 => k 0 h' (hbad p e h' m' e17) (Or.inl rfl), fun v md e w1 w2 w3 h' m' k' tb' f' p' => k 1 h' (hok v md e w1 w2 w3 h' m' k' tb' f' p') (Or.inr rfl)⟩
    have kind : (v = 1 ∨ v = 2) → ∀ o3 : Option Value, A (89, [some (.ref 77), some (.long (mw T n a)), none, o3], [], h6, 0, 0) := by
      intro hv12 o3
      refine vX10_republicLine_89 hA ⟨fun q => ⟨t6.1.1, ?_⟩, fun q => ⟨t6.1.1, ?_⟩⟩
      · have e := c_kindLine (g := g) (Ret := fun v9 h8 => ∃ r10 : Int32, v9 = some (.int r10) ∧ (r10 = 0 ∨ r10 = 1) ∧ Ret (some (.int r10)) h8) L hv12 ev B (R01 (fun r h' hR c => ⟨r, rfl, c, hR⟩)).1 (R01 (fun r h' hR c => ⟨r, rfl, c, hR⟩)).2
        rw [if_neg (fun w => q (c_2.mpr w))] at e
        exact e
      · have e := c_kindLine (g := g) (Ret := fun v9 h8 => ∃ r10 : Int32, v9 = some (.int r10) ∧ (r10 = 0 ∨ r10 = 1) ∧ Ret (some (.int r10)) h8) L hv12 ev B (R01 (fun r h' hR c => ⟨r, rfl, c, hR⟩)).1 (R01 (fun r h' hR c => ⟨r, rfl, c, hR⟩)).2
        rw [if_pos (c_2.mp q)] at e
        exact e
    have one : (v = 4 ∨ v = 5) → ∀ o3 : Option Value, A (123, [some (.ref 77), some (.long (mw T n a)), none, o3], [], h6, 0, 0) := by
      intro hv45 o3
      refine vX10_republicLine_123 hA ⟨fun q => ⟨t6.1.1, ?_⟩, fun q => ⟨t6.1.1, ?_⟩⟩
      · have e := c_ofOne (g := g) (Ret := fun v9 h8 => ∃ r10 : Int32, v9 = some (.int r10) ∧ (r10 = 0 ∨ r10 = 1) ∧ Ret (some (.int r10)) h8) L hv45 ev B (R01 (fun r h' hR c => ⟨r, rfl, c, hR⟩)).1 (R01 (fun r h' hR c => ⟨r, rfl, c, hR⟩)).2
        rw [if_neg (fun w => q (c_5.mpr w))] at e
        exact e
      · have e := c_ofOne (g := g) (Ret := fun v9 h8 => ∃ r10 : Int32, v9 = some (.int r10) ∧ (r10 = 0 ∨ r10 = 1) ∧ Ret (some (.int r10)) h8) L hv45 ev B (R01 (fun r h' hR c => ⟨r, rfl, c, hR⟩)).1 (R01 (fun r h' hR c => ⟨r, rfl, c, hR⟩)).2
        rw [if_pos (c_5.mp q)] at e
        exact e
    -- hours, person
    have two : (v = 0 ∨ v = 3) → ∀ (LO HI : Nat) (o3 : Option Value), LO = llo v 0 → HI = lhi v 0 → A (172, [some (.ref 77), some (.long (mw T n a)), none, o3], [.int (nI HI), .int (nI LO), .int 0, .ref 77], h6, 0, 0) := by
      intro hv03 LO HI o3 eL eH
      have l1 : lnu v = 1 := by rcases hv03 with rfl | rfl <;> rfl
      have lm2 : l_m v = 2 := by unfold l_m; rw [if_neg (by omega), l1]
      refine vX10_republicLine_172 hA ⟨t6.1.1, c_takeV (v := v) (i := 0) (LO := LO) (HI := HI) t6 hT hn ha hv (by omega) (by rw [if_neg (by omega)]; exact eL) eH k6 nz f6 (ntf_le fl (by decide)) p6 g6 (fun z h' r' e' => ⟨_, rfl, fun y => absurd rfl y, fun _ => ⟨Or.inl rfl, c_noNum L ev (by omega) (fun l hl => absurd hl (Nat.not_lt_zero l)) hbad (mF_mg R6 (by omega)) z r' e'⟩⟩) (fun z h20 r20 e20 k20 f20 p20 g20 => ⟨_, rfl, fun _ => ?_, fun y => absurd y (by decide)⟩)⟩
      have t20 := mg_mt r20 (by omega) t6
      have R20 : mg (fun k => k = 18 ∨ k = 19 ∨ k = 24) h h20 := mg_tr R6 r20
      have tb20 : tb_at h20 0 st := tb_mg R20 (by omega) tb
      obtain ⟨kp, kp6, ekp, ekp0⟩ := tb_n0 ok tb20
      obtain ⟨q20, s20⟩ : ax_r h20 77 20 = some 88 ∧ ax_s h20 88 = (11, 164) := t20.1.2 10 _ rfl
      obtain ⟨q21, s21⟩ : ax_r h20 77 21 = some 89 ∧ ax_s h20 89 = (11, 3) := t20.1.2 11 _ rfl
      have i0 : vp_in (0 : Int32) (ax_s h20 89).2 := by rw [s21]; exact vp_in_nI (n := 0) (N := 3) (by decide) (by decide)
      have j0 : vp_in (0 : Int32) (ax_s h20 88).2 := by rw [s20]; exact vp_in_nI (n := 0) (N := 164) (by decide) (by decide)
      have j1 : vp_in (1 : Int32) (ax_s h20 88).2 := by rw [s20]; exact vp_in_nI (n := 1) (N := 164) (by decide) (by decide)
      have x0 : ax_i h20 89 0 = nI (l_x T n a 0) := by rw [e20]; rfl
      have elpx : lpx T n 0 a = .inr (v, 0) := lpx_no ev (fun l hl => by rw [show l = 0 by omega]; exact z) (by omega)
      have k20' : mk_at h20 T n (ps T n a (l_m v)) := by rw [lm2]; exact k20
      have ff : lp_at h20 (l_fp v (l_x T n a) (tks T n a) (l_q T n a) st) := by unfold l_fp; rw [l1]; exact f20
      have pl2 : (l_fp v (l_x T n a) (tks T n a) (l_q T n a) st).1 ≠ 0 → (l_fp v (l_x T n a) (tks T n a) (l_q T n a) st).2 < tks T n (ps T n a (l_m v)) := fun w => by
        rw [lm2]
        have a1 : (l_fp v (l_x T n a) (tks T n a) (l_q T n a) st).2 ≤ tks T n (ps T n a 1) := by
          have w := w
          unfold l_fp at w ⊢
          rw [l1] at w ⊢
          exact p20 w
        have a3 : tks T n (ps T n a 1) < tks T n (ps T n a 2) := tks_lt (T := T) (i := 1) ha (by rw [z]; decide)
        omega
      -- a write into the told row
      have fin : ∀ h' : ax_H, ax_same (fun b => b = 88) h20 h' → ((l_fp v (l_x T n a) (tks T n a) (l_q T n a) st).1 = 0 → fq_at h' (l_D (l_tell v (l_x T n a) 0 st))) → (∃ k, k ≤ 6 ∧ ax_i h' 88 1 = nI k) → Ret (some (.int 1)) h' := by
        intro h' sm c1 c2
        have e77 : ∀ j, ax_i h' 77 j = ax_i h20 77 j := (sm.2.2.2 77 (by omega)).1
        have l77 : ∀ j, ax_l h' 77 j = ax_l h20 77 j := (sm.2.2.2 77 (by omega)).2
        refine c_end0 L elpx hv hs (by decide) (mF_tr (mF_mg R20 (by omega)) ⟨sm_mono sm (fun b hb => by omega), e77 12⟩) ⟨by rw [e77]; exact k20'.1, by rw [e77]; exact k20'.2.1, by rw [e77]; exact k20'.2.2.1, fun q => by rw [e77]; exact k20'.2.2.2.1 q, fun q => by rw [l77]; exact k20'.2.2.2.2 q⟩ (fun q => ?_) (fun _ => c2) ⟨by rw [e77]; exact ff.1, fun q => by rw [e77]; exact ff.2 q⟩ pl2 hok
        obtain ⟨y1, y2, -, -⟩ := tb20.1 (l_fp_0 q).1
        refine ⟨?_, ?_, c1 q⟩
        · rw [e77, y1]; rcases hv03 with rfl | rfl <;> rfl
        · rw [e77, y2]; rcases hv03 with rfl | rfl <;> rfl
      refine ⟨fun q => ?_, fun q => ?_⟩
      · have v3 : v = 3 := by
          rcases hv03 with rfl | rfl
          · exact absurd (c_0.mpr rfl) q
          · rfl
        subst v3
        refine ⟨t20.1.1, 88, q20, sh_k s20, j1, fun q2 => ⟨Or.inr rfl, ?_⟩, fun q2 => ⟨t20.1.1, 88, q20, t20.1.1, 88, q20, sh_k s20, j1, t20.1.1, 89, q21, sh_k s21, i0, sh_k s20, ?_, t20.1.1, 88, q20, ⟨rfl, rfl⟩, sh_k s20, j1, sh_k s20, j1, Or.inr rfl, ?_⟩⟩
        · rw [ekp] at q2
          have q2 := (nI_leI (a := 6) (b := kp) (by decide) (by omega)).mp q2
          refine fin h20 sm_rf (fun w => ?_) ⟨kp, kp6, ekp⟩
          have := ekp0 (l_fp_0 w).1
          have := of_decide_eq_false (show decide (6 ≤ dP (l_D st)) = false from (l_fp_0 w).2.1)
          omega
        · rw [ekp] at q2
          have q2 := Nat.not_le.mp (fun w => q2 (nI_le (a := 6) (b := kp) w (by omega)))
          rw [ekp, show (2 : Int32) + nI kp = nI (2 + kp) from ni_c 2 kp, s20]; exact vp_in_nI (by omega) (by decide)
        · rw [ekp] at q2
          have q2 := Nat.not_le.mp (fun w => q2 (nI_le (a := 6) (b := kp) w (by omega)))
          rw [ekp, show (2 : Int32) + nI kp = nI (2 + kp) from ni_c 2 kp, nI_clamp (by omega), x0, ai_ne (h := h20) (a := 88) (b := 88) (j := 1) (by omega), ekp, ← nI_succ]
          refine fin _ (sm_tr (sm_pi rfl) (sm_pi rfl)) (fun w => ?_) ⟨kp + 1, by omega, ai_eq⟩
          have kd := ekp0 (l_fp_0 w).1
          obtain ⟨-, -, y3, -⟩ := tb20.1 (l_fp_0 w).1
          obtain ⟨u1, u2, u3, u4, u5, u6, u7⟩ := y3 rfl
          refine ⟨by rw [ai_ne (by omega), ai_ne (by omega)]; exact u1, by rw [ai_eq, kd]; rfl, fun p hp => ?_, fun k hk => by rw [ai_ne (by omega), ai_ne (by omega)]; exact u4 k hk, fun k hk => by rw [ai_ne (by omega), ai_ne (by omega)]; exact u5 k hk, fun p q hp hq => by rw [ai_ne (by omega), ai_ne (by omega)]; exact u6 p q hp hq, fun p q hp hq => by rw [ai_ne (by omega), ai_ne (by omega)]; exact u7 p q hp hq⟩
          have hp : p < dP (l_D st) + 1 := hp
          rw [ai_ne (by omega)]
          show _ = (if p = dP (l_D st) then nI (l_x T n a 0) else dpu (l_D st) p)
          by_cases e : p = dP (l_D st)
          · rw [if_pos e, e, ← kd, ai_eq]
          · rw [if_neg e, ai_ne (by omega)]; exact u3 p (by omega)
      · have v0 : v = 0 := c_0.mp q
        subst v0
        refine ⟨t20.1.1, 88, q20, t20.1.1, 89, q21, sh_k s21, i0, sh_k s20, j0, Or.inr rfl, ?_⟩
        rw [x0]
        refine fin _ (sm_pi rfl) (fun w => ?_) ⟨kp, kp6, by rw [ai_ne (by omega)]; exact ekp⟩
        obtain ⟨-, -, y3, -⟩ := tb20.1 (l_fp_0 w).1
        obtain ⟨u1, u2, u3, u4, u5, u6, u7⟩ := y3 rfl
        exact ⟨by rw [ai_eq]; rfl, by rw [ai_ne (by omega)]; exact u2, fun p hp => by rw [ai_ne (by omega)]; exact u3 p hp, fun k hk => by rw [ai_ne (by omega)]; exact u4 k hk, fun k hk => by rw [ai_ne (by omega)]; exact u5 k hk, fun p q hp hq => by rw [ai_ne (by omega)]; exact u6 p q hp hq, fun p q hp hq => by rw [ai_ne (by omega)]; exact u7 p q hp hq⟩
    refine ⟨fun q => kind (Or.inl (c_1.mp q)) _, fun q1 => ⟨fun q2 => ⟨fun q4 => one (Or.inl (c_4.mp q4)) _, fun q4 => ⟨fun q5 => ⟨fun q0 => ?_, fun q0 => ?_⟩, fun q5 => one (Or.inr (c_5.mp q5)) _⟩⟩, fun q2 => kind (Or.inr (c_2.mp q2)) _⟩⟩
    · have v3 : v = 3 := by
        have n1 : v ≠ 1 := fun w => q1 (c_1.mpr w)
        have n2 : v ≠ 2 := fun w => q2 (c_2.mpr w)
        have n4 : v ≠ 4 := fun w => q4 (c_4.mpr w)
        have n5 : v ≠ 5 := fun w => q5 (c_5.mpr w)
        have n0 : v ≠ 0 := fun w => q0 (c_0.mpr w)
        omega
      refine vX10_republicLine_156 hA ⟨fun _ => two (Or.inr v3) 0 999 _ (by rw [v3]; rfl) (by rw [v3]; rfl), fun w => absurd w q0⟩
    · have v0 : v = 0 := c_0.mp q0
      refine vX10_republicLine_156 hA ⟨fun w => absurd q0 w, fun _ => two (Or.inl v0) 2 12 _ (by rw [v0]; rfl) (by rw [v0]; rfl)⟩
  -- the verb is there
  have go53 : ∀ v, v < 6 → lg_cmp (mw T n a) (wL (v + 3)) = 0 → A (53, [some (.ref 77), some (.long (mw T n a)), none, some (.int (nI (tks T n a)))], [], h, 0, 0) := by
    intro v v6 ec
    have ew := lg_0.mp ec
    have ev : vb T n 0 a = some v := vb_of (by omega) ew (by
      rcases (by omega : v = 0 ∨ v = 1 ∨ v = 2 ∨ v = 3 ∨ v = 4 ∨ v = 5) with rfl | rfl | rfl | rfl | rfl | rfl <;> rfl)
    refine vX10_republicLine_53 hA ⟨fun q => go69 v h ev mf_rf ?_, fun q => ⟨t.1.1, ?_⟩⟩
    · have nv3 : v ≠ 3 := fun w => q (by rw [lg_0, ew, w]; exact wL_c.2.2.2.2.2.2.1)
      have lf : ltoo v st = false := by
        unfold ltoo
        rw [if_neg nv3, if_pos]
        rcases (by omega : v = 0 ∨ v = 1 ∨ v = 2 ∨ v = 3 ∨ v = 4 ∨ v = 5) with rfl | rfl | rfl | rfl | rfl | rfl <;> rfl
      rw [lf, nt_f]; exact f
    · have v3 : v = 3 := by
        have e3 := lg_0.mp q
        rw [ew, ← wL_c.2.2.2.2.2.2.1] at e3
        by_cases w : v = 3
        · exact w
        · exact absurd e3 (wL_ne (v + 3) (by omega) 6 (by decide) (by omega))
      subst v3
      obtain ⟨kp, kp6, ekp, ekp0⟩ := tb_n0 ok tb
      refine c_full2 (cnt := 1) (most := 6) t.1 (by decide) ekp kp6 (by decide) f fl (by omega) pl (fun h4 r4 f4 => ⟨rfl, go69 3 h4 ev r4 ?_⟩)
      rw [nt_too3 kp6 ekp0] at f4
      exact f4
  have w0 : wL (0 + 3) = 448546566771 := wL_c.2.2.2.1
  have w1 : wL (1 + 3) = 1734437230 := wL_c.2.2.2.2.1
  have w2 : wL (2 + 3) = 1819243379 := wL_c.2.2.2.2.2.1
  have w3 : wL (3 + 3) = 123581014175598 := wL_c.2.2.2.2.2.2.1
  have w4 : wL (4 + 3) = 1685022067 := wL_c.2.2.2.2.2.2.2.1
  have w5 : wL (5 + 3) = 7106420 := wL_c.2.2.2.2.2.2.2.2.1
  refine vX10_republicLine_0 hA ⟨fun q => go53 0 (by decide) (by rw [w0]; exact q), fun q0 => ⟨fun q => go53 1 (by decide) (by rw [w1]; exact q), fun q1 => ⟨fun q => go53 2 (by decide) (by rw [w2]; exact q), fun q2 => ⟨fun q => go53 3 (by decide) (by rw [w3]; exact q), fun q3 => ⟨fun q => go53 4 (by decide) (by rw [w4]; exact q), fun q4 => ⟨fun q => go53 5 (by decide) (by rw [w5]; exact q), fun q5 => ⟨t.1.1, c_noVerb L ?_ hbad⟩⟩⟩⟩⟩⟩⟩
  cases ev : vb T n 0 a with
  | none => rfl
  | some w =>
    obtain ⟨z1, z2, z3⟩ := vb_w ev
    rcases (by omega : w = 0 ∨ w = 1 ∨ w = 2 ∨ w = 3 ∨ w = 4 ∨ w = 5 ∨ w = 6 ∨ w = 7 ∨ w = 8 ∨ w = 9 ∨ w = 10) with rfl | rfl | rfl | rfl | rfl | rfl | rfl | rfl | rfl | rfl | rfl
    · exact absurd (lg_0.mpr (by rw [z3]; exact w0)) q0
    · exact absurd (lg_0.mpr (by rw [z3]; exact w1)) q1
    · exact absurd (lg_0.mpr (by rw [z3]; exact w2)) q2
    · exact absurd (lg_0.mpr (by rw [z3]; exact w3)) q3
    · exact absurd (lg_0.mpr (by rw [z3]; exact w4)) q4
    · exact absurd (lg_0.mpr (by rw [z3]; exact w5)) q5
    · exact absurd z2 (by decide)
    · exact absurd z2 (by decide)
    · exact absurd z2 (by decide)
    · exact absurd z2 (by decide)
    · exact absurd z2 (by decide)
end
