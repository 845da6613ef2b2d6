section
variable {g : ax_G} {Ret : Option Value → ax_H → Prop} {h : ax_H} {T : Nat → Int32} {n a s v : Nat} {st : lS}
theorem wL_c : wL 0 = 500219601765 ∧ wL 1 = 1869505381 ∧ wL 2 = 129116991876709 ∧ wL 3 = 448546566771 ∧ wL 4 = 1734437230 ∧ wL 5 = 1819243379 ∧ wL 6 = 123581014175598 ∧ wL 7 = 1685022067 ∧ wL 8 = 7106420 ∧ wL 9 = 495875089259 ∧ wL 10 = 111542219664996 ∧ wL 11 = 500135192942 ∧ wL 12 = 6840691 ∧ wL 13 = 1870095731 := by decide +kernel
/-- no verb of the sort -/
theorem c_noVerb (L : lb_at h T n a s st) (ev : vb T n s a = none) (hbad : lbad_K h T n a s Ret) : mX10_fails g [.ref 77] h (fun v11 h10 => ∃ r12 : Int32, v11 = some (.int r12) ∧ (r12 = 0 ∨ r12 = 1) ∧ Ret (some (.int r12)) h10) := by
  obtain ⟨t, hT, hn, ha, nz, kk, -⟩ := L
  refine c_mfails t.1.1 (fun h' r' e' => ⟨_, rfl, Or.inl rfl, hbad _ (by unfold lpx; rw [ev]) h' (mF_mg (mg_of (J' := fun k => k = 17) r' (fun x hx => Or.inr hx)) (by omega)) ?_⟩)
  rw [e']; exact kk.1
/-- a number is wanting -/
theorem c_noNum {hh h' : ax_H} {i : Nat} (L : lb_at h T n a s st) (ev : vb T n s a = some v) (hi : i < lnu v) (hb : ∀ l, l < i → tkk T n (ps T n a (l + 1)) = 2) (hbad : lbad_K h T n a s Ret) (r : mF h hh) (z : tkk T n (ps T n a (i + 1)) ≠ 2) (r' : mf (fun k => k = 17) hh h') (e' : ax_i h' 77 17 = nI (tks T n (ps T n a (i + 1)))) : Ret (some (.int 0)) h' := hbad _ (lpx_nf ev hi hb z) h' (mF_tr r (mF_mg (mg_of (J' := fun k => k = 17) r' (fun x hx => Or.inr hx)) (by omega))) e'
theorem b2i_1 : (1 : Int32) = b2i true := rfl
theorem c_weekLine (L : lb_at h T n a 1 st) (hbad : lbad_K h T n a 1 Ret) (hok : lok_K h T n a 1 st Ret) : mX10_weekLine g [.ref 77, .long (mw T n a), .int (nI (tks T n a))] h Ret := by
  obtain ⟨t, hT, hn, ha, nz, kk, tb, f, fl, pl, e24, ok⟩ := id L
  refine eX10_weekLine ⟨fun q => ⟨t.1.1, ?_⟩, fun q => ⟨t.1.1, c_noVerb L ?_ hbad⟩⟩
  · have e := lg_0.mp q
    rw [← wL_c.2.2.2.2.2.2.2.2.2.1] at e
    have ev : vb T n 1 a = some 6 := vb_of (v := 6) (by decide) e rfl
    refine c_fullV (v := 6) L (by decide) ev (fun h3 r3 t3 k3 f3 p3 e3 => ?_)
    refine c_takeV (v := 6) (i := 0) t3 hT hn ha (by decide) (by decide) rfl rfl k3 nz f3 (ntf_le fl (by decide)) p3 e3 (fun z h' r' e' => ⟨_, rfl, fun y => absurd rfl y, fun _ => ⟨Or.inl rfl, c_noNum L ev (by decide) (fun l hl => absurd hl (Nat.not_lt_zero l)) hbad (mF_mg r3 (by omega)) z r' e'⟩⟩) (fun z h' r' e89 k' f' p' _ => ⟨_, rfl, fun _ => ⟨(mg_mt r' (by omega) t3).1.1, ?_⟩, fun y => absurd y (by decide)⟩)
    refine c_keepV (v := 6) L (by decide) ev (fun l hl => ?_) (mg_tr r3 r') (fun j hj => ?_) k' f' p' hok
    · have : l < 1 := hl
      rw [show l = 0 by omega]; exact z
    · have : j < 1 := hj
      rw [show j = 0 by omega, e89]; rfl
  · cases ev : vb T n 1 a with
    | none => rfl
    | some w =>
      obtain ⟨w1, w2, w3⟩ := vb_w ev
      have : w = 6 := by
        rcases (by omega : w = 0 ∨ w = 1 ∨ w = 2 ∨ w = 3 ∨ w = 4 ∨ w = 5 ∨ w = 6 ∨ w = 7 ∨ w = 8 ∨ w = 9 ∨ w = 10) with rfl | rfl | rfl | rfl | rfl | rfl | rfl | rfl | rfl | rfl | rfl <;> first | rfl | (exact absurd w2 (by decide))
      subst this
      exact absurd (lg_0.mpr (by rw [w3]; exact wL_c.2.2.2.2.2.2.2.2.2.1)) q
theorem c_trainLine (L : lb_at h T n a 3 st) (hbad : lbad_K h T n a 3 Ret) (hok : lok_K h T n a 3 st Ret) : mX10_trainLine g [.ref 77, .long (mw T n a), .int (nI (tks T n a))] h Ret := by
  obtain ⟨t, hT, hn, ha, nz, kk, tb, f, fl, pl, e24, ok⟩ := id L
  refine eX10_trainLine ⟨fun q => ⟨t.1.1, ?_⟩, fun q => ⟨t.1.1, c_noVerb L ?_ hbad⟩⟩
  · have e := lg_0.mp q
    rw [← wL_c.2.2.2.2.2.2.2.2.2.2.2.1] at e
    have ev : vb T n 3 a = some 8 := vb_of (v := 8) (by decide) e rfl
    refine c_fullV (v := 8) L (by decide) ev (fun h3 r3 t3 k3 f3 p3 e3 => ?_)
    refine c_takeV (v := 8) (i := 0) t3 hT hn ha (by decide) (by decide) rfl rfl k3 nz f3 (ntf_le fl (by decide)) p3 e3 (fun z h' r' e' => ⟨_, rfl, fun _ => ⟨Or.inl rfl, c_noNum L ev (by decide) (fun l hl => absurd hl (Nat.not_lt_zero l)) hbad (mF_mg r3 (by omega)) z r' e'⟩, fun y => absurd rfl y⟩) (fun z h5 r5 e5 k5 f5 p5 g5 => ⟨_, rfl, fun y => absurd y (by decide), fun _ => ⟨(mg_mt r5 (by omega) t3).1.1, ?_⟩⟩)
    refine c_takeV (v := 8) (i := 1) (mg_mt r5 (by omega) t3) hT hn ha (by decide) (by decide) rfl rfl k5 (by rw [z]; decide) f5 (ntf_le fl (by decide)) p5 g5 (fun z2 h' r' e' => ⟨_, rfl, fun y => absurd rfl y, fun _ => ⟨Or.inl rfl, c_noNum L ev (by decide) (fun l hl => by rw [show l = 0 by omega]; exact z) hbad (mF_mg (mg_tr r3 r5) (by omega)) z2 r' e'⟩⟩) (fun z2 h8 r8 e8 k8 f8 p8 _ => ⟨_, rfl, fun _ => ⟨(mg_mt r8 (by omega) (mg_mt r5 (by omega) t3)).1.1, ?_⟩, fun y => absurd y (by decide)⟩)
    refine c_keepV (v := 8) L (by decide) ev (fun l hl => ?_) (mg_tr r3 (mg_tr r5 r8)) (fun j hj => ?_) k8 f8 p8 hok
    · have : l < 2 := hl
      rcases (by omega : l = 0 ∨ l = 1) with rfl | rfl
      · exact z
      · exact z2
    · have : j < 2 := hj
      rcases (by omega : j = 0 ∨ j = 1) with rfl | rfl
      · rw [e8, if_neg (by decide), e5]; rfl
      · rw [e8]; rfl
  · cases ev : vb T n 3 a with
    | none => rfl
    | some w =>
      obtain ⟨w1, w2, w3⟩ := vb_w ev
      have : w = 8 := by
        rcases (by omega : w = 0 ∨ w = 1 ∨ w = 2 ∨ w = 3 ∨ w = 4 ∨ w = 5 ∨ w = 6 ∨ w = 7 ∨ w = 8 ∨ w = 9 ∨ w = 10) with rfl | rfl | rfl | rfl | rfl | rfl | rfl | rfl | rfl | rfl | rfl <;> first | rfl | (exact absurd w2 (by decide))
      subst this
      exact absurd (lg_0.mpr (by rw [w3]; exact wL_c.2.2.2.2.2.2.2.2.2.2.2.1)) q
theorem c_errandLine (L : lb_at h T n a 2 st) (hbad : lbad_K h T n a 2 Ret) (hok : lok_K h T n a 2 st Ret) : mX10_errandLine g [.ref 77, .long (mw T n a), .int (nI (tks T n a))] h Ret := by
  obtain ⟨t, hT, hn, ha, nz, kk, tb, f, fl, pl, e24, ok⟩ := id L
  refine eX10_errandLine ⟨fun q => ⟨t.1.1, ?_⟩, fun q => ⟨t.1.1, c_noVerb L ?_ hbad⟩⟩
  · have e := lg_0.mp q
    rw [← wL_c.2.2.2.2.2.2.2.2.2.2.1] at e
    have ev : vb T n 2 a = some 7 := vb_of (v := 7) (by decide) e rfl
    refine c_fullV (v := 7) L (by decide) ev (fun h3 r3 t3 k3 f3 p3 e3 => ?_)
    refine c_takeV (v := 7) (i := 0) t3 hT hn ha (by decide) (by decide) rfl rfl k3 nz f3 (ntf_le fl (by decide)) p3 e3 (fun z h' r' e' => ⟨_, rfl, fun _ => ⟨Or.inl rfl, c_noNum L ev (by decide) (fun l hl => absurd hl (Nat.not_lt_zero l)) hbad (mF_mg r3 (by omega)) z r' e'⟩, fun y => absurd rfl y⟩) (fun z h5 r5 e5 k5 f5 p5 g5 => ⟨_, rfl, fun y => absurd y (by decide), fun _ => ⟨(mg_mt r5 (by omega) t3).1.1, ?_⟩⟩)
    have t5 := mg_mt r5 (by omega) t3
    refine c_takeV (v := 7) (i := 1) t5 hT hn ha (by decide) (by decide) rfl rfl k5 (by rw [z]; decide) f5 (ntf_le fl (by decide)) p5 g5 (fun z2 h' r' e' => ⟨_, rfl, fun _ => ⟨Or.inl rfl, c_noNum L ev (by decide) (fun l hl => by rw [show l = 0 by omega]; exact z) hbad (mF_mg (mg_tr r3 r5) (by omega)) z2 r' e'⟩, fun y => absurd rfl y⟩) (fun z2 h8 r8 e8 k8 f8 p8 g8 => ⟨_, rfl, fun y => absurd y (by decide), fun _ => ?_⟩)
    have t8 := mg_mt r8 (by omega) t5
    obtain ⟨r21, s21⟩ : ax_r h8 77 21 = some 89 ∧ ax_s h8 89 = (11, 3) := t8.1.2 11 _ rfl
    refine ⟨t8.1.1, 89, r21, sh_k s21, by rw [s21]; exact vp_in_nI (n := 1) (N := 3) (by decide) (by decide), t8.1.1, ?_⟩
    have e81 : ax_i h8 89 1 = nI (l_x T n a 1) := by rw [e8]; rfl
    rw [e81]
    refine c_takeV (v := 7) (i := 2) t8 hT hn ha (by decide) (by decide) rfl rfl k8 (by rw [z2]; decide) f8 (ntf_le fl (by decide)) p8 g8 (fun z3 h' r' e' => ⟨_, rfl, fun y => absurd rfl y, fun _ => ⟨Or.inl rfl, c_noNum L ev (by decide) (fun l hl => ?_) hbad (mF_mg (mg_tr r3 (mg_tr r5 r8)) (by omega)) z3 r' e'⟩⟩) (fun z3 h9 r9 e9 k9 f9 p9 _ => ⟨_, rfl, fun _ => ⟨(mg_mt r9 (by omega) t8).1.1, ?_⟩, fun y => absurd y (by decide)⟩)
    · rcases (by omega : l = 0 ∨ l = 1) with rfl | rfl
      · exact z
      · exact z2
    refine c_keepV (v := 7) L (by decide) ev (fun l hl => ?_) (mg_tr r3 (mg_tr r5 (mg_tr r8 r9))) (fun j hj => ?_) k9 f9 p9 hok
    · have : l < 3 := hl
      rcases (by omega : l = 0 ∨ l = 1 ∨ l = 2) with rfl | rfl | rfl
      · exact z
      · exact z2
      · exact z3
    · have : j < 3 := hj
      rcases (by omega : j = 0 ∨ j = 1 ∨ j = 2) with rfl | rfl | rfl
      · rw [e9, if_neg (by decide), e8, if_neg (by decide), e5]; rfl
      · rw [e9, if_neg (by decide), e8]; rfl
      · rw [e9]; rfl
  · cases ev : vb T n 2 a with
    | none => rfl
    | some w =>
      obtain ⟨w1, w2, w3⟩ := vb_w ev
      have : w = 7 := by
        rcases (by omega : w = 0 ∨ w = 1 ∨ w = 2 ∨ w = 3 ∨ w = 4 ∨ w = 5 ∨ w = 6 ∨ w = 7 ∨ w = 8 ∨ w = 9 ∨ w = 10) with rfl | rfl | rfl | rfl | rfl | rfl | rfl | rfl | rfl | rfl | rfl <;> first | rfl | (exact absurd w2 (by decide))
      subst this
      exact absurd (lg_0.mpr (by rw [w3]; exact wL_c.2.2.2.2.2.2.2.2.2.2.1)) q
theorem c_sightLine (L : lb_at h T n a 4 st) (hbad : lbad_K h T n a 4 Ret) (hok : lok_K h T n a 4 st Ret) : mX10_sightLine g [.ref 77, .long (mw T n a), .int (nI (tks T n a))] h Ret := by
  obtain ⟨t, hT, hn, ha, nz, kk, tb, f, fl, pl, e24, ok⟩ := id L
  have i2 : vp_in (2 : Int32) 3 := vp_in_nI (n := 2) (N := 3) (by decide) (by decide)
  -- the three numbers, and what is kept
  have fin : ∀ (v : Nat) (h11 : ax_H), (v = 9 ∨ v = 10) → vb T n 4 a = some v → (∀ l, l < 3 → tkk T n (ps T n a (l + 1)) = 2) → mg (fun k => k = 18 ∨ k = 19 ∨ k = 24) h h11 → (∀ j, j < 3 → ax_i h11 89 j = nI (l_x T n a j)) → mk_at h11 T n (ps T n a 4) → lp_at h11 (l_fp v (l_x T n a) (tks T n a) (l_q T n a) st) → ((l_fp v (l_x T n a) (tks T n a) (l_q T n a) st).1 ≠ 0 → (l_fp v (l_x T n a) (tks T n a) (l_q T n a) st).2 ≤ tks T n (ps T n a 3)) → ∀ w : Int32, w = lval v (l_x T n a) 2 → mX10_keep g [.ref 77, .int 1, .int 3, .int 6] (ax_pi h11 89 2 w) (fun v18 h17 => v18 = none ∧ ((1 : Int32) = 0 ∨ (1 : Int32) = 1) ∧ Ret (some (.int 1)) h17) := by
    intro v h11 hv ev hb r e89 k11 f11 p11 w hw
    have r' : mg (fun k => k = 18 ∨ k = 19 ∨ k = 24) h (ax_pi h11 89 2 w) := mg_tr r mg_89
    have l3 : lnu v = 3 := by rcases hv with rfl | rfl <;> rfl
    refine c_keepV (s := 4) (v := v) L (by omega) ev (fun l hl => hb l (by omega)) r' (fun j hj => ?_) ?_ ?_ (by rw [l3]; exact p11) hok
    · have : j < 3 := hj
      by_cases e : j = 2
      · rw [e, ai_eq]; exact hw
      · rw [ai_ne (by omega), e89 j (by omega)]
        unfold lval
        rw [if_neg (fun z => e z.2)]
    · rw [l3]
      exact ⟨by rw [ai_ne (by omega)]; exact k11.1, by rw [ai_ne (by omega)]; exact k11.2.1, by rw [ai_ne (by omega)]; exact k11.2.2.1, fun z => by rw [ai_ne (by omega)]; exact k11.2.2.2.1 z, fun z => k11.2.2.2.2 z⟩
    · exact ⟨by rw [ai_ne (by omega)]; exact f11.1, fun z => by rw [ai_ne (by omega)]; exact f11.2 z⟩
  have go : ∀ v : Nat, (v = 9 ∨ v = 10) → mw T n a = wL (v + 3) → ∀ h3 : ax_H, mg (fun k => k = 18 ∨ k = 19 ∨ k = 24) h h3 → mt_at h3 T n → mk_at h3 T n (ps T n a 1) → lp_at h3 (nt (l_f st, l_p st) (ltoo v st) 3 (tks T n a)) → ((nt (l_f st, l_p st) (ltoo v st) 3 (tks T n a)).1 ≠ 0 → (nt (l_f st, l_p st) (ltoo v st) 3 (tks T n a)).2 ≤ tks T n a) → ax_i h3 77 24 = 1 → mX10_take g [.ref 77, .int 0, .int 1, .int 3] h3 (fun v6 h5 => ∃ r7 : Int32, v6 = some (.int r7) ∧ (r7 = 0 → ((0 : Int32) = 0 ∨ (0 : Int32) = 1) ∧ Ret (some (.int 0)) h5) ∧ (¬ r7 = 0 → (ax_s h5 77).1 = 10 ∧ mX10_take g [.ref 77, .int 1, .int 0, .int 5] h5 (fun v9 h8 => ∃ r10 : Int32, v9 = some (.int r10) ∧ (r10 = 0 → ((0 : Int32) = 0 ∨ (0 : Int32) = 1) ∧ Ret (some (.int 0)) h8) ∧ (¬ r10 = 0 → (ax_s h8 77).1 = 10 ∧ mX10_take g [.ref 77, .int 2, .int 0, .int 999] h8 (fun v12 h11 => ∃ r13 : Int32, v12 = some (.int r13) ∧ (¬ r13 = 0 → (ax_s h11 77).1 = 10 ∧ ∃ b14 : Nat, ax_r h11 77 21 = some b14 ∧ (¬ lg_cmp (mw T n a) 1870095731 = 0 → (ax_s h11 77).1 = 10 ∧ ∃ b15 : Nat, ax_r h11 77 21 = some b15 ∧ (ax_s h11 b15).1 = 11 ∧ vp_in 2 (ax_s h11 b15).2 ∧ (ax_s h11 b14).1 = 11 ∧ vp_in 2 (ax_s h11 b14).2 ∧ (ax_s (ax_pi h11 b14 2 (ax_i h11 b15 2)) 77).1 = 10 ∧ mX10_keep g [.ref 77, .int 1, .int 3, .int 6] (ax_pi h11 b14 2 (ax_i h11 b15 2)) (fun v18 h17 => v18 = none ∧ ((1 : Int32) = 0 ∨ (1 : Int32) = 1) ∧ Ret (some (.int 1)) h17)) ∧ (lg_cmp (mw T n a) 1870095731 = 0 → (ax_s h11 77).1 = 10 ∧ ∃ b19 : Nat, ax_r h11 77 21 = some b19 ∧ (ax_s h11 b19).1 = 11 ∧ vp_in 2 (ax_s h11 b19).2 ∧ (ax_s h11 b14).1 = 11 ∧ vp_in 2 (ax_s h11 b14).2 ∧ (ax_s (ax_pi h11 b14 2 (-(ax_i h11 b19 2))) 77).1 = 10 ∧ mX10_keep g [.ref 77, .int 1, .int 3, .int 6] (ax_pi h11 b14 2 (-(ax_i h11 b19 2))) (fun v22 h21 => v22 = none ∧ ((1 : Int32) = 0 ∨ (1 : Int32) = 1) ∧ Ret (some (.int 1)) h21))) ∧ (r13 = 0 → ((0 : Int32) = 0 ∨ (0 : Int32) = 1) ∧ Ret (some (.int 0)) h11)))))) := by
    intro v hv ew h3 r3 t3 k3 f3 p3 e3
    have hv11 : v < 11 := by omega
    have ev : vb T n 4 a = some v := vb_of hv11 ew (by rcases hv with rfl | rfl <;> rfl)
    have l3 : lnu v = 3 := by rcases hv with rfl | rfl <;> rfl
    have c0 : llo v 0 = 1 ∧ lhi v 0 = 3 ∧ llo v 1 = 0 ∧ lhi v 1 = 5 ∧ llo v 2 = 0 ∧ lhi v 2 = 999 := by rcases hv with rfl | rfl <;> decide
    have n7 : ∀ i, ¬ (v = 7 ∧ i = 2) := fun i z => by omega
    refine c_takeV (v := v) (i := 0) (LO := 1) (HI := 3) t3 hT hn ha hv11 (by omega) (by rw [if_neg (n7 0), c0.1]) c0.2.1.symm k3 nz f3 (ntf_le fl (by decide)) p3 e3 (fun z h' r' e' => ⟨_, rfl, fun _ => ⟨Or.inl rfl, c_noNum L ev (by omega) (fun l hl => absurd hl (Nat.not_lt_zero l)) hbad (mF_mg r3 (by omega)) z r' e'⟩, fun y => absurd rfl y⟩) (fun z h5 r5 e5 k5 f5 p5 g5 => ⟨_, rfl, fun y => absurd y (by decide), fun _ => ⟨(mg_mt r5 (by omega) t3).1.1, ?_⟩⟩)
    have t5 := mg_mt r5 (by omega) t3
    refine c_takeV (v := v) (i := 1) (LO := 0) (HI := 5) t5 hT hn ha hv11 (by omega) (by rw [if_neg (n7 1), c0.2.2.1]) c0.2.2.2.1.symm k5 (by rw [z]; decide) f5 (ntf_le fl (by decide)) p5 g5 (fun z2 h' r' e' => ⟨_, rfl, fun _ => ⟨Or.inl rfl, c_noNum L ev (by omega) (fun l hl => by rw [show l = 0 by omega]; exact z) hbad (mF_mg (mg_tr r3 r5) (by omega)) z2 r' e'⟩, fun y => absurd rfl y⟩) (fun z2 h8 r8 e8 k8 f8 p8 g8 => ⟨_, rfl, fun y => absurd y (by decide), fun _ => ⟨(mg_mt r8 (by omega) t5).1.1, ?_⟩⟩)
    have t8 := mg_mt r8 (by omega) t5
    refine c_takeV (v := v) (i := 2) (LO := 0) (HI := 999) t8 hT hn ha hv11 (by omega) (by rw [if_neg (n7 2), c0.2.2.2.2.1]) c0.2.2.2.2.2.symm k8 (by rw [z2]; decide) f8 (ntf_le fl (by decide)) p8 g8 (fun z3 h' r' e' => ⟨_, rfl, fun y => absurd rfl y, fun _ => ⟨Or.inl rfl, c_noNum L ev (by omega) (fun l hl => ?_) hbad (mF_mg (mg_tr r3 (mg_tr r5 r8)) (by omega)) z3 r' e'⟩⟩) (fun z3 h11 r11 e11 k11 f11 p11 _ => ⟨_, rfl, fun _ => ?_, fun y => absurd y (by decide)⟩)
    · rcases (by omega : l = 0 ∨ l = 1) with rfl | rfl
      · exact z
      · exact z2
    have t11 := mg_mt r11 (by omega) t8
    obtain ⟨r21, s21⟩ : ax_r h11 77 21 = some 89 ∧ ax_s h11 89 = (11, 3) := t11.1.2 11 _ rfl
    have i2' : vp_in (2 : Int32) (ax_s h11 89).2 := by rw [s21]; exact i2
    have hb : ∀ l, l < 3 → tkk T n (ps T n a (l + 1)) = 2 := fun l hl => by
      rcases (by omega : l = 0 ∨ l = 1 ∨ l = 2) with rfl | rfl | rfl
      · exact z
      · exact z2
      · exact z3
    have e89 : ∀ j, j < 3 → ax_i h11 89 j = nI (l_x T n a j) := fun j hj => by
      rcases (by omega : j = 0 ∨ j = 1 ∨ j = 2) with rfl | rfl | rfl
      · rw [e11, if_neg (by decide), e8, if_neg (by decide), e5]; rfl
      · rw [e11, if_neg (by decide), e8]; rfl
      · rw [e11]; rfl
    have ff : lp_at h11 (l_fp v (l_x T n a) (tks T n a) (l_q T n a) st) := by unfold l_fp; rw [l3]; exact f11
    have pp : (l_fp v (l_x T n a) (tks T n a) (l_q T n a) st).1 ≠ 0 → (l_fp v (l_x T n a) (tks T n a) (l_q T n a) st).2 ≤ tks T n (ps T n a 3) := by unfold l_fp; rw [l3]; exact p11
    refine ⟨t11.1.1, 89, r21, fun q => ⟨t11.1.1, 89, r21, sh_k s21, i2', sh_k s21, i2', t11.1.1, ?_⟩, fun q => ⟨t11.1.1, 89, r21, sh_k s21, i2', sh_k s21, i2', t11.1.1, ?_⟩⟩
    · refine fin v h11 hv ev hb (mg_tr r3 (mg_tr r5 (mg_tr r8 r11))) e89 k11 ff pp _ ?_
      unfold lval
      rw [if_neg (fun z => q (lg_0.mpr (by rw [ew, z.1]; exact wL_c.2.2.2.2.2.2.2.2.2.2.2.2.2))), e89 2 (by decide)]
    · have e10 : v = 10 := by
        rcases hv with rfl | rfl
        · have := lg_0.mp q
          rw [ew, ← wL_c.2.2.2.2.2.2.2.2.2.2.2.2.2] at this
          exact absurd this (wL_ne 12 (by decide) 13 (by decide) (by decide))
        · rfl
      refine fin v h11 hv ev hb (mg_tr r3 (mg_tr r5 (mg_tr r8 r11))) e89 k11 ff pp _ ?_
      unfold lval
      rw [if_pos ⟨e10, rfl⟩, e89 2 (by decide)]
  refine eX10_sightLine ⟨fun q => ⟨t.1.1, ?_⟩, fun q => ⟨fun q2 => ⟨t.1.1, ?_⟩, fun q2 => ⟨t.1.1, c_noVerb L ?_ hbad⟩⟩⟩
  · have e := lg_0.mp q
    rw [← wL_c.2.2.2.2.2.2.2.2.2.2.2.2.1] at e
    exact c_fullV (s := 4) (v := 9) L (by decide) (vb_of (by decide) e rfl) (fun h3 r3 t3 k3 f3 p3 e3 => go 9 (Or.inl rfl) e h3 r3 t3 k3 f3 p3 e3)
  · have e := lg_0.mp q2
    rw [← wL_c.2.2.2.2.2.2.2.2.2.2.2.2.2] at e
    exact c_fullV (s := 4) (v := 10) L (by decide) (vb_of (by decide) e rfl) (fun h3 r3 t3 k3 f3 p3 e3 => go 10 (Or.inr rfl) e h3 r3 t3 k3 f3 p3 e3)
  · cases ev : vb T n 4 a with
    | none => rfl
    | some w =>
      obtain ⟨w1, w2, w3⟩ := vb_w ev
      have : w = 9 ∨ w = 10 := by
        rcases (by omega : w = 0 ∨ w = 1 ∨ w = 2 ∨ w = 3 ∨ w = 4 ∨ w = 5 ∨ w = 6 ∨ w = 7 ∨ w = 8 ∨ w = 9 ∨ w = 10) with rfl | rfl | rfl | rfl | rfl | rfl | rfl | rfl | rfl | rfl | rfl <;> first | (exact Or.inl rfl) | (exact Or.inr rfl) | (exact absurd w2 (by decide))
      rcases this with rfl | rfl
      · exact absurd (lg_0.mpr (by rw [w3]; exact wL_c.2.2.2.2.2.2.2.2.2.2.2.2.1)) q
      · exact absurd (lg_0.mpr (by rw [w3]; exact wL_c.2.2.2.2.2.2.2.2.2.2.2.2.2)) q2
end
