section
variable {g : ax_G} {Ret : Option Value → ax_H → Prop} {h hh : ax_H} {T : Nat → Int32} {n a v md : Nat} {st : lS}
theorem c_ofOne (L : lb_at h T n a 0 st) (hv : v = 4 ∨ v = 5) (ev : vb T n 0 a = some v) (B : rb0 h hh T n a v st) (hbad : lbad_K h T n a 0 Ret) (hok : lok_K h T n a 0 st Ret) : mX10_ofOne g [.ref 77, .int (if v = 5 then 1 else 0)] hh Ret := by
  obtain ⟨t, hT, hn, ha, nz, -, tb, -, fl, -, -, ok⟩ := id L
  obtain ⟨r3, k3, f3, p3, e3⟩ := B
  have t3 := mg_mt r3 (by omega) t
  have hv11 : v < 11 := by omega
  have l3 : lnu v = 3 := by rcases hv with rfl | rfl <;> rfl
  have lm4 : l_m v = 4 := by unfold l_m; rw [if_neg (by omega), l3]
  have c0 : llo v 0 = 0 ∧ lhi v 0 = 5 ∧ llo v 1 = 0 ∧ lhi v 1 = 11 ∧ llo v 2 = 0 ∧ lvs v = 0 := by rcases hv with rfl | rfl <;> decide
  have n7 : ∀ i, ¬ (v = 7 ∧ i = 2) := fun i z => by omega
  refine eX10_ofOne ⟨t3.1.1, c_takeV (v := v) (i := 0) (LO := 0) (HI := 5) t3 hT hn ha hv11 (by omega) (by rw [if_neg (n7 0), c0.1]) c0.2.1.symm k3 nz f3 (ntf_le fl (by decide)) p3 e3 (fun z h' r' e' => ⟨_, rfl, fun y => absurd rfl y, fun _ => ⟨Or.inl rfl, c_noNum L ev (by omega) (fun l hl => absurd hl (Nat.not_lt_zero l)) hbad (mF_mg r3 (by omega)) z r' e'⟩⟩) (fun z h5 r5 e5 k5 f5 p5 g5 => ⟨_, rfl, fun _ => ?_, fun y => absurd y (by decide)⟩)⟩
  have t5 := mg_mt r5 (by omega) t3
  obtain ⟨r21, s21⟩ : ax_r h5 77 21 = some 89 ∧ ax_s h5 89 = (11, 3) := t5.1.2 11 _ rfl
  have x05 : ax_i h5 89 0 = nI (l_x T n a 0) := by rw [e5]; rfl
  refine ⟨t5.1.1, t5.1.1, 89, r21, sh_k s21, by rw [s21]; exact vp_in_nI (n := 0) (N := 3) (by decide) (by decide), mx_gr ⟨_, rfl, t5.1.1, t5.1.1, ?_⟩⟩
  rw [x05]
  have R5 : mg (fun k => k = 18 ∨ k = 19 ∨ k = 24) h h5 := mg_tr r3 r5
  have m8 : mf (fun k => k = 23) h5 (ax_pi h5 77 23 (mx (ax_i h5 77 23) (nI (l_x T n a 0)))) := mf_pi rfl
  have e23 : ax_i (ax_pi h5 77 23 (mx (ax_i h5 77 23) (nI (l_x T n a 0)))) 77 23 = mx (ax_i h 77 23) (nI (l_x T n a 0)) := by rw [ai_eq, R5.2 23 (by omega) (by omega)]
  have l8 : ∀ k, ax_l (ax_pi h5 77 23 (mx (ax_i h5 77 23) (nI (l_x T n a 0)))) 77 k = ax_l h5 77 k := fun k => al_pi
  revert m8 e23 l8
  generalize ax_pi h5 77 23 (mx (ax_i h5 77 23) (nI (l_x T n a 0))) = h8
  intro m8 e23 l8
  have t8 := mf_mt m8 (by omega) t5
  have k8 : mk_at h8 T n (ps T n a 2) := ⟨by rw [m8.2 13 (by omega)]; exact k5.1, by rw [m8.2 11 (by omega)]; exact k5.2.1, by rw [m8.2 14 (by omega)]; exact k5.2.2.1, fun q => by rw [m8.2 15 (by omega)]; exact k5.2.2.2.1 q, fun q => by rw [l8]; exact k5.2.2.2.2 q⟩
  have R8 : mg (fun k => k = 18 ∨ k = 19 ∨ k = 24 ∨ k = 22 ∨ k = 23) h h8 := mg_tr (mg_mono R5 (fun k hk => by omega)) (mg_of m8 (fun k hk => Or.inr (by omega)))
  have q8 : ∀ j, ax_i h8 89 j = ax_i h5 89 j := (m8.1.2.2.2 89 (by omega)).1
  refine c_takeV (v := v) (i := 1) (LO := 0) (HI := 11) t8 hT hn ha hv11 (by omega) (by rw [if_neg (n7 1), c0.2.2.1]) c0.2.2.2.1.symm k8 (by rw [z]; decide) ⟨by rw [m8.2 18 (by omega)]; exact f5.1, fun q => by rw [m8.2 19 (by omega)]; exact f5.2 q⟩ (ntf_le fl (by decide)) p5 (by rw [m8.2 24 (by omega)]; exact g5) (fun z2 h' r' e' => ⟨_, rfl, fun y => absurd rfl y, fun _ => ⟨Or.inl rfl, c_noNum L ev (by omega) (fun l hl => by rw [show l = 0 by omega]; exact z) hbad (mF_mg R8 (by omega)) z2 r' e'⟩⟩) (fun z2 h9 r9 e9 k9 f9 p9 g9 => ⟨_, rfl, fun _ => ?_, fun y => absurd y (by decide)⟩)
  have t9 := mg_mt r9 (by omega) t8
  obtain ⟨r21', s21'⟩ : ax_r h9 77 21 = some 89 ∧ ax_s h9 89 = (11, 3) := t9.1.2 11 _ rfl
  have x19 : ax_i h9 89 1 = nI (l_x T n a 1) := by rw [e9]; rfl
  have x09 : ax_i h9 89 0 = nI (l_x T n a 0) := by rw [e9, if_neg (by decide), q8]; exact x05
  refine ⟨t9.1.1, t9.1.1, 89, r21', sh_k s21', by rw [s21']; exact vp_in_nI (n := 1) (N := 3) (by decide) (by decide), mx_gr ⟨_, rfl, t9.1.1, ?_⟩⟩
  rw [x19]
  have R9 : mg (fun k => k = 18 ∨ k = 19 ∨ k = 24 ∨ k = 22 ∨ k = 23) h h9 := mg_tr R8 (mg_mono r9 (fun k hk => by omega))
  have e22' : ax_i h9 77 22 = ax_i h 77 22 := by rw [r9.2 22 (by omega) (by omega), m8.2 22 (by omega), R5.2 22 (by omega) (by omega)]
  have e23' : ax_i h9 77 23 = mx (ax_i h 77 23) (nI (l_x T n a 0)) := by rw [r9.2 23 (by omega) (by omega)]; exact e23
  have m16 : mf (fun k => k = 22) h9 (ax_pi h9 77 22 (mx (ax_i h9 77 22) (nI (l_x T n a 1)))) := mf_pi rfl
  have f22 : ax_i (ax_pi h9 77 22 (mx (ax_i h9 77 22) (nI (l_x T n a 1)))) 77 22 = mx (ax_i h 77 22) (nI (l_x T n a 1)) := by rw [ai_eq, e22']
  have f23 : ax_i (ax_pi h9 77 22 (mx (ax_i h9 77 22) (nI (l_x T n a 1)))) 77 23 = mx (ax_i h 77 23) (nI (l_x T n a 0)) := by rw [ai_ne (by omega)]; exact e23'
  have l16 : ∀ k, ax_l (ax_pi h9 77 22 (mx (ax_i h9 77 22) (nI (l_x T n a 1)))) 77 k = ax_l h9 77 k := fun k => al_pi
  revert m16 f22 f23 l16
  generalize ax_pi h9 77 22 (mx (ax_i h9 77 22) (nI (l_x T n a 1))) = h16
  intro m16 f22 f23 l16
  have t16 := mf_mt m16 (by omega) t9
  have k16 : mk_at h16 T n (ps T n a 3) := ⟨by rw [m16.2 13 (by omega)]; exact k9.1, by rw [m16.2 11 (by omega)]; exact k9.2.1, by rw [m16.2 14 (by omega)]; exact k9.2.2.1, fun q => by rw [m16.2 15 (by omega)]; exact k9.2.2.2.1 q, fun q => by rw [l16]; exact k9.2.2.2.2 q⟩
  have R16 : mg (fun k => k = 18 ∨ k = 19 ∨ k = 24 ∨ k = 22 ∨ k = 23) h h16 := mg_tr R9 (mg_of m16 (fun k hk => Or.inr (by omega)))
  have q16 : ∀ j, ax_i h16 89 j = ax_i h9 89 j := (m16.1.2.2.2 89 (by omega)).1
  -- the third number, then the write
  have third : ∀ (HI bs : Nat) (K : Option Value → ax_H → Prop), HI = lhi v 2 → bs = (if v = 5 then 92 else 20) → (∀ h', Ret (some (.int 0)) h' → K (some (.int 0)) h') → (∀ h', mt_at h' T n → (gdr v (l_x T n a) 3 = false → ax_i h' 77 24 = 0 ∧ Ret (some (.int 1)) h') → (gdr v (l_x T n a) 3 = true → ¬ ax_i h' 77 24 = 0 ∧ (∀ j, j < 3 → ax_i h' 89 j = nI (l_x T n a j)) ∧ l_x T n a 0 ≤ 5 ∧ l_x T n a 1 ≤ 11 ∧ Ret (some (.int 1)) (ax_pi h' 88 (bs + 12 * l_x T n a 0 + l_x T n a 1) (nI (l_x T n a 2)))) → K (some (.int 1)) h') → mX10_take g [.ref 77, .int 2, .int 0, .int (nI HI)] h16 K := by
    intro HI bs K eH eb k0 k1
    refine c_takeV (v := v) (i := 2) (LO := 0) (HI := HI) t16 hT hn ha hv11 (by omega) (by rw [if_neg (n7 2), c0.2.2.2.2.1]) eH k16 (by rw [z2]; decide) ⟨by rw [m16.2 18 (by omega)]; exact f9.1, fun q => by rw [m16.2 19 (by omega)]; exact f9.2 q⟩ (ntf_le fl (by decide)) p9 (by rw [m16.2 24 (by omega)]; exact g9) (fun z3 h' r' e' => k0 h' (c_noNum L ev (by omega) (fun l hl => ?_) hbad (mF_mg R16 (by omega)) z3 r' e')) (fun z3 h17 r17 e17 k17 f17 p17 g17 => ?_)
    · rcases (by omega : l = 0 ∨ l = 1) with rfl | rfl
      · exact z
      · exact z2
    have t17 := mg_mt r17 (by omega) t16
    have R17 : mg (fun k => k = 18 ∨ k = 19 ∨ k = 24 ∨ k = 22 ∨ k = 23) h h17 := mg_tr R16 (mg_mono r17 (fun k hk => by omega))
    have e88 : ∀ j, ax_i h17 88 j = ax_i h 88 j := (R17.1.2.2.2 88 (by omega)).1
    have g22 : ax_i h17 77 22 = mx (ax_i h 77 22) (nI (l_x T n a 1)) := by rw [r17.2 22 (by omega) (by omega)]; exact f22
    have g23 : ax_i h17 77 23 = mx (ax_i h 77 23) (nI (l_x T n a 0)) := by rw [r17.2 23 (by omega) (by omega)]; exact f23
    have g17 : ax_i h17 77 24 = b2i (gdr v (l_x T n a) 3) := g17
    have hb : ∀ l, l < lnu v → tkk T n (ps T n a (l + 1)) = 2 := fun l hl => by
      rcases (by omega : l = 0 ∨ l = 1 ∨ l = 2) with rfl | rfl | rfl
      · exact z
      · exact z2
      · exact z3
    have elpx : lpx T n 0 a = .inr (v, 0) := lpx_no ev hb (by omega)
    have k17' : mk_at h17 T n (ps T n a (l_m v)) := by rw [lm4]; exact k17
    have ff : lp_at h17 (l_fp v (l_x T n a) (tks T n a) (l_q T n a) st) := by unfold l_fp; rw [l3]; exact f17
    have pl4 : (l_fp v (l_x T n a) (tks T n a) (l_q T n a) st).1 ≠ 0 → (l_fp v (l_x T n a) (tks T n a) (l_q T n a) st).2 < tks T n (ps T n a (l_m v)) := fun w => by
      rw [lm4]
      have a1 : (l_fp v (l_x T n a) (tks T n a) (l_q T n a) st).2 ≤ tks T n (ps T n a 3) := by
        have w := w
        unfold l_fp at w ⊢
        rw [l3] at w ⊢
        exact p17 w
      have a3 := tks_lt (T := T) (i := 3) ha (by rw [z3]; decide)
      have a3 : tks T n (ps T n a 3) < tks T n (ps T n a 4) := a3
      omega
    obtain ⟨kp, kp6, ekp, -⟩ := tb_n0 ok tb
    refine k1 h17 t17 (fun gd => ⟨by rw [g17, gd]; rfl, ?_⟩) (fun gd => ?_)
    · refine c_end0 L elpx hv11 c0.2.2.2.2.2 (by decide) (mF_mg R17 (by omega)) k17' (fun w => ?_) (fun _ => ⟨kp, kp6, by rw [e88]; exact ekp⟩) ff pl4 hok
      have := gdr_o (l_fp_0 w).2.2
      rw [l3, gd] at this
      cases this
    · have b0 : l_x T n a 0 ≤ 5 := by have := (lbad_f (gdr_t gd 0 (by decide))).2.1; rw [c0.2.1] at this; exact this
      have b1 : l_x T n a 1 ≤ 11 := by have := (lbad_f (gdr_t gd 1 (by decide))).2.1; rw [c0.2.2.2.1] at this; exact this
      have bs2 : bs = 20 ∨ bs = 92 := by rw [eb]; split <;> omega
      refine ⟨by rw [g17, gd]; decide, fun j hj => ?_, b0, b1, ?_⟩
      · rcases (by omega : j = 0 ∨ j = 1 ∨ j = 2) with rfl | rfl | rfl
        · rw [e17, if_neg (by decide), q16]; exact x09
        · rw [e17, if_neg (by decide), q16]; exact x19
        · rw [e17]; rfl
      · have sm : ax_same (fun b => b = 88) h17 (ax_pi h17 88 (bs + 12 * l_x T n a 0 + l_x T n a 1) (nI (l_x T n a 2))) := sm_pi rfl
        have e77 : ∀ j, ax_i (ax_pi h17 88 (bs + 12 * l_x T n a 0 + l_x T n a 1) (nI (l_x T n a 2))) 77 j = ax_i h17 77 j := (sm.2.2.2 77 (by omega)).1
        have l77 : ∀ j, ax_l (ax_pi h17 88 (bs + 12 * l_x T n a 0 + l_x T n a 1) (nI (l_x T n a 2))) 77 j = ax_l h17 77 j := (sm.2.2.2 77 (by omega)).2
        refine c_end0 L elpx hv11 c0.2.2.2.2.2 (by decide) (mF_tr (mF_mg R17 (by omega)) ⟨sm_mono sm (fun b hb => by omega), e77 12⟩) ⟨by rw [e77]; exact k17'.1, by rw [e77]; exact k17'.2.1, by rw [e77]; exact k17'.2.2.1, fun q => by rw [e77]; exact k17'.2.2.2.1 q, fun q => by rw [l77]; exact k17'.2.2.2.2 q⟩ (fun q => ?_) (fun _ => ⟨kp, kp6, by rw [ai_ne (by omega), e88]; exact ekp⟩) ⟨by rw [e77]; exact ff.1, fun q => by rw [e77]; exact ff.2 q⟩ pl4 hok
        obtain ⟨y1, y2, y3, -⟩ := tb.1 (l_fp_0 q).1
        obtain ⟨u1, u2, u3, u4, u5, u6, u7⟩ := y3 rfl
        rcases hv with rfl | rfl
        · have eb : bs = 20 := eb
          subst eb
          refine ⟨by rw [e77, g22, y1]; rfl, by rw [e77, g23, y2]; rfl, ⟨by rw [ai_ne (by omega), e88]; exact u1, by rw [ai_ne (by omega), e88]; exact u2, fun p hp => ?_, fun k hk => by rw [ai_ne (by omega), e88]; exact u4 k hk, fun k hk => by rw [ai_ne (by omega), e88]; exact u5 k hk, fun p q hp hq => ?_, fun p q hp hq => by rw [ai_ne (by omega), e88]; exact u7 p q hp hq⟩⟩
          · have : p < dP (l_D st) := hp
            have := ok.1.2.1
            rw [ai_ne (by omega), e88]; exact u3 p hp
          · show _ = (if p = l_x T n a 0 ∧ q = l_x T n a 1 then nI (l_x T n a 2) else dde (l_D st) p q)
            by_cases e : p = l_x T n a 0 ∧ q = l_x T n a 1
            · rw [if_pos e, e.1, e.2, ai_eq]
            · rw [if_neg e, ai_ne (by omega), e88]; exact u6 p q hp hq
        · have eb : bs = 92 := eb
          subst eb
          refine ⟨by rw [e77, g22, y1]; rfl, by rw [e77, g23, y2]; rfl, ⟨by rw [ai_ne (by omega), e88]; exact u1, by rw [ai_ne (by omega), e88]; exact u2, fun p hp => ?_, fun k hk => by rw [ai_ne (by omega), e88]; exact u4 k hk, fun k hk => by rw [ai_ne (by omega), e88]; exact u5 k hk, fun p q hp hq => by rw [ai_ne (by omega), e88]; exact u6 p q hp hq, fun p q hp hq => ?_⟩⟩
          · have : p < dP (l_D st) := hp
            have := ok.1.2.1
            rw [ai_ne (by omega), e88]; exact u3 p hp
          · show _ = (if p = l_x T n a 0 ∧ q = l_x T n a 1 then nI (l_x T n a 2) else dlo (l_D st) p q)
            by_cases e : p = l_x T n a 0 ∧ q = l_x T n a 1
            · rw [if_pos e, e.1, e.2, ai_eq]
            · rw [if_neg e, ai_ne (by omega), e88]; exact u7 p q hp hq
  have fin : ∀ (bs : Nat) (h17 : ax_H), bs = 20 ∨ bs = 92 → mt_at h17 T n → (∀ j, j < 3 → ax_i h17 89 j = nI (l_x T n a j)) → l_x T n a 0 ≤ 5 → l_x T n a 1 ≤ 11 → Ret (some (.int 1)) (ax_pi h17 88 (bs + 12 * l_x T n a 0 + l_x T n a 1) (nI (l_x T n a 2))) → (ax_s h17 77).1 = 10 ∧ ∃ b21 : Nat, ax_r h17 77 21 = some b21 ∧ (ax_s h17 b21).1 = 11 ∧ vp_in 0 (ax_s h17 b21).2 ∧ (ax_s h17 77).1 = 10 ∧ ∃ b22 : Nat, ax_r h17 77 21 = some b22 ∧ (ax_s h17 b22).1 = 11 ∧ vp_in 1 (ax_s h17 b22).2 ∧ (ax_s h17 77).1 = 10 ∧ ∃ b24 : Nat, ax_r h17 77 21 = some b24 ∧ (ax_s h17 b24).1 = 11 ∧ vp_in 2 (ax_s h17 b24).2 ∧ (ax_s h17 88).1 = 11 ∧ vp_in (nI bs + 12 * ax_i h17 b21 0 + ax_i h17 b22 1) (ax_s h17 88).2 ∧ ((1 : Int32) = 0 ∨ (1 : Int32) = 1) ∧ Ret (some (.int 1)) (ax_pi h17 88 (nI bs + 12 * ax_i h17 b21 0 + ax_i h17 b22 1).toNatClampNeg (ax_i h17 b24 2)) := by
    intro bs h17 hb t17 e89 b0 b1 hR
    obtain ⟨r21, s21⟩ : ax_r h17 77 21 = some 89 ∧ ax_s h17 89 = (11, 3) := t17.1.2 11 _ rfl
    obtain ⟨r20, s20⟩ : ax_r h17 77 20 = some 88 ∧ ax_s h17 88 = (11, 164) := t17.1.2 10 _ rfl
    have ei : nI bs + 12 * ax_i h17 89 0 + ax_i h17 89 1 = nI (bs + 12 * l_x T n a 0 + l_x T n a 1) := by rw [e89 0 (by decide), e89 1 (by decide), show (12 : Int32) = nI 12 from rfl, pk_mul, nI_add, nI_add]
    refine ⟨t17.1.1, 89, r21, sh_k s21, by rw [s21]; exact vp_in_nI (n := 0) (N := 3) (by decide) (by decide), t17.1.1, 89, r21, sh_k s21, by rw [s21]; exact vp_in_nI (n := 1) (N := 3) (by decide) (by decide), t17.1.1, 89, r21, sh_k s21, by rw [s21]; exact vp_in_nI (n := 2) (N := 3) (by decide) (by decide), sh_k s20, by rw [ei, s20]; exact vp_in_nI (by omega) (by decide), Or.inr rfl, ?_⟩
    rw [ei, nI_clamp (by omega), e89 2 (by decide)]
    exact hR
  refine ⟨fun q => ⟨t16.1.1, ?_⟩, fun q => ⟨t16.1.1, ?_⟩⟩
  · have hv4 : v = 4 := by
      rcases hv with rfl | rfl
      · rfl
      · exact absurd q (by decide)
    refine third 5 20 _ (by rw [hv4]; rfl) (by rw [hv4]; rfl) (fun h' hR => ⟨_, rfl, fun y => absurd rfl y, fun _ => ⟨Or.inl rfl, hR⟩⟩) (fun h17 t17 k0 k1 => ⟨_, rfl, fun _ => ⟨t17.1.1, fun y => ⟨Or.inr rfl, ?_⟩, fun y => ?_⟩, fun y => absurd y (by decide)⟩)
    · cases gd : gdr v (l_x T n a) 3 with
      | false => exact (k0 gd).2
      | true => exact absurd y (k1 gd).1
    · cases gd : gdr v (l_x T n a) 3 with
      | false => exact absurd (k0 gd).1 y
      | true =>
        obtain ⟨-, e89, b0, b1, hR⟩ := k1 gd
        obtain ⟨r20, -⟩ : ax_r h17 77 20 = some 88 ∧ ax_s h17 88 = (11, 164) := t17.1.2 10 _ rfl
        exact ⟨t17.1.1, 88, r20, fun _ => fin 20 h17 (Or.inl rfl) t17 e89 b0 b1 hR, fun w => absurd q w⟩
  · have hv5 : v = 5 := by
      rcases hv with rfl | rfl
      · exact absurd rfl q
      · rfl
    refine third 9 92 _ (by rw [hv5]; rfl) (by rw [hv5]; rfl) (fun h' hR => ⟨_, rfl, fun y => absurd rfl y, fun _ => ⟨Or.inl rfl, hR⟩⟩) (fun h17 t17 k0 k1 => ⟨_, rfl, fun _ => ⟨t17.1.1, fun y => ⟨Or.inr rfl, ?_⟩, fun y => ?_⟩, fun y => absurd y (by decide)⟩)
    · cases gd : gdr v (l_x T n a) 3 with
      | false => exact (k0 gd).2
      | true => exact absurd y (k1 gd).1
    · cases gd : gdr v (l_x T n a) 3 with
      | false => exact absurd (k0 gd).1 y
      | true =>
        obtain ⟨-, e89, b0, b1, hR⟩ := k1 gd
        obtain ⟨r20, -⟩ : ax_r h17 77 20 = some 88 ∧ ax_s h17 88 = (11, 164) := t17.1.2 10 _ rfl
        exact ⟨t17.1.1, 88, r20, fun w => absurd w q, fun _ => fin 92 h17 (Or.inr rfl) t17 e89 b0 b1 hR⟩
end
