section
variable {g : ax_G} {Ret : Option Value → ax_H → Prop} {h hh : ax_H} {T : Nat → Int32} {n a v md : Nat} {st : lS}
/-! lines of a republic, told by the reference -/
theorem tb0_line {x q : Nat → Nat} {q0 : Nat} (c1 : (l_fp v x q0 q st).1 = 0 → ax_i h 77 22 = l_h (l_tell v x md st) ∧ ax_i h 77 23 = l_o (l_tell v x md st) ∧ fq_at h (l_D (l_tell v x md st))) (c2 : (l_fp v x q0 q st).1 ≠ 0 → ∃ k, k ≤ 6 ∧ ax_i h 88 1 = nI k) : tb_at h 0 (l_line v x md q0 q st) := by
  unfold l_line
  by_cases z : (l_fp v x q0 q st).1 = 0
  · rw [if_pos z]
    obtain ⟨a1, a2, a3⟩ := c1 z
    refine ⟨fun _ => ⟨a1, a2, fun _ => a3, fun q => absurd q (by decide)⟩, fun w => absurd ?_ w⟩
    rw [l_tell_f.1]; exact (l_fp_0 z).1
  · rw [if_neg z]
    exact ⟨fun w => absurd w z, fun _ => ⟨fun _ => c2 z, fun q => absurd q (by decide)⟩⟩
theorem c_end0 (L : lb_at h T n a 0 st) (elpx : lpx T n 0 a = .inr (v, md)) (hv : v < 11) (hs : lvs v = 0) (hmd : md < 3) (rF : mF h hh) (kk : mk_at hh T n (ps T n a (l_m v))) (c1 : (l_fp v (l_x T n a) (tks T n a) (l_q T n a) st).1 = 0 → ax_i hh 77 22 = l_h (l_tell v (l_x T n a) md st) ∧ ax_i hh 77 23 = l_o (l_tell v (l_x T n a) md st) ∧ fq_at hh (l_D (l_tell v (l_x T n a) md st))) (c2 : (l_fp v (l_x T n a) (tks T n a) (l_q T n a) st).1 ≠ 0 → ∃ k, k ≤ 6 ∧ ax_i hh 88 1 = nI k) (f : lp_at hh (l_fp v (l_x T n a) (tks T n a) (l_q T n a) st)) (pl : (l_fp v (l_x T n a) (tks T n a) (l_q T n a) st).1 ≠ 0 → (l_fp v (l_x T n a) (tks T n a) (l_q T n a) st).2 < tks T n (ps T n a (l_m v))) (hok : lok_K h T n a 0 st Ret) : Ret (some (.int 1)) hh := by
  have e := l_line_fp (v := v) (st := st) (x := l_x T n a) (md := md) (q0 := tks T n a) (q := l_q T n a)
  refine hok v md elpx hv hs hmd hh rF kk (tb0_line c1 c2) (by rw [e]; exact f) (fun z => ?_)
  have e1 : l_f (l_line v (l_x T n a) md (tks T n a) (l_q T n a) st) = (l_fp v (l_x T n a) (tks T n a) (l_q T n a) st).1 := congrArg Prod.fst e
  have e2 : l_p (l_line v (l_x T n a) md (tks T n a) (l_q T n a) st) = (l_fp v (l_x T n a) (tks T n a) (l_q T n a) st).2 := congrArg Prod.snd e
  rw [e1] at z
  rw [e2]; exact pl z
theorem mx_gr {x y : Int32} (hq : Ret (some (.int (mx x y))) h) : mX10_greater g [.int x, .int y] h Ret := by
  unfold mx at hq
  refine eX10_greater ⟨fun q => ?_, fun q => ?_⟩
  · by_cases z : x < y
    · rw [if_pos z] at hq; exact hq
    · rw [if_neg z] at hq
      have : x = y := i_inj (by have := i_le.mp q; have := i_le.mp (nt_lt.mp z); omega)
      rw [← this]; exact hq
  · rw [if_neg (fun z => q (i_le.mpr (by have := i_lt.mp z; omega)))] at hq; exact hq
/-- what a republic's line stands on, behind its verb -/
def rb0 (h hh : ax_H) (T : Nat → Int32) (n a v : Nat) (st : lS) : Prop := mg (fun k => k = 18 ∨ k = 19 ∨ k = 24) h hh ∧ mk_at hh T n (ps T n a 1) ∧ lp_at hh (nt (l_f st, l_p st) (ltoo v st) 3 (tks T n a)) ∧ ((nt (l_f st, l_p st) (ltoo v st) 3 (tks T n a)).1 ≠ 0 → (nt (l_f st, l_p st) (ltoo v st) 3 (tks T n a)).2 ≤ tks T n a) ∧ ax_i hh 77 24 = 1
theorem c_kindLine (L : lb_at h T n a 0 st) (hv : v = 1 ∨ v = 2) (ev : vb T n 0 a = some v) (B : rb0 h hh T n a v st) (hbad : lbad_K h T n a 0 Ret) (hok : lok_K h T n a 0 st Ret) : mX10_kindLine g [.ref 77, .int (if v = 2 then 1 else 0)] hh Ret := by
  obtain ⟨t, hT, hn, ha, nz, -, tb, -, fl, -, -, ok⟩ := id L
  obtain ⟨r3, k3, f3, p3, e3⟩ := B
  have t3 := mg_mt r3 (by omega) t
  have hv11 : v < 11 := by omega
  have l2 : lnu v = 2 := by rcases hv with rfl | rfl <;> rfl
  have lm4 : l_m v = 4 := by unfold l_m; rw [if_pos hv, l2]
  have c0 : llo v 0 = 0 ∧ lhi v 0 = 5 ∧ llo v 1 = 0 ∧ lhi v 1 = 99 ∧ lvs v = 0 := by rcases hv with rfl | rfl <;> decide
  have n7 : ∀ i, ¬ (v = 7 ∧ i = 2) := fun i z => by omega
  refine uX10_kindLine (fun A hA => vX10_kindLine_0 hA ⟨t3.1.1, c_takeV (v := v) (i := 0) (LO := 0) (HI := 5) t3 hT hn ha hv11 (by omega) (by rw [if_neg (n7 0), c0.1]) c0.2.1.symm k3 nz f3 (ntf_le fl (by decide)) p3 e3 (fun z h' r' e' => ⟨_, rfl, fun _ => ⟨Or.inl rfl, c_noNum L ev (by omega) (fun l hl => absurd hl (Nat.not_lt_zero l)) hbad (mF_mg r3 (by omega)) z r' e'⟩, fun y => absurd rfl y⟩) (fun z h5 r5 e5 k5 f5 p5 g5 => ⟨_, rfl, fun y => absurd y (by decide), fun _ => ⟨(mg_mt r5 (by omega) t3).1.1, ?_⟩⟩)⟩)
  have t5 := mg_mt r5 (by omega) t3
  refine c_takeV (v := v) (i := 1) (LO := 0) (HI := 99) t5 hT hn ha hv11 (by omega) (by rw [if_neg (n7 1), c0.2.2.1]) c0.2.2.2.1.symm k5 (by rw [z]; decide) f5 (ntf_le fl (by decide)) p5 g5 (fun z2 h' r' e' => ⟨_, rfl, fun y => absurd rfl y, fun _ => ⟨Or.inl rfl, c_noNum L ev (by omega) (fun l hl => by rw [show l = 0 by omega]; exact z) hbad (mF_mg (mg_tr r3 r5) (by omega)) z2 r' e'⟩⟩) (fun z2 h4 r4 e4 k4 f4 p4 g4 => ⟨_, rfl, fun _ => ?_, fun y => absurd y (by decide)⟩)
  have t4 := mg_mt r4 (by omega) t5
  have R4 : mg (fun k => k = 18 ∨ k = 19 ∨ k = 24) h h4 := mg_tr r3 (mg_tr r5 r4)
  have k4 : mk_at h4 T n (ps T n a 3) := k4
  have enf : nf T n a (lnu v) 0 = none := nf_none _ 0 (fun l _ hl => by
    rcases (by omega : l = 0 ∨ l = 1) with rfl | rfl
    · exact z
    · exact z2)
  have emw : tkk T n (ps T n a 3) = 1 → ax_l h4 77 16 = mw T n (ps T n a 3) := fun w => by rw [k4.2.2.2.2 w]; unfold mw; rw [if_pos w]
  have tb4 : tb_at h4 0 st := tb_mg R4 (by omega) tb
  have x0 : ax_i h4 89 0 = nI (l_x T n a 0) := by rw [e4, if_neg (by decide), e5]; rfl
  have x1 : ax_i h4 89 1 = nI (l_x T n a 1) := by rw [e4]; rfl
  have xb0 := l_x_le (T := T) ha 0
  have ff : lp_at h4 (l_fp v (l_x T n a) (tks T n a) (l_q T n a) st) := by unfold l_fp; rw [l2]; exact f4
  have pp : (l_fp v (l_x T n a) (tks T n a) (l_q T n a) st).1 ≠ 0 → (l_fp v (l_x T n a) (tks T n a) (l_q T n a) st).2 ≤ tks T n (ps T n a 2) := by unfold l_fp; rw [l2]; exact p4
  have g4 : ax_i h4 77 24 = b2i (gdr v (l_x T n a) 2) := g4
  -- without a mode
  have nomode : mdw T n (ps T n a 3) = none → ∀ (o2 : Option Value) (y1 : Int32), A (81, [some (.ref 77), some (.int y1), o2], [.int (-1)], h4, 0, 0) := by
    intro em o2 y1
    refine vX10_kindLine_81 hA ⟨fun q => absurd rfl q, fun _ => ⟨t4.1.1, c_mfails t4.1.1 (fun h' r' e' => ⟨_, rfl, Or.inl rfl, hbad _ ?_ h' (mF_tr (mF_mg R4 (by omega)) (mF_mg (mg_of (J' := fun k => k = 17) r' (fun x hx => Or.inr hx)) (by omega))) (by rw [e']; exact k4.1)⟩)⟩⟩
    unfold lpx
    rw [ev]
    dsimp only
    rw [enf]
    dsimp only
    rw [if_pos hv, l2, em]
  -- with a mode
  have mode : ∀ m : Nat, mdw T n (ps T n a 3) = some m → ∀ o2 : Option Value, A (81, [some (.ref 77), some (.int (if v = 2 then 1 else 0)), o2], [.int (nI m)], h4, 0, 0) := by
    intro m em o2
    have m3 := mdw_lt em
    have elpx : lpx T n 0 a = .inr (v, m) := by
      unfold lpx
      rw [ev]
      dsimp only
      rw [enf]
      dsimp only
      rw [if_pos hv, l2, em]
    have nz3 : tkk T n (ps T n a 3) ≠ 0 := fun w => by
      unfold mdw tw at em
      have nn : ∀ i, decide (tkk T n (ps T n a 3) = 1 ∧ tkb T n (ps T n a 3) - tks T n (ps T n a 3) = ax_sl.getD i 0 ∧ ∀ j, j < ax_sl.getD i 0 → T (tks T n (ps T n a 3) + j) = (ax_sb.getD i []).getD j 0) = false := fun i => decide_eq_false (fun q => by rw [w] at q; exact absurd q.1 (by decide))
      rw [nn 0, nn 1, nn 2] at em
      cases em
    have pl4 : (l_fp v (l_x T n a) (tks T n a) (l_q T n a) st).1 ≠ 0 → (l_fp v (l_x T n a) (tks T n a) (l_q T n a) st).2 < tks T n (ps T n a (l_m v)) := fun w => by
      rw [lm4]
      have a1 := pp w
      have a2 := tks_lt (T := T) (i := 2) ha (by rw [z2]; decide)
      have a3 := tks_lt (T := T) (i := 3) ha nz3
      have a2 : tks T n (ps T n a 2) < tks T n (ps T n a 3) := a2
      have a3 : tks T n (ps T n a 3) < tks T n (ps T n a 4) := a3
      omega
    refine vX10_kindLine_81 hA ⟨fun _ => ⟨t4.1.1, c_mnext t4 hT hn (ps_le ha 3).2 k4 (fun h7 r7 k7 => ⟨rfl, ?_⟩)⟩, fun q => absurd q (nI_nm1 (by omega))⟩
    have t7 := mf_mt r7 (by omega) t4
    have R7 : mg (fun k => k = 18 ∨ k = 19 ∨ k = 24) h h7 := mg_tr R4 (mg_of r7 (fun x hx => Or.inl hx))
    have tb7 : tb_at h7 0 st := tb_mg R7 (by omega) tb
    have k7 : mk_at h7 T n (ps T n a (l_m v)) := by rw [lm4]; exact k7
    have f7 : lp_at h7 (l_fp v (l_x T n a) (tks T n a) (l_q T n a) st) := ⟨by rw [r7.2 18 (by omega)]; exact ff.1, fun w => by rw [r7.2 19 (by omega)]; exact ff.2 w⟩
    have g7 : ax_i h7 77 24 = b2i (gdr v (l_x T n a) 2) := by rw [r7.2 24 (by omega)]; exact g4
    obtain ⟨kp, kp6, ekp, ekp0⟩ := tb_n0 ok tb7
    obtain ⟨r20, s20⟩ : ax_r h7 77 20 = some 88 ∧ ax_s h7 88 = (11, 164) := t7.1.2 10 _ rfl
    obtain ⟨r21, s21⟩ : ax_r h7 77 21 = some 89 ∧ ax_s h7 89 = (11, 3) := t7.1.2 11 _ rfl
    have x07 : ax_i h7 89 0 = nI (l_x T n a 0) := by rw [(r7.1.2.2.2 89 (by omega)).1]; exact x0
    have x17 : ax_i h7 89 1 = nI (l_x T n a 1) := by rw [(r7.1.2.2.2 89 (by omega)).1]; exact x1
    have i0 : vp_in (0 : Int32) (ax_s h7 89).2 := by rw [s21]; exact vp_in_nI (n := 0) (N := 3) (by decide) (by decide)
    have i1 : vp_in (1 : Int32) (ax_s h7 89).2 := by rw [s21]; exact vp_in_nI (n := 1) (N := 3) (by decide) (by decide)
    -- the writes
    have wr : ∀ w : Int32, w = (if v = 2 then -(nI (l_x T n a 1)) else nI (l_x T n a 1)) → gdr v (l_x T n a) 2 = true → A (136, [some (.ref 77), some (.int (if v = 2 then 1 else 0)), some (.int (nI m))], [.int w, .int ((8 : Int32) + ax_i h7 89 0), .ref 88], h7, 0, 0) := by
      intro w hw gd
      have b0 : l_x T n a 0 ≤ 5 := by have := (lbad_f (gdr_t gd 0 (by decide))).2.1; rw [c0.2.1] at this; exact this
      have e8 : (8 : Int32) + ax_i h7 89 0 = nI (8 + l_x T n a 0) := by rw [x07]; exact ni_c 8 _
      have e14 : (14 : Int32) + nI (l_x T n a 0) = nI (14 + l_x T n a 0) := ni_c 14 _
      rw [e8]
      refine vX10_kindLine_136 hA ⟨sh_k s20, by rw [s20]; exact vp_in_nI (by omega) (by decide), t7.1.1, 88, r20, t7.1.1, 89, r21, sh_k s21, i0, sh_k s20, ?_, Or.inr rfl, ?_⟩
      · rw [ai_ne (by omega), x07, e14]
        show vp_in _ (ax_s h7 88).2
        rw [s20]; exact vp_in_nI (by omega) (by decide)
      · rw [nI_clamp (by omega), ai_ne (h := h7) (a := 88) (b := 89) (by omega), x07, e14, nI_clamp (by omega)]
        have sm : ax_same (fun b => b = 88) h7 (ax_pi (ax_pi h7 88 (8 + l_x T n a 0) w) 88 (14 + l_x T n a 0) (nI m)) := sm_tr (sm_pi rfl) (sm_pi rfl)
        have e77 : ∀ j, ax_i (ax_pi (ax_pi h7 88 (8 + l_x T n a 0) w) 88 (14 + l_x T n a 0) (nI m)) 77 j = ax_i h7 77 j := (sm.2.2.2 77 (by omega)).1
        have l77 : ∀ j, ax_l (ax_pi (ax_pi h7 88 (8 + l_x T n a 0) w) 88 (14 + l_x T n a 0) (nI m)) 77 j = ax_l h7 77 j := (sm.2.2.2 77 (by omega)).2
        refine c_end0 L elpx hv11 c0.2.2.2.2 m3 (mF_tr (mF_mg R7 (by omega)) ⟨sm_mono sm (fun b hb => by omega), e77 12⟩) ⟨by rw [e77]; exact k7.1, by rw [e77]; exact k7.2.1, by rw [e77]; exact k7.2.2.1, fun q => by rw [e77]; exact k7.2.2.2.1 q, fun q => by rw [l77]; exact k7.2.2.2.2 q⟩ (fun q => ?_) (fun _ => ⟨kp, kp6, by rw [ai_ne (by omega), ai_ne (by omega)]; exact ekp⟩) ⟨by rw [e77]; exact f7.1, fun q => by rw [e77]; exact f7.2 q⟩ pl4 hok
        obtain ⟨y1, y2, y3, -⟩ := tb7.1 (l_fp_0 q).1
        obtain ⟨u1, u2, u3, u4, u5, u6, u7⟩ := y3 rfl
        have eD : l_tell v (l_x T n a) m st = (l_f st, l_p st, D_k (l_D st) (l_x T n a 0) w (nI m), st.2.2.2) := by
          rcases hv with rfl | rfl
          · rw [hw]; rfl
          · rw [hw]; rfl
        rw [eD]
        refine ⟨by rw [e77]; exact y1, by rw [e77]; exact y2, ⟨by rw [ai_ne (by omega), ai_ne (by omega)]; exact u1, by rw [ai_ne (by omega), ai_ne (by omega)]; exact u2, fun p hp => ?_, fun k hk => ?_, fun k hk => ?_, fun p q hp hq => by rw [ai_ne (by omega), ai_ne (by omega)]; exact u6 p q hp hq, fun p q hp hq => by rw [ai_ne (by omega), ai_ne (by omega)]; exact u7 p q hp hq⟩⟩
        · have : p < dP (l_D st) := hp
          have := ok.1.2.1
          rw [ai_ne (by omega), ai_ne (by omega)]; exact u3 p hp
        · rw [ai_ne (by omega)]
          show _ = (if k = l_x T n a 0 then w else dwo (l_D st) k)
          by_cases e : k = l_x T n a 0
          · rw [if_pos e, e, ai_eq]
          · rw [if_neg e, ai_ne (by omega)]; exact u4 k hk
        · show _ = (if k = l_x T n a 0 then nI m else dmo (l_D st) k)
          by_cases e : k = l_x T n a 0
          · rw [if_pos e, e, ai_eq]
          · rw [if_neg e, ai_ne (by omega), ai_ne (by omega)]; exact u5 k hk
    refine ⟨t7.1.1, fun q => ⟨Or.inr rfl, ?_⟩, fun q => ⟨t7.1.1, 88, r20, t7.1.1, 89, r21, sh_k s21, i0, fun q2 => ⟨t7.1.1, 89, r21, sh_k s21, i1, ?_⟩, fun q2 => ⟨t7.1.1, 89, r21, sh_k s21, i1, ?_⟩⟩⟩
    · rw [g7] at q
      have gd := b2i_0.mp q
      refine c_end0 L elpx hv11 c0.2.2.2.2 m3 (mF_mg R7 (by omega)) k7 (fun w => ?_) (fun _ => ⟨kp, kp6, ekp⟩) f7 pl4 hok
      have := gdr_o (l_fp_0 w).2.2
      rw [l2, gd] at this
      cases this
    · rw [g7] at q
      refine wr _ ?_ (b2i_n0.mp q)
      rw [if_neg (fun w => by rw [if_pos w] at q2; exact absurd q2 (by decide))]; exact x17
    · rw [g7] at q
      refine wr _ ?_ (b2i_n0.mp q)
      rw [if_pos (by rcases hv with rfl | rfl
                     · exact absurd rfl q2
                     · rfl), x17]
  have cmp : ∀ i, i < 14 → tkk T n (ps T n a 3) = 1 → (lg_cmp (ax_l h4 77 16) (wL i) = 0 ↔ tw T n (ps T n a 3) i = true) := fun i hi w => by rw [lg_0, emw w]; exact mw_tw hi
  refine ⟨t4.1.1, fun q => ⟨t4.1.1, ?_⟩, fun q => nomode ?_ _ _⟩
  · have k1 : tkk T n (ps T n a 3) = 1 := (mkd_2 tkk_le).mp (by rw [← k4.2.2.1]; exact q)
    have c_0 := cmp 0 (by decide) k1
    have c_1 := cmp 1 (by decide) k1
    have c_2 := cmp 2 (by decide) k1
    rw [wL_c.1] at c_0
    rw [wL_c.2.1] at c_1
    rw [wL_c.2.2.1] at c_2
    refine ⟨fun q0 => ⟨t4.1.1, fun q1 => ⟨t4.1.1, fun q2 => nomode ?_ _ _, fun q2 => mode 2 ?_ _⟩, fun q1 => mode 1 ?_ _⟩, fun q0 => mode 0 ?_ _⟩
    · unfold mdw; rw [if_neg (fun w => q0 (c_0.mpr w)), if_neg (fun w => q1 (c_1.mpr w)), if_neg (fun w => q2 (c_2.mpr w))]
    · unfold mdw; rw [if_neg (fun w => q0 (c_0.mpr w)), if_neg (fun w => q1 (c_1.mpr w)), if_pos (c_2.mp q2)]
    · unfold mdw; rw [if_neg (fun w => q0 (c_0.mpr w)), if_pos (c_1.mp q1)]
    · unfold mdw; rw [if_pos (c_0.mp q0)]
  · have k1 : tkk T n (ps T n a 3) ≠ 1 := fun w => q (by rw [k4.2.2.1]; exact (mkd_2 tkk_le).mpr w)
    have nn : ∀ i, ¬ tw T n (ps T n a 3) i = true := fun i w => k1 (of_decide_eq_true w).1
    unfold mdw
    rw [if_neg (nn 0), if_neg (nn 1), if_neg (nn 2)]
end
