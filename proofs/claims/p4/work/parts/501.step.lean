section
variable {g : ax_G} {Ret : Option Value → ax_H → Prop} {h : ax_H} {T : Nat → Int32} {n a : Nat}
/-! the class's step() -/
def tp_at (h : ax_H) (T : Nat → Int32) : Prop := (ax_s h 35).1 = 5 ∧ ax_r h 35 0 = some 2 ∧ ax_s h 2 = (12, 600) ∧ ∀ i, i < 600 → ax_i h 2 i = T i
theorem tp_same {F : Nat → Prop} {h' : ax_H} (s : ax_same F h h') (i : ¬ F 2) (t : tp_at h T) : tp_at h' T := ⟨by rw [s.2.1]; exact t.1, by rw [s.2.2.1]; exact t.2.1, by rw [s.2.1]; exact t.2.2.1, fun j hj => by rw [(s.2.2.2 2 i).1]; exact t.2.2.2 j hj⟩
theorem c_isL {x : Int32} (hq : Ret (some (.int (b2i (isL x)))) h) : mX5_isLetter g [.int x] h Ret := by
  unfold isL at hq
  refine eX5_isLetter ⟨fun q => ⟨Or.inl rfl, ?_⟩, fun q => ⟨fun q2 => ⟨Or.inl rfl, ?_⟩, fun q2 => ⟨Or.inr rfl, ?_⟩⟩⟩
  · rw [decide_eq_false (fun z => absurd q (nt_lt.mpr z.1))] at hq; exact hq
  · rw [decide_eq_false (fun z => absurd q2 (nt_lt.mpr z.2))] at hq; exact hq
  · rw [decide_eq_true ⟨nt_lt.mp q, nt_lt.mp q2⟩] at hq; exact hq
theorem c_isD {x : Int32} (hq : Ret (some (.int (b2i (isD x)))) h) : mX5_isDigit g [.int x] h Ret := by
  unfold isD at hq
  refine eX5_isDigit ⟨fun q => ⟨Or.inl rfl, ?_⟩, fun q => ⟨fun q2 => ⟨Or.inl rfl, ?_⟩, fun q2 => ⟨Or.inr rfl, ?_⟩⟩⟩
  · rw [decide_eq_false (fun z => absurd q (nt_lt.mpr z.1))] at hq; exact hq
  · rw [decide_eq_false (fun z => absurd q2 (nt_lt.mpr z.2))] at hq; exact hq
  · rw [decide_eq_true ⟨nt_lt.mp q, nt_lt.mp q2⟩] at hq; exact hq
/-- the reader's fields k with J k may change, nothing else -/
def rf (J : Nat → Prop) (h h' : ax_H) : Prop := ax_same (fun b => b = 35) h h' ∧ ∀ k, ¬ J k → ax_i h' 35 k = ax_i h 35 k
theorem rf_rf {J : Nat → Prop} : rf J h h := ⟨sm_rf, fun _ _ => rfl⟩
theorem rf_tr {J : Nat → Prop} {h1 h2 : ax_H} (x : rf J h h1) (y : rf J h1 h2) : rf J h h2 := ⟨sm_tr x.1 y.1, fun k hk => (y.2 k hk).trans (x.2 k hk)⟩
theorem rf_pi {J : Nat → Prop} {k : Nat} {v : Int32} (hJ : J k) : rf J h (ax_pi h 35 k v) := ⟨sm_pi rfl, fun j hj => ai_ne (Or.inr (fun e => hj (e ▸ hJ)))⟩
theorem rf_mono {J J' : Nat → Prop} {h1 : ax_H} (x : rf J h h1) (i : ∀ k, J k → J' k) : rf J' h h1 := ⟨x.1, fun k hk => x.2 k (fun q => hk (i k q))⟩
theorem rf_tp {J : Nat → Prop} {h1 : ax_H} (x : rf J h h1) (t : tp_at h T) : tp_at h1 T := tp_same x.1 (by omega) t
theorem c_stepNumber {s : Nat} (t : tp_at h T) (hn : n ≤ 600) (hs : s < n) (e11 : ax_i h 35 11 = nI n) (e8 : ax_i h 35 8 = nI s) (e7 : ax_i h 35 7 = nI s) (hq : ∀ h', rf (fun k => k = 6 ∨ k = 8 ∨ k = 9) h h' → ax_i h' 35 6 = nI (if rn isD T n s - s ≤ 3 then 2 else 4) → ax_i h' 35 8 = nI (rn isD T n s) → ax_i h' 35 9 = nI (dval T s (rn isD T n s - s)) → Ret none h') : mX5_stepNumber g [.ref 35] h Ret := by
  refine uX5_stepNumber (fun A hA => vX5_stepNumber_0 hA ⟨t.1, ?_⟩)
  have key : ∀ m k : Nat, s + k + m = n → ∀ hh : ax_H, rf (fun k => k = 6 ∨ k = 8 ∨ k = 9) h hh → ax_i hh 35 8 = nI (s + k) → ax_i hh 35 9 = nI (dval T s k) → rn isD T n (s + k) = rn isD T n s → A (5, [some (.ref 35)], [], hh, 0, 0) := by
    intro m
    induction m with
    | zero =>
      intro k hk hh r f8 f9 er
      obtain ⟨t1, t2, t3, t4⟩ := rf_tp r t
      have f11 : ax_i hh 35 11 = nI n := by rw [r.2 11 (by omega)]; exact e11
      have f7 : ax_i hh 35 7 = nI s := by rw [r.2 7 (by omega)]; exact e7
      have eE : rn isD T n s = s + k := by rw [← er, rn_no (by omega)]
      have ed : nI (s + k) - nI s = nI k := by rw [Nat.add_comm, ← nI_add]; exact Int32.add_sub_cancel _ _
      rw [eE, show s + k - s = k by omega] at hq
      refine vX5_stepNumber_5 hA ⟨t1, t1, fun _ => ⟨t1, t1, ?_⟩, fun q => ?_⟩
      · rw [f8, f7, ed]
        refine ⟨fun q => ⟨t1, hq _ (rf_tr r (rf_pi (Or.inl rfl))) ?_ ?_ ?_⟩, fun q => ⟨t1, hq _ (rf_tr r (rf_pi (Or.inl rfl))) ?_ ?_ ?_⟩⟩
        · have q := (nI_leI (a := k) (b := 3) (by omega) (by decide)).mp q
          rw [ai_eq, if_pos q]; rfl
        · rw [ai_ne (by omega)]; exact f8
        · rw [ai_ne (by omega)]; exact f9
        · rw [ai_eq, if_neg (fun z => q (nI_le (a := k) (b := 3) z (by decide)))]; rfl
        · rw [ai_ne (by omega)]; exact f8
        · rw [ai_ne (by omega)]; exact f9
      · rw [f11, f8] at q; exact absurd (nI_le (by omega) (by omega)) q
    | succ m ih =>
      intro k hk hh r f8 f9 er
      obtain ⟨t1, t2, t3, t4⟩ := rf_tp r t
      have f11 : ax_i hh 35 11 = nI n := by rw [r.2 11 (by omega)]; exact e11
      have f7 : ax_i hh 35 7 = nI s := by rw [r.2 7 (by omega)]; exact e7
      have i8 : vp_in (ax_i hh 35 8) (ax_s hh 2).2 := by rw [f8, t3]; exact vp_in_nI (by omega) (by decide)
      have ed : nI (s + k) - nI s = nI k := by rw [Nat.add_comm, ← nI_add]; exact Int32.add_sub_cancel _ _
      have ev : ax_i hh 2 (ax_i hh 35 8).toNatClampNeg = T (s + k) := by rw [f8, nI_clamp (by omega)]; exact t4 _ (by omega)
      refine vX5_stepNumber_5 hA ⟨t1, t1, fun q => ?_, fun _ => ⟨t1, 2, t2, t1, sh_k t3, i8, ?_⟩⟩
      · rw [f11, f8] at q; exact absurd q (nI_ge (by omega) (by omega))
      rw [ev]
      refine c_isD ⟨_, rfl, fun q => ⟨t1, t1, ?_⟩, fun q => ⟨t1, t1, 2, t2, t1, sh_k t3, i8, t1, rfl, t1, t1, ?_⟩⟩
      · have eE : rn isD T n s = s + k := by rw [← er, rn_no (fun z => by rw [b2i_0.mp q] at z; exact absurd z.2 (by decide))]
        rw [eE, show s + k - s = k by omega] at hq
        rw [f8, f7, ed]
        refine ⟨fun q => ⟨t1, hq _ (rf_tr r (rf_pi (Or.inl rfl))) ?_ ?_ ?_⟩, fun q => ⟨t1, hq _ (rf_tr r (rf_pi (Or.inl rfl))) ?_ ?_ ?_⟩⟩
        · have q := (nI_leI (a := k) (b := 3) (by omega) (by decide)).mp q
          rw [ai_eq, if_pos q]; rfl
        · rw [ai_ne (by omega)]; exact f8
        · rw [ai_ne (by omega)]; exact f9
        · rw [ai_eq, if_neg (fun z => q (nI_le (a := k) (b := 3) z (by decide)))]; rfl
        · rw [ai_ne (by omega)]; exact f8
        · rw [ai_ne (by omega)]; exact f9
      · have dd := b2i_n0.mp q
        rw [ev, f9, dval_nI dd]
        refine ih (k + 1) (by omega) _ (rf_tr r (rf_tr (rf_pi (Or.inr (Or.inr rfl))) (rf_pi (Or.inr (Or.inl rfl))))) ?_ ?_ ?_
        · rw [ai_eq, ai_ne (by omega), f8, ← nI_succ]; rfl
        · rw [ai_ne (by omega), ai_eq]
        · rw [← er, rn_go (a := s + k) (by omega) dd]; rfl
  exact key (n - s) 0 (by omega) _ (rf_pi (Or.inr (Or.inr rfl))) (by rw [ai_ne (by omega)]; exact e8) ai_eq rfl
/-- step(): the next token -/
theorem c_step5 (t : tp_at h T) (hn : n ≤ 600) (ha : a ≤ n) (e11 : ax_i h 35 11 = nI n) (e8 : ax_i h 35 8 = nI a) (hq : ∀ h', rf (fun k => 6 ≤ k ∧ k ≤ 9) h h' → ax_i h' 35 6 = nI (tkk T n a) → ax_i h' 35 7 = nI (tks T n a) → ax_i h' 35 8 = nI (tkb T n a) → (tkk T n a = 2 → ax_i h' 35 9 = nI (tkn T n a)) → Ret none h') : mX5_step g [.ref 35] h Ret := by
  refine uX5_step (fun A hA => ?_)
  -- letters
  have lets : ∀ m k : Nat, k + m = n → tks T n a ≤ k → ∀ hh : ax_H, rf (fun k => 6 ≤ k ∧ k ≤ 9) h hh → ax_i hh 35 6 = nI 1 → ax_i hh 35 7 = nI (tks T n a) → ax_i hh 35 8 = nI k → rn isL T n k = tkb T n a → tkk T n a = 1 → A (99, [some (.ref 35)], [], hh, 0, 0) := by
    intro m
    induction m with
    | zero =>
      intro k hk _ hh r f6 f7 f8 er ek
      obtain ⟨t1, t2, t3, t4⟩ := rf_tp r t
      have f11 : ax_i hh 35 11 = nI n := by rw [r.2 11 (by omega)]; exact e11
      rw [rn_no (by omega)] at er
      refine vX5_step_99 hA ⟨t1, t1, fun _ => hq hh r (by rw [ek]; exact f6) f7 (by rw [← er]; exact f8) (fun z => by omega), fun q => ?_⟩
      rw [f11, f8] at q; exact absurd (nI_le (by omega) (by omega)) q
    | succ m ih =>
      intro k hk hk2 hh r f6 f7 f8 er ek
      obtain ⟨t1, t2, t3, t4⟩ := rf_tp r t
      have f11 : ax_i hh 35 11 = nI n := by rw [r.2 11 (by omega)]; exact e11
      have i8 : vp_in (ax_i hh 35 8) (ax_s hh 2).2 := by rw [f8, t3]; exact vp_in_nI (by omega) (by decide)
      have ev : ax_i hh 2 (ax_i hh 35 8).toNatClampNeg = T k := by rw [f8, nI_clamp (by omega)]; exact t4 _ (by omega)
      refine vX5_step_99 hA ⟨t1, t1, fun q => ?_, fun _ => ⟨t1, 2, t2, t1, sh_k t3, i8, ?_⟩⟩
      · rw [f11, f8] at q; exact absurd q (nI_ge (by omega) (by omega))
      rw [ev]
      refine c_isL ⟨_, rfl, fun q => ?_, fun q => ⟨rfl, t1, t1, ?_⟩⟩
      · rw [rn_no (fun z => by rw [b2i_0.mp q] at z; exact absurd z.2 (by decide))] at er
        exact hq hh r (by rw [ek]; exact f6) f7 (by rw [← er]; exact f8) (fun z => by omega)
      · refine ih (k + 1) (by omega) (by omega) _ (rf_tr r (rf_pi ⟨by decide, by decide⟩)) ?_ ?_ ?_ ?_ ek
        · rw [ai_ne (by omega)]; exact f6
        · rw [ai_ne (by omega)]; exact f7
        · rw [ai_eq, f8, ← nI_succ]
        · rw [← er, rn_go (by omega) (b2i_n0.mp q)]
  -- blanks
  have key : ∀ m k : Nat, k + m = n → ∀ hh : ax_H, rf (fun k => 6 ≤ k ∧ k ≤ 9) h hh → ax_i hh 35 8 = nI k → rn isB T n k = tks T n a → A (0, [some (.ref 35)], [], hh, 0, 0) := by
    intro m
    induction m with
    | zero =>
      intro k hk hh r f8 er
      obtain ⟨t1, t2, t3, t4⟩ := rf_tp r t
      have f11 : ax_i hh 35 11 = nI n := by rw [r.2 11 (by omega)]; exact e11
      rw [rn_no (by omega)] at er
      have e0 : tkk T n a = 0 := by unfold tkk; rw [if_neg (by omega)]
      have eb : tkb T n a = k := by unfold tkb; rw [if_neg (by omega), ← er]
      refine vX5_step_0 hA ⟨t1, t1, fun _ => ⟨t1, t1, t1, t1, fun q => ?_, fun _ => ⟨t1, ?_⟩⟩, fun q => ?_⟩
      · rw [ai_ne (by omega), ai_ne (by omega), f11, f8] at q; exact absurd q (nI_nlt (by omega) (by omega))
      · refine hq _ (rf_tr r (rf_tr (rf_pi ⟨by decide, by decide⟩) (rf_pi ⟨by decide, by decide⟩))) ?_ ?_ ?_ (fun z => by omega)
        · rw [ai_eq, e0]; rfl
        · rw [ai_ne (by omega), ai_eq, f8, er]
        · rw [ai_ne (by omega), ai_ne (by omega), f8, eb]
      · rw [f11, f8] at q; exact absurd (nI_le (by omega) (by omega)) q
    | succ m ih =>
      intro k hk hh r f8 er
      obtain ⟨t1, t2, t3, t4⟩ := rf_tp r t
      have f11 : ax_i hh 35 11 = nI n := by rw [r.2 11 (by omega)]; exact e11
      have i8 : vp_in (ax_i hh 35 8) (ax_s hh 2).2 := by rw [f8, t3]; exact vp_in_nI (by omega) (by decide)
      have ev : ax_i hh 2 (ax_i hh 35 8).toNatClampNeg = T k := by rw [f8, nI_clamp (by omega)]; exact t4 _ (by omega)
      have again : isB (T k) = true → A (0, [some (.ref 35)], [], ax_pi hh 35 8 (ax_i hh 35 8 + 1), 0, 0) := fun b => ih (k + 1) (by omega) _ (rf_tr r (rf_pi ⟨by decide, by decide⟩)) (by rw [ai_eq, f8, ← nI_succ]) (by rw [← er, rn_go (by omega) b])
      refine vX5_step_0 hA ⟨t1, t1, fun q => ?_, fun _ => ⟨t1, 2, t2, t1, sh_k t3, i8, ?_⟩⟩
      · rw [f11, f8] at q; exact absurd q (nI_ge (by omega) (by omega))
      rw [ev]
      refine ⟨fun q => ⟨rfl, t1, t1, again (decide_eq_true (Or.inl q))⟩, fun q => ⟨t1, 2, t2, t1, sh_k t3, i8, ?_⟩⟩
      rw [ev]
      refine ⟨fun q2 => ⟨t1, t1, t1, t1, ?_⟩, fun q2 => ⟨rfl, t1, t1, again (decide_eq_true (Or.inr q2))⟩⟩
      have nb : ¬ (k < n ∧ isB (T k) = true) := fun z => (of_decide_eq_true z.2).elim q q2
      rw [rn_no nb] at er
      have hs : tks T n a < n := by omega
      have r22 : rf (fun k => 6 ≤ k ∧ k ≤ 9) h (ax_pi hh 35 7 (ax_i hh 35 8)) := rf_tr r (rf_pi ⟨by decide, by decide⟩)
      have g7 : ax_i (ax_pi hh 35 7 (ax_i hh 35 8)) 35 7 = nI k := by rw [ai_eq]; exact f8
      have g8 : ax_i (ax_pi hh 35 7 (ax_i hh 35 8)) 35 8 = nI k := by rw [ai_ne (by omega)]; exact f8
      have g11 : ax_i (ax_pi hh 35 7 (ax_i hh 35 8)) 35 11 = nI n := by rw [ai_ne (by omega)]; exact f11
      revert r22 g7 g8 g11
      generalize ax_pi hh 35 7 (ax_i hh 35 8) = h2
      intro r22 g7 g8 g11
      obtain ⟨v1, v2, v3, v4⟩ := rf_tp r22 t
      have i8' : vp_in (ax_i h2 35 8) (ax_s h2 2).2 := by rw [g8, v3]; exact vp_in_nI (by omega) (by decide)
      have ev' : ax_i h2 2 (ax_i h2 35 8).toNatClampNeg = T k := by rw [g8, nI_clamp (by omega)]; exact v4 _ (by omega)
      refine ⟨fun _ => ⟨v1, 2, v2, v1, sh_k v3, i8', ?_⟩, fun z => ?_⟩
      · rw [ev']
        refine c_isL ⟨_, rfl, fun q3 => ⟨v1, 2, v2, v1, sh_k v3, i8', ?_⟩, fun q3 => ⟨v1, ?_⟩⟩
        · rw [ev']
          have nl := b2i_0.mp q3
          refine c_isD ⟨_, rfl, fun q4 => ⟨v1, 2, v2, v1, sh_k v3, i8', ?_⟩, fun q4 => ⟨v1, ?_⟩⟩
          · have nd := b2i_0.mp q4
            rw [ev']
            have eb : tkb T n a = k + 1 := by unfold tkb; rw [if_pos hs, ← er, nl, nd]; rfl
            refine ⟨fun q5 => ⟨v1, rfl, v1, v1, ?_⟩, fun q5 => ⟨v1, rfl, v1, v1, ?_⟩⟩
            · have ek : tkk T n a = 4 := by unfold tkk; rw [if_pos hs, ← er, nl, nd, if_neg q5]; rfl
              refine hq _ (rf_tr r22 (rf_tr (rf_pi ⟨by decide, by decide⟩) (rf_pi ⟨by decide, by decide⟩))) ?_ ?_ ?_ (fun z => by omega)
              · rw [ai_ne (by omega), ai_eq, ek]; rfl
              · rw [ai_ne (by omega), ai_ne (by omega), g7, er]
              · rw [ai_eq, ai_ne (by omega), g8, eb, ← nI_succ]
            · have ek : tkk T n a = 3 := by unfold tkk; rw [if_pos hs, ← er, nl, nd, if_pos q5]; rfl
              refine hq _ (rf_tr r22 (rf_tr (rf_pi ⟨by decide, by decide⟩) (rf_pi ⟨by decide, by decide⟩))) ?_ ?_ ?_ (fun z => by omega)
              · rw [ai_ne (by omega), ai_eq, ek]; rfl
              · rw [ai_ne (by omega), ai_ne (by omega), g7, er]
              · rw [ai_eq, ai_ne (by omega), g8, eb, ← nI_succ]
          · have yd := b2i_n0.mp q4
            have eb : tkb T n a = rn isD T n k := by unfold tkb; rw [if_pos hs, ← er, nl, yd]; rfl
            have ek : tkk T n a = (if rn isD T n k - k ≤ 3 then 2 else 4) := by unfold tkk; rw [if_pos hs, ← er, nl, yd]; rfl
            refine c_stepNumber (rf_tp r22 t) hn (by omega) g11 g8 g7 (fun h3 r3 f6 f8 f9 => ⟨rfl, hq h3 (rf_tr r22 (rf_mono r3 (fun x hx => by omega))) ?_ ?_ ?_ (fun z => ?_)⟩)
            · rw [ek]; exact f6
            · rw [r3.2 7 (by omega), g7, er]
            · rw [eb]; exact f8
            · unfold tkn; rw [eb, ← er]; exact f9
        · have yl := b2i_n0.mp q3
          have eb : tkb T n a = rn isL T n k := by unfold tkb; rw [if_pos hs, ← er, if_pos yl]
          have ek : tkk T n a = 1 := by unfold tkk; rw [if_pos hs, ← er, if_pos yl]
          refine lets (n - k) k (by omega) (by omega) _ (rf_tr r22 (rf_pi ⟨by decide, by decide⟩)) ?_ ?_ ?_ eb.symm ek
          · rw [ai_eq]; rfl
          · rw [ai_ne (by omega), g7, er]
          · rw [ai_ne (by omega)]; exact g8
      · rw [g11, g8] at z; exact absurd (nI_lt (by omega) (by omega)) z
  exact key (n - a) a (by omega) h rf_rf e8 rfl
end
