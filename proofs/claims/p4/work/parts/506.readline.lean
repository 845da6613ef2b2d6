section
variable {g : ax_G} {Ret : Option Value → ax_H → Prop} {h : ax_H} {T : Nat → Int32} {n a s : Nat} {st : lS}
theorem tkk_lt : tkk T n a < 2 ^ 31 := by
  unfold tkk
  repeat' split
  all_goals decide
theorem rn_P {P : Int32 → Bool} {T : Nat → Int32} {n a j : Nat} (h : a ≤ n) (h1 : a ≤ j) (h2 : j < rn P T n a) : P (T j) = true := (rn_bd (n - a) a (by omega)).2.2 j h1 h2
theorem tkn_le (ha : a ≤ n) (hk : tkk T n a = 2) : tkn T n a ≤ 999 := by
  have hs : tks T n a < n := by
    rcases Nat.lt_or_ge (tks T n a) n with z | z
    · exact z
    · unfold tkk at hk; rw [if_neg (by omega)] at hk; cases hk
  unfold tkk at hk
  rw [if_pos hs] at hk
  by_cases l : isL (T (tks T n a)) = true
  · rw [if_pos l] at hk; cases hk
  rw [if_neg l] at hk
  by_cases d : isD (T (tks T n a)) = true
  · rw [if_pos d] at hk
    by_cases z : rn isD T n (tks T n a) - tks T n a ≤ 3
    · unfold tkn
      have eb : tkb T n a = rn isD T n (tks T n a) := by unfold tkb; rw [if_pos hs, if_neg l, if_pos d]
      rw [eb]
      exact dval_3 z (fun j hj => rn_P (P := isD) (T := T) (n := n) (a := tks T n a) (j := tks T n a + j) (by omega) (by omega) (by omega))
    · rw [if_neg z] at hk; cases hk
  · rw [if_neg d] at hk
    split at hk <;> cases hk
/-- the numbers of the line at place a, and their places -/
def l_x (T : Nat → Int32) (n a : Nat) : Nat → Nat := fun i => if tkk T n (ps T n a (i + 1)) = 2 then tkn T n (ps T n a (i + 1)) else 0
def l_q (T : Nat → Int32) (n a : Nat) : Nat → Nat := fun i => tks T n (ps T n a (i + 1))
theorem l_x_le (ha : a ≤ n) (j : Nat) : l_x T n a j ≤ 999 := by
  unfold l_x
  split
  · exact tkn_le (ps_le ha _).2 (by assumption)
  · exact Nat.zero_le _
/-- the first token of those behind a that is no number -/
def nf (T : Nat → Int32) (n a : Nat) : Nat → Nat → Option Nat
  | 0, _ => none
  | k + 1, i => if tkk T n (ps T n a (i + 1)) = 2 then nf T n a k (i + 1) else some (i + 1)
/-- a line: where no text goes on, or its verb and mode -/
def lsx (T : Nat → Int32) (n s a : Nat) : Nat ⊕ (Nat × Nat) := match vb T n s a with
  | none => .inl (tks T n a)
  | some v => match nf T n a (lnu v) 0 with
    | some i => .inl (tks T n (ps T n a i))
    | none => if v = 1 ∨ v = 2 then (match mdw T n (ps T n a (lnu v + 1)) with
        | none => .inl (tks T n (ps T n a (lnu v + 1)))
        | some m => if tkk T n (ps T n a (lnu v + 2)) = 3 then .inr (v, m) else .inl (tks T n (ps T n a (lnu v + 2))))
      else if tkk T n (ps T n a (lnu v + 1)) = 3 then .inr (v, 0) else .inl (tks T n (ps T n a (lnu v + 1)))
/-- which token its semicolon is -/
def l_m (v : Nat) : Nat := if v = 1 ∨ v = 2 then lnu v + 2 else lnu v + 1
theorem ntf_le {fp : Nat × Nat} {b : Bool} {w q : Nat} (h : fp.1 ≤ 4) (hw : w ≤ 4) : (nt fp b w q).1 ≤ 4 := by
  unfold nt; split
  · exact hw
  · exact h
theorem lfp_le {v : Nat} {x q : Nat → Nat} {fp : Nat × Nat} (h : fp.1 ≤ 4) : ∀ i, (lfp v x q fp i).1 ≤ 4
  | 0 => h
  | i + 1 => ntf_le (lfp_le h i) (by decide)
theorem l_tell_f {v md : Nat} {x : Nat → Nat} : l_f (l_tell v x md st) = l_f st ∧ l_p (l_tell v x md st) = l_p st := by
  unfold l_tell
  split <;> exact ⟨rfl, rfl⟩
theorem l_line_le {v md q0 : Nat} {x q : Nat → Nat} (h : l_f st ≤ 4) : l_f (l_line v x md q0 q st) ≤ 4 := by
  unfold l_line
  split
  · rw [l_tell_f.1]; exact h
  · exact lfp_le (ntf_le h (by decide)) _
theorem c_readLine (t : tp_at h T) (hn : n ≤ 600) (ha : a ≤ n) (hs : s < 5) (k : tk_at h T n a) (c : cs_at h s st) (ok : okL s st) (hf : l_f st ≤ 4)
    (hbad : ∀ p, lsx T n s a = .inl p → ∀ h', ax_same re_F h h' → re_st h' 35 2 → tp_at h' T → ax_i h' 35 7 = nI p → Ret (some (.int 0)) h')
    (hok : ∀ v md, lsx T n s a = .inr (v, md) → v < 11 → lvs v = s → md < 3 → ∀ h', ax_same re_F h h' → tp_at h' T → tk_at h' T n (ps T n a (l_m v)) → cs_at h' s (l_line v (l_x T n a) md (tks T n a) (l_q T n a) st) → Ret (some (.int 1)) h') : mX5_readLine g [.ref 35, .int (nI s)] h Ret := by
  have r0 := t.1
  have F1 : ∀ {J : Nat → Prop} {h1 : ax_H}, rg J h h1 → ax_same re_F h h1 := fun x => sm_mono x.1 (fun b hb => by unfold re_F; omega)
  refine uX5_readLine (fun A hA => vX5_readLine_0 hA ⟨r0, c_verbOf t hn ha hs k (fun e => ⟨_, rfl, fun q => absurd rfl q, fun _ => ⟨Or.inl rfl, hbad _ (by unfold lsx; rw [e]) h sm_rf c.1.1 t k.2.2.1⟩⟩) (fun v e => ⟨_, rfl, fun _ => ⟨r0, ?_⟩, fun q => absurd q (nI_nm1 ?_)⟩)⟩)
  · obtain ⟨-, hv, hvs, -⟩ := vbr_some e
    have hv : v < 11 := by omega
    obtain ⟨en, n1, n3⟩ := tab_nu v hv
    -- the semicolon
    have semi : ∀ (hh : ax_H) (j md : Nat), rg (fun k => k = 4 ∨ k = 5) h hh → tk_at hh T n (ps T n a j) → fp_at hh (l_fp v (l_x T n a) (tks T n a) (l_q T n a) st) → (∀ i, i < lnu v → ax_i hh 43 i = nI (l_x T n a i)) → ((v = 1 ∨ v = 2) → ax_i hh 35 10 = nI md) → md < 3 → j + 1 = l_m v → (tkk T n (ps T n a (j + 1)) = 3 → lsx T n s a = .inr (v, md)) → (¬ tkk T n (ps T n a (j + 1)) = 3 → lsx T n s a = .inl (tks T n (ps T n a (j + 1)))) → mX5_step g [.ref 35] hh (fun v14 h13 => v14 = none ∧ (ax_s h13 35).1 = 5 ∧ (ax_i h13 35 6 = 3 → (ax_s h13 35).1 = 5 ∧ (¬ ax_i h13 35 4 = 0 → ((1 : Int32) = 0 ∨ (1 : Int32) = 1) ∧ Ret (some (.int 1)) h13) ∧ (ax_i h13 35 4 = 0 → (ax_s h13 35).1 = 5 ∧ mX5_tell g [.ref 35, .int (nI v)] h13 (fun v16 h15 => v16 = none ∧ ((1 : Int32) = 0 ∨ (1 : Int32) = 1) ∧ Ret (some (.int 1)) h15))) ∧ (¬ ax_i h13 35 6 = 3 → ((0 : Int32) = 0 ∨ (0 : Int32) = 1) ∧ Ret (some (.int 0)) h13)) := by
      intro hh j md r kj f e43 e10 hmd hj ey en'
      refine c_next (rg_tp r t) hn (ps_le ha j).2 kj (fun h1 r1 k1 => ⟨rfl, ?_⟩)
      have k1 : tk_at h1 T n (ps T n a (j + 1)) := k1
      have r2 : rg (fun k => k = 4 ∨ k = 5) h h1 := rg_tr r (rg_of r1 (fun x hx => by omega))
      have t1 := rg_tp r2 t
      have d1 : dr_at h1 s st := dr_rg r2 (by omega) c.1
      have f1 : fp_at h1 (l_fp v (l_x T n a) (tks T n a) (l_q T n a) st) := ⟨by rw [r1.2 4 (by omega)]; exact f.1, by rw [r1.2 5 (by omega)]; exact f.2⟩
      have kb : tkk T n (ps T n a (j + 1)) < 2 ^ 31 := tkk_lt
      have fl : (l_fp v (l_x T n a) (tks T n a) (l_q T n a) st).1 ≤ 4 := lfp_le (ntf_le hf (by decide)) _
      refine ⟨t1.1, fun q => ⟨t1.1, fun q2 => ⟨Or.inr rfl, ?_⟩, fun q2 => ⟨t1.1, ?_⟩⟩, fun q => ⟨Or.inl rfl, ?_⟩⟩
      · have e3 : tkk T n (ps T n a (j + 1)) = 3 := (nI_eq (b := 3) kb (by decide)).mp (by rw [← k1.2.1]; exact q)
        refine hok v md (ey e3) hv hvs hmd h1 (F1 r2) t1 (by rw [← hj]; exact k1) ?_
        unfold l_line
        rw [if_neg (fun z => q2 (by rw [f1.1, z]; rfl))]
        exact ⟨d1, f1⟩
      · have e3 : tkk T n (ps T n a (j + 1)) = 3 := (nI_eq (b := 3) kb (by decide)).mp (by rw [← k1.2.1]; exact q)
        have z : (l_fp v (l_x T n a) (tks T n a) (l_q T n a) st).1 = 0 := (nI_eq (b := 0) (by omega) (by decide)).mp (by rw [← f1.1]; exact q2)
        obtain ⟨z1, z2, z3⟩ := l_fp_0 z
        have e43' : ∀ i, i < lnu v → ax_i h1 43 i = nI (l_x T n a i) := fun i hi => by rw [(r1.1.2.2.2 43 (by omega)).1]; exact e43 i hi
        refine c_tell (md := md) d1 ok hv hvs e43' (fun w => by rw [r1.2 10 (by omega)]; exact e10 w) z2 z3 (fun h5 sm5 k5 d5 => ⟨rfl, Or.inr rfl, ?_⟩)
        have t5 : tp_at h5 T := tp_same sm5 (by unfold re_F; omega) t1
        refine hok v md (ey e3) hv hvs hmd h5 (sm_tr (F1 r2) sm5) t5 ?_ ?_
        · rw [← hj]
          exact ⟨by rw [k5 11 (by decide) (by decide)]; exact k1.1, by rw [k5 6 (by decide) (by decide)]; exact k1.2.1, by rw [k5 7 (by decide) (by decide)]; exact k1.2.2.1, by rw [k5 8 (by decide) (by decide)]; exact k1.2.2.2.1, fun w => by rw [k5 9 (by decide) (by decide)]; exact k1.2.2.2.2 w⟩
        · unfold l_line
          rw [if_pos z]
          refine ⟨d5, ?_⟩
          rw [l_tell_f.1, l_tell_f.2, z1]
          exact ⟨by rw [k5 4 (by decide) (by decide), f1.1, z], by rw [k5 5 (by decide) (by decide), f1.2, if_pos z]; rfl⟩
      · exact hbad _ (en' (fun z => q (by rw [k1.2.1, z]; rfl))) h1 (F1 r2) d1.1 t1 k1.2.2.1
    -- the numbers
    have key : ∀ m i : Nat, i + m = lnu v → ∀ (hh : ax_H) (o1 : Option Value), rg (fun k => k = 4 ∨ k = 5) h hh → tk_at hh T n (ps T n a i) → fp_at hh (lfp v (l_x T n a) (l_q T n a) (nt (l_f st, l_p st) (ltoo v st) 3 (tks T n a)) i) → (∀ j, j < i → ax_i hh 43 j = nI (l_x T n a j)) → nf T n a m i = nf T n a (lnu v) 0 → A (32, [some (.ref 35), o1, some (.int (nI v)), some (.int (nI i))], [], hh, 0, 0) := by
      intro m
      induction m with
      | zero =>
        intro i hi hh o1 r ki f e43 enf
        have hi : i = lnu v := by omega
        have t1 := rg_tp r t
        have enf : nf T n a (lnu v) 0 = none := enf.symm
        have f' : fp_at hh (l_fp v (l_x T n a) (tks T n a) (l_q T n a) st) := by unfold l_fp; rw [← hi]; exact f
        refine vX5_readLine_32 hA ⟨rfl, vp_in_nI (N := 11) hv (by decide), ?_⟩
        dsimp only
        rw [nI_clamp (by omega), en]
        -- with a mode
        have mode : (v = 1 ∨ v = 2) → mX5_readMode g [.ref 35] hh (fun v11 h10 => ∃ r12 : Int32, v11 = some (.int r12) ∧ (¬ r12 = 0 → (ax_s h10 35).1 = 5 ∧ mX5_step g [.ref 35] h10 (fun v14 h13 => v14 = none ∧ (ax_s h13 35).1 = 5 ∧ (ax_i h13 35 6 = 3 → (ax_s h13 35).1 = 5 ∧ (¬ ax_i h13 35 4 = 0 → ((1 : Int32) = 0 ∨ (1 : Int32) = 1) ∧ Ret (some (.int 1)) h13) ∧ (ax_i h13 35 4 = 0 → (ax_s h13 35).1 = 5 ∧ mX5_tell g [.ref 35, .int (nI v)] h13 (fun v16 h15 => v16 = none ∧ ((1 : Int32) = 0 ∨ (1 : Int32) = 1) ∧ Ret (some (.int 1)) h15))) ∧ (¬ ax_i h13 35 6 = 3 → ((0 : Int32) = 0 ∨ (0 : Int32) = 1) ∧ Ret (some (.int 0)) h13))) ∧ (r12 = 0 → ((0 : Int32) = 0 ∨ (0 : Int32) = 1) ∧ Ret (some (.int 0)) h10)) := by
          intro v12
          refine c_readMode t1 hn (ps_le ha i).2 ki (fun em h2 r2 k2 => ⟨_, rfl, fun q => absurd rfl q, fun _ => ⟨Or.inl rfl, ?_⟩⟩) (fun m em h2 r2 k2 e10 => ⟨_, rfl, fun _ => ⟨(rf_tp r2 t1).1, ?_⟩, fun q => absurd q (by decide)⟩)
          · have r3 : rg (fun k => k = 4 ∨ k = 5) h h2 := rg_tr r (rg_of r2 (fun x hx => by omega))
            have em : mdw T n (ps T n a (i + 1)) = none := em
            rw [hi] at em
            refine hbad _ (by unfold lsx; rw [e]; dsimp only; rw [enf]; dsimp only; rw [if_pos v12, em]) h2 (F1 r3) (dr_rg r3 (by omega) c.1).1 (rf_tp r2 t1) ?_
            rw [← hi]; exact k2.2.2.1
          · have r3 : rg (fun k => k = 4 ∨ k = 5) h h2 := rg_tr r (rg_of r2 (fun x hx => by omega))
            have em' : mdw T n (ps T n a (lnu v + 1)) = some m := by rw [← hi]; exact em
            refine semi h2 (i + 1) m r3 k2 ⟨by rw [r2.2 4 (by omega)]; exact f'.1, by rw [r2.2 5 (by omega)]; exact f'.2⟩ (fun j hj => by rw [(r2.1.2.2.2 43 (by omega)).1]; exact e43 j (by omega)) (fun _ => e10) (mdw_lt em) (by unfold l_m; rw [if_pos v12, hi]) (fun e3 => ?_) (fun e3 => ?_)
            · rw [hi] at e3
              unfold lsx; rw [e]; dsimp only; rw [enf]; dsimp only; rw [if_pos v12, em']; dsimp only; rw [if_pos e3]
            · rw [hi] at e3 ⊢
              unfold lsx; rw [e]; dsimp only; rw [enf]; dsimp only; rw [if_pos v12, em']; dsimp only; rw [if_neg e3]
        refine ⟨fun _ => ⟨fun q => ⟨t1.1, mode (Or.inl ((nI_eq (b := 1) (by omega) (by decide)).mp q))⟩, fun q => ⟨fun q2 => ⟨t1.1, ?_⟩, fun q2 => ⟨t1.1, mode (Or.inr ((nI_eq (b := 2) (by omega) (by decide)).mp q2))⟩⟩⟩, fun q => absurd (nI_le (by omega) (by omega)) q⟩
        have nv : ¬ (v = 1 ∨ v = 2) := fun z => z.elim (fun w => q (by rw [w]; rfl)) (fun w => q2 (by rw [w]; rfl))
        refine semi hh i 0 r ki f' (fun j hj => e43 j (by omega)) (fun w => absurd w nv) (by decide) (by unfold l_m; rw [if_neg nv, hi]) (fun e3 => ?_) (fun e3 => ?_)
        · rw [hi] at e3
          unfold lsx; rw [e]; dsimp only; rw [enf]; dsimp only; rw [if_neg nv, if_pos e3]
        · rw [hi] at e3 ⊢
          unfold lsx; rw [e]; dsimp only; rw [enf]; dsimp only; rw [if_neg nv, if_neg e3]
      | succ m ih =>
        intro i hi hh o1 r ki f e43 enf
        have t1 := rg_tp r t
        have d1 : dr_at hh s st := dr_rg r (by omega) c.1
        have fl := lfp_le (v := v) (x := l_x T n a) (q := l_q T n a) (ntf_le (fp := (l_f st, l_p st)) (b := ltoo v st) (w := 3) (q := tks T n a) hf (by decide)) i
        have enf : (if tkk T n (ps T n a (i + 1)) = 2 then nf T n a m (i + 1) else some (i + 1)) = nf T n a (lnu v) 0 := enf
        refine vX5_readLine_32 hA ⟨rfl, vp_in_nI (N := 11) hv (by decide), ?_⟩
        dsimp only
        rw [nI_clamp (by omega), en]
        refine ⟨fun q => absurd q (nI_ge (by omega) (by omega)), fun _ => ⟨t1.1, c_next t1 hn (ps_le ha i).2 ki (fun h2 r2 k2 => ⟨rfl, ?_⟩)⟩⟩
        have k2 : tk_at h2 T n (ps T n a (i + 1)) := k2
        have r3 : rg (fun k => k = 4 ∨ k = 5) h h2 := rg_tr r (rg_of r2 (fun x hx => by omega))
        have t2 := rg_tp r3 t
        have d2 : dr_at h2 s st := dr_rg r3 (by omega) c.1
        have kb : tkk T n (ps T n a (i + 1)) < 2 ^ 31 := tkk_lt
        refine ⟨t2.1, fun q => ⟨t2.1, ?_⟩, fun q => ⟨Or.inl rfl, ?_⟩⟩
        · have e2 : tkk T n (ps T n a (i + 1)) = 2 := (nI_eq (b := 2) kb (by decide)).mp (by rw [← k2.2.1]; exact q)
          rw [if_pos e2] at enf
          have ex : l_x T n a i = tkn T n (ps T n a (i + 1)) := by unfold l_x; rw [if_pos e2]
          have e9 : ax_i h2 35 9 = nI (l_x T n a i) := by rw [ex]; exact k2.2.2.2.2 e2
          refine c_checkNumber (x := l_x T n a) (fp := lfp v (l_x T n a) (l_q T n a) (nt (l_f st, l_p st) (ltoo v st) 3 (tks T n a)) i) (q := l_q T n a i) d2 ⟨by rw [r2.2 4 (by omega)]; exact f.1, by rw [r2.2 5 (by omega)]; exact f.2⟩ (by omega) hv (by omega) (l_x_le ha) e9 k2.2.2.1 (fun i2 => by rw [(r2.1.2.2.2 43 (by omega)).1]; exact e43 1 (by omega)) (fun h4 r4 f4 => ⟨rfl, ?_⟩)
          have r5 : rg (fun k => k = 4 ∨ k = 5) h h4 := rg_tr r3 (rg_of r4 (fun x hx => Or.inr hx))
          have t4 := rg_tp r5 t
          have d4 : dr_at h4 s st := dr_rg r5 (by omega) c.1
          have k4 : tk_at h4 T n (ps T n a (i + 1)) := tk_rf r4 (fun x hx => by omega) k2
          have r43 : ax_s h4 43 = (11, 3) := d4.1.2.2.2.2.1
          refine ⟨t4.1, 43, d4.1.2.1.2.2.2, t4.1, sh_k r43, by rw [r43]; exact vp_in_nI (by omega) (by decide), ?_⟩
          rw [nI_clamp (by omega), r4.2 9 (by omega), e9, ← nI_succ]
          refine ih (i + 1) (by omega) _ o1 (rg_tr r5 rg_43) (tk_43 k4) ⟨by rw [ai_ne (by omega)]; exact f4.1, by rw [ai_ne (by omega)]; exact f4.2⟩ (fun j hj => ?_) enf
          by_cases ej : j = i
          · rw [ej, ai_eq]
          · rw [ai_ne (by omega), (r4.1.2.2.2 43 (by omega)).1, (r2.1.2.2.2 43 (by omega)).1]
            exact e43 j (by omega)
        · have e2 : ¬ tkk T n (ps T n a (i + 1)) = 2 := fun z => q (by rw [k2.2.1, z]; rfl)
          rw [if_neg e2] at enf
          exact hbad _ (by unfold lsx; rw [e]; dsimp only; rw [← enf]) h2 (F1 r3) d2.1 t2 k2.2.2.1
    refine c_tooMany c.1 ok hv hvs ⟨_, rfl, fun q => ?_, fun q => ⟨r0, r0, ?_⟩⟩
    · refine key (lnu v) 0 (by omega) h _ rg_rf k ?_ (fun j hj => absurd hj (Nat.not_lt_zero j)) rfl
      show fp_at h (nt (l_f st, l_p st) (ltoo v st) 3 (tks T n a))
      rw [b2i_0.mp q]
      unfold nt
      rw [if_neg (fun z => absurd z.2 (by decide))]
      exact c.2
    · rw [k.2.2.1]
      refine c_note (w := 3) (q := tks T n a) r0 c.2 (by show l_f st < 2 ^ 31; omega) (by decide) (fun h7 r7 f7 => ⟨rfl, ?_⟩)
      refine key (lnu v) 0 (by omega) h7 _ (rg_of r7 (fun x hx => Or.inr hx)) (tk_rf r7 (fun x hx => by omega) k) ?_ (fun j hj => absurd hj (Nat.not_lt_zero j)) rfl
      show fp_at h7 (nt (l_f st, l_p st) (ltoo v st) 3 (tks T n a))
      rw [b2i_n0.mp q]
      exact f7
  · obtain ⟨-, hv, -⟩ := vbr_some e; omega
end
