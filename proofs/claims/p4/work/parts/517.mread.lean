section
variable {g : ax_G} {Ret : Option Value → ax_H → Prop} {h hh : ax_H} {T : Nat → Int32} {n a v s : Nat} {st : lS}
theorem c_lineOf (L : lb_at h T n a s st) (hs : s < 5) (hbad : lbad_K h T n a s Ret) (hok : lok_K h T n a s st Ret) : mX10_lineOf g [.ref 77, .int (nI s), .long (mw T n a), .int (nI (tks T n a))] h Ret := by
  have m := L.1.1.1
  have b0 : lbad_K h T n a s (fun v2 h1 => ∃ r3 : Int32, v2 = some (.int r3) ∧ (r3 = 0 ∨ r3 = 1) ∧ Ret (some (.int r3)) h1) := fun p e h' m' e17 => ⟨_, rfl, Or.inl rfl, hbad p e h' m' e17⟩
  have k0 : lok_K h T n a s st (fun v2 h1 => ∃ r3 : Int32, v2 = some (.int r3) ∧ (r3 = 0 ∨ r3 = 1) ∧ Ret (some (.int r3)) h1) := fun v md e w1 w2 w3 h' m' k' tb' f' p' => ⟨_, rfl, Or.inr rfl, hok v md e w1 w2 w3 h' m' k' tb' f' p'⟩
  rcases (by omega : s = 0 ∨ s = 1 ∨ s = 2 ∨ s = 3 ∨ s = 4) with rfl | rfl | rfl | rfl | rfl
  · exact eX10_lineOf ⟨fun _ => ⟨m, c_republicLine L b0 k0⟩, fun q => absurd rfl q⟩
  · exact eX10_lineOf ⟨fun q => absurd q (by decide), fun _ => ⟨fun _ => ⟨m, c_weekLine L b0 k0⟩, fun q => absurd rfl q⟩⟩
  · exact eX10_lineOf ⟨fun q => absurd q (by decide), fun _ => ⟨fun q => absurd q (by decide), fun _ => ⟨fun _ => ⟨m, c_errandLine L b0 k0⟩, fun q => absurd rfl q⟩⟩⟩
  · exact eX10_lineOf ⟨fun q => absurd q (by decide), fun _ => ⟨fun q => absurd q (by decide), fun _ => ⟨fun q => absurd q (by decide), fun _ => ⟨fun _ => ⟨m, c_trainLine L b0 k0⟩, fun q => absurd rfl q⟩⟩⟩⟩
  · exact eX10_lineOf ⟨fun q => absurd q (by decide), fun _ => ⟨fun q => absurd q (by decide), fun _ => ⟨fun q => absurd q (by decide), fun _ => ⟨fun q => absurd q (by decide), fun _ => ⟨m, c_sightLine L b0 k0⟩⟩⟩⟩⟩
theorem tks_end (ha : a ≤ n) (e : tkk T n a = 0) : tks T n a = n := by
  obtain ⟨b1, b2, b3, -⟩ := tk_bd (T := T) ha
  rcases Nat.lt_or_ge (tks T n a) n with z | z
  · unfold tkk at e
    rw [if_pos z] at e
    split at e
    · cases e
    · split at e
      · split at e <;> cases e
      · split at e <;> cases e
  · omega
theorem ps_tks {i : Nat} (ha : a ≤ n) : tks T n (ps T n a i) ≤ ps T n a (i + 1) := by
  obtain ⟨b1, b2, -, -⟩ := tk_bd (T := T) (ps_le (T := T) ha i).2
  exact b2
theorem c_mlines (t : mt_at h T n) (hT : tyb T) (hn : n ≤ 600) (hs : s < 5) (kk : mk_at h T n 0) (tb : tb_at h s l_st0) (f : lp_at h (0, 0))
    (hbad : ∀ p, txf T n s 601 0 l_st0 = .inl p → ∀ h', mF h h' → ax_i h' 77 17 = nI p → Ret (some (.int 0)) h')
    (hok : ∀ st, txf T n s 601 0 l_st0 = .inr st → okL s st → l_f st ≤ 4 → ∀ h', mF h h' → tb_at h' s st → lp_at h' (l_f st, l_p st) → (l_f st ≠ 0 → l_p st < n) → ax_i h' 77 13 = nI n → Ret (some (.int 1)) h') : mX10_lines g [.ref 77, .int (nI s)] h Ret := by
  refine uX10_lines (fun A hA => vX10_lines_0 hA ?_)
  have bad : ∀ (hh : ax_H) (p : Nat) (o3 : Option Value), txf T n s 601 0 l_st0 = .inl p → mF h hh → ax_i hh 77 17 = nI p → A (2, [some (.ref 77), some (.int (nI s)), some (.int 0), o3], [], hh, 0, 0) := fun hh p o3 e m e17 => vX10_lines_2 hA ⟨fun _ => ⟨Or.inl rfl, hbad p e hh m e17⟩, fun q => absurd rfl q⟩
  have key : ∀ m i : Nat, i + m = 601 → ∀ (hh : ax_H) (p : Nat) (st : lS) (o3 : Option Value), i ≤ p → p ≤ n → mF h hh → mk_at hh T n p → tb_at hh s st → lp_at hh (l_f st, l_p st) → okL s st → l_f st ≤ 4 → (l_f st ≠ 0 → l_p st < tks T n p) → txf T n s m p st = txf T n s 601 0 l_st0 → A (2, [some (.ref 77), some (.int (nI s)), some (.int 1), o3], [], hh, 0, 0) := by
    intro m
    induction m with
    | zero => intro i hi hh p st o3 hip hpn; omega
    | succ m ih =>
      intro i hi hh p st o3 hip hpn M k tb f ok hf pl ex
      have ex : (if tkk T n p = 0 then .inr st else match lsx T n s p with
        | .inl p => .inl p
        | .inr (v, md) => txf T n s m (ps T n p (l_m v + 1)) (l_line v (l_x T n p) md (tks T n p) (l_q T n p) st)) = txf T n s 601 0 l_st0 := ex
      have t1 := mF_mt M t
      refine vX10_lines_2 hA ⟨fun q => absurd q (by decide), fun _ => ⟨t1.1.1, fun q => ⟨Or.inr rfl, ?_⟩, fun q => ⟨t1.1.1, Or.inr rfl, t1.1.1, t1.1.1, ?_⟩⟩⟩
      · have e0 : tkk T n p = 0 := (mkd_0 tkk_le).mp (by rw [← k.2.2.1]; exact q)
        rw [if_pos e0] at ex
        have en := tks_end hpn e0
        exact hok st ex.symm ok hf hh M tb f (fun z => by have := pl z; omega) (by rw [k.1, en])
      · have ne0 : tkk T n p ≠ 0 := fun z => q (by rw [k.2.2.1]; exact (mkd_0 tkk_le).mpr z)
        rw [if_neg ne0, lsx_lpx] at ex
        rw [k.1]
        have m1 : mf (fun k => k = 24) hh (ax_pi hh 77 24 1) := mf_pi rfl
        have t2 := mf_mt m1 (by omega) t1
        have L1 : lb_at (ax_pi hh 77 24 1) T n p s st := ⟨t2, hT, hn, hpn, ne0, ⟨by rw [ai_ne (by omega)]; exact k.1, by rw [ai_ne (by omega)]; exact k.2.1, by rw [ai_ne (by omega)]; exact k.2.2.1, fun z => by rw [ai_ne (by omega)]; exact k.2.2.2.1 z, fun z => k.2.2.2.2 z⟩, tb_mg (mg_of (J' := fun k => k = 24) m1 (fun x hx => Or.inr hx)) (by omega) tb, ⟨by rw [ai_ne (by omega)]; exact f.1, fun z => by rw [ai_ne (by omega)]; exact f.2 z⟩, hf, pl, ai_eq, ok⟩
        have M1 : mF h (ax_pi hh 77 24 1) := mF_tr M (mF_mg (mg_of (J' := fun k => k = 24) m1 (fun x hx => Or.inr hx)) (by omega))
        have k1 : mk_at (ax_pi hh 77 24 1) T n p := L1.2.2.2.2.2.1
        revert t2 L1 M1 k1
        generalize ax_pi hh 77 24 1 = h1
        intro t2 L1 M1 k1
        -- the line, by its word
        have line : ∀ w : Int64, w = mw T n p → mX10_lineOf g [.ref 77, .int (nI s), .long w, .int (nI (tks T n p))] h1 (fun v3 h2 => ∃ r4 : Int32, v3 = some (.int r4) ∧ (r4 = 0 → (r4 = 0 → A (2, [some (.ref 77), some (.int (nI s)), some (.int r4), some (.int (nI (tks T n p)))], [], h2, 0, 0)) ∧ (¬ r4 = 0 → (ax_s h2 77).1 = 10 ∧ mX10_token g [.ref 77] h2 (fun v6 h5 => v6 = none ∧ A (2, [some (.ref 77), some (.int (nI s)), some (.int r4), some (.int (nI (tks T n p)))], [], h5, 0, 0)))) ∧ (¬ r4 = 0 → (ax_s h2 77).1 = 10 ∧ (ax_i h2 77 14 = 4 → (r4 = 0 → A (2, [some (.ref 77), some (.int (nI s)), some (.int r4), some (.int (nI (tks T n p)))], [], h2, 0, 0)) ∧ (¬ r4 = 0 → (ax_s h2 77).1 = 10 ∧ mX10_token g [.ref 77] h2 (fun v8 h7 => v8 = none ∧ A (2, [some (.ref 77), some (.int (nI s)), some (.int r4), some (.int (nI (tks T n p)))], [], h7, 0, 0)))) ∧ (¬ ax_i h2 77 14 = 4 → (ax_s h2 77).1 = 10 ∧ mX10_fails g [.ref 77] h2 (fun v10 h9 => ∃ r11 : Int32, v10 = some (.int r11) ∧ (r11 = 0 → A (2, [some (.ref 77), some (.int (nI s)), some (.int r11), some (.int (nI (tks T n p)))], [], h9, 0, 0)) ∧ (¬ r11 = 0 → (ax_s h9 77).1 = 10 ∧ mX10_token g [.ref 77] h9 (fun v13 h12 => v13 = none ∧ A (2, [some (.ref 77), some (.int (nI s)), some (.int r11), some (.int (nI (tks T n p)))], [], h12, 0, 0))))))) := by
          intro w ew
          rw [ew]
          refine c_lineOf L1 hs (fun pl' el h2 M2 e17 => ⟨_, rfl, fun _ => ⟨fun _ => bad h2 pl' _ ?_ (mF_tr M1 M2) e17, fun y => absurd rfl y⟩, fun y => absurd rfl y⟩) (fun v md el hv hvs hmd h2 M2 k2 tb2 f2 p2 => ⟨_, rfl, fun y => absurd y (by decide), fun _ => ⟨(mF_mt M2 t2).1.1, fun y => ⟨fun x => absurd x (by decide), fun _ => ⟨(mF_mt M2 t2).1.1, ?_⟩⟩, fun y => ⟨(mF_mt M2 t2).1.1, ?_⟩⟩⟩)
          · rw [el] at ex; exact ex.symm
          · have t3 := mF_mt M2 t2
            have e3 : tkk T n (ps T n p (l_m v)) = 3 := (mkd_4 tkk_le).mp (by rw [← k2.2.2.1]; exact y)
            rw [el] at ex
            dsimp only at ex
            rw [if_pos e3] at ex
            dsimp only at ex
            obtain ⟨l1, l2⟩ := lsx_ps (v := v) (md := md) hpn ne0
            refine c_mnext t3 hT hn (ps_le hpn (l_m v)).2 k2 (fun h7 r7 k7 => ⟨rfl, ?_⟩)
            have k7 : mk_at h7 T n (ps T n p (l_m v + 1)) := k7
            refine ih (i + 1) (by omega) h7 (ps T n p (l_m v + 1)) _ _ (by omega) l2 (mF_tr M1 (mF_tr M2 (mF_mg (mg_of (J' := fun _ => False) r7 (fun x hx => Or.inl hx)) (by simp)))) k7 (tb_mg (mg_of (J' := fun _ => False) r7 (fun x hx => Or.inl hx)) (by simp) tb2) ⟨by rw [r7.2 18 (by omega)]; exact f2.1, fun z => by rw [r7.2 19 (by omega)]; exact f2.2 z⟩ (okL_line ok hv hvs hmd) (l_line_le hf) (fun z => ?_) ex
            have a1 := p2 z
            have a2 := tks_lt (T := T) (i := l_m v) hpn (by rw [e3]; decide)
            omega
          · have t3 := mF_mt M2 t2
            have e3 : ¬ tkk T n (ps T n p (l_m v)) = 3 := fun z => y (by rw [k2.2.2.1]; exact (mkd_4 tkk_le).mpr z)
            rw [el] at ex
            dsimp only at ex
            rw [if_neg e3] at ex
            dsimp only at ex
            refine c_mfails t3.1.1 (fun h9 r9 e9 => ⟨_, rfl, fun _ => bad h9 _ _ ex.symm (mF_tr M1 (mF_tr M2 (mF_mg (mg_of (J' := fun k => k = 17) r9 (fun x hx => Or.inr hx)) (by omega)))) ?_, fun y => absurd rfl y⟩)
            rw [e9]; exact k2.1
        refine ⟨fun q2 => ⟨t2.1.1, line 0 ?_⟩, fun q2 => ⟨t2.1.1, t2.1.1, line _ ?_⟩⟩
        · have : ¬ tkk T n p = 1 := fun z => q2 (by rw [k1.2.2.1]; exact (mkd_2 tkk_le).mpr z)
          unfold mw; rw [if_neg this]
        · have : tkk T n p = 1 := (mkd_2 tkk_le).mp (by rw [← k1.2.2.1]; exact q2)
          unfold mw; rw [if_pos this]; exact k1.2.2.2.2 this
  exact key 601 0 (by omega) h 0 l_st0 _ (Nat.le_refl _) (Nat.zero_le _) ⟨sm_rf, rfl⟩ kk tb f okL_0 (by decide) (fun z => absurd rfl z) rfl
end
