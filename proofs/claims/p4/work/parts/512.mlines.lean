section
variable {g : ax_G} {Ret : Option Value → ax_H → Prop} {h : ax_H} {T : Nat → Int32} {n a s v : Nat} {st : lS}
theorem nf_some {i : Nat} (h2 : tkk T n (ps T n a (i + 1)) ≠ 2) : ∀ (k j : Nat), j ≤ i → i < j + k → (∀ l, j ≤ l → l < i → tkk T n (ps T n a (l + 1)) = 2) → nf T n a k j = some (i + 1)
  | 0, j => fun h3 h4 => by omega
  | k + 1, j => fun h3 h4 h5 => by
    show (if tkk T n (ps T n a (j + 1)) = 2 then nf T n a k (j + 1) else some (j + 1)) = some (i + 1)
    by_cases e : j = i
    · subst e; rw [if_neg h2]
    · rw [if_pos (h5 j (Nat.le_refl _) (by omega))]
      exact nf_some h2 k (j + 1) (by omega) (by omega) (fun l h6 h7 => h5 l (by omega) h7)
theorem nf_none : ∀ (k j : Nat), (∀ l, j ≤ l → l < j + k → tkk T n (ps T n a (l + 1)) = 2) → nf T n a k j = none
  | 0, j => fun _ => rfl
  | k + 1, j => fun h5 => by
    show (if tkk T n (ps T n a (j + 1)) = 2 then nf T n a k (j + 1) else some (j + 1)) = none
    rw [if_pos (h5 j (Nat.le_refl _) (by omega))]
    exact nf_none k (j + 1) (fun l h6 h7 => h5 l (by omega) (by omega))
/-- what a line of the reference may change -/
def mF (h h' : ax_H) : Prop := ax_same (fun b => b = 77 ∨ b = 88 ∨ b = 89) h h' ∧ ax_i h' 77 12 = ax_i h 77 12
theorem mF_mt {h' : ax_H} (x : mF h h') (t : mt_at h T n) : mt_at h' T n := ⟨mo_st_same x.1 t.1, fun j hj => by rw [(x.1.2.2.2 78 (by omega)).1]; exact t.2.1 j hj, by rw [x.2]; exact t.2.2⟩
theorem mF_mg {J : Nat → Prop} {h' : ax_H} (x : mg J h h') (i : ¬ J 12) : mF h h' := ⟨sm_mono x.1 (fun b hb => by omega), x.2 12 (by omega) i⟩
theorem mF_tr {h1 h2 : ax_H} (x : mF h h1) (y : mF h1 h2) : mF h h2 := ⟨sm_tr x.1 y.1, y.2.trans x.2⟩
/-- where a line begins -/
def lb_at (h : ax_H) (T : Nat → Int32) (n a s : Nat) (st : lS) : Prop := mt_at h T n ∧ tyb T ∧ n ≤ 600 ∧ a ≤ n ∧ tkk T n a ≠ 0 ∧ mk_at h T n a ∧ tb_at h s st ∧ lp_at h (l_f st, l_p st) ∧ l_f st ≤ 4 ∧ (l_f st ≠ 0 → l_p st < tks T n a) ∧ ax_i h 77 24 = 1 ∧ okL s st
/-- how a line ends -/
def lbad_K (h : ax_H) (T : Nat → Int32) (n a s : Nat) (Ret : Option Value → ax_H → Prop) : Prop := ∀ p, lpx T n s a = .inl p → ∀ h', mF h h' → ax_i h' 77 17 = nI p → Ret (some (.int 0)) h'
def lok_K (h : ax_H) (T : Nat → Int32) (n a s : Nat) (st : lS) (Ret : Option Value → ax_H → Prop) : Prop := ∀ v md, lpx T n s a = .inr (v, md) → v < 11 → lvs v = s → md < 3 → ∀ h', mF h h' → mk_at h' T n (ps T n a (l_m v)) → tb_at h' s (l_line v (l_x T n a) md (tks T n a) (l_q T n a) st) → lp_at h' (l_f (l_line v (l_x T n a) md (tks T n a) (l_q T n a) st), l_p (l_line v (l_x T n a) md (tks T n a) (l_q T n a) st)) → (l_f (l_line v (l_x T n a) md (tks T n a) (l_q T n a) st) ≠ 0 → l_p (l_line v (l_x T n a) md (tks T n a) (l_q T n a) st) < tks T n (ps T n a (l_m v))) → Ret (some (.int 1)) h'
theorem l_line_fp {x : Nat → Nat} {md q0 : Nat} {q : Nat → Nat} : (l_f (l_line v x md q0 q st), l_p (l_line v x md q0 q st)) = l_fp v x q0 q st := by
  unfold l_line
  by_cases z : (l_fp v x q0 q st).1 = 0
  · rw [if_pos z, l_tell_f.1, l_tell_f.2]
    obtain ⟨a1, a2, -⟩ := lfp_0 z
    obtain ⟨-, -, b3⟩ := nt_0 (by decide) a1
    show _ = lfp v x q (nt (l_f st, l_p st) (ltoo v st) 3 q0) (lnu v)
    rw [a2, b3]
  · rw [if_neg z]; rfl
theorem lpx_nf {v i : Nat} (ev : vb T n s a = some v) (hi : i < lnu v) (hb : ∀ l, l < i → tkk T n (ps T n a (l + 1)) = 2) (h2 : tkk T n (ps T n a (i + 1)) ≠ 2) : lpx T n s a = .inl (tks T n (ps T n a (i + 1))) := by
  unfold lpx
  rw [ev]
  dsimp only
  rw [nf_some h2 (lnu v) 0 (Nat.zero_le _) (by omega) (fun l _ h7 => hb l h7)]
theorem lpx_no {v : Nat} (ev : vb T n s a = some v) (hb : ∀ l, l < lnu v → tkk T n (ps T n a (l + 1)) = 2) (nv : ¬ (v = 1 ∨ v = 2)) : lpx T n s a = .inr (v, 0) := by
  unfold lpx
  rw [ev]
  dsimp only
  rw [nf_none (lnu v) 0 (fun l _ h7 => hb l (by omega))]
  dsimp only
  rw [if_neg nv]
/-- a line of lines ends: keep() -/
theorem c_keepV {hh : ax_H} (L : lb_at h T n a s st) (h6 : 6 ≤ v) (ev : vb T n s a = some v) (hb : ∀ l, l < lnu v → tkk T n (ps T n a (l + 1)) = 2) (r : mg (fun k => k = 18 ∨ k = 19 ∨ k = 24) h hh) (e89 : ∀ j, j < lw s → ax_i hh 89 j = lval v (l_x T n a) j) (kk : mk_at hh T n (ps T n a (lnu v + 1))) (f : lp_at hh (l_fp v (l_x T n a) (tks T n a) (l_q T n a) st)) (pl : (l_fp v (l_x T n a) (tks T n a) (l_q T n a) st).1 ≠ 0 → (l_fp v (l_x T n a) (tks T n a) (l_q T n a) st).2 ≤ tks T n (ps T n a (lnu v))) (hok : lok_K h T n a s st Ret) : mX10_keep g [.ref 77, .int 1, .int (nI (lw s)), .int (nI (lm s))] hh (fun v9 h8 => v9 = none ∧ ((1 : Int32) = 0 ∨ (1 : Int32) = 1) ∧ Ret (some (.int 1)) h8) := by
  obtain ⟨t, hT, hn, ha, nz, -, tb, -, fl, -, -, ok⟩ := L
  obtain ⟨hv, hs, -⟩ := vb_w ev
  obtain ⟨w1, w2, w3⟩ := lnu_lw v h6 hv
  rw [hs] at w2 w3
  have t1 := mg_mt r (by omega) t
  have tb1 := tb_mg r (by omega) tb
  obtain ⟨k, k1, k2, k3⟩ := tb_n1 w2 tb1
  refine c_mkeep t1.1 w2 w3 k2 k1 (fun h' sm c => ⟨rfl, Or.inr rfl, ?_⟩)
  have e77 : ∀ j, ax_i h' 77 j = ax_i hh 77 j := (sm.2.2.2 77 (by omega)).1
  have l77 : ∀ j, ax_l h' 77 j = ax_l hh 77 j := (sm.2.2.2 77 (by omega)).2
  have em : l_m v = lnu v + 1 := by unfold l_m; rw [if_neg (by omega)]
  have nzc : tkk T n (ps T n a (lnu v)) ≠ 0 := by
    obtain ⟨-, n1, -⟩ := tab_nu v hv
    have := hb (lnu v - 1) (by omega)
    rw [show lnu v - 1 + 1 = lnu v by omega] at this
    omega
  refine hok v 0 (lpx_no ev hb (by omega)) hv hs (by decide) h' (mF_tr (mF_mg r (by omega)) ⟨sm_mono sm (fun b hb => by omega), e77 12⟩) ?_ (tb_keep h6 hv hs tb1 k2 k1 k3 e77 e89 c) ?_ ?_
  · rw [em]
    exact ⟨by rw [e77]; exact kk.1, by rw [e77]; exact kk.2.1, by rw [e77]; exact kk.2.2.1, fun z => by rw [e77]; exact kk.2.2.2.1 z, fun z => by rw [l77]; exact kk.2.2.2.2 z⟩
  · rw [l_line_fp]
    exact ⟨by rw [e77]; exact f.1, fun z => by rw [e77]; exact f.2 z⟩
  · intro z
    have e := l_line_fp (v := v) (st := st) (x := l_x T n a) (md := 0) (q0 := tks T n a) (q := l_q T n a)
    have e1 : l_f (l_line v (l_x T n a) 0 (tks T n a) (l_q T n a) st) = (l_fp v (l_x T n a) (tks T n a) (l_q T n a) st).1 := congrArg Prod.fst e
    have e2 : l_p (l_line v (l_x T n a) 0 (tks T n a) (l_q T n a) st) = (l_fp v (l_x T n a) (tks T n a) (l_q T n a) st).2 := congrArg Prod.snd e
    rw [e1] at z
    rw [e2, em]
    exact Nat.lt_of_le_of_lt (pl z) (tks_lt ha nzc)
/-- a line of lines begins: full(), token() -/
theorem c_fullV {K : ax_H → Prop} (L : lb_at h T n a s st) (h6 : 6 ≤ v) (ev : vb T n s a = some v) (go : ∀ h', mg (fun k => k = 18 ∨ k = 19 ∨ k = 24) h h' → mt_at h' T n → mk_at h' T n (ps T n a 1) → lp_at h' (nt (l_f st, l_p st) (ltoo v st) 3 (tks T n a)) → ((nt (l_f st, l_p st) (ltoo v st) 3 (tks T n a)).1 ≠ 0 → (nt (l_f st, l_p st) (ltoo v st) 3 (tks T n a)).2 ≤ tks T n a) → ax_i h' 77 24 = 1 → K h') : mX10_full g [.ref 77, .int 0, .int (nI (lm s)), .int (nI (tks T n a))] h (fun v2 h1 => v2 = none ∧ (ax_s h1 77).1 = 10 ∧ mX10_token g [.ref 77] h1 (fun v4 h3 => v4 = none ∧ (ax_s h3 77).1 = 10 ∧ K h3)) := by
  obtain ⟨t, hT, hn, ha, nz, kk, tb, f, fl, pl, e24, ok⟩ := L
  obtain ⟨hv, hs, -⟩ := vb_w ev
  obtain ⟨w1, w2, w3⟩ := lnu_lw v h6 hv
  rw [hs] at w2 w3
  have lb := lm_lw w2 w3
  obtain ⟨k, k1, k2, k3⟩ := tb_n1 w2 tb
  obtain ⟨b1, b2, b3, -⟩ := tk_bd (T := T) ha
  refine c_full2 (cnt := 0) t.1 (by decide) k2 k1 (by omega) f fl (by omega) pl (fun h1 r1 f1 => ⟨rfl, ?_⟩)
  rw [nt_too1 w2 hs k1 k3] at f1
  have t1 := mf_mt r1 (by omega) t
  refine ⟨t1.1.1, c_mtoken (a := tkb T n a) t1 hT hn (by rw [r1.2 11 (by omega)]; exact kk.2.1) b3 (fun h3 r3 k3' => ⟨rfl, (mf_mt r3 (by omega) t1).1.1, go h3 (mg_tr (mg_of r1 (fun x hx => Or.inr (by omega))) (mg_of r3 (fun x hx => Or.inl hx))) (mf_mt r3 (by omega) t1) k3' ⟨by rw [r3.2 18 (by omega)]; exact f1.1, fun z => by rw [r3.2 19 (by omega)]; exact f1.2 z⟩ (fun z => ?_) (by rw [r3.2 24 (by omega), r1.2 24 (by omega)]; exact e24)⟩)⟩
  unfold nt at z ⊢
  split
  · exact Nat.le_refl _
  · rename_i y
    rw [if_neg y] at z
    exact Nat.le_of_lt (pl z)
end
