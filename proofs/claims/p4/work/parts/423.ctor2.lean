section
variable {g : ax_G} {Ret : Option Value → ax_H → Prop} {h : ax_H} {r : Nat}
/-! the reader -/
def re_n (h : ax_H) (r tp n : Nat) : Prop := (ax_s h r).1 = 5 ∧ (ax_r h r 0 = some tp ∧ ax_r h r 1 = some (r + 1) ∧ ax_r h r 2 = some (r + 7) ∧ ax_r h r 3 = some (r + 8)) ∧ rc_st h (r + 1) ∧ ax_s h (r + 7) = (15, 5) ∧ ax_s h (r + 8) = (11, 3) ∧ ax_r h (r + 7) 0 = none ∧ ∀ s, 1 ≤ s → s < n → ax_r h (r + 7) s = some (r + 7 + 2 * s) ∧ li_st h (r + 7 + 2 * s) s
def re_st (h : ax_H) (r tp : Nat) : Prop := re_n h r tp 5
theorem re_n_ag {P : Nat → Prop} {h h' : ax_H} {tp n : Nat} (s : ag P h h') (i : ∀ j, j < 9 → P (r + j)) (il : ∀ s, 1 ≤ s → s < n → P (r + 7 + 2 * s) ∧ P (r + 7 + 2 * s + 1)) (a : re_n h r tp n) : re_n h' r tp n := by
  obtain ⟨a1, ⟨b1, b2, b3, b4⟩, c1, c2, c3, c4, d⟩ := a
  have e0 := s _ (i 0 (by omega))
  rw [Nat.add_zero] at e0
  have e7 := s _ (i 7 (by omega))
  exact ⟨by rw [e0.1]; exact a1, ⟨by rw [e0.2.2.2]; exact b1, by rw [e0.2.2.2]; exact b2, by rw [e0.2.2.2]; exact b3, by rw [e0.2.2.2]; exact b4⟩, rc_st_ag s (fun j hj => by have := i (1 + j) (by omega); rwa [← Nat.add_assoc] at this) c1, by rw [e7.1]; exact c2, by rw [(s _ (i 8 (by omega))).1]; exact c3, by rw [e7.2.2.2]; exact c4, fun q h1 hq => ⟨by rw [e7.2.2.2]; exact (d q h1 hq).1, li_st_ag s (il q h1 hq) (d q h1 hq).2⟩⟩
theorem c_init5 {tp : Nat} (hn : h.1 = r + 1) (ha : r < 800000) (hs : (ax_s h r).1 = 5) (hq : ∀ h', ag (fun b => b < r) h h' → h'.1 = r + 17 → re_st h' r tp → Ret none h') : mX5_init g [.ref r, .ref tp] h Ret := by
  refine uX5_init (fun A hA => vX5_init_0 hA ⟨by decide, ⟨by omega, by decide, by decide⟩, rfl, ⟨by simp [Value.category], by decide, by decide⟩, by rw [as_nw, if_pos rfl], ?_⟩)
  rw [hn]
  refine c_init6 (r := r + 1) (by show h.1 + 1 = _; omega) (by omega) (by rw [as_nw, if_pos hn.symm]) (fun h2 hg' hn2 hr2 _ _ => ?_)
  have hg2 : ag (fun b => b < r + 1) h h2 := ag_tr (ag_nw (by omega)) hg'
  rw [← hn]
  have k0 : (ax_s h2 r).1 = 5 := by rw [(hg2 r (by omega)).1]; exact hs
  have k1 : (ax_s (ax_nw (ax_pr h2 r 1 (some h.1)) 15 5) r).1 = 5 := by rw [as_nw, if_neg (by show r ≠ h2.1; omega)]; exact k0
  have k2 : (ax_s (ax_nw (ax_pr (ax_nw (ax_pr h2 r 1 (some h.1)) 15 5) r 2 (some h2.1)) 11 3) r).1 = 5 := by rw [as_nw, if_neg (by show r ≠ h2.1 + 1; omega)]; exact k1
  have hag : ag (fun b => b ≠ r ∧ b < r + 7) h2 (ax_pr (ax_pi (ax_pi (ax_pi (ax_pi (ax_pi (ax_pi (ax_pi (ax_pi (ax_pi (ax_pi (ax_pr (ax_nw (ax_pr (ax_nw (ax_pr h2 r 1 (some h.1)) 15 5) r 2 (some h2.1)) 11 3) r 3 (some (h2.1 + 1))) r 4 0) r 5 (-1)) r 6 0) r 7 0) r 8 0) r 9 0) r 10 0) r 11 0) r 12 (-1)) r 13 (-1)) r 0 (some tp)) := (ag_tr (ag_tr (ag_tr (ag_tr (ag_tr (ag_tr (ag_tr (ag_tr (ag_tr (ag_tr (ag_tr (ag_tr (ag_tr (ag_tr (ag_tr (ag_pr (by omega)) (ag_nw (by simp only [sz_nw, sz_pr, sz_pi, sz_pl, hn2]; omega))) (ag_pr (by omega))) (ag_nw (by simp only [sz_nw, sz_pr, sz_pi, sz_pl, hn2]; omega))) (ag_pr (by omega))) (ag_pi (by omega))) (ag_pi (by omega))) (ag_pi (by omega))) (ag_pi (by omega))) (ag_pi (by omega))) (ag_pi (by omega))) (ag_pi (by omega))) (ag_pi (by omega))) (ag_pi (by omega))) (ag_pi (by omega))) (ag_pr (by omega)))
  have hst : re_n (ax_pr (ax_pi (ax_pi (ax_pi (ax_pi (ax_pi (ax_pi (ax_pi (ax_pi (ax_pi (ax_pi (ax_pr (ax_nw (ax_pr (ax_nw (ax_pr h2 r 1 (some h.1)) 15 5) r 2 (some h2.1)) 11 3) r 3 (some (h2.1 + 1))) r 4 0) r 5 (-1)) r 6 0) r 7 0) r 8 0) r 9 0) r 10 0) r 11 0) r 12 (-1)) r 13 (-1)) r 0 (some tp)) r tp 1 := by
    refine ⟨k2, ⟨?_, ?_, ?_, ?_⟩, rc_st_ag hag (fun j hj => by omega) hr2, ?_, ?_, ?_, fun s h1 h2 => absurd h2 (by omega)⟩
    all_goals (simp [as_nw, ar_nw, ai_nw, as_pr, ar_pr, ai_pr, as_pi, ar_pi, ai_pi, as_pl, ar_pl, sz_nw, sz_pr, sz_pi, sz_pl, hn2, hn] <;> omega)
  refine ⟨rfl, k0, by decide, ⟨by show h2.1 + 1 < 1000000; omega, by decide, by decide, by decide⟩, k1, by decide, ⟨by show h2.1 + 1 + 1 < 1000000; omega, by decide, by decide, by decide⟩, k2, k2, k2, k2, k2, k2, k2, k2, k2, k2, k2, k2, ?_⟩
  have key : ∀ n s : Nat, s + n = 5 → 1 ≤ s → ∀ (hh : ax_H) (u1 u2 : Nat) (o : Option Value), ag (fun b => b < r) h hh → hh.1 = r + 7 + 2 * s → re_n hh r tp s → u1 = 6 + 2 * s → u2 = 155 + 22 * s → A (87, [some (.ref r), o, some (.int (nI s))], [], hh, u1, u2) := by
    intro n
    induction n with
    | zero =>
      intro s hsn hs1 hh u1 u2 o hg hz hi e1 e2
      obtain rfl : s = 5 := by omega
      exact vX5_init_87 hA ⟨fun _ => ⟨⟨by omega, by omega⟩, hq hh hg (by omega) hi⟩, fun q => absurd (by decide) q⟩
    | succ n ih =>
      intro s hsn hs1 hh u1 u2 o hg hz hi e1 e2
      refine vX5_init_87 hA ⟨fun q => absurd q (nI_ge (a := s) (b := 5) (by omega) (by decide)), fun _ => ⟨hi.1, _, hi.2.1.2.2.1, ⟨by omega, by omega, by omega⟩, rfl, ⟨by simp [Value.category], by omega, by omega⟩, by rw [as_nw, if_pos rfl], ?_⟩⟩
      have hnw : (ax_nw hh 2 0).1 = hh.1 + 1 := rfl
      refine c_init2 (r := hh.1) (s := s) hnw (by omega) (by rw [as_nw, if_pos rfl]) hs1 (by omega) (fun h' hg' hz' hl' _ => ?_)
      have hg2 : ag (fun b => b < hh.1) hh h' := ag_tr (ag_nw (by omega)) hg'
      have hi' : re_n h' r tp s := re_n_ag hg2 (fun j hj => by omega) (fun q h1 h2 => by omega) hi
      refine ⟨rfl, by rw [hi'.2.2.2.1], hl'.1, by rw [hi'.2.2.2.1]; exact vp_in_nI (by omega) (by decide), ?_⟩
      show A (87, [some (.ref r), ax_k2 o, some (.int (nI s + 1))], [], ax_pr h' (r + 7) (nI s).toNatClampNeg (some hh.1), u1 + 1 + 1, u2 + 4 + 18)
      rw [← nI_succ, nI_clamp (by omega)]
      have hp : ag (fun b => b ≠ r + 7) h' (ax_pr h' (r + 7) s (some hh.1)) := ag_pr (fun q => q rfl)
      have e0 := hp r (by omega)
      obtain ⟨i1, ⟨i2, i3, i4, i5⟩, i6, i7, i8, i9, i10⟩ := hi'
      refine ih (s + 1) (by omega) (by omega) _ _ _ _ (ag_tr hg (ag_tr (ag_mono hg2 (fun x hx => by omega)) (ag_mono hp (fun x hx => by omega)))) (by show h'.1 = _; omega) ⟨by rw [e0.1]; exact i1, ⟨by rw [e0.2.2.2]; exact i2, by rw [e0.2.2.2]; exact i3, by rw [e0.2.2.2]; exact i4, by rw [e0.2.2.2]; exact i5⟩, rc_st_ag hp (fun j hj => by omega) i6, i7, i8, by rw [ar_pr, if_neg (by omega)]; exact i9, fun q h1 hq => ?_⟩ (by omega) (by omega)
      by_cases e : q = s
      · subst e
        refine ⟨by rw [ar_pr, if_pos ⟨rfl, rfl⟩, hz], li_st_ag hp (by omega) ?_⟩
        rw [← hz]; exact hl'
      · exact ⟨by rw [ar_pr, if_neg (fun z => e z.2)]; exact (i10 q h1 (by omega)).1, li_st_ag hp (by omega) (i10 q h1 (by omega)).2⟩
  exact key 4 1 rfl (by omega) _ 8 177 _ (ag_tr (ag_mono hg2 (fun x hx => by omega)) (ag_mono hag (fun x hx => by omega))) (by show h2.1 + 1 + 1 = _; omega) hst rfl rfl
/-! the class's object, at place 0 -/
def x9r : List Nat := [1, 34, 35, 52, 55, 57, 59, 66, 76]
def x9R (j : Nat) (h : ax_H) : Prop := (ax_s h 0).1 = 9 ∧ ∀ i, i < j → ax_r h 0 i = some (x9r.getD i 0)
theorem x9_step {hh h' : ax_H} {n j kd ln : Nat} (hn : hh.1 = n) (n1 : 1 ≤ n) (R : x9R j hh) (hg : ag (fun b => b < n) (ax_nw hh kd ln) h') (ht : x9r.getD j 0 = n) : (ax_s h' 0).1 = 9 ∧ x9R (j + 1) (ax_pr h' 0 j (some n)) ∧ ag (fun b => 1 ≤ b ∧ b < n) hh (ax_pr h' 0 j (some n)) := by
  have h0 : ag (fun b => b < n) hh h' := ag_tr (ag_nw (by omega)) hg
  have e0 := h0 0 (by omega)
  refine ⟨by rw [e0.1]; exact R.1, ⟨by rw [as_pr, e0.1]; exact R.1, fun i hi => ?_⟩, ag_tr (ag_mono h0 (fun x hx => hx.2)) (ag_pr (by omega))⟩
  by_cases e : i = j
  · subst e; rw [ar_pr, if_pos ⟨rfl, rfl⟩, ht]
  · rw [ar_pr, if_neg (fun z => e z.2), e0.2.2.2]; exact R.2 i (by omega)
/-- where everything of the class lies -/
def cs_st (h : ax_H) : Prop := xs_st h ∧ to_st h 1 ∧ re_st h 35 2 ∧ pl_st h 59 ∧ se_st h 66 ∧ ax_s h 34 = (18, 3) ∧ ax_r h 5 0 = none ∧ ax_r h 5 1 = none
theorem to_st_ag {P : Nat → Prop} {h h' : ax_H} {t : Nat} (s : ag P h h') (i : ∀ b, t ≤ b → b < t + 33 → P b) (a : to_st h t) : to_st h' t := by
  obtain ⟨a1, ⟨a2, a3, a4, a5⟩, ⟨b1, b2, b3, b4⟩, c1, c2⟩ := a
  have e0 := s t (i t (by omega) (by omega))
  have e3 := s (t + 3) (i _ (by omega) (by omega))
  have e4 := s (t + 4) (i _ (by omega) (by omega))
  exact ⟨by rw [e0.1]; exact a1, ⟨by rw [e0.2.2.2]; exact a2, by rw [e0.2.2.2]; exact a3, by rw [e0.2.2.2]; exact a4, by rw [e0.2.2.2]; exact a5⟩, ⟨by rw [(s (t + 1) (i _ (by omega) (by omega))).1]; exact b1, by rw [(s (t + 2) (i _ (by omega) (by omega))).1]; exact b2, by rw [e3.1]; exact b3, by rw [e4.1]; exact b4⟩, fun k hk => ⟨by rw [e3.2.2.2]; exact (c1 k hk).1, rc_st_ag s (fun j hj => i _ (by omega) (by omega)) (c1 k hk).2⟩, fun s' k h1 h5 hk => ⟨by rw [e4.2.2.2]; exact (c2 s' k h1 h5 hk).1, li_st_ag s ⟨i _ (by unfold lnp; omega) (by unfold lnp; omega), i _ (by unfold lnp; omega) (by unfold lnp; omega)⟩ (c2 s' k h1 h5 hk).2⟩⟩
theorem tz_ag {P : Nat → Prop} {h h' : ax_H} {t : Nat} (s : ag P h h') (i : P t ∧ P (t + 1) ∧ P (t + 2)) (a : tz h t) : tz h' t := by
  obtain ⟨z1, z2, z3, z4, z5⟩ := a
  exact ⟨by rw [(s _ i.1).2.1]; exact z1, by rw [(s _ i.1).2.1]; exact z2, by rw [(s _ i.1).2.1]; exact z3, fun k => by rw [(s _ i.2.1).2.1]; exact z4 k, fun k => by rw [(s _ i.2.2).2.1]; exact z5 k⟩
theorem c_init9 (hn : h.1 = 1) (hs : (ax_s h 0).1 = 9) (hq : ∀ h', h'.1 = 77 → cs_st h' → tz h' 1 → (∀ k, ax_r h' 34 k = none) → Ret none h') : mX9_init g [.ref 0] h Ret := by
  have R0 : x9R 0 h := ⟨hs, fun i hi => absurd hi (Nat.not_lt_zero i)⟩
  refine eX9_init ⟨by decide, ⟨by omega, by decide, by decide⟩, rfl, ⟨by simp [Value.category], by decide, by decide⟩, by rw [as_nw, if_pos rfl], ?_⟩
  rw [hn]
  refine c_init8 (t := 1) (by show h.1 + 1 = _; omega) (by omega) (by rw [as_nw, if_pos hn.symm]) (fun h2 g2 n2 st2 z2 nl0 nl1 => ?_)
  obtain ⟨k2, R1, G1⟩ := x9_step hn (Nat.le_refl 1) R0 g2 rfl
  refine ⟨rfl, k2, by decide, ⟨by show h2.1 + 1 < 1000000; omega, by decide, by decide, by decide⟩, ?_⟩
  have n2' : (ax_pr h2 0 0 (some 1)).1 = 34 := n2
  obtain ⟨k5, R2, G2⟩ := x9_step (kd := 18) (ln := 3) n2' (by omega) R1 ag_rf rfl
  rw [n2']
  have n6 : (ax_pr (ax_nw (ax_pr h2 0 0 (some 1)) 18 3) 0 1 (some 34)).1 = 35 := by show h2.1 + 1 = _; omega
  refine ⟨k5, ⟨by rw [n6]; decide, by decide, by decide⟩, rfl, ?_⟩
  rw [n6]
  have im6 : ax_s (ax_pr (ax_nw (ax_pr h2 0 0 (some 1)) 18 3) 0 1 (some 34)) 34 = (18, 3) ∧ ∀ k, ax_r (ax_pr (ax_nw (ax_pr h2 0 0 (some 1)) 18 3) 0 1 (some 34)) 34 k = none := ⟨by rw [as_pr, as_nw, if_pos n2'.symm], fun k => by rw [ar_pr, if_neg (by omega), ar_nw, if_pos n2'.symm]⟩
  have g26 : ag (fun b => 1 ≤ b ∧ b < 34) h2 (ax_pr (ax_nw (ax_pr h2 0 0 (some 1)) 18 3) 0 1 (some 34)) := ag_tr (ag_pr (by omega)) G2
  have st6 := to_st_ag g26 (fun b _ _ => by omega) st2
  have z6 := tz_ag g26 (by omega) z2
  have nl6 : ax_r (ax_pr (ax_nw (ax_pr h2 0 0 (some 1)) 18 3) 0 1 (some 34)) 5 0 = none ∧ ax_r (ax_pr (ax_nw (ax_pr h2 0 0 (some 1)) 18 3) 0 1 (some 34)) 5 1 = none := ⟨by rw [(g26 5 (by omega)).2.2.2]; exact nl0, by rw [(g26 5 (by omega)).2.2.2]; exact nl1⟩
  revert R2 im6 st6 z6 nl6 n6
  generalize ax_pr (ax_nw (ax_pr h2 0 0 (some 1)) 18 3) 0 1 (some 34) = h6
  intro R2 n6 im6 st6 z6 nl6
  have a7 : ag (fun b => b < 35) h6 (ax_nw h6 5 0) := ag_nw (by omega)
  refine ⟨by rw [(a7 0 (by omega)).1]; exact R2.1, 1, by rw [(a7 0 (by omega)).2.2.2]; exact R2.2 0 (by omega), by rw [(a7 1 (by omega)).1]; exact st6.1, 2, by rw [(a7 1 (by omega)).2.2.2]; exact st6.2.1.1, ⟨by simp [Value.category], by decide, by decide⟩, by rw [as_nw, if_pos n6.symm], ?_⟩
  refine c_init5 (r := 35) (tp := 2) (by show h6.1 + 1 = _; omega) (by omega) (by rw [as_nw, if_pos n6.symm]) (fun h10 g10 n10 re10 => ?_)
  obtain ⟨k10, R3, G3⟩ := x9_step n6 (by omega) R2 g10 rfl
  have n12 : (ax_pr h10 0 2 (some 35)).1 = 52 := n10
  have re12 : re_st (ax_pr h10 0 2 (some 35)) 35 2 := re_n_ag (P := fun b => 1 ≤ b) (ag_pr (by omega)) (fun j _ => by omega) (fun s _ _ => by omega) re10
  refine ⟨rfl, k10, ?_⟩
  revert R3 G3 n12 re12
  generalize ax_pr h10 0 2 (some 35) = h12
  intro R3 G3 n12 re12
  refine ⟨⟨by omega, by decide, by decide⟩, rfl, ⟨by simp [Value.category], by decide, by decide⟩, by rw [as_nw, if_pos rfl], ?_⟩
  rw [n12]
  refine c_init0 (r := 52) (by show h12.1 + 1 = _; omega) (by omega) (by rw [as_nw, if_pos n12.symm]) (fun h14 g14 n14 co14 => ?_)
  obtain ⟨k14, R4, G4⟩ := x9_step n12 (by omega) R3 g14 rfl
  have n16 : (ax_pr h14 0 3 (some 52)).1 = 55 := n14
  have co16 : co_st (ax_pr h14 0 3 (some 52)) 52 := co_st_ag (P := fun b => 1 ≤ b) (ag_pr (by omega)) (by omega) co14
  refine ⟨rfl, k14, ?_⟩
  revert R4 G4 n16 co16
  generalize ax_pr h14 0 3 (some 52) = h16
  intro R4 G4 n16 co16
  refine ⟨⟨by omega, by decide, by decide⟩, rfl, ⟨by simp [Value.category], by decide, by decide⟩, by rw [as_nw, if_pos rfl], ?_⟩
  rw [n16]
  refine c_init3 (r := 55) (by show h16.1 + 1 = _; omega) (by omega) (by rw [as_nw, if_pos n16.symm]) (fun h18 g18 n18 od18 => ?_)
  obtain ⟨k18, R5, G5⟩ := x9_step n16 (by omega) R4 g18 rfl
  have n20 : (ax_pr h18 0 4 (some 55)).1 = 57 := n18
  have od20 : od_st (ax_pr h18 0 4 (some 55)) 55 := od_st_ag (P := fun b => 1 ≤ b) (ag_pr (by omega)) (by omega) od18
  refine ⟨rfl, k18, ?_⟩
  revert R5 G5 n20 od20
  generalize ax_pr h18 0 4 (some 55) = h20
  intro R5 G5 n20 od20
  refine ⟨⟨by omega, by decide, by decide⟩, rfl, ⟨by simp [Value.category], by decide, by decide⟩, by rw [as_nw, if_pos rfl], ?_⟩
  rw [n20]
  refine c_init3 (r := 57) (by show h20.1 + 1 = _; omega) (by omega) (by rw [as_nw, if_pos n20.symm]) (fun h22 g22 n22 od22 => ?_)
  obtain ⟨k22, R6, G6⟩ := x9_step n20 (by omega) R5 g22 rfl
  have n24 : (ax_pr h22 0 5 (some 57)).1 = 59 := n22
  have od24 : od_st (ax_pr h22 0 5 (some 57)) 57 := od_st_ag (P := fun b => 1 ≤ b) (ag_pr (by omega)) (by omega) od22
  refine ⟨rfl, k22, ?_⟩
  revert R6 G6 n24 od24
  generalize ax_pr h22 0 5 (some 57) = h24
  intro R6 G6 n24 od24
  refine ⟨⟨by omega, by decide, by decide⟩, rfl, ⟨by simp [Value.category], by decide, by decide⟩, by rw [as_nw, if_pos rfl], ?_⟩
  rw [n24]
  refine c_init4 (r := 59) (by show h24.1 + 1 = _; omega) (by omega) (by rw [as_nw, if_pos n24.symm]) (fun h26 g26 n26 pl26 => ?_)
  obtain ⟨k26, R7, G7⟩ := x9_step n24 (by omega) R6 g26 rfl
  have n28 : (ax_pr h26 0 6 (some 59)).1 = 66 := n26
  have pl28 : pl_st (ax_pr h26 0 6 (some 59)) 59 := pl_st_ag (P := fun b => 1 ≤ b) (ag_pr (by omega)) (fun j _ => by omega) pl26
  refine ⟨rfl, k26, ?_⟩
  revert R7 G7 n28 pl28
  generalize ax_pr h26 0 6 (some 59) = h28
  intro R7 G7 n28 pl28
  refine ⟨⟨by omega, by decide, by decide⟩, rfl, ⟨by simp [Value.category], by decide, by decide⟩, by rw [as_nw, if_pos rfl], ?_⟩
  rw [n28]
  refine c_init7 (r := 66) (by show h28.1 + 1 = _; omega) (by omega) (by rw [as_nw, if_pos n28.symm]) (fun h30 g30 n30 se30 => ?_)
  obtain ⟨k30, R8, G8⟩ := x9_step n28 (by omega) R7 g30 rfl
  have n32 : (ax_pr h30 0 7 (some 66)).1 = 76 := n30
  have se32 : se_st (ax_pr h30 0 7 (some 66)) 66 := se_n_ag (P := fun b => 1 ≤ b) (ag_pr (by omega)) (fun j _ => by omega) se30
  refine ⟨rfl, k30, ?_⟩
  revert R8 G8 n32 se32
  generalize ax_pr h30 0 7 (some 66) = h32
  intro R8 G8 n32 se32
  refine ⟨⟨by omega, by decide, by decide⟩, rfl, ⟨by simp [Value.category], by decide, by decide⟩, by rw [as_nw, if_pos rfl], ?_⟩
  rw [n32]
  refine c_init1 (r := 76) (by rw [as_nw, if_pos n32.symm]) (fun h34 g34 n34 s34 => ?_)
  obtain ⟨k34, R9, G9⟩ := x9_step n32 (by omega) R8 (ag_mono g34 (fun x hx => by omega)) rfl
  refine ⟨rfl, k34, ⟨by decide, by decide⟩, ?_⟩
  have n36 : (ax_pr h34 0 8 (some 76)).1 = 77 := by show h34.1 = _; rw [n34]; show h32.1 + 1 = _; omega
  have s36 : (ax_s (ax_pr h34 0 8 (some 76)) 76).1 = 1 := s34
  revert R9 G9 n36 s36
  generalize ax_pr h34 0 8 (some 76) = hF
  intro R9 G9 n36 s36
  have G8' := ag_tr G8 (ag_mono G9 (fun x hx => by omega))
  have G7' := ag_tr G7 (ag_mono G8' (fun x hx => by omega))
  have G6' := ag_tr G6 (ag_mono G7' (fun x hx => by omega))
  have G5' := ag_tr G5 (ag_mono G6' (fun x hx => by omega))
  have G4' := ag_tr G4 (ag_mono G5' (fun x hx => by omega))
  have G3' := ag_tr G3 (ag_mono G4' (fun x hx => by omega))
  refine hq hF n36 ⟨⟨R9.1, ⟨R9.2 0 (by omega), R9.2 1 (by omega), R9.2 2 (by omega), R9.2 3 (by omega), R9.2 4 (by omega), R9.2 5 (by omega), R9.2 6 (by omega), R9.2 7 (by omega), R9.2 8 (by omega)⟩, co_st_ag G5' (by omega) co16, od_st_ag G6' (by omega) od20, od_st_ag G7' (by omega) od24, s36⟩, to_st_ag G3' (fun b _ _ => by omega) st6, re_n_ag G4' (fun j _ => by omega) (fun s _ _ => by omega) re12, pl_st_ag G8' (fun j _ => by omega) pl28, se_n_ag G9 (fun j _ => by omega) se32, by rw [(G3' 34 (by omega)).1]; exact im6.1, by rw [(G3' 5 (by omega)).2.2.2]; exact nl6.1, by rw [(G3' 5 (by omega)).2.2.2]; exact nl6.2⟩ (tz_ag G3' (by omega) z6) (fun k => by rw [(G3' 34 (by omega)).2.2.2]; exact im6.2 k)
end
