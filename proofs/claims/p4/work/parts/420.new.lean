section
/-! new cells -/
theorem sz_nw {h : ax_H} {kd ln : Nat} : (ax_nw h kd ln).1 = h.1 + 1 := rfl
theorem sz_pi {h : ax_H} {a k : Nat} {v : Int32} : (ax_pi h a k v).1 = h.1 := rfl
theorem sz_pl {h : ax_H} {a k : Nat} {v : Int64} : (ax_pl h a k v).1 = h.1 := rfl
theorem sz_pr {h : ax_H} {a k : Nat} {v : Option Nat} : (ax_pr h a k v).1 = h.1 := rfl
theorem sz_row {h : ax_H} {a : Nat} {f : Nat → Int32} : (ax_row h a f).1 = h.1 := rfl
theorem as_nw {h : ax_H} {kd ln b : Nat} : ax_s (ax_nw h kd ln) b = if b = h.1 then (kd, ln) else ax_s h b := by
  unfold ax_s ax_nw
  dsimp only
  by_cases e : b = h.1
  · rw [if_pos e, if_pos (by omega), if_pos e]
  · rw [if_neg e]
    by_cases e2 : b < h.1
    · rw [if_pos (by omega), if_pos e2, if_neg e]
    · rw [if_neg (by omega), if_neg e2, if_neg e]
theorem ai_nw {h : ax_H} {kd ln b k : Nat} : ax_i (ax_nw h kd ln) b k = if b = h.1 then 0 else ax_i h b k := by
  show (if b = h.1 then (fun _ => (0 : Int32)) else h.2.2.1 b) k = _
  by_cases e : b = h.1
  · rw [if_pos e, if_pos e]
  · rw [if_neg e, if_neg e]; rfl
theorem al_nw {h : ax_H} {kd ln b k : Nat} : ax_l (ax_nw h kd ln) b k = if b = h.1 then 0 else ax_l h b k := by
  show (if b = h.1 then (fun _ => (0 : Int64)) else h.2.2.2.1 b) k = _
  by_cases e : b = h.1
  · rw [if_pos e, if_pos e]
  · rw [if_neg e, if_neg e]; rfl
theorem ar_nw {h : ax_H} {kd ln b k : Nat} : ax_r (ax_nw h kd ln) b k = if b = h.1 then none else ax_r h b k := by
  show (if b = h.1 then (fun _ => (none : Option Nat)) else h.2.2.2.2 b) k = _
  by_cases e : b = h.1
  · rw [if_pos e, if_pos e]
  · rw [if_neg e, if_neg e]; rfl
theorem ai_ne {h : ax_H} {a k b j : Nat} {v : Int32} (e : b ≠ a ∨ j ≠ k) : ax_i (ax_pi h a k v) b j = ax_i h b j := by
  rw [ai_pi, if_neg (fun q => e.elim (fun z => z q.1) (fun z => z q.2))]
/-- the cells of P are as they were -/
def ag (P : Nat → Prop) (h h' : ax_H) : Prop := ∀ b, P b → ax_s h' b = ax_s h b ∧ (∀ k, ax_i h' b k = ax_i h b k) ∧ (∀ k, ax_l h' b k = ax_l h b k) ∧ ∀ k, ax_r h' b k = ax_r h b k
theorem ag_rf {P : Nat → Prop} {h : ax_H} : ag P h h := fun _ _ => ⟨rfl, fun _ => rfl, fun _ => rfl, fun _ => rfl⟩
theorem ag_tr {P : Nat → Prop} {h h1 h2 : ax_H} (a : ag P h h1) (b : ag P h1 h2) : ag P h h2 := fun x hx => ⟨(b x hx).1.trans (a x hx).1, fun k => ((b x hx).2.1 k).trans ((a x hx).2.1 k), fun k => ((b x hx).2.2.1 k).trans ((a x hx).2.2.1 k), fun k => ((b x hx).2.2.2 k).trans ((a x hx).2.2.2 k)⟩
theorem ag_mono {P Q : Nat → Prop} {h h1 : ax_H} (a : ag P h h1) (i : ∀ x, Q x → P x) : ag Q h h1 := fun x hx => a x (i x hx)
theorem ag_nw {P : Nat → Prop} {h : ax_H} {kd ln : Nat} (i : ¬ P h.1) : ag P h (ax_nw h kd ln) := fun x hx => by
  have e : x ≠ h.1 := fun q => i (q ▸ hx)
  exact ⟨by rw [as_nw, if_neg e], fun k => by rw [ai_nw, if_neg e], fun k => by rw [al_nw, if_neg e], fun k => by rw [ar_nw, if_neg e]⟩
theorem ag_pi {P : Nat → Prop} {h : ax_H} {a k : Nat} {v : Int32} (i : ¬ P a) : ag P h (ax_pi h a k v) := fun x hx => ⟨rfl, fun j => ai_ne (Or.inl (fun q => i (q ▸ hx))), fun _ => rfl, fun _ => rfl⟩
theorem ag_pl {P : Nat → Prop} {h : ax_H} {a k : Nat} {v : Int64} (i : ¬ P a) : ag P h (ax_pl h a k v) := fun x hx => ⟨rfl, fun _ => rfl, fun j => by rw [al_pl, if_neg (fun (q : x = a ∧ j = k) => i (q.1 ▸ hx))], fun _ => rfl⟩
theorem ag_pr {P : Nat → Prop} {h : ax_H} {a k : Nat} {v : Option Nat} (i : ¬ P a) : ag P h (ax_pr h a k v) := fun x hx => ⟨rfl, fun _ => rfl, fun _ => rfl, fun j => by rw [ar_pr, if_neg (fun (q : x = a ∧ j = k) => i (q.1 ▸ hx))]⟩
theorem ag_row {P : Nat → Prop} {h : ax_H} {a : Nat} {f : Nat → Int32} (i : ¬ P a) : ag P h (ax_row h a f) := fun x hx => ⟨rfl, fun j => by rw [ai_row, if_neg (fun (q : x = a) => i (q ▸ hx))], fun _ => rfl, fun _ => rfl⟩
theorem ag_same {P F : Nat → Prop} {h h' : ax_H} (s : ax_same F h h') (i : ∀ x, P x → ¬ F x) : ag P h h' := fun x hx => ⟨s.2.1 x, (s.2.2.2 x (i x hx)).1, (s.2.2.2 x (i x hx)).2, s.2.2.1 x⟩
theorem rc_st_ag {P : Nat → Prop} {h h' : ax_H} {r : Nat} (s : ag P h h') (i : ∀ j, j < 6 → P (r + j)) (a : rc_st h r) : rc_st h' r := by
  obtain ⟨a1, ⟨b1, b2, b3, b4, b5⟩, c1, c2, c3, c4, c5⟩ := a
  have e0 := s _ (i 0 (by decide))
  rw [Nat.add_zero] at e0
  exact ⟨by rw [e0.1]; exact a1, ⟨by rw [e0.2.2.2]; exact b1, by rw [e0.2.2.2]; exact b2, by rw [e0.2.2.2]; exact b3, by rw [e0.2.2.2]; exact b4, by rw [e0.2.2.2]; exact b5⟩, by rw [(s _ (i 1 (by decide))).1]; exact c1, by rw [(s _ (i 2 (by decide))).1]; exact c2, by rw [(s _ (i 3 (by decide))).1]; exact c3, by rw [(s _ (i 4 (by decide))).1]; exact c4, by rw [(s _ (i 5 (by decide))).1]; exact c5⟩
theorem rc_at_ag {P : Nat → Prop} {h h' : ax_H} {r : Nat} {D : rD} (s : ag P h h') (i : ∀ j, j < 6 → P (r + j)) (a : rc_at h r D) : rc_at h' r D := by
  obtain ⟨a1, a2, a3, a4, a5, a6, a7, a8⟩ := a
  have e : ∀ j, j < 6 → ∀ k, ax_i h' (r + j) k = ax_i h (r + j) k := fun j hj => (s _ (i j hj)).2.1
  have e0 : ∀ k, ax_i h' r k = ax_i h r k := e 0 (by decide)
  exact ⟨rc_st_ag s i a1, a2, ⟨by rw [e0]; exact a3.1, by rw [e0]; exact a3.2⟩, fun k hk => by rw [e 1 (by decide)]; exact a4 k hk, fun k hk => by rw [e 2 (by decide)]; exact a5 k hk, fun k hk => by rw [e 3 (by decide)]; exact a6 k hk, fun p q hp hq => by rw [e 4 (by decide)]; exact a7 p q hp hq, fun p q hp hq => by rw [e 5 (by decide)]; exact a8 p q hp hq⟩
theorem li_st_ag {P : Nat → Prop} {h h' : ax_H} {l s : Nat} (g : ag P h h') (i : P l ∧ P (l + 1)) (a : li_st h l s) : li_st h' l s := by
  obtain ⟨a1, a2, a3, a4, a5⟩ := a
  have e0 := g _ i.1
  exact ⟨by rw [e0.1]; exact a1, by rw [e0.2.2.2]; exact a2, by rw [e0.2.1]; exact a3, by rw [e0.2.1]; exact a4, by rw [(g _ i.2).1]; exact a5⟩
theorem li_at_ag {P : Nat → Prop} {h h' : ax_H} {l s n : Nat} {C : Nat → Nat → Int32} (g : ag P h h') (i : P l ∧ P (l + 1)) (a : li_at h l s n C) : li_at h' l s n C := ⟨li_st_ag g i a.1, a.2.1, by rw [(g _ i.1).2.1]; exact a.2.2.1, fun x j hx hj => by rw [(g _ i.2).2.1]; exact a.2.2.2 x j hx hj⟩
theorem od_st_ag {P : Nat → Prop} {h h' : ax_H} {o : Nat} (g : ag P h h') (i : P o ∧ P (o + 1)) (a : od_st h o) : od_st h' o := ⟨by rw [(g _ i.1).1]; exact a.1, by rw [(g _ i.1).2.2.2]; exact a.2.1, by rw [(g _ i.2).1]; exact a.2.2⟩
theorem co_st_ag {P : Nat → Prop} {h h' : ax_H} {c : Nat} (g : ag P h h') (i : P c ∧ P (c + 1) ∧ P (c + 2)) (a : co_st h c) : co_st h' c := ⟨by rw [(g _ i.1).1]; exact a.1, by rw [(g _ i.1).2.2.2]; exact a.2.1, by rw [(g _ i.1).2.2.2]; exact a.2.2.1, by rw [(g _ i.2.1).1]; exact a.2.2.2.1, by rw [(g _ i.2.2).1]; exact a.2.2.2.2⟩
/-! a republic cleared -/
def rc_F (r : Nat) : Nat → Prop := fun a => r ≤ a ∧ a ≤ r + 5
def rc_clr (h : ax_H) (r : Nat) : Prop := ax_i h r 5 = 8 ∧ ax_i h r 6 = 0 ∧ (∀ k, k < 6 → ax_i h (r + 1) k = 0 ∧ ax_i h (r + 2) k = 0) ∧ ∀ k, k < 72 → ax_i h (r + 4) k = -1 ∧ ax_i h (r + 5) k = 1
variable {g : ax_G} {Ret : Option Value → ax_H → Prop} {h : ax_H} {r : Nat}
theorem c_clear (a : rc_st h r) (hq : ∀ h', ax_same (rc_F r) h h' → (∀ k, ax_i h' (r + 3) k = ax_i h (r + 3) k) → rc_clr h' r → Ret none h') : mX6_clear g [.ref r] h Ret := by
  have hF : ∀ j, j < 6 → rc_F r (r + j) := fun j hj => by unfold rc_F; omega
  refine uX6_clear (fun A hA => vX6_clear_0 hA ⟨a.1, a.1, ?_⟩)
  have loop2 : ∀ n i : Nat, ∀ hh : ax_H, i + n = 72 → ax_same (rc_F r) h hh → (∀ k, ax_i hh (r + 3) k = ax_i h (r + 3) k) → ax_i hh r 5 = 8 → ax_i hh r 6 = 0 → (∀ k, k < 6 → ax_i hh (r + 1) k = 0 ∧ ax_i hh (r + 2) k = 0) → (∀ k, k < i → ax_i hh (r + 4) k = -1 ∧ ax_i hh (r + 5) k = 1) → A (41, [some (.ref r), some (.int (nI i))], [], hh, 0, 0) := by
    intro n
    induction n with
    | zero =>
      intro i hh hi hs h3 e5 e6 e1 e2
      refine vX6_clear_41 hA ⟨fun _ => hq hh hs h3 ⟨e5, e6, e1, fun k hk => e2 k (by omega)⟩, fun q => absurd (nI_le (a := 72) (b := i) (by omega) (by omega)) q⟩
    | succ n ih =>
      intro i hh hi hs h3 e5 e6 e1 e2
      obtain ⟨a1, ⟨-, -, -, r3, r4⟩, -, -, -, s4, s5⟩ := rc_st_same hs a
      refine vX6_clear_41 hA ⟨fun q => absurd q (nI_ge (a := i) (b := 72) (by omega) (by decide)), fun _ => ⟨a1, _, r3, by rw [s4], by rw [s4]; exact vp_in_nI (by omega) (by decide), a1, _, r4, ?_, ?_, ?_⟩⟩
      · rw [as_pi, s5]
      · rw [as_pi, s5]; exact vp_in_nI (by omega) (by decide)
      · show A (41, [some (.ref r), some (.int (nI i + 1))], [], ax_pi (ax_pi hh (r + 4) (nI i).toNatClampNeg (-1)) (r + 5) (nI i).toNatClampNeg 1, 0, 0)
        rw [← nI_succ, nI_clamp (by omega)]
        refine ih (i + 1) _ (by omega) (sm_tr hs (sm_tr (sm_pi (hF 4 (by decide))) (sm_pi (hF 5 (by decide))))) (fun k => ?_) ?_ ?_ (fun k hk => ⟨?_, ?_⟩) (fun k hk => ?_)
        · rw [ai_ne (by omega), ai_ne (by omega)]; exact h3 k
        · rw [ai_ne (by omega), ai_ne (by omega)]; exact e5
        · rw [ai_ne (by omega), ai_ne (by omega)]; exact e6
        · rw [ai_ne (by omega), ai_ne (by omega)]; exact (e1 k hk).1
        · rw [ai_ne (by omega), ai_ne (by omega)]; exact (e1 k hk).2
        · by_cases e : k = i
          · subst e
            rw [ai_ne (by omega), ai_eq, ai_eq]; exact ⟨rfl, rfl⟩
          · rw [ai_ne (by omega), ai_ne (by omega), ai_ne (by omega), ai_ne (by omega)]; exact e2 k (by omega)
  have loop1 : ∀ n i : Nat, ∀ hh : ax_H, i + n = 6 → ax_same (rc_F r) h hh → (∀ k, ax_i hh (r + 3) k = ax_i h (r + 3) k) → ax_i hh r 5 = 8 → ax_i hh r 6 = 0 → (∀ k, k < i → ax_i hh (r + 1) k = 0 ∧ ax_i hh (r + 2) k = 0) → A (13, [some (.ref r), some (.int (nI i))], [], hh, 0, 0) := by
    intro n
    induction n with
    | zero =>
      intro i hh hi hs h3 e5 e6 e1
      refine vX6_clear_13 hA ⟨fun _ => loop2 72 0 hh (by omega) hs h3 e5 e6 (fun k hk => e1 k (by omega)) (fun k hk => absurd hk (Nat.not_lt_zero k)), fun q => absurd (nI_le (a := 6) (b := i) (by omega) (by omega)) q⟩
    | succ n ih =>
      intro i hh hi hs h3 e5 e6 e1
      obtain ⟨a1, ⟨r3, r4, -, -, -⟩, s4, s5, -, -, -⟩ := rc_st_same hs a
      refine vX6_clear_13 hA ⟨fun q => absurd q (nI_ge (a := i) (b := 6) (by omega) (by decide)), fun _ => ⟨a1, _, r3, by rw [s4], by rw [s4]; exact vp_in_nI (by omega) (by decide), a1, _, r4, ?_, ?_, ?_⟩⟩
      · rw [as_pi, s5]
      · rw [as_pi, s5]; exact vp_in_nI (by omega) (by decide)
      · show A (13, [some (.ref r), some (.int (nI i + 1))], [], ax_pi (ax_pi hh (r + 1) (nI i).toNatClampNeg 0) (r + 2) (nI i).toNatClampNeg 0, 0, 0)
        rw [← nI_succ, nI_clamp (by omega)]
        refine ih (i + 1) _ (by omega) (sm_tr hs (sm_tr (sm_pi (hF 1 (by decide))) (sm_pi (hF 2 (by decide))))) (fun k => ?_) ?_ ?_ (fun k hk => ?_)
        · rw [ai_ne (by omega), ai_ne (by omega)]; exact h3 k
        · rw [ai_ne (by omega), ai_ne (by omega)]; exact e5
        · rw [ai_ne (by omega), ai_ne (by omega)]; exact e6
        · by_cases e : k = i
          · subst e
            rw [ai_ne (by omega), ai_eq, ai_eq]; exact ⟨rfl, rfl⟩
          · rw [ai_ne (by omega), ai_ne (by omega), ai_ne (by omega), ai_ne (by omega)]; exact e1 k (by omega)
  show A (13, [some (.ref r), some (.int (nI 0))], [], ax_pi (ax_pi h r 5 8) r 6 0, 0, 0)
  refine loop1 6 0 _ (by omega) (sm_tr (sm_pi (hF 0 (by decide))) (sm_pi (hF 0 (by decide)))) (fun k => ?_) ?_ ?_ (fun k hk => absurd hk (Nat.not_lt_zero k))
  · rw [ai_ne (by omega), ai_ne (by omega)]
  · rw [ai_ne (by omega), ai_eq]
  · rw [ai_eq]
/-! constructors: the new object is the last cell -/
theorem c_init6 (hn : h.1 = r + 1) (ha : r < 900000) (hs : (ax_s h r).1 = 6) (hq : ∀ h', ag (fun b => b < r) h h' → h'.1 = r + 6 → rc_st h' r → rc_clr h' r → (ax_s h' r).1 = 6 → Ret none h') : mX6_init g [.ref r] h Ret := by
  have kp : ∀ (hh : ax_H) (kd ln : Nat), r < hh.1 → (ax_s hh r).1 = 6 → (ax_s (ax_nw hh kd ln) r).1 = 6 := fun hh kd ln hl hk => by rw [as_nw, if_neg (by omega)]; exact hk
  have k1 := kp h 11 6 (by show r < h.1; omega) hs
  have k2 := kp (ax_pr (ax_nw h 11 6) r 0 (some (h.1))) 11 6 (by show r < h.1 + 1; omega) k1
  have k3 := kp (ax_pr (ax_nw (ax_pr (ax_nw h 11 6) r 0 (some (h.1))) 11 6) r 1 (some (h.1 + 1))) 11 6 (by show r < h.1 + 1 + 1; omega) k2
  have k4 := kp (ax_pr (ax_nw (ax_pr (ax_nw (ax_pr (ax_nw h 11 6) r 0 (some (h.1))) 11 6) r 1 (some (h.1 + 1))) 11 6) r 2 (some (h.1 + 1 + 1))) 11 72 (by show r < h.1 + 1 + 1 + 1; omega) k3
  have k5 := kp (ax_pr (ax_nw (ax_pr (ax_nw (ax_pr (ax_nw (ax_pr (ax_nw h 11 6) r 0 (some (h.1))) 11 6) r 1 (some (h.1 + 1))) 11 6) r 2 (some (h.1 + 1 + 1))) 11 72) r 3 (some (h.1 + 1 + 1 + 1))) 11 72 (by show r < h.1 + 1 + 1 + 1 + 1; omega) k4
  have hst : rc_st (ax_pr (ax_nw (ax_pr (ax_nw (ax_pr (ax_nw (ax_pr (ax_nw (ax_pr (ax_nw h 11 6) r 0 (some (h.1))) 11 6) r 1 (some (h.1 + 1))) 11 6) r 2 (some (h.1 + 1 + 1))) 11 72) r 3 (some (h.1 + 1 + 1 + 1))) 11 72) r 4 (some (h.1 + 1 + 1 + 1 + 1))) r := by
    refine ⟨k5, ⟨?_, ?_, ?_, ?_, ?_⟩, ?_, ?_, ?_, ?_, ?_⟩
    all_goals (simp [as_nw, ar_nw, ai_nw, as_pr, ar_pr, ai_pr, as_pi, ar_pi, ai_pi, as_pl, ar_pl, sz_nw, sz_pr, sz_pi, sz_pl, hn] <;> omega)
  have hag : ag (fun b => b < r) h (ax_pr (ax_nw (ax_pr (ax_nw (ax_pr (ax_nw (ax_pr (ax_nw (ax_pr (ax_nw h 11 6) r 0 (some (h.1))) 11 6) r 1 (some (h.1 + 1))) 11 6) r 2 (some (h.1 + 1 + 1))) 11 72) r 3 (some (h.1 + 1 + 1 + 1))) 11 72) r 4 (some (h.1 + 1 + 1 + 1 + 1))) := (ag_tr (ag_tr (ag_tr (ag_tr (ag_tr (ag_tr (ag_tr (ag_tr (ag_tr (ag_nw (by simp only [sz_nw, sz_pr, sz_pi, sz_pl, hn]; omega)) (ag_pr (by omega))) (ag_nw (by simp only [sz_nw, sz_pr, sz_pi, sz_pl, hn]; omega))) (ag_pr (by omega))) (ag_nw (by simp only [sz_nw, sz_pr, sz_pi, sz_pl, hn]; omega))) (ag_pr (by omega))) (ag_nw (by simp only [sz_nw, sz_pr, sz_pi, sz_pl, hn]; omega))) (ag_pr (by omega))) (ag_nw (by simp only [sz_nw, sz_pr, sz_pi, sz_pl, hn]; omega))) (ag_pr (by omega)))
  refine eX6_init ⟨by decide, by decide, ⟨by show h.1 + 1 < 1000000; omega, by decide, by decide, by decide⟩, k1, by decide, ⟨by show h.1 + 1 + 1 < 1000000; omega, by decide, by decide, by decide⟩, k2, by decide, ⟨by show h.1 + 1 + 1 + 1 < 1000000; omega, by decide, by decide, by decide⟩, k3, by decide, ⟨by show h.1 + 1 + 1 + 1 + 1 < 1000000; omega, by decide, by decide, by decide⟩, k4, by decide, ⟨by show h.1 + 1 + 1 + 1 + 1 + 1 < 1000000; omega, by decide, by decide, by decide⟩, k5, ⟨by decide, by decide, by decide⟩, k5, ?_⟩
  refine c_clear hst (fun h' hs' _ hc => ⟨rfl, ⟨by decide, by decide⟩, hq h' (ag_tr hag (ag_same hs' (fun x hx => by unfold rc_F; omega))) (hs'.1.trans (by show h.1 + 1 + 1 + 1 + 1 + 1 = _; omega)) (rc_st_same hs' hst) hc (rc_st_same hs' hst).1⟩)
theorem c_init2 {s : Nat} (hn : h.1 = r + 1) (ha : r < 900000) (hs : (ax_s h r).1 = 2) (h1s : 1 ≤ s) (h5s : s < 5) (hq : ∀ h', ag (fun b => b < r) h h' → h'.1 = r + 2 → li_st h' r s → ax_i h' r 3 = 0 → Ret none h') : mX2_init g [.ref r, .int (nI s)] h Ret := by
  have fin : ∀ (k w : Nat) (kk ww : Int32), kk = nI k → ww = nI w → k * w ≤ 18 → lm s = k → lw s = w → Ret none (ax_pr (ax_nw (ax_pi (ax_pi (ax_pi h r 3 0) r 0 kk) r 1 ww) 11 (k * w)) r 2 (some (r + 1))) := by
    intro k w kk ww ek ew hk el el2
    subst ek
    subst ew
    refine hq _ ?_ ?_ ⟨?_, ?_, ?_, ?_, ?_⟩ ?_
    · exact ag_tr (ag_tr (ag_tr (ag_tr (ag_pi (by omega)) (ag_pi (by omega))) (ag_pi (by omega))) (ag_nw (by simp only [sz_pi, hn]; omega))) (ag_pr (by omega))
    · simp only [sz_pr, sz_nw, sz_pi, hn]
    · simp [as_pr, as_nw, sz_pi, hn, as_pi, hs]
    · simp [ar_pr]
    · simp [ai_pr, ai_nw, sz_pi, hn, ai_pi, el]
    · simp [ai_pr, ai_nw, sz_pi, hn, ai_pi, el2]
    · simp [as_pr, as_nw, sz_pi, hn, el, el2]
    · simp [ai_pr, ai_nw, sz_pi, hn, ai_pi]
  refine eX2_init ⟨by decide, hs, fun q => absurd q (nI_pos (by omega)), fun _ => ⟨fun q => absurd q (nI_ge (a := s) (b := 5) h5s (by decide)), fun _ => ⟨fun q => absurd q (by decide), fun _ => ⟨rfl, vp_in_nI (N := 5) h5s (by decide), hs, fun q => absurd q (by decide), fun _ => ⟨rfl, vp_in_nI (N := 5) h5s (by decide), hs, hs, hs, ?_⟩⟩⟩⟩⟩
  have e0 : ∀ x y : Int32, ax_i (ax_pi (ax_pi (ax_pi h r 3 0) r 0 x) r 1 y) r 0 = x := fun x y => by rw [ai_ne (by omega), ai_eq]
  have e1 : ∀ x y : Int32, ax_i (ax_pi (ax_pi (ax_pi h r 3 0) r 0 x) r 1 y) r 1 = y := fun x y => ai_eq
  simp only [e0, e1]
  match s, h1s, h5s with
  | 1, _, _ => exact ⟨by decide, ⟨by simp only [sz_pi, hn]; omega, by decide, by decide, by decide⟩, by simpa [as_nw, as_pi, sz_pi, hn] using hs, ⟨by decide, by decide⟩, by have := fin 14 1 14 1 rfl rfl (by decide) rfl rfl; rw [← hn] at this; exact this⟩
  | 2, _, _ => exact ⟨by decide, ⟨by simp only [sz_pi, hn]; omega, by decide, by decide, by decide⟩, by simpa [as_nw, as_pi, sz_pi, hn] using hs, ⟨by decide, by decide⟩, by have := fin 6 3 6 3 rfl rfl (by decide) rfl rfl; rw [← hn] at this; exact this⟩
  | 3, _, _ => exact ⟨by decide, ⟨by simp only [sz_pi, hn]; omega, by decide, by decide, by decide⟩, by simpa [as_nw, as_pi, sz_pi, hn] using hs, ⟨by decide, by decide⟩, by have := fin 8 2 8 2 rfl rfl (by decide) rfl rfl; rw [← hn] at this; exact this⟩
  | 4, _, _ => exact ⟨by decide, ⟨by simp only [sz_pi, hn]; omega, by decide, by decide, by decide⟩, by simpa [as_nw, as_pi, sz_pi, hn] using hs, ⟨by decide, by decide⟩, by have := fin 6 3 6 3 rfl rfl (by decide) rfl rfl; rw [← hn] at this; exact this⟩
theorem c_init3 (hn : h.1 = r + 1) (ha : r < 900000) (hs : (ax_s h r).1 = 3) (hq : ∀ h', ag (fun b => b < r) h h' → h'.1 = r + 2 → od_st h' r → Ret none h') : mX3_init g [.ref r] h Ret := by
  refine eX3_init ⟨by decide, by decide, ⟨by omega, by decide, by decide, by decide⟩, ?_⟩
  have s0 : (ax_s (ax_nw h 11 12) r).1 = 3 := by rw [as_nw, if_neg (by omega)]; exact hs
  refine ⟨s0, s0, s0, ⟨by decide, by decide⟩, hq _ ?_ ?_ ⟨s0, ?_, ?_⟩⟩
  · exact ag_tr (ag_tr (ag_tr (ag_nw (by omega)) (ag_pr (by omega))) (ag_pi (by omega))) (ag_pi (by omega))
  · show h.1 + 1 = r + 2; omega
  · (simp [ar_pr, ar_pi, hn] <;> omega)
  · (simp [as_nw, as_pr, as_pi, hn] <;> omega)
theorem c_init0 (hn : h.1 = r + 1) (ha : r < 900000) (hs : (ax_s h r).1 = 0) (hq : ∀ h', ag (fun b => b < r) h h' → h'.1 = r + 3 → co_st h' r → Ret none h') : mX0_init g [.ref r] h Ret := by
  refine eX0_init ⟨by decide, by decide, ⟨by omega, by decide, by decide, by decide⟩, ?_⟩
  have s0 : (ax_s (ax_nw h 11 6) r).1 = 0 := by rw [as_nw, if_neg (by omega)]; exact hs
  have s1 : (ax_s (ax_nw (ax_pr (ax_nw h 11 6) r 0 (some h.1)) 11 72) r).1 = 0 := by rw [as_nw, if_neg (by simp only [sz_pr, sz_nw]; omega)]; exact s0
  refine ⟨s0, by decide, ⟨by simp only [sz_pr, sz_nw, hn]; omega, by decide, by decide, by decide⟩, s1, s1, s1, ⟨by decide, by decide⟩, hq _ ?_ ?_ ⟨s1, ?_, ?_, ?_, ?_⟩⟩
  · exact ag_tr (ag_tr (ag_tr (ag_tr (ag_tr (ag_nw (by omega)) (ag_pr (by omega))) (ag_nw (by simp only [sz_pr, sz_nw]; omega))) (ag_pr (by omega))) (ag_pi (by omega))) (ag_pi (by omega))
  · show h.1 + 1 + 1 = r + 3; omega
  · (simp [ar_pr, ar_pi, ar_nw, sz_pr, sz_nw, hn] <;> omega)
  · (simp [ar_pr, ar_pi, ar_nw, sz_pr, sz_nw, hn] <;> omega)
  · (simp [as_nw, as_pr, as_pi, sz_pr, sz_nw, hn] <;> omega)
  · (simp [as_nw, as_pr, as_pi, sz_pr, sz_nw, hn] <;> omega)
end
