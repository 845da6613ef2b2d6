section
variable {g : ax_G} {Ret : Option Value → ax_H → Prop} {h : ax_H} {r : Nat}
theorem c_init1 (hs : (ax_s h r).1 = 1) (hq : ∀ h', ag (fun b => b ≠ r) h h' → h'.1 = h.1 → (ax_s h' r).1 = 1 → Ret none h') : mX1_init g [.ref r] h Ret :=
  eX1_init ⟨by decide, hs, hs, hq _ (ag_tr (ag_pl (fun q => q rfl)) (ag_pl (fun q => q rfl))) rfl hs⟩
/-! what is told, new -/
def tz (h : ax_H) (t : Nat) : Prop := ax_i h t 4 = 0 ∧ ax_i h t 5 = 0 ∧ ax_i h t 6 = -1 ∧ (∀ i, ax_i h (t + 1) i = 0) ∧ ∀ i, ax_i h (t + 2) i = 0
def ti (t kr k s : Nat) (h : ax_H) : Prop := (ax_s h t).1 = 8 ∧ (ax_r h t 0 = some (t + 1) ∧ ax_r h t 1 = some (t + 2) ∧ ax_r h t 2 = some (t + 3) ∧ ax_r h t 3 = some (t + 4)) ∧ (ax_s h (t + 1) = (12, 600) ∧ ax_s h (t + 2) = (11, 5) ∧ ax_s h (t + 3) = (17, 2) ∧ ax_s h (t + 4) = (15, 10)) ∧ (∀ j, j < kr → ax_r h (t + 3) j = some (t + 5 + 14 * j) ∧ rc_st h (t + 5 + 14 * j)) ∧ (∀ s' j, 1 ≤ s' → s' < 5 → (j < k ∨ j = k ∧ s' < s) → ax_r h (t + 4) (s' * 2 + j) = some (lnp t s' j) ∧ li_st h (lnp t s' j) s') ∧ tz h t ∧ ax_r h (t + 4) 0 = none ∧ ax_r h (t + 4) 1 = none
theorem ti_ag {P : Nat → Prop} {h h' : ax_H} {t kr k s : Nat} (e : ag P h h') (i : ∀ b, t ≤ b → b < t + 5 → P b) (ir : ∀ j, j < kr → ∀ b, b < 6 → P (t + 5 + 14 * j + b)) (il : ∀ s' j, 1 ≤ s' → s' < 5 → (j < k ∨ j = k ∧ s' < s) → P (lnp t s' j) ∧ P (lnp t s' j + 1)) (a : ti t kr k s h) : ti t kr k s h' := by
  obtain ⟨a1, ⟨b1, b2, b3, b4⟩, ⟨c1, c2, c3, c4⟩, d, f, ⟨z1, z2, z3, z4, z5⟩, n0, n1⟩ := a
  have e0 := e t (i t (by omega) (by omega))
  have e1 := e (t + 1) (i _ (by omega) (by omega))
  have e2 := e (t + 2) (i _ (by omega) (by omega))
  have e3 := e (t + 3) (i _ (by omega) (by omega))
  have e4 := e (t + 4) (i _ (by omega) (by omega))
  exact ⟨by rw [e0.1]; exact a1, ⟨by rw [e0.2.2.2]; exact b1, by rw [e0.2.2.2]; exact b2, by rw [e0.2.2.2]; exact b3, by rw [e0.2.2.2]; exact b4⟩, ⟨by rw [e1.1]; exact c1, by rw [e2.1]; exact c2, by rw [e3.1]; exact c3, by rw [e4.1]; exact c4⟩, fun j hj => ⟨by rw [e3.2.2.2]; exact (d j hj).1, rc_st_ag e (ir j hj) (d j hj).2⟩, fun s' j h1 h5 hj => ⟨by rw [e4.2.2.2]; exact (f s' j h1 h5 hj).1, li_st_ag e (il s' j h1 h5 hj) (f s' j h1 h5 hj).2⟩, ⟨by rw [e0.2.1]; exact z1, by rw [e0.2.1]; exact z2, by rw [e0.2.1]; exact z3, fun q => by rw [e1.2.1]; exact z4 q, fun q => by rw [e2.2.1]; exact z5 q⟩, by rw [e4.2.2.2]; exact n0, by rw [e4.2.2.2]; exact n1⟩
theorem c_init8 {t : Nat} (hn : h.1 = t + 1) (ha : t < 800000) (hs : (ax_s h t).1 = 8) (hq : ∀ h', ag (fun b => b < t) h h' → h'.1 = t + 33 → to_st h' t → tz h' t → ax_r h' (t + 4) 0 = none → ax_r h' (t + 4) 1 = none → Ret none h') : mX8_init g [.ref t] h Ret := by
  refine uX8_init (fun A hA => vX8_init_0 hA ?_)
  -- the loop over sorts
  have inner : ∀ (B : Nat → ax_H → Nat → Nat → Prop) (k : Nat), k < 2 → (∀ (hh : ax_H) (u1 u2 : Nat) (o : Option Value), ag (fun b => b < t) h hh → hh.1 = t + 5 + 14 * (k + 1) → ti t (k + 1) (k + 1) 1 hh → u1 = 4 + 14 * (k + 1) → u2 = 617 + 257 * (k + 1) → A (54, [some (.ref t), some (.int (nI k + 1)), o], [], hh, u1, u2)) → ∀ n s : Nat, s + n = 5 → 1 ≤ s → ∀ (hh : ax_H) (u1 u2 : Nat), ag (fun b => b < t) h hh → hh.1 = t + 9 + 14 * k + 2 * s → ti t (k + 1) k s hh → u1 = 8 + 14 * k + 2 * s → u2 = 764 + 257 * k + 22 * s → A (74, [some (.ref t), some (.int (nI k)), some (.int (nI s))], [], hh, u1, u2) := by
    intro _ k hk2 out n
    induction n with
    | zero =>
      intro s hsn hs1 hh u1 u2 hg hz hti e1 e2
      refine vX8_init_74 hA ⟨fun _ => out hh u1 u2 _ hg (by omega) ?_ (by omega) (by omega), fun q => absurd (nI_le (a := 5) (b := s) (by omega) (by omega)) q⟩
      obtain ⟨a1, b, c, d, f, z⟩ := hti
      exact ⟨a1, b, c, d, fun s' j h1 h5 hj => f s' j h1 h5 (by omega), z⟩
    | succ n ih =>
      intro s hsn hs1 hh u1 u2 hg hz hti e1 e2
      obtain ⟨a1, b, c, d, f, z⟩ := id hti
      have ei : nI s * 2 + nI k = nI (s * 2 + k) := by rw [show (2 : Int32) = nI 2 from rfl, pk_mul, nI_add]
      refine vX8_init_74 hA ⟨fun q => absurd q (nI_ge (a := s) (b := 5) (by omega) (by decide)), fun _ => ⟨a1, _, b.2.2.2, ⟨by omega, by omega, by omega⟩, rfl, ⟨by simp [Value.category], by omega, by omega⟩, by rw [as_nw, if_pos rfl], ?_⟩⟩
      have hnw : (ax_nw hh 2 0).1 = hh.1 + 1 := rfl
      refine c_init2 (r := hh.1) (s := s) hnw (by omega) (by rw [as_nw, if_pos rfl]) hs1 (by omega) (fun h' hg' hz' hl' _ => ?_)
      have hg2 : ag (fun b => b < hh.1) hh h' := ag_tr (ag_nw (by omega)) hg'
      have hti' : ti t (k + 1) k s h' := ti_ag hg2 (fun b _ _ => by omega) (fun j hj b hb => by omega) (fun s' j h1 h5 hj => by unfold lnp; omega) hti
      obtain ⟨a1', b', c', d', f', z', n0, n1⟩ := id hti'
      refine ⟨rfl, by rw [c'.2.2.2], hl'.1, by rw [c'.2.2.2, ei]; exact vp_in_nI (by omega) (by decide), ?_⟩
      show A (74, [some (.ref t), some (.int (nI k)), some (.int (nI s + 1))], [], ax_pr h' (t + 4) (nI s * 2 + nI k).toNatClampNeg (some hh.1), u1 + 1 + 1, u2 + 4 + 18)
      rw [← nI_succ, ei, nI_clamp (by omega)]
      have hp : ag (fun b => b ≠ t + 4) h' (ax_pr h' (t + 4) (s * 2 + k) (some hh.1)) := ag_pr (fun q => q rfl)
      refine ih (s + 1) (by omega) (by omega) _ _ _ (ag_tr hg (ag_tr (ag_mono hg2 (fun x hx => by omega)) (ag_mono hp (fun x hx => by omega)))) (by show h'.1 = _; omega) ?_ (by omega) (by omega)
      have e0 := hp t (by omega)
      refine ⟨by rw [e0.1]; exact a1', ⟨by rw [e0.2.2.2]; exact b'.1, by rw [e0.2.2.2]; exact b'.2.1, by rw [e0.2.2.2]; exact b'.2.2.1, by rw [e0.2.2.2]; exact b'.2.2.2⟩, c', fun j hj => ⟨by rw [ar_pr, if_neg (by omega)]; exact (d' j hj).1, rc_st_ag hp (fun q hq => by omega) (d' j hj).2⟩, fun s' j h1 h5 hj => ?_, ⟨by rw [ai_pr]; exact z'.1, by rw [ai_pr]; exact z'.2.1, by rw [ai_pr]; exact z'.2.2.1, fun q => by rw [ai_pr]; exact z'.2.2.2.1 q, fun q => by rw [ai_pr]; exact z'.2.2.2.2 q⟩, by rw [ar_pr, if_neg (by omega)]; exact n0, by rw [ar_pr, if_neg (by omega)]; exact n1⟩
      by_cases e : s' * 2 + j = s * 2 + k
      · obtain ⟨rfl, rfl⟩ : s' = s ∧ j = k := by omega
        refine ⟨by rw [ar_pr, if_pos ⟨rfl, rfl⟩, hz]; unfold lnp; congr 1, li_st_ag hp (by unfold lnp; omega) ?_⟩
        rw [show lnp t s' j = hh.1 by unfold lnp; omega]; exact hl'
      · have hj' : j < k ∨ j = k ∧ s' < s := by
          rcases hj with q | ⟨q, w⟩
          · exact Or.inl q
          · exact Or.inr ⟨q, by omega⟩
        exact ⟨by rw [ar_pr, if_neg (fun q => e q.2)]; exact (f' s' j h1 h5 hj').1, li_st_ag hp (by unfold lnp; omega) (f' s' j h1 h5 hj').2⟩
  have outer : ∀ n k : Nat, k + n = 2 → ∀ (hh : ax_H) (u1 u2 : Nat) (o : Option Value), ag (fun b => b < t) h hh → hh.1 = t + 5 + 14 * k → ti t k k 1 hh → u1 = 4 + 14 * k → u2 = 617 + 257 * k → A (54, [some (.ref t), some (.int (nI k)), o], [], hh, u1, u2) := by
    intro n
    induction n with
    | zero =>
      intro k hk hh u1 u2 o hg hz hti e1 e2
      obtain rfl : k = 2 := by omega
      obtain ⟨a1, b, c, d, f, z, n0, n1⟩ := hti
      refine vX8_init_54 hA ⟨fun _ => ⟨⟨by omega, by omega⟩, hq hh hg (by omega) ⟨a1, b, c, d, fun s k h1 h5 hk => f s k h1 h5 (Or.inl hk)⟩ z n0 n1⟩, fun q => absurd (by decide) q⟩
    | succ n ih =>
      intro k hk hh u1 u2 o hg hz hti e1 e2
      obtain ⟨a1, b, c, d, f, z, n0, n1⟩ := id hti
      refine vX8_init_54 hA ⟨fun q => absurd q (nI_ge (a := k) (b := 2) (by omega) (by decide)), fun _ => ⟨a1, _, b.2.2.1, ⟨by omega, by omega, by omega⟩, rfl, ⟨by simp [Value.category], by omega, by omega⟩, by rw [as_nw, if_pos rfl], ?_⟩⟩
      have hnw : (ax_nw hh 6 0).1 = hh.1 + 1 := rfl
      refine c_init6 (r := hh.1) hnw (by omega) (by rw [as_nw, if_pos rfl]) (fun h' hg' hz' hl' _ hk' => ?_)
      have hg2 : ag (fun b => b < hh.1) hh h' := ag_tr (ag_nw (by omega)) hg'
      have hti' : ti t k k 1 h' := ti_ag hg2 (fun b _ _ => by omega) (fun j hj b hb => by omega) (fun s' j h1 h5 hj => by unfold lnp; omega) hti
      obtain ⟨a1', b', c', d', f', z', n0', n1'⟩ := id hti'
      refine ⟨rfl, by rw [c'.2.2.1], hk', by rw [c'.2.2.1]; exact vp_in_nI (by omega) (by decide), ?_⟩
      show A (74, [some (.ref t), some (.int (nI k)), some (.int (nI 1))], [], ax_pr h' (t + 3) (nI k).toNatClampNeg (some hh.1), u1 + 1 + 5, u2 + 7 + 162)
      rw [nI_clamp (by omega)]
      have hp : ag (fun b => b ≠ t + 3) h' (ax_pr h' (t + 3) k (some hh.1)) := ag_pr (fun q => q rfl)
      refine inner (fun _ _ _ _ => True) k (by omega) (fun hh u1 u2 o hg hz hti e1 e2 => by rw [← nI_succ]; exact ih (k + 1) (by omega) hh u1 u2 o hg hz hti e1 e2) 4 1 (by omega) (by omega) _ _ _ (ag_tr hg (ag_tr (ag_mono hg2 (fun x hx => by omega)) (ag_mono hp (fun x hx => by omega)))) (by show h'.1 = _; omega) ?_ (by omega) (by omega)
      have e0 := hp t (by omega)
      refine ⟨by rw [e0.1]; exact a1', ⟨by rw [e0.2.2.2]; exact b'.1, by rw [e0.2.2.2]; exact b'.2.1, by rw [e0.2.2.2]; exact b'.2.2.1, by rw [e0.2.2.2]; exact b'.2.2.2⟩, c', fun j hj => ?_, fun s' j h1 h5 hj => ⟨by rw [ar_pr, if_neg (by omega)]; exact (f' s' j h1 h5 hj).1, li_st_ag hp (by unfold lnp; omega) (f' s' j h1 h5 hj).2⟩, ⟨by rw [ai_pr]; exact z'.1, by rw [ai_pr]; exact z'.2.1, by rw [ai_pr]; exact z'.2.2.1, fun q => by rw [ai_pr]; exact z'.2.2.2.1 q, fun q => by rw [ai_pr]; exact z'.2.2.2.2 q⟩, by rw [ar_pr, if_neg (by omega)]; exact n0', by rw [ar_pr, if_neg (by omega)]; exact n1'⟩
      by_cases e : j = k
      · subst e
        refine ⟨by rw [ar_pr, if_pos ⟨rfl, rfl⟩, hz], rc_st_ag hp (fun q hq => by omega) ?_⟩
        rw [← hz]; exact hl'
      · exact ⟨by rw [ar_pr, if_neg (fun q => e q.2)]; exact (d' j (by omega)).1, rc_st_ag hp (fun q hq => by omega) (d' j (by omega)).2⟩
  have kp : ∀ (hh : ax_H) (kd ln : Nat), t < hh.1 → (ax_s hh t).1 = 8 → (ax_s (ax_nw hh kd ln) t).1 = 8 := fun hh kd ln hl hk => by rw [as_nw, if_neg (by omega)]; exact hk
  have k1 := kp h 12 600 (by show t < h.1; omega) hs
  have k2 := kp (ax_pr (ax_nw h 12 600) t 0 (some (h.1))) 11 5 (by show t < h.1 + 1; omega) k1
  have k3 := kp (ax_pr (ax_nw (ax_pr (ax_nw h 12 600) t 0 (some (h.1))) 11 5) t 1 (some (h.1 + 1))) 17 2 (by show t < h.1 + 1 + 1; omega) k2
  have k4 := kp (ax_pr (ax_nw (ax_pr (ax_nw (ax_pr (ax_nw h 12 600) t 0 (some (h.1))) 11 5) t 1 (some (h.1 + 1))) 17 2) t 2 (some (h.1 + 1 + 1))) 15 10 (by show t < h.1 + 1 + 1 + 1; omega) k3
  refine ⟨by decide, by decide, ⟨by show h.1 + 1 < 1000000; omega, by decide, by decide, by decide⟩, k1, by decide, ⟨by show h.1 + 1 + 1 < 1000000; omega, by decide, by decide, by decide⟩, k2, by decide, ⟨by show h.1 + 1 + 1 + 1 < 1000000; omega, by decide, by decide, by decide⟩, k3, by decide, ⟨by show h.1 + 1 + 1 + 1 + 1 < 1000000; omega, by decide, by decide, by decide⟩, k4, k4, k4, k4, ?_⟩
  have hag : ag (fun b => b < t) h (ax_pi (ax_pi (ax_pi (ax_pr (ax_nw (ax_pr (ax_nw (ax_pr (ax_nw (ax_pr (ax_nw h 12 600) t 0 (some (h.1))) 11 5) t 1 (some (h.1 + 1))) 17 2) t 2 (some (h.1 + 1 + 1))) 15 10) t 3 (some (h.1 + 1 + 1 + 1))) t 4 0) t 5 0) t 6 (-1)) := (ag_tr (ag_tr (ag_tr (ag_tr (ag_tr (ag_tr (ag_tr (ag_tr (ag_tr (ag_tr (ag_nw (by simp only [sz_nw, sz_pr, sz_pi, sz_pl, hn]; omega)) (ag_pr (by omega))) (ag_nw (by simp only [sz_nw, sz_pr, sz_pi, sz_pl, hn]; omega))) (ag_pr (by omega))) (ag_nw (by simp only [sz_nw, sz_pr, sz_pi, sz_pl, hn]; omega))) (ag_pr (by omega))) (ag_nw (by simp only [sz_nw, sz_pr, sz_pi, sz_pl, hn]; omega))) (ag_pr (by omega))) (ag_pi (by omega))) (ag_pi (by omega))) (ag_pi (by omega)))
  refine outer 2 0 rfl (ax_pi (ax_pi (ax_pi (ax_pr (ax_nw (ax_pr (ax_nw (ax_pr (ax_nw (ax_pr (ax_nw h 12 600) t 0 (some (h.1))) 11 5) t 1 (some (h.1 + 1))) 17 2) t 2 (some (h.1 + 1 + 1))) 15 10) t 3 (some (h.1 + 1 + 1 + 1))) t 4 0) t 5 0) t 6 (-1)) 4 617 none hag (by show h.1 + 1 + 1 + 1 + 1 = _; omega) ⟨k4, ⟨?_, ?_, ?_, ?_⟩, ⟨?_, ?_, ?_, ?_⟩, fun j hj => absurd hj (Nat.not_lt_zero j), fun s' j h1 h5 hj => absurd hj (by omega), ⟨?_, ?_, ?_, fun i => ?_, fun i => ?_⟩, ?_, ?_⟩ rfl rfl
  all_goals (simp [as_nw, ar_nw, ai_nw, as_pr, ar_pr, ai_pr, as_pi, ar_pi, ai_pi, sz_nw, sz_pr, sz_pi, hn] <;> omega)
end
