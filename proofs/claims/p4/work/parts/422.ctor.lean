section
variable {g : ax_G} {Ret : Option Value → ax_H → Prop} {h : ax_H} {r : Nat}
/-! the planner -/
def pl_st (h : ax_H) (r : Nat) : Prop := (ax_s h r).1 = 4 ∧ (ax_r h r 0 = some (r + 1) ∧ ax_r h r 5 = some (r + 2) ∧ ax_r h r 6 = some (r + 3) ∧ ax_r h r 7 = some (r + 4) ∧ ax_r h r 8 = some (r + 5)) ∧ ax_s h (r + 1) = (11, 6) ∧ ax_s h (r + 2) = (11, 6) ∧ ax_s h (r + 3) = (14, 64) ∧ ax_s h (r + 4) = (14, 6) ∧ od_st h (r + 5)
theorem pl_st_same {F : Nat → Prop} {h h' : ax_H} (s : ax_same F h h') (a : pl_st h r) : pl_st h' r := by
  obtain ⟨a1, ⟨b1, b2, b3, b4, b5⟩, c1, c2, c3, c4, c5⟩ := a
  exact ⟨by rw [s.2.1]; exact a1, ⟨by rw [s.2.2.1]; exact b1, by rw [s.2.2.1]; exact b2, by rw [s.2.2.1]; exact b3, by rw [s.2.2.1]; exact b4, by rw [s.2.2.1]; exact b5⟩, by rw [s.2.1]; exact c1, by rw [s.2.1]; exact c2, by rw [s.2.1]; exact c3, by rw [s.2.1]; exact c4, od_st_same s c5⟩
theorem pl_st_ag {P : Nat → Prop} {h h' : ax_H} (s : ag P h h') (i : ∀ j, j < 7 → P (r + j)) (a : pl_st h r) : pl_st h' r := by
  obtain ⟨a1, ⟨b1, b2, b3, b4, b5⟩, c1, c2, c3, c4, c5⟩ := a
  have e0 := s _ (i 0 (by decide))
  rw [Nat.add_zero] at e0
  exact ⟨by rw [e0.1]; exact a1, ⟨by rw [e0.2.2.2]; exact b1, by rw [e0.2.2.2]; exact b2, by rw [e0.2.2.2]; exact b3, by rw [e0.2.2.2]; exact b4, by rw [e0.2.2.2]; exact b5⟩, by rw [(s _ (i 1 (by decide))).1]; exact c1, by rw [(s _ (i 2 (by decide))).1]; exact c2, by rw [(s _ (i 3 (by decide))).1]; exact c3, by rw [(s _ (i 4 (by decide))).1]; exact c4, od_st_ag s ⟨i 5 (by decide), i 6 (by decide)⟩ c5⟩
theorem c_init4 (hn : h.1 = r + 1) (ha : r < 800000) (hs : (ax_s h r).1 = 4) (hq : ∀ h', ag (fun b => b < r) h h' → h'.1 = r + 7 → pl_st h' r → Ret none h') : mX4_init g [.ref r] h Ret := by
  have kp : ∀ (hh : ax_H) (kd ln : Nat), r < hh.1 → (ax_s hh r).1 = 4 → (ax_s (ax_nw hh kd ln) r).1 = 4 := fun hh kd ln hl hk => by rw [as_nw, if_neg (by omega)]; exact hk
  have k1 := kp h 11 6 (by show r < h.1; omega) hs
  have k2 := kp (ax_pl (ax_pi (ax_pl (ax_pl (ax_pr (ax_nw h 11 6) r 0 (some (h.1))) r 1 0) r 2 0) r 3 (-1)) r 4 0) 11 6 (by show r < h.1 + 1; omega) k1
  have k3 := kp (ax_pr (ax_nw (ax_pl (ax_pi (ax_pl (ax_pl (ax_pr (ax_nw h 11 6) r 0 (some (h.1))) r 1 0) r 2 0) r 3 (-1)) r 4 0) 11 6) r 5 (some (h.1 + 1))) 14 64 (by show r < h.1 + 1 + 1; omega) k2
  have k4 := kp (ax_pr (ax_nw (ax_pr (ax_nw (ax_pl (ax_pi (ax_pl (ax_pl (ax_pr (ax_nw h 11 6) r 0 (some (h.1))) r 1 0) r 2 0) r 3 (-1)) r 4 0) 11 6) r 5 (some (h.1 + 1))) 14 64) r 6 (some (h.1 + 1 + 1))) 14 6 (by show r < h.1 + 1 + 1 + 1; omega) k3
  have k5 := kp (ax_pr (ax_nw (ax_pr (ax_nw (ax_pr (ax_nw (ax_pl (ax_pi (ax_pl (ax_pl (ax_pr (ax_nw h 11 6) r 0 (some (h.1))) r 1 0) r 2 0) r 3 (-1)) r 4 0) 11 6) r 5 (some (h.1 + 1))) 14 64) r 6 (some (h.1 + 1 + 1))) 14 6) r 7 (some (h.1 + 1 + 1 + 1))) 3 0 (by show r < h.1 + 1 + 1 + 1 + 1; omega) k4
  have hag : ag (fun b => b < r) h (ax_nw (ax_pr (ax_nw (ax_pr (ax_nw (ax_pr (ax_nw (ax_pl (ax_pi (ax_pl (ax_pl (ax_pr (ax_nw h 11 6) r 0 (some (h.1))) r 1 0) r 2 0) r 3 (-1)) r 4 0) 11 6) r 5 (some (h.1 + 1))) 14 64) r 6 (some (h.1 + 1 + 1))) 14 6) r 7 (some (h.1 + 1 + 1 + 1))) 3 0) := (ag_tr (ag_tr (ag_tr (ag_tr (ag_tr (ag_tr (ag_tr (ag_tr (ag_tr (ag_tr (ag_tr (ag_tr (ag_nw (by simp only [sz_nw, sz_pr, sz_pi, sz_pl, hn]; omega)) (ag_pr (by omega))) (ag_pl (by omega))) (ag_pl (by omega))) (ag_pi (by omega))) (ag_pl (by omega))) (ag_nw (by simp only [sz_nw, sz_pr, sz_pi, sz_pl, hn]; omega))) (ag_pr (by omega))) (ag_nw (by simp only [sz_nw, sz_pr, sz_pi, sz_pl, hn]; omega))) (ag_pr (by omega))) (ag_nw (by simp only [sz_nw, sz_pr, sz_pi, sz_pl, hn]; omega))) (ag_pr (by omega))) (ag_nw (by simp only [sz_nw, sz_pr, sz_pi, sz_pl, hn]; omega)))
  have hz5 : ((ax_nw (ax_pr (ax_nw (ax_pr (ax_nw (ax_pr (ax_nw (ax_pl (ax_pi (ax_pl (ax_pl (ax_pr (ax_nw h 11 6) r 0 (some (h.1))) r 1 0) r 2 0) r 3 (-1)) r 4 0) 11 6) r 5 (some (h.1 + 1))) 14 64) r 6 (some (h.1 + 1 + 1))) 14 6) r 7 (some (h.1 + 1 + 1 + 1))) 3 0)).1 = r + 5 + 1 := by show h.1 + 1 + 1 + 1 + 1 + 1 = _; omega
  have hs5 : (ax_s (ax_nw (ax_pr (ax_nw (ax_pr (ax_nw (ax_pr (ax_nw (ax_pl (ax_pi (ax_pl (ax_pl (ax_pr (ax_nw h 11 6) r 0 (some (h.1))) r 1 0) r 2 0) r 3 (-1)) r 4 0) 11 6) r 5 (some (h.1 + 1))) 14 64) r 6 (some (h.1 + 1 + 1))) 14 6) r 7 (some (h.1 + 1 + 1 + 1))) 3 0) (r + 5)).1 = 3 := by (simp [as_nw, ar_nw, ai_nw, as_pr, ar_pr, ai_pr, as_pi, ar_pi, ai_pi, as_pl, ar_pl, sz_nw, sz_pr, sz_pi, sz_pl, hn] <;> omega)
  have hpre : (ax_r (ax_nw (ax_pr (ax_nw (ax_pr (ax_nw (ax_pr (ax_nw (ax_pl (ax_pi (ax_pl (ax_pl (ax_pr (ax_nw h 11 6) r 0 (some (h.1))) r 1 0) r 2 0) r 3 (-1)) r 4 0) 11 6) r 5 (some (h.1 + 1))) 14 64) r 6 (some (h.1 + 1 + 1))) 14 6) r 7 (some (h.1 + 1 + 1 + 1))) 3 0) r 0 = some (r + 1) ∧ ax_r (ax_nw (ax_pr (ax_nw (ax_pr (ax_nw (ax_pr (ax_nw (ax_pl (ax_pi (ax_pl (ax_pl (ax_pr (ax_nw h 11 6) r 0 (some (h.1))) r 1 0) r 2 0) r 3 (-1)) r 4 0) 11 6) r 5 (some (h.1 + 1))) 14 64) r 6 (some (h.1 + 1 + 1))) 14 6) r 7 (some (h.1 + 1 + 1 + 1))) 3 0) r 5 = some (r + 2) ∧ ax_r (ax_nw (ax_pr (ax_nw (ax_pr (ax_nw (ax_pr (ax_nw (ax_pl (ax_pi (ax_pl (ax_pl (ax_pr (ax_nw h 11 6) r 0 (some (h.1))) r 1 0) r 2 0) r 3 (-1)) r 4 0) 11 6) r 5 (some (h.1 + 1))) 14 64) r 6 (some (h.1 + 1 + 1))) 14 6) r 7 (some (h.1 + 1 + 1 + 1))) 3 0) r 6 = some (r + 3) ∧ ax_r (ax_nw (ax_pr (ax_nw (ax_pr (ax_nw (ax_pr (ax_nw (ax_pl (ax_pi (ax_pl (ax_pl (ax_pr (ax_nw h 11 6) r 0 (some (h.1))) r 1 0) r 2 0) r 3 (-1)) r 4 0) 11 6) r 5 (some (h.1 + 1))) 14 64) r 6 (some (h.1 + 1 + 1))) 14 6) r 7 (some (h.1 + 1 + 1 + 1))) 3 0) r 7 = some (r + 4)) ∧ ax_s (ax_nw (ax_pr (ax_nw (ax_pr (ax_nw (ax_pr (ax_nw (ax_pl (ax_pi (ax_pl (ax_pl (ax_pr (ax_nw h 11 6) r 0 (some (h.1))) r 1 0) r 2 0) r 3 (-1)) r 4 0) 11 6) r 5 (some (h.1 + 1))) 14 64) r 6 (some (h.1 + 1 + 1))) 14 6) r 7 (some (h.1 + 1 + 1 + 1))) 3 0) (r + 1) = (11, 6) ∧ ax_s (ax_nw (ax_pr (ax_nw (ax_pr (ax_nw (ax_pr (ax_nw (ax_pl (ax_pi (ax_pl (ax_pl (ax_pr (ax_nw h 11 6) r 0 (some (h.1))) r 1 0) r 2 0) r 3 (-1)) r 4 0) 11 6) r 5 (some (h.1 + 1))) 14 64) r 6 (some (h.1 + 1 + 1))) 14 6) r 7 (some (h.1 + 1 + 1 + 1))) 3 0) (r + 2) = (11, 6) ∧ ax_s (ax_nw (ax_pr (ax_nw (ax_pr (ax_nw (ax_pr (ax_nw (ax_pl (ax_pi (ax_pl (ax_pl (ax_pr (ax_nw h 11 6) r 0 (some (h.1))) r 1 0) r 2 0) r 3 (-1)) r 4 0) 11 6) r 5 (some (h.1 + 1))) 14 64) r 6 (some (h.1 + 1 + 1))) 14 6) r 7 (some (h.1 + 1 + 1 + 1))) 3 0) (r + 3) = (14, 64) ∧ ax_s (ax_nw (ax_pr (ax_nw (ax_pr (ax_nw (ax_pr (ax_nw (ax_pl (ax_pi (ax_pl (ax_pl (ax_pr (ax_nw h 11 6) r 0 (some (h.1))) r 1 0) r 2 0) r 3 (-1)) r 4 0) 11 6) r 5 (some (h.1 + 1))) 14 64) r 6 (some (h.1 + 1 + 1))) 14 6) r 7 (some (h.1 + 1 + 1 + 1))) 3 0) (r + 4) = (14, 6) := by
    refine ⟨⟨?_, ?_, ?_, ?_⟩, ?_, ?_, ?_, ?_⟩
    all_goals (simp [as_nw, ar_nw, ai_nw, as_pr, ar_pr, ai_pr, as_pi, ar_pi, ai_pi, as_pl, ar_pl, sz_nw, sz_pr, sz_pi, sz_pl, hn] <;> omega)
  refine eX4_init ⟨by decide, by decide, ⟨by show h.1 + 1 < 1000000; omega, by decide, by decide, by decide⟩, k1, k1, k1, k1, k1, by decide, ⟨by show h.1 + 1 + 1 < 1000000; omega, by decide, by decide, by decide⟩, k2, by decide, ⟨by show h.1 + 1 + 1 + 1 < 1000000; omega, by decide, by decide, by decide⟩, k3, by decide, ⟨by show h.1 + 1 + 1 + 1 + 1 < 1000000; omega, by decide, by decide, by decide⟩, k4, ⟨by show h.1 + 1 + 1 + 1 + 1 + 1 < 1000000; omega, by decide, by decide⟩, rfl, ⟨by simp [Value.category], by decide, by decide⟩, ?_, ?_⟩
  · simp only [sz_nw, sz_pr, sz_pi, sz_pl, as_nw]; simp
  have ez : h.1 + 1 + 1 + 1 + 1 = r + 5 := by omega
  show ax_M g 1 1 12 yX3_init cX3_init 1 none [.ref (h.1 + 1 + 1 + 1 + 1)] (ax_nw (ax_pr (ax_nw (ax_pr (ax_nw (ax_pr (ax_nw (ax_pl (ax_pi (ax_pl (ax_pl (ax_pr (ax_nw h 11 6) r 0 (some (h.1))) r 1 0) r 2 0) r 3 (-1)) r 4 0) 11 6) r 5 (some (h.1 + 1))) 14 64) r 6 (some (h.1 + 1 + 1))) 14 6) r 7 (some (h.1 + 1 + 1 + 1))) 3 0) _
  rw [ez]
  revert hag hz5 hs5 hpre k5
  generalize (ax_nw (ax_pr (ax_nw (ax_pr (ax_nw (ax_pr (ax_nw (ax_pl (ax_pi (ax_pl (ax_pl (ax_pr (ax_nw h 11 6) r 0 (some (h.1))) r 1 0) r 2 0) r 3 (-1)) r 4 0) 11 6) r 5 (some (h.1 + 1))) 14 64) r 6 (some (h.1 + 1 + 1))) 14 6) r 7 (some (h.1 + 1 + 1 + 1))) 3 0) = hT
  intro k5 hag hz5 hs5 hpre
  refine c_init3 hz5 (by omega) hs5 (fun h' hg' hz' ho => ?_)
  have e0 := hg' r (by omega)
  have hp : ag (fun b => b ≠ r) h' (ax_pr h' r 8 (some (h.1 + 1 + 1 + 1 + 1))) := ag_pr (fun q => q rfl)
  refine ⟨rfl, by rw [e0.1]; exact k5, ⟨by decide, by decide⟩, hq _ (ag_tr hag (ag_tr (ag_mono hg' (fun x hx => by omega)) (ag_mono hp (fun x hx => by omega)))) (by show h'.1 = _; omega) ⟨by rw [as_pr, e0.1]; exact k5, ⟨?_, ?_, ?_, ?_, ?_⟩, ?_, ?_, ?_, ?_, od_st_ag hp (by omega) ho⟩⟩
  · rw [ar_pr, if_neg (by omega), e0.2.2.2]; exact hpre.1.1
  · rw [ar_pr, if_neg (by omega), e0.2.2.2]; exact hpre.1.2.1
  · rw [ar_pr, if_neg (by omega), e0.2.2.2]; exact hpre.1.2.2.1
  · rw [ar_pr, if_neg (by omega), e0.2.2.2]; exact hpre.1.2.2.2
  · rw [ar_pr, if_pos ⟨rfl, rfl⟩]; exact congrArg some ez
  · rw [as_pr, (hg' (r + 1) (by omega)).1]; exact hpre.2.1
  · rw [as_pr, (hg' (r + 2) (by omega)).1]; exact hpre.2.2.1
  · rw [as_pr, (hg' (r + 3) (by omega)).1]; exact hpre.2.2.2.1
  · rw [as_pr, (hg' (r + 4) (by omega)).1]; exact hpre.2.2.2.2
/-! the search -/
def se_st (h : ax_H) (r : Nat) : Prop := (ax_s h r).1 = 7 ∧ (ax_r h r 0 = some (r + 1) ∧ ax_r h r 3 = some (r + 2) ∧ ax_r h r 4 = some (r + 3)) ∧ (ax_s h (r + 1) = (11, 3) ∧ ax_s h (r + 2) = (11, 3) ∧ ax_s h (r + 3) = (16, 3)) ∧ ∀ d, d < 3 → ax_r h (r + 3) d = some (r + 4 + 2 * d) ∧ od_st h (r + 4 + 2 * d)
theorem se_st_same {F : Nat → Prop} {h h' : ax_H} (s : ax_same F h h') (a : se_st h r) : se_st h' r := by
  obtain ⟨a1, ⟨b1, b2, b3⟩, ⟨c1, c2, c3⟩, d⟩ := a
  exact ⟨by rw [s.2.1]; exact a1, ⟨by rw [s.2.2.1]; exact b1, by rw [s.2.2.1]; exact b2, by rw [s.2.2.1]; exact b3⟩, ⟨by rw [s.2.1]; exact c1, by rw [s.2.1]; exact c2, by rw [s.2.1]; exact c3⟩, fun q hq => ⟨by rw [s.2.2.1]; exact (d q hq).1, od_st_same s (d q hq).2⟩⟩
/-- with its first n odds -/
def se_n (h : ax_H) (r n : Nat) : Prop := (ax_s h r).1 = 7 ∧ (ax_r h r 0 = some (r + 1) ∧ ax_r h r 3 = some (r + 2) ∧ ax_r h r 4 = some (r + 3)) ∧ (ax_s h (r + 1) = (11, 3) ∧ ax_s h (r + 2) = (11, 3) ∧ ax_s h (r + 3) = (16, 3)) ∧ ∀ d, d < n → ax_r h (r + 3) d = some (r + 4 + 2 * d) ∧ od_st h (r + 4 + 2 * d)
theorem se_n_ag {P : Nat → Prop} {h h' : ax_H} {n : Nat} (s : ag P h h') (i : ∀ j, j < 4 + 2 * n → P (r + j)) (a : se_n h r n) : se_n h' r n := by
  obtain ⟨a1, ⟨b1, b2, b3⟩, ⟨c1, c2, c3⟩, d⟩ := a
  have e0 := s _ (i 0 (by omega))
  rw [Nat.add_zero] at e0
  exact ⟨by rw [e0.1]; exact a1, ⟨by rw [e0.2.2.2]; exact b1, by rw [e0.2.2.2]; exact b2, by rw [e0.2.2.2]; exact b3⟩, ⟨by rw [(s _ (i 1 (by omega))).1]; exact c1, by rw [(s _ (i 2 (by omega))).1]; exact c2, by rw [(s _ (i 3 (by omega))).1]; exact c3⟩, fun q hq => ⟨by rw [(s _ (i 3 (by omega))).2.2.2]; exact (d q hq).1, od_st_ag s ⟨by have := i (4 + 2 * q) (by omega); rwa [← Nat.add_assoc] at this, by have := i (5 + 2 * q) (by omega); rwa [show r + (5 + 2 * q) = r + 4 + 2 * q + 1 by omega] at this⟩ (d q hq).2⟩⟩
theorem c_init7 (hn : h.1 = r + 1) (ha : r < 800000) (hs : (ax_s h r).1 = 7) (hq : ∀ h', ag (fun b => b < r) h h' → h'.1 = r + 10 → se_st h' r → Ret none h') : mX7_init g [.ref r] h Ret := by
  have kp : ∀ (hh : ax_H) (kd ln : Nat), r < hh.1 → (ax_s hh r).1 = 7 → (ax_s (ax_nw hh kd ln) r).1 = 7 := fun hh kd ln hl hk => by rw [as_nw, if_neg (by omega)]; exact hk
  have k1 := kp h 11 3 (by show r < h.1; omega) hs
  have k2 := kp (ax_pi (ax_pi (ax_pr (ax_nw h 11 3) r 0 (some (h.1))) r 1 0) r 2 0) 11 3 (by show r < h.1 + 1; omega) k1
  have k3 := kp (ax_pr (ax_nw (ax_pi (ax_pi (ax_pr (ax_nw h 11 3) r 0 (some (h.1))) r 1 0) r 2 0) 11 3) r 3 (some (h.1 + 1))) 16 3 (by show r < h.1 + 1 + 1; omega) k2
  have hag : ag (fun b => b < r) h (ax_pr (ax_nw (ax_pr (ax_nw (ax_pi (ax_pi (ax_pr (ax_nw h 11 3) r 0 (some (h.1))) r 1 0) r 2 0) 11 3) r 3 (some (h.1 + 1))) 16 3) r 4 (some (h.1 + 1 + 1))) := (ag_tr (ag_tr (ag_tr (ag_tr (ag_tr (ag_tr (ag_tr (ag_nw (by simp only [sz_nw, sz_pr, sz_pi, sz_pl, hn]; omega)) (ag_pr (by omega))) (ag_pi (by omega))) (ag_pi (by omega))) (ag_nw (by simp only [sz_nw, sz_pr, sz_pi, sz_pl, hn]; omega))) (ag_pr (by omega))) (ag_nw (by simp only [sz_nw, sz_pr, sz_pi, sz_pl, hn]; omega))) (ag_pr (by omega)))
  have hst : se_n (ax_pr (ax_nw (ax_pr (ax_nw (ax_pi (ax_pi (ax_pr (ax_nw h 11 3) r 0 (some (h.1))) r 1 0) r 2 0) 11 3) r 3 (some (h.1 + 1))) 16 3) r 4 (some (h.1 + 1 + 1))) r 0 := by
    refine ⟨k3, ⟨?_, ?_, ?_⟩, ⟨?_, ?_, ?_⟩, fun d hd => absurd hd (Nat.not_lt_zero d)⟩
    all_goals (simp [as_nw, ar_nw, ai_nw, as_pr, ar_pr, ai_pr, as_pi, ar_pi, ai_pi, as_pl, ar_pl, sz_nw, sz_pr, sz_pi, sz_pl, hn] <;> omega)
  refine uX7_init (fun A hA => vX7_init_0 hA ⟨by decide, by decide, ⟨by show h.1 + 1 < 1000000; omega, by decide, by decide, by decide⟩, k1, k1, k1, by decide, ⟨by show h.1 + 1 + 1 < 1000000; omega, by decide, by decide, by decide⟩, k2, by decide, ⟨by show h.1 + 1 + 1 + 1 < 1000000; omega, by decide, by decide, by decide⟩, k3, ?_⟩)
  have key : ∀ n d : Nat, d + n = 3 → ∀ (hh : ax_H) (u1 u2 : Nat), ag (fun b => b < r) h hh → hh.1 = r + 4 + 2 * d → se_n hh r d → u1 = 3 + 2 * d → u2 = 9 + 15 * d → A (38, [some (.ref r), some (.int (nI d))], [], hh, u1, u2) := by
    intro n
    induction n with
    | zero =>
      intro d hd hh u1 u2 hg hz hi e1 e2
      obtain rfl : d = 3 := by omega
      exact vX7_init_38 hA ⟨fun _ => ⟨⟨by omega, by omega⟩, hq hh hg (by omega) hi⟩, fun q => absurd (by decide) q⟩
    | succ n ih =>
      intro d hd hh u1 u2 hg hz hi e1 e2
      refine vX7_init_38 hA ⟨fun q => absurd q (nI_ge (a := d) (b := 3) (by omega) (by decide)), fun _ => ⟨hi.1, _, hi.2.1.2.2, ⟨by omega, by omega, by omega⟩, rfl, ⟨by simp [Value.category], by omega, by omega⟩, by rw [as_nw, if_pos rfl], ?_⟩⟩
      have hnw : (ax_nw hh 3 0).1 = hh.1 + 1 := rfl
      refine c_init3 (r := hh.1) hnw (by omega) (by rw [as_nw, if_pos rfl]) (fun h' hg' hz' ho => ?_)
      have hg2 : ag (fun b => b < hh.1) hh h' := ag_tr (ag_nw (by omega)) hg'
      have hi' : se_n h' r d := se_n_ag hg2 (fun j hj => by omega) hi
      refine ⟨rfl, by rw [hi'.2.2.1.2.2], ho.1, by rw [hi'.2.2.1.2.2]; exact vp_in_nI (by omega) (by decide), ?_⟩
      show A (38, [some (.ref r), some (.int (nI d + 1))], [], ax_pr h' (r + 3) (nI d).toNatClampNeg (some hh.1), u1 + 1 + 1, u2 + 3 + 12)
      rw [← nI_succ, nI_clamp (by omega)]
      have hp : ag (fun b => b ≠ r + 3) h' (ax_pr h' (r + 3) d (some hh.1)) := ag_pr (fun q => q rfl)
      have e0 := hp r (by omega)
      refine ih (d + 1) (by omega) _ _ _ (ag_tr hg (ag_tr (ag_mono hg2 (fun x hx => by omega)) (ag_mono hp (fun x hx => by omega)))) (by show h'.1 = _; omega) ⟨by rw [e0.1]; exact hi'.1, ⟨by rw [e0.2.2.2]; exact hi'.2.1.1, by rw [e0.2.2.2]; exact hi'.2.1.2.1, by rw [e0.2.2.2]; exact hi'.2.1.2.2⟩, hi'.2.2.1, fun q hq => ?_⟩ (by omega) (by omega)
      by_cases e : q = d
      · subst e
        refine ⟨by rw [ar_pr, if_pos ⟨rfl, rfl⟩, hz], od_st_ag hp (by omega) ?_⟩
        rw [← hz]; exact ho
      · exact ⟨by rw [ar_pr, if_neg (fun z => e z.2)]; exact (hi'.2.2.2 q (by omega)).1, od_st_ag hp (by omega) (hi'.2.2.2 q (by omega)).2⟩
  exact key 3 0 rfl _ 3 9 hag (by show h.1 + 1 + 1 + 1 = _; omega) hst rfl rfl
end
