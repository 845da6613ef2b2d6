section
variable {g : ax_G} {Ret : Option Value → ax_H → Prop} {h : ax_H} {m : Nat}
/-! the reference's object -/
def moN (m j : Nat) (h : ax_H) : Prop := (ax_s h m).1 = 10 ∧ h.1 = m + 1 + j ∧ (∀ i q, i < j → mo_tab[i]? = some q → ax_r h m q.1 = some (m + 1 + i) ∧ ax_s h (m + 1 + i) = q.2) ∧ ∀ i, i < j → ∀ k, ax_i h (m + 1 + i) k = 0
theorem mo_dis : ∀ i, i < 25 → ∀ j, j < 25 → i ≠ j → (mo_tab.getD i (0, 0, 0)).1 ≠ (mo_tab.getD j (0, 0, 0)).1 := by decide
theorem mo_lt {i : Nat} {q : Nat × Nat × Nat} (h : mo_tab[i]? = some q) : i < 25 ∧ mo_tab.getD i (0, 0, 0) = q := ⟨(List.getElem?_eq_some_iff.mp h).1, by rw [List.getD_eq_getElem?_getD, h]; rfl⟩
theorem mo_step {j f kd ln : Nat} (a : moN m j h) (hq : mo_tab[j]? = some (f, kd, ln)) : (ax_s (ax_nw h kd ln) m).1 = 10 ∧ moN m (j + 1) (ax_pr (ax_nw h kd ln) m f (some h.1)) ∧ ag (fun b => b < m) h (ax_pr (ax_nw h kd ln) m f (some h.1)) := by
  obtain ⟨a1, a2, a3, a4⟩ := a
  have k : (ax_s (ax_nw h kd ln) m).1 = 10 := by rw [as_nw, if_neg (by omega)]; exact a1
  refine ⟨k, ⟨k, by show h.1 + 1 = _; omega, fun i q hi hiq => ?_, fun i hi k => ?_⟩, ag_tr (ag_nw (by omega)) (ag_pr (by omega))⟩
  · by_cases e : i = j
    · subst e
      have eq : q = (f, kd, ln) := Option.some.inj (hiq.symm.trans hq)
      subst eq
      exact ⟨by rw [ar_pr, if_pos ⟨rfl, rfl⟩, a2], by rw [as_pr, as_nw, if_pos a2.symm]⟩
    · have h1 := mo_lt hiq
      have h2 := mo_lt hq
      have hd := mo_dis i h1.1 j h2.1 e
      rw [h1.2, h2.2] at hd
      obtain ⟨b1, b2⟩ := a3 i q (by omega) hiq
      exact ⟨by rw [ar_pr, if_neg (fun z => hd z.2), ar_nw, if_neg (by omega)]; exact b1, by rw [as_pr, as_nw, if_neg (by omega)]; exact b2⟩
  · rw [ai_pr, ai_nw]
    split
    · rfl
    · exact a4 i (by omega) k
theorem c_init10 (hn : h.1 = m + 1) (ha : m < 900000) (hs : (ax_s h m).1 = 10) (hq : ∀ h', ag (fun b => b < m) h h' → h'.1 = m + 26 → mo_st h' m → (∀ j, j < 25 → ∀ k, ax_i h' (m + 1 + j) k = if j = 3 ∧ k = 0 then -1 else 0) → Ret none h') : mX10_init g [.ref m] h Ret := by
  have M0 : moN m 0 h := ⟨hs, hn, fun i q hi => absurd hi (Nat.not_lt_zero i), fun i hi => absurd hi (Nat.not_lt_zero i)⟩
  have G0 : ag (fun b => b < m) h h := ag_rf
  refine uX10_init (fun A hA => vX10_init_0 hA ⟨by decide, ?_⟩)
  obtain ⟨k1, M1, G1⟩ := mo_step M0 (show mo_tab[0]? = some (1, 12, 2400) from rfl)
  refine ⟨by decide, ⟨by have := M0.2.1; omega, by decide, by decide, by decide⟩, k1, ?_⟩
  revert M1 G1
  generalize ax_pr (ax_nw h 12 2400) m 1 (some h.1) = hh1
  intro M1 G1
  replace G1 := ag_tr G0 G1
  clear M0 G0 k1
  obtain ⟨k2, M2, G2⟩ := mo_step M1 (show mo_tab[1]? = some (2, 11, 4) from rfl)
  refine ⟨by decide, ⟨by have := M1.2.1; omega, by decide, by decide, by decide⟩, k2, ?_⟩
  revert M2 G2
  generalize ax_pr (ax_nw hh1 11 4) m 2 (some hh1.1) = hh2
  intro M2 G2
  replace G2 := ag_tr G1 G2
  clear M1 G1 k2
  obtain ⟨k3, M3, G3⟩ := mo_step M2 (show mo_tab[2]? = some (3, 11, 4) from rfl)
  refine ⟨by decide, ⟨by have := M2.2.1; omega, by decide, by decide, by decide⟩, k3, ?_⟩
  revert M3 G3
  generalize ax_pr (ax_nw hh2 11 4) m 3 (some hh2.1) = hh3
  intro M3 G3
  replace G3 := ag_tr G2 G3
  clear M2 G2 k3
  obtain ⟨k4, M4, G4⟩ := mo_step M3 (show mo_tab[3]? = some (4, 11, 4) from rfl)
  refine ⟨by decide, ⟨by have := M3.2.1; omega, by decide, by decide, by decide⟩, k4, ?_⟩
  revert M4 G4
  generalize ax_pr (ax_nw hh3 11 4) m 4 (some hh3.1) = hh4
  intro M4 G4
  replace G4 := ag_tr G3 G4
  clear M3 G3 k4
  refine vX10_init_34 hA ?_
  obtain ⟨k5, M5, G5⟩ := mo_step M4 (show mo_tab[4]? = some (5, 11, 20) from rfl)
  refine ⟨by decide, ⟨by have := M4.2.1; omega, by decide, by decide, by decide⟩, k5, ?_⟩
  revert M5 G5
  generalize ax_pr (ax_nw hh4 11 20) m 5 (some hh4.1) = hh5
  intro M5 G5
  replace G5 := ag_tr G4 G5
  clear M4 G4 k5
  obtain ⟨k6, M6, G6⟩ := mo_step M5 (show mo_tab[5]? = some (6, 11, 1312) from rfl)
  refine ⟨by decide, ⟨by have := M5.2.1; omega, by decide, by decide, by decide⟩, k6, ?_⟩
  revert M6 G6
  generalize ax_pr (ax_nw hh5 11 1312) m 6 (some hh5.1) = hh6
  intro M6 G6
  replace G6 := ag_tr G5 G6
  clear M5 G5 k6
  obtain ⟨k7, M7, G7⟩ := mo_step M6 (show mo_tab[6]? = some (7, 11, 120) from rfl)
  refine ⟨by decide, ⟨by have := M6.2.1; omega, by decide, by decide, by decide⟩, k7, ?_⟩
  revert M7 G7
  generalize ax_pr (ax_nw hh6 11 120) m 7 (some hh6.1) = hh7
  intro M7 G7
  replace G7 := ag_tr G6 G7
  clear M6 G6 k7
  obtain ⟨k8, M8, G8⟩ := mo_step M7 (show mo_tab[7]? = some (8, 11, 152) from rfl)
  refine ⟨by decide, ⟨by have := M7.2.1; omega, by decide, by decide, by decide⟩, k8, ?_⟩
  revert M8 G8
  generalize ax_pr (ax_nw hh7 11 152) m 8 (some hh7.1) = hh8
  intro M8 G8
  replace G8 := ag_tr G7 G8
  clear M7 G7 k8
  refine vX10_init_68 hA ?_
  obtain ⟨k9, M9, G9⟩ := mo_step M8 (show mo_tab[8]? = some (9, 11, 136) from rfl)
  refine ⟨by decide, ⟨by have := M8.2.1; omega, by decide, by decide, by decide⟩, k9, ?_⟩
  revert M9 G9
  generalize ax_pr (ax_nw hh8 11 136) m 9 (some hh8.1) = hh9
  intro M9 G9
  replace G9 := ag_tr G8 G9
  clear M8 G8 k9
  obtain ⟨k10, M10, G10⟩ := mo_step M9 (show mo_tab[9]? = some (10, 11, 152) from rfl)
  refine ⟨by decide, ⟨by have := M9.2.1; omega, by decide, by decide, by decide⟩, k10, ?_⟩
  revert M10 G10
  generalize ax_pr (ax_nw hh9 11 152) m 10 (some hh9.1) = hh10
  intro M10 G10
  replace G10 := ag_tr G9 G10
  clear M9 G9 k10
  obtain ⟨k11, M11, G11⟩ := mo_step M10 (show mo_tab[10]? = some (20, 11, 164) from rfl)
  refine ⟨by decide, ⟨by have := M10.2.1; omega, by decide, by decide, by decide⟩, k11, ?_⟩
  revert M11 G11
  generalize ax_pr (ax_nw hh10 11 164) m 20 (some hh10.1) = hh11
  intro M11 G11
  replace G11 := ag_tr G10 G11
  clear M10 G10 k11
  obtain ⟨k12, M12, G12⟩ := mo_step M11 (show mo_tab[11]? = some (21, 11, 3) from rfl)
  refine ⟨by decide, ⟨by have := M11.2.1; omega, by decide, by decide, by decide⟩, k12, ?_⟩
  revert M12 G12
  generalize ax_pr (ax_nw hh11 11 3) m 21 (some hh11.1) = hh12
  intro M12 G12
  replace G12 := ag_tr G11 G12
  clear M11 G11 k12
  refine vX10_init_102 hA ?_
  obtain ⟨k13, M13, G13⟩ := mo_step M12 (show mo_tab[12]? = some (28, 11, 6) from rfl)
  refine ⟨by decide, ⟨by have := M12.2.1; omega, by decide, by decide, by decide⟩, k13, ?_⟩
  revert M13 G13
  generalize ax_pr (ax_nw hh12 11 6) m 28 (some hh12.1) = hh13
  intro M13 G13
  replace G13 := ag_tr G12 G13
  clear M12 G12 k13
  obtain ⟨k14, M14, G14⟩ := mo_step M13 (show mo_tab[13]? = some (29, 11, 72) from rfl)
  refine ⟨by decide, ⟨by have := M13.2.1; omega, by decide, by decide, by decide⟩, k14, ?_⟩
  revert M14 G14
  generalize ax_pr (ax_nw hh13 11 72) m 29 (some hh13.1) = hh14
  intro M14 G14
  replace G14 := ag_tr G13 G14
  clear M13 G13 k14
  obtain ⟨k15, M15, G15⟩ := mo_step M14 (show mo_tab[14]? = some (30, 11, 72) from rfl)
  refine ⟨by decide, ⟨by have := M14.2.1; omega, by decide, by decide, by decide⟩, k15, ?_⟩
  revert M15 G15
  generalize ax_pr (ax_nw hh14 11 72) m 30 (some hh14.1) = hh15
  intro M15 G15
  replace G15 := ag_tr G14 G15
  clear M14 G14 k15
  obtain ⟨k16, M16, G16⟩ := mo_step M15 (show mo_tab[15]? = some (31, 11, 12) from rfl)
  refine ⟨by decide, ⟨by have := M15.2.1; omega, by decide, by decide, by decide⟩, k16, ?_⟩
  revert M16 G16
  generalize ax_pr (ax_nw hh15 11 12) m 31 (some hh15.1) = hh16
  intro M16 G16
  replace G16 := ag_tr G15 G16
  clear M15 G15 k16
  refine vX10_init_134 hA ?_
  obtain ⟨k17, M17, G17⟩ := mo_step M16 (show mo_tab[16]? = some (40, 11, 12) from rfl)
  refine ⟨by decide, ⟨by have := M16.2.1; omega, by decide, by decide, by decide⟩, k17, ?_⟩
  revert M17 G17
  generalize ax_pr (ax_nw hh16 11 12) m 40 (some hh16.1) = hh17
  intro M17 G17
  replace G17 := ag_tr G16 G17
  clear M16 G16 k17
  obtain ⟨k18, M18, G18⟩ := mo_step M17 (show mo_tab[17]? = some (43, 14, 28672) from rfl)
  refine ⟨by decide, ⟨by have := M17.2.1; omega, by decide, by decide, by decide⟩, k18, ?_⟩
  revert M18 G18
  generalize ax_pr (ax_nw hh17 14 28672) m 43 (some hh17.1) = hh18
  intro M18 G18
  replace G18 := ag_tr G17 G18
  clear M17 G17 k18
  obtain ⟨k19, M19, G19⟩ := mo_step M18 (show mo_tab[18]? = some (44, 11, 6) from rfl)
  refine ⟨by decide, ⟨by have := M18.2.1; omega, by decide, by decide, by decide⟩, k19, ?_⟩
  revert M19 G19
  generalize ax_pr (ax_nw hh18 11 6) m 44 (some hh18.1) = hh19
  intro M19 G19
  replace G19 := ag_tr G18 G19
  clear M18 G18 k19
  obtain ⟨k20, M20, G20⟩ := mo_step M19 (show mo_tab[19]? = some (48, 11, 8) from rfl)
  refine ⟨by decide, ⟨by have := M19.2.1; omega, by decide, by decide, by decide⟩, k20, ?_⟩
  revert M20 G20
  generalize ax_pr (ax_nw hh19 11 8) m 48 (some hh19.1) = hh20
  intro M20 G20
  replace G20 := ag_tr G19 G20
  clear M19 G19 k20
  refine vX10_init_167 hA ?_
  obtain ⟨k21, M21, G21⟩ := mo_step M20 (show mo_tab[20]? = some (52, 11, 3) from rfl)
  refine ⟨by decide, ⟨by have := M20.2.1; omega, by decide, by decide, by decide⟩, k21, ?_⟩
  revert M21 G21
  generalize ax_pr (ax_nw hh20 11 3) m 52 (some hh20.1) = hh21
  intro M21 G21
  replace G21 := ag_tr G20 G21
  clear M20 G20 k21
  obtain ⟨k22, M22, G22⟩ := mo_step M21 (show mo_tab[21]? = some (53, 11, 3) from rfl)
  refine ⟨by decide, ⟨by have := M21.2.1; omega, by decide, by decide, by decide⟩, k22, ?_⟩
  revert M22 G22
  generalize ax_pr (ax_nw hh21 11 3) m 53 (some hh21.1) = hh22
  intro M22 G22
  replace G22 := ag_tr G21 G22
  clear M21 G21 k22
  obtain ⟨k23, M23, G23⟩ := mo_step M22 (show mo_tab[22]? = some (54, 11, 60) from rfl)
  refine ⟨by decide, ⟨by have := M22.2.1; omega, by decide, by decide, by decide⟩, k23, ?_⟩
  revert M23 G23
  generalize ax_pr (ax_nw hh22 11 60) m 54 (some hh22.1) = hh23
  intro M23 G23
  replace G23 := ag_tr G22 G23
  clear M22 G22 k23
  obtain ⟨k24, M24, G24⟩ := mo_step M23 (show mo_tab[23]? = some (55, 11, 6) from rfl)
  refine ⟨by decide, ⟨by have := M23.2.1; omega, by decide, by decide, by decide⟩, k24, ?_⟩
  revert M24 G24
  generalize ax_pr (ax_nw hh23 11 6) m 55 (some hh23.1) = hh24
  intro M24 G24
  replace G24 := ag_tr G23 G24
  clear M23 G23 k24
  obtain ⟨k25, M25, G25⟩ := mo_step M24 (show mo_tab[24]? = some (58, 13, 3) from rfl)
  refine ⟨by decide, ⟨by have := M24.2.1; omega, by decide, by decide, by decide⟩, k25, ?_⟩
  revert M25 G25
  generalize ax_pr (ax_nw hh24 13 3) m 58 (some hh24.1) = hh25
  intro M25 G25
  replace G25 := ag_tr G24 G25
  clear M24 G24 k25
  refine vX10_init_204 hA ?_
  have st : mo_st hh25 m := ⟨M25.1, fun j q hj => M25.2.2.1 j q (mo_lt hj).1 hj⟩
  obtain ⟨r4, s4⟩ := st.2 3 (4, 11, 4) rfl
  refine ⟨st.1, m + 4, r4, by rw [s4], by rw [s4]; exact vp_in_nI (n := 0) (N := 4) (by decide) (by decide), ⟨by decide, by decide⟩, hq _ (ag_tr G25 (ag_pi (by omega))) (by show hh25.1 = _; rw [M25.2.1]) (mo_st_same (sm_pi (F := fun a => a = m + 4) rfl) st) (fun j hj k => ?_)⟩
  rw [ai_pi]
  by_cases e : j = 3 ∧ k = 0
  · rw [if_pos e, if_pos (by omega)]
  · rw [if_neg e, if_neg (by omega)]; exact M25.2.2.2 j hj k
end
